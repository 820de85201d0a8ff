section
/-! laid by wip/hand/tg.py: the seeker, exactly -/
noncomputable def nbt (x : Int) : Nat → Int
  | 0 => 0
  | i + 1 => nbt x i + cIf (Bt x i) 1 0
theorem nbt_le {x : Int} : ∀ i : Nat, nbt x i ≤ i
  | 0 => Int.le_refl _
  | i + 1 => by
    have := nbt_le (x := x) i
    have := cIf.rg (c := Bt x i) (show (0 : Int) ≤ 1 ∧ (1 : Int) ≤ 1 by omega) (show (0 : Int) ≤ 0 ∧ (0 : Int) ≤ 1 by omega)
    unfold nbt
    omega
theorem nbt_mono {x y : Int} (h : ∀ j, Bt x j → Bt y j) : ∀ i : Nat, nbt x i ≤ nbt y i
  | 0 => Int.le_refl _
  | i + 1 => by
    have := nbt_mono h i
    unfold nbt
    by_cases q : Bt x i
    · rw [cIf.y q, cIf.y (h i q)]; omega
    · have := cIf.rg (c := Bt y i) (show (0 : Int) ≤ 1 ∧ (1 : Int) ≤ 1 by omega) (show (0 : Int) ≤ 0 ∧ (0 : Int) ≤ 1 by omega)
      rw [cIf.n q]; omega
theorem nbt_lt {x y : Int} (h : ∀ j, Bt x j → Bt y j) {k : Nat} (hx : ¬ Bt x k) (hy : Bt y k) : ∀ i : Nat, k < i → nbt x i + 1 ≤ nbt y i
  | 0, hk => by omega
  | i + 1, hk => by
    by_cases e : k = i
    · subst e
      have := nbt_mono h k
      unfold nbt
      rw [cIf.n hx, cIf.y hy]; omega
    · have := nbt_lt h hx hy i (by omega)
      unfold nbt
      by_cases q : Bt x i
      · rw [cIf.y q, cIf.y (h i q)]; omega
      · have := cIf.rg (c := Bt y i) (show (0 : Int) ≤ 1 ∧ (1 : Int) ≤ 1 by omega) (show (0 : Int) ≤ 0 ∧ (0 : Int) ≤ 1 by omega)
        rw [cIf.n q]; omega
def NbB (m : MM) (a j : Nat) : Prop := Bt (m 34 a) j ∨ Bt (m 26 (m 24 a).toNat) j
def LnkB (m : MM) (o j : Nat) : Prop := ∀ M : Nat → Prop, (∀ a b : Nat, (a : Int) < m 21 0 → M a → NbB m a b → M b) → M o → M j
theorem LnkB.nb {m : MM} {o a b : Nat} (h : LnkB m o a) (ha : (a : Int) < m 21 0) (n : NbB m a b) : LnkB m o b := fun M c g => c a b ha (h M c g) n
def GrI (m : MM) (o : Nat) (x2 x3 x4 : Int) : Prop := (InI x2 ∧ InI x3) ∧ Bt x2 o ∧ (∀ j, Bt x2 j → LnkB m o j) ∧ (∀ j, Bt x3 j → Bt x2 j) ∧ (∀ a b : Nat, (a : Int) < m 21 0 → Bt x3 a → NbB m a b → Bt x2 b) ∧ (x2 = x3 ∨ x4 + 1 ≤ nbt x2 8)
def GrJ (m : MM) (o : Nat) (x2 x3 x4 x5 : Int) : Prop := (InI x2 ∧ InI x3) ∧ Bt x2 o ∧ (∀ j, Bt x2 j → LnkB m o j) ∧ (∀ j, Bt x3 j → Bt x2 j) ∧ (∀ a b : Nat, (a : Int) < x5 → Bt x3 a → NbB m a b → Bt x2 b) ∧ x4 + 1 ≤ nbt x3 8
theorem GrI.ini {m : MM} {o : Int} {b : Int} (ho : 0 ≤ o ∧ o < 8) (e : b = ((fun (x y : Int32) => x <<< (y &&& 31)) (Int32.ofInt 1) (Int32.ofInt o)).toInt) (hb : InI b) : GrI m o.toNat b 0 0 := by
  have bb : ∀ j, Bt b j ↔ (j : Int) = o := fun j => Bt_bit (by omega) e
  have b0 : Bt b o.toNat := (bb _).mpr (by omega)
  refine ⟨⟨hb, by unfold InI; omega⟩, b0, fun j q => ?_, fun j q => absurd q Bt_0, fun a c _ q => absurd q Bt_0, Or.inr ?_⟩
  · rw [show j = o.toNat by have := (bb j).mp q; omega]
    exact fun M _ g => g
  · have := nbt_lt (x := 0) (fun j q => absurd q Bt_0) Bt_0 b0 8 (by omega)
    have z : ∀ i : Nat, nbt 0 i = 0 := fun i => by
      induction i with
      | zero => rfl
      | succ i ih => unfold nbt; rw [ih, cIf.n Bt_0]; rfl
    rw [z] at this
    omega
theorem GrI.in {m : MM} {o : Nat} {x2 x3 x4 : Int} (h : GrI m o x2 x3 x4) (q : ¬ x2 = x3) : GrJ m o x2 x2 x4 0 := ⟨⟨h.1.1, h.1.1⟩, h.2.1, h.2.2.1, fun j w => w, fun a b ha => absurd ha (by omega), h.2.2.2.2.2.resolve_left q⟩
theorem GrJ.skip {m : MM} {o : Nat} {x2 x3 x4 x5 x5' : Int} (h : GrJ m o x2 x3 x4 x5) (e : x5' = x5 + 1) (h0 : 0 ≤ x5) (q : ¬ Bt x2 x5.toNat) : GrJ m o x2 x3 x4 x5' := ⟨h.1, h.2.1, h.2.2.1, h.2.2.2.1, fun a b ha w n => by
  by_cases c : (a : Int) < x5
  · exact h.2.2.2.2.1 a b c w n
  · exact absurd (h.2.2.2.1 a w) (by rw [show a = x5.toNat by omega]; exact q), h.2.2.2.2.2⟩
theorem GrJ.more {m : MM} {o : Nat} {x2 x3 x4 x5 x5' t s b1 b2 : Int} (h : GrJ m o x2 x3 x4 x5) (e : x5' = x5 + 1) (h0 : 0 ≤ x5 ∧ x5 < m 21 0) (q : Bt x2 x5.toNat) (ht : t = m 34 x5.toNat) (hs : s = m 26 (m 24 x5.toNat).toNat) (e1 : b1 = ((fun (x y : Int32) => x ||| y) (Int32.ofInt t) (Int32.ofInt s)).toInt) (e2 : b2 = ((fun (x y : Int32) => x ||| y) (Int32.ofInt x2) (Int32.ofInt b1)).toInt) (hb : InI b2) : GrJ m o b2 x3 x4 x5' := by
  have bb : ∀ j, Bt b2 j ↔ Bt x2 j ∨ NbB m x5.toNat j := fun j => by
    rw [Bt_or e2, Bt_or e1, ht, hs]
    exact Iff.rfl
  refine ⟨⟨hb, h.1.2⟩, (bb o).mpr (Or.inl h.2.1), fun j w => ?_, fun j w => (bb j).mpr (Or.inl (h.2.2.2.1 j w)), fun a b ha w n => (bb b).mpr ?_, h.2.2.2.2.2⟩
  · rcases (bb j).mp w with w | w
    · exact h.2.2.1 j w
    · exact (h.2.2.1 _ q).nb (by omega) w
  · by_cases c : (a : Int) < x5
    · exact Or.inl (h.2.2.2.2.1 a b c w n)
    · exact Or.inr (by rw [show x5.toNat = a by omega]; exact n)
theorem GrJ.out {m : MM} {o : Nat} {x2 x3 x4 x4' x5 : Int} (h : GrJ m o x2 x3 x4 x5) (e : x4' = x4 + 1) (hn : m 21 0 ≤ x5) (hL : ∀ j, LnkB m o j → j < 8) : GrI m o x2 x3 x4' := by
  refine ⟨h.1, h.2.1, h.2.2.1, h.2.2.2.1, fun a b ha => h.2.2.2.2.1 a b (by omega), ?_⟩
  by_cases q : x2 = x3
  · exact Or.inl q
  · right
    have ex : ∃ k, Bt x2 k ∧ ¬ Bt x3 k := by
      by_cases w : ∃ k, Bt x2 k ∧ ¬ Bt x3 k
      · exact w
      · refine absurd (Bt_ext h.1.1 h.1.2 (fun i _ => ⟨fun g => ?_, h.2.2.2.1 i⟩)) q
        by_cases c : Bt x3 i
        · exact c
        · exact absurd ⟨i, g, c⟩ w
    obtain ⟨k, k1, k2⟩ := ex
    have := nbt_lt h.2.2.2.1 k2 k1 8 (hL k (h.2.2.1 k k1))
    have := h.2.2.2.2.2
    omega
theorem GrI.fin {m : MM} {o : Nat} {x2 x3 x4 : Int} (h : GrI m o x2 x3 x4) (q : 8 ≤ x4 ∨ x2 = x3) : ∀ j, Bt x2 j ↔ LnkB m o j := by
  have e : x2 = x3 := by
    rcases h.2.2.2.2.2 with w | w
    · exact w
    · have := nbt_le (x := x2) 8
      rcases q with q | q
      · omega
      · exact q
  exact fun j => ⟨h.2.2.1 j, fun g => g (fun a => Bt x2 a) (fun a b ha w n => h.2.2.2.2.1 a b ha (by rw [← e]; exact w) n) h.2.1⟩
theorem f_105e {S : Nat × (Nat → Int32)} {n : Nat} {mem : MM} {K : Int → MM → Prop} {E : Nat → MM → Prop} {d : Int} (hS : SkO mem d) {o : Int} (ho : 0 ≤ o ∧ o < mem 21 0) (hL : ∀ j, LnkB mem o.toNat j → j < 8) (H : ∀ r, (∀ j, Bt r j ↔ LnkB mem o.toNat j) → K r mem) : CQI (Ex S (n + 1)) 105 [.inr 21, .inl o] mem K E := by
  refine CY.of (k := 4) mt_105 rfl rfl (fun hv => ?_)
  have hC := Ex.mono S n
  have ii_o : InI o := hv (.inl o) (by simp)
  unfold InI at ii_o
  clear hv
  have hs0 := hS.1
  show Tx (Ex S n) S M_105 (kI K E) 0 0 0 [some (.inr 21), some (.inl o), none, none, none, none] [] mem
  have l_9 : ∀ (N : Nat) (x2 x3 x4 : Int), (0 ≤ x4) → (GrI mem o.toNat x2 x3 x4) → ((8 - x4).toNat) < N → Tx (Ex S n) S M_105 (kI K E) 0 0 9 [some (.inr 21), some (.inl o), some (.inl x2), some (.inl x3), some (.inl x4), none] [] mem := by
    intro N
    induction N with
    | zero => intros; omega
    | succ N ih_9 =>
      intro x2 x3 x4 i9_0 i9_1 hN_9 
      have l_26 : ∀ (N : Nat) (x2 x3 x5 : Int), (0 ≤ x5) → (0 ≤ x4 ∧ x4 < 8) → (GrJ mem o.toNat x2 x3 x4 x5) → ((8 - x5).toNat) < N → Tx (Ex S n) S M_105 (kI K E) 0 0 26 [some (.inr 21), some (.inl o), some (.inl x2), some (.inl x3), some (.inl x4), some (.inl x5)] [] mem := by
        intro N
        induction N with
        | zero => intros; omega
        | succ N ih_26 =>
          intro x2 x3 x5 i26_0 i26_1 i26_2 hN_26 
          refine Tx.iload hC te_105_26 rfl ?_
          refine Tx.aload_n hC te_105_28 rfl ?_
          refine Tx.getI hC te_105_29 rfl rfl rfl (fun v1 v1e v1i => ?_)
          unfold InI at v1i
          refine Tx.icmp hC (t := 73) te_105_32 (by decide) (fun q2 => ?_) (fun q2 => ?_)
          · replace q2 : v1 ≤ (x5 : Int) := q2
            refine Tx.iincW hC te_105_73 rfl rfl (fun z3 z3i z3e => ?_)
            unfold InI at z3i z3e
            first | replace z3e := z3e (by omega) | clear z3e
            refine Tx.goto hC (t := 9) te_105_76 (by decide) ?_
            exact Tx.weak (by repeat' (first | exact trivial | exact rfl | constructor)) (ih_9 x2 x3 z3 (by omega) (by first | exact GrJ.out i26_2 (by omega) (by omega) hL | exact GrI.ini (by omega) (by assumption) (by unfold InI; omega)) (by omega))
          · replace q2 : ¬ (v1 ≤ (x5 : Int)) := q2
            refine Tx.iload_n hC te_105_35 rfl ?_
            refine Tx.iconst hC te_105_36 rfl ?_
            refine Tx.iload hC te_105_37 rfl ?_
            refine Tx.bits hC (f := (fun (x y : Int32) => x <<< (y &&& 31))) te_105_39 (fun _ _ _ _ => Iff.rfl) (fun b4 b4e b4i => ?_)
            unfold InI at b4i
            refine Tx.bits hC (f := (fun (x y : Int32) => x &&& y)) te_105_40 (fun _ _ _ _ => Iff.rfl) (fun b5 b5e b5i => ?_)
            unfold InI at b5i
            have t41 := Bt_tst (t := x2) (o := x5) (by omega) (by assumption) b5e
            refine Tx.ifc hC (t := 67) te_105_41 (by decide) (fun q6 => ?_) (fun q6 => ?_)
            · replace q6 : (b5 : Int) = 0 := q6
              refine Tx.iincW hC te_105_67 rfl rfl (fun z7 z7i z7e => ?_)
              unfold InI at z7i z7e
              first | replace z7e := z7e (by omega) | clear z7e
              refine Tx.goto hC (t := 26) te_105_70 (by decide) ?_
              exact ih_26 x2 x3 z7 (by omega) (by omega) (by first | exact GrI.in i9_1 (by assumption) | exact GrJ.skip i26_2 (by omega) (by omega) (fun z => (t41.mpr z) (by assumption)) | exact GrJ.more i26_2 (by omega) (by omega) (t41.mp (by assumption)) n34 n26 (by assumption) x2e (by unfold InI; omega)) (by omega)
            · replace q6 : ¬ ((b5 : Int) = 0) := q6
              refine Tx.iload_n hC te_105_44 rfl ?_
              refine Tx.aload_n hC te_105_45 rfl ?_
              refine Tx.getR hC te_105_46 rfl rfl rfl ?_
              refine Tx.iload hC te_105_49 rfl ?_
              refine Tx.iald hC te_105_51 rfl (by omega) (fun v8 v8e v8i => ?_)
              unfold InI at v8i
              refine Tx.aload_n hC te_105_52 rfl ?_
              refine Tx.getR hC te_105_53 rfl rfl rfl ?_
              refine Tx.aload_n hC te_105_56 rfl ?_
              refine Tx.getR hC te_105_57 rfl rfl rfl ?_
              refine Tx.iload hC te_105_60 rfl ?_
              refine Tx.iald hC te_105_62 rfl (by omega) (fun v9 v9e v9i => ?_)
              unfold InI at v9i
              have f10 := hS.2.2.1 (Int.toNat x5) (by omega)
              refine Tx.iald hC te_105_63 rfl (by omega) (fun v11 v11e v11i => ?_)
              unfold InI at v11i
              have n26 := v11e
              rw [v9e] at n26
              have n34 := v8e
              refine Tx.bits hC (f := (fun (x y : Int32) => x ||| y)) te_105_64 (fun _ _ _ _ => Iff.rfl) (fun b12 b12e b12i => ?_)
              unfold InI at b12i
              refine Tx.bits hC (f := (fun (x y : Int32) => x ||| y)) te_105_65 (fun _ _ _ _ => Iff.rfl) (fun b13 b13e b13i => ?_)
              unfold InI at b13i
              refine Tx.istore_n hC te_105_66 rfl ?_
              refine Tx.iincW hC te_105_67 rfl rfl (fun z14 z14i z14e => ?_)
              unfold InI at z14i z14e
              first | replace z14e := z14e (by omega) | clear z14e
              refine Tx.goto hC (t := 26) te_105_70 (by decide) ?_
              exact ih_26 b13 x3 z14 (by omega) (by omega) (by first | exact GrI.in i9_1 (by assumption) | exact GrJ.skip i26_2 (by omega) (by omega) (fun z => (t41.mpr z) (by assumption)) | exact GrJ.more i26_2 (by omega) (by omega) (t41.mp (by assumption)) n34 n26 (by assumption) b13e (by unfold InI; omega)) (by omega)
      refine Tx.iload hC te_105_9 rfl ?_
      refine Tx.bipush hC te_105_11 rfl rfl ?_
      refine Tx.icmp hC (t := 79) te_105_13 (by decide) (fun q15 => ?_) (fun q15 => ?_)
      · replace q15 : 8 ≤ (x4 : Int) := q15
        refine Tx.iload_n hC te_105_79 rfl ?_
        exact Tx.ireturn hC te_105_80 rfl (fun hr => show K x2 mem from H _ (GrI.fin i9_1 (by first | exact Or.inl (by omega) | exact Or.inr (by omega))))
      · replace q15 : ¬ (8 ≤ (x4 : Int)) := q15
        refine Tx.iload_n hC te_105_16 rfl ?_
        refine Tx.iload_n hC te_105_17 rfl ?_
        refine Tx.icmp hC (t := 79) te_105_18 (by decide) (fun q16 => ?_) (fun q16 => ?_)
        · replace q16 : (x2 : Int) = x3 := q16
          refine Tx.iload_n hC te_105_79 rfl ?_
          exact Tx.ireturn hC te_105_80 rfl (fun hr => show K x2 mem from H _ (GrI.fin i9_1 (by first | exact Or.inl (by omega) | exact Or.inr (by omega))))
        · replace q16 : ¬ ((x2 : Int) = x3) := q16
          refine Tx.iload_n hC te_105_21 rfl ?_
          refine Tx.istore_n hC te_105_22 rfl ?_
          refine Tx.iconst hC te_105_23 rfl ?_
          refine Tx.istore hC te_105_24 rfl ?_
          exact l_26 _ x2 x2 0 (by omega) (by omega) (by first | exact GrI.in i9_1 (by assumption) | exact GrJ.skip i26_2 (by omega) (by omega) (fun z => (t41.mpr z) (by assumption)) | exact GrJ.more i26_2 (by omega) (by omega) (t41.mp (by assumption)) n34 n26 (by assumption) x2e (by unfold InI; omega)) (Nat.lt_succ_self _)
  refine Tx.iconst hC te_105_0 rfl ?_
  refine Tx.iload_n hC te_105_1 rfl ?_
  refine Tx.bits hC (f := (fun (x y : Int32) => x <<< (y &&& 31))) te_105_2 (fun _ _ _ _ => Iff.rfl) (fun b17 b17e b17i => ?_)
  unfold InI at b17i
  refine Tx.istore_n hC te_105_3 rfl ?_
  refine Tx.iconst hC te_105_4 rfl ?_
  refine Tx.istore_n hC te_105_5 rfl ?_
  refine Tx.iconst hC te_105_6 rfl ?_
  refine Tx.istore hC te_105_7 rfl ?_
  exact l_9 _ b17 0 0 (by omega) (by first | exact GrJ.out i26_2 (by omega) (by omega) hL | exact GrI.ini (by omega) (by assumption) (by unfold InI; omega)) (Nat.lt_succ_self _)
end
section
/-! the seeker's state, told by a problem -/
def StS (p : Prb) (m : MM) : Prop := SkO m p.d ∧ m 21 0 = (p.n : Int) ∧ (∀ i : Nat, Bt (m 21 2) i ↔ (i : Int) < p.d) ∧ (∀ o, o < p.n → m 24 o = p.un o ∧ ∀ r : Nat, r < 4 → m 27 (4 * o + r) = ask p.d (p.bu o) r) ∧ (∀ u, u < 3 → m 25 u = p.ct u) ∧ (∀ o, o < p.n → ∀ j : Nat, Bt (m 34 o) j ↔ j < p.n ∧ tie p.E o j) ∧ (∀ o, o < p.n → ∀ j : Nat, Bt (m 35 o) j ↔ j < p.n ∧ ¬ j = o ∧ TwB m o j) ∧ ∀ o, o < p.n → (∃ j, tie p.E o j) → -100000 ≤ TM m o o ∧ TM m o o ≤ 0
def StD (p : Prb) (W : Nat → Nat → Int) (P : Nat → Prop) (m : MM) : Prop := (∀ i : Nat, Bt (m 21 4) i ↔ P i) ∧ (∀ u, u < 3 → PlnX (m 28) p.d u (fun x => usM P p.un p.bu p.d (m 22) (u : Int) (x : Int) p.n)) ∧ AbS p W P (m 22) (TM m)
section STS
variable {p : Prb} {W : Nat → Nat → Int} {nn : Int} {P G : Nat → Prop} {m mem m' : MM} {o : Nat} {s x : Int}
theorem StS.n8 (h : StS p m) : p.n ≤ 8 := by
  have a := h.1.1
  have b := h.2.1
  omega
theorem StS.un (h : StS p m) (ho : o < p.n) : 0 ≤ p.un o ∧ p.un o ≤ 2 := by
  have a := h.1.2.2.1 o (by have := h.n8; omega)
  rw [(h.2.2.2.1 o ho).1] at a
  exact a
theorem StS.ct (h : StS p m) {u : Nat} (hu : u < 3) : 1 ≤ p.ct u ∧ p.ct u ≤ 3 := by
  have a := h.1.2.2.2.1 u hu
  rw [h.2.2.2.2.1 u hu] at a
  exact a
theorem StS.ak (h : StS p m) (ho : o < p.n) {r : Nat} (hr : r < 4) : 0 ≤ ask p.d (p.bu o) r ∧ ask p.d (p.bu o) r ≤ p.ct (p.un o).toNat := by
  have b := h.2.1
  have a := h.1.2.2.2.2 o r (by omega) hr
  have u := h.un ho
  rw [(h.2.2.2.1 o ho).2 r hr, (h.2.2.2.1 o ho).1, h.2.2.2.2.1 _ (by omega)] at a
  exact a
theorem StS.skm (hS : StS p m) (hD : StD p W P m) : SkM m p.d := by
  have hn := hS.2.1
  have n8 := hS.n8
  have hd := hS.1.2.1.2
  refine ⟨hS.1, hS.2.2.1, fun a r ha hr q => ?_, fun u k i hu h1 h2 q => ((hD.2.1 u hu k i h1 (by omega)).mp q).1, fun a _ q => (hD.2.2.1 a ((hD.1 a).mp q)).2, fun a b ha hb q => ?_⟩
  · rw [(hS.2.2.2.1 a (by omega)).2 r hr] at q
    by_cases w : (r : Int) < p.d
    · exact w
    · rw [ask_out (by omega) (Or.inl (by omega))] at q
      omega
  · have t := ((hS.2.2.2.2.2.1 a (by omega) b).mp q).2
    have r1 := hD.2.2.2.2.1.2.2.2.2 a b t
    have r2 := hD.2.2.2.2.1.2.2.2.2 b a t.sy
    unfold TM at r1 r2
    omega
theorem StS.fit (hS : StS p m) (hD : StD p W P m) (ho : o < p.n) (hx : 0 ≤ x ∧ x < p.d) : (∀ r : Nat, (r : Int) < 4 → QUn m p.d o r x.toNat) ↔ FitU p P (m 22) o x := by
  have hd := hS.1.2.1.2
  have hu := hS.un ho
  have hc := hS.ct (u := (p.un o).toNat) (by omega)
  have eu : ((p.un o).toNat : Int) = p.un o := by omega
  have ex : ((x.toNat : Nat) : Int) = x := by omega
  have one : ∀ r : Nat, r < 4 → (QUn m p.d o r x.toNat ↔ (0 < ask p.d (p.bu o) r → usM P p.un p.bu p.d (m 22) (p.un o) ((x + (r : Int)) % p.d) p.n + ask p.d (p.bu o) r ≤ p.ct (p.un o).toNat)) := by
    intro r hr
    have ak := hS.ak ho hr
    have z1 := Int.emod_nonneg (x + (r : Int)) (show p.d ≠ 0 by omega)
    have z2 := Int.emod_lt_of_pos (x + (r : Int)) (show 0 < p.d by omega)
    unfold QUn
    rw [(hS.2.2.2.1 o ho).2 r hr, (hS.2.2.2.1 o ho).1, hS.2.2.2.2.1 _ (by omega), ex]
    have pl : 0 < ask p.d (p.bu o) r → (Bt (m 28 (4 * (p.un o).toNat + (p.ct (p.un o).toNat - ask p.d (p.bu o) r + 1).toNat)) ((x + (r : Int)) % p.d).toNat ↔ ((((x + (r : Int)) % p.d).toNat : Nat) : Int) < p.d ∧ (((p.ct (p.un o).toNat - ask p.d (p.bu o) r + 1).toNat : Nat) : Int) ≤ usM P p.un p.bu p.d (m 22) (((p.un o).toNat : Nat) : Int) ((((x + (r : Int)) % p.d).toNat : Nat) : Int) p.n) := fun q => hD.2.1 (p.un o).toNat (by omega) _ _ (by omega) (by omega)
    rw [eu, show ((((x + (r : Int)) % p.d).toNat : Nat) : Int) = (x + (r : Int)) % p.d by omega] at pl
    constructor
    · intro h q
      have g := h q
      rw [pl q] at g
      omega
    · intro h q
      have g := h q
      rw [pl q]
      omega
  constructor
  · intro h k k1 k2
    rw [us1_spr (by omega)]
    by_cases q : ∃ r : Nat, r < 4 ∧ 0 < ask p.d (p.bu o) r ∧ (x + (r : Int)) % p.d = k
    · obtain ⟨r, r1, r2, r3⟩ := q
      have rd : (r : Int) < p.d := by
        by_cases w : (r : Int) < p.d
        · exact w
        · rw [ask_out (by omega) (Or.inl (by omega))] at r2
          omega
      have g := (one r r1).mp (h r (by omega)) r2
      rw [← r3, spr_at (by omega) ⟨by omega, by omega, rd⟩]
      exact g
    · rw [spr_off (by omega) (fun r a b c e => q ⟨r.toNat, by omega, by rw [show ((r.toNat : Nat) : Int) = r by omega]; exact c, by rw [show ((r.toNat : Nat) : Int) = r by omega]; exact e⟩), Int.add_zero]
      exact hD.2.2.2.1 (p.un o) k (by omega) (by omega) k1 k2
  · intro h r hr
    refine (one r (by omega)).mpr (fun q => ?_)
    have rd : (r : Int) < p.d := by
      by_cases w : (r : Int) < p.d
      · exact w
      · rw [ask_out (by omega) (Or.inl (by omega))] at q
        omega
    have g := h ((x + (r : Int)) % p.d) (Int.emod_nonneg _ (by omega)) (Int.emod_lt_of_pos _ (by omega))
    rw [us1_spr (by omega), spr_at (by omega) ⟨by omega, by omega, rd⟩] at g
    exact g
theorem StS.tw (hP : PrW p) (hS : StS p m) {a b : Nat} (ha : a < p.n) (hb : b < p.n) (h : TwB m a b) : Twn p a b := by
  have hd := hS.1.2.1.2
  obtain ⟨h1, h2, h3, h4⟩ := h
  rw [(hS.2.2.2.1 a ha).1, (hS.2.2.2.1 b hb).1] at h3
  have e : ∀ r : Int, 0 ≤ r → r < 4 → ask p.d (p.bu a) r = ask p.d (p.bu b) r := fun r r0 r4 => by
    have g := h4 r.toNat (by omega)
    rw [(hS.2.2.2.1 a ha).2 _ (by omega), (hS.2.2.2.1 b hb).2 _ (by omega), show ((r.toNat : Nat) : Int) = r by omega] at g
    exact g
  refine ⟨h3, fun y k => ?_, fun j t => ?_, fun j t => ?_⟩
  · rw [us1_spr (by omega), us1_spr (by omega)]
    unfold spr
    rw [e 0 (by omega) (by omega), e 1 (by omega) (by omega), e 2 (by omega) (by omega), e 3 (by omega) (by omega)]
  · have g := (hS.2.2.2.2.2.1 a ha j).mpr ⟨(t.v hP).2, t⟩
    rw [h1] at g
    exact Bt_0 g
  · have g := (hS.2.2.2.2.2.1 b hb j).mpr ⟨(t.v hP).2, t⟩
    rw [h2] at g
    exact Bt_0 g
end STS
end
section
/-! one op more, one op fewer -/
section PUT
variable {p : Prb} {W : Nat → Nat → Int} {nn : Int} {P G : Nat → Prop} {m mem m' : MM} {o : Nat} {s x : Int} {I O : Nat → Int}
theorem StS.ti (hS : StS p m) (ho : o < p.n) {i : Nat} : TiM m o i ↔ i < p.n ∧ tie p.E o i := hS.2.2.2.2.2.1 o ho i
theorem StS.hd (hS : StS p m) (hD : StD p W P m) (ho : o < p.n) {i : Nat} : HdP m o i ↔ (i < p.n ∧ tie p.E o i) ∧ P i := by
  unfold HdP
  rw [hS.2.2.2.2.2.1 o ho i, hD.1 i]
  constructor
  · rintro ⟨h1, h2⟩
    exact ⟨h1, h2.resolve_right (fun e => h1.2.1 e.symm)⟩
  · exact fun ⟨h1, h2⟩ => ⟨h1, Or.inl h2⟩
def PhX (p : Prb) (W : Nat → Nat → Int) (P : Nat → Prop) (m : MM) (o : Nat) (s : Int) (τ : Nat → Int) : Prop := PSol p.E W p.d (m 22) P o τ ∧ ∃ q, τ o = s + p.d * q
theorem StS.alc (hS : StS p m) (hD : StD p W P m) (ho : o < p.n) (hm : many p.E o) : AlC (TiM m o) (HdP m o) (TM m) (plusS (m 22) o s) p.d s o (PhX p W P m o s) := by
  have hd := hS.1.2.1.2
  obtain ⟨t1, t2, t3, t4, t5⟩ := hD.2.2.2.2.1
  have ti : ∀ i, TiM m o i → tie p.E o i := fun i h => ((hS.ti ho).mp h).2
  have hh : ∀ i, HdP m o i → tie p.E o i ∧ P i := fun i h => ⟨((hS.hd hD ho).mp h).1.2, ((hS.hd hD ho).mp h).2⟩
  have ij : ∀ i j, tie p.E o i → tie p.E o j → ¬ i = j → tie p.E i j := fun i j a b e => (scc.of a b).ti e
  have ps : ∀ i, tie p.E o i → plusS (m 22) o s i = m 22 i := fun i t => if_neg (fun e => t.1 e.symm)
  refine ⟨by omega, fun i h => h.1, fun i h => ?_, fun i j h1 h2 e => ?_, fun i j h1 h2 e => ?_, fun i h => ?_, fun τ hτ => ?_⟩
  · have a := t5 i o (ti i h).sy
    have b := t5 o i (ti i h)
    omega
  · have t := ij i j (ti i h1) (hh j h2).1 e
    have a := t5 i j t
    have b := t5 j i t.sy
    omega
  · obtain ⟨a1, a2⟩ := hh i h1
    obtain ⟨b1, b2⟩ := hh j h2
    obtain ⟨g1, g2, g3⟩ := t4 i j a2 b2 (ij i j a1 b1 e) (hm.sc a1)
    rw [ps i a1, ps j b1]
    exact ⟨g1, g2, fun c hc e1 e2 => g3 c (hh c hc).2 (ij i c a1 (hh c hc).1 e1) (ij c j (hh c hc).1 b1 e2)⟩
  · have w := (hS.hd hD ho).mp h
    exact (hS.2.2.2.2.2.2.2 i w.1.1 ⟨o, w.1.2.sy⟩).2
  · obtain ⟨⟨f1, f2⟩, f3⟩ := hτ
    have snd := t1 o τ ⟨f1, f2⟩
    refine ⟨fun i h => ⟨snd i o (Or.inr (ti i h)) scc.rf (fun e => (ti i h).1 e.symm), snd o i scc.rf (Or.inr (ti i h)) (ti i h).1⟩, fun i j h1 h2 e => ⟨snd i j (Or.inr (ti i h1)) (Or.inr (hh j h2).1) e, snd j i (Or.inr (hh j h2).1) (Or.inr (ti i h1)) (fun z => e z.symm)⟩, fun i h => ?_, f3⟩
    rw [ps i (hh i h).1]
    exact f2 i (hh i h).2 (Or.inr (hh i h).1)
theorem StS.aln (hP : PrW p) (hS : StS p m) (hD : StD p W P m) (ho : o < p.n) (hm : many p.E o) (hI : AlI (TiM m o) (HdP m o) (TM m) (plusS (m 22) o s) p.d s o (PhX p W P m o s) I O) (hE : ∀ i : Nat, TiM m o i → AlD (HdP m o) (TM m) (plusS (m 22) o s) p.d s o I O i (m 21 0) ∧ I i + O i ≤ 0) : AlnX p.E W p.d (m 22) P (TM m) o s I O := by
  have hA := hS.alc (s := s) hD ho hm
  have hn := hS.2.1
  have ps : ∀ i, tie p.E o i → plusS (m 22) o s i = m 22 i := fun i t => if_neg (fun e => t.1 e.symm)
  have ti : ∀ i, tie p.E o i → TiM m o i := fun i t => (hS.ti ho).mpr ⟨(t.v hP).2, t⟩
  have hh : ∀ i, tie p.E o i → P i → HdP m o i := fun i t q => (hS.hd hD ho).mpr ⟨⟨(t.v hP).2, t⟩, q⟩
  have hl : ∀ i, HdP m o i → (i : Int) < m 21 0 := fun i h => by
    have := ((hS.hd hD ho).mp h).1.1
    omega
  refine ⟨fun i t => ?_, fun i t q => ?_, fun i j t1 t2 q1 q2 e => hI.cl hA hl (fun i h => (hE i h).1) (hh i t1 q1) (hh j t2 q2) e, fun τ h1 h2 i t => (hI i (ti i t)).2.2.2 τ ⟨h1, h2⟩⟩
  · have a := (hI i (ti i t)).1
    have b := eIn_rg hA (ti i t)
    have c := (hE i (ti i t)).2
    omega
  · have a := ((hI i (ti i t)).2.2.1 (hh i t q)).2.2
    rw [ps i t] at a
    exact a
theorem StS.tgt (hP : PrW p) (hS : StS p m) (ho : o < p.n) {T' : Nat → Nat → Int} (h : TgP (TiM m o) (TM m) I O o (m 21 0) (m 21 0) 0 T') : TgtX p.E (TM m) o I O T' := by
  have hn := hS.2.1
  have n8 := hS.n8
  have ti : ∀ i, tie p.E o i → TiM m o i := fun i t => (hS.ti ho).mpr ⟨(t.v hP).2, t⟩
  have it : ∀ i, TiM m o i → tie p.E o i := fun i t => ((hS.ti ho).mp t).2
  refine ⟨fun i t => h.1 i (ti i t) (by have := (t.v hP).2; omega), fun i j t1 t2 e => h.2.1 i j (ti i t1) (ti j t2) e (Or.inl (by have := (t1.v hP).2; omega)), fun i j t n1 n2 => h.2.2 i j (by have := (t.v hP).1; omega) (by have := (t.v hP).2; omega) (fun z => n1 (it i z.1)) (fun z => n2 z.1.symm) (fun z => n1 (it i z.1))⟩
theorem TwB.cg {a b : Nat} (e : ∀ A i, A = 24 ∨ A = 27 ∨ A = 34 → m' A i = m A i) : TwB m' a b ↔ TwB m a b := by
  have e27 : ∀ i, m' 27 i = m 27 i := fun i => e 27 i (by omega)
  unfold TwB
  rw [e 34 a (by omega), e 34 b (by omega), e 24 a (by omega), e 24 b (by omega)]
  simp only [e27]
theorem StS.cg (hS : StS p m) (e : ∀ A i, (A = 21 ∧ i < 3) ∨ (24 ≤ A ∧ A ≤ 27 ∧ ¬ A = 26) ∨ A = 34 ∨ A = 35 → m' A i = m A i) (ed : ∀ o, o < p.n → TM m' o o = TM m o o) : StS p m' := by
  obtain ⟨h1, h2, h3, h4, h5, h6, h7, h8⟩ := hS
  refine ⟨h1.cg (fun A i q => e A i (by omega)), by rw [e 21 0 (by omega)]; exact h2, fun i => by rw [e 21 2 (by omega)]; exact h3 i, fun o ho => ⟨by rw [e 24 o (by omega)]; exact (h4 o ho).1, fun r hr => by rw [e 27 _ (by omega)]; exact (h4 o ho).2 r hr⟩, fun u hu => by rw [e 25 u (by omega)]; exact h5 u hu, fun o ho j => by rw [e 34 o (by omega)]; exact h6 o ho j, fun o ho j => ?_, fun o ho t => by rw [ed o ho]; exact h8 o ho t⟩
  rw [e 35 o (by omega), TwB.cg (fun A i q => e A i (by omega))]
  exact h7 o ho j
theorem spr_ask {d x k : Int} {A : Nat → Int} {bu : Int} (h : ∀ r : Nat, r < 4 → A r = ask d bu r) : spr d x k (fun r => A r.toNat) = spr d x k (ask d bu) := by
  unfold spr
  show (if x % d = k then A 0 else 0) + (if (x + 1) % d = k then A 1 else 0) + (if (x + 2) % d = k then A 2 else 0) + (if (x + 3) % d = k then A 3 else 0) = _
  rw [h 0 (by omega), h 1 (by omega), h 2 (by omega), h 3 (by omega)]
  rfl
theorem StD.pl (hS : StS p mem) (hD : StD p W P mem) (ho : o < p.n) (hop : ¬ P o) (hI : PlI mem m p.d (mem 24 o).toNat s (fun r => mem 27 (4 * o + r)) 4 0) (e22 : m' 22 = plusS (mem 22) o s) (e28 : ∀ i, m' 28 i = m 28 i) : ∀ u, u < 3 → PlnX (m' 28) p.d u (fun x => usM (plusP P o) p.un p.bu p.d (m' 22) (u : Int) (x : Int) p.n) := by
  have hd := hS.1.2.1.2
  have hu := hS.un ho
  have e24 := (hS.2.2.2.1 o ho).1
  intro u hu3
  by_cases q : p.un o = (u : Int)
  · have eu : (mem 24 o).toNat = u := by omega
    rw [eu] at hI
    have g := hI.2 (fun x => usM P p.un p.bu p.d (mem 22) (u : Int) (x : Int) p.n) (fun x => usM_ge p.n) (hD.2.1 u hu3)
    intro k x h1 h2
    have g2 : Bt (m 28 (4 * u + k)) x ↔ (x : Int) < p.d ∧ (k : Int) ≤ usM P p.un p.bu p.d (mem 22) (u : Int) (x : Int) p.n + prtS p.d s (fun r => mem 27 (4 * o + r)) x 4 + (if (s + ((4 : Nat) : Int)) % p.d = (x : Int) then (0 : Int) else 0) := g k x h1 h2
    rw [prtS4, spr_ask (fun r hr => (hS.2.2.2.1 o ho).2 r hr), ← us1_spr (by omega)] at g2
    show Bt (m' 28 (4 * u + k)) x ↔ (x : Int) < p.d ∧ (k : Int) ≤ usM (plusP P o) p.un p.bu p.d (m' 22) (u : Int) (x : Int) p.n
    rw [e28, g2, e22, usM_plus hop, cIf.y ⟨ho, q⟩]
    split <;> omega
  · intro k x h1 h2
    show Bt (m' 28 (4 * u + k)) x ↔ (x : Int) < p.d ∧ (k : Int) ≤ usM (plusP P o) p.un p.bu p.d (m' 22) (u : Int) (x : Int) p.n
    rw [e28, hI.1 _ (by omega), e22, usM_plus hop, cIf.n (fun z => q z.2), Int.add_zero]
    exact hD.2.1 u hu3 k x h1 h2
end PUT
end
section
/-! place and lift, told by a problem -/
section PLC
variable {p : Prb} {W : Nat → Nat → Int} {nn : Int} {P G : Nat → Prop} {m mem m' m2 : MM} {o : Nat} {s x : Int} {I O : Nat → Int}
theorem StS.mn (hP : PrW p) (hS : StS p m) (ho : o < p.n) : MnB m o ↔ many p.E o := by
  have n8 := hS.n8
  constructor
  · rintro ⟨i, hi, j, hj, e, b1, b2⟩
    exact ⟨i, j, e, ((hS.ti ho).mp b1).2, ((hS.ti ho).mp b2).2⟩
  · rintro ⟨b, c, e, t1, t2⟩
    have v1 := (t1.v hP).2
    have v2 := (t2.v hP).2
    exact ⟨b, by omega, c, by omega, e, (hS.ti ho).mpr ⟨v1, t1⟩, (hS.ti ho).mpr ⟨v2, t2⟩⟩
theorem PlcK.cells {d : Int} (h : PlcK mem m' d o s) : m' 22 = plusS (mem 22) o s ∧ (∀ j : Nat, Bt (m' 21 4) j ↔ Bt (mem 21 4) j ∨ j = o) ∧ (∀ A i, ¬ (A = 21 ∧ i = 4) → ¬ A = 22 → ¬ A = 28 → ¬ A = 29 → ¬ (30 ≤ A ∧ A ≤ 33) → m' A i = mem A i) := by
  obtain ⟨m1, hB, hI, e, k1, k2⟩ := h
  refine ⟨funext fun i => ?_, fun j => by rw [e 21 4 (by omega)]; exact hB.2.2.1 j, fun A i a b c d f => (e A i (by omega)).trans (hB.1 A i a (fun z => b z.1) c d)⟩
  rw [e 22 i (by omega)]
  by_cases q : i = o
  · subst q; rw [hB.2.1]; exact (if_pos rfl).symm
  · rw [hB.1 22 i (by omega) (fun z => q z.2) (by omega) (by omega)]; exact (if_neg q).symm
theorem StD.bits (hD : StD p W P mem) (h : ∀ j : Nat, Bt (m' 21 4) j ↔ Bt (mem 21 4) j ∨ j = o) : ∀ i : Nat, Bt (m' 21 4) i ↔ plusP P o i := fun i => by
  rw [h i, hD.1 i]
  exact Iff.rfl
theorem StS.putF (hP : PrW p) (hS : StS p mem) (hD : StD p W P mem) (ho : o < p.n) (hop : ¬ P o) (hs : 0 ≤ s ∧ s < p.d) (hF : FitU p P (mem 22) o s) (hm : ¬ many p.E o) (hw : ∀ r, P r → tie p.E o r → Win p.d (mem 22 r + TM mem r o) (mem 22 r - TM mem o r) s) (hK : PlcK mem m' p.d o s) : StS p m' ∧ StD p W (plusP P o) m' := by
  obtain ⟨c1, c2, c3⟩ := hK.cells
  have nm : ¬ MnB mem o := fun z => hm ((hS.mn hP ho).mp z)
  obtain ⟨m1, hB, hI, e, k1, k2⟩ := hK
  have eT : TM m' = TM mem := funext fun i => funext fun j => (k2 nm _).2
  refine ⟨hS.cg (fun A i q => c3 A i (by omega) (by omega) (by omega) (by omega) (by omega)) (fun o _ => by rw [eT]), hD.bits c2, hD.pl hS ho hop hI c1 (fun i => e 28 i (by omega)), ?_⟩
  rw [c1, eT]
  refine hD.2.2.putf hop ho hs hF hm (fun r pr t => ?_)
  have t3 := hD.2.2.2.2.1.2.2.1
  have g := hw r pr t
  rw [t3 o r t hm, t3 r o t.sy (fun z => hm (z.sc t.sy))] at g
  exact g
theorem StS.putM (hP : PrW p) (hW : ∀ b c, tie p.E b c → -801 ≤ W b c) (hS : StS p mem) (hD : StD p W P mem) (ho : o < p.n) (hop : ¬ P o) (hs : 0 ≤ s ∧ s < p.d) (hF : FitU p P (mem 22) o s) (hm : many p.E o) (hK : PlcK mem m' p.d o s) (hT : PlcT mem m' p.d o s (PhX p W P mem o s)) : StS p m' ∧ StD p W (plusP P o) m' := by
  obtain ⟨c1, c2, c3⟩ := hK.cells
  obtain ⟨m1, hB, hI, e, k1, k2⟩ := hK
  obtain ⟨I, O, aI, aD, aT⟩ := hT
  have hA := hS.aln hP hD ho hm aI aD
  have hG := hS.tgt hP ho aT
  have no : ¬ TiM mem o o := fun z => ((hS.ti ho).mp z).2.1 rfl
  refine ⟨hS.cg (fun A i q => c3 A i (by omega) (by omega) (by omega) (by omega) (by omega)) (fun a ha => ?_), hD.bits c2, hD.pl hS ho hop hI c1 (fun i => e 28 i (by omega)), ?_⟩
  · have n8 := hS.n8
    exact aT.2.2 a a (by omega) (by omega) (fun z => no (z.2.1 ▸ z.1)) (fun z => no (z.1 ▸ z.2.1)) (fun z => z.2.2.1 rfl)
  · rw [c1]
    exact hD.2.2.putm hW hop ho hs hF hm hA hG
def BkX (P : Nat → Prop) (m m' : MM) : Prop := (∀ A i, ¬ (A = 21 ∧ i = 4) → ¬ A = 22 → ¬ A = 23 → ¬ A = 29 → ¬ (31 ≤ A ∧ A ≤ 33) → ¬ A = 36 → (A = 30 → i < 64) → m' A i = m A i) ∧ (∀ j : Nat, Bt (m' 21 4) j ↔ Bt (m 21 4) j) ∧ (∀ o, P o → m' 22 o = m 22 o) ∧ (∀ o k : Nat, P o → k < 4 → m' 29 (4 * o + k) = m 29 (4 * o + k)) ∧ (∀ o k : Nat, P o → k < 64 → m' 31 (64 * o + k) = m 31 (64 * o + k)) ∧ ∀ a, m' 22 a = m 22 a ∨ (0 ≤ m' 22 a ∧ m' 22 a ≤ 11)
theorem BkX.rf : BkX P m m := ⟨fun _ _ _ _ _ _ _ _ _ => rfl, fun _ => Iff.rfl, fun _ _ => rfl, fun _ _ _ _ => rfl, fun _ _ _ _ => rfl, fun _ => Or.inl rfl⟩
theorem BkX.tr (h : BkX P m m') (g : BkX P m' m2) : BkX P m m2 := ⟨fun A i a b c d e f w => (g.1 A i a b c d e f w).trans (h.1 A i a b c d e f w), fun j => (g.2.1 j).trans (h.2.1 j), fun o q => (g.2.2.1 o q).trans (h.2.2.1 o q), fun o k q r => (g.2.2.2.1 o k q r).trans (h.2.2.2.1 o k q r), fun o k q r => (g.2.2.2.2.1 o k q r).trans (h.2.2.2.2.1 o k q r), fun a => by
  have g1 := h.2.2.2.2.2 a
  have g2 := g.2.2.2.2.2 a
  omega⟩
theorem BkX.sts (h : BkX P m m') (hS : StS p m) : StS p m' := hS.cg (fun A i q => h.1 A i (by omega) (by omega) (by omega) (by omega) (by omega) (by omega) (by omega)) (fun o ho => h.1 30 _ (by omega) (by omega) (by omega) (by omega) (by omega) (by omega) (by have := hS.n8; omega))
theorem usM_cgP {un bu : Nat → Int} {d : Int} {s s' : Nat → Int} {u k : Int} (h : ∀ o, P o → s o = s' o) (n : Nat) : usM P un bu d s u k n = usM P un bu d s' u k n := usM_cg n (fun o _ _ => ⟨Iff.rfl, h o⟩)
theorem TiX.cgS {E : Nat → Nat → Int → Prop} {d : Int} {s s' : Nat → Int} {T : Nat → Nat → Int} (h : TiX E W d s P T) (e : ∀ o, P o → s' o = s o) : TiX E W d s' P T := by
  obtain ⟨t1, t2, t3, t4, t5⟩ := h
  refine ⟨fun a τ hτ => t1 a τ ⟨hτ.1, fun b pb hb => by rw [← e b pb]; exact hτ.2 b pb hb⟩, t2, t3, fun a b pa pb t ma => ?_, t5⟩
  rw [e a pa, e b pb]
  exact t4 a b pa pb t ma
theorem TiX.cgT {E : Nat → Nat → Int → Prop} {d : Int} {s : Nat → Int} {T T' : Nat → Nat → Int} (h : TiX E W d s P T) (e : ∀ a b, tie E a b → T' a b = T a b) : TiX E W d s P T' := by
  obtain ⟨t1, t2, t3, t4, t5⟩ := h
  refine ⟨fun a τ hτ b c hb hc hn => ?_, fun b c t => by rw [e b c t]; exact t2 b c t, fun b c t nm => by rw [e b c t]; exact t3 b c t nm, fun a b pa pb t ma => ?_, fun b c t => by rw [e b c t]; exact t5 b c t⟩
  · rw [e b c (((hb.sy).tr hc).ti hn)]
    exact t1 a τ hτ b c hb hc hn
  · obtain ⟨g1, g2, g3⟩ := t4 a b pa pb t ma
    rw [e a b t, e b a t.sy]
    exact ⟨g1, g2, fun c pc h1 h2 => by rw [e a c h1, e c b h2]; exact g3 c pc h1 h2⟩
theorem BkX.std (hP : PrW p) (hS : StS p m) (h : BkX P m m') (hD : StD p W P m) : StD p W P m' := by
  have n8 := hS.n8
  have eT : ∀ a b, tie p.E a b → TM m' a b = TM m a b := fun a b t => h.1 30 _ (by omega) (by omega) (by omega) (by omega) (by omega) (by omega) (by have := t.v hP; omega)
  refine ⟨fun i => (h.2.1 i).trans (hD.1 i), fun u hu k x h1 h2 => ?_, ?_⟩
  · show Bt (m' 28 (4 * u + k)) x ↔ (x : Int) < p.d ∧ (k : Int) ≤ usM P p.un p.bu p.d (m' 22) (u : Int) (x : Int) p.n
    rw [h.1 28 _ (by omega) (by omega) (by omega) (by omega) (by omega) (by omega) (by omega), usM_cgP h.2.2.1 p.n]
    exact hD.2.1 u hu k x h1 h2
  · obtain ⟨a1, a2, a3, a4⟩ := hD.2.2
    refine ⟨fun o q => by rw [h.2.2.1 o q]; exact a1 o q, fun u k a b c e => by rw [usM_cgP h.2.2.1 p.n]; exact a2 u k a b c e, (a3.cgS h.2.2.1).cgT eT, fun a b pa pb t nm => by rw [h.2.2.1 a pa, h.2.2.1 b pb]; exact a4 a b pa pb t nm⟩
theorem BkX.back (hP : PrW p) (hS : StS p m) (ho : o < p.n) (hop : ¬ P o) (hp : ∀ i : Nat, Bt (m 21 4) i ↔ P i) (hK : PlcK m m' p.d o s) {m3 m4 : MM} (hB : BkX (plusP P o) m' m3) (hL : LftX m3 m4 o) (hs : 0 ≤ s ∧ s ≤ 11) : BkX P m m4 := by
  have n8 := hS.n8
  obtain ⟨c1, c2, c3⟩ := hK.cells
  obtain ⟨m1, pB, hI, e, k1, k2⟩ := hK
  obtain ⟨l0, l1, l2, l3, l4, l5⟩ := hL
  have e24 : m3 24 o = m 24 o := (hB.1 24 o (by omega) (by omega) (by omega) (by omega) (by omega) (by omega) (by omega)).trans (c3 24 o (by omega) (by omega) (by omega) (by omega) (by omega))
  have e34 : ∀ i, m3 34 i = m 34 i := fun i => (hB.1 34 i (by omega) (by omega) (by omega) (by omega) (by omega) (by omega) (by omega)).trans (c3 34 i (by omega) (by omega) (by omega) (by omega) (by omega))
  have emn : MnB m3 o ↔ MnB m o := by unfold MnB; rw [e34]
  have lf : ∀ A i, ¬ A = 28 → ¬ (A = 21 ∧ i = 4) → ¬ A = 30 → m4 A i = m3 A i := fun A i a b c => l0 A i (by unfold pLf; omega)
  have hu := hS.un ho
  have u24 := (hS.2.2.2.1 o ho).1
  have b28 : ∀ i, m4 28 i = m 28 i := fun i => by
    rw [l1 i, e24]
    by_cases q : 4 * (m 24 o).toNat ≤ i ∧ i < 4 * (m 24 o).toNat + 4
    · rw [if_pos q, hB.2.2.2.1 o _ (Or.inr rfl) (by omega), e 29 _ (by omega), pB.2.2.2, if_pos (by omega)]
      congr 1
      omega
    · rw [if_neg q, hB.1 28 i (by omega) (by omega) (by omega) (by omega) (by omega) (by omega) (by omega), e 28 i (by omega), hI.1 i (by omega)]
  have b30 : ∀ i, i < 64 → m4 30 i = m 30 i := fun i q => by
    by_cases mn : MnB m o
    · rw [l4 (emn.mpr mn) i]
      rw [if_pos q, hB.2.2.2.2.1 o i (Or.inr rfl) q, k1 mn, if_pos (by omega)]
      congr 1
      omega
    · rw [l5 (fun z => mn (emn.mp z)) i, hB.1 30 i (by omega) (by omega) (by omega) (by omega) (by omega) (by omega) (fun _ => q)]
      exact (k2 mn i).2
  refine ⟨fun A i a b c d f g w => ?_, fun j => ?_, fun a pa => ?_, fun a k pa hk => ?_, fun a k pa hk => ?_, fun a => ?_⟩
  · by_cases q : A = 28
    · subst q; exact b28 i
    · by_cases q2 : A = 30
      · subst q2; exact b30 i (w rfl)
      · rw [lf A i q a q2, hB.1 A i a b c d f g w, c3 A i a b q d (by omega)]
  · rw [l3 j, hB.2.1 j, c2 j]
    constructor
    · rintro ⟨h1, h2⟩
      exact h1.resolve_right h2
    · exact fun h1 => ⟨Or.inl h1, fun h2 => hop (h2 ▸ (hp j).mp h1)⟩
  · have ne : ¬ a = o := fun z => hop (z ▸ pa)
    rw [lf 22 a (by omega) (by omega) (by omega), hB.2.2.1 a (Or.inl pa), c1]
    exact if_neg ne
  · have ne : ¬ a = o := fun z => hop (z ▸ pa)
    rw [lf 29 _ (by omega) (by omega) (by omega), hB.2.2.2.1 a k (Or.inl pa) hk, e 29 _ (by omega), pB.2.2.2, if_neg (by omega)]
  · have ne : ¬ a = o := fun z => hop (z ▸ pa)
    rw [lf 31 _ (by omega) (by omega) (by omega), hB.2.2.2.2.1 a k (Or.inl pa) hk]
    by_cases mn : MnB m o
    · rw [k1 mn, if_neg (by omega)]
    · exact (k2 mn _).1
  · have g := hB.2.2.2.2.2 a
    rw [c1] at g
    rw [lf 22 a (by omega) (by omega) (by omega)]
    unfold plusS at g
    split at g <;> omega
end PLC
end
section
/-! open slots, told by a problem -/
section OPN
variable {p : Prb} {W : Nat → Nat → Int} {nn : Int} {P G : Nat → Prop} {m : MM} {o : Nat} {s x : Int} {w : Nat → Int}
def TwO (m : MM) (P : Nat → Prop) (o : Nat) (x : Int) : Prop := ∀ r, P r → ¬ r = o → TwB m o r → (r < o → m 22 r ≤ x) ∧ (¬ r < o → x ≤ m 22 r)
theorem StS.opn (hP : PrW p) (hS : StS p m) (hD : StD p W P m) (ho : o < p.n) (hx : 0 ≤ x ∧ x < p.d) : OpnB m p.d o x.toNat ↔ FitU p P (m 22) o x ∧ (∀ r, P r → tie p.E o r → Win p.d (m 22 r + TM m r o) (m 22 r - TM m o r) x) ∧ TwO m P o x := by
  have hn := hS.2.1
  have ex : ((x.toNat : Nat) : Int) = x := by omega
  have hf := hS.fit hD ho hx
  unfold OpnB
  constructor
  · rintro ⟨⟨-, h1⟩, h2⟩
    refine ⟨hf.mp h1, fun r pr t => ?_, fun r pr ne t => ?_⟩
    · have g := (h2 r (by have := (hD.2.2.1 r pr).1; omega) ((hD.1 r).mpr pr)).1 ((hS.2.2.2.2.2.1 o ho r).mpr ⟨(t.v hP).2, t⟩)
      rw [ex] at g
      exact g
    · have rn := (hD.2.2.1 r pr).1
      have nt : ¬ Bt (m 34 o) r := fun z => by
        rw [t.1] at z
        exact Bt_0 z
      have g := (h2 r (by omega) ((hD.1 r).mpr pr)).2 nt ((hS.2.2.2.2.2.2.1 o ho r).mpr ⟨rn, ne, t⟩)
      rw [ex] at g
      exact g
  · rintro ⟨h1, h2, h3⟩
    refine ⟨⟨by omega, hf.mpr h1⟩, fun r _ hb => ⟨fun t => ?_, fun nt tw => ?_⟩⟩
    · rw [ex]
      exact h2 r ((hD.1 r).mp hb) ((hS.2.2.2.2.2.1 o ho r).mp t).2
    · rw [ex]
      have g := (hS.2.2.2.2.2.2.1 o ho r).mp tw
      exact h3 r ((hD.1 r).mp hb) g.2.1 g.2.2
def TwG (m : MM) (n : Nat) (G : Nat → Prop) (w : Nat → Int) : Prop := ∀ a b, a < b → b < n → G a → G b → TwB m a b → w a ≤ w b
theorem TwB.sy {a b : Nat} (h : TwB m a b) : TwB m b a := ⟨h.2.1, h.1, h.2.2.1.symm, fun r hr => (h.2.2.2 r hr).symm⟩
theorem StS.opw (hP : PrW p) (hW : WyC p W nn) (hS : StS p m) (hD : StD p W P m) (hG : ClG p G) (hw : FsbM p G w) (hag : ∀ a, P a → G a → w a = m 22 a) (ht : TwG m p.n G w) (ho : o < p.n) (g : G o) (hop : ¬ P o) : OpnB m p.d o (w o).toNat := by
  have hu := hS.un ho
  refine (hS.opn hP hD ho (hw.1 o ho g)).mpr ⟨AbS.fu hG hw hag hop ho (by omega) g, fun r pr t => hD.2.2.wn hP hW hG hw hag ho g pr t, fun r pr ne t => ?_⟩
  have rn := (hD.2.2.1 r pr).1
  have tw := hS.tw hP ho rn t
  have gr : G r := hG.1 o r ho rn tw.1 g
  rw [← hag r pr gr]
  exact ⟨fun z => ht r o z ho gr g t.sy, fun z => ht o r (by omega) rn g gr t⟩
end OPN
end
section
/-! settle: what it comes to -/
section SET
variable {p : Prb} {W : Nat → Nat → Int} {nn : Int} {P G : Nat → Prop} {m m1 mem m' m2 : MM} {o : Nat} {s x : Int}
theorem BkX.at {A i : Nat} (h : BkX P m m') (q : (A = 21 ∧ ¬ i = 4) ∨ (24 ≤ A ∧ A ≤ 28) ∨ A = 34 ∨ A = 35) : m' A i = m A i := h.1 A i (by omega) (by omega) (by omega) (by omega) (by omega) (by omega) (by omega)
theorem BkX.up {A i : Nat} (h : BkX P m m1) (q : A = 36 ∨ A = 23) : BkX P m (upm m1 A i x) := ⟨fun B j a b c d e f w => (upm_ne (by omega)).trans (h.1 B j a b c d e f w), fun j => by rw [upm_ne (by omega)]; exact h.2.1 j, fun a pa => (upm_ne (by omega)).trans (h.2.2.1 a pa), fun a k pa hk => (upm_ne (by omega)).trans (h.2.2.2.1 a k pa hk), fun a k pa hk => (upm_ne (by omega)).trans (h.2.2.2.2.1 a k pa hk), fun a => by
  rw [upm_ne (by omega)]
  exact h.2.2.2.2.2 a⟩
noncomputable def cnR (P G : Nat → Prop) : Nat → Int
  | 0 => 0
  | n + 1 => cnR P G n + cIf (G n ∧ ¬ P n) 1 0
theorem cnR_ge : ∀ n : Nat, 0 ≤ cnR P G n
  | 0 => Int.le_refl _
  | n + 1 => by
    have := cnR_ge n
    have := cIf.rg (c := G n ∧ ¬ P n) (show (0 : Int) ≤ 1 ∧ (1 : Int) ≤ 1 by omega) (show (0 : Int) ≤ 0 ∧ (0 : Int) ≤ 1 by omega)
    unfold cnR
    omega
theorem cnR_plus (g : G o) (h : ¬ P o) : ∀ n : Nat, cnR (plusP P o) G n + cIf (o < n) 1 0 = cnR P G n
  | 0 => by rw [cIf.n (by omega)]; rfl
  | n + 1 => by
    have ih := cnR_plus g h n
    unfold cnR
    by_cases e : n = o
    · subst e
      rw [cIf.n (show ¬ n < n by omega)] at ih
      rw [cIf.n (show ¬ (G n ∧ ¬ plusP P n n) from fun z => z.2 (Or.inr rfl)), cIf.y (show n < n + 1 by omega), cIf.y ⟨g, h⟩]
      omega
    · have e1 : (G n ∧ ¬ plusP P o n) = (G n ∧ ¬ P n) := propext ⟨fun z => ⟨z.1, fun q => z.2 (Or.inl q)⟩, fun z => ⟨z.1, fun q => q.elim z.2 e⟩⟩
      have e2 : (o < n + 1) = (o < n) := propext (by omega)
      rw [e1, e2]
      omega
def PlnG (p : Prb) (P G : Nat → Prop) (m : MM) (w : Nat → Int) : Prop := FsbM p G w ∧ (∀ a, P a → G a → w a = m 22 a) ∧ TwG m p.n G w
def FndG (p : Prb) (P G : Nat → Prop) (m m' : MM) : Prop := (∃ w, FsbM p G w ∧ (∀ a, P a → G a → w a = m 22 a) ∧ ∀ a, a < p.n → G a → m' 23 a = w a) ∧ ∀ a, ¬ G a → m' 23 a = m 23 a
end SET
end
section
/-! settle: slot by slot -/
def ChO (p : Prb) (P G : Nat → Prop) (mem : MM) (x2 x3 x4 : Int) : Prop := (x2 = -1 ∧ ¬ x3 = 0 ∧ ∀ j : Nat, (j : Int) < x4 → j < p.n → G j → P j) ∨ ((0 ≤ x2 ∧ x2 < p.n) ∧ G x2.toNat ∧ ¬ P x2.toNat ∧ ∀ i, Bt x3 i ↔ OpnB mem p.d x2.toNat i)
def TrY (p : Prb) (P G : Nat → Prop) (mem m : MM) (x2 x4 x5 : Int) : Prop := (x4 = 0 ∨ x4 = 1) ∧ (x4 = 1 → FndG p P G mem m) ∧ (x4 = 0 → (∀ a, m 23 a = mem 23 a) ∧ ∀ w, PlnG p P G mem w → x5 ≤ w x2.toNat)
section SQ7
variable {p : Prb} {W : Nat → Nat → Int} {nn : Int} {P G : Nat → Prop} {mem m m1 m2 m3 m4 : MM} {o : Nat} {s x2 x3 x4 x5 x5' : Int}
theorem TrY.ini (h : BkX P mem m) (e : ∀ a, m 23 a = mem 23 a) (ho : o < p.n) (g : G o) : TrY p P G mem m (o : Int) 0 0 := ⟨Or.inl rfl, fun z => by omega, fun _ => ⟨e, fun w hw => by
  rw [Int.toNat_natCast]
  exact (hw.1.1 o ho g).1⟩⟩
theorem PlnG.plus {w : Nat → Int} (h : PlnG p P G mem w) (hb : BkX P mem m) (hK : PlcK m m2 p.d o s) (hw : w o = s) : PlnG p (plusP P o) G m2 w := by
  obtain ⟨c1, c2, c3⟩ := hK.cells
  refine ⟨h.1, fun a pa ga => ?_, fun a b hab hb2 ga gb t => h.2.2 a b hab hb2 ga gb ?_⟩
  · rw [c1]
    by_cases e : a = o
    · subst e; rw [plusS.eq]; exact hw
    · rw [plusS.ne e, hb.2.2.1 a (pa.resolve_right e)]; exact h.2.1 a (pa.resolve_right e) ga
  · refine (TwB.cg (fun A i q => ?_)).mp t
    rw [c3 A i (by omega) (by omega) (by omega) (by omega) (by omega)]
    exact hb.at (by omega)
theorem FndG.back (hb : BkX P mem m) (hop : ¬ P o) (hK : PlcK m m2 p.d o s) (hF : FndG p (plusP P o) G m2 m3) (e23 : ∀ a, m 23 a = mem 23 a) (hL : LftX m3 m4 o) : FndG p P G mem m4 := by
  obtain ⟨c1, c2, c3⟩ := hK.cells
  have l23 : ∀ a, m4 23 a = m3 23 a := fun a => hL.1 23 a (by unfold pLf; omega)
  obtain ⟨⟨w, w1, w2, w3⟩, w4⟩ := hF
  refine ⟨⟨w, w1, fun a pa ga => ?_, fun a ha ga => by rw [l23]; exact w3 a ha ga⟩, fun a ng => by rw [l23, w4 a ng, c3 23 a (by omega) (by omega) (by omega) (by omega) (by omega)]; exact e23 a⟩
  rw [w2 a (Or.inl pa) ga, c1, plusS.ne (o := a) (op := o) (fun e => hop (by rw [← e]; exact pa))]
  exact hb.2.2.1 a pa
theorem TrY.shut (hP : PrW p) (hW : WyC p W nn) (hG : ClG p G) (hS : StS p mem) (hD : StD p W P mem) (hC : (0 ≤ x2 ∧ x2 < p.n) ∧ G x2.toNat ∧ ¬ P x2.toNat ∧ ∀ i, Bt x3 i ↔ OpnB mem p.d x2.toNat i) (h : TrY p P G mem m x2 x4 x5) (e : x5' = x5 + 1) (h0 : 0 ≤ x5) (hb : ¬ Bt x3 x5.toNat) : TrY p P G mem m x2 x4 x5' := by
  refine ⟨h.1, h.2.1, fun z => ⟨(h.2.2 z).1, fun w hw => ?_⟩⟩
  have g := (h.2.2 z).2 w hw
  by_cases q : w x2.toNat = x5
  · have k := hS.opw hP hW hD hG hw.1 hw.2.1 hw.2.2 (by omega) hC.2.1 hC.2.2.1
    rw [q] at k
    exact absurd ((hC.2.2.2 _).mpr k) hb
  · omega
theorem TrY.ring (hP : PrW p) (hW : WyC p W nn) (hG : ClG p G) (hC : (0 ≤ x2 ∧ x2 < p.n) ∧ G x2.toNat) (hb : BkX P mem m) (h : TrY p P G mem m x2 0 x5) (e : x5' = x5 + 1) (hK : PlcK m m2 p.d x2.toNat x5) (hN : ∀ τ, ¬ PhX p W P m x2.toNat x5 τ) (hL : LftX m2 m4 x2.toNat) : TrY p P G mem m4 x2 0 x5' := by
  obtain ⟨c1, c2, c3⟩ := hK.cells
  refine ⟨Or.inl rfl, fun z => by omega, fun z => ⟨fun a => ?_, fun w hw => ?_⟩⟩
  · rw [hL.1 23 a (by unfold pLf; omega), c3 23 a (by omega) (by omega) (by omega) (by omega) (by omega)]
    exact (h.2.2 rfl).1 a
  · have g := (h.2.2 rfl).2 w hw
    by_cases q : w x2.toNat = x5
    · obtain ⟨τ, t1, t2⟩ := AbS.tm (s := m 22) hP hW hG hw.1 (fun a pa ga => (hw.2.1 a pa ga).trans (hb.2.2.1 a pa).symm) (op := x2.toNat) (by omega) hC.2
      rw [q] at t2
      exact absurd ⟨t1, t2⟩ (hN τ)
    · omega
theorem TrY.none (hC : (0 ≤ x2 ∧ x2 < p.n) ∧ G x2.toNat) (hb : BkX P mem m) (h : TrY p P G mem m x2 0 x5) (e : x5' = x5 + 1) (hK : PlcK m m2 p.d x2.toNat x5) (e3 : ∀ a, m3 23 a = m2 23 a) (hN : ∀ w, ¬ PlnG p (plusP P x2.toNat) G m2 w) (hL : LftX m3 m4 x2.toNat) : TrY p P G mem m4 x2 0 x5' := by
  obtain ⟨c1, c2, c3⟩ := hK.cells
  refine ⟨Or.inl rfl, fun z => by omega, fun z => ⟨fun a => ?_, fun w hw => ?_⟩⟩
  · rw [hL.1 23 a (by unfold pLf; omega), e3, c3 23 a (by omega) (by omega) (by omega) (by omega) (by omega)]
    exact (h.2.2 rfl).1 a
  · have g := (h.2.2 rfl).2 w hw
    by_cases q : w x2.toNat = x5
    · exact absurd (hw.plus hb hK q) (hN w)
    · omega
theorem TrY.yes (hop : ¬ P x2.toNat) (hb : BkX P mem m) (h : TrY p P G mem m x2 0 x5) (hK : PlcK m m2 p.d x2.toNat x5) (hF : FndG p (plusP P x2.toNat) G m2 m3) (hL : LftX m3 m4 x2.toNat) : TrY p P G mem m4 x2 1 x5' := ⟨Or.inr rfl, fun _ => FndG.back hb hop hK hF (h.2.2 rfl).1 hL, fun z => by omega⟩
theorem StS.pre91 (hP : PrW p) (hS : StS p m) (hD : StD p W P m) (ho : o < p.n) : (∀ j, Bt (m 34 o) j → j < 8) ∧ (∀ i : Nat, TiM m o i → (i : Int) < m 21 0 ∧ ¬ i = o) ∧ (MnB m o → AlC (TiM m o) (HdP m o) (TM m) (plusS (m 22) o s) p.d s o (PhX p W P m o s)) ∧ ∀ i : Nat, TiM m o i → -100000 ≤ m 30 (8 * i + i) ∧ m 30 (8 * i + i) ≤ 5000 := by
  have n8 := hS.n8
  have hn := hS.2.1
  refine ⟨fun j b => by have := ((hS.2.2.2.2.2.1 o ho j).mp b).1; omega, fun i t => ?_, fun z => hS.alc hD ho ((hS.mn hP ho).mp z), fun i t => ?_⟩
  · have g := (hS.ti ho).mp t
    exact ⟨by omega, fun e => g.2.1 e.symm⟩
  · have g := (hS.ti ho).mp t
    have d := hS.2.2.2.2.2.2.2 i g.1 ⟨o, g.2.sy⟩
    unfold TM at d
    omega
theorem StS.put (hP : PrW p) (hW : ∀ b c, tie p.E b c → -801 ≤ W b c) (hS : StS p m) (hD : StD p W P m) (ho : o < p.n) (hop : ¬ P o) (hs : 0 ≤ s ∧ s < p.d) (hO : OpnB m p.d o s.toNat) (hK : PlcK m m2 p.d o s) (hT : MnB m o → PlcT m m2 p.d o s (PhX p W P m o s)) : StS p m2 ∧ StD p W (plusP P o) m2 := by
  obtain ⟨f1, f2, f3⟩ := (hS.opn hP hD ho hs).mp hO
  by_cases hm : many p.E o
  · exact hS.putM hP hW hD ho hop hs f1 hm hK (hT ((hS.mn hP ho).mpr hm))
  · exact hS.putF hP hD ho hop hs f1 hm f2 hK
theorem OpnB.cg {d : Int} {i : Nat} (ho : o < p.n) (hP : PrW p) (hS : StS p mem) (hD : StD p W P mem) (h : BkX P mem m) (hx : (i : Int) < p.d) (g : OpnB mem p.d o i) : OpnB m p.d o i := by
  have hS2 := h.sts hS
  have hD2 := h.std hP hS hD
  have n8 := hS.n8
  have e := (hS.opn (x := (i : Int)) hP hD ho ⟨by omega, hx⟩).mp (by rw [Int.toNat_natCast]; exact g)
  have r := (hS2.opn (x := (i : Int)) hP hD2 ho ⟨by omega, hx⟩).mpr ⟨fun k a b => by rw [usM_cgP h.2.2.1 p.n]; exact e.1 k a b, fun r pr t => ?_, fun r pr ne t => ?_⟩
  · rw [Int.toNat_natCast] at r
    exact r
  · have t1 : TM m r o = TM mem r o := h.1 30 _ (by omega) (by omega) (by omega) (by omega) (by omega) (by omega) (by have := t.v hP; omega)
    have t2 : TM m o r = TM mem o r := h.1 30 _ (by omega) (by omega) (by omega) (by omega) (by omega) (by omega) (by have := t.v hP; omega)
    rw [t1, t2, h.2.2.1 r pr]
    exact e.2.1 r pr t
  · rw [h.2.2.1 r pr]
    exact e.2.2 r pr ne ((TwB.cg (fun A i q => h.at (by omega))).mp t)
end SQ7
end
section
/-! laid by wip/hand/tg.py: the seeker, exactly -/
section SQ8
variable {p : Prb} {W : Nat → Nat → Int} {nn : Int} {P G : Nat → Prop} {mem m m1 m2 m3 m4 : MM} {o : Nat} {s x2 x3 x4 x5 x5' : Int}
theorem BkX.atx (h : BkX P m m1) (A i : Nat) (q : (A = 21 ∧ ¬ i = 4) ∨ (24 ≤ A ∧ A ≤ 28) ∨ A = 34 ∨ A = 35) : m1 A i = m A i := h.at q
theorem BkX.wit (h : Frm pR23 m m1) : BkX P m m1 := ⟨fun A i _ _ c _ _ _ _ => h A i (by unfold pR23; omega), fun j => by rw [h 21 4 (by unfold pR23; omega)], fun a _ => h 22 a (by unfold pR23; omega), fun a k _ _ => h 29 _ (by unfold pR23; omega), fun a k _ _ => h 31 _ (by unfold pR23; omega), fun a => Or.inl (h 22 a (by unfold pR23; omega))⟩
theorem TrY.ini2 (e : ∀ a, m 23 a = mem 23 a) (h : 0 ≤ x2 ∧ x2 < p.n) (g : G x2.toNat) : TrY p P G mem m x2 0 0 := ⟨Or.inl rfl, fun z => by omega, fun _ => ⟨e, fun w hw => (hw.1.1 x2.toNat (by omega) g).1⟩⟩
theorem ChO.skip (h : ChO p P G mem x2 x3 x4) (e : s = x4 + 1) (h0 : 0 ≤ x4) (q : ¬ (G x4.toNat ∧ ¬ P x4.toNat)) : ChO p P G mem x2 x3 s := h.elim (fun w => Or.inl ⟨w.1, w.2.1, fun j hj hn g => by
  by_cases c : (j : Int) < x4
  · exact w.2.2 j c hn g
  · rw [show x4.toNat = j by omega] at q
    exact Classical.byContradiction fun z => q ⟨g, z⟩⟩) Or.inr
theorem ChO.stay (h : ChO p P G mem x2 x3 x4) (q : ¬ x2 = -1) : ChO p P G mem x2 x3 s := h.elim (fun w => absurd w.1 q) Or.inr
theorem SkO.plc {d : Int} (h : SkO m d) (hK : PlcK m m1 d o s) : SkO m1 d := h.cg (fun A i q => hK.cells.2.2 A i (by omega) (by omega) (by omega) (by omega) (by omega))
end SQ8
set_option maxHeartbeats 1000000 in
theorem g_96e {S : Nat × (Nat → Int32)} {n : Nat} {mem : MM} {K : Int → MM → Prop} {E : Nat → MM → Prop} {p : Prb} {W : Nat → Nat → Int} {nn : Int} {P G : Nat → Prop} (hP : PrW p) (hW : WyC p W nn) (hWr : ∀ b c, tie p.E b c → -801 ≤ W b c) (hG : ClG p G) (hS : StS p mem) (hD : StD p W P mem) (hM : (∀ j : Nat, Bt (mem 21 3) j ↔ (j < p.n ∧ G j))) {y : Int} (hy : 0 ≤ y ∧ y + cnR P G p.n ≤ 8) (rec : ∀ (o : Nat) (z : Int) (m : MM) (K' : Int → MM → Prop) (E' : Nat → MM → Prop), z = y + 1 → o < p.n → G o → ¬ P o → StS p m → StD p W (plusP P o) m → (∀ j : Nat, Bt (m 21 3) j ↔ (j < p.n ∧ G j)) → (∀ m', BkX (plusP P o) m m' → FndG p (plusP P o) G m m' → K' 1 m') → (∀ m', BkX (plusP P o) m m' → (∀ a, m' 23 a = m 23 a) → (∀ w, ¬ PlnG p (plusP P o) G m w) → K' 0 m') → CQI (Ex S (n + 3)) 96 [.inr 21, .inl z] m K' E') (H1 : ∀ m', BkX P mem m' → FndG p P G mem m' → K 1 m') (H0 : ∀ m', BkX P mem m' → (∀ a, m' 23 a = mem 23 a) → (∀ w, ¬ PlnG p P G mem w) → K 0 m') : CQI (Ex S (n + 4)) 96 [.inr 21, .inl y] mem K E := by
  refine CY.of (k := 4) mt_96 rfl rfl (fun hv => ?_)
  have hC := Ex.mono S (n + 3)
  have ii_y : InI y := hv (.inl y) (by simp)
  unfold InI at ii_y
  clear hv
  have n8 := hS.n8
  have hn := hS.2.1
  have h1 := hS.1.2.1.1
  have hd := hS.1.2.1.2
  have hf := hS.2.2.1
  have cg := cnR_ge (P := P) (G := G) p.n
  show Tx (Ex S (n + 3)) S M_96 (kI K E) 0 0 0 [some (.inr 21), some (.inl y), none, none, none, none] [] mem
  have l_124 : ∀ (N : Nat) (x2 x3 x4 x5 : Int) (m_124 : MM), (0 ≤ x5) → (TrY p P G mem m_124 x2 x4 x5) → ((0 ≤ x2 ∧ x2 < p.n) ∧ G x2.toNat ∧ ¬ P x2.toNat ∧ ∀ i, Bt x3 i ↔ OpnB mem p.d x2.toNat i) → ((12 - x5).toNat) < N → BkX P mem m_124 → Tx (Ex S (n + 3)) S M_96 (kI K E) 0 0 124 [some (.inr 21), some (.inl y), some (.inl x2), some (.inl x3), some (.inl x4), some (.inl x5)] [] m_124 := by
    intro N
    induction N with
    | zero => intros; omega
    | succ N ih_124 =>
      intro x2 x3 x4 x5 m_124 i124_0 i124_1 i124_2 hN_124 hF_124
      have t01 := i124_1.1
      refine Tx.iload hC te_96_124 rfl ?_
      refine Tx.aload_n hC te_96_126 rfl ?_
      refine Tx.getI hC te_96_127 rfl rfl rfl (fun v1 v1e v1i => ?_)
      unfold InI at v1i
      rw [BkX.atx hF_124 21 _ (by skip; omega)] at v1e
      refine Tx.icmp hC (t := 185) te_96_130 (by decide) (fun q2 => ?_) (fun q2 => ?_)
      · replace q2 : v1 ≤ (x5 : Int) := q2
        refine Tx.iload hC te_96_185 rfl ?_
        exact Tx.bret hC te_96_187 rfl (by omega) (show K x4 m_124 from (by
          rcases i124_1.1 with z | z
          · first
            | (exfalso; omega)
            | (subst z; exact H0 _ hF_124 (i124_1.2.2 rfl).1 (fun w hw => by
                have g1 := (hw.1.1 x2.toNat (by omega) i124_2.2.1).2
                have g2 := (i124_1.2.2 rfl).2 w hw
                omega))
          · subst z; exact H1 _ hF_124 (i124_1.2.1 rfl)))
      · replace q2 : ¬ (v1 ≤ (x5 : Int)) := q2
        refine Tx.iload hC te_96_133 rfl ?_
        refine Tx.ifc hC (t := 185) te_96_135 (by decide) (fun q3 => ?_) (fun q3 => ?_)
        · replace q3 : ¬ (x4 : Int) = 0 := q3
          refine Tx.iload hC te_96_185 rfl ?_
          exact Tx.bret hC te_96_187 rfl (by omega) (show K x4 m_124 from (by
            rcases i124_1.1 with z | z
            · first
              | (exfalso; omega)
              | (subst z; exact H0 _ hF_124 (i124_1.2.2 rfl).1 (fun w hw => by
                  have g1 := (hw.1.1 x2.toNat (by omega) i124_2.2.1).2
                  have g2 := (i124_1.2.2 rfl).2 w hw
                  omega))
            · subst z; exact H1 _ hF_124 (i124_1.2.1 rfl)))
        · replace q3 : ¬ (¬ (x4 : Int) = 0) := q3
          have x40 : x4 = 0 := by omega
          have hT0 : TrY p P G mem m_124 x2 0 x5 := by
            have w := i124_1
            rw [x40] at w
            exact w
          have hS1 := hF_124.sts hS
          have hD1 := hF_124.std hP hS hD
          have f21 : m_124 21 0 = mem 21 0 := hF_124.at (by omega)
          have pr91 := hS1.pre91 (o := x2.toNat) (s := x5) hP hD1 (by omega)
          refine Tx.iload_n hC te_96_138 rfl ?_
          refine Tx.iconst hC te_96_139 rfl ?_
          refine Tx.iload hC te_96_140 rfl ?_
          refine Tx.bits hC (f := (fun (x y : Int32) => x <<< (y &&& 31))) te_96_142 (fun _ _ _ _ => Iff.rfl) (fun b4 b4e b4i => ?_)
          unfold InI at b4i
          refine Tx.bits hC (f := (fun (x y : Int32) => x &&& y)) te_96_143 (fun _ _ _ _ => Iff.rfl) (fun b5 b5e b5i => ?_)
          unfold InI at b5i
          have t5 := Bt_tst (o := x5) (by omega) (by assumption) b5e
          refine Tx.ifc hC (t := 179) te_96_144 (by decide) (fun q6 => ?_) (fun q6 => ?_)
          · replace q6 : (b5 : Int) = 0 := q6
            refine Tx.iincW hC te_96_179 rfl rfl (fun z7 z7i z7e => ?_)
            unfold InI at z7i z7e
            first | replace z7e := z7e (by omega) | clear z7e
            refine Tx.goto hC (t := 124) te_96_182 (by decide) ?_
            exact ih_124 x2 x3 x4 z7 m_124 (by omega) (by
              first
              | exact TrY.shut hP hW hG hS hD i124_2 i124_1 (by omega) i124_0 (fun z => absurd (t5.mpr z) (by omega))
              | exact TrY.yes i124_2.2.2.1 hF_124 hT0 X XF XL
              | exact TrY.none ⟨i124_2.1, i124_2.2.1⟩ hF_124 hT0 (by omega) X Xe XN XL
              | exact TrY.ring hP hW hG ⟨i124_2.1, i124_2.2.1⟩ hF_124 hT0 (by omega) X XN XL
              | (have hh := i10_1.resolve_left (fun z => absurd z.1 (by assumption))
                 exact TrY.ini2 (by first | exact (fun a => rfl) | exact (fun a => upm_ne (by omega))) hh.1 hh.2.1)) (by first | exact i124_2 | exact i10_1.resolve_left (fun z => absurd z.1 (by assumption))) (by omega) hF_124
          · replace q6 : ¬ ((b5 : Int) = 0) := q6
            refine Tx.aload_n hC te_96_147 rfl ?_
            refine Tx.iload_n hC te_96_148 rfl ?_
            refine Tx.iload hC te_96_149 rfl ?_
            refine Tx.virtI hC te_96_151 mt_91 (args := [.inr 21, .inl x2, .inl x5]) (rest := []) (c' := 0) (s' := 0) rfl rfl rfl rfl rfl rfl rfl rfl rfl rfl ?_
            refine f_91e (hS1.skm hD1) (by omega) (by omega) pr91.1 pr91.2.1 pr91.2.2.1 pr91.2.2.2 (fun m9 m9K m9T r8i => ?_) (fun m9 m9K mn m9N r8i => ?_)
            · skip
              refine Tx.ifc hC (t := 171) te_96_154 (by decide) (fun q => absurd q (show ¬ ((1 : Int) = 0) by decide)) (fun q => ?_)
              refine Tx.aload_n hC te_96_157 rfl ?_
              refine Tx.iload_n hC te_96_158 rfl ?_
              refine Tx.iconst hC te_96_159 rfl ?_
              refine Tx.iaddW hC te_96_160 (fun z11 z11i z11e => ?_)
              unfold InI at z11i z11e
              first | replace z11e := z11e (by omega) | clear z11e
              refine Tx.virtI hC te_96_161 mt_96 (args := [.inr 21, .inl z11]) (rest := []) (c' := 0) (s' := 0) rfl rfl rfl rfl rfl rfl rfl rfl rfl rfl ?_
              have hO : OpnB m_124 p.d x2.toNat x5.toNat := OpnB.cg (d := 0) (by omega) hP hS hD hF_124 (by omega) ((i124_2.2.2.2 _).mp (t5.mp (by assumption)))
              have hSD := hS1.put hP hWr hD1 (by omega) i124_2.2.2.1 (by omega) hO m9K m9T
              have mm3 : m9 21 3 = mem 21 3 := (m9K.cells.2.2 21 3 (by omega) (by omega) (by omega) (by omega) (by omega)).trans (hF_124.at (by omega))
              refine rec x2.toNat _ _ _ _ (by omega) (by omega) i124_2.2.1 i124_2.2.2.1 hSD.1 hSD.2 (fun j => by rw [mm3]; exact hM j) (fun m13 m13B m13F r12i => ?_) (fun m13 m13B m13e m13N r12i => ?_)
              · skip
                have hS3 := m13B.sts hSD.1
                have hk : SkO m13 p.d ∧ m13 21 0 = p.n ∧ ∀ j, Bt (m13 34 x2.toNat) j → j < 8 := ⟨hS3.1, hS3.2.1, fun j b => by have := ((hS3.2.2.2.2.2.1 x2.toNat (by omega) j).mp b).1; omega⟩
                refine Tx.ifc hC (t := 171) te_96_164 (by decide) (fun q => absurd q (show ¬ ((1 : Int) = 0) by decide)) (fun q => ?_)
                refine Tx.iconst hC te_96_167 rfl ?_
                refine Tx.goto hC (t := 172) te_96_168 (by decide) ?_
                refine Tx.istore hC te_96_172 rfl ?_
                refine Tx.aload_n hC te_96_174 rfl ?_
                refine Tx.iload_n hC te_96_175 rfl ?_
                refine Tx.virtV hC te_96_176 mt_102 (args := [.inr 21, .inl x2]) (rest := []) (c' := 0) (s' := 0) rfl rfl rfl rfl rfl rfl rfl rfl rfl rfl ?_
                refine f_102e hk.1 (by omega) hk.2.2 (fun m16 m16L => ?_)
                have hF17n : BkX P mem m16 := by
                  first
                  | exact hF_124.tr (BkX.back hP hS1 (by omega) i124_2.2.2.1 hD1.1 m9K m13B m16L (by omega))
                  | exact hF_124.tr (BkX.back hP hS1 (by omega) i124_2.2.2.1 hD1.1 m9K BkX.rf m16L (by omega))
                refine Tx.iincW hC te_96_179 rfl rfl (fun z18 z18i z18e => ?_)
                unfold InI at z18i z18e
                first | replace z18e := z18e (by omega) | clear z18e
                refine Tx.goto hC (t := 124) te_96_182 (by decide) ?_
                exact ih_124 x2 x3 1 z18 m16 (by omega) (by
                  first
                  | exact TrY.shut hP hW hG hS hD i124_2 i124_1 (by omega) i124_0 (fun z => absurd (t5.mpr z) (by omega))
                  | exact TrY.yes i124_2.2.2.1 hF_124 hT0 m9K m13F m16L
                  | exact TrY.none ⟨i124_2.1, i124_2.2.1⟩ hF_124 hT0 (by omega) m9K m13e m13N m16L
                  | exact TrY.ring hP hW hG ⟨i124_2.1, i124_2.2.1⟩ hF_124 hT0 (by omega) m9K m9N m16L
                  | (have hh := i10_1.resolve_left (fun z => absurd z.1 (by assumption))
                     exact TrY.ini2 (by first | exact (fun a => rfl) | exact (fun a => upm_ne (by omega))) hh.1 hh.2.1)) (by first | exact i124_2 | exact i10_1.resolve_left (fun z => absurd z.1 (by assumption))) (by omega) hF17n
              · skip
                have hS3 := m13B.sts hSD.1
                have hk : SkO m13 p.d ∧ m13 21 0 = p.n ∧ ∀ j, Bt (m13 34 x2.toNat) j → j < 8 := ⟨hS3.1, hS3.2.1, fun j b => by have := ((hS3.2.2.2.2.2.1 x2.toNat (by omega) j).mp b).1; omega⟩
                refine Tx.ifc hC (t := 171) te_96_164 (by decide) (fun q => ?_) (fun q => absurd (show (0 : Int) = 0 by decide) q)
                refine Tx.iconst hC te_96_171 rfl ?_
                refine Tx.istore hC te_96_172 rfl ?_
                refine Tx.aload_n hC te_96_174 rfl ?_
                refine Tx.iload_n hC te_96_175 rfl ?_
                refine Tx.virtV hC te_96_176 mt_102 (args := [.inr 21, .inl x2]) (rest := []) (c' := 0) (s' := 0) rfl rfl rfl rfl rfl rfl rfl rfl rfl rfl ?_
                refine f_102e hk.1 (by omega) hk.2.2 (fun m20 m20L => ?_)
                have hF21n : BkX P mem m20 := by
                  first
                  | exact hF_124.tr (BkX.back hP hS1 (by omega) i124_2.2.2.1 hD1.1 m9K m13B m20L (by omega))
                  | exact hF_124.tr (BkX.back hP hS1 (by omega) i124_2.2.2.1 hD1.1 m9K BkX.rf m20L (by omega))
                refine Tx.iincW hC te_96_179 rfl rfl (fun z22 z22i z22e => ?_)
                unfold InI at z22i z22e
                first | replace z22e := z22e (by omega) | clear z22e
                refine Tx.goto hC (t := 124) te_96_182 (by decide) ?_
                exact ih_124 x2 x3 0 z22 m20 (by omega) (by
                  first
                  | exact TrY.shut hP hW hG hS hD i124_2 i124_1 (by omega) i124_0 (fun z => absurd (t5.mpr z) (by omega))
                  | exact TrY.yes i124_2.2.2.1 hF_124 hT0 m9K m13F m20L
                  | exact TrY.none ⟨i124_2.1, i124_2.2.1⟩ hF_124 hT0 (by omega) m9K m13e m13N m20L
                  | exact TrY.ring hP hW hG ⟨i124_2.1, i124_2.2.1⟩ hF_124 hT0 (by omega) m9K m9N m20L
                  | (have hh := i10_1.resolve_left (fun z => absurd z.1 (by assumption))
                     exact TrY.ini2 (by first | exact (fun a => rfl) | exact (fun a => upm_ne (by omega))) hh.1 hh.2.1)) (by first | exact i124_2 | exact i10_1.resolve_left (fun z => absurd z.1 (by assumption))) (by omega) hF21n
            · skip
              have hk : SkO m9 p.d ∧ m9 21 0 = p.n ∧ ∀ j, Bt (m9 34 x2.toNat) j → j < 8 := by
                have e34 : m9 34 x2.toNat = m_124 34 x2.toNat := m9K.cells.2.2 34 _ (by omega) (by omega) (by omega) (by omega) (by omega)
                rw [e34]
                exact ⟨hS1.1.plc m9K, (m9K.cells.2.2 21 0 (by omega) (by omega) (by omega) (by omega) (by omega)).trans (by omega), pr91.1⟩
              refine Tx.ifc hC (t := 171) te_96_154 (by decide) (fun q => ?_) (fun q => absurd (show (0 : Int) = 0 by decide) q)
              refine Tx.iconst hC te_96_171 rfl ?_
              refine Tx.istore hC te_96_172 rfl ?_
              refine Tx.aload_n hC te_96_174 rfl ?_
              refine Tx.iload_n hC te_96_175 rfl ?_
              refine Tx.virtV hC te_96_176 mt_102 (args := [.inr 21, .inl x2]) (rest := []) (c' := 0) (s' := 0) rfl rfl rfl rfl rfl rfl rfl rfl rfl rfl ?_
              refine f_102e hk.1 (by omega) hk.2.2 (fun m24 m24L => ?_)
              have hF25n : BkX P mem m24 := by
                first
                | exact hF_124.tr (BkX.back hP hS1 (by omega) i124_2.2.2.1 hD1.1 m9K m9B m24L (by omega))
                | exact hF_124.tr (BkX.back hP hS1 (by omega) i124_2.2.2.1 hD1.1 m9K BkX.rf m24L (by omega))
              refine Tx.iincW hC te_96_179 rfl rfl (fun z26 z26i z26e => ?_)
              unfold InI at z26i z26e
              first | replace z26e := z26e (by omega) | clear z26e
              refine Tx.goto hC (t := 124) te_96_182 (by decide) ?_
              exact ih_124 x2 x3 0 z26 m24 (by omega) (by
                first
                | exact TrY.shut hP hW hG hS hD i124_2 i124_1 (by omega) i124_0 (fun z => absurd (t5.mpr z) (by omega))
                | exact TrY.yes i124_2.2.2.1 hF_124 hT0 m9K XF m24L
                | exact TrY.none ⟨i124_2.1, i124_2.2.1⟩ hF_124 hT0 (by omega) m9K Xe XN m24L
                | exact TrY.ring hP hW hG ⟨i124_2.1, i124_2.2.1⟩ hF_124 hT0 (by omega) m9K m9N m24L
                | (have hh := i10_1.resolve_left (fun z => absurd z.1 (by assumption))
                   exact TrY.ini2 (by first | exact (fun a => rfl) | exact (fun a => upm_ne (by omega))) hh.1 hh.2.1)) (by first | exact i124_2 | exact i10_1.resolve_left (fun z => absurd z.1 (by assumption))) (by omega) hF25n
  have l_10 : ∀ (N : Nat) (x2 x3 x4 : Int), (0 ≤ x4) → (ChO p P G mem x2 x3 x4) → ((8 - x4).toNat) < N → Tx (Ex S (n + 3)) S M_96 (kI K E) 0 0 10 [some (.inr 21), some (.inl y), some (.inl x2), some (.inl x3), some (.inl x4), none] [] mem := by
    intro N
    induction N with
    | zero => intros; omega
    | succ N ih_10 =>
      intro x2 x3 x4 i10_0 i10_1 hN_10 
      refine Tx.iload hC te_96_10 rfl ?_
      refine Tx.aload_n hC te_96_12 rfl ?_
      refine Tx.getI hC te_96_13 rfl rfl rfl (fun v27 v27e v27i => ?_)
      unfold InI at v27i
      refine Tx.icmp hC (t := 85) te_96_16 (by decide) (fun q28 => ?_) (fun q28 => ?_)
      · replace q28 : v27 ≤ (x4 : Int) := q28
        refine Tx.iload_n hC te_96_85 rfl ?_
        refine Tx.iconst hC te_96_86 rfl ?_
        refine Tx.icmp hC (t := 96) te_96_87 (by decide) (fun q29 => ?_) (fun q29 => ?_)
        · replace q29 : ¬ (x2 : Int) = (-1) := q29
          have hc0 := i10_1.resolve_left (fun z => absurd z.1 (by assumption))
          refine Tx.iload_n hC te_96_96 rfl ?_
          refine Tx.ifc hC (t := 110) te_96_97 (by decide) (fun q30 => ?_) (fun q30 => ?_)
          · replace q30 : ¬ (x3 : Int) = 0 := q30
            refine Tx.iload_n hC te_96_110 rfl ?_
            refine Tx.bipush hC te_96_111 rfl rfl ?_
            refine Tx.icmp hC (t := 118) te_96_113 (by decide) (fun q31 => ?_) (fun q31 => ?_)
            · replace q31 : (y : Int) ≤ 8 := q31
              refine Tx.iconst hC te_96_118 rfl ?_
              refine Tx.istore hC te_96_119 rfl ?_
              refine Tx.iconst hC te_96_121 rfl ?_
              refine Tx.istore hC te_96_122 rfl ?_
              exact l_124 _ x2 x3 0 0 mem (by omega) (by
                first
                | exact TrY.shut hP hW hG hS hD i124_2 i124_1 (by omega) i124_0 (fun z => absurd (t5.mpr z) (by omega))
                | exact TrY.yes i124_2.2.2.1 hF_124 hT0 X XF XL
                | exact TrY.none ⟨i124_2.1, i124_2.2.1⟩ hF_124 hT0 (by omega) X Xe XN XL
                | exact TrY.ring hP hW hG ⟨i124_2.1, i124_2.2.1⟩ hF_124 hT0 (by omega) X XN XL
                | (have hh := i10_1.resolve_left (fun z => absurd z.1 (by assumption))
                   exact TrY.ini2 (by first | exact (fun a => rfl) | exact (fun a => upm_ne (by omega))) hh.1 hh.2.1)) (by first | exact i124_2 | exact i10_1.resolve_left (fun z => absurd z.1 (by assumption))) (Nat.lt_succ_self _) BkX.rf
            · replace q31 : ¬ ((y : Int) ≤ 8) := q31
              refine Tx.iconst hC te_96_116 rfl ?_
              exact Tx.bret hC te_96_117 rfl (by omega) (show K 0 mem from (by exfalso; omega))
          · replace q30 : ¬ (¬ (x3 : Int) = 0) := q30
            refine Tx.aload_n hC te_96_100 rfl ?_
            refine Tx.getR hC te_96_101 rfl rfl rfl ?_
            refine Tx.iload_n hC te_96_104 rfl ?_
            refine Tx.dup2 hC te_96_105 ?_
            refine Tx.iald hC te_96_106 rfl (by omega) (fun v32 v32e v32i => ?_)
            unfold InI at v32i
            refine Tx.iconst hC te_96_107 rfl ?_
            refine Tx.iaddW hC te_96_108 (fun z33 z33i z33e => ?_)
            unfold InI at z33i z33e
            first | replace z33e := z33e (by omega) | clear z33e
            refine Tx.iast hC te_96_109 rfl (by omega) ?_
            have hF35 : BkX P mem (upm mem 36 (Int.toNat x2) z33) := BkX.up BkX.rf (by omega)
            refine Tx.iload_n hC te_96_110 rfl ?_
            refine Tx.bipush hC te_96_111 rfl rfl ?_
            refine Tx.icmp hC (t := 118) te_96_113 (by decide) (fun q36 => ?_) (fun q36 => ?_)
            · replace q36 : (y : Int) ≤ 8 := q36
              refine Tx.iconst hC te_96_118 rfl ?_
              refine Tx.istore hC te_96_119 rfl ?_
              refine Tx.iconst hC te_96_121 rfl ?_
              refine Tx.istore hC te_96_122 rfl ?_
              exact l_124 _ x2 x3 0 0 (upm mem 36 (Int.toNat x2) z33) (by omega) (by
                first
                | exact TrY.shut hP hW hG hS hD i124_2 i124_1 (by omega) i124_0 (fun z => absurd (t5.mpr z) (by omega))
                | exact TrY.yes i124_2.2.2.1 hF_124 hT0 X XF XL
                | exact TrY.none ⟨i124_2.1, i124_2.2.1⟩ hF_124 hT0 (by omega) X Xe XN XL
                | exact TrY.ring hP hW hG ⟨i124_2.1, i124_2.2.1⟩ hF_124 hT0 (by omega) X XN XL
                | (have hh := i10_1.resolve_left (fun z => absurd z.1 (by assumption))
                   exact TrY.ini2 (by first | exact (fun a => rfl) | exact (fun a => upm_ne (by omega))) hh.1 hh.2.1)) (by first | exact i124_2 | exact i10_1.resolve_left (fun z => absurd z.1 (by assumption))) (Nat.lt_succ_self _) hF35
            · replace q36 : ¬ ((y : Int) ≤ 8) := q36
              refine Tx.iconst hC te_96_116 rfl ?_
              exact Tx.bret hC te_96_117 rfl (by omega) (show K 0 (upm mem 36 (Int.toNat x2) z33) from (by exfalso; omega))
        · replace q29 : ¬ (¬ (x2 : Int) = (-1)) := q29
          refine Tx.aload_n hC te_96_90 rfl ?_
          refine Tx.virtV hC te_96_91 mt_101 (args := [.inr 21]) (rest := []) (c' := 0) (s' := 0) rfl rfl rfl rfl rfl rfl rfl rfl rfl rfl ?_
          refine f_101e hS.1 (fun m38 m38F m38a m38b => ?_)
          have hF39n : BkX P mem m38 := BkX.wit m38F
          refine Tx.iconst hC te_96_94 rfl ?_
          exact Tx.bret hC te_96_95 rfl (by omega) (show K 1 m38 from (by
            first
            | exact H1 _ hF39n ⟨⟨mem 22, AbS.fin hP hW hD.2.2 hG (fun o ho g => (i10_1.resolve_right (fun z => by omega)).2.2 o (by omega) ho g), fun _ _ _ => rfl, fun a ha ga => m38a a (by omega) ((hM a).mpr ⟨ha, ga⟩)⟩, fun a ng => m38b a (fun z => ng ((hM a).mp z).2)⟩
            | (exfalso
               rcases i10_1 with z | z
               · exact z.2.1 (by omega)
               · omega)))
      · replace q28 : ¬ (v27 ≤ (x4 : Int)) := q28
        refine Tx.iload_n hC te_96_19 rfl ?_
        refine Tx.ifc hC (t := 85) te_96_20 (by decide) (fun q40 => ?_) (fun q40 => ?_)
        · replace q40 : (x3 : Int) = 0 := q40
          refine Tx.iload_n hC te_96_85 rfl ?_
          refine Tx.iconst hC te_96_86 rfl ?_
          refine Tx.icmp hC (t := 96) te_96_87 (by decide) (fun q41 => ?_) (fun q41 => ?_)
          · replace q41 : ¬ (x2 : Int) = (-1) := q41
            have hc0 := i10_1.resolve_left (fun z => absurd z.1 (by assumption))
            refine Tx.iload_n hC te_96_96 rfl ?_
            refine Tx.ifc hC (t := 110) te_96_97 (by decide) (fun q42 => ?_) (fun q42 => ?_)
            · replace q42 : ¬ (x3 : Int) = 0 := q42
              refine Tx.iload_n hC te_96_110 rfl ?_
              refine Tx.bipush hC te_96_111 rfl rfl ?_
              refine Tx.icmp hC (t := 118) te_96_113 (by decide) (fun q43 => ?_) (fun q43 => ?_)
              · replace q43 : (y : Int) ≤ 8 := q43
                refine Tx.iconst hC te_96_118 rfl ?_
                refine Tx.istore hC te_96_119 rfl ?_
                refine Tx.iconst hC te_96_121 rfl ?_
                refine Tx.istore hC te_96_122 rfl ?_
                exact l_124 _ x2 x3 0 0 mem (by omega) (by
                  first
                  | exact TrY.shut hP hW hG hS hD i124_2 i124_1 (by omega) i124_0 (fun z => absurd (t5.mpr z) (by omega))
                  | exact TrY.yes i124_2.2.2.1 hF_124 hT0 X XF XL
                  | exact TrY.none ⟨i124_2.1, i124_2.2.1⟩ hF_124 hT0 (by omega) X Xe XN XL
                  | exact TrY.ring hP hW hG ⟨i124_2.1, i124_2.2.1⟩ hF_124 hT0 (by omega) X XN XL
                  | (have hh := i10_1.resolve_left (fun z => absurd z.1 (by assumption))
                     exact TrY.ini2 (by first | exact (fun a => rfl) | exact (fun a => upm_ne (by omega))) hh.1 hh.2.1)) (by first | exact i124_2 | exact i10_1.resolve_left (fun z => absurd z.1 (by assumption))) (Nat.lt_succ_self _) BkX.rf
              · replace q43 : ¬ ((y : Int) ≤ 8) := q43
                refine Tx.iconst hC te_96_116 rfl ?_
                exact Tx.bret hC te_96_117 rfl (by omega) (show K 0 mem from (by exfalso; omega))
            · replace q42 : ¬ (¬ (x3 : Int) = 0) := q42
              refine Tx.aload_n hC te_96_100 rfl ?_
              refine Tx.getR hC te_96_101 rfl rfl rfl ?_
              refine Tx.iload_n hC te_96_104 rfl ?_
              refine Tx.dup2 hC te_96_105 ?_
              refine Tx.iald hC te_96_106 rfl (by omega) (fun v44 v44e v44i => ?_)
              unfold InI at v44i
              refine Tx.iconst hC te_96_107 rfl ?_
              refine Tx.iaddW hC te_96_108 (fun z45 z45i z45e => ?_)
              unfold InI at z45i z45e
              first | replace z45e := z45e (by omega) | clear z45e
              refine Tx.iast hC te_96_109 rfl (by omega) ?_
              have hF47 : BkX P mem (upm mem 36 (Int.toNat x2) z45) := BkX.up BkX.rf (by omega)
              refine Tx.iload_n hC te_96_110 rfl ?_
              refine Tx.bipush hC te_96_111 rfl rfl ?_
              refine Tx.icmp hC (t := 118) te_96_113 (by decide) (fun q48 => ?_) (fun q48 => ?_)
              · replace q48 : (y : Int) ≤ 8 := q48
                refine Tx.iconst hC te_96_118 rfl ?_
                refine Tx.istore hC te_96_119 rfl ?_
                refine Tx.iconst hC te_96_121 rfl ?_
                refine Tx.istore hC te_96_122 rfl ?_
                exact l_124 _ x2 x3 0 0 (upm mem 36 (Int.toNat x2) z45) (by omega) (by
                  first
                  | exact TrY.shut hP hW hG hS hD i124_2 i124_1 (by omega) i124_0 (fun z => absurd (t5.mpr z) (by omega))
                  | exact TrY.yes i124_2.2.2.1 hF_124 hT0 X XF XL
                  | exact TrY.none ⟨i124_2.1, i124_2.2.1⟩ hF_124 hT0 (by omega) X Xe XN XL
                  | exact TrY.ring hP hW hG ⟨i124_2.1, i124_2.2.1⟩ hF_124 hT0 (by omega) X XN XL
                  | (have hh := i10_1.resolve_left (fun z => absurd z.1 (by assumption))
                     exact TrY.ini2 (by first | exact (fun a => rfl) | exact (fun a => upm_ne (by omega))) hh.1 hh.2.1)) (by first | exact i124_2 | exact i10_1.resolve_left (fun z => absurd z.1 (by assumption))) (Nat.lt_succ_self _) hF47
              · replace q48 : ¬ ((y : Int) ≤ 8) := q48
                refine Tx.iconst hC te_96_116 rfl ?_
                exact Tx.bret hC te_96_117 rfl (by omega) (show K 0 (upm mem 36 (Int.toNat x2) z45) from (by exfalso; omega))
          · replace q41 : ¬ (¬ (x2 : Int) = (-1)) := q41
            refine Tx.aload_n hC te_96_90 rfl ?_
            refine Tx.virtV hC te_96_91 mt_101 (args := [.inr 21]) (rest := []) (c' := 0) (s' := 0) rfl rfl rfl rfl rfl rfl rfl rfl rfl rfl ?_
            refine f_101e hS.1 (fun m50 m50F m50a m50b => ?_)
            have hF51n : BkX P mem m50 := BkX.wit m50F
            refine Tx.iconst hC te_96_94 rfl ?_
            exact Tx.bret hC te_96_95 rfl (by omega) (show K 1 m50 from (by
              first
              | exact H1 _ hF51n ⟨⟨mem 22, AbS.fin hP hW hD.2.2 hG (fun o ho g => (i10_1.resolve_right (fun z => by omega)).2.2 o (by omega) ho g), fun _ _ _ => rfl, fun a ha ga => m50a a (by omega) ((hM a).mpr ⟨ha, ga⟩)⟩, fun a ng => m50b a (fun z => ng ((hM a).mp z).2)⟩
              | (exfalso
                 rcases i10_1 with z | z
                 · exact z.2.1 (by omega)
                 · omega)))
        · replace q40 : ¬ ((x3 : Int) = 0) := q40
          refine Tx.aload_n hC te_96_23 rfl ?_
          refine Tx.getI hC te_96_24 rfl rfl rfl (fun v52 v52e v52i => ?_)
          unfold InI at v52i
          have n24 := v52e
          refine Tx.aload_n hC te_96_27 rfl ?_
          refine Tx.getI hC te_96_28 rfl rfl rfl (fun v53 v53e v53i => ?_)
          unfold InI at v53i
          have n28 := v53e
          refine Tx.iconst hC te_96_31 rfl ?_
          refine Tx.bits hC (f := (fun (x y : Int32) => x ^^^ y)) te_96_32 (fun _ _ _ _ => Iff.rfl) (fun b54 b54e b54i => ?_)
          unfold InI at b54i
          have n4 := b54e
          refine Tx.bits hC (f := (fun (x y : Int32) => x &&& y)) te_96_33 (fun _ _ _ _ => Iff.rfl) (fun b55 b55e b55i => ?_)
          unfold InI at b55i
          have n33 := b55e
          refine Tx.iconst hC te_96_34 rfl ?_
          refine Tx.iload hC te_96_35 rfl ?_
          refine Tx.bits hC (f := (fun (x y : Int32) => x <<< (y &&& 31))) te_96_37 (fun _ _ _ _ => Iff.rfl) (fun b56 b56e b56i => ?_)
          unfold InI at b56i
          refine Tx.bits hC (f := (fun (x y : Int32) => x &&& y)) te_96_38 (fun _ _ _ _ => Iff.rfl) (fun b57 b57e b57i => ?_)
          unfold InI at b57i
          have tt := Bt_tst (o := x4) (by omega) (by assumption) b57e
          have t58 : ¬ b57 = 0 ↔ (G x4.toNat ∧ ¬ P x4.toNat) := by
            rw [tt, Bt_and n33, Bt_not n4 (by omega), n24, n28, hM, hD.1]
            exact ⟨fun w => ⟨w.1.2, w.2⟩, fun w => ⟨⟨by omega, w.1⟩, w.2⟩⟩
          refine Tx.ifc hC (t := 79) te_96_39 (by decide) (fun q58 => ?_) (fun q58 => ?_)
          · replace q58 : (b57 : Int) = 0 := q58
            refine Tx.iincW hC te_96_79 rfl rfl (fun z59 z59i z59e => ?_)
            unfold InI at z59i z59e
            first | replace z59e := z59e (by omega) | clear z59e
            refine Tx.goto hC (t := 10) te_96_82 (by decide) ?_
            exact ih_10 x2 x3 z59 (by omega) (by
              first
              | exact ChO.skip i10_1 (by omega) i10_0 (fun z => absurd (t58.mpr z) (by omega))
              | exact Or.inr ⟨by omega, gp.1, gp.2, rs⟩
              | exact ChO.stay i10_1 (by assumption)
              | exact Or.inl ⟨rfl, fun z => by
                  have q := (hf 0).mpr (by omega)
                  rw [← x3e, z] at q
                  exact Bt_0 q, fun j h => absurd h (by omega)⟩) (by omega)
          · replace q58 : ¬ ((b57 : Int) = 0) := q58
            have gp := t58.mp (by assumption)
            refine Tx.aload_n hC te_96_42 rfl ?_
            refine Tx.iload hC te_96_43 rfl ?_
            refine Tx.virtI hC te_96_45 mt_97 (args := [.inr 21, .inl x4]) (rest := []) (c' := 0) (s' := 0) rfl rfl rfl rfl rfl rfl rfl rfl rfl rfl ?_
            refine f_97e (hS.skm hD) (by omega) (fun r60 r60s r60i => ?_)
            have rs := r60s
            unfold InI at r60i
            refine Tx.istore hC te_96_48 rfl ?_
            refine Tx.iload_n hC te_96_50 rfl ?_
            refine Tx.iconst hC te_96_51 rfl ?_
            refine Tx.icmp hC (t := 73) te_96_52 (by decide) (fun q63 => ?_) (fun q63 => ?_)
            · replace q63 : (x2 : Int) = (-1) := q63
              refine Tx.iload hC te_96_73 rfl ?_
              refine Tx.istore_n hC te_96_75 rfl ?_
              refine Tx.iload hC te_96_76 rfl ?_
              refine Tx.istore_n hC te_96_78 rfl ?_
              refine Tx.iincW hC te_96_79 rfl rfl (fun z64 z64i z64e => ?_)
              unfold InI at z64i z64e
              first | replace z64e := z64e (by omega) | clear z64e
              refine Tx.goto hC (t := 10) te_96_82 (by decide) ?_
              exact Tx.weak (by repeat' (first | exact trivial | exact rfl | constructor)) (ih_10 x4 r60 z64 (by omega) (by
                first
                | exact ChO.skip i10_1 (by omega) i10_0 (fun z => absurd (t58.mpr z) (by omega))
                | exact Or.inr ⟨by omega, gp.1, gp.2, rs⟩
                | exact ChO.stay i10_1 (by assumption)
                | exact Or.inl ⟨rfl, fun z => by
                    have q := (hf 0).mpr (by omega)
                    rw [← r60e, z] at q
                    exact Bt_0 q, fun j h => absurd h (by omega)⟩) (by omega))
            · replace q63 : ¬ ((x2 : Int) = (-1)) := q63
              refine Tx.iload hC te_96_55 rfl ?_
              refine Tx.ifc hC (t := 73) te_96_57 (by decide) (fun q65 => ?_) (fun q65 => ?_)
              · replace q65 : (r60 : Int) = 0 := q65
                refine Tx.iload hC te_96_73 rfl ?_
                refine Tx.istore_n hC te_96_75 rfl ?_
                refine Tx.iload hC te_96_76 rfl ?_
                refine Tx.istore_n hC te_96_78 rfl ?_
                refine Tx.iincW hC te_96_79 rfl rfl (fun z66 z66i z66e => ?_)
                unfold InI at z66i z66e
                first | replace z66e := z66e (by omega) | clear z66e
                refine Tx.goto hC (t := 10) te_96_82 (by decide) ?_
                exact Tx.weak (by repeat' (first | exact trivial | exact rfl | constructor)) (ih_10 x4 r60 z66 (by omega) (by
                  first
                  | exact ChO.skip i10_1 (by omega) i10_0 (fun z => absurd (t58.mpr z) (by omega))
                  | exact Or.inr ⟨by omega, gp.1, gp.2, rs⟩
                  | exact ChO.stay i10_1 (by assumption)
                  | exact Or.inl ⟨rfl, fun z => by
                      have q := (hf 0).mpr (by omega)
                      rw [← r60e, z] at q
                      exact Bt_0 q, fun j h => absurd h (by omega)⟩) (by omega))
              · replace q65 : ¬ ((r60 : Int) = 0) := q65
                have c2 := (i10_1.resolve_left (fun z => absurd z.1 (by assumption))).1
                refine Tx.aload_n hC te_96_60 rfl ?_
                refine Tx.iload hC te_96_61 rfl ?_
                refine Tx.iload hC te_96_63 rfl ?_
                refine Tx.iload_n hC te_96_65 rfl ?_
                refine Tx.iload_n hC te_96_66 rfl ?_
                refine Tx.virtI hC te_96_67 mt_100 (args := [.inr 21, .inl x4, .inl r60, .inl x2, .inl x3]) (rest := []) (c' := 0) (s' := 0) rfl rfl rfl rfl rfl rfl rfl rfl rfl rfl ?_
                refine f_100 (by omega) (by omega) (fun r67 r67b r67i => ?_)
                unfold InI at r67i
                refine Tx.ifc hC (t := 79) te_96_70 (by decide) (fun q70 => ?_) (fun q70 => ?_)
                · replace q70 : (r67 : Int) = 0 := q70
                  refine Tx.iincW hC te_96_79 rfl rfl (fun z71 z71i z71e => ?_)
                  unfold InI at z71i z71e
                  first | replace z71e := z71e (by omega) | clear z71e
                  refine Tx.goto hC (t := 10) te_96_82 (by decide) ?_
                  exact Tx.weak (by repeat' (first | exact trivial | exact rfl | constructor)) (ih_10 x2 x3 z71 (by omega) (by
                    first
                    | exact ChO.skip i10_1 (by omega) i10_0 (fun z => absurd (t58.mpr z) (by omega))
                    | exact Or.inr ⟨by omega, gp.1, gp.2, rs⟩
                    | exact ChO.stay i10_1 (by assumption)
                    | exact Or.inl ⟨rfl, fun z => by
                        have q := (hf 0).mpr (by omega)
                        rw [← x3e, z] at q
                        exact Bt_0 q, fun j h => absurd h (by omega)⟩) (by omega))
                · replace q70 : ¬ ((r67 : Int) = 0) := q70
                  refine Tx.iload hC te_96_73 rfl ?_
                  refine Tx.istore_n hC te_96_75 rfl ?_
                  refine Tx.iload hC te_96_76 rfl ?_
                  refine Tx.istore_n hC te_96_78 rfl ?_
                  refine Tx.iincW hC te_96_79 rfl rfl (fun z72 z72i z72e => ?_)
                  unfold InI at z72i z72e
                  first | replace z72e := z72e (by omega) | clear z72e
                  refine Tx.goto hC (t := 10) te_96_82 (by decide) ?_
                  exact Tx.weak (by repeat' (first | exact trivial | exact rfl | constructor)) (ih_10 x4 r60 z72 (by omega) (by
                    first
                    | exact ChO.skip i10_1 (by omega) i10_0 (fun z => absurd (t58.mpr z) (by omega))
                    | exact Or.inr ⟨by omega, gp.1, gp.2, rs⟩
                    | exact ChO.stay i10_1 (by assumption)
                    | exact Or.inl ⟨rfl, fun z => by
                        have q := (hf 0).mpr (by omega)
                        rw [← r60e, z] at q
                        exact Bt_0 q, fun j h => absurd h (by omega)⟩) (by omega))
  refine Tx.iconst hC te_96_0 rfl ?_
  refine Tx.istore_n hC te_96_1 rfl ?_
  refine Tx.aload_n hC te_96_2 rfl ?_
  refine Tx.getI hC te_96_3 rfl rfl rfl (fun v73 v73e v73i => ?_)
  unfold InI at v73i
  refine Tx.istore_n hC te_96_6 rfl ?_
  refine Tx.iconst hC te_96_7 rfl ?_
  refine Tx.istore hC te_96_8 rfl ?_
  exact l_10 _ (-1) v73 0 (by omega) (by
    first
    | exact ChO.skip i10_1 (by omega) i10_0 (fun z => absurd (t58.mpr z) (by omega))
    | exact Or.inr ⟨by omega, gp.1, gp.2, rs⟩
    | exact ChO.stay i10_1 (by assumption)
    | exact Or.inl ⟨rfl, fun z => by
        have q := (hf 0).mpr (by omega)
        rw [← v73e, z] at q
        exact Bt_0 q, fun j h => absurd h (by omega)⟩) (Nat.lt_succ_self _)
end
section
/-! settle by how many are left; findFirst: what holds between ops and between slots -/
theorem cnR_le {P G : Nat → Prop} : ∀ n : Nat, cnR P G n ≤ n
  | 0 => Int.le_refl _
  | n + 1 => by
    have := cnR_le (P := P) (G := G) n
    have := cIf.rg (c := G n ∧ ¬ P n) (show (0 : Int) ≤ 1 ∧ (1 : Int) ≤ 1 by omega) (show (0 : Int) ≤ 0 ∧ (0 : Int) ≤ 1 by omega)
    unfold cnR
    omega
theorem f_96e {S : Nat × (Nat → Int32)} {n : Nat} {p : Prb} {W : Nat → Nat → Int} {nn : Int} {G : Nat → Prop} (hP : PrW p) (hW : WyC p W nn) (hWr : ∀ b c, tie p.E b c → -801 ≤ W b c) (hG : ClG p G) : ∀ (c : Nat) (y : Int) (P : Nat → Prop) (mem : MM) (K : Int → MM → Prop) (E : Nat → MM → Prop), 0 ≤ y → y + c ≤ 8 → cnR P G p.n ≤ c → StS p mem → StD p W P mem → (∀ j : Nat, Bt (mem 21 3) j ↔ (j < p.n ∧ G j)) → (∀ m', BkX P mem m' → FndG p P G mem m' → K 1 m') → (∀ m', BkX P mem m' → (∀ a, m' 23 a = mem 23 a) → (∀ w, ¬ PlnG p P G mem w) → K 0 m') → CQI (Ex S (n + c + 4)) 96 [.inr 21, .inl y] mem K E := by
  intro c
  induction c with
  | zero =>
    intro y P mem K E h0 hy hc hS hD hM H1 H0
    exact g_96e (n := n) hP hW hWr hG hS hD hM ⟨h0, by omega⟩ (fun o z m K' E' hz ho g np _ _ _ _ _ => by
      exfalso
      have a := cnR_plus (P := P) g np p.n
      have b := cnR_ge (P := plusP P o) (G := G) p.n
      rw [cIf.y ho] at a
      omega) H1 H0
  | succ c ih =>
    intro y P mem K E h0 hy hc hS hD hM H1 H0
    exact g_96e (n := n + (c + 1)) hP hW hWr hG hS hD hM ⟨h0, by omega⟩ (fun o z m K' E' hz ho g np s d b k1 k0 => by
      have a := cnR_plus (P := P) g np p.n
      rw [cIf.y ho] at a
      exact ih z (plusP P o) m K' E' (by omega) (by omega) (by omega) s d b k1 k0) H1 H0
theorem f_96s {S : Nat × (Nat → Int32)} {n : Nat} {p : Prb} {W : Nat → Nat → Int} {nn : Int} {P G : Nat → Prop} {mem : MM} {K : Int → MM → Prop} {E : Nat → MM → Prop} (hP : PrW p) (hW : WyC p W nn) (hWr : ∀ b c, tie p.E b c → -801 ≤ W b c) (hG : ClG p G) (hS : StS p mem) (hD : StD p W P mem) (hM : ∀ j : Nat, Bt (mem 21 3) j ↔ (j < p.n ∧ G j)) (H1 : ∀ m', BkX P mem m' → FndG p P G mem m' → K 1 m') (H0 : ∀ m', BkX P mem m' → (∀ a, m' 23 a = mem 23 a) → (∀ w, ¬ PlnG p P G mem w) → K 0 m') : CQI (Ex S (n + 13)) 96 [.inr 21, .inl 0] mem K E := f_96e (n := n + 1) hP hW hWr hG 8 0 P mem K E (by omega) (by omega) (by have := cnR_le (P := P) (G := G) p.n; have := hS.n8; omega) hS hD hM H1 H0
def Shr (p : Prb) (m : MM) : Prop := ∀ u : Nat, u < 3 → ∀ j : Nat, Bt (m 26 u) j ↔ j < p.n ∧ p.un j = (u : Int)
def FfI (p : Prb) (W : Nat → Nat → Int) (m : MM) (x : Int) : Prop := StS p m ∧ StD p W (fun j : Nat => (j : Int) < x) m ∧ Shr p m ∧ (∀ a : Nat, (a : Int) < x → ∃ w, FsbM p (LnkB m a) w ∧ (∀ b : Nat, (b : Int) < x → LnkB m a b → w b = m 22 b) ∧ ∀ b, b < p.n → LnkB m a b → m 23 b = w b) ∧ ∀ L, LstP p L → ∀ j : Nat, (j : Int) < x → j < p.n → m 22 j = L j
def FfS (p : Prb) (W : Nat → Nat → Int) (m0 : MM) (x x3 x4 : Int) : Prop := FfI p W m0 x ∧ (0 ≤ x ∧ x < p.n) ∧ (∀ j : Nat, Bt (m0 21 3) j ↔ LnkB m0 x.toNat j) ∧ ((x3 = 1 ∧ (∀ a : Nat, (a : Int) < x → ¬ LnkB m0 x.toNat a) ∧ ∀ i, Bt x4 i ↔ i = 0) ∨ (x3 = 0 ∧ (∃ a : Nat, (a : Int) < x ∧ LnkB m0 x.toNat a) ∧ ∀ i, Bt x4 i ↔ OpnB m0 p.d x.toNat i))
def FfD (p : Prb) (W : Nat → Nat → Int) (m0 m : MM) (x x3 x5 x6 : Int) : Prop := (x5 = 0 ∧ BkX (fun j : Nat => (j : Int) < x) m0 m ∧ (∀ a, m 23 a = m0 23 a) ∧ ∀ w, PlnG p (fun j : Nat => (j : Int) < x) (LnkB m0 x.toNat) m0 w → (x3 = 1 → w x.toNat = 0) → x6 ≤ w x.toNat) ∨ (x5 = 1 ∧ FfI p W m (x + 1))
def FfP (p : Prb) (m : MM) : Prop := (SkO m p.d ∧ m 21 0 = (p.n : Int)) ∧ (∀ i : Nat, Bt (m 21 2) i ↔ (i : Int) < p.d) ∧ (∀ o, o < p.n → m 24 o = p.un o ∧ ∀ r : Nat, r < 4 → m 27 (4 * o + r) = ask p.d (p.bu o) r) ∧ (∀ u, u < 3 → m 25 u = p.ct u) ∧ Shr p m ∧ (∀ i, ¬ Bt (m 21 4) i) ∧ ∀ u, u < 3 → PlnX (m 28) p.d u (fun _ => 0)
def TiW (p : Prb) (W : Nat → Nat → Int) (m : MM) : Prop := (∀ a b, a < p.n → b < p.n → ¬ a = b → (TiB m a b ↔ tie p.E a b)) ∧ (∀ a b, tie p.E a b → m 20 (8 * a + b) = W a b ∧ -801 ≤ W a b ∧ W a b ≤ 1602) ∧ ∀ a, (∃ j, tie p.E a j) → -100000 ≤ m 20 (8 * a + a) ∧ m 20 (8 * a + a) ≤ 0
section FND
variable {p : Prb} {W : Nat → Nat → Int} {nn : Int} {P : Nat → Prop} {m m0 m1 m2 m3 m4 mem m' : MM} {o a b c j : Nat} {s x x3 x4 x5 x6 y : Int}
theorem NbB.v (hP : PrW p) (hS : StS p m) (hR : Shr p m) (ha : a < p.n) : NbB m a b ↔ (b < p.n ∧ p.un b = p.un a) ∨ tie p.E a b := by
  have u := hS.un ha
  have e := (hS.2.2.2.1 a ha).1
  have r := hR (m 24 a).toNat (by omega) b
  have t := hS.2.2.2.2.2.1 a ha b
  unfold NbB
  rw [r, t, show (((m 24 a).toNat : Nat) : Int) = p.un a by omega]
  exact ⟨fun w => w.elim (fun z => Or.inr z.2) Or.inl, fun w => w.elim Or.inr (fun z => Or.inl ⟨(z.v hP).2, z⟩)⟩
theorem LnkB.rf : LnkB m o o := fun _ _ h => h
theorem LnkB.tr (h : LnkB m a b) (g : LnkB m b c) : LnkB m a c := fun M k q => g M k (h M k q)
theorem LnkB.lt (hP : PrW p) (hS : StS p m) (hR : Shr p m) (ho : o < p.n) (h : LnkB m o j) : j < p.n := h (fun i => i < p.n) (fun a b _ la n => by
  rcases (NbB.v hP hS hR la).mp n with w | w
  · exact w.1
  · exact (w.v hP).2) ho
theorem LnkB.cl (hP : PrW p) (hS : StS p m) (hR : Shr p m) (ho : o < p.n) : ClG p (LnkB m o) := by
  have hn := hS.2.1
  exact ⟨fun a b ha hb e g => g.nb (by omega) ((NbB.v hP hS hR ha).mpr (Or.inl ⟨hb, e.symm⟩)), fun a b t g => g.nb (by have := (t.v hP).1; omega) ((NbB.v hP hS hR (t.v hP).1).mpr (Or.inr t))⟩
theorem LnkB.sy (hP : PrW p) (hS : StS p m) (hR : Shr p m) (ha : a < p.n) (h : LnkB m a b) : LnkB m b a := by
  have hn := hS.2.1
  refine (h (fun j => j < p.n ∧ LnkB m j a) (fun x y _ g n => ?_) ⟨ha, LnkB.rf⟩).2
  have yn : y < p.n := by
    rcases (NbB.v hP hS hR g.1).mp n with w | w
    · exact w.1
    · exact (w.v hP).2
  refine ⟨yn, ((LnkB.rf (m := m) (o := y)).nb (by omega) ((NbB.v hP hS hR yn).mpr ?_)).tr g.2⟩
  rcases (NbB.v hP hS hR g.1).mp n with w | w
  · exact Or.inl ⟨g.1, w.2.symm⟩
  · exact Or.inr w.sy
theorem LnkB.cgf (e : ∀ A i, (A = 21 ∧ i = 0) ∨ A = 24 ∨ A = 26 ∨ A = 34 → m' A i = m A i) : LnkB m' = LnkB m := by
  have q : ∀ a b, NbB m' a b ↔ NbB m a b := fun a b => by unfold NbB; rw [e 34 a (by omega), e 24 a (by omega), e 26 _ (by omega)]
  have z := e 21 0 (by omega)
  exact funext fun a => funext fun b => propext ⟨fun h M k g => h M (fun c d hc mc n => k c d (by omega) mc ((q c d).mp n)) g, fun h M k g => h M (fun c d hc mc n => k c d (by omega) mc ((q c d).mpr n)) g⟩
theorem FfI.cg (h : FfI p W m x) (e : ∀ A i, ¬ (A = 21 ∧ i = 3) → m' A i = m A i) : FfI p W m' x := by
  have e22 : m' 22 = m 22 := funext fun i => e 22 i (by omega)
  have e23 : m' 23 = m 23 := funext fun i => e 23 i (by omega)
  have e28 : m' 28 = m 28 := funext fun i => e 28 i (by omega)
  have eT : TM m' = TM m := funext fun a => funext fun b => e 30 _ (by omega)
  have eL : LnkB m' = LnkB m := LnkB.cgf (fun A i q => e A i (by omega))
  refine ⟨h.1.cg (fun A i q => e A i (by omega)) (fun o _ => by rw [eT]), ⟨fun i => by rw [e 21 4 (by omega)]; exact h.2.1.1 i, by rw [e28, e22]; exact h.2.1.2.1, by rw [e22, eT]; exact h.2.1.2.2⟩, fun u hu j => by rw [e 26 u (by omega)]; exact h.2.2.1 u hu j, ?_, ?_⟩
  · rw [eL, e22, e23]; exact h.2.2.2.1
  · rw [e22]; exact h.2.2.2.2
theorem plt {x : Int} {o : Nat} (h : x = (o : Int)) : plusP (fun j : Nat => (j : Int) < x) o = fun j : Nat => (j : Int) < x + 1 := funext fun j => propext (show ((j : Int) < x ∨ j = o) ↔ (j : Int) < x + 1 by omega)
theorem FfI.nxt (hP : PrW p) (h : FfI p W m0 x) (hx : x = (o : Int)) (ho : o < p.n) (h1 : StS p m1) (h2 : StD p W (plusP (fun j : Nat => (j : Int) < x) o) m1) (h3 : Shr p m1) (eL : LnkB m1 = LnkB m0) (e22 : ∀ b : Nat, (b : Int) < x → m1 22 b = m0 22 b) (es : m1 22 o = s) {w : Nat → Int} (w1 : FsbM p (LnkB m0 o) w) (w2 : ∀ b : Nat, (b : Int) < x → LnkB m0 o b → w b = m0 22 b) (w3 : w o = s) (w4 : ∀ b, b < p.n → LnkB m0 o b → m1 23 b = w b) (w5 : ∀ b, ¬ LnkB m0 o b → m1 23 b = m0 23 b) (hm : ∀ L, LstP p L → s ≤ L o) : FfI p W m1 (x + 1) := by
  have hS := h.1
  have hR := h.2.2.1
  have cl := LnkB.cl hP hS hR ho
  rw [plt hx] at h2
  refine ⟨h1, h2, h3, fun a ha => ?_, fun L hL j hj hn => ?_⟩
  · rw [eL]
    by_cases q : LnkB m0 o a
    · have eq : LnkB m0 a = LnkB m0 o := funext fun b => propext ⟨fun g => q.tr g, fun g => (q.sy hP hS hR ho).tr g⟩
      rw [eq]
      refine ⟨w, w1, fun b hb g => ?_, w4⟩
      by_cases c : b = o
      · subst c; rw [w3, es]
      · rw [w2 b (by omega) g, e22 b (by omega)]
    · have na : (a : Int) < x := by
        by_cases c : a = o
        · exact absurd (by rw [c]; exact LnkB.rf) q
        · omega
      obtain ⟨w', v1, v2, v3⟩ := h.2.2.2.1 a na
      refine ⟨w', v1, fun b hb g => ?_, fun b hb g => ?_⟩
      · have c : ¬ b = o := fun c => q (by rw [c] at g; exact g.sy hP hS hR (by omega))
        rw [v2 b (by omega) g, e22 b (by omega)]
      · rw [w5 b (fun z => q (z.tr (g.sy hP hS hR (by omega)))), v3 b hb g]
  · by_cases c : j = o
    · subst c
      have r1 := hm L hL
      have r2 := hL.le hP cl w1 hn (fun b hb g => by rw [w2 b (by omega) g]; exact h.2.2.2.2 L hL b (by omega) (by omega)) LnkB.rf
      omega
    · rw [e22 j (by omega)]; exact h.2.2.2.2 L hL j (by omega) hn
theorem FfI.pln (hP : PrW p) (h : FfI p W m0 x) {L : Nat → Int} (hL : LstP p L) (G : Nat → Prop) (hx : x ≤ p.n) : PlnG p (fun j : Nat => (j : Int) < x) G m0 L := ⟨hL.1.m G, fun a pa _ => (h.2.2.2.2 L hL a pa (by have : (a : Int) < x := pa; omega)).symm, fun a b hab hb _ _ t => hL.tw hP (h.1.tw hP (by omega) hb t) hab hb⟩
theorem StS.us1c (hS : StS p m) (ho : o < p.n) {k : Int} : us1 p.d x (p.bu o) k ≤ p.ct (p.un o).toNat := by
  have hd := hS.1.2.1.2
  have hu := hS.un ho
  have hc := hS.ct (u := (p.un o).toNat) (by omega)
  rw [us1_spr (by omega)]
  by_cases q : ∃ r : Nat, r < 4 ∧ 0 < ask p.d (p.bu o) r ∧ (x + (r : Int)) % p.d = k
  · obtain ⟨r, r1, r2, r3⟩ := q
    have rd : (r : Int) < p.d := by
      by_cases w : (r : Int) < p.d
      · exact w
      · rw [ask_out (by omega) (Or.inl (by omega))] at r2
        omega
    rw [← r3, spr_at (by omega) ⟨by omega, by omega, rd⟩]
    exact (hS.ak ho r1).2
  · rw [spr_off (by omega) (fun r a b c e => q ⟨r.toNat, by omega, by rw [show ((r.toNat : Nat) : Int) = r by omega]; exact c, by rw [show ((r.toNat : Nat) : Int) = r by omega]; exact e⟩)]
    omega
theorem StS.lead (hP : PrW p) (hS : StS p m) (hD : StD p W P m) (hR : Shr p m) (ho : o < p.n) (hN : ∀ a, P a → ¬ LnkB m o a) : OpnB m p.d o 0 := by
  have hd := hS.1.2.1.2
  have cl := LnkB.cl hP hS hR ho
  have g := (hS.opn (x := 0) hP hD ho ⟨by omega, by omega⟩).mpr ⟨fun k _ _ => ?_, fun r pr t => absurd (cl.2 o r t LnkB.rf) (hN r pr), fun r pr _ t => ?_⟩
  · exact g
  · rw [usM_none p.n (fun a ha q => hN a q.1 (cl.1 o a ho ha q.2.symm LnkB.rf))]
    have := hS.us1c (x := 0) ho (k := k)
    omega
  · have rn := (hD.2.2.1 r pr).1
    exact absurd (cl.1 o r ho rn (by rw [← (hS.2.2.2.1 o ho).1, ← (hS.2.2.2.1 r rn).1]; exact t.2.2.1) LnkB.rf) (hN r pr)
theorem FfS.np : ¬ (fun j : Nat => (j : Int) < x) x.toNat := fun z => absurd (show ((x.toNat : Nat) : Int) < x from z) (by omega)
theorem FfS.opn (hP : PrW p) (h : FfS p W m0 x x3 x4) (hb : Bt x4 j) : OpnB m0 p.d x.toNat j := by
  obtain ⟨h1, h2, h3, h4⟩ := h
  rcases h4 with w | w
  · rw [(w.2.2 j).mp hb]
    exact StS.lead hP h1.1 h1.2.1 h1.2.2.1 (by omega) w.2.1
  · exact (w.2.2 j).mp hb
theorem FfD.z (h : FfD p W m0 m x x3 x5 x6) (e : x5 = 0) : BkX (fun j : Nat => (j : Int) < x) m0 m ∧ (∀ a, m 23 a = m0 23 a) ∧ ∀ w, PlnG p (fun j : Nat => (j : Int) < x) (LnkB m0 x.toNat) m0 w → (x3 = 1 → w x.toNat = 0) → x6 ≤ w x.toNat := by
  rcases h with h | h
  · exact h.2
  · have := h.1; omega
theorem FfD.one (h : FfD p W m0 m x x3 x5 x6) (e : ¬ x5 = 0) (q : y = x + 1) : FfI p W m y := by
  rcases h with h | h
  · exact absurd h.1 e
  · rw [q]; exact h.2
theorem FfD.ini (h : FfS p W m0 x x3 x4) : FfD p W m0 m0 x x3 0 0 := Or.inl ⟨rfl, BkX.rf, fun _ => rfl, fun w hw _ => (hw.1.1 x.toNat (by have := h.2.1; omega) LnkB.rf).1⟩
theorem FfD.shut (hP : PrW p) (hW : WyC p W nn) (hs : FfS p W m0 x x3 x4) (h : FfD p W m0 m x x3 x5 x6) (e5 : x5 = 0) (e : y = x6 + 1) (h0 : 0 ≤ x6) (nb : ¬ Bt x4 x6.toNat) : FfD p W m0 m x x3 x5 y := by
  have g := h.z e5
  obtain ⟨h1, h2, h3, h4⟩ := hs
  refine Or.inl ⟨e5, g.1, g.2.1, fun w hw l => ?_⟩
  have k := g.2.2 w hw l
  by_cases q : w x.toNat = x6
  · exfalso
    rcases h4 with c | c
    · exact nb ((c.2.2 _).mpr (by have := l c.1; omega))
    · refine nb ((c.2.2 _).mpr ?_)
      have z := h1.1.opw hP hW h1.2.1 (LnkB.cl hP h1.1 h1.2.2.1 (o := x.toNat) (by omega)) hw.1 hw.2.1 hw.2.2 (by omega) LnkB.rf FfS.np
      rw [q] at z
      exact z
  · omega
theorem FfI.min (hP : PrW p) (hs : FfS p W m0 x x3 x4) (h : ∀ w, PlnG p (fun j : Nat => (j : Int) < x) (LnkB m0 x.toNat) m0 w → (x3 = 1 → w x.toNat = 0) → x6 ≤ w x.toNat) : ∀ L, LstP p L → x6 ≤ L x.toNat := fun L hL => by
  obtain ⟨h1, h2, h3, h4⟩ := hs
  refine h L (h1.pln hP hL _ (by omega)) (fun z => ?_)
  rcases h4 with c | c
  · exact hL.lead hP (LnkB.cl hP h1.1 h1.2.2.1 (o := x.toNat) (by omega)) (by omega) (fun a ha => c.2.1 a (by omega)) LnkB.rf
  · have := c.1; omega
theorem FfD.zero (hP : PrW p) (hs : FfS p W m0 x x3 x4) (h : FfD p W m0 m x x3 x5 x6) (e5 : x5 = 0) (q : p.d ≤ x6) : ∀ v, ¬ Fsb p v := fun v hv => by
  obtain ⟨L, hL⟩ := lst_ex hv
  have g := FfI.min hP hs (h.z e5).2.2 L hL
  have k := (hL.1.1 x.toNat (by have := hs.2.1; omega)).2
  omega
theorem BkX.plc {d : Int} (hB : BkX P m0 m) (hK : PlcK m m2 d o s) {A i : Nat} (q : (A = 21 ∧ i = 0) ∨ A = 24 ∨ A = 26 ∨ A = 34) : m2 A i = m0 A i := (hK.cells.2.2 A i (by omega) (by omega) (by omega) (by omega) (by omega)).trans (hB.at (by omega))
theorem FfD.known (hP : PrW p) (hs : FfS p W m0 x x3 x4) (h : FfD p W m0 m x x3 x5 x6) (e5 : x5 = 0) (e3 : x3 = 0) (ew : x6 = m 23 x.toNat) (hK : PlcK m m2 p.d x.toNat x6) (hSD : StS p m2 ∧ StD p W (plusP (fun j : Nat => (j : Int) < x) x.toNat) m2) : FfD p W m0 m2 x x3 1 y := by
  have g := h.z e5
  have mn := FfI.min hP hs g.2.2
  obtain ⟨h1, h2, h3, h4⟩ := hs
  obtain ⟨c1, c2, c3⟩ := hK.cells
  have e23 : ∀ a, m2 23 a = m0 23 a := fun a => (c3 23 a (by omega) (by omega) (by omega) (by omega) (by omega)).trans (g.2.1 a)
  have ho : x.toNat < p.n := by omega
  have hx : x = ((x.toNat : Nat) : Int) := by omega
  rcases h4 with c | c
  · have := c.1; omega
  · obtain ⟨a, ha, ga⟩ := c.2.1
    have eq : LnkB m0 a = LnkB m0 x.toNat := funext fun b => propext ⟨fun z => ga.tr z, fun z => (ga.sy hP h1.1 h1.2.2.1 ho).tr z⟩
    obtain ⟨w, w1, w2, w3⟩ := h1.2.2.2.1 a ha
    rw [eq] at w1 w2 w3
    refine Or.inr ⟨rfl, h1.nxt hP hx ho hSD.1 hSD.2 (fun u hu j => ?_) (LnkB.cgf (fun A i q => g.1.plc hK q)) (fun b hb => ?_) (by rw [c1]; exact plusS.eq) w1 w2 ?_ (fun b hb l => (e23 b).trans (w3 b hb l)) (fun b _ => e23 b) mn⟩
    · rw [g.1.plc hK (by omega)]; exact h1.2.2.1 u hu j
    · rw [c1, plusS.ne (by omega)]; exact g.1.2.2.1 b hb
    · rw [← w3 _ ho LnkB.rf, ew]; exact (g.2.1 _).symm
theorem FfD.found (hP : PrW p) (hs : FfS p W m0 x x3 x4) (h : FfD p W m0 m x x3 x5 x6) (e5 : x5 = 0) (hK : PlcK m m2 p.d x.toNat x6) (hSD : StS p m2 ∧ StD p W (plusP (fun j : Nat => (j : Int) < x) x.toNat) m2) (hB : BkX (plusP (fun j : Nat => (j : Int) < x) x.toNat) m2 m3) (hF : FndG p (plusP (fun j : Nat => (j : Int) < x) x.toNat) (LnkB m0 x.toNat) m2 m3) : FfD p W m0 m3 x x3 1 y := by
  have g := h.z e5
  have mn := FfI.min hP hs g.2.2
  obtain ⟨h1, h2, h3, h4⟩ := hs
  obtain ⟨c1, c2, c3⟩ := hK.cells
  have e23 : ∀ a, m2 23 a = m0 23 a := fun a => (c3 23 a (by omega) (by omega) (by omega) (by omega) (by omega)).trans (g.2.1 a)
  have ho : x.toNat < p.n := by omega
  have hx : x = ((x.toNat : Nat) : Int) := by omega
  obtain ⟨⟨w, w1, w2, w3⟩, w4⟩ := hF
  have rr : ∀ A i, (A = 21 ∧ i = 0) ∨ A = 24 ∨ A = 26 ∨ A = 34 → m3 A i = m0 A i := fun A i q => (hB.at (by omega)).trans (g.1.plc hK q)
  refine Or.inr ⟨rfl, h1.nxt hP hx ho (hB.sts hSD.1) (hB.std hP hSD.1 hSD.2) (fun u hu j => ?_) (LnkB.cgf rr) (fun b hb => ?_) ?_ w1 (fun b hb l => ?_) ?_ w3 (fun b nb => (w4 b nb).trans (e23 b)) mn⟩
  · rw [rr 26 u (by omega)]; exact h1.2.2.1 u hu j
  · rw [hB.2.2.1 b (Or.inl hb), c1, plusS.ne (by omega)]; exact g.1.2.2.1 b hb
  · rw [hB.2.2.1 _ (Or.inr rfl), c1]; exact plusS.eq
  · rw [w2 b (Or.inl hb) l, c1, plusS.ne (by omega)]; exact g.1.2.2.1 b hb
  · rw [w2 _ (Or.inr rfl) LnkB.rf, c1]; exact plusS.eq
theorem FfD.none (hP : PrW p) (hs : FfS p W m0 x x3 x4) (h : FfD p W m0 m x x3 x5 x6) (e5 : x5 = 0) (e : y = x6 + 1) (hr : 0 ≤ x6 ∧ x6 ≤ 11) (hK : PlcK m m2 p.d x.toNat x6) (hB : BkX (plusP (fun j : Nat => (j : Int) < x) x.toNat) m2 m3) (e3 : ∀ a, m3 23 a = m2 23 a) (hN : ∀ w, ¬ PlnG p (plusP (fun j : Nat => (j : Int) < x) x.toNat) (LnkB m0 x.toNat) m2 w) (hL : LftX m3 m4 x.toNat) : FfD p W m0 m4 x x3 0 y := by
  have g := h.z e5
  obtain ⟨h1, h2, h3, h4⟩ := hs
  obtain ⟨c1, c2, c3⟩ := hK.cells
  have hS1 := g.1.sts h1.1
  have hD1 := g.1.std hP h1.1 h1.2.1
  refine Or.inl ⟨rfl, g.1.tr (BkX.back hP hS1 (by omega) FfS.np hD1.1 hK hB hL hr), fun a => ?_, fun w hw l => ?_⟩
  · rw [hL.1 23 a (by unfold pLf; omega), e3, c3 23 a (by omega) (by omega) (by omega) (by omega) (by omega)]
    exact g.2.1 a
  · have k := g.2.2 w hw l
    by_cases q : w x.toNat = x6
    · exact absurd (hw.plus g.1 hK q) (hN w)
    · omega
theorem FfD.ring (hP : PrW p) (hW : WyC p W nn) (hs : FfS p W m0 x x3 x4) (h : FfD p W m0 m x x3 x5 x6) (e5 : x5 = 0) (e : y = x6 + 1) (hr : 0 ≤ x6 ∧ x6 ≤ 11) (hK : PlcK m m2 p.d x.toNat x6) (hN : ∀ τ, ¬ PhX p W (fun j : Nat => (j : Int) < x) m x.toNat x6 τ) (hL : LftX m2 m4 x.toNat) : FfD p W m0 m4 x x3 0 y := by
  have g := h.z e5
  obtain ⟨h1, h2, h3, h4⟩ := hs
  obtain ⟨c1, c2, c3⟩ := hK.cells
  have hS1 := g.1.sts h1.1
  have hD1 := g.1.std hP h1.1 h1.2.1
  refine Or.inl ⟨rfl, g.1.tr (BkX.back hP hS1 (by omega) FfS.np hD1.1 hK BkX.rf hL hr), fun a => ?_, fun w hw l => ?_⟩
  · rw [hL.1 23 a (by unfold pLf; omega), c3 23 a (by omega) (by omega) (by omega) (by omega) (by omega)]
    exact g.2.1 a
  · have k := g.2.2 w hw l
    by_cases q : w x.toNat = x6
    · obtain ⟨τ, t1, t2⟩ := AbS.tm (s := m 22) hP hW (LnkB.cl hP h1.1 h1.2.2.1 (o := x.toNat) (by omega)) hw.1 (fun a pa ga => (hw.2.1 a pa ga).trans (g.1.2.2.1 a pa).symm) (op := x.toNat) (by omega) LnkB.rf
      rw [q] at t2
      exact absurd ⟨t1, t2⟩ (hN τ)
    · omega
theorem FfI.fin (hP : PrW p) (hW : WyC p W nn) (h : FfI p W m x) (q : (p.n : Int) ≤ x) : LstP p (m 22) := by
  have cl : ClG p (fun _ => True) := ⟨fun _ _ _ _ _ _ => trivial, fun _ _ _ _ => trivial⟩
  have f := AbS.fin hP hW h.2.1.2.2 cl (fun o ho _ => show (o : Int) < x by omega)
  have g : Fsb p (m 22) := fsb_all hP (fun a ha => ⟨fun _ => True, trivial, cl, f⟩)
  obtain ⟨L, hL⟩ := lst_ex g
  have e : ∀ j, j < p.n → m 22 j = L j := fun j hj => h.2.2.2.2 L hL j (by omega) hj
  exact ⟨g, fun v hv j hj k => by rw [e j hj]; exact hL.2 v hv j hj (fun i hi => (k i hi).trans (e i (by omega)))⟩
theorem FfP.ini (hP : PrW p) (h : FfP p mem) (t : TiW p W mem) (F1 : Frm pRt mem m1) (a1 : ∀ i, i < 64 → m1 30 i = mem 20 i) (b1 : ∀ o : Nat, (o : Int) < mem 21 0 → InU (fun j => ¬ j = o ∧ TiB mem o j) (m1 34 o) (mem 21 0)) (F2 : Frm pR35 m1 m2) (a2 : ∀ o : Nat, (o : Int) < m1 21 0 → InU (fun j => ¬ j = o ∧ TwB m1 o j) (m2 35 o) (m1 21 0)) : FfI p W m2 0 := by
  obtain ⟨⟨hk, hn⟩, hf, ha, hc, hR, hp, hx⟩ := h
  obtain ⟨t1, t2, t3⟩ := t
  have n8 := hk.1
  have e1 : ∀ A i, ¬ A = 30 → ¬ A = 34 → m1 A i = mem A i := fun A i a b => F1 A i (by unfold pRt; omega)
  have e2 : ∀ A i, ¬ A = 35 → m2 A i = m1 A i := fun A i a => F2 A i (by unfold pR35; omega)
  have e : ∀ A i, ¬ A = 30 → ¬ A = 34 → ¬ A = 35 → m2 A i = mem A i := fun A i a b c => (e2 A i c).trans (e1 A i a b)
  have eT : ∀ a b, a < p.n → b < p.n → TM m2 a b = mem 20 (8 * a + b) := fun a b ha hb => (e2 30 _ (by omega)).trans (a1 _ (by omega))
  have n1 : m1 21 0 = mem 21 0 := e1 21 0 (by omega) (by omega)
  have np : ∀ j : Nat, ¬ (j : Int) < 0 := fun j => by omega
  have us : ∀ u k : Int, usM (fun j : Nat => (j : Int) < 0) p.un p.bu p.d (m2 22) u k p.n = 0 := fun u k => usM_none p.n (fun o _ q => np o q.1)
  refine ⟨⟨hk.cg (fun A i q => e A i (by omega) (by omega) (by omega)), (e 21 0 (by omega) (by omega) (by omega)).trans hn, fun i => by rw [e 21 2 (by omega) (by omega) (by omega)]; exact hf i, fun o ho => ⟨(e 24 o (by omega) (by omega) (by omega)).trans (ha o ho).1, fun r hr => (e 27 _ (by omega) (by omega) (by omega)).trans ((ha o ho).2 r hr)⟩, fun u hu => (e 25 u (by omega) (by omega) (by omega)).trans (hc u hu), fun o ho j => ?_, fun o ho j => ?_, fun o ho z => ?_⟩, ⟨fun i => ?_, fun u hu => ?_, ⟨fun o z => absurd z (np o), fun u k a b c d => ?_, ⟨fun a τ hτ b c hb hc hn => ?_, fun b c q => ?_, fun b c q _ => ?_, fun a b z => absurd z (np a), fun b c q => ?_⟩, fun a b z => absurd z (np a)⟩⟩, fun u hu j => by rw [e 26 u (by omega) (by omega) (by omega)]; exact hR u hu j, fun a z => absurd z (np a), fun L _ j z => absurd z (np j)⟩
  · rw [e2 34 o (by omega), b1 o (by omega) j, hn]
    constructor
    · exact fun ⟨q1, q2, q3⟩ => ⟨by omega, (t1 o j ho (by omega) (fun z => q2 z.symm)).mp q3⟩
    · exact fun ⟨q1, q2⟩ => ⟨by omega, fun z => q2.1 z.symm, (t1 o j ho q1 q2.1).mpr q2⟩
  · rw [a2 o (by omega) j, n1, hn, TwB.fr F2]
    exact ⟨fun q => ⟨by omega, q.2⟩, fun q => ⟨by omega, q.2⟩⟩
  · rw [eT o o ho ho]; exact t3 o z
  · rw [e 21 4 (by omega) (by omega) (by omega)]
    exact ⟨fun z => absurd z (hp i), fun z => absurd z (np i)⟩
  · have z := (hx u hu).cg (V := fun y => usM (fun j : Nat => (j : Int) < 0) p.un p.bu p.d (m2 22) (u : Int) (y : Int) p.n) (fun y _ => (us _ _).symm)
    intro k y h1 h2
    rw [e 28 _ (by omega) (by omega) (by omega)]
    exact z k y h1 h2
  · rw [us]; exact hP.2.2.1 u.toNat (by omega)
  · have q := ((hb.sy).tr hc).ti hn
    rw [eT b c (q.v hP).1 (q.v hP).2, (t2 b c q).1]
    exact hτ.1 b c hb hc hn
  · rw [eT b c (q.v hP).1 (q.v hP).2, (t2 b c q).1]; exact Int.le_refl _
  · rw [eT b c (q.v hP).1 (q.v hP).2, (t2 b c q).1]
  · rw [eT b c (q.v hP).1 (q.v hP).2, (t2 b c q).1]; exact (t2 b c q).2
theorem BkX.frs (h : BkX P m m') : FrS m m' := ⟨fun A i q => by
  unfold pSk at q
  exact h.1 A i (by omega) (by omega) (by omega) (by omega) (by omega) (by omega) (by omega), h.2.2.2.2.2⟩
theorem PlcK.frs {d : Int} (h : PlcK m m' d o s) (hs : 0 ≤ s ∧ s ≤ 11) : FrS m m' := by
  obtain ⟨c1, c2, c3⟩ := h.cells
  refine ⟨fun A i q => ?_, fun a => ?_⟩
  · unfold pSk at q
    exact c3 A i (by omega) (by omega) (by omega) (by omega) (by omega)
  · rw [c1]
    unfold plusS
    split
    · exact Or.inr hs
    · exact Or.inl rfl
theorem LftX.frs (h : LftX m m' o) : FrS m m' := ⟨h.1.mono (fun A i q => by unfold pLf at q; unfold pSk; omega), fun a => Or.inl (h.1 22 a (by unfold pLf; omega))⟩
end FND
end
