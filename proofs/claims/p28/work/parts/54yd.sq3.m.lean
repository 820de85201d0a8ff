section
/-! laid by wip/hand/tg.py: the seeker, exactly -/
def InU (Q : Nat → Prop) (x k : Int) : Prop := ∀ j : Nat, Bt x j ↔ (j : Int) < k ∧ Q j
theorem InU.ini {Q : Nat → Prop} : InU Q 0 0 := fun j => ⟨fun z => absurd z Bt_0, fun z => absurd z.1 (by omega)⟩
theorem InU.skip {Q : Nat → Prop} {x k k' : Int} (h : InU Q x k) (e : k' = k + 1) (hk : 0 ≤ k) (q : ¬ Q k.toNat) : InU Q x k' := fun j => by
  rw [h j, e]
  refine ⟨fun w => ⟨by omega, w.2⟩, fun w => ⟨?_, w.2⟩⟩
  by_cases c : (j : Int) < k
  · exact c
  · exact absurd (by rw [show k.toNat = j by omega]; exact w.2) q
theorem InU.or {Q : Nat → Prop} {x k k' b1 b : Int} (h : InU Q x k) (e : k' = k + 1) (hk : 0 ≤ k ∧ k < 32) (eb : b = ((fun (x y : Int32) => x ||| y) (Int32.ofInt x) (Int32.ofInt b1)).toInt) (e1 : b1 = ((fun (x y : Int32) => x <<< (y &&& 31)) (Int32.ofInt 1) (Int32.ofInt k)).toInt) (q : Q k.toNat) : InU Q b k' := fun j => by
  rw [Bt_or eb, h j, Bt_bit hk e1, e]
  constructor
  · rintro (⟨w1, w2⟩ | w)
    · exact ⟨by omega, w2⟩
    · exact ⟨by omega, by rw [show j = k.toNat by omega]; exact q⟩
  · rintro ⟨w1, w2⟩
    by_cases c : (j : Int) < k
    · exact Or.inl ⟨c, w2⟩
    · exact Or.inr (by omega)
def TwB (m : MM) (a b : Nat) : Prop := m 34 a = 0 ∧ m 34 b = 0 ∧ m 24 a = m 24 b ∧ ∀ r : Nat, (r : Int) < 4 → m 27 (4 * a + r) = m 27 (4 * b + r)
def pR35 (A _i : Nat) : Prop := A = 35
theorem TwB.fr {m m' : MM} {a b : Nat} (h : Frm pR35 m m') : TwB m' a b ↔ TwB m a b := by
  have e : ∀ A i, ¬ A = 35 → m' A i = m A i := fun A i q => h A i (by unfold pR35; exact q)
  have e27 : ∀ i, m' 27 i = m 27 i := fun i => e 27 i (by omega)
  unfold TwB
  rw [e 34 a (by omega), e 34 b (by omega), e 24 a (by omega), e 24 b (by omega)]
  simp only [e27]
def pR23 (A _i : Nat) : Prop := A = 23
def pRt (A _i : Nat) : Prop := A = 30 ∨ A = 34
def TiB (m : MM) (a b : Nat) : Prop := ¬ m 20 (8 * a + b) = -100000 ∧ ¬ m 20 (8 * b + a) = -100000
def pLf (A i : Nat) : Prop := A = 28 ∨ (A = 21 ∧ i = 4) ∨ A = 30
def MnB (m : MM) (o : Nat) : Prop := ∃ i, i < 8 ∧ ∃ j, j < 8 ∧ ¬ i = j ∧ Bt (m 34 o) i ∧ Bt (m 34 o) j
def LftX (m m' : MM) (o : Nat) : Prop := Frm pLf m m' ∧ (∀ i, m' 28 i = if 4 * (m 24 o).toNat ≤ i ∧ i < 4 * (m 24 o).toNat + 4 then m 29 (4 * o + (i - 4 * (m 24 o).toNat)) else m 28 i) ∧ (∀ i, ¬ i = 4 → m' 21 i = m 21 i) ∧ (∀ j : Nat, Bt (m' 21 4) j ↔ Bt (m 21 4) j ∧ ¬ j = o) ∧ (MnB m o → ∀ i, m' 30 i = if i < 64 then m 31 (64 * o + i) else m 30 i) ∧ (¬ MnB m o → ∀ i, m' 30 i = m 30 i)
theorem f_90e {S : Nat × (Nat → Int32)} {n : Nat} {mem : MM} {K : Int → MM → Prop} {E : Nat → MM → Prop} {a b : Int} (ha : 0 ≤ a ∧ a < 8) (hb : 0 ≤ b ∧ b < 8) (H1 : TwB mem a.toNat b.toNat → K 1 mem) (H0 : ¬ TwB mem a.toNat b.toNat → K 0 mem) : CQI (Ex S (n + 1)) 90 [.inr 21, .inl a, .inl b] mem K E := by
  refine CY.of (k := 1) mt_90 rfl rfl (fun hv => ?_)
  have hC := Ex.mono S n
  have ii_a : InI a := hv (.inl a) (by simp)
  unfold InI at ii_a
  have ii_b : InI b := hv (.inl b) (by simp)
  unfold InI at ii_b
  clear hv
  show Tx (Ex S n) S M_90 (kI K E) 0 0 0 [some (.inr 21), some (.inl a), some (.inl b), none] [] mem
  have l_37 : ∀ (N : Nat) (x3 : Int), (0 ≤ x3) → (mem 34 a.toNat = 0 ∧ mem 34 b.toNat = 0 ∧ mem 24 a.toNat = mem 24 b.toNat) → (∀ r : Nat, (r : Int) < x3 → mem 27 (4 * a.toNat + r) = mem 27 (4 * b.toNat + r)) → ((4 - x3).toNat) < N → Tx (Ex S n) S M_90 (kI K E) 0 0 37 [some (.inr 21), some (.inl a), some (.inl b), some (.inl x3)] [] mem := by
    intro N
    induction N with
    | zero => intros; omega
    | succ N ih_37 =>
      intro x3 i37_0 i37_1 i37_2 hN_37 
      refine Tx.iload_n hC te_90_37 rfl ?_
      refine Tx.iconst hC te_90_38 rfl ?_
      refine Tx.icmp hC (t := 73) te_90_39 (by decide) (fun q1 => ?_) (fun q1 => ?_)
      · replace q1 : 4 ≤ (x3 : Int) := q1
        refine Tx.iconst hC te_90_73 rfl ?_
        exact Tx.bret hC te_90_74 rfl (by omega) (show K 1 mem from H1 ⟨i37_1.1, i37_1.2.1, i37_1.2.2, fun r hr => i37_2 r (by omega)⟩)
      · replace q1 : ¬ (4 ≤ (x3 : Int)) := q1
        refine Tx.aload_n hC te_90_42 rfl ?_
        refine Tx.getR hC te_90_43 rfl rfl rfl ?_
        refine Tx.iload_n hC te_90_46 rfl ?_
        refine Tx.iconst hC te_90_47 rfl ?_
        refine Tx.imulW hC te_90_48 (fun z2 z2i z2e => ?_)
        unfold InI at z2i z2e
        first | replace z2e := z2e (by omega) | clear z2e
        refine Tx.iload_n hC te_90_49 rfl ?_
        refine Tx.iaddW hC te_90_50 (fun z3 z3i z3e => ?_)
        unfold InI at z3i z3e
        first | replace z3e := z3e (by omega) | clear z3e
        refine Tx.iald hC te_90_51 rfl (by omega) (fun v4 v4e v4i => ?_)
        unfold InI at v4i
        first | rw [show (Int.toNat z3) = 4 * a.toNat + x3.toNat by omega] at v4e | rw [show (Int.toNat z3) = 4 * b.toNat + x3.toNat by omega] at v4e
        refine Tx.aload_n hC te_90_52 rfl ?_
        refine Tx.getR hC te_90_53 rfl rfl rfl ?_
        refine Tx.iload_n hC te_90_56 rfl ?_
        refine Tx.iconst hC te_90_57 rfl ?_
        refine Tx.imulW hC te_90_58 (fun z6 z6i z6e => ?_)
        unfold InI at z6i z6e
        first | replace z6e := z6e (by omega) | clear z6e
        refine Tx.iload_n hC te_90_59 rfl ?_
        refine Tx.iaddW hC te_90_60 (fun z7 z7i z7e => ?_)
        unfold InI at z7i z7e
        first | replace z7e := z7e (by omega) | clear z7e
        refine Tx.iald hC te_90_61 rfl (by omega) (fun v8 v8e v8i => ?_)
        unfold InI at v8i
        first | rw [show (Int.toNat z7) = 4 * a.toNat + x3.toNat by omega] at v8e | rw [show (Int.toNat z7) = 4 * b.toNat + x3.toNat by omega] at v8e
        refine Tx.icmp hC (t := 67) te_90_62 (by decide) (fun q10 => ?_) (fun q10 => ?_)
        · replace q10 : (v4 : Int) = v8 := q10
          refine Tx.iincW hC te_90_67 rfl rfl (fun z11 z11i z11e => ?_)
          unfold InI at z11i z11e
          first | replace z11e := z11e (by omega) | clear z11e
          refine Tx.goto hC (t := 37) te_90_70 (by decide) ?_
          exact ih_37 z11 (by omega) (by first | exact i37_1 | exact ⟨by omega, by omega, by omega⟩) (by first | exact (fun r hr => absurd hr (by omega)) | exact (fun r hr => by
            by_cases c : (r : Int) < x3
            · exact i37_2 r c
            · rw [show r = x3.toNat by omega]; omega)) (by omega)
        · replace q10 : ¬ ((v4 : Int) = v8) := q10
          refine Tx.iconst hC te_90_65 rfl ?_
          exact Tx.bret hC te_90_66 rfl (by omega) (show K 0 mem from H0 (fun ⟨y1, y2, y3, y4⟩ => by first | omega | (have y5 := y4 x3.toNat (by omega); omega)))
  refine Tx.aload_n hC te_90_0 rfl ?_
  refine Tx.getR hC te_90_1 rfl rfl rfl ?_
  refine Tx.iload_n hC te_90_4 rfl ?_
  refine Tx.iald hC te_90_5 rfl (by omega) (fun v12 v12e v12i => ?_)
  unfold InI at v12i
  refine Tx.ifc hC (t := 33) te_90_6 (by decide) (fun q13 => ?_) (fun q13 => ?_)
  · replace q13 : ¬ (v12 : Int) = 0 := q13
    refine Tx.iconst hC te_90_33 rfl ?_
    exact Tx.bret hC te_90_34 rfl (by omega) (show K 0 mem from H0 (fun ⟨y1, y2, y3, y4⟩ => by first | omega | (have y5 := y4 x3.toNat (by omega); omega)))
  · replace q13 : ¬ (¬ (v12 : Int) = 0) := q13
    refine Tx.aload_n hC te_90_9 rfl ?_
    refine Tx.getR hC te_90_10 rfl rfl rfl ?_
    refine Tx.iload_n hC te_90_13 rfl ?_
    refine Tx.iald hC te_90_14 rfl (by omega) (fun v14 v14e v14i => ?_)
    unfold InI at v14i
    refine Tx.ifc hC (t := 33) te_90_15 (by decide) (fun q15 => ?_) (fun q15 => ?_)
    · replace q15 : ¬ (v14 : Int) = 0 := q15
      refine Tx.iconst hC te_90_33 rfl ?_
      exact Tx.bret hC te_90_34 rfl (by omega) (show K 0 mem from H0 (fun ⟨y1, y2, y3, y4⟩ => by first | omega | (have y5 := y4 x3.toNat (by omega); omega)))
    · replace q15 : ¬ (¬ (v14 : Int) = 0) := q15
      refine Tx.aload_n hC te_90_18 rfl ?_
      refine Tx.getR hC te_90_19 rfl rfl rfl ?_
      refine Tx.iload_n hC te_90_22 rfl ?_
      refine Tx.iald hC te_90_23 rfl (by omega) (fun v16 v16e v16i => ?_)
      unfold InI at v16i
      refine Tx.aload_n hC te_90_24 rfl ?_
      refine Tx.getR hC te_90_25 rfl rfl rfl ?_
      refine Tx.iload_n hC te_90_28 rfl ?_
      refine Tx.iald hC te_90_29 rfl (by omega) (fun v17 v17e v17i => ?_)
      unfold InI at v17i
      refine Tx.icmp hC (t := 35) te_90_30 (by decide) (fun q18 => ?_) (fun q18 => ?_)
      · replace q18 : (v16 : Int) = v17 := q18
        refine Tx.iconst hC te_90_35 rfl ?_
        refine Tx.istore_n hC te_90_36 rfl ?_
        exact l_37 _ 0 (by omega) (by first | exact i37_1 | exact ⟨by omega, by omega, by omega⟩) (by first | exact (fun r hr => absurd hr (by omega)) | exact (fun r hr => by
          by_cases c : (r : Int) < x3
          · exact i37_2 r c
          · rw [show r = x3.toNat by omega]; omega)) (Nat.lt_succ_self _)
      · replace q18 : ¬ ((v16 : Int) = v17) := q18
        refine Tx.iconst hC te_90_33 rfl ?_
        exact Tx.bret hC te_90_34 rfl (by omega) (show K 0 mem from H0 (fun ⟨y1, y2, y3, y4⟩ => by first | omega | (have y5 := y4 x3.toNat (by omega); omega)))
theorem f_89e {S : Nat × (Nat → Int32)} {n : Nat} {mem : MM} {K : MM → Prop} {E : Nat → MM → Prop} {d : Int} (hS : SkO mem d) (H : ∀ m', Frm pR35 mem m' → (∀ o : Nat, (o : Int) < mem 21 0 → InU (fun j => ¬ j = o ∧ TwB mem o j) (m' 35 o) (mem 21 0)) → K m') : CQV (Ex S (n + 2)) 89 [.inr 21] mem K E := by
  refine CY.of (k := 2) mt_89 rfl rfl (fun hv => ?_)
  have hC := Ex.mono S (n + 1)
  clear hv
  have hs0 := hS.1
  show Tx (Ex S (n + 1)) S M_89 (kV K E) 0 0 0 [some (.inr 21), none, none] [] mem
  have l_2 : ∀ (N : Nat) (x1 : Int) (m_2 : MM), (0 ≤ x1) → (∀ o : Nat, (o : Int) < x1 → InU (fun j => ¬ j = o ∧ TwB mem o j) (m_2 35 o) (mem 21 0)) → ((8 - x1).toNat) < N → Frm pR35 mem m_2 → Tx (Ex S (n + 1)) S M_89 (kV K E) 0 0 2 [some (.inr 21), some (.inl x1), none] [] m_2 := by
    intro N
    induction N with
    | zero => intros; omega
    | succ N ih_2 =>
      intro x1 m_2 i2_0 i2_1 hN_2 hF_2
      have l_19 : ∀ (N : Nat) (x2 : Int) (m_19 : MM), (0 ≤ x2 ∧ x2 ≤ mem 21 0 ∧ 0 ≤ x1 ∧ x1 < mem 21 0) → (∀ o : Nat, (o : Int) < x1 → InU (fun j => ¬ j = o ∧ TwB mem o j) (m_19 35 o) (mem 21 0)) → (InU (fun j => ¬ j = x1.toNat ∧ TwB mem x1.toNat j) (m_19 35 x1.toNat) x2) → ((8 - x2).toNat) < N → Frm pR35 mem m_19 → Tx (Ex S (n + 1)) S M_89 (kV K E) 0 0 19 [some (.inr 21), some (.inl x1), some (.inl x2)] [] m_19 := by
        intro N
        induction N with
        | zero => intros; omega
        | succ N ih_19 =>
          intro x2 m_19 i19_0 i19_1 i19_2 hN_19 hF_19
          refine Tx.iload_n hC te_89_19 rfl ?_
          refine Tx.aload_n hC te_89_20 rfl ?_
          refine Tx.getI hC te_89_21 rfl rfl rfl (fun v1 v1e v1i => ?_)
          unfold InI at v1i
          rw [hF_19 21 _ (by unfold pR35; omega)] at v1e
          refine Tx.icmp hC (t := 59) te_89_24 (by decide) (fun q2 => ?_) (fun q2 => ?_)
          · replace q2 : v1 ≤ (x2 : Int) := q2
            refine Tx.iincW hC te_89_59 rfl rfl (fun z3 z3i z3e => ?_)
            unfold InI at z3i z3e
            first | replace z3e := z3e (by omega) | clear z3e
            refine Tx.goto hC (t := 2) te_89_62 (by decide) ?_
            exact Tx.weak (by repeat' (first | exact trivial | exact rfl | constructor)) (ih_2 z3 m_19 (by omega) (by first | exact (fun o ho => absurd ho (by omega)) | exact (fun o ho => by
              by_cases q : o = x1.toNat
              · subst q; rw [show mem 21 0 = x2 by omega]; exact i19_2
              · exact i19_1 o (by omega))) (by omega) hF_19)
          · replace q2 : ¬ (v1 ≤ (x2 : Int)) := q2
            refine Tx.iload_n hC te_89_27 rfl ?_
            refine Tx.iload_n hC te_89_28 rfl ?_
            refine Tx.icmp hC (t := 53) te_89_29 (by decide) (fun q4 => ?_) (fun q4 => ?_)
            · replace q4 : (x2 : Int) = x1 := q4
              refine Tx.iincW hC te_89_53 rfl rfl (fun z5 z5i z5e => ?_)
              unfold InI at z5i z5e
              first | replace z5e := z5e (by omega) | clear z5e
              refine Tx.goto hC (t := 19) te_89_56 (by decide) ?_
              exact ih_19 z5 m_19 (by omega) (by first | exact i19_1 | exact (fun o ho => by rw [upm_ne (by omega)]; exact i19_1 o ho) | exact (fun o ho => by rw [upm_ne (by omega)]; exact i2_1 o ho)) (by first | exact InU.skip i19_2 (by omega) (by omega) (fun z => z.1 (by omega)) | exact InU.skip i19_2 (by omega) (by omega) (fun z => tn z.2) | (rw [upm_eq]; exact InU.ini) | (rw [upm_eq]; exact InU.or iu (by omega) (by omega) (by assumption) (by assumption) ⟨by omega, tw⟩)) (by omega) hF_19
            · replace q4 : ¬ ((x2 : Int) = x1) := q4
              refine Tx.aload_n hC te_89_32 rfl ?_
              refine Tx.iload_n hC te_89_33 rfl ?_
              refine Tx.iload_n hC te_89_34 rfl ?_
              refine Tx.virtI hC te_89_35 mt_90 (args := [.inr 21, .inl x1, .inl x2]) (rest := []) (c' := 0) (s' := 0) rfl rfl rfl rfl rfl rfl rfl rfl rfl rfl ?_
              refine f_90e (by omega) (by omega) (fun r6t r6i => ?_) (fun r6t r6i => ?_)
              · skip
                have tw := (TwB.fr hF_19).mp r6t
                refine Tx.ifc hC (t := 53) te_89_38 (by decide) (fun q => absurd q (show ¬ ((1 : Int) = 0) by decide)) (fun q => ?_)
                refine Tx.aload_n hC te_89_41 rfl ?_
                refine Tx.getR hC te_89_42 rfl rfl rfl ?_
                refine Tx.iload_n hC te_89_45 rfl ?_
                refine Tx.dup2 hC te_89_46 ?_
                refine Tx.iald hC te_89_47 rfl (by omega) (fun v9 v9e v9i => ?_)
                unfold InI at v9i
                refine Tx.iconst hC te_89_48 rfl ?_
                refine Tx.iload_n hC te_89_49 rfl ?_
                refine Tx.bits hC (f := (fun (x y : Int32) => x <<< (y &&& 31))) te_89_50 (fun _ _ _ _ => Iff.rfl) (fun b10 b10e b10i => ?_)
                unfold InI at b10i
                have iu := i19_2
                rw [← v9e] at iu
                refine Tx.bits hC (f := (fun (x y : Int32) => x ||| y)) te_89_51 (fun _ _ _ _ => Iff.rfl) (fun b11 b11e b11i => ?_)
                unfold InI at b11i
                refine Tx.iast hC te_89_52 rfl (by omega) ?_
                have hF13 : Frm pR35 mem (upm m_19 35 (Int.toNat x1) b11) := Frm.up hF_19 (by unfold pR35; omega)
                refine Tx.iincW hC te_89_53 rfl rfl (fun z14 z14i z14e => ?_)
                unfold InI at z14i z14e
                first | replace z14e := z14e (by omega) | clear z14e
                refine Tx.goto hC (t := 19) te_89_56 (by decide) ?_
                exact ih_19 z14 (upm m_19 35 (Int.toNat x1) b11) (by omega) (by first | exact i19_1 | exact (fun o ho => by rw [upm_ne (by omega)]; exact i19_1 o ho) | exact (fun o ho => by rw [upm_ne (by omega)]; exact i2_1 o ho)) (by first | exact InU.skip i19_2 (by omega) (by omega) (fun z => z.1 (by omega)) | exact InU.skip i19_2 (by omega) (by omega) (fun z => tn z.2) | (rw [upm_eq]; exact InU.ini) | (rw [upm_eq]; exact InU.or iu (by omega) (by omega) (by assumption) (by assumption) ⟨by omega, tw⟩)) (by omega) hF13
              · skip
                have tn := fun z => r6t ((TwB.fr hF_19).mpr z)
                refine Tx.ifc hC (t := 53) te_89_38 (by decide) (fun q => ?_) (fun q => absurd (show (0 : Int) = 0 by decide) q)
                refine Tx.iincW hC te_89_53 rfl rfl (fun z15 z15i z15e => ?_)
                unfold InI at z15i z15e
                first | replace z15e := z15e (by omega) | clear z15e
                refine Tx.goto hC (t := 19) te_89_56 (by decide) ?_
                exact ih_19 z15 m_19 (by omega) (by first | exact i19_1 | exact (fun o ho => by rw [upm_ne (by omega)]; exact i19_1 o ho) | exact (fun o ho => by rw [upm_ne (by omega)]; exact i2_1 o ho)) (by first | exact InU.skip i19_2 (by omega) (by omega) (fun z => z.1 (by omega)) | exact InU.skip i19_2 (by omega) (by omega) (fun z => tn z.2) | (rw [upm_eq]; exact InU.ini) | (rw [upm_eq]; exact InU.or iu (by omega) (by omega) (by assumption) (by assumption) ⟨by omega, tw⟩)) (by omega) hF_19
      refine Tx.iload_n hC te_89_2 rfl ?_
      refine Tx.aload_n hC te_89_3 rfl ?_
      refine Tx.getI hC te_89_4 rfl rfl rfl (fun v16 v16e v16i => ?_)
      unfold InI at v16i
      rw [hF_2 21 _ (by unfold pR35; omega)] at v16e
      refine Tx.icmp hC (t := 65) te_89_7 (by decide) (fun q17 => ?_) (fun q17 => ?_)
      · replace q17 : v16 ≤ (x1 : Int) := q17
        exact Tx.vret hC te_89_65 rfl (show K m_2 from H _ hF_2 (fun o ho => i2_1 o (by omega)))
      · replace q17 : ¬ (v16 ≤ (x1 : Int)) := q17
        refine Tx.aload_n hC te_89_10 rfl ?_
        refine Tx.getR hC te_89_11 rfl rfl rfl ?_
        refine Tx.iload_n hC te_89_14 rfl ?_
        refine Tx.iconst hC te_89_15 rfl ?_
        refine Tx.iast hC te_89_16 rfl (by omega) ?_
        have hF19 : Frm pR35 mem (upm m_2 35 (Int.toNat x1) 0) := Frm.up hF_2 (by unfold pR35; omega)
        refine Tx.iconst hC te_89_17 rfl ?_
        refine Tx.istore_n hC te_89_18 rfl ?_
        exact l_19 _ 0 (upm m_2 35 (Int.toNat x1) 0) (by omega) (by first | exact i19_1 | exact (fun o ho => by rw [upm_ne (by omega)]; exact i19_1 o ho) | exact (fun o ho => by rw [upm_ne (by omega)]; exact i2_1 o ho)) (by first | exact InU.skip i19_2 (by omega) (by omega) (fun z => z.1 (by omega)) | exact InU.skip i19_2 (by omega) (by omega) (fun z => tn z.2) | (rw [upm_eq]; exact InU.ini) | (rw [upm_eq]; exact InU.or iu (by omega) (by omega) (by assumption) (by assumption) ⟨by omega, tw⟩)) (Nat.lt_succ_self _) hF19
  refine Tx.iconst hC te_89_0 rfl ?_
  refine Tx.istore_n hC te_89_1 rfl ?_
  exact l_2 _ 0 mem (by omega) (by first | exact (fun o ho => absurd ho (by omega)) | exact (fun o ho => by
    by_cases q : o = x1.toNat
    · subst q; rw [show mem 21 0 = x2 by omega]; exact i19_2
    · exact i19_1 o (by omega))) (Nat.lt_succ_self _) Frm.rf
theorem f_101e {S : Nat × (Nat → Int32)} {n : Nat} {mem : MM} {K : MM → Prop} {E : Nat → MM → Prop} {d : Int} (hS : SkO mem d) (H : ∀ m', Frm pR23 mem m' → (∀ o : Nat, (o : Int) < mem 21 0 → Bt (mem 21 3) o → m' 23 o = mem 22 o) → (∀ o : Nat, ¬ Bt (mem 21 3) o → m' 23 o = mem 23 o) → K m') : CQV (Ex S (n + 1)) 101 [.inr 21] mem K E := by
  refine CY.of (k := 1) mt_101 rfl rfl (fun hv => ?_)
  have hC := Ex.mono S n
  clear hv
  have hs0 := hS.1
  show Tx (Ex S n) S M_101 (kV K E) 0 0 0 [some (.inr 21), none] [] mem
  have l_2 : ∀ (N : Nat) (x1 : Int) (m_2 : MM), (0 ≤ x1) → (∀ o : Nat, (o : Int) < x1 → Bt (mem 21 3) o → m_2 23 o = mem 22 o) → (∀ o : Nat, ¬ Bt (mem 21 3) o → m_2 23 o = mem 23 o) → ((8 - x1).toNat) < N → Frm pR23 mem m_2 → Tx (Ex S n) S M_101 (kV K E) 0 0 2 [some (.inr 21), some (.inl x1)] [] m_2 := by
    intro N
    induction N with
    | zero => intros; omega
    | succ N ih_2 =>
      intro x1 m_2 i2_0 i2_1 i2_2 hN_2 hF_2
      refine Tx.iload_n hC te_101_2 rfl ?_
      refine Tx.aload_n hC te_101_3 rfl ?_
      refine Tx.getI hC te_101_4 rfl rfl rfl (fun v1 v1e v1i => ?_)
      unfold InI at v1i
      rw [hF_2 21 _ (by unfold pR23; omega)] at v1e
      refine Tx.icmp hC (t := 39) te_101_7 (by decide) (fun q2 => ?_) (fun q2 => ?_)
      · replace q2 : v1 ≤ (x1 : Int) := q2
        exact Tx.vret hC te_101_39 rfl (show K m_2 from H _ hF_2 (fun o ho hb => i2_1 o (by omega) hb) i2_2)
      · replace q2 : ¬ (v1 ≤ (x1 : Int)) := q2
        refine Tx.aload_n hC te_101_10 rfl ?_
        refine Tx.getI hC te_101_11 rfl rfl rfl (fun v3 v3e v3i => ?_)
        unfold InI at v3i
        rw [hF_2 21 _ (by unfold pR23; omega)] at v3e
        refine Tx.iconst hC te_101_14 rfl ?_
        refine Tx.iload_n hC te_101_15 rfl ?_
        refine Tx.bits hC (f := (fun (x y : Int32) => x <<< (y &&& 31))) te_101_16 (fun _ _ _ _ => Iff.rfl) (fun b4 b4e b4i => ?_)
        unfold InI at b4i
        have n3 := v3e
        refine Tx.bits hC (f := (fun (x y : Int32) => x &&& y)) te_101_17 (fun _ _ _ _ => Iff.rfl) (fun b5 b5e b5i => ?_)
        unfold InI at b5i
        have t8 := Bt_tst (o := x1) (by omega) (by assumption) b5e
        refine Tx.ifc hC (t := 33) te_101_18 (by decide) (fun q6 => ?_) (fun q6 => ?_)
        · replace q6 : (b5 : Int) = 0 := q6
          refine Tx.iincW hC te_101_33 rfl rfl (fun z7 z7i z7e => ?_)
          unfold InI at z7i z7e
          first | replace z7e := z7e (by omega) | clear z7e
          refine Tx.goto hC (t := 2) te_101_36 (by decide) ?_
          exact ih_2 z7 m_2 (by omega) (by first | exact (fun o ho hb => absurd ho (by omega)) | exact (fun o ho hb => (Classical.em ((o : Int) < x1)).elim (fun c => i2_1 o c hb) (fun c => absurd (t8.mpr (by rw [n3, show x1.toNat = o by omega]; exact hb)) (by omega))) | exact (fun o ho hb => by
            by_cases c : (o : Int) < x1
            · rw [upm_ne (by omega)]; exact i2_1 o c hb
            · rw [show o = x1.toNat by omega, upm_eq]; assumption)) (by intro o hb; first | exact i2_2 o hb | rfl | (rw [upm_ne (fun z => hb (by rw [show o = x1.toNat from z.2, ← n3]; exact t8.mp (by assumption)))]; exact i2_2 o hb)) (by omega) hF_2
        · replace q6 : ¬ ((b5 : Int) = 0) := q6
          refine Tx.aload_n hC te_101_21 rfl ?_
          refine Tx.getR hC te_101_22 rfl rfl rfl ?_
          refine Tx.iload_n hC te_101_25 rfl ?_
          refine Tx.aload_n hC te_101_26 rfl ?_
          refine Tx.getR hC te_101_27 rfl rfl rfl ?_
          refine Tx.iload_n hC te_101_30 rfl ?_
          refine Tx.iald hC te_101_31 rfl (by omega) (fun v8 v8e v8i => ?_)
          unfold InI at v8i
          rw [hF_2 22 _ (by unfold pR23; omega)] at v8e
          refine Tx.iast hC te_101_32 rfl (by omega) ?_
          have hF10 : Frm pR23 mem (upm m_2 23 (Int.toNat x1) v8) := Frm.up hF_2 (by unfold pR23; omega)
          refine Tx.iincW hC te_101_33 rfl rfl (fun z11 z11i z11e => ?_)
          unfold InI at z11i z11e
          first | replace z11e := z11e (by omega) | clear z11e
          refine Tx.goto hC (t := 2) te_101_36 (by decide) ?_
          exact ih_2 z11 (upm m_2 23 (Int.toNat x1) v8) (by omega) (by first | exact (fun o ho hb => absurd ho (by omega)) | exact (fun o ho hb => (Classical.em ((o : Int) < x1)).elim (fun c => i2_1 o c hb) (fun c => absurd (t8.mpr (by rw [n3, show x1.toNat = o by omega]; exact hb)) (by omega))) | exact (fun o ho hb => by
            by_cases c : (o : Int) < x1
            · rw [upm_ne (by omega)]; exact i2_1 o c hb
            · rw [show o = x1.toNat by omega, upm_eq]; assumption)) (by intro o hb; first | exact i2_2 o hb | rfl | (rw [upm_ne (fun z => hb (by rw [show o = x1.toNat from z.2, ← n3]; exact t8.mp (by assumption)))]; exact i2_2 o hb)) (by omega) hF10
  refine Tx.iconst hC te_101_0 rfl ?_
  refine Tx.istore_n hC te_101_1 rfl ?_
  exact l_2 _ 0 mem (by omega) (by first | exact (fun o ho hb => absurd ho (by omega)) | exact (fun o ho hb => (Classical.em ((o : Int) < x1)).elim (fun c => i2_1 o c hb) (fun c => absurd (t8.mpr (by rw [n3, show x1.toNat = o by omega]; exact hb)) (by omega))) | exact (fun o ho hb => by
    by_cases c : (o : Int) < x1
    · rw [upm_ne (by omega)]; exact i2_1 o c hb
    · rw [show o = x1.toNat by omega, upm_eq]; assumption)) (by intro o hb; first | exact i2_2 o hb | rfl | (rw [upm_ne (fun z => hb (by rw [show o = x1.toNat from z.2, ← n3]; exact t8.mp (by assumption)))]; exact i2_2 o hb)) (Nat.lt_succ_self _) Frm.rf
theorem f_102e {S : Nat × (Nat → Int32)} {n : Nat} {mem : MM} {K : MM → Prop} {E : Nat → MM → Prop} {d : Int} (hS : SkO mem d) {o : Int} (ho : 0 ≤ o ∧ o < mem 21 0) (hb : ∀ j, Bt (mem 34 o.toNat) j → j < 8) (H : ∀ m', LftX mem m' o.toNat → K m') : CQV (Ex S (n + 3)) 102 [.inr 21, .inl o] mem K E := by
  refine CY.of (k := 0) mt_102 rfl rfl (fun hv => ?_)
  have hC := Ex.mono S (n + 2)
  have ii_o : InI o := hv (.inl o) (by simp)
  unfold InI at ii_o
  clear hv
  have hs0 := hS.1
  show Tx (Ex S (n + 2)) S M_102 (kV K E) 0 0 0 [some (.inr 21), some (.inl o)] [] mem
  refine Tx.aload_n hC te_102_0 rfl ?_
  refine Tx.getR hC te_102_1 rfl rfl rfl ?_
  refine Tx.iload_n hC te_102_4 rfl ?_
  refine Tx.iconst hC te_102_5 rfl ?_
  refine Tx.imulW hC te_102_6 (fun z1 z1i z1e => ?_)
  unfold InI at z1i z1e
  first | replace z1e := z1e (by omega) | clear z1e
  refine Tx.aload_n hC te_102_7 rfl ?_
  refine Tx.getR hC te_102_8 rfl rfl rfl ?_
  refine Tx.aload_n hC te_102_11 rfl ?_
  refine Tx.getR hC te_102_12 rfl rfl rfl ?_
  refine Tx.iload_n hC te_102_15 rfl ?_
  refine Tx.iald hC te_102_16 rfl (by omega) (fun v2 v2e v2i => ?_)
  unfold InI at v2i
  have f3 := hS.2.2.1 (Int.toNat o) (by omega)
  refine Tx.iconst hC te_102_17 rfl ?_
  refine Tx.imulW hC te_102_18 (fun z4 z4i z4e => ?_)
  unfold InI at z4i z4e
  first | replace z4e := z4e (by omega) | clear z4e
  refine Tx.iconst hC te_102_19 rfl ?_
  refine Tx.copy hC te_102_20 rfl rfl (by omega) rfl (fun m5 m5a m5b => ?_)
  have hF6 : Frm pLf mem m5 := Frm.cp Frm.rf m5a (fun i => by unfold pLf; omega)
  refine Tx.aload_n hC te_102_23 rfl ?_
  refine Tx.dup hC te_102_24 ?_
  refine Tx.getI hC te_102_25 rfl rfl rfl (fun v7 v7e v7i => ?_)
  unfold InI at v7i
  refine Tx.iconst hC te_102_28 rfl ?_
  refine Tx.iload_n hC te_102_29 rfl ?_
  refine Tx.bits hC (f := (fun (x y : Int32) => x <<< (y &&& 31))) te_102_30 (fun _ _ _ _ => Iff.rfl) (fun b8 b8e b8i => ?_)
  unfold InI at b8i
  refine Tx.iconst hC te_102_31 rfl ?_
  refine Tx.bits hC (f := (fun (x y : Int32) => x ^^^ y)) te_102_32 (fun _ _ _ _ => Iff.rfl) (fun b9 b9e b9i => ?_)
  unfold InI at b9i
  refine Tx.bits hC (f := (fun (x y : Int32) => x &&& y)) te_102_33 (fun _ _ _ _ => Iff.rfl) (fun b10 b10e b10i => ?_)
  unfold InI at b10i
  refine Tx.putI hC te_102_34 rfl rfl rfl rfl ?_
  have hF12 : Frm pLf mem (upm m5 21 4 b10) := Frm.up hF6 (by unfold pLf; omega)
  have l28 : ∀ i, (upm m5 21 4 b10) 28 i = if 4 * (mem 24 o.toNat).toNat ≤ i ∧ i < 4 * (mem 24 o.toNat).toNat + 4 then mem 29 (4 * o.toNat + (i - 4 * (mem 24 o.toNat).toNat)) else mem 28 i := fun i => by
    rw [upm_ne (by omega), m5b i, show z4.toNat = 4 * (mem 24 o.toNat).toNat by omega, show z1.toNat = 4 * o.toNat by omega]
    rfl
  have l21 : ∀ i, ¬ i = 4 → (upm m5 21 4 b10) 21 i = mem 21 i := fun i q => by rw [upm_ne (by omega)]; exact m5a 21 i (by omega)
  have l30 : ∀ i, (upm m5 21 4 b10) 30 i = mem 30 i := fun i => by rw [upm_ne (by omega)]; exact m5a 30 i (by omega)
  have l31 : ∀ i, (upm m5 21 4 b10) 31 i = mem 31 i := fun i => by rw [upm_ne (by omega)]; exact m5a 31 i (by omega)
  have lb : ∀ j : Nat, Bt ((upm m5 21 4 b10) 21 4) j ↔ Bt (mem 21 4) j ∧ ¬ j = o.toNat := fun j => by
    rw [upm_eq, Bt_and b10e, v7e, m5a 21 4 (by omega)]
    by_cases h : j < 32
    · rw [Bt_not b9e h, Bt_bit (by omega) b8e]
      exact ⟨fun q => ⟨q.1, fun w => q.2 (by omega)⟩, fun q => ⟨q.1, fun w => q.2 (by omega)⟩⟩
    · exact ⟨fun q => absurd q.1 (Bt_ge (by omega)), fun q => absurd q.1 (Bt_ge (by omega))⟩
  refine Tx.aload_n hC te_102_37 rfl ?_
  refine Tx.iload_n hC te_102_38 rfl ?_
  refine Tx.virtI hC te_102_39 mt_92 (args := [.inr 21, .inl o]) (rest := []) (c' := 0) (s' := 0) rfl rfl rfl rfl rfl rfl rfl rfl rfl rfl ?_
  have e34 := hF12 34 o.toNat (by unfold pLf; omega)
  refine f_92e (by omega) (by rw [e34]; exact hb) (fun r13t r13i => ?_) (fun r13t r13i => ?_)
  · skip
    rw [e34] at r13t
    refine Tx.ifc hC (t := 63) te_102_42 (by decide) (fun q => absurd q (show ¬ ((1 : Int) = 0) by decide)) (fun q => ?_)
    refine Tx.aload_n hC te_102_45 rfl ?_
    refine Tx.getR hC te_102_46 rfl rfl rfl ?_
    refine Tx.iload_n hC te_102_49 rfl ?_
    refine Tx.bipush hC te_102_50 rfl rfl ?_
    refine Tx.imulW hC te_102_52 (fun z16 z16i z16e => ?_)
    unfold InI at z16i z16e
    first | replace z16e := z16e (by omega) | clear z16e
    refine Tx.aload_n hC te_102_53 rfl ?_
    refine Tx.getR hC te_102_54 rfl rfl rfl ?_
    refine Tx.iconst hC te_102_57 rfl ?_
    refine Tx.bipush hC te_102_58 rfl rfl ?_
    refine Tx.copy hC te_102_60 rfl rfl (by omega) rfl (fun m17 m17a m17b => ?_)
    have hF18 : Frm pLf mem m17 := Frm.cp hF12 m17a (fun i => by unfold pLf; omega)
    exact Tx.vret hC te_102_63 rfl (show K m17 from H _ ⟨hF18, fun i => by rw [m17a 28 i (by omega)]; exact l28 i, fun i q => by rw [m17a 21 i (by omega)]; exact l21 i q, fun j => by rw [m17a 21 4 (by omega)]; exact lb j, fun _ i => by
      rw [m17b i]
      by_cases h : i < 64
      · rw [if_pos (by omega), if_pos h, l31]
        congr 1
        omega
      · rw [if_neg (by omega), if_neg h, l30], fun z => absurd (show MnB mem o.toNat from r13t) z⟩)
  · skip
    rw [e34] at r13t
    refine Tx.ifc hC (t := 63) te_102_42 (by decide) (fun q => ?_) (fun q => absurd (show (0 : Int) = 0 by decide) q)
    exact Tx.vret hC te_102_63 rfl (show K (upm m5 21 4 b10) from H _ ⟨hF12, l28, l21, lb, fun z => absurd z r13t, fun _ => l30⟩)
theorem f_104e {S : Nat × (Nat → Int32)} {n : Nat} {mem : MM} {K : MM → Prop} {E : Nat → MM → Prop} {d : Int} (hS : SkO mem d) (H : ∀ m', Frm pRt mem m' → (∀ i, i < 64 → m' 30 i = mem 20 i) → (∀ o : Nat, (o : Int) < mem 21 0 → InU (fun j => ¬ j = o ∧ TiB mem o j) (m' 34 o) (mem 21 0)) → K m') : CQV (Ex S (n + 1)) 104 [.inr 21, .inr 20] mem K E := by
  refine CY.of (k := 3) mt_104 rfl rfl (fun hv => ?_)
  have hC := Ex.mono S n
  clear hv
  have hs0 := hS.1
  show Tx (Ex S n) S M_104 (kV K E) 0 0 0 [some (.inr 21), some (.inr 20), none, none, none] [] mem
  have l_14 : ∀ (N : Nat) (x2 : Int) (m_14 : MM), (0 ≤ x2) → (∀ i, i < 64 → m_14 30 i = mem 20 i) → (∀ o : Nat, (o : Int) < x2 → InU (fun j => ¬ j = o ∧ TiB mem o j) (m_14 34 o) (mem 21 0)) → ((8 - x2).toNat) < N → Frm pRt mem m_14 → Tx (Ex S n) S M_104 (kV K E) 0 0 14 [some (.inr 21), some (.inr 20), some (.inl x2), none, none] [] m_14 := by
    intro N
    induction N with
    | zero => intros; omega
    | succ N ih_14 =>
      intro x2 m_14 i14_0 i14_1 i14_2 hN_14 hF_14
      have l_31 : ∀ (N : Nat) (x3 : Int) (m_31 : MM), (0 ≤ x3 ∧ x3 ≤ mem 21 0 ∧ 0 ≤ x2 ∧ x2 < mem 21 0) → (∀ i, i < 64 → m_31 30 i = mem 20 i) → (∀ o : Nat, (o : Int) < x2 → InU (fun j => ¬ j = o ∧ TiB mem o j) (m_31 34 o) (mem 21 0)) → (InU (fun j => ¬ j = x2.toNat ∧ TiB mem x2.toNat j) (m_31 34 x2.toNat) x3) → ((8 - x3).toNat) < N → Frm pRt mem m_31 → Tx (Ex S n) S M_104 (kV K E) 0 0 31 [some (.inr 21), some (.inr 20), some (.inl x2), some (.inl x3), none] [] m_31 := by
        intro N
        induction N with
        | zero => intros; omega
        | succ N ih_31 =>
          intro x3 m_31 i31_0 i31_1 i31_2 i31_3 hN_31 hF_31
          refine Tx.iload_n hC te_104_31 rfl ?_
          refine Tx.aload_n hC te_104_32 rfl ?_
          refine Tx.getI hC te_104_33 rfl rfl rfl (fun v1 v1e v1i => ?_)
          unfold InI at v1i
          rw [hF_31 21 _ (by unfold pRt; omega)] at v1e
          refine Tx.icmp hC (t := 106) te_104_36 (by decide) (fun q2 => ?_) (fun q2 => ?_)
          · replace q2 : v1 ≤ (x3 : Int) := q2
            refine Tx.iincW hC te_104_106 rfl rfl (fun z3 z3i z3e => ?_)
            unfold InI at z3i z3e
            first | replace z3e := z3e (by omega) | clear z3e
            refine Tx.goto hC (t := 14) te_104_109 (by decide) ?_
            exact Tx.weak (by repeat' (first | exact trivial | exact rfl | constructor)) (ih_14 z3 m_31 (by omega) (by first | exact i31_1 | exact (fun i hi => by rw [m28b i, if_pos (by omega)]; congr 1; omega)) (by first | exact (fun o ho => absurd ho (by omega)) | exact (fun o ho => by
              by_cases q : o = x2.toNat
              · subst q; rw [show mem 21 0 = x3 by omega]; exact i31_3
              · exact i31_2 o (by omega))) (by omega) hF_31)
          · replace q2 : ¬ (v1 ≤ (x3 : Int)) := q2
            refine Tx.aload_n hC te_104_39 rfl ?_
            refine Tx.getR hC te_104_40 rfl rfl rfl ?_
            refine Tx.iload_n hC te_104_43 rfl ?_
            refine Tx.bipush hC te_104_44 rfl rfl ?_
            refine Tx.imulW hC te_104_46 (fun z4 z4i z4e => ?_)
            unfold InI at z4i z4e
            first | replace z4e := z4e (by omega) | clear z4e
            refine Tx.iload_n hC te_104_47 rfl ?_
            refine Tx.iaddW hC te_104_48 (fun z5 z5i z5e => ?_)
            unfold InI at z5i z5e
            first | replace z5e := z5e (by omega) | clear z5e
            refine Tx.iald hC te_104_49 rfl (by omega) (fun v6 v6e v6i => ?_)
            unfold InI at v6i
            have w6 : v6 = mem 20 (8 * x2.toNat + x3.toNat) := by rw [v6e, i31_1 _ (by omega)]; congr 1; omega
            refine Tx.ldc hC (z := (-100000)) te_104_50 rfl rfl rfl rfl ?_
            refine Tx.icmp hC (t := 59) te_104_52 (by decide) (fun q7 => ?_) (fun q7 => ?_)
            · replace q7 : (v6 : Int) = (-100000) := q7
              refine Tx.iconst hC te_104_59 rfl ?_
              refine Tx.istore hC te_104_60 rfl ?_
              refine Tx.iload_n hC te_104_62 rfl ?_
              refine Tx.iload_n hC te_104_63 rfl ?_
              refine Tx.icmp hC (t := 100) te_104_64 (by decide) (fun q8 => ?_) (fun q8 => ?_)
              · replace q8 : (x3 : Int) = x2 := q8
                refine Tx.iincW hC te_104_100 rfl rfl (fun z9 z9i z9e => ?_)
                unfold InI at z9i z9e
                first | replace z9e := z9e (by omega) | clear z9e
                refine Tx.goto hC (t := 31) te_104_103 (by decide) ?_
                exact Tx.weak (by repeat' (first | exact trivial | exact rfl | constructor)) (ih_31 z9 m_31 (by omega) (by first | exact i31_1 | exact (fun i hi => by rw [upm_ne (by omega)]; exact i31_1 i hi) | exact (fun i hi => by rw [upm_ne (by omega)]; exact i14_1 i hi)) (by first | exact i31_2 | exact (fun o ho => by rw [upm_ne (by omega)]; exact i31_2 o ho) | exact (fun o ho => by rw [upm_ne (by omega)]; exact i14_2 o ho)) (by first | exact InU.skip i31_3 (by omega) (by omega) (fun z => z.1 (by omega)) | exact InU.skip i31_3 (by omega) (by omega) (fun z => z.2.1 (by omega)) | exact InU.skip i31_3 (by omega) (by omega) (fun z => z.2.2 (by omega)) | (rw [upm_eq]; exact InU.ini) | (rw [upm_eq]; exact InU.or iu (by omega) (by omega) (by assumption) (by assumption) ⟨by omega, by omega, by omega⟩)) (by omega) hF_31)
              · replace q8 : ¬ ((x3 : Int) = x2) := q8
                refine Tx.iload hC te_104_67 rfl ?_
                refine Tx.ifc hC (t := 100) te_104_69 (by decide) (fun q => ?_) (fun q => absurd (show (0 : Int) = 0 by decide) q)
                refine Tx.iincW hC te_104_100 rfl rfl (fun z10 z10i z10e => ?_)
                unfold InI at z10i z10e
                first | replace z10e := z10e (by omega) | clear z10e
                refine Tx.goto hC (t := 31) te_104_103 (by decide) ?_
                exact Tx.weak (by repeat' (first | exact trivial | exact rfl | constructor)) (ih_31 z10 m_31 (by omega) (by first | exact i31_1 | exact (fun i hi => by rw [upm_ne (by omega)]; exact i31_1 i hi) | exact (fun i hi => by rw [upm_ne (by omega)]; exact i14_1 i hi)) (by first | exact i31_2 | exact (fun o ho => by rw [upm_ne (by omega)]; exact i31_2 o ho) | exact (fun o ho => by rw [upm_ne (by omega)]; exact i14_2 o ho)) (by first | exact InU.skip i31_3 (by omega) (by omega) (fun z => z.1 (by omega)) | exact InU.skip i31_3 (by omega) (by omega) (fun z => z.2.1 (by omega)) | exact InU.skip i31_3 (by omega) (by omega) (fun z => z.2.2 (by omega)) | (rw [upm_eq]; exact InU.ini) | (rw [upm_eq]; exact InU.or iu (by omega) (by omega) (by assumption) (by assumption) ⟨by omega, by omega, by omega⟩)) (by omega) hF_31)
            · replace q7 : ¬ ((v6 : Int) = (-100000)) := q7
              refine Tx.iconst hC te_104_55 rfl ?_
              refine Tx.goto hC (t := 60) te_104_56 (by decide) ?_
              refine Tx.istore hC te_104_60 rfl ?_
              refine Tx.iload_n hC te_104_62 rfl ?_
              refine Tx.iload_n hC te_104_63 rfl ?_
              refine Tx.icmp hC (t := 100) te_104_64 (by decide) (fun q11 => ?_) (fun q11 => ?_)
              · replace q11 : (x3 : Int) = x2 := q11
                refine Tx.iincW hC te_104_100 rfl rfl (fun z12 z12i z12e => ?_)
                unfold InI at z12i z12e
                first | replace z12e := z12e (by omega) | clear z12e
                refine Tx.goto hC (t := 31) te_104_103 (by decide) ?_
                exact Tx.weak (by repeat' (first | exact trivial | exact rfl | constructor)) (ih_31 z12 m_31 (by omega) (by first | exact i31_1 | exact (fun i hi => by rw [upm_ne (by omega)]; exact i31_1 i hi) | exact (fun i hi => by rw [upm_ne (by omega)]; exact i14_1 i hi)) (by first | exact i31_2 | exact (fun o ho => by rw [upm_ne (by omega)]; exact i31_2 o ho) | exact (fun o ho => by rw [upm_ne (by omega)]; exact i14_2 o ho)) (by first | exact InU.skip i31_3 (by omega) (by omega) (fun z => z.1 (by omega)) | exact InU.skip i31_3 (by omega) (by omega) (fun z => z.2.1 (by omega)) | exact InU.skip i31_3 (by omega) (by omega) (fun z => z.2.2 (by omega)) | (rw [upm_eq]; exact InU.ini) | (rw [upm_eq]; exact InU.or iu (by omega) (by omega) (by assumption) (by assumption) ⟨by omega, by omega, by omega⟩)) (by omega) hF_31)
              · replace q11 : ¬ ((x3 : Int) = x2) := q11
                refine Tx.iload hC te_104_67 rfl ?_
                refine Tx.ifc hC (t := 100) te_104_69 (by decide) (fun q => absurd q (show ¬ ((1 : Int) = 0) by decide)) (fun q => ?_)
                refine Tx.aload_n hC te_104_72 rfl ?_
                refine Tx.getR hC te_104_73 rfl rfl rfl ?_
                refine Tx.iload_n hC te_104_76 rfl ?_
                refine Tx.bipush hC te_104_77 rfl rfl ?_
                refine Tx.imulW hC te_104_79 (fun z13 z13i z13e => ?_)
                unfold InI at z13i z13e
                first | replace z13e := z13e (by omega) | clear z13e
                refine Tx.iload_n hC te_104_80 rfl ?_
                refine Tx.iaddW hC te_104_81 (fun z14 z14i z14e => ?_)
                unfold InI at z14i z14e
                first | replace z14e := z14e (by omega) | clear z14e
                refine Tx.iald hC te_104_82 rfl (by omega) (fun v15 v15e v15i => ?_)
                unfold InI at v15i
                have w7 : v15 = mem 20 (8 * x3.toNat + x2.toNat) := by rw [v15e, i31_1 _ (by omega)]; congr 1; omega
                refine Tx.ldc hC (z := (-100000)) te_104_83 rfl rfl rfl rfl ?_
                refine Tx.icmp hC (t := 100) te_104_85 (by decide) (fun q16 => ?_) (fun q16 => ?_)
                · replace q16 : (v15 : Int) = (-100000) := q16
                  refine Tx.iincW hC te_104_100 rfl rfl (fun z17 z17i z17e => ?_)
                  unfold InI at z17i z17e
                  first | replace z17e := z17e (by omega) | clear z17e
                  refine Tx.goto hC (t := 31) te_104_103 (by decide) ?_
                  exact Tx.weak (by repeat' (first | exact trivial | exact rfl | constructor)) (ih_31 z17 m_31 (by omega) (by first | exact i31_1 | exact (fun i hi => by rw [upm_ne (by omega)]; exact i31_1 i hi) | exact (fun i hi => by rw [upm_ne (by omega)]; exact i14_1 i hi)) (by first | exact i31_2 | exact (fun o ho => by rw [upm_ne (by omega)]; exact i31_2 o ho) | exact (fun o ho => by rw [upm_ne (by omega)]; exact i14_2 o ho)) (by first | exact InU.skip i31_3 (by omega) (by omega) (fun z => z.1 (by omega)) | exact InU.skip i31_3 (by omega) (by omega) (fun z => z.2.1 (by omega)) | exact InU.skip i31_3 (by omega) (by omega) (fun z => z.2.2 (by omega)) | (rw [upm_eq]; exact InU.ini) | (rw [upm_eq]; exact InU.or iu (by omega) (by omega) (by assumption) (by assumption) ⟨by omega, by omega, by omega⟩)) (by omega) hF_31)
                · replace q16 : ¬ ((v15 : Int) = (-100000)) := q16
                  refine Tx.aload_n hC te_104_88 rfl ?_
                  refine Tx.getR hC te_104_89 rfl rfl rfl ?_
                  refine Tx.iload_n hC te_104_92 rfl ?_
                  refine Tx.dup2 hC te_104_93 ?_
                  refine Tx.iald hC te_104_94 rfl (by omega) (fun v18 v18e v18i => ?_)
                  unfold InI at v18i
                  refine Tx.iconst hC te_104_95 rfl ?_
                  refine Tx.iload_n hC te_104_96 rfl ?_
                  refine Tx.bits hC (f := (fun (x y : Int32) => x <<< (y &&& 31))) te_104_97 (fun _ _ _ _ => Iff.rfl) (fun b19 b19e b19i => ?_)
                  unfold InI at b19i
                  have iu := i31_3
                  rw [← v18e] at iu
                  refine Tx.bits hC (f := (fun (x y : Int32) => x ||| y)) te_104_98 (fun _ _ _ _ => Iff.rfl) (fun b20 b20e b20i => ?_)
                  unfold InI at b20i
                  refine Tx.iast hC te_104_99 rfl (by omega) ?_
                  have hF22 : Frm pRt mem (upm m_31 34 (Int.toNat x2) b20) := Frm.up hF_31 (by unfold pRt; omega)
                  refine Tx.iincW hC te_104_100 rfl rfl (fun z23 z23i z23e => ?_)
                  unfold InI at z23i z23e
                  first | replace z23e := z23e (by omega) | clear z23e
                  refine Tx.goto hC (t := 31) te_104_103 (by decide) ?_
                  exact Tx.weak (by repeat' (first | exact trivial | exact rfl | constructor)) (ih_31 z23 (upm m_31 34 (Int.toNat x2) b20) (by omega) (by first | exact i31_1 | exact (fun i hi => by rw [upm_ne (by omega)]; exact i31_1 i hi) | exact (fun i hi => by rw [upm_ne (by omega)]; exact i14_1 i hi)) (by first | exact i31_2 | exact (fun o ho => by rw [upm_ne (by omega)]; exact i31_2 o ho) | exact (fun o ho => by rw [upm_ne (by omega)]; exact i14_2 o ho)) (by first | exact InU.skip i31_3 (by omega) (by omega) (fun z => z.1 (by omega)) | exact InU.skip i31_3 (by omega) (by omega) (fun z => z.2.1 (by omega)) | exact InU.skip i31_3 (by omega) (by omega) (fun z => z.2.2 (by omega)) | (rw [upm_eq]; exact InU.ini) | (rw [upm_eq]; exact InU.or iu (by omega) (by omega) (by assumption) (by assumption) ⟨by omega, by omega, by omega⟩)) (by omega) hF22)
      refine Tx.iload_n hC te_104_14 rfl ?_
      refine Tx.aload_n hC te_104_15 rfl ?_
      refine Tx.getI hC te_104_16 rfl rfl rfl (fun v24 v24e v24i => ?_)
      unfold InI at v24i
      rw [hF_14 21 _ (by unfold pRt; omega)] at v24e
      refine Tx.icmp hC (t := 112) te_104_19 (by decide) (fun q25 => ?_) (fun q25 => ?_)
      · replace q25 : v24 ≤ (x2 : Int) := q25
        exact Tx.vret hC te_104_112 rfl (show K m_14 from H _ hF_14 i14_1 (fun o ho => i14_2 o (by omega)))
      · replace q25 : ¬ (v24 ≤ (x2 : Int)) := q25
        refine Tx.aload_n hC te_104_22 rfl ?_
        refine Tx.getR hC te_104_23 rfl rfl rfl ?_
        refine Tx.iload_n hC te_104_26 rfl ?_
        refine Tx.iconst hC te_104_27 rfl ?_
        refine Tx.iast hC te_104_28 rfl (by omega) ?_
        have hF27 : Frm pRt mem (upm m_14 34 (Int.toNat x2) 0) := Frm.up hF_14 (by unfold pRt; omega)
        refine Tx.iconst hC te_104_29 rfl ?_
        refine Tx.istore_n hC te_104_30 rfl ?_
        exact l_31 _ 0 (upm m_14 34 (Int.toNat x2) 0) (by omega) (by first | exact i31_1 | exact (fun i hi => by rw [upm_ne (by omega)]; exact i31_1 i hi) | exact (fun i hi => by rw [upm_ne (by omega)]; exact i14_1 i hi)) (by first | exact i31_2 | exact (fun o ho => by rw [upm_ne (by omega)]; exact i31_2 o ho) | exact (fun o ho => by rw [upm_ne (by omega)]; exact i14_2 o ho)) (by first | exact InU.skip i31_3 (by omega) (by omega) (fun z => z.1 (by omega)) | exact InU.skip i31_3 (by omega) (by omega) (fun z => z.2.1 (by omega)) | exact InU.skip i31_3 (by omega) (by omega) (fun z => z.2.2 (by omega)) | (rw [upm_eq]; exact InU.ini) | (rw [upm_eq]; exact InU.or iu (by omega) (by omega) (by assumption) (by assumption) ⟨by omega, by omega, by omega⟩)) (Nat.lt_succ_self _) hF27
  refine Tx.aload_n hC te_104_0 rfl ?_
  refine Tx.iconst hC te_104_1 rfl ?_
  refine Tx.aload_n hC te_104_2 rfl ?_
  refine Tx.getR hC te_104_3 rfl rfl rfl ?_
  refine Tx.iconst hC te_104_6 rfl ?_
  refine Tx.bipush hC te_104_7 rfl rfl ?_
  refine Tx.copy hC te_104_9 rfl rfl (by omega) rfl (fun m28 m28a m28b => ?_)
  have hF29 : Frm pRt mem m28 := Frm.cp Frm.rf m28a (fun i => by unfold pRt; omega)
  refine Tx.iconst hC te_104_12 rfl ?_
  refine Tx.istore_n hC te_104_13 rfl ?_
  exact l_14 _ 0 m28 (by omega) (by first | exact i31_1 | exact (fun i hi => by rw [m28b i, if_pos (by omega)]; congr 1; omega)) (by first | exact (fun o ho => absurd ho (by omega)) | exact (fun o ho => by
    by_cases q : o = x2.toNat
    · subst q; rw [show mem 21 0 = x3 by omega]; exact i31_3
    · exact i31_2 o (by omega))) (Nat.lt_succ_self _) hF29
end
section
/-! laid by wip/hand/tg.py: the seeker, exactly -/
def TiM (m : MM) (o i : Nat) : Prop := Bt (m 34 o) i
def HdM (m : MM) (o i : Nat) : Prop := Bt (m 34 o) i ∧ Bt (m 21 4) i
def TM (m : MM) (i j : Nat) : Int := m 30 (8 * i + j)
def pAl (A _i : Nat) : Prop := A = 32 ∨ A = 33
theorem AlF.step {Ti : Nat → Prop} {A B I O I' O' : Nat → Int} {k k' : Int} (h : ∀ i : Nat, (i : Int) < k → Ti i → I i = A i ∧ O i = B i) (e : k' = k + 1) (hk : 0 ≤ k) (e1 : ∀ c : Nat, ¬ c = k.toNat → I' c = I c ∧ O' c = O c) (e2 : Ti k.toNat → I' k.toNat = A k.toNat ∧ O' k.toNat = B k.toNat) : ∀ i : Nat, (i : Int) < k' → Ti i → I' i = A i ∧ O' i = B i := fun i hi ti => by
  by_cases q : i = k.toNat
  · subst q; exact e2 ti
  · rw [(e1 i q).1, (e1 i q).2]; exact h i (by omega) ti
def pTg (A _i : Nat) : Prop := A = 30
def TgP (Ti : Nat → Prop) (T : Nat → Nat → Int) (I O : Nat → Int) (o : Nat) (k1 k l : Int) (T' : Nat → Nat → Int) : Prop :=
  (∀ a : Nat, Ti a → (a : Int) < k1 → T' a o = I a ∧ T' o a = O a) ∧
  (∀ a b : Nat, Ti a → Ti b → ¬ a = b → ((a : Int) < k ∨ ((a : Int) = k ∧ (b : Int) < l)) → T' a b = max (T a b) (I a + O b)) ∧
  ∀ a b : Nat, a < 8 → b < 8 → ¬ (Ti a ∧ b = o ∧ (a : Int) < k1) → ¬ (a = o ∧ Ti b ∧ (b : Int) < k1) → ¬ (Ti a ∧ Ti b ∧ ¬ a = b ∧ ((a : Int) < k ∨ ((a : Int) = k ∧ (b : Int) < l))) → T' a b = T a b
section TGP
variable {Ti : Nat → Prop} {T T' T2 : Nat → Nat → Int} {I O : Nat → Int} {o : Nat} {k k' l l' n : Int}
theorem TgP.ini : TgP Ti T I O o 0 0 0 T := ⟨fun a _ h => by omega, fun a b _ _ _ h => by omega, fun a b _ _ _ _ _ => rfl⟩
theorem TgP.nx0 (h : TgP Ti T I O o k k 0 T') (e : k' = k + 1) (hk : 0 ≤ k) (q : ¬ Ti k.toNat) : TgP Ti T I O o k' k' 0 T' := by
  have ne : ∀ a : Nat, Ti a → ¬ (a : Int) = k := fun a ta w => q (by rw [show k.toNat = a by omega]; exact ta)
  refine ⟨fun a ta ha => h.1 a ta (by have := ne a ta; omega), fun a b ta tb hn hh => h.2.1 a b ta tb hn (by have := ne a ta; omega), fun a b h1 h2 g1 g2 g3 => h.2.2 a b h1 h2 (fun z => g1 ⟨z.1, z.2.1, by omega⟩) (fun z => g2 ⟨z.1, z.2.1, by omega⟩) (fun z => g3 ⟨z.1, z.2.1, z.2.2.1, by omega⟩)⟩
theorem TgP.one (h : TgP Ti T I O o k k 0 T') (e : k' = k + 1) (hk : 0 ≤ k) (q : Ti k.toNat) (no : ¬ Ti o) (e1 : T2 k.toNat o = I k.toNat) (e2 : T2 o k.toNat = O k.toNat) (e3 : ∀ a b : Nat, a < 8 → b < 8 → ¬ (a = k.toNat ∧ b = o) → ¬ (a = o ∧ b = k.toNat) → T2 a b = T' a b) (hT : ∀ a, Ti a → a < 8) (ho : o < 8) : TgP Ti T I O o k' k 0 T2 := by
  have on : ∀ a, Ti a → ¬ a = o := fun a ta w => no (w ▸ ta)
  refine ⟨fun a ta ha => ?_, fun a b ta tb hn hh => ?_, fun a b h1 h2 g1 g2 g3 => ?_⟩
  · by_cases w : a = k.toNat
    · subst w; exact ⟨e1, e2⟩
    · have z := h.1 a ta (by omega)
      rw [e3 a o (hT a ta) ho (fun z => w z.1) (fun z => on a ta z.1), e3 o a ho (hT a ta) (fun z => on a ta z.2) (fun z => w z.2)]
      exact z
  · rw [e3 a b (hT a ta) (hT b tb) (fun z => on b tb z.2) (fun z => on a ta z.1)]
    exact h.2.1 a b ta tb hn hh
  · rw [e3 a b h1 h2 (fun z => g1 ⟨by rw [z.1]; exact q, z.2, by omega⟩) (fun z => g2 ⟨z.1, by rw [z.2]; exact q, by omega⟩)]
    exact h.2.2 a b h1 h2 (fun z => g1 ⟨z.1, z.2.1, by omega⟩) (fun z => g2 ⟨z.1, z.2.1, by omega⟩) g3
theorem TgP.skip (h : TgP Ti T I O o k' k l T') (e : l' = l + 1) (hl : 0 ≤ l) (q : k = l ∨ ¬ Ti l.toNat) : TgP Ti T I O o k' k l' T' := by
  have ne : ∀ a b : Nat, Ti b → ¬ a = b → (a : Int) = k → ¬ (b : Int) = l := fun a b tb hn ha w => q.elim (fun z => hn (by omega)) (fun z => z (by rw [show l.toNat = b by omega]; exact tb))
  refine ⟨h.1, fun a b ta tb hn hh => h.2.1 a b ta tb hn (by
    rcases hh with hh | ⟨g1, g2⟩
    · exact Or.inl hh
    · exact Or.inr ⟨g1, by have := ne a b tb hn g1; omega⟩), fun a b h1 h2 g1 g2 g3 => h.2.2 a b h1 h2 g1 g2 (fun z => g3 ⟨z.1, z.2.1, z.2.2.1, by omega⟩)⟩
theorem TgP.two (h : TgP Ti T I O o k' k l T') (e : l' = l + 1) (hl : 0 ≤ l ∧ 0 ≤ k) (q : Ti k.toNat) (q2 : Ti l.toNat) (hn : ¬ k = l) (no : ¬ Ti o) (e1 : T2 k.toNat l.toNat = max (T' k.toNat l.toNat) (I k.toNat + O l.toNat)) (e3 : ∀ a b : Nat, a < 8 → b < 8 → ¬ (a = k.toNat ∧ b = l.toNat) → T2 a b = T' a b) (hT : ∀ a, Ti a → a < 8) (ho : o < 8) : TgP Ti T I O o k' k l' T2 := by
  have on : ∀ a, Ti a → ¬ a = o := fun a ta w => no (w ▸ ta)
  refine ⟨fun a ta ha => ?_, fun a b ta tb hn2 hh => ?_, fun a b h1 h2 g1 g2 g3 => ?_⟩
  · rw [e3 a o (hT a ta) ho (fun z => on _ q2 z.2.symm), e3 o a ho (hT a ta) (fun z => on _ q z.1.symm)]
    exact h.1 a ta ha
  · by_cases w : a = k.toNat ∧ b = l.toNat
    · rw [w.1, w.2, e1, h.2.2 k.toNat l.toNat (hT _ q) (hT _ q2) (fun z => on _ q2 z.2.1) (fun z => on _ q z.1) (fun z => by omega)]
    · rw [e3 a b (hT a ta) (hT b tb) w]
      exact h.2.1 a b ta tb hn2 (by
        rcases hh with hh | ⟨y1, y2⟩
        · exact Or.inl hh
        · exact Or.inr ⟨y1, by
            by_cases c : (b : Int) < l
            · exact c
            · exact absurd ⟨by omega, by omega⟩ w⟩)
  · rw [e3 a b h1 h2 (fun z => g3 ⟨by rw [z.1]; exact q, by rw [z.2]; exact q2, by omega, by omega⟩)]
    exact h.2.2 a b h1 h2 g1 g2 (fun z => g3 ⟨z.1, z.2.1, z.2.2.1, by omega⟩)
theorem TgP.end {k1 : Int} (h : TgP Ti T I O o k1 k l T') (e1 : k1 = k + 1) (e : k' = k + 1) (hT : ∀ a : Nat, Ti a → (a : Int) < l) : TgP Ti T I O o k' k' 0 T' := by
  rw [show k1 = k' by omega] at h
  refine ⟨h.1, fun a b ta tb hn hh => h.2.1 a b ta tb hn (by have := hT b tb; omega), fun a b h1 h2 g1 g2 g3 => h.2.2 a b h1 h2 g1 g2 (fun z => g3 ⟨z.1, z.2.1, z.2.2.1, by omega⟩)⟩
end TGP
theorem f_93e {S : Nat × (Nat → Int32)} {n : Nat} {mem : MM} {K : Int → MM → Prop} {E : Nat → MM → Prop} {d : Int} (hS : SkO mem d) {o : Int} (ho : 0 ≤ o ∧ o < mem 21 0) {Φ : (Nat → Int) → Prop} (hA : AlC (TiM mem o.toNat) (HdM mem o.toNat) (TM mem) (mem 22) d (mem 22 o.toNat) o.toNat Φ) (hb : ∀ i : Nat, TiM mem o.toNat i → (i : Int) < mem 21 0 ∧ ¬ i = o.toNat) (hs : ∀ i : Nat, HdM mem o.toNat i → 0 ≤ mem 22 i ∧ mem 22 i ≤ 11) (hx : 0 ≤ mem 22 o.toNat ∧ mem 22 o.toNat ≤ 11) (hdg : ∀ i : Nat, TiM mem o.toNat i → -100000 ≤ mem 30 (8 * i + i) ∧ mem 30 (8 * i + i) ≤ 5000) (H1 : ∀ m', Frm pAl mem m' → AlI (TiM mem o.toNat) (HdM mem o.toNat) (TM mem) (mem 22) d (mem 22 o.toNat) o.toNat Φ (m' 32) (m' 33) → (∀ i : Nat, TiM mem o.toNat i → AlD (HdM mem o.toNat) (TM mem) (mem 22) d (mem 22 o.toNat) o.toNat (m' 32) (m' 33) i (mem 21 0) ∧ m' 32 i + m' 33 i ≤ 0) → K 1 m') (H0 : ∀ m', Frm pAl mem m' → (∀ τ, ¬ Φ τ) → K 0 m') : CQI (Ex S (n + 2)) 93 [.inr 21, .inl o] mem K E := by
  refine CY.of (k := 3) mt_93 rfl rfl (fun hv => ?_)
  have hC := Ex.mono S (n + 1)
  have ii_o : InI o := hv (.inl o) (by simp)
  unfold InI at ii_o
  clear hv
  have hs0 := hS.1
  have hs1 := hS.2.1
  show Tx (Ex S (n + 1)) S M_93 (kI K E) 0 0 0 [some (.inr 21), some (.inl o), none, none, none] [] mem
  have l_144 : ∀ (N : Nat) (x2 x3 : Int) (m_144 : MM), (0 ≤ x3) → (∀ j : Nat, Bt x2 j ↔ HdM mem o.toNat j) → (AlI (TiM mem o.toNat) (HdM mem o.toNat) (TM mem) (mem 22) d (mem 22 o.toNat) o.toNat Φ (m_144 32) (m_144 33)) → (∀ i : Nat, (i : Int) < x3 → TiM mem o.toNat i → AlD (HdM mem o.toNat) (TM mem) (mem 22) d (mem 22 o.toNat) o.toNat (m_144 32) (m_144 33) i (mem 21 0) ∧ m_144 32 i + m_144 33 i ≤ 0) → ((8 - x3).toNat) < N → Frm pAl mem m_144 → Tx (Ex S (n + 1)) S M_93 (kI K E) 0 0 144 [some (.inr 21), some (.inl o), some (.inl x2), some (.inl x3), none] [] m_144 := by
    intro N
    induction N with
    | zero => intros; omega
    | succ N ih_144 =>
      intro x2 x3 m_144 i144_0 i144_1 i144_2 i144_3 hN_144 hF_144
      have l_171 : ∀ (N : Nat) (x4 : Int) (m_171 : MM), (0 ≤ x4 ∧ x4 ≤ mem 21 0) → (0 ≤ x3 ∧ x3 < mem 21 0) → (TiM mem o.toNat x3.toNat) → (AlI (TiM mem o.toNat) (HdM mem o.toNat) (TM mem) (mem 22) d (mem 22 o.toNat) o.toNat Φ (m_171 32) (m_171 33)) → (∀ i : Nat, (i : Int) < x3 → TiM mem o.toNat i → AlD (HdM mem o.toNat) (TM mem) (mem 22) d (mem 22 o.toNat) o.toNat (m_171 32) (m_171 33) i (mem 21 0) ∧ m_171 32 i + m_171 33 i ≤ 0) → (AlD (HdM mem o.toNat) (TM mem) (mem 22) d (mem 22 o.toNat) o.toNat (m_171 32) (m_171 33) x3.toNat x4) → ((8 - x4).toNat) < N → Frm pAl mem m_171 → Tx (Ex S (n + 1)) S M_93 (kI K E) 0 0 171 [some (.inr 21), some (.inl o), some (.inl x2), some (.inl x3), some (.inl x4)] [] m_171 := by
        intro N
        induction N with
        | zero => intros; omega
        | succ N ih_171 =>
          intro x4 m_171 i171_0 i171_1 i171_2 i171_3 i171_4 i171_5 hN_171 hF_171
          refine Tx.iload hC te_93_171 rfl ?_
          refine Tx.aload_n hC te_93_173 rfl ?_
          refine Tx.getI hC te_93_174 rfl rfl rfl (fun v1 v1e v1i => ?_)
          unfold InI at v1i
          rw [hF_171 21 _ (by unfold pAl; omega)] at v1e
          refine Tx.icmp hC (t := 265) te_93_177 (by decide) (fun q2 => ?_) (fun q2 => ?_)
          · replace q2 : v1 ≤ (x4 : Int) := q2
            refine Tx.aload_n hC te_93_265 rfl ?_
            refine Tx.getR hC te_93_266 rfl rfl rfl ?_
            refine Tx.iload_n hC te_93_269 rfl ?_
            refine Tx.iald hC te_93_270 rfl (by omega) (fun v3 v3e v3i => ?_)
            unfold InI at v3i
            refine Tx.aload_n hC te_93_271 rfl ?_
            refine Tx.getR hC te_93_272 rfl rfl rfl ?_
            refine Tx.iload_n hC te_93_275 rfl ?_
            refine Tx.iald hC te_93_276 rfl (by omega) (fun v4 v4e v4i => ?_)
            unfold InI at v4i
            have g1 := (i171_3 x3.toNat i171_2).1
            have g2 := (i171_3 x3.toNat i171_2).2.1
            have g3 := eIn_rg hA i171_2
            have g4 := hA.2.2.1 x3.toNat i171_2
            refine Tx.iaddW hC te_93_277 (fun z5 z5i z5e => ?_)
            unfold InI at z5i z5e
            first | replace z5e := z5e (by omega) | clear z5e
            refine Tx.ifc hC (t := 283) te_93_278 (by decide) (fun q6 => ?_) (fun q6 => ?_)
            · replace q6 : (z5 : Int) ≤ 0 := q6
              refine Tx.iincW hC te_93_283 rfl rfl (fun z7 z7i z7e => ?_)
              unfold InI at z7i z7e
              first | replace z7e := z7e (by omega) | clear z7e
              refine Tx.goto hC (t := 144) te_93_286 (by decide) ?_
              exact Tx.weak (by repeat' (first | exact trivial | exact rfl | constructor)) (ih_144 x2 z7 m_171 (by omega) (by first | exact i14_1 | exact i144_1) (by first | exact i171_3 | exact i144_2 | exact AlI.ini hA (fun i ti => i14_2 i (by have := (hb i ti).1; omega) ti)) (by first | exact (fun i hi => absurd hi (by omega)) | exact (fun i hi ti => (Classical.em ((i : Int) < x3)).elim (fun q => i171_4 i q ti) (fun q => by rw [show i = x3.toNat by omega, show mem 21 0 = x4 by omega]; exact ⟨i171_5, by omega⟩)) | exact (fun i hi ti => (Classical.em ((i : Int) < x3)).elim (fun q => i144_3 i q ti) (fun q => absurd (t62.mpr (by rw [show x3.toNat = i by omega]; exact ti)) (by assumption)))) (by omega) hF_171)
            · replace q6 : ¬ ((z5 : Int) ≤ 0) := q6
              refine Tx.iconst hC te_93_281 rfl ?_
              exact Tx.bret hC te_93_282 rfl (by omega) (show K 0 m_171 from H0 _ hF_171 (AlI.no i171_3 (i := x3.toNat) i171_2 (by omega)))
          · replace q2 : ¬ (v1 ≤ (x4 : Int)) := q2
            refine Tx.iload_n hC te_93_180 rfl ?_
            refine Tx.iconst hC te_93_181 rfl ?_
            refine Tx.iload hC te_93_182 rfl ?_
            refine Tx.bits hC (f := (fun (x y : Int32) => x <<< (y &&& 31))) te_93_184 (fun _ _ _ _ => Iff.rfl) (fun b8 b8e b8i => ?_)
            unfold InI at b8i
            refine Tx.bits hC (f := (fun (x y : Int32) => x &&& y)) te_93_185 (fun _ _ _ _ => Iff.rfl) (fun b9 b9e b9i => ?_)
            unfold InI at b9i
            have t86 := Bt_tst (t := x2) (o := x4) (by omega) (by assumption) b9e
            refine Tx.ifc hC (t := 259) te_93_186 (by decide) (fun q10 => ?_) (fun q10 => ?_)
            · replace q10 : (b9 : Int) = 0 := q10
              refine Tx.iincW hC te_93_259 rfl rfl (fun z11 z11i z11e => ?_)
              unfold InI at z11i z11e
              first | replace z11e := z11e (by omega) | clear z11e
              refine Tx.goto hC (t := 171) te_93_262 (by decide) ?_
              exact ih_171 z11 m_171 (by omega) (by omega) (by first | exact i171_2 | exact t62.mp (by assumption)) (by first | exact i171_3 | exact i144_2 | exact AlI.upd hA i171_3 i171_2 hj (by rw [m32n 32 _ (by omega), m21e]; exact u1) (fun c hc => by rw [m32n 32 c (by omega), m21n 32 c (by omega)]) (by rw [m32e]; exact u2) (fun c hc => by rw [m32n 33 c (by omega), m21n 33 c (by omega)])) (by first | exact i171_4 | exact i144_3 | exact (fun i hi ti => by
                have a1 : m32 32 i = m_171 32 i := by rw [m32n 32 i (by omega), m21n 32 i (by omega)]
                have a2 : m32 33 i = m_171 33 i := by rw [m32n 33 i (by omega), m21n 33 i (by omega)]
                refine ⟨(i171_4 i hi ti).1.cg a1 a2, ?_⟩
                rw [a1, a2]
                exact (i171_4 i hi ti).2)) (by first | exact (fun j hj0 => absurd hj0 (by omega)) | exact AlD.upd hA i171_3 i171_5 (by omega) (by omega) (fun z => absurd (t86.mpr ((i144_1 x4.toNat).mpr z)) (fun w => w (by assumption))) (fun _ => ⟨rfl, rfl⟩) | exact AlD.upd hA i171_3 i171_5 (by omega) (by omega) (fun _ => ⟨by rw [m32n 32 _ (by omega), m21e]; exact u1, by rw [m32e]; exact u2⟩) (fun z => absurd hj z)) (by omega) hF_171
            · replace q10 : ¬ ((b9 : Int) = 0) := q10
              have hj : HdM mem o.toNat x4.toNat := (i144_1 x4.toNat).mp (t86.mp (by assumption))
              have rj := AlI.rg hA i171_3 hj
              have ri := eIn_rg hA i171_2
              have ri2 := (i171_3 x3.toNat i171_2).1
              have ri3 := (i171_3 x3.toNat i171_2).2.1
              have ri4 := hA.2.2.1 x3.toNat i171_2
              have rt : (-100000 ≤ mem 30 (8 * x3.toNat + x4.toNat) ∧ mem 30 (8 * x3.toNat + x4.toNat) ≤ 5000) ∧ -100000 ≤ mem 30 (8 * x4.toNat + x3.toNat) ∧ mem 30 (8 * x4.toNat + x3.toNat) ≤ 5000 := by
                by_cases q : x3.toNat = x4.toNat
                · rw [← q]; exact ⟨hdg _ i171_2, hdg _ i171_2⟩
                · have w := hA.2.2.2.1 x3.toNat x4.toNat i171_2 hj q
                  unfold TM at w
                  omega
              refine Tx.aload_n hC te_93_189 rfl ?_
              refine Tx.getR hC te_93_190 rfl rfl rfl ?_
              refine Tx.iload_n hC te_93_193 rfl ?_
              refine Tx.aload_n hC te_93_194 rfl ?_
              refine Tx.getR hC te_93_195 rfl rfl rfl ?_
              refine Tx.iload_n hC te_93_198 rfl ?_
              refine Tx.iald hC te_93_199 rfl (by omega) (fun v12 v12e v12i => ?_)
              unfold InI at v12i
              refine Tx.aload_n hC te_93_200 rfl ?_
              refine Tx.getR hC te_93_201 rfl rfl rfl ?_
              refine Tx.iload_n hC te_93_204 rfl ?_
              refine Tx.bipush hC te_93_205 rfl rfl ?_
              refine Tx.imulW hC te_93_207 (fun z13 z13i z13e => ?_)
              unfold InI at z13i z13e
              first | replace z13e := z13e (by omega) | clear z13e
              refine Tx.iload hC te_93_208 rfl ?_
              refine Tx.iaddW hC te_93_210 (fun z14 z14i z14e => ?_)
              unfold InI at z14i z14e
              first | replace z14e := z14e (by omega) | clear z14e
              refine Tx.iald hC te_93_211 rfl (by omega) (fun v15 v15e v15i => ?_)
              unfold InI at v15i
              rw [hF_171 30 _ (by unfold pAl; omega)] at v15e
              refine Tx.aload_n hC te_93_212 rfl ?_
              refine Tx.getR hC te_93_213 rfl rfl rfl ?_
              refine Tx.iload hC te_93_216 rfl ?_
              refine Tx.iald hC te_93_218 rfl (by omega) (fun v16 v16e v16i => ?_)
              unfold InI at v16i
              have w15 : v15 = mem 30 (8 * x3.toNat + x4.toNat) := by
                rw [v15e]
                congr 1
                omega
              refine Tx.iaddW hC te_93_219 (fun z17 z17i z17e => ?_)
              unfold InI at z17i z17e
              first | replace z17e := z17e (by omega) | clear z17e
              refine Tx.statI hC te_93_220 (by decide) mt_40 (args := [.inl v12, .inl z17]) (rest := [.inl x3, .inr 32]) (c' := 0) (s' := 0) rfl rfl rfl rfl rfl rfl rfl ?_
              refine f_40q (fun r18 r18a r18b r18c r18i => ?_)
              unfold InI at r18i
              refine Tx.iast hC te_93_223 rfl (by omega) ?_
              have hF22 : Frm pAl mem (upm m_171 32 (Int.toNat x3) r18) := Frm.up hF_171 (by unfold pAl; omega)
              have m21e : (upm m_171 32 (Int.toNat x3) r18) 32 (Int.toNat x3) = r18 := upm_eq
              have m21n : ∀ B j, ¬ (B = 32 ∧ j = (Int.toNat x3)) → (upm m_171 32 (Int.toNat x3) r18) B j = m_171 B j := fun B j q => upm_ne q
              generalize upm m_171 32 (Int.toNat x3) r18 = m21 at hF22 m21e m21n ⊢
              refine Tx.aload_n hC te_93_224 rfl ?_
              refine Tx.getR hC te_93_225 rfl rfl rfl ?_
              refine Tx.iload_n hC te_93_228 rfl ?_
              refine Tx.aload_n hC te_93_229 rfl ?_
              refine Tx.getR hC te_93_230 rfl rfl rfl ?_
              refine Tx.iload_n hC te_93_233 rfl ?_
              refine Tx.iald hC te_93_234 rfl (by omega) (fun v23 v23e v23i => ?_)
              unfold InI at v23i
              refine Tx.aload_n hC te_93_235 rfl ?_
              refine Tx.getR hC te_93_236 rfl rfl rfl ?_
              refine Tx.iload hC te_93_239 rfl ?_
              refine Tx.iald hC te_93_241 rfl (by omega) (fun v24 v24e v24i => ?_)
              unfold InI at v24i
              refine Tx.aload_n hC te_93_242 rfl ?_
              refine Tx.getR hC te_93_243 rfl rfl rfl ?_
              refine Tx.iload hC te_93_246 rfl ?_
              refine Tx.bipush hC te_93_248 rfl rfl ?_
              refine Tx.imulW hC te_93_250 (fun z25 z25i z25e => ?_)
              unfold InI at z25i z25e
              first | replace z25e := z25e (by omega) | clear z25e
              refine Tx.iload_n hC te_93_251 rfl ?_
              refine Tx.iaddW hC te_93_252 (fun z26 z26i z26e => ?_)
              unfold InI at z26i z26e
              first | replace z26e := z26e (by omega) | clear z26e
              refine Tx.iald hC te_93_253 rfl (by omega) (fun v27 v27e v27i => ?_)
              unfold InI at v27i
              rw [hF22 30 _ (by unfold pAl; omega)] at v27e
              have w27 : v27 = mem 30 (8 * x4.toNat + x3.toNat) := by
                rw [v27e]
                congr 1
                omega
              have w23 := m21n 33 (Int.toNat x3) (by omega)
              have w24 := m21n 33 (Int.toNat x4) (by omega)
              refine Tx.iaddW hC te_93_254 (fun z28 z28i z28e => ?_)
              unfold InI at z28i z28e
              first | replace z28e := z28e (by omega) | clear z28e
              refine Tx.statI hC te_93_255 (by decide) mt_40 (args := [.inl v23, .inl z28]) (rest := [.inl x3, .inr 33]) (c' := 0) (s' := 0) rfl rfl rfl rfl rfl rfl rfl ?_
              refine f_40q (fun r29 r29a r29b r29c r29i => ?_)
              unfold InI at r29i
              have u1 : r18 = max (m_171 32 x3.toNat) (TM mem x3.toNat x4.toNat + m_171 32 x4.toNat) := by
                show r18 = max (m_171 32 x3.toNat) (mem 30 (8 * x3.toNat + x4.toNat) + m_171 32 x4.toNat)
                omega
              have u2 : r29 = max (m_171 33 x3.toNat) (m_171 33 x4.toNat + TM mem x4.toNat x3.toNat) := by
                show r29 = max (m_171 33 x3.toNat) (m_171 33 x4.toNat + mem 30 (8 * x4.toNat + x3.toNat))
                omega
              refine Tx.iast hC te_93_258 rfl (by omega) ?_
              have hF33 : Frm pAl mem (upm m21 33 (Int.toNat x3) r29) := Frm.up hF22 (by unfold pAl; omega)
              have m32e : (upm m21 33 (Int.toNat x3) r29) 33 (Int.toNat x3) = r29 := upm_eq
              have m32n : ∀ B j, ¬ (B = 33 ∧ j = (Int.toNat x3)) → (upm m21 33 (Int.toNat x3) r29) B j = m21 B j := fun B j q => upm_ne q
              generalize upm m21 33 (Int.toNat x3) r29 = m32 at hF33 m32e m32n ⊢
              refine Tx.iincW hC te_93_259 rfl rfl (fun z34 z34i z34e => ?_)
              unfold InI at z34i z34e
              first | replace z34e := z34e (by omega) | clear z34e
              refine Tx.goto hC (t := 171) te_93_262 (by decide) ?_
              exact ih_171 z34 m32 (by omega) (by omega) (by first | exact i171_2 | exact t62.mp (by assumption)) (by first | exact i171_3 | exact i144_2 | exact AlI.upd hA i171_3 i171_2 hj (by rw [m32n 32 _ (by omega), m21e]; exact u1) (fun c hc => by rw [m32n 32 c (by omega), m21n 32 c (by omega)]) (by rw [m32e]; exact u2) (fun c hc => by rw [m32n 33 c (by omega), m21n 33 c (by omega)])) (by first | exact i171_4 | exact i144_3 | exact (fun i hi ti => by
                have a1 : m32 32 i = m_171 32 i := by rw [m32n 32 i (by omega), m21n 32 i (by omega)]
                have a2 : m32 33 i = m_171 33 i := by rw [m32n 33 i (by omega), m21n 33 i (by omega)]
                refine ⟨(i171_4 i hi ti).1.cg a1 a2, ?_⟩
                rw [a1, a2]
                exact (i171_4 i hi ti).2)) (by first | exact (fun j hj0 => absurd hj0 (by omega)) | exact AlD.upd hA i171_3 i171_5 (by omega) (by omega) (fun z => absurd (t86.mpr ((i144_1 x4.toNat).mpr z)) (fun w => w (by assumption))) (fun _ => ⟨rfl, rfl⟩) | exact AlD.upd hA i171_3 i171_5 (by omega) (by omega) (fun _ => ⟨by rw [m32n 32 _ (by omega), m21e]; exact u1, by rw [m32e]; exact u2⟩) (fun z => absurd hj z)) (by omega) hF33
      refine Tx.iload_n hC te_93_144 rfl ?_
      refine Tx.aload_n hC te_93_145 rfl ?_
      refine Tx.getI hC te_93_146 rfl rfl rfl (fun v35 v35e v35i => ?_)
      unfold InI at v35i
      rw [hF_144 21 _ (by unfold pAl; omega)] at v35e
      refine Tx.icmp hC (t := 289) te_93_149 (by decide) (fun q36 => ?_) (fun q36 => ?_)
      · replace q36 : v35 ≤ (x3 : Int) := q36
        refine Tx.iconst hC te_93_289 rfl ?_
        exact Tx.bret hC te_93_290 rfl (by omega) (show K 1 m_144 from H1 _ hF_144 i144_2 (fun i hi => i144_3 i (by have := (hb i hi).1; omega) hi))
      · replace q36 : ¬ (v35 ≤ (x3 : Int)) := q36
        refine Tx.aload_n hC te_93_152 rfl ?_
        refine Tx.getR hC te_93_153 rfl rfl rfl ?_
        refine Tx.iload_n hC te_93_156 rfl ?_
        refine Tx.iald hC te_93_157 rfl (by omega) (fun v37 v37e v37i => ?_)
        unfold InI at v37i
        rw [hF_144 34 _ (by unfold pAl; omega)] at v37e
        refine Tx.iconst hC te_93_158 rfl ?_
        refine Tx.iload_n hC te_93_159 rfl ?_
        refine Tx.bits hC (f := (fun (x y : Int32) => x <<< (y &&& 31))) te_93_160 (fun _ _ _ _ => Iff.rfl) (fun b38 b38e b38i => ?_)
        unfold InI at b38i
        have n37 := v37e
        refine Tx.bits hC (f := (fun (x y : Int32) => x &&& y)) te_93_161 (fun _ _ _ _ => Iff.rfl) (fun b39 b39e b39i => ?_)
        unfold InI at b39i
        have t62 := Bt_tst (o := x3) (by omega) (by assumption) b39e
        rw [n37] at t62
        refine Tx.ifc hC (t := 168) te_93_162 (by decide) (fun q40 => ?_) (fun q40 => ?_)
        · replace q40 : ¬ (b39 : Int) = 0 := q40
          refine Tx.iconst hC te_93_168 rfl ?_
          refine Tx.istore hC te_93_169 rfl ?_
          exact l_171 _ 0 m_144 (by omega) (by omega) (by first | exact i171_2 | exact t62.mp (by assumption)) (by first | exact i171_3 | exact i144_2 | exact AlI.upd hA i171_3 i171_2 hj (by rw [m32n 32 _ (by omega), m21e]; exact u1) (fun c hc => by rw [m32n 32 c (by omega), m21n 32 c (by omega)]) (by rw [m32e]; exact u2) (fun c hc => by rw [m32n 33 c (by omega), m21n 33 c (by omega)])) (by first | exact i171_4 | exact i144_3 | exact (fun i hi ti => by
            have a1 : m32 32 i = m_171 32 i := by rw [m32n 32 i (by omega), m21n 32 i (by omega)]
            have a2 : m32 33 i = m_171 33 i := by rw [m32n 33 i (by omega), m21n 33 i (by omega)]
            refine ⟨(i171_4 i hi ti).1.cg a1 a2, ?_⟩
            rw [a1, a2]
            exact (i171_4 i hi ti).2)) (by first | exact (fun j hj0 => absurd hj0 (by omega)) | exact AlD.upd hA i171_3 i171_5 (by omega) (by omega) (fun z => absurd (t86.mpr ((i144_1 x4.toNat).mpr z)) (fun w => w (by assumption))) (fun _ => ⟨rfl, rfl⟩) | exact AlD.upd hA i171_3 i171_5 (by omega) (by omega) (fun _ => ⟨by rw [m32n 32 _ (by omega), m21e]; exact u1, by rw [m32e]; exact u2⟩) (fun z => absurd hj z)) (Nat.lt_succ_self _) hF_144
        · replace q40 : ¬ (¬ (b39 : Int) = 0) := q40
          refine Tx.goto hC (t := 283) te_93_165 (by decide) ?_
          refine Tx.iincW hC te_93_283 rfl rfl (fun z41 z41i z41e => ?_)
          unfold InI at z41i z41e
          first | replace z41e := z41e (by omega) | clear z41e
          refine Tx.goto hC (t := 144) te_93_286 (by decide) ?_
          exact ih_144 x2 z41 m_144 (by omega) (by first | exact i14_1 | exact i144_1) (by first | exact i171_3 | exact i144_2 | exact AlI.ini hA (fun i ti => i14_2 i (by have := (hb i ti).1; omega) ti)) (by first | exact (fun i hi => absurd hi (by omega)) | exact (fun i hi ti => (Classical.em ((i : Int) < x3)).elim (fun q => i171_4 i q ti) (fun q => by rw [show i = x3.toNat by omega, show mem 21 0 = x4 by omega]; exact ⟨i171_5, by omega⟩)) | exact (fun i hi ti => (Classical.em ((i : Int) < x3)).elim (fun q => i144_3 i q ti) (fun q => absurd (t62.mpr (by rw [show x3.toNat = i by omega]; exact ti)) (by assumption)))) (by omega) hF_144
  have l_14 : ∀ (N : Nat) (x2 x3 : Int) (m_14 : MM), (0 ≤ x3) → (∀ j : Nat, Bt x2 j ↔ HdM mem o.toNat j) → (∀ i : Nat, (i : Int) < x3 → TiM mem o.toNat i → m_14 32 i = eIn (HdM mem o.toNat) (TM mem) (mem 22) d (mem 22 o.toNat) o.toNat i ∧ m_14 33 i = eOu (HdM mem o.toNat) (TM mem) (mem 22) d (mem 22 o.toNat) o.toNat i) → ((8 - x3).toNat) < N → Frm pAl mem m_14 → Tx (Ex S (n + 1)) S M_93 (kI K E) 0 0 14 [some (.inr 21), some (.inl o), some (.inl x2), some (.inl x3), none] [] m_14 := by
    intro N
    induction N with
    | zero => intros; omega
    | succ N ih_14 =>
      intro x2 x3 m_14 i14_0 i14_1 i14_2 hN_14 hF_14
      refine Tx.iload_n hC te_93_14 rfl ?_
      refine Tx.aload_n hC te_93_15 rfl ?_
      refine Tx.getI hC te_93_16 rfl rfl rfl (fun v42 v42e v42i => ?_)
      unfold InI at v42i
      rw [hF_14 21 _ (by unfold pAl; omega)] at v42e
      refine Tx.icmp hC (t := 142) te_93_19 (by decide) (fun q43 => ?_) (fun q43 => ?_)
      · replace q43 : v42 ≤ (x3 : Int) := q43
        refine Tx.iconst hC te_93_142 rfl ?_
        refine Tx.istore_n hC te_93_143 rfl ?_
        exact l_144 _ x2 0 m_14 (by omega) (by first | exact i14_1 | exact i144_1) (by first | exact i171_3 | exact i144_2 | exact AlI.ini hA (fun i ti => i14_2 i (by have := (hb i ti).1; omega) ti)) (by first | exact (fun i hi => absurd hi (by omega)) | exact (fun i hi ti => (Classical.em ((i : Int) < x3)).elim (fun q => i171_4 i q ti) (fun q => by rw [show i = x3.toNat by omega, show mem 21 0 = x4 by omega]; exact ⟨i171_5, by omega⟩)) | exact (fun i hi ti => (Classical.em ((i : Int) < x3)).elim (fun q => i144_3 i q ti) (fun q => absurd (t62.mpr (by rw [show x3.toNat = i by omega]; exact ti)) (by assumption)))) (Nat.lt_succ_self _) hF_14
      · replace q43 : ¬ (v42 ≤ (x3 : Int)) := q43
        refine Tx.aload_n hC te_93_22 rfl ?_
        refine Tx.getR hC te_93_23 rfl rfl rfl ?_
        refine Tx.iload_n hC te_93_26 rfl ?_
        refine Tx.aload_n hC te_93_27 rfl ?_
        refine Tx.getR hC te_93_28 rfl rfl rfl ?_
        refine Tx.iload_n hC te_93_31 rfl ?_
        refine Tx.bipush hC te_93_32 rfl rfl ?_
        refine Tx.imulW hC te_93_34 (fun z44 z44i z44e => ?_)
        unfold InI at z44i z44e
        first | replace z44e := z44e (by omega) | clear z44e
        refine Tx.iload_n hC te_93_35 rfl ?_
        refine Tx.iaddW hC te_93_36 (fun z45 z45i z45e => ?_)
        unfold InI at z45i z45e
        first | replace z45e := z45e (by omega) | clear z45e
        refine Tx.iald hC te_93_37 rfl (by omega) (fun v46 v46e v46i => ?_)
        unfold InI at v46i
        rw [hF_14 30 _ (by unfold pAl; omega)] at v46e
        refine Tx.iast hC te_93_38 rfl (by omega) ?_
        have hF48 : Frm pAl mem (upm m_14 32 (Int.toNat x3) v46) := Frm.up hF_14 (by unfold pAl; omega)
        have m47e : (upm m_14 32 (Int.toNat x3) v46) 32 (Int.toNat x3) = v46 := upm_eq
        have m47n : ∀ B j, ¬ (B = 32 ∧ j = (Int.toNat x3)) → (upm m_14 32 (Int.toNat x3) v46) B j = m_14 B j := fun B j q => upm_ne q
        generalize upm m_14 32 (Int.toNat x3) v46 = m47 at hF48 m47e m47n ⊢
        refine Tx.aload_n hC te_93_39 rfl ?_
        refine Tx.getR hC te_93_40 rfl rfl rfl ?_
        refine Tx.iload_n hC te_93_43 rfl ?_
        refine Tx.aload_n hC te_93_44 rfl ?_
        refine Tx.getR hC te_93_45 rfl rfl rfl ?_
        refine Tx.iload_n hC te_93_48 rfl ?_
        refine Tx.bipush hC te_93_49 rfl rfl ?_
        refine Tx.imulW hC te_93_51 (fun z49 z49i z49e => ?_)
        unfold InI at z49i z49e
        first | replace z49e := z49e (by omega) | clear z49e
        refine Tx.iload_n hC te_93_52 rfl ?_
        refine Tx.iaddW hC te_93_53 (fun z50 z50i z50e => ?_)
        unfold InI at z50i z50e
        first | replace z50e := z50e (by omega) | clear z50e
        refine Tx.iald hC te_93_54 rfl (by omega) (fun v51 v51e v51i => ?_)
        unfold InI at v51i
        rw [hF48 30 _ (by unfold pAl; omega)] at v51e
        refine Tx.iast hC te_93_55 rfl (by omega) ?_
        have hF53 : Frm pAl mem (upm m47 33 (Int.toNat x3) v51) := Frm.up hF48 (by unfold pAl; omega)
        have m52e : (upm m47 33 (Int.toNat x3) v51) 33 (Int.toNat x3) = v51 := upm_eq
        have m52n : ∀ B j, ¬ (B = 33 ∧ j = (Int.toNat x3)) → (upm m47 33 (Int.toNat x3) v51) B j = m47 B j := fun B j q => upm_ne q
        generalize upm m47 33 (Int.toNat x3) v51 = m52 at hF53 m52e m52n ⊢
        refine Tx.iload_n hC te_93_56 rfl ?_
        refine Tx.iconst hC te_93_57 rfl ?_
        refine Tx.iload_n hC te_93_58 rfl ?_
        refine Tx.bits hC (f := (fun (x y : Int32) => x <<< (y &&& 31))) te_93_59 (fun _ _ _ _ => Iff.rfl) (fun b54 b54e b54i => ?_)
        unfold InI at b54i
        refine Tx.bits hC (f := (fun (x y : Int32) => x &&& y)) te_93_60 (fun _ _ _ _ => Iff.rfl) (fun b55 b55e b55i => ?_)
        unfold InI at b55i
        have t61 := Bt_tst (t := x2) (o := x3) (by omega) (by assumption) b55e
        refine Tx.ifc hC (t := 136) te_93_61 (by decide) (fun q56 => ?_) (fun q56 => ?_)
        · replace q56 : (b55 : Int) = 0 := q56
          refine Tx.iincW hC te_93_136 rfl rfl (fun z57 z57i z57e => ?_)
          unfold InI at z57i z57e
          first | replace z57e := z57e (by omega) | clear z57e
          refine Tx.goto hC (t := 14) te_93_139 (by decide) ?_
          exact ih_14 x2 z57 m52 (by omega) (by first | exact i14_1 | exact (fun j => by rw [Bt_and x2e, n34, n4]; exact Iff.rfl)) (by first | exact (fun i hi => absurd hi (by omega)) | exact AlF.step i14_2 (by omega) (by omega) (fun c hc => ⟨by rw [m52n 32 c (by omega), m47n 32 c (by omega)], by rw [m52n 33 c (by omega), m47n 33 c (by omega)]⟩) (fun ti => ⟨by rw [(eIn_n (Hd := HdM mem o.toNat) (i := x3.toNat) (fun z => (t61.mpr ((i14_1 _).mpr z)) (by assumption))).1, m52n 32 _ (by omega), m47e, v46e]; exact congrArg (mem 30) (by omega), by rw [(eIn_n (Hd := HdM mem o.toNat) (i := x3.toNat) (fun z => (t61.mpr ((i14_1 _).mpr z)) (by assumption))).2, m52e, v51e]; exact congrArg (mem 30) (by omega)⟩) | exact AlF.step i14_2 (by omega) (by omega) (fun c hc => ⟨by rw [m82n 32 c (by omega), m69n 32 c (by omega), m52n 32 c (by omega), m47n 32 c (by omega)], by rw [m82n 33 c (by omega), m69n 33 c (by omega), m52n 33 c (by omega), m47n 33 c (by omega)]⟩) (fun ti => by
            unfold eIn eOu
            rw [cIf.y th, cIf.y th, m82n 32 _ (by omega), m69e, m82e]
            unfold TM
            exact ⟨by omega, by omega⟩)) (by omega) hF53
        · replace q56 : ¬ ((b55 : Int) = 0) := q56
          have th : HdM mem o.toNat x3.toNat := (i14_1 x3.toNat).mp (t61.mp (by assumption))
          have k1 := hA.2.2.1 x3.toNat th.1
          unfold TM at k1
          have k2 := hs x3.toNat th
          have c1 : m52 32 x3.toNat = mem 30 (8 * x3.toNat + o.toNat) := by
            rw [m52n 32 _ (by omega), m47e, v46e]
            congr 1
            omega
          have c2 : m52 33 x3.toNat = mem 30 (8 * o.toNat + x3.toNat) := by
            rw [m52e, v51e]
            congr 1
            omega
          refine Tx.aload_n hC te_93_64 rfl ?_
          refine Tx.getR hC te_93_65 rfl rfl rfl ?_
          refine Tx.iload_n hC te_93_68 rfl ?_
          refine Tx.dup2 hC te_93_69 ?_
          refine Tx.iald hC te_93_70 rfl (by omega) (fun v58 v58e v58i => ?_)
          unfold InI at v58i
          refine Tx.aload_n hC te_93_71 rfl ?_
          refine Tx.getR hC te_93_72 rfl rfl rfl ?_
          refine Tx.iload_n hC te_93_75 rfl ?_
          refine Tx.iald hC te_93_76 rfl (by omega) (fun v59 v59e v59i => ?_)
          unfold InI at v59i
          rw [hF53 22 _ (by unfold pAl; omega)] at v59e
          refine Tx.aload_n hC te_93_77 rfl ?_
          refine Tx.getR hC te_93_78 rfl rfl rfl ?_
          refine Tx.iload_n hC te_93_81 rfl ?_
          refine Tx.iald hC te_93_82 rfl (by omega) (fun v60 v60e v60i => ?_)
          unfold InI at v60i
          rw [hF53 22 _ (by unfold pAl; omega)] at v60e
          refine Tx.isubW hC te_93_83 (fun z61 z61i z61e => ?_)
          unfold InI at z61i z61e
          first | replace z61e := z61e (by omega) | clear z61e
          refine Tx.aload_n hC te_93_84 rfl ?_
          refine Tx.getR hC te_93_85 rfl rfl rfl ?_
          refine Tx.iload_n hC te_93_88 rfl ?_
          refine Tx.iald hC te_93_89 rfl (by omega) (fun v62 v62e v62i => ?_)
          unfold InI at v62i
          refine Tx.isubW hC te_93_90 (fun z63 z63i z63e => ?_)
          unfold InI at z63i z63e
          first | replace z63e := z63e (by omega) | clear z63e
          refine Tx.aload_n hC te_93_91 rfl ?_
          refine Tx.getI hC te_93_92 rfl rfl rfl (fun v64 v64e v64i => ?_)
          unfold InI at v64i
          rw [hF53 21 _ (by unfold pAl; omega)] at v64e
          refine Tx.statI hC te_93_95 (by decide) mt_94 (args := [.inl z63, .inl v64]) (rest := [.inl v58, .inl x3, .inr 32]) (c' := 0) (s' := 0) rfl rfl rfl rfl rfl rfl rfl ?_
          refine f_94e (by omega) (fun r65i => ?_)
          have ha : z63 % v64 = (mem 22 o.toNat - mem 22 x3.toNat - mem 30 (8 * x3.toNat + o.toNat)) % d := by rw [v64e, hs1.1, show z63 = mem 22 o.toNat - mem 22 x3.toNat - mem 30 (8 * x3.toNat + o.toNat) by omega]
          have ha1 := Int.emod_nonneg z63 (show v64 ≠ 0 by omega)
          have ha2 := Int.emod_lt_of_pos z63 (show 0 < v64 by omega)
          refine Tx.iaddW hC te_93_98 (fun z68 z68i z68e => ?_)
          unfold InI at z68i z68e
          first | replace z68e := z68e (by omega) | clear z68e
          refine Tx.iast hC te_93_99 rfl (by omega) ?_
          have hF70 : Frm pAl mem (upm m52 32 (Int.toNat x3) z68) := Frm.up hF53 (by unfold pAl; omega)
          have m69e : (upm m52 32 (Int.toNat x3) z68) 32 (Int.toNat x3) = z68 := upm_eq
          have m69n : ∀ B j, ¬ (B = 32 ∧ j = (Int.toNat x3)) → (upm m52 32 (Int.toNat x3) z68) B j = m52 B j := fun B j q => upm_ne q
          generalize upm m52 32 (Int.toNat x3) z68 = m69 at hF70 m69e m69n ⊢
          refine Tx.aload_n hC te_93_100 rfl ?_
          refine Tx.getR hC te_93_101 rfl rfl rfl ?_
          refine Tx.iload_n hC te_93_104 rfl ?_
          refine Tx.dup2 hC te_93_105 ?_
          refine Tx.iald hC te_93_106 rfl (by omega) (fun v71 v71e v71i => ?_)
          unfold InI at v71i
          refine Tx.aload_n hC te_93_107 rfl ?_
          refine Tx.getR hC te_93_108 rfl rfl rfl ?_
          refine Tx.iload_n hC te_93_111 rfl ?_
          refine Tx.iald hC te_93_112 rfl (by omega) (fun v72 v72e v72i => ?_)
          unfold InI at v72i
          rw [hF70 22 _ (by unfold pAl; omega)] at v72e
          refine Tx.aload_n hC te_93_113 rfl ?_
          refine Tx.getR hC te_93_114 rfl rfl rfl ?_
          refine Tx.iload_n hC te_93_117 rfl ?_
          refine Tx.iald hC te_93_118 rfl (by omega) (fun v73 v73e v73i => ?_)
          unfold InI at v73i
          rw [hF70 22 _ (by unfold pAl; omega)] at v73e
          refine Tx.isubW hC te_93_119 (fun z74 z74i z74e => ?_)
          unfold InI at z74i z74e
          first | replace z74e := z74e (by omega) | clear z74e
          refine Tx.aload_n hC te_93_120 rfl ?_
          refine Tx.getR hC te_93_121 rfl rfl rfl ?_
          refine Tx.iload_n hC te_93_124 rfl ?_
          refine Tx.iald hC te_93_125 rfl (by omega) (fun v75 v75e v75i => ?_)
          unfold InI at v75i
          have c3 : v75 = mem 30 (8 * o.toNat + x3.toNat) := by
            rw [v75e, m69n 33 _ (by omega)]
            exact c2
          have c4 : v71 = mem 30 (8 * o.toNat + x3.toNat) := by
            rw [v71e, m69n 33 _ (by omega)]
            exact c2
          refine Tx.isubW hC te_93_126 (fun z76 z76i z76e => ?_)
          unfold InI at z76i z76e
          first | replace z76e := z76e (by omega) | clear z76e
          refine Tx.aload_n hC te_93_127 rfl ?_
          refine Tx.getI hC te_93_128 rfl rfl rfl (fun v77 v77e v77i => ?_)
          unfold InI at v77i
          rw [hF70 21 _ (by unfold pAl; omega)] at v77e
          refine Tx.statI hC te_93_131 (by decide) mt_94 (args := [.inl z76, .inl v77]) (rest := [.inl v71, .inl x3, .inr 33]) (c' := 0) (s' := 0) rfl rfl rfl rfl rfl rfl rfl ?_
          refine f_94e (by omega) (fun r78i => ?_)
          have hz : z76 % v77 = (mem 22 x3.toNat - mem 22 o.toNat - mem 30 (8 * o.toNat + x3.toNat)) % d := by rw [v77e, hs1.1, show z76 = mem 22 x3.toNat - mem 22 o.toNat - mem 30 (8 * o.toNat + x3.toNat) by omega]
          have hz1 := Int.emod_nonneg z76 (show v77 ≠ 0 by omega)
          have hz2 := Int.emod_lt_of_pos z76 (show 0 < v77 by omega)
          refine Tx.iaddW hC te_93_134 (fun z81 z81i z81e => ?_)
          unfold InI at z81i z81e
          first | replace z81e := z81e (by omega) | clear z81e
          refine Tx.iast hC te_93_135 rfl (by omega) ?_
          have hF83 : Frm pAl mem (upm m69 33 (Int.toNat x3) z81) := Frm.up hF70 (by unfold pAl; omega)
          have m82e : (upm m69 33 (Int.toNat x3) z81) 33 (Int.toNat x3) = z81 := upm_eq
          have m82n : ∀ B j, ¬ (B = 33 ∧ j = (Int.toNat x3)) → (upm m69 33 (Int.toNat x3) z81) B j = m69 B j := fun B j q => upm_ne q
          generalize upm m69 33 (Int.toNat x3) z81 = m82 at hF83 m82e m82n ⊢
          refine Tx.iincW hC te_93_136 rfl rfl (fun z84 z84i z84e => ?_)
          unfold InI at z84i z84e
          first | replace z84e := z84e (by omega) | clear z84e
          refine Tx.goto hC (t := 14) te_93_139 (by decide) ?_
          exact ih_14 x2 z84 m82 (by omega) (by first | exact i14_1 | exact (fun j => by rw [Bt_and x2e, n34, n4]; exact Iff.rfl)) (by first | exact (fun i hi => absurd hi (by omega)) | exact AlF.step i14_2 (by omega) (by omega) (fun c hc => ⟨by rw [m52n 32 c (by omega), m47n 32 c (by omega)], by rw [m52n 33 c (by omega), m47n 33 c (by omega)]⟩) (fun ti => ⟨by rw [(eIn_n (Hd := HdM mem o.toNat) (i := x3.toNat) (fun z => (t61.mpr ((i14_1 _).mpr z)) (by assumption))).1, m52n 32 _ (by omega), m47e, v46e]; exact congrArg (mem 30) (by omega), by rw [(eIn_n (Hd := HdM mem o.toNat) (i := x3.toNat) (fun z => (t61.mpr ((i14_1 _).mpr z)) (by assumption))).2, m52e, v51e]; exact congrArg (mem 30) (by omega)⟩) | exact AlF.step i14_2 (by omega) (by omega) (fun c hc => ⟨by rw [m82n 32 c (by omega), m69n 32 c (by omega), m52n 32 c (by omega), m47n 32 c (by omega)], by rw [m82n 33 c (by omega), m69n 33 c (by omega), m52n 33 c (by omega), m47n 33 c (by omega)]⟩) (fun ti => by
            unfold eIn eOu
            rw [cIf.y th, cIf.y th, m82n 32 _ (by omega), m69e, m82e]
            unfold TM
            exact ⟨by omega, by omega⟩)) (by omega) hF83
  refine Tx.aload_n hC te_93_0 rfl ?_
  refine Tx.getR hC te_93_1 rfl rfl rfl ?_
  refine Tx.iload_n hC te_93_4 rfl ?_
  refine Tx.iald hC te_93_5 rfl (by omega) (fun v85 v85e v85i => ?_)
  unfold InI at v85i
  refine Tx.aload_n hC te_93_6 rfl ?_
  refine Tx.getI hC te_93_7 rfl rfl rfl (fun v86 v86e v86i => ?_)
  unfold InI at v86i
  have n34 := v85e
  have n4 := v86e
  refine Tx.bits hC (f := (fun (x y : Int32) => x &&& y)) te_93_10 (fun _ _ _ _ => Iff.rfl) (fun b87 b87e b87i => ?_)
  unfold InI at b87i
  refine Tx.istore_n hC te_93_11 rfl ?_
  refine Tx.iconst hC te_93_12 rfl ?_
  refine Tx.istore_n hC te_93_13 rfl ?_
  exact l_14 _ b87 0 mem (by omega) (by first | exact i14_1 | exact (fun j => by rw [Bt_and b87e, n34, n4]; exact Iff.rfl)) (by first | exact (fun i hi => absurd hi (by omega)) | exact AlF.step i14_2 (by omega) (by omega) (fun c hc => ⟨by rw [m52n 32 c (by omega), m47n 32 c (by omega)], by rw [m52n 33 c (by omega), m47n 33 c (by omega)]⟩) (fun ti => ⟨by rw [(eIn_n (Hd := HdM mem o.toNat) (i := x3.toNat) (fun z => (t61.mpr ((i14_1 _).mpr z)) (by assumption))).1, m52n 32 _ (by omega), m47e, v46e]; exact congrArg (mem 30) (by omega), by rw [(eIn_n (Hd := HdM mem o.toNat) (i := x3.toNat) (fun z => (t61.mpr ((i14_1 _).mpr z)) (by assumption))).2, m52e, v51e]; exact congrArg (mem 30) (by omega)⟩) | exact AlF.step i14_2 (by omega) (by omega) (fun c hc => ⟨by rw [m82n 32 c (by omega), m69n 32 c (by omega), m52n 32 c (by omega), m47n 32 c (by omega)], by rw [m82n 33 c (by omega), m69n 33 c (by omega), m52n 33 c (by omega), m47n 33 c (by omega)]⟩) (fun ti => by
    unfold eIn eOu
    rw [cIf.y th, cIf.y th, m82n 32 _ (by omega), m69e, m82e]
    unfold TM
    exact ⟨by omega, by omega⟩)) (Nat.lt_succ_self _) Frm.rf
theorem f_95e {S : Nat × (Nat → Int32)} {n : Nat} {mem : MM} {K : MM → Prop} {E : Nat → MM → Prop} {d : Int} (hS : SkO mem d) {o : Int} (ho : 0 ≤ o ∧ o < mem 21 0) (hb : ∀ i : Nat, TiM mem o.toNat i → (i : Int) < mem 21 0 ∧ ¬ i = o.toNat) (hr : ∀ i : Nat, TiM mem o.toNat i → (-20000 ≤ mem 32 i ∧ mem 32 i ≤ 20000) ∧ -20000 ≤ mem 33 i ∧ mem 33 i ≤ 20000) (H : ∀ m', Frm pTg mem m' → TgP (TiM mem o.toNat) (TM mem) (mem 32) (mem 33) o.toNat (mem 21 0) (mem 21 0) 0 (TM m') → K m') : CQV (Ex S (n + 2)) 95 [.inr 21, .inl o] mem K E := by
  refine CY.of (k := 3) mt_95 rfl rfl (fun hv => ?_)
  have hC := Ex.mono S (n + 1)
  have ii_o : InI o := hv (.inl o) (by simp)
  unfold InI at ii_o
  clear hv
  have hs0 := hS.1
  have no : ¬ TiM mem o.toNat o.toNat := fun z => (hb _ z).2 rfl
  have hT : ∀ a, TiM mem o.toNat a → a < 8 := fun a z => by have := (hb a z).1; omega
  show Tx (Ex S (n + 1)) S M_95 (kV K E) 0 0 0 [some (.inr 21), some (.inl o), none, none, none] [] mem
  have l_2 : ∀ (N : Nat) (x2 : Int) (m_2 : MM), (0 ≤ x2 ∧ x2 ≤ mem 21 0) → (TgP (TiM mem o.toNat) (TM mem) (mem 32) (mem 33) o.toNat x2 x2 0 (TM m_2)) → ((8 - x2).toNat) < N → Frm pTg mem m_2 → Tx (Ex S (n + 1)) S M_95 (kV K E) 0 0 2 [some (.inr 21), some (.inl o), some (.inl x2), none, none] [] m_2 := by
    intro N
    induction N with
    | zero => intros; omega
    | succ N ih_2 =>
      intro x2 m_2 i2_0 i2_1 hN_2 hF_2
      have l_62 : ∀ (N : Nat) (x3 : Int) (m_62 : MM), (0 ≤ x3 ∧ x3 ≤ mem 21 0) → (0 ≤ x2 ∧ x2 < mem 21 0) → (TiM mem o.toNat x2.toNat) → (TgP (TiM mem o.toNat) (TM mem) (mem 32) (mem 33) o.toNat (x2 + 1) x2 x3 (TM m_62)) → ((8 - x3).toNat) < N → Frm pTg mem m_62 → Tx (Ex S (n + 1)) S M_95 (kV K E) 0 0 62 [some (.inr 21), some (.inl o), some (.inl x2), some (.inl x3), none] [] m_62 := by
        intro N
        induction N with
        | zero => intros; omega
        | succ N ih_62 =>
          intro x3 m_62 i62_0 i62_1 i62_2 i62_3 hN_62 hF_62
          refine Tx.iload_n hC te_95_62 rfl ?_
          refine Tx.aload_n hC te_95_63 rfl ?_
          refine Tx.getI hC te_95_64 rfl rfl rfl (fun v1 v1e v1i => ?_)
          unfold InI at v1i
          rw [hF_62 21 _ (by unfold pTg; omega)] at v1e
          refine Tx.icmp hC (t := 132) te_95_67 (by decide) (fun q2 => ?_) (fun q2 => ?_)
          · replace q2 : v1 ≤ (x3 : Int) := q2
            refine Tx.iincW hC te_95_132 rfl rfl (fun z3 z3i z3e => ?_)
            unfold InI at z3i z3e
            first | replace z3e := z3e (by omega) | clear z3e
            refine Tx.goto hC (t := 2) te_95_135 (by decide) ?_
            exact Tx.weak (by repeat' (first | exact trivial | exact rfl | constructor)) (ih_2 z3 m_62 (by omega) (by first | exact TgP.ini | exact TgP.nx0 i2_1 (by omega) (by omega) (fun z => absurd (t20.mpr z) (by assumption)) | exact TgP.end i62_3 rfl (by omega) (fun a ta => by have := (hb a ta).1; omega)) (by omega) hF_62)
          · replace q2 : ¬ (v1 ≤ (x3 : Int)) := q2
            refine Tx.iload_n hC te_95_70 rfl ?_
            refine Tx.iload_n hC te_95_71 rfl ?_
            refine Tx.icmp hC (t := 126) te_95_72 (by decide) (fun q4 => ?_) (fun q4 => ?_)
            · replace q4 : (x3 : Int) = x2 := q4
              refine Tx.iincW hC te_95_126 rfl rfl (fun z5 z5i z5e => ?_)
              unfold InI at z5i z5e
              first | replace z5e := z5e (by omega) | clear z5e
              refine Tx.goto hC (t := 62) te_95_129 (by decide) ?_
              exact ih_62 z5 m_62 (by omega) (by omega) (by first | exact i62_2 | exact t20.mp (by assumption)) (by first | exact TgP.skip i62_3 (by omega) (by omega) (Or.inl (by omega)) | exact TgP.skip i62_3 (by omega) (by omega) (Or.inr (fun z => absurd (t85.mpr z) (fun w => w (by assumption)))) | exact one | exact (by
                refine TgP.two i62_3 (by omega) (by omega) i62_2 tj (by omega) no ?_ (fun a b ha hb0 n1 => ?_) hT (by omega)
                · show m20 30 (8 * x2.toNat + x3.toNat) = max (m_62 30 (8 * x2.toNat + x3.toNat)) (mem 32 x2.toNat + mem 33 x3.toNat)
                  have ix : Int.toNat z12 = 8 * x2.toNat + x3.toNat := by omega
                  rw [← ix, m20e, ← v13e]
                  omega
                · show m20 30 (8 * a + b) = m_62 30 (8 * a + b)
                  rw [m20n 30 _ (by omega)])) (by omega) hF_62
            · replace q4 : ¬ ((x3 : Int) = x2) := q4
              refine Tx.aload_n hC te_95_75 rfl ?_
              refine Tx.getR hC te_95_76 rfl rfl rfl ?_
              refine Tx.iload_n hC te_95_79 rfl ?_
              refine Tx.iald hC te_95_80 rfl (by omega) (fun v6 v6e v6i => ?_)
              unfold InI at v6i
              rw [hF_62 34 _ (by unfold pTg; omega)] at v6e
              refine Tx.iconst hC te_95_81 rfl ?_
              refine Tx.iload_n hC te_95_82 rfl ?_
              refine Tx.bits hC (f := (fun (x y : Int32) => x <<< (y &&& 31))) te_95_83 (fun _ _ _ _ => Iff.rfl) (fun b7 b7e b7i => ?_)
              unfold InI at b7i
              have n84 := v6e
              refine Tx.bits hC (f := (fun (x y : Int32) => x &&& y)) te_95_84 (fun _ _ _ _ => Iff.rfl) (fun b8 b8e b8i => ?_)
              unfold InI at b8i
              have t85 := Bt_tst (o := x3) (by omega) (by assumption) b8e
              rw [n84] at t85
              refine Tx.ifc hC (t := 126) te_95_85 (by decide) (fun q9 => ?_) (fun q9 => ?_)
              · replace q9 : (b8 : Int) = 0 := q9
                refine Tx.iincW hC te_95_126 rfl rfl (fun z10 z10i z10e => ?_)
                unfold InI at z10i z10e
                first | replace z10e := z10e (by omega) | clear z10e
                refine Tx.goto hC (t := 62) te_95_129 (by decide) ?_
                exact ih_62 z10 m_62 (by omega) (by omega) (by first | exact i62_2 | exact t20.mp (by assumption)) (by first | exact TgP.skip i62_3 (by omega) (by omega) (Or.inl (by omega)) | exact TgP.skip i62_3 (by omega) (by omega) (Or.inr (fun z => absurd (t85.mpr z) (fun w => w (by assumption)))) | exact one | exact (by
                  refine TgP.two i62_3 (by omega) (by omega) i62_2 tj (by omega) no ?_ (fun a b ha hb0 n1 => ?_) hT (by omega)
                  · show m20 30 (8 * x2.toNat + x3.toNat) = max (m_62 30 (8 * x2.toNat + x3.toNat)) (mem 32 x2.toNat + mem 33 x3.toNat)
                    have ix : Int.toNat z12 = 8 * x2.toNat + x3.toNat := by omega
                    rw [← ix, m20e, ← v13e]
                    omega
                  · show m20 30 (8 * a + b) = m_62 30 (8 * a + b)
                    rw [m20n 30 _ (by omega)])) (by omega) hF_62
              · replace q9 : ¬ ((b8 : Int) = 0) := q9
                have tj : TiM mem o.toNat x3.toNat := t85.mp (by assumption)
                have y1 := hr _ tj
                have y2 := hr _ i62_2
                refine Tx.iload_n hC te_95_88 rfl ?_
                refine Tx.bipush hC te_95_89 rfl rfl ?_
                refine Tx.imulW hC te_95_91 (fun z11 z11i z11e => ?_)
                unfold InI at z11i z11e
                first | replace z11e := z11e (by omega) | clear z11e
                refine Tx.iload_n hC te_95_92 rfl ?_
                refine Tx.iaddW hC te_95_93 (fun z12 z12i z12e => ?_)
                unfold InI at z12i z12e
                first | replace z12e := z12e (by omega) | clear z12e
                refine Tx.istore hC te_95_94 rfl ?_
                refine Tx.aload_n hC te_95_96 rfl ?_
                refine Tx.getR hC te_95_97 rfl rfl rfl ?_
                refine Tx.iload hC te_95_100 rfl ?_
                refine Tx.aload_n hC te_95_102 rfl ?_
                refine Tx.getR hC te_95_103 rfl rfl rfl ?_
                refine Tx.iload hC te_95_106 rfl ?_
                refine Tx.iald hC te_95_108 rfl (by omega) (fun v13 v13e v13i => ?_)
                unfold InI at v13i
                refine Tx.aload_n hC te_95_109 rfl ?_
                refine Tx.getR hC te_95_110 rfl rfl rfl ?_
                refine Tx.iload_n hC te_95_113 rfl ?_
                refine Tx.iald hC te_95_114 rfl (by omega) (fun v14 v14e v14i => ?_)
                unfold InI at v14i
                rw [hF_62 32 _ (by unfold pTg; omega)] at v14e
                refine Tx.aload_n hC te_95_115 rfl ?_
                refine Tx.getR hC te_95_116 rfl rfl rfl ?_
                refine Tx.iload_n hC te_95_119 rfl ?_
                refine Tx.iald hC te_95_120 rfl (by omega) (fun v15 v15e v15i => ?_)
                unfold InI at v15i
                rw [hF_62 33 _ (by unfold pTg; omega)] at v15e
                refine Tx.iaddW hC te_95_121 (fun z16 z16i z16e => ?_)
                unfold InI at z16i z16e
                first | replace z16e := z16e (by omega) | clear z16e
                refine Tx.statI hC te_95_122 (by decide) mt_40 (args := [.inl v13, .inl z16]) (rest := [.inl z12, .inr 30]) (c' := 0) (s' := 0) rfl rfl rfl rfl rfl rfl rfl ?_
                refine f_40q (fun r17 r17a r17b r17c r17i => ?_)
                unfold InI at r17i
                refine Tx.iast hC te_95_125 rfl (by omega) ?_
                have hF21 : Frm pTg mem (upm m_62 30 (Int.toNat z12) r17) := Frm.up hF_62 (by unfold pTg; omega)
                have m20e : (upm m_62 30 (Int.toNat z12) r17) 30 (Int.toNat z12) = r17 := upm_eq
                have m20n : ∀ B j, ¬ (B = 30 ∧ j = (Int.toNat z12)) → (upm m_62 30 (Int.toNat z12) r17) B j = m_62 B j := fun B j q => upm_ne q
                generalize upm m_62 30 (Int.toNat z12) r17 = m20 at hF21 m20e m20n ⊢
                refine Tx.iincW hC te_95_126 rfl rfl (fun z22 z22i z22e => ?_)
                unfold InI at z22i z22e
                first | replace z22e := z22e (by omega) | clear z22e
                refine Tx.goto hC (t := 62) te_95_129 (by decide) ?_
                exact Tx.weak (by repeat' (first | exact trivial | exact rfl | constructor)) (ih_62 z22 m20 (by omega) (by omega) (by first | exact i62_2 | exact t20.mp (by assumption)) (by first | exact TgP.skip i62_3 (by omega) (by omega) (Or.inl (by omega)) | exact TgP.skip i62_3 (by omega) (by omega) (Or.inr (fun z => absurd (t85.mpr z) (fun w => w (by assumption)))) | exact one | exact (by
                  refine TgP.two i62_3 (by omega) (by omega) i62_2 tj (by omega) no ?_ (fun a b ha hb0 n1 => ?_) hT (by omega)
                  · show m20 30 (8 * x2.toNat + x3.toNat) = max (m_62 30 (8 * x2.toNat + x3.toNat)) (mem 32 x2.toNat + mem 33 x3.toNat)
                    have ix : Int.toNat z12 = 8 * x2.toNat + x3.toNat := by omega
                    rw [← ix, m20e, ← v13e]
                    omega
                  · show m20 30 (8 * a + b) = m_62 30 (8 * a + b)
                    rw [m20n 30 _ (by omega)])) (by omega) hF21)
      refine Tx.iload_n hC te_95_2 rfl ?_
      refine Tx.aload_n hC te_95_3 rfl ?_
      refine Tx.getI hC te_95_4 rfl rfl rfl (fun v23 v23e v23i => ?_)
      unfold InI at v23i
      rw [hF_2 21 _ (by unfold pTg; omega)] at v23e
      refine Tx.icmp hC (t := 138) te_95_7 (by decide) (fun q24 => ?_) (fun q24 => ?_)
      · replace q24 : v23 ≤ (x2 : Int) := q24
        exact Tx.vret hC te_95_138 rfl (show K m_2 from H _ hF_2 (by rw [show mem 21 0 = x2 by omega]; exact i2_1))
      · replace q24 : ¬ (v23 ≤ (x2 : Int)) := q24
        refine Tx.aload_n hC te_95_10 rfl ?_
        refine Tx.getR hC te_95_11 rfl rfl rfl ?_
        refine Tx.iload_n hC te_95_14 rfl ?_
        refine Tx.iald hC te_95_15 rfl (by omega) (fun v25 v25e v25i => ?_)
        unfold InI at v25i
        rw [hF_2 34 _ (by unfold pTg; omega)] at v25e
        refine Tx.iconst hC te_95_16 rfl ?_
        refine Tx.iload_n hC te_95_17 rfl ?_
        refine Tx.bits hC (f := (fun (x y : Int32) => x <<< (y &&& 31))) te_95_18 (fun _ _ _ _ => Iff.rfl) (fun b26 b26e b26i => ?_)
        unfold InI at b26i
        have n34 := v25e
        refine Tx.bits hC (f := (fun (x y : Int32) => x &&& y)) te_95_19 (fun _ _ _ _ => Iff.rfl) (fun b27 b27e b27i => ?_)
        unfold InI at b27i
        have t20 := Bt_tst (o := x2) (by omega) (by assumption) b27e
        rw [n34] at t20
        refine Tx.ifc hC (t := 26) te_95_20 (by decide) (fun q28 => ?_) (fun q28 => ?_)
        · replace q28 : ¬ (b27 : Int) = 0 := q28
          refine Tx.aload_n hC te_95_26 rfl ?_
          refine Tx.getR hC te_95_27 rfl rfl rfl ?_
          refine Tx.iload_n hC te_95_30 rfl ?_
          refine Tx.bipush hC te_95_31 rfl rfl ?_
          refine Tx.imulW hC te_95_33 (fun z29 z29i z29e => ?_)
          unfold InI at z29i z29e
          first | replace z29e := z29e (by omega) | clear z29e
          refine Tx.iload_n hC te_95_34 rfl ?_
          refine Tx.iaddW hC te_95_35 (fun z30 z30i z30e => ?_)
          unfold InI at z30i z30e
          first | replace z30e := z30e (by omega) | clear z30e
          refine Tx.aload_n hC te_95_36 rfl ?_
          refine Tx.getR hC te_95_37 rfl rfl rfl ?_
          refine Tx.iload_n hC te_95_40 rfl ?_
          refine Tx.iald hC te_95_41 rfl (by omega) (fun v31 v31e v31i => ?_)
          unfold InI at v31i
          rw [hF_2 32 _ (by unfold pTg; omega)] at v31e
          refine Tx.iast hC te_95_42 rfl (by omega) ?_
          have hF33 : Frm pTg mem (upm m_2 30 (Int.toNat z30) v31) := Frm.up hF_2 (by unfold pTg; omega)
          have m32e : (upm m_2 30 (Int.toNat z30) v31) 30 (Int.toNat z30) = v31 := upm_eq
          have m32n : ∀ B j, ¬ (B = 30 ∧ j = (Int.toNat z30)) → (upm m_2 30 (Int.toNat z30) v31) B j = m_2 B j := fun B j q => upm_ne q
          generalize upm m_2 30 (Int.toNat z30) v31 = m32 at hF33 m32e m32n ⊢
          refine Tx.aload_n hC te_95_43 rfl ?_
          refine Tx.getR hC te_95_44 rfl rfl rfl ?_
          refine Tx.iload_n hC te_95_47 rfl ?_
          refine Tx.bipush hC te_95_48 rfl rfl ?_
          refine Tx.imulW hC te_95_50 (fun z34 z34i z34e => ?_)
          unfold InI at z34i z34e
          first | replace z34e := z34e (by omega) | clear z34e
          refine Tx.iload_n hC te_95_51 rfl ?_
          refine Tx.iaddW hC te_95_52 (fun z35 z35i z35e => ?_)
          unfold InI at z35i z35e
          first | replace z35e := z35e (by omega) | clear z35e
          refine Tx.aload_n hC te_95_53 rfl ?_
          refine Tx.getR hC te_95_54 rfl rfl rfl ?_
          refine Tx.iload_n hC te_95_57 rfl ?_
          refine Tx.iald hC te_95_58 rfl (by omega) (fun v36 v36e v36i => ?_)
          unfold InI at v36i
          rw [hF33 33 _ (by unfold pTg; omega)] at v36e
          refine Tx.iast hC te_95_59 rfl (by omega) ?_
          have hF38 : Frm pTg mem (upm m32 30 (Int.toNat z35) v36) := Frm.up hF33 (by unfold pTg; omega)
          have m37e : (upm m32 30 (Int.toNat z35) v36) 30 (Int.toNat z35) = v36 := upm_eq
          have m37n : ∀ B j, ¬ (B = 30 ∧ j = (Int.toNat z35)) → (upm m32 30 (Int.toNat z35) v36) B j = m32 B j := fun B j q => upm_ne q
          generalize upm m32 30 (Int.toNat z35) v36 = m37 at hF38 m37e m37n ⊢
          have one : TgP (TiM mem o.toNat) (TM mem) (mem 32) (mem 33) o.toNat (x2 + 1) x2 0 (TM m37) := by
            have tt : TiM mem o.toNat x2.toNat := t20.mp (by assumption)
            have nn := (hb _ tt).2
            refine TgP.one i2_1 (by omega) (by omega) tt no ?_ ?_ (fun a b ha hb0 n1 n2 => ?_) hT (by omega)
            · show m37 30 (8 * x2.toNat + o.toNat) = _
              have ix : Int.toNat z30 = 8 * x2.toNat + o.toNat := by omega
              rw [m37n 30 _ (by omega), ← ix, m32e, v31e]
            · show m37 30 (8 * o.toNat + x2.toNat) = _
              have ix : Int.toNat z35 = 8 * o.toNat + x2.toNat := by omega
              rw [← ix, m37e, v36e]
            · show m37 30 (8 * a + b) = m_2 30 (8 * a + b)
              rw [m37n 30 _ (by omega), m32n 30 _ (by omega)]
          refine Tx.iconst hC te_95_60 rfl ?_
          refine Tx.istore_n hC te_95_61 rfl ?_
          exact l_62 _ 0 m37 (by omega) (by omega) (by first | exact i62_2 | exact t20.mp (by assumption)) (by first | exact TgP.skip i62_3 (by omega) (by omega) (Or.inl (by omega)) | exact TgP.skip i62_3 (by omega) (by omega) (Or.inr (fun z => absurd (t85.mpr z) (fun w => w (by assumption)))) | exact one | exact (by
            refine TgP.two i62_3 (by omega) (by omega) i62_2 tj (by omega) no ?_ (fun a b ha hb0 n1 => ?_) hT (by omega)
            · show m20 30 (8 * x2.toNat + x3.toNat) = max (m_62 30 (8 * x2.toNat + x3.toNat)) (mem 32 x2.toNat + mem 33 x3.toNat)
              have ix : Int.toNat z12 = 8 * x2.toNat + x3.toNat := by omega
              rw [← ix, m20e, ← v13e]
              omega
            · show m20 30 (8 * a + b) = m_62 30 (8 * a + b)
              rw [m20n 30 _ (by omega)])) (Nat.lt_succ_self _) hF38
        · replace q28 : ¬ (¬ (b27 : Int) = 0) := q28
          refine Tx.goto hC (t := 132) te_95_23 (by decide) ?_
          refine Tx.iincW hC te_95_132 rfl rfl (fun z39 z39i z39e => ?_)
          unfold InI at z39i z39e
          first | replace z39e := z39e (by omega) | clear z39e
          refine Tx.goto hC (t := 2) te_95_135 (by decide) ?_
          exact ih_2 z39 m_2 (by omega) (by first | exact TgP.ini | exact TgP.nx0 i2_1 (by omega) (by omega) (fun z => absurd (t20.mpr z) (by assumption)) | exact TgP.end i62_3 rfl (by omega) (fun a ta => by have := (hb a ta).1; omega)) (by omega) hF_2
  refine Tx.iconst hC te_95_0 rfl ?_
  refine Tx.istore_n hC te_95_1 rfl ?_
  exact l_2 _ 0 mem (by omega) (by first | exact TgP.ini | exact TgP.nx0 i2_1 (by omega) (by omega) (fun z => absurd (t20.mpr z) (by assumption)) | exact TgP.end i62_3 rfl (by omega) (fun a ta => by have := (hb a ta).1; omega)) (Nat.lt_succ_self _) Frm.rf
end
section
/-! laid by wip/hand/tg.py: the seeker, exactly -/
def pPlc (A i : Nat) : Prop := (A = 21 ∧ i = 4) ∨ A = 22 ∨ (28 ≤ A ∧ A ≤ 33)
def PlnX (p : Nat → Int) (d : Int) (u : Nat) (U : Nat → Int) : Prop := ∀ k x : Nat, 1 ≤ k → k ≤ 3 → (Bt (p (4 * u + k)) x ↔ (x : Int) < d ∧ (k : Int) ≤ U x)
def prtS (d s : Int) (A : Nat → Int) (x : Int) : Nat → Int
  | 0 => 0
  | r + 1 => prtS d s A x r + (if (s + (r : Int)) % d = x then A r else 0)
theorem prtS4 {d s x : Int} {A : Nat → Int} : prtS d s A x 4 = spr d s x (fun r => A r.toNat) := by
  show 0 + (if (s + 0) % d = x then A 0 else 0) + (if (s + 1) % d = x then A 1 else 0) + (if (s + 2) % d = x then A 2 else 0) + (if (s + 3) % d = x then A 3 else 0) = _
  rw [Int.zero_add, Int.add_zero]
  rfl
def PlI (mem m : MM) (d : Int) (u : Nat) (s : Int) (A : Nat → Int) (r : Nat) (done : Int) : Prop := (∀ i, ¬ (4 * u + 1 ≤ i ∧ i < 4 * u + 4) → m 28 i = mem 28 i) ∧ ∀ U : Nat → Int, (∀ x, 0 ≤ U x) → PlnX (mem 28) d u U → PlnX (m 28) d u (fun x => U x + prtS d s A x r + (if (s + (r : Int)) % d = (x : Int) then done else 0))
theorem prtS_ge {d s x : Int} {A : Nat → Int}   : ∀ r, (∀ i, i < r → 0 ≤ A i) → 0 ≤ prtS d s A x r
  | 0, _ => Int.le_refl _
  | r + 1, h => by
    have := prtS_ge (d := d) (s := s) (x := x) r (fun i hi => h i (by omega))
    have := h r (by omega)
    unfold prtS
    split <;> omega
theorem PlnX.cg {p : Nat → Int} {d : Int} {u : Nat} {U V : Nat → Int} (h : PlnX p d u U) (e : ∀ x : Nat, (x : Int) < d → U x = V x) : PlnX p d u V := fun k x h1 h2 => by
  rw [h k x h1 h2]
  exact ⟨fun q => ⟨q.1, by rw [← e x q.1]; exact q.2⟩, fun q => ⟨q.1, by rw [e x q.1]; exact q.2⟩⟩
theorem PlI.ini {mem m : MM} {d : Int} {u : Nat} {s : Int} {A : Nat → Int} (e : ∀ i, m 28 i = mem 28 i) : PlI mem m d u s A 0 0 := ⟨fun i _ => e i, fun U _ hU k x h1 h2 => by
  rw [e, hU k x h1 h2]
  show _ ↔ (x : Int) < d ∧ (k : Int) ≤ U x + 0 + (if (s + ((0 : Nat) : Int)) % d = (x : Int) then (0 : Int) else 0)
  split <;> omega⟩
theorem PlI.nxt {mem m : MM} {d : Int} {u : Nat} {s : Int} {A : Nat → Int} {r r' : Nat} (h : PlI mem m d u s A r (A r)) (e : r' = r + 1) : PlI mem m d u s A r' 0 := by
  subst e
  refine ⟨h.1, fun U h0 hU => (h.2 U h0 hU).cg (fun x _ => ?_)⟩
  show U x + prtS d s A x r + (if (s + (r : Int)) % d = (x : Int) then A r else 0) = U x + (prtS d s A x r + (if (s + (r : Int)) % d = (x : Int) then A r else 0)) + (if (s + ((r + 1 : Nat) : Int)) % d = (x : Int) then (0 : Int) else 0)
  split <;> split <;> omega
theorem PlI.inc {mem m m' : MM} {d : Int} {u : Nat} {s : Int} {A : Nat → Int} {r : Nat} {x1 x2 : Int} {bit c3 c2 w3 w2 w1 : Int} (h : PlI mem m d u s A r x1) (e : x2 = x1 + 1) (h0 : 0 ≤ x1) (hA : ∀ i, i < r → 0 ≤ A i) (hd : 1 ≤ d ∧ d ≤ 12) (hb : ∀ j : Nat, Bt bit j ↔ (j : Int) = (s + (r : Int)) % d) (a3 : c3 = ((fun (x y : Int32) => x &&& y) (Int32.ofInt (m 28 (4 * u + 2))) (Int32.ofInt bit)).toInt) (o3 : w3 = ((fun (x y : Int32) => x ||| y) (Int32.ofInt (m 28 (4 * u + 3))) (Int32.ofInt c3)).toInt) (a2 : c2 = ((fun (x y : Int32) => x &&& y) (Int32.ofInt (m 28 (4 * u + 1))) (Int32.ofInt bit)).toInt) (o2 : w2 = ((fun (x y : Int32) => x ||| y) (Int32.ofInt (m 28 (4 * u + 2))) (Int32.ofInt c2)).toInt) (o1 : w1 = ((fun (x y : Int32) => x ||| y) (Int32.ofInt (m 28 (4 * u + 1))) (Int32.ofInt bit)).toInt) (e3 : m' 28 (4 * u + 3) = w3) (e2 : m' 28 (4 * u + 2) = w2) (e1 : m' 28 (4 * u + 1) = w1) (e0 : ∀ i, ¬ (4 * u + 1 ≤ i ∧ i < 4 * u + 4) → m' 28 i = m 28 i) : PlI mem m' d u s A r x2 := by
  subst e
  refine ⟨fun i hi => (e0 i hi).trans (h.1 i hi), fun U hN hU k x h1 h2 => ?_⟩
  have g := h.2 U hN hU
  have r1 := Int.emod_lt_of_pos (s + (r : Int)) (show 0 < d by omega)
  have u0 := hN x
  have p0 := prtS_ge (d := d) (s := s) (x := x) r hA
  have g1 : Bt (m 28 (4 * u + 1)) x ↔ (x : Int) < d ∧ 1 ≤ U x + prtS d s A x r + (if (s + (r : Int)) % d = (x : Int) then x1 else 0) := g 1 x (by omega) (by omega)
  have g2 : Bt (m 28 (4 * u + 2)) x ↔ (x : Int) < d ∧ 2 ≤ U x + prtS d s A x r + (if (s + (r : Int)) % d = (x : Int) then x1 else 0) := g 2 x (by omega) (by omega)
  have g3 : Bt (m 28 (4 * u + 3)) x ↔ (x : Int) < d ∧ 3 ≤ U x + prtS d s A x r + (if (s + (r : Int)) % d = (x : Int) then x1 else 0) := g 3 x (by omega) (by omega)
  show Bt (m' 28 (4 * u + k)) x ↔ (x : Int) < d ∧ (k : Int) ≤ U x + prtS d s A x r + (if (s + (r : Int)) % d = (x : Int) then x1 + 1 else 0)
  have kk : k = 1 ∨ k = 2 ∨ k = 3 := by omega
  by_cases q : (s + (r : Int)) % d = (x : Int)
  · rw [if_pos q] at g1 g2 g3 ⊢
    have b1 : Bt bit x := (hb x).mpr q.symm
    rcases kk with rfl | rfl | rfl
    · rw [e1, Bt_or o1]
      exact ⟨fun _ => ⟨by omega, by omega⟩, fun _ => Or.inr b1⟩
    · rw [e2, Bt_or o2, Bt_and a2, g1, g2]
      exact ⟨fun w => w.elim (fun z => ⟨z.1, by omega⟩) (fun z => ⟨z.1.1, by omega⟩), fun w => Or.inr ⟨⟨w.1, by omega⟩, b1⟩⟩
    · rw [e3, Bt_or o3, Bt_and a3, g2, g3]
      exact ⟨fun w => w.elim (fun z => ⟨z.1, by omega⟩) (fun z => ⟨z.1.1, by omega⟩), fun w => Or.inr ⟨⟨w.1, by omega⟩, b1⟩⟩
  · rw [if_neg q] at g1 g2 g3 ⊢
    have b1 : ¬ Bt bit x := fun w => q ((hb x).mp w).symm
    rcases kk with rfl | rfl | rfl
    · rw [e1, Bt_or o1, g1]
      exact ⟨fun w => w.elim id (fun z => absurd z b1), Or.inl⟩
    · rw [e2, Bt_or o2, Bt_and a2, g2]
      exact ⟨fun w => w.elim id (fun z => absurd z.2 b1), Or.inl⟩
    · rw [e3, Bt_or o3, Bt_and a3, g3]
      exact ⟨fun w => w.elim id (fun z => absurd z.2 b1), Or.inl⟩
def PlB (mem m : MM) (o : Nat) (s : Int) : Prop := (∀ A i, ¬ (A = 21 ∧ i = 4) → ¬ (A = 22 ∧ i = o) → ¬ A = 28 → ¬ A = 29 → m A i = mem A i) ∧ m 22 o = s ∧ (∀ j : Nat, Bt (m 21 4) j ↔ Bt (mem 21 4) j ∨ j = o) ∧ ∀ i, m 29 i = if 4 * o ≤ i ∧ i < 4 * o + 4 then mem 28 (4 * (mem 24 o).toNat + (i - 4 * o)) else mem 29 i
theorem PlB.cg {mem m m' : MM} {o : Nat} {s : Int} (h : PlB mem m o s) (e : ∀ A i, ¬ A = 28 → m' A i = m A i) : PlB mem m' o s := ⟨fun A i a b c d => (e A i c).trans (h.1 A i a b c d), by rw [e 22 o (by omega)]; exact h.2.1, fun j => by rw [e 21 4 (by omega)]; exact h.2.2.1 j, fun i => by rw [e 29 i (by omega)]; exact h.2.2.2 i⟩
def HdP (m : MM) (o i : Nat) : Prop := Bt (m 34 o) i ∧ (Bt (m 21 4) i ∨ i = o)
def PlcK (mem m' : MM) (d : Int) (o : Nat) (s : Int) : Prop := ∃ m, PlB mem m o s ∧ PlI mem m d (mem 24 o).toNat s (fun r => mem 27 (4 * o + r)) 4 0 ∧ (∀ A i, A < 30 ∨ 33 < A → m' A i = m A i) ∧ (MnB mem o → ∀ i, m' 31 i = if 64 * o ≤ i ∧ i < 64 * o + 64 then mem 30 (i - 64 * o) else mem 31 i) ∧ (¬ MnB mem o → ∀ i, m' 31 i = mem 31 i ∧ m' 30 i = mem 30 i)
def PlcT (mem m' : MM) (d : Int) (o : Nat) (s : Int) (Φ : (Nat → Int) → Prop) : Prop := ∃ I O : Nat → Int, AlI (TiM mem o) (HdP mem o) (TM mem) (plusS (mem 22) o s) d s o Φ I O ∧ (∀ i : Nat, TiM mem o i → AlD (HdP mem o) (TM mem) (plusS (mem 22) o s) d s o I O i (mem 21 0) ∧ I i + O i ≤ 0) ∧ TgP (TiM mem o) (TM mem) I O o (mem 21 0) (mem 21 0) 0 (TM m')
theorem PlB.tm {mem m m' : MM} {o : Nat} {s : Int} (h : PlB mem m o s) (e : ∀ A i, ¬ A = 31 → m' A i = m A i) : TiM m' o = TiM mem o ∧ HdM m' o = HdP mem o ∧ TM m' = TM mem ∧ m' 22 = plusS (mem 22) o s ∧ m' 21 0 = mem 21 0 ∧ m' 21 1 = mem 21 1 := by
  have e34 : ∀ i, m' 34 i = mem 34 i := fun i => (e 34 i (by omega)).trans (h.1 34 i (by omega) (by omega) (by omega) (by omega))
  refine ⟨funext fun i => ?_, funext fun i => propext ?_, funext fun i => funext fun j => ?_, funext fun i => ?_, ?_, ?_⟩
  · show Bt (m' 34 o) i = Bt (mem 34 o) i
    rw [e34]
  · show Bt (m' 34 o) i ∧ Bt (m' 21 4) i ↔ Bt (mem 34 o) i ∧ (Bt (mem 21 4) i ∨ i = o)
    rw [e34, e 21 4 (by omega), h.2.2.1 i]
  · exact (e 30 _ (by omega)).trans (h.1 30 _ (by omega) (by omega) (by omega) (by omega))
  · rw [e 22 i (by omega)]
    by_cases q : i = o
    · subst q; rw [h.2.1]; exact (if_pos rfl).symm
    · rw [h.1 22 i (by omega) (by omega) (by omega) (by omega)]; exact (if_neg q).symm
  · exact (e 21 0 (by omega)).trans (h.1 21 0 (by omega) (by omega) (by omega) (by omega))
  · exact (e 21 1 (by omega)).trans (h.1 21 1 (by omega) (by omega) (by omega) (by omega))
theorem SkO.cg {m m' : MM} {d : Int} (h : SkO m d) (e : ∀ A i, (A = 21 ∧ i < 2) ∨ A = 24 ∨ A = 25 ∨ A = 27 → m' A i = m A i) : SkO m' d := by
  refine ⟨by rw [e 21 0 (by omega)]; exact h.1, by rw [e 21 1 (by omega)]; exact h.2.1, fun o ho => by rw [e 24 o (by omega)]; exact h.2.2.1 o ho, fun u hu => by rw [e 25 u (by omega)]; exact h.2.2.2.1 u hu, fun o r ho hr => ?_⟩
  rw [e 27 _ (by omega), e 24 o (by omega), e 25 _ (by omega)]
  exact h.2.2.2.2 o r (by rw [e 21 0 (by omega)] at ho; exact ho) hr
theorem f_91e {S : Nat × (Nat → Int32)} {n : Nat} {mem : MM} {K : Int → MM → Prop} {E : Nat → MM → Prop} {d : Int} (hM : SkM mem d) {o s : Int} (ho : 0 ≤ o ∧ o < mem 21 0) (hs : 0 ≤ s ∧ s < d) (hb34 : ∀ j, Bt (mem 34 o.toNat) j → j < 8) (hb : ∀ i : Nat, TiM mem o.toNat i → (i : Int) < mem 21 0 ∧ ¬ i = o.toNat) {Φ : (Nat → Int) → Prop} (hA : MnB mem o.toNat → AlC (TiM mem o.toNat) (HdP mem o.toNat) (TM mem) (plusS (mem 22) o.toNat s) d s o.toNat Φ) (hdg : ∀ i : Nat, TiM mem o.toNat i → -100000 ≤ mem 30 (8 * i + i) ∧ mem 30 (8 * i + i) ≤ 5000) (H1 : ∀ m', PlcK mem m' d o.toNat s → (MnB mem o.toNat → PlcT mem m' d o.toNat s Φ) → K 1 m') (H0 : ∀ m', PlcK mem m' d o.toNat s → MnB mem o.toNat → (∀ τ, ¬ Φ τ) → K 0 m') : CQI (Ex S (n + 3)) 91 [.inr 21, .inl o, .inl s] mem K E := by
  refine CY.of (k := 4) mt_91 rfl rfl (fun hv => ?_)
  have hC := Ex.mono S (n + 2)
  have ii_o : InI o := hv (.inl o) (by simp)
  unfold InI at ii_o
  have ii_s : InI s := hv (.inl s) (by simp)
  unfold InI at ii_s
  clear hv
  have hs0 := hM.1.1
  have hs1 := hM.1.2.1
  have hu := hM.1.2.2.1 o.toNat (by omega)
  show Tx (Ex S (n + 2)) S M_91 (kI K E) 0 0 0 [some (.inr 21), some (.inl o), some (.inl s), none, none, none, none] [] mem
  have l_47 : ∀ (N : Nat) (x3 x4 : Int) (m_47 : MM), (0 ≤ x4 ∧ x4 ≤ 4) → (x3 = 4 * mem 24 o.toNat) → (PlB mem m_47 o.toNat s) → (PlI mem m_47 d (mem 24 o.toNat).toNat s (fun r => mem 27 (4 * o.toNat + r)) x4.toNat 0) → ((4 - x4).toNat) < N → Frm pPlc mem m_47 → Tx (Ex S (n + 2)) S M_91 (kI K E) 0 0 47 [some (.inr 21), some (.inl o), some (.inl s), some (.inl x3), some (.inl x4), none, none] [] m_47 := by
    intro N
    induction N with
    | zero => intros; omega
    | succ N ih_47 =>
      intro x3 x4 m_47 i47_0 i47_1 i47_2 i47_3 hN_47 hF_47
      have l_66 : ∀ (N : Nat) (x5 : Int) (m_66 : MM), (0 ≤ x5 ∧ x5 ≤ mem 27 (4 * o.toNat + x4.toNat) ∧ 0 ≤ x4 ∧ x4 < 4 ∧ x5 ≤ 2147483647) → (x3 = 4 * mem 24 o.toNat) → (PlB mem m_66 o.toNat s) → (PlI mem m_66 d (mem 24 o.toNat).toNat s (fun r => mem 27 (4 * o.toNat + r)) x4.toNat (mem 27 (4 * o.toNat + x4.toNat) - x5)) → (x5.toNat) < N → Frm pPlc mem m_66 → Tx (Ex S (n + 2)) S M_91 (kI K E) 0 0 66 [some (.inr 21), some (.inl o), some (.inl s), some (.inl x3), some (.inl x4), some (.inl x5), none] [] m_66 := by
        intro N
        induction N with
        | zero => intros; omega
        | succ N ih_66 =>
          intro x5 m_66 i66_0 i66_1 i66_2 i66_3 hN_66 hF_66
          refine Tx.iload hC te_91_66 rfl ?_
          refine Tx.ifc hC (t := 147) te_91_68 (by decide) (fun q1 => ?_) (fun q1 => ?_)
          · replace q1 : (x5 : Int) ≤ 0 := q1
            refine Tx.iincW hC te_91_147 rfl rfl (fun z2 z2i z2e => ?_)
            unfold InI at z2i z2e
            first | replace z2e := z2e (by omega) | clear z2e
            refine Tx.goto hC (t := 47) te_91_150 (by decide) ?_
            exact Tx.weak (by repeat' (first | exact trivial | exact rfl | constructor)) (ih_47 x3 z2 m_66 (by omega) (by omega) (by first | exact i66_2 | exact (by
              refine ⟨fun A i a b c e => by rw [m57n A i a, m52n A i b, m50a A i e], by rw [m57n 22 _ (by omega)]; exact m52e, fun j => ?_, fun i => ?_⟩
              · rw [m57e, Bt_or b56e, Bt_bit (by omega) b55e, v54e, m52n 21 4 (by omega), m50a 21 4 (by omega)]
                exact ⟨fun q => q.elim Or.inl (fun w => Or.inr (by omega)), fun q => q.elim Or.inl (fun w => Or.inr (by omega))⟩
              · rw [m57n 29 i (by omega), m52n 29 i (by omega), m50b i, show z49.toNat = 4 * o.toNat by omega, show z48.toNat = 4 * (mem 24 o.toNat).toNat by omega]
                rfl)) (by first | exact PlI.ini (fun i => by rw [m57n 28 i (by omega), m52n 28 i (by omega), m50a 28 i (by omega)]) | exact PlI.nxt (by have w := i66_3; rw [show mem 27 (4 * o.toNat + x4.toNat) - x5 = mem 27 (4 * o.toNat + x4.toNat) by omega] at w; exact w) (by omega)) (by omega) hF_66)
          · replace q1 : ¬ ((x5 : Int) ≤ 0) := q1
            refine Tx.iconst hC te_91_71 rfl ?_
            refine Tx.iload_n hC te_91_72 rfl ?_
            refine Tx.iload hC te_91_73 rfl ?_
            refine Tx.iaddW hC te_91_75 (fun z3 z3i z3e => ?_)
            unfold InI at z3i z3e
            first | replace z3e := z3e (by omega) | clear z3e
            refine Tx.aload_n hC te_91_76 rfl ?_
            refine Tx.getI hC te_91_77 rfl rfl rfl (fun v4 v4e v4i => ?_)
            unfold InI at v4i
            rw [hF_66 21 _ (by unfold pPlc; omega)] at v4e
            refine Tx.iremW hC te_91_80 (by omega) (fun z5 z5i z5e z5f => ?_)
            unfold InI at z5i
            have e5 : z5 = (s + (x4.toNat : Int)) % d := by rw [z5e, Int.tmod_eq_emod_of_nonneg (by omega), v4e, hs1.1, show z3 = s + (x4.toNat : Int) by omega]
            refine Tx.bits hC (f := (fun (x y : Int32) => x <<< (y &&& 31))) te_91_81 (fun _ _ _ _ => Iff.rfl) (fun b6 b6e b6i => ?_)
            unfold InI at b6i
            have hbb : ∀ j : Nat, Bt b6 j ↔ (j : Int) = (s + (x4.toNat : Int)) % d := fun j => by rw [Bt_bit (by omega) b6e, e5]
            refine Tx.istore hC te_91_82 rfl ?_
            refine Tx.aload_n hC te_91_84 rfl ?_
            refine Tx.getR hC te_91_85 rfl rfl rfl ?_
            refine Tx.iload_n hC te_91_88 rfl ?_
            refine Tx.iconst hC te_91_89 rfl ?_
            refine Tx.iaddW hC te_91_90 (fun z7 z7i z7e => ?_)
            unfold InI at z7i z7e
            first | replace z7e := z7e (by omega) | clear z7e
            refine Tx.dup2 hC te_91_91 ?_
            refine Tx.iald hC te_91_92 rfl (by omega) (fun v8 v8e v8i => ?_)
            unfold InI at v8i
            refine Tx.aload_n hC te_91_93 rfl ?_
            refine Tx.getR hC te_91_94 rfl rfl rfl ?_
            refine Tx.iload_n hC te_91_97 rfl ?_
            refine Tx.iconst hC te_91_98 rfl ?_
            refine Tx.iaddW hC te_91_99 (fun z9 z9i z9e => ?_)
            unfold InI at z9i z9e
            first | replace z9e := z9e (by omega) | clear z9e
            refine Tx.iald hC te_91_100 rfl (by omega) (fun v10 v10e v10i => ?_)
            unfold InI at v10i
            refine Tx.iload hC te_91_101 rfl ?_
            refine Tx.bits hC (f := (fun (x y : Int32) => x &&& y)) te_91_103 (fun _ _ _ _ => Iff.rfl) (fun b11 b11e b11i => ?_)
            unfold InI at b11i
            refine Tx.bits hC (f := (fun (x y : Int32) => x ||| y)) te_91_104 (fun _ _ _ _ => Iff.rfl) (fun b12 b12e b12i => ?_)
            unfold InI at b12i
            have w10 : v10 = m_66 28 (4 * (mem 24 o.toNat).toNat + 2) := by
              rw [v10e]
              congr 1
              omega
            have w8 : v8 = m_66 28 (4 * (mem 24 o.toNat).toNat + 3) := by
              rw [v8e]
              congr 1
              omega
            refine Tx.iast hC te_91_105 rfl (by omega) ?_
            have hF14 : Frm pPlc mem (upm m_66 28 (Int.toNat z7) b12) := Frm.up hF_66 (by unfold pPlc; omega)
            have m13e : (upm m_66 28 (Int.toNat z7) b12) 28 (Int.toNat z7) = b12 := upm_eq
            have m13n : ∀ B j, ¬ (B = 28 ∧ j = (Int.toNat z7)) → (upm m_66 28 (Int.toNat z7) b12) B j = m_66 B j := fun B j q => upm_ne q
            generalize upm m_66 28 (Int.toNat z7) b12 = m13 at hF14 m13e m13n ⊢
            refine Tx.aload_n hC te_91_106 rfl ?_
            refine Tx.getR hC te_91_107 rfl rfl rfl ?_
            refine Tx.iload_n hC te_91_110 rfl ?_
            refine Tx.iconst hC te_91_111 rfl ?_
            refine Tx.iaddW hC te_91_112 (fun z15 z15i z15e => ?_)
            unfold InI at z15i z15e
            first | replace z15e := z15e (by omega) | clear z15e
            refine Tx.dup2 hC te_91_113 ?_
            refine Tx.iald hC te_91_114 rfl (by omega) (fun v16 v16e v16i => ?_)
            unfold InI at v16i
            refine Tx.aload_n hC te_91_115 rfl ?_
            refine Tx.getR hC te_91_116 rfl rfl rfl ?_
            refine Tx.iload_n hC te_91_119 rfl ?_
            refine Tx.iconst hC te_91_120 rfl ?_
            refine Tx.iaddW hC te_91_121 (fun z17 z17i z17e => ?_)
            unfold InI at z17i z17e
            first | replace z17e := z17e (by omega) | clear z17e
            refine Tx.iald hC te_91_122 rfl (by omega) (fun v18 v18e v18i => ?_)
            unfold InI at v18i
            refine Tx.iload hC te_91_123 rfl ?_
            refine Tx.bits hC (f := (fun (x y : Int32) => x &&& y)) te_91_125 (fun _ _ _ _ => Iff.rfl) (fun b19 b19e b19i => ?_)
            unfold InI at b19i
            refine Tx.bits hC (f := (fun (x y : Int32) => x ||| y)) te_91_126 (fun _ _ _ _ => Iff.rfl) (fun b20 b20e b20i => ?_)
            unfold InI at b20i
            have w18 : v18 = m_66 28 (4 * (mem 24 o.toNat).toNat + 1) := by
              rw [v18e, m13n 28 _ (by omega)]
              congr 1
              omega
            have w16 : v16 = m_66 28 (4 * (mem 24 o.toNat).toNat + 2) := by
              rw [v16e, m13n 28 _ (by omega)]
              congr 1
              omega
            refine Tx.iast hC te_91_127 rfl (by omega) ?_
            have hF22 : Frm pPlc mem (upm m13 28 (Int.toNat z15) b20) := Frm.up hF14 (by unfold pPlc; omega)
            have m21e : (upm m13 28 (Int.toNat z15) b20) 28 (Int.toNat z15) = b20 := upm_eq
            have m21n : ∀ B j, ¬ (B = 28 ∧ j = (Int.toNat z15)) → (upm m13 28 (Int.toNat z15) b20) B j = m13 B j := fun B j q => upm_ne q
            generalize upm m13 28 (Int.toNat z15) b20 = m21 at hF22 m21e m21n ⊢
            refine Tx.aload_n hC te_91_128 rfl ?_
            refine Tx.getR hC te_91_129 rfl rfl rfl ?_
            refine Tx.iload_n hC te_91_132 rfl ?_
            refine Tx.iconst hC te_91_133 rfl ?_
            refine Tx.iaddW hC te_91_134 (fun z23 z23i z23e => ?_)
            unfold InI at z23i z23e
            first | replace z23e := z23e (by omega) | clear z23e
            refine Tx.dup2 hC te_91_135 ?_
            refine Tx.iald hC te_91_136 rfl (by omega) (fun v24 v24e v24i => ?_)
            unfold InI at v24i
            refine Tx.iload hC te_91_137 rfl ?_
            refine Tx.bits hC (f := (fun (x y : Int32) => x ||| y)) te_91_139 (fun _ _ _ _ => Iff.rfl) (fun b25 b25e b25i => ?_)
            unfold InI at b25i
            have w24 : v24 = m_66 28 (4 * (mem 24 o.toNat).toNat + 1) := by
              rw [v24e, m21n 28 _ (by omega), m13n 28 _ (by omega)]
              congr 1
              omega
            refine Tx.iast hC te_91_140 rfl (by omega) ?_
            have hF27 : Frm pPlc mem (upm m21 28 (Int.toNat z23) b25) := Frm.up hF22 (by unfold pPlc; omega)
            have m26e : (upm m21 28 (Int.toNat z23) b25) 28 (Int.toNat z23) = b25 := upm_eq
            have m26n : ∀ B j, ¬ (B = 28 ∧ j = (Int.toNat z23)) → (upm m21 28 (Int.toNat z23) b25) B j = m21 B j := fun B j q => upm_ne q
            generalize upm m21 28 (Int.toNat z23) b25 = m26 at hF27 m26e m26n ⊢
            refine Tx.iincW hC te_91_141 rfl rfl (fun z28 z28i z28e => ?_)
            unfold InI at z28i z28e
            first | replace z28e := z28e (by omega) | clear z28e
            refine Tx.goto hC (t := 66) te_91_144 (by decide) ?_
            exact Tx.weak (by repeat' (first | exact trivial | exact rfl | constructor)) (ih_66 z28 m26 (by omega) (by omega) (by first | exact i47_2 | exact PlB.cg i66_2 (fun A i q => by rw [m26n A i (by omega), m21n A i (by omega), m13n A i (by omega)])) (by first | exact (by rw [show mem 27 (4 * o.toNat + x4.toNat) - z28 = 0 by omega]; exact i47_3) | exact PlI.inc (c3 := b11) (w3 := b12) (c2 := b19) (w2 := b20) (w1 := b25) i66_3 (by omega) (by omega) (fun i hi => (hM.1.2.2.2.2 o.toNat i (by omega) (by omega)).1) hs1.2 hbb (by rw [← w10]; exact b11e) (by rw [← w8]; exact b12e) (by rw [← w18]; exact b19e) (by rw [← w16]; exact b20e) (by rw [← w24]; exact b25e) (by rw [m26n 28 _ (by omega), m21n 28 _ (by omega), show 4 * (mem 24 o.toNat).toNat + 3 = Int.toNat z7 by omega]; exact m13e) (by rw [m26n 28 _ (by omega), show 4 * (mem 24 o.toNat).toNat + 2 = Int.toNat z15 by omega]; exact m21e) (by rw [show 4 * (mem 24 o.toNat).toNat + 1 = Int.toNat z23 by omega]; exact m26e) (fun i hi => by rw [m26n 28 i (by omega), m21n 28 i (by omega), m13n 28 i (by omega)])) (by omega) hF27)
      refine Tx.iload hC te_91_47 rfl ?_
      refine Tx.iconst hC te_91_49 rfl ?_
      refine Tx.icmp hC (t := 153) te_91_50 (by decide) (fun q29 => ?_) (fun q29 => ?_)
      · replace q29 : 4 ≤ (x4 : Int) := q29
        refine Tx.aload_n hC te_91_153 rfl ?_
        refine Tx.iload_n hC te_91_154 rfl ?_
        refine Tx.virtI hC te_91_155 mt_92 (args := [.inr 21, .inl o]) (rest := []) (c' := 0) (s' := 0) rfl rfl rfl rfl rfl rfl rfl rfl rfl rfl ?_
        have e34 : m_47 34 o.toNat = mem 34 o.toNat := hF_47 34 o.toNat (by unfold pPlc; omega)
        refine f_92e (by omega) (by rw [e34]; exact hb34) (fun r30t r30i => ?_) (fun r30t r30i => ?_)
        · skip
          rw [e34] at r30t
          refine Tx.ifc hC (t := 163) te_91_158 (by decide) (fun q => ?_) (fun q => absurd (show ¬ (1 : Int) = 0 by decide) q)
          refine Tx.aload_n hC te_91_163 rfl ?_
          refine Tx.getR hC te_91_164 rfl rfl rfl ?_
          refine Tx.iconst hC te_91_167 rfl ?_
          refine Tx.aload_n hC te_91_168 rfl ?_
          refine Tx.getR hC te_91_169 rfl rfl rfl ?_
          refine Tx.iload_n hC te_91_172 rfl ?_
          refine Tx.bipush hC te_91_173 rfl rfl ?_
          refine Tx.imulW hC te_91_175 (fun z33 z33i z33e => ?_)
          unfold InI at z33i z33e
          first | replace z33e := z33e (by omega) | clear z33e
          refine Tx.bipush hC te_91_176 rfl rfl ?_
          refine Tx.copy hC te_91_178 rfl rfl (by omega) rfl (fun m34 m34a m34b => ?_)
          have hF35 : Frm pPlc mem m34 := Frm.cp hF_47 m34a (fun i => by unfold pPlc; omega)
          refine Tx.aload_n hC te_91_181 rfl ?_
          refine Tx.iload_n hC te_91_182 rfl ?_
          refine Tx.virtI hC te_91_183 mt_93 (args := [.inr 21, .inl o]) (rest := []) (c' := 0) (s' := 0) rfl rfl rfl rfl rfl rfl rfl rfl rfl rfl ?_
          have mn : MnB mem o.toNat := r30t
          have tm := PlB.tm i47_2 m34a
          have fr : ∀ A i, (A = 21 ∧ i < 2) ∨ A = 24 ∨ A = 25 ∨ A = 27 → m34 A i = mem A i := fun A i q => (m34a A i (by omega)).trans (i47_2.1 A i (by omega) (by omega) (by omega) (by omega))
          have e22 : m34 22 o.toNat = s := by rw [tm.2.2.2.1]; exact if_pos rfl
          have hA34 : AlC (TiM m34 o.toNat) (HdM m34 o.toNat) (TM m34) (m34 22) d (m34 22 o.toNat) o.toNat Φ := by
            rw [e22, tm.1, tm.2.1, tm.2.2.1, tm.2.2.2.1]
            exact hA mn
          refine f_93e (hM.1.cg fr) (by rw [tm.2.2.2.2.1]; exact ho) hA34 (by rw [tm.1, tm.2.2.2.2.1]; exact hb) (fun i hi => by
            rw [tm.2.2.2.1]
            have hi2 : HdP mem o.toNat i := by rw [← tm.2.1]; exact hi
            by_cases q : i = o.toNat
            · rw [q, show plusS (mem 22) o.toNat s o.toNat = s from if_pos rfl]; omega
            · rw [show plusS (mem 22) o.toNat s i = mem 22 i from if_neg q]
              have := hM.2.2.2.2.1 i (by have := (hb i hi2.1).1; omega) (hi2.2.resolve_right q)
              omega) (by rw [e22]; omega) (fun i hi => by
            have hi2 : TiM mem o.toNat i := by rw [← tm.1]; exact hi
            have w := hdg i hi2
            have e : m34 30 (8 * i + i) = mem 30 (8 * i + i) := congrFun (congrFun tm.2.2.1 i) i
            rw [e]; exact w) (fun m37 m37F m37I m37D r36i => ?_) (fun m37 m37F m37N r36i => ?_)
          · skip
            have hF38n : Frm pPlc mem m37 := hF35.tr (m37F.mono (fun A i q => by unfold pAl at q; unfold pPlc; omega))
            refine Tx.ifc hC (t := 191) te_91_186 (by decide) (fun q => ?_) (fun q => absurd (show ¬ (1 : Int) = 0 by decide) q)
            refine Tx.aload_n hC te_91_191 rfl ?_
            refine Tx.iload_n hC te_91_192 rfl ?_
            refine Tx.virtV hC te_91_193 mt_95 (args := [.inr 21, .inl o]) (rest := []) (c' := 0) (s' := 0) rfl rfl rfl rfl rfl rfl rfl rfl rfl rfl ?_
            have f37 : ∀ A i, ¬ A = 32 → ¬ A = 33 → m37 A i = m34 A i := fun A i a b => m37F A i (by unfold pAl; omega)
            have t37 : TiM m37 o.toNat = TiM mem o.toNat := by rw [← tm.1]; funext i; unfold TiM; rw [f37 34 _ (by omega) (by omega)]
            have n37 : m37 21 0 = mem 21 0 := by rw [f37 21 0 (by omega) (by omega)]; exact tm.2.2.2.2.1
            have T37 : TM m37 = TM mem := by rw [← tm.2.2.1]; funext i j; exact f37 30 _ (by omega) (by omega)
            have aI : AlI (TiM mem o.toNat) (HdP mem o.toNat) (TM mem) (plusS (mem 22) o.toNat s) d s o.toNat Φ (m37 32) (m37 33) := by
              have w := m37I
              rw [e22, tm.1, tm.2.1, tm.2.2.1, tm.2.2.2.1] at w
              exact w
            have aD : ∀ i : Nat, TiM mem o.toNat i → AlD (HdP mem o.toNat) (TM mem) (plusS (mem 22) o.toNat s) d s o.toNat (m37 32) (m37 33) i (mem 21 0) ∧ m37 32 i + m37 33 i ≤ 0 := by
              have w := m37D
              rw [e22, tm.1, tm.2.1, tm.2.2.1, tm.2.2.2.1, tm.2.2.2.2.1] at w
              exact w
            refine f_95e (hM.1.cg (fun A i q => (f37 A i (by omega) (by omega)).trans (fr A i q))) (by rw [n37]; exact ho) (by rw [t37, n37]; exact hb) (fun i hi => by
              rw [t37] at hi
              have w := (aI i hi).1
              have w2 := (aI i hi).2.1
              have w3 := eIn_rg (hA mn) hi
              have w4 := (hA mn).2.2.1 i hi
              omega) (fun m40 m40F m40T => ?_)
            have aT := m40T
            rw [t37, n37, T37] at aT
            have hF41n : Frm pPlc mem m40 := hF38n.tr (m40F.mono (fun A i q => by unfold pTg at q; unfold pPlc; omega))
            refine Tx.iconst hC te_91_196 rfl ?_
            exact Tx.bret hC te_91_197 rfl (by omega) (show K 1 m40 from H1 _ ⟨m_47, i47_2, by have w := i47_3; rw [show x4.toNat = 4 by omega] at w; exact w, fun A i q => (m40F A i (by unfold pTg; omega)).trans ((m37F A i (by unfold pAl; omega)).trans (m34a A i (by omega))), fun _ i => by
              rw [m40F 31 i (by unfold pTg; omega), m37F 31 i (by unfold pAl; omega), m34b i]
              by_cases h : 64 * o.toNat ≤ i ∧ i < 64 * o.toNat + 64
              · rw [if_pos (by omega), if_pos h, i47_2.1 30 _ (by omega) (by omega) (by omega) (by omega)]
                congr 1
                omega
              · rw [if_neg (by omega), if_neg h, i47_2.1 31 _ (by omega) (by omega) (by omega) (by omega)], fun z => absurd mn z⟩ (fun _ => ⟨m37 32, m37 33, aI, aD, aT⟩))
          · skip
            have hF38n : Frm pPlc mem m37 := hF35.tr (m37F.mono (fun A i q => by unfold pAl at q; unfold pPlc; omega))
            refine Tx.ifc hC (t := 191) te_91_186 (by decide) (fun q => absurd q (show ¬ (¬ (0 : Int) = 0) by decide)) (fun q => ?_)
            refine Tx.iconst hC te_91_189 rfl ?_
            exact Tx.bret hC te_91_190 rfl (by omega) (show K 0 m37 from H0 _ ⟨m_47, i47_2, by have w := i47_3; rw [show x4.toNat = 4 by omega] at w; exact w, fun A i q => (m37F A i (by unfold pAl; omega)).trans (m34a A i (by omega)), fun _ i => by
              rw [m37F 31 i (by unfold pAl; omega), m34b i]
              by_cases h : 64 * o.toNat ≤ i ∧ i < 64 * o.toNat + 64
              · rw [if_pos (by omega), if_pos h, i47_2.1 30 _ (by omega) (by omega) (by omega) (by omega)]
                congr 1
                omega
              · rw [if_neg (by omega), if_neg h, i47_2.1 31 _ (by omega) (by omega) (by omega) (by omega)], fun z => absurd mn z⟩ mn m37N)
        · skip
          rw [e34] at r30t
          refine Tx.ifc hC (t := 163) te_91_158 (by decide) (fun q => absurd q (show ¬ (¬ (0 : Int) = 0) by decide)) (fun q => ?_)
          refine Tx.iconst hC te_91_161 rfl ?_
          exact Tx.bret hC te_91_162 rfl (by omega) (show K 1 m_47 from H1 _ ⟨m_47, i47_2, by have w := i47_3; rw [show x4.toNat = 4 by omega] at w; exact w, fun _ _ _ => rfl, fun z => absurd z r30t, fun _ i => ⟨i47_2.1 31 i (by omega) (by omega) (by omega) (by omega), i47_2.1 30 i (by omega) (by omega) (by omega) (by omega)⟩⟩ (fun z => absurd z r30t))
      · replace q29 : ¬ (4 ≤ (x4 : Int)) := q29
        refine Tx.aload_n hC te_91_53 rfl ?_
        refine Tx.getR hC te_91_54 rfl rfl rfl ?_
        refine Tx.iload_n hC te_91_57 rfl ?_
        refine Tx.iconst hC te_91_58 rfl ?_
        refine Tx.imulW hC te_91_59 (fun z42 z42i z42e => ?_)
        unfold InI at z42i z42e
        first | replace z42e := z42e (by omega) | clear z42e
        refine Tx.iload hC te_91_60 rfl ?_
        refine Tx.iaddW hC te_91_62 (fun z43 z43i z43e => ?_)
        unfold InI at z43i z43e
        first | replace z43e := z43e (by omega) | clear z43e
        refine Tx.iald hC te_91_63 rfl (by omega) (fun v44 v44e v44i => ?_)
        unfold InI at v44i
        rw [hF_47 27 _ (by unfold pPlc; omega)] at v44e
        have v44ez : v44 = mem 27 (4 * o.toNat + x4.toNat) := by rw [v44e]; congr 1; omega
        have f45 := hM.1.2.2.2.2 (Int.toNat o) (Int.toNat x4) (by omega) (by omega)
        refine Tx.istore hC te_91_64 rfl ?_
        exact l_66 _ v44 m_47 (by omega) (by omega) (by first | exact i47_2 | exact PlB.cg i66_2 (fun A i q => by rw [m26n A i (by omega), m21n A i (by omega), m13n A i (by omega)])) (by first | exact (by rw [show mem 27 (4 * o.toNat + x4.toNat) - v44 = 0 by omega]; exact i47_3) | exact PlI.inc (c3 := b11) (w3 := b12) (c2 := b19) (w2 := b20) (w1 := b25) i66_3 (by omega) (by omega) (fun i hi => (hM.1.2.2.2.2 o.toNat i (by omega) (by omega)).1) hs1.2 hbb (by rw [← w10]; exact b11e) (by rw [← w8]; exact b12e) (by rw [← w18]; exact b19e) (by rw [← w16]; exact b20e) (by rw [← w24]; exact b25e) (by rw [m26n 28 _ (by omega), m21n 28 _ (by omega), show 4 * (mem 24 o.toNat).toNat + 3 = Int.toNat z7 by omega]; exact m13e) (by rw [m26n 28 _ (by omega), show 4 * (mem 24 o.toNat).toNat + 2 = Int.toNat z15 by omega]; exact m21e) (by rw [show 4 * (mem 24 o.toNat).toNat + 1 = Int.toNat z23 by omega]; exact m26e) (fun i hi => by rw [m26n 28 i (by omega), m21n 28 i (by omega), m13n 28 i (by omega)])) (Nat.lt_succ_self _) hF_47
  refine Tx.aload_n hC te_91_0 rfl ?_
  refine Tx.getR hC te_91_1 rfl rfl rfl ?_
  refine Tx.iload_n hC te_91_4 rfl ?_
  refine Tx.iald hC te_91_5 rfl (by omega) (fun v46 v46e v46i => ?_)
  unfold InI at v46i
  have f47 := hM.1.2.2.1 (Int.toNat o) (by omega)
  refine Tx.iconst hC te_91_6 rfl ?_
  refine Tx.imulW hC te_91_7 (fun z48 z48i z48e => ?_)
  unfold InI at z48i z48e
  first | replace z48e := z48e (by omega) | clear z48e
  refine Tx.istore_n hC te_91_8 rfl ?_
  refine Tx.aload_n hC te_91_9 rfl ?_
  refine Tx.getR hC te_91_10 rfl rfl rfl ?_
  refine Tx.iload_n hC te_91_13 rfl ?_
  refine Tx.aload_n hC te_91_14 rfl ?_
  refine Tx.getR hC te_91_15 rfl rfl rfl ?_
  refine Tx.iload_n hC te_91_18 rfl ?_
  refine Tx.iconst hC te_91_19 rfl ?_
  refine Tx.imulW hC te_91_20 (fun z49 z49i z49e => ?_)
  unfold InI at z49i z49e
  first | replace z49e := z49e (by omega) | clear z49e
  refine Tx.iconst hC te_91_21 rfl ?_
  refine Tx.copy hC te_91_22 rfl rfl (by omega) rfl (fun m50 m50a m50b => ?_)
  have hF51 : Frm pPlc mem m50 := Frm.cp Frm.rf m50a (fun i => by unfold pPlc; omega)
  refine Tx.aload_n hC te_91_25 rfl ?_
  refine Tx.getR hC te_91_26 rfl rfl rfl ?_
  refine Tx.iload_n hC te_91_29 rfl ?_
  refine Tx.iload_n hC te_91_30 rfl ?_
  refine Tx.iast hC te_91_31 rfl (by omega) ?_
  have hF53 : Frm pPlc mem (upm m50 22 (Int.toNat o) s) := Frm.up hF51 (by unfold pPlc; omega)
  have m52e : (upm m50 22 (Int.toNat o) s) 22 (Int.toNat o) = s := upm_eq
  have m52n : ∀ B j, ¬ (B = 22 ∧ j = (Int.toNat o)) → (upm m50 22 (Int.toNat o) s) B j = m50 B j := fun B j q => upm_ne q
  generalize upm m50 22 (Int.toNat o) s = m52 at hF53 m52e m52n ⊢
  refine Tx.aload_n hC te_91_32 rfl ?_
  refine Tx.dup hC te_91_33 ?_
  refine Tx.getI hC te_91_34 rfl rfl rfl (fun v54 v54e v54i => ?_)
  unfold InI at v54i
  refine Tx.iconst hC te_91_37 rfl ?_
  refine Tx.iload_n hC te_91_38 rfl ?_
  refine Tx.bits hC (f := (fun (x y : Int32) => x <<< (y &&& 31))) te_91_39 (fun _ _ _ _ => Iff.rfl) (fun b55 b55e b55i => ?_)
  unfold InI at b55i
  refine Tx.bits hC (f := (fun (x y : Int32) => x ||| y)) te_91_40 (fun _ _ _ _ => Iff.rfl) (fun b56 b56e b56i => ?_)
  unfold InI at b56i
  refine Tx.putI hC te_91_41 rfl rfl rfl rfl ?_
  have hF58 : Frm pPlc mem (upm m52 21 4 b56) := Frm.up hF53 (by unfold pPlc; omega)
  have m57e : (upm m52 21 4 b56) 21 4 = b56 := upm_eq
  have m57n : ∀ B j, ¬ (B = 21 ∧ j = 4) → (upm m52 21 4 b56) B j = m52 B j := fun B j q => upm_ne q
  generalize upm m52 21 4 b56 = m57 at hF58 m57e m57n ⊢
  refine Tx.iconst hC te_91_44 rfl ?_
  refine Tx.istore hC te_91_45 rfl ?_
  exact l_47 _ z48 0 m57 (by omega) (by omega) (by first | exact i66_2 | exact (by
    refine ⟨fun A i a b c e => by rw [m57n A i a, m52n A i b, m50a A i e], by rw [m57n 22 _ (by omega)]; exact m52e, fun j => ?_, fun i => ?_⟩
    · rw [m57e, Bt_or b56e, Bt_bit (by omega) b55e, v54e, m52n 21 4 (by omega), m50a 21 4 (by omega)]
      exact ⟨fun q => q.elim Or.inl (fun w => Or.inr (by omega)), fun q => q.elim Or.inl (fun w => Or.inr (by omega))⟩
    · rw [m57n 29 i (by omega), m52n 29 i (by omega), m50b i, show z49.toNat = 4 * o.toNat by omega, show z48.toNat = 4 * (mem 24 o.toNat).toNat by omega]
      rfl)) (by first | exact PlI.ini (fun i => by rw [m57n 28 i (by omega), m52n 28 i (by omega), m50a 28 i (by omega)]) | exact PlI.nxt (by have w := i66_3; rw [show mem 27 (4 * o.toNat + x4.toNat) - x5 = mem 27 (4 * o.toNat + x4.toNat) by omega] at w; exact w) (by omega)) (Nat.lt_succ_self _) hF58
end
section
/-! ops that stand, told without cells: what may be added, what follows -/
def AbS (p : Prb) (W : Nat → Nat → Int) (P : Nat → Prop) (s : Nat → Int) (T : Nat → Nat → Int) : Prop :=
  (∀ o, P o → o < p.n ∧ 0 ≤ s o ∧ s o < p.d) ∧
  (∀ u k : Int, 0 ≤ u → u < 3 → 0 ≤ k → k < p.d → usM P p.un p.bu p.d s u k p.n ≤ p.ct u.toNat) ∧
  TiX p.E W p.d s P T ∧
  ∀ a b, P a → P b → tie p.E a b → ¬ many p.E a → Win p.d (s a + W a b) (s a - W b a) (s b)
section ABS
variable {p : Prb} {W : Nat → Nat → Int} {nn : Int} {P G : Nat → Prop} {s w : Nat → Int} {T T' : Nat → Nat → Int} {op : Nat} {x : Int} {I O : Nat → Int}
theorem usM_plus {un bu : Nat → Int} {d u k : Int} (hop : ¬ P op) : ∀ n, usM (plusP P op) un bu d (plusS s op x) u k n = usM P un bu d s u k n + cIf (op < n ∧ un op = u) (us1 d x (bu op) k) 0
  | 0 => by rw [cIf.n (fun z => by omega)]; rfl
  | n + 1 => by
    have ih := usM_plus (un := un) (bu := bu) (d := d) (u := u) (k := k) hop n
    unfold usM
    rw [ih]
    by_cases e : n = op
    · subst e
      rw [cIf.n (show ¬ (n < n ∧ un n = u) from fun z => by omega), plusS.eq, cIf.n (show ¬ (P n ∧ un n = u) from fun z => hop z.1)]
      by_cases q : un n = u
      · rw [cIf.y (show plusP P n n ∧ un n = u from ⟨Or.inr rfl, q⟩), cIf.y (show n < n + 1 ∧ un n = u from ⟨by omega, q⟩), Int.add_zero]
      · rw [cIf.n (fun z => q z.2), cIf.n (fun z => q z.2)]
    · rw [plusS.ne e]
      have e1 : (plusP P op n ∧ un n = u) = (P n ∧ un n = u) := propext ⟨fun z => ⟨z.1.resolve_right e, z.2⟩, fun z => ⟨Or.inl z.1, z.2⟩⟩
      have e2 : (op < n + 1 ∧ un op = u) = (op < n ∧ un op = u) := propext ⟨fun z => ⟨by omega, z.2⟩, fun z => ⟨by omega, z.2⟩⟩
      rw [e1, e2]
      omega
def FitU (p : Prb) (P : Nat → Prop) (s : Nat → Int) (op : Nat) (x : Int) : Prop := ∀ k : Int, 0 ≤ k → k < p.d → usM P p.un p.bu p.d s (p.un op) k p.n + us1 p.d x (p.bu op) k ≤ p.ct (p.un op).toNat
theorem AbS.un (h : AbS p W P s T) (hop : ¬ P op) (ho : op < p.n) (hF : FitU p P s op x) : ∀ u k : Int, 0 ≤ u → u < 3 → 0 ≤ k → k < p.d → usM (plusP P op) p.un p.bu p.d (plusS s op x) u k p.n ≤ p.ct u.toNat := fun u k a b c e => by
  rw [usM_plus hop]
  have g := h.2.1 u k a b c e
  by_cases q : p.un op = u
  · rw [cIf.y ⟨ho, q⟩]
    have := hF k c e
    rw [q] at this
    exact this
  · rw [cIf.n (fun z => q z.2)]
    omega
theorem AbS.rg (h : AbS p W P s T) (ho : op < p.n) (hx : 0 ≤ x ∧ x < p.d) (hop : ¬ P op) : ∀ o, plusP P op o → o < p.n ∧ 0 ≤ plusS s op x o ∧ plusS s op x o < p.d := fun o q => by
  by_cases e : o = op
  · subst e; rw [plusS.eq]; exact ⟨ho, hx⟩
  · rw [plusS.ne e]; exact h.1 o (q.resolve_right e)
theorem AbS.putm (hW : ∀ b c, tie p.E b c → -801 ≤ W b c) (h : AbS p W P s T) (hop : ¬ P op) (ho : op < p.n) (hx : 0 ≤ x ∧ x < p.d) (hF : FitU p P s op x) (hm : many p.E op) (hA : AlnX p.E W p.d s P T op x I O) (hT : TgtX p.E T op I O T') : AbS p W (plusP P op) (plusS s op x) T' := by
  refine ⟨h.rg ho hx hop, h.un hop ho hF, h.2.2.1.step hW hop hm hA hT, fun a b pa pb t nm => ?_⟩
  have na : ¬ a = op := fun e => nm (e ▸ hm)
  have nb : ¬ b = op := fun e => nm ((e ▸ hm : many p.E b).sc t.sy)
  rw [plusS.ne na, plusS.ne nb]
  exact h.2.2.2 a b (pa.resolve_right na) (pb.resolve_right nb) t nm
theorem AbS.putf (h : AbS p W P s T) (hop : ¬ P op) (ho : op < p.n) (hx : 0 ≤ x ∧ x < p.d) (hF : FitU p P s op x) (hm : ¬ many p.E op) (hw : ∀ r, P r → tie p.E op r → Win p.d (s r + W r op) (s r - W op r) x) : AbS p W (plusP P op) (plusS s op x) T := by
  obtain ⟨t1, t2, t3, t4, t5⟩ := h.2.2.1
  have no : ∀ a, many p.E a → (a = op ∨ tie p.E a op) → False := fun a ma q => q.elim (fun e => hm (e ▸ ma)) (fun t => hm (ma.sc t))
  refine ⟨h.rg ho hx hop, h.un hop ho hF, ⟨fun a τ hτ => t1 a τ (hτ.less hop), t2, t3, fun a b pa pb t ma => ?_, t5⟩, fun a b pa pb t nm => ?_⟩
  · have na : ¬ a = op := fun e => no a ma (Or.inl e)
    have nb : ¬ b = op := fun e => no a ma (Or.inr (e ▸ t))
    obtain ⟨g1, g2, g3⟩ := t4 a b (pa.resolve_right na) (pb.resolve_right nb) t ma
    rw [plusS.ne na, plusS.ne nb]
    exact ⟨g1, g2, fun c pc h1 h2 => g3 c (pc.resolve_right (fun e => no a ma (Or.inr (e ▸ h1)))) h1 h2⟩
  · by_cases ea : a = op
    · subst ea
      have nb : ¬ b = a := fun e => t.1 e.symm
      rw [plusS.eq, plusS.ne nb]
      obtain ⟨q, h1, h2⟩ := hw b (pb.resolve_right nb) t
      exact ⟨-q, by rw [Int.mul_neg]; omega, by rw [Int.mul_neg]; omega⟩
    · by_cases eb : b = op
      · subst eb
        rw [plusS.eq, plusS.ne ea]
        exact hw a (pa.resolve_right ea) t.sy
      · rw [plusS.ne ea, plusS.ne eb]
        exact h.2.2.2 a b (pa.resolve_right ea) (pb.resolve_right eb) t nm
theorem AbS.tu (hP : PrW p) (hW : WyC p W nn) (h : AbS p W P s T) {a : Nat} (hA : ∀ b, scc p.E a b → P b) : ∃ t, TuL p s (scc p.E a) t := by
  have pa := hA a scc.rf
  by_cases hm : many p.E a
  · obtain ⟨τ, h1, h2⟩ := h.2.2.1.cls pa hm
    exact PSol.tu hP hW hA (show PSol p.E W p.d s P a τ from ⟨fun b c hb hc hn => h1 b c (hA b hb) (hA c hc) hb hc hn, fun b pb hb => h2 b pb hb⟩)
  · by_cases q : ∃ b, tie p.E a b
    · obtain ⟨b, t⟩ := q
      have only : ∀ c, scc p.E a c → c = a ∨ c = b := fun c hc => by
        by_cases e : a = c
        · exact Or.inl e.symm
        · by_cases e2 : c = b
          · exact Or.inr e2
          · exact absurd ⟨c, b, e2, hc.ti e, t⟩ hm
      obtain ⟨q, g1, g2⟩ := h.2.2.2 a b pa (hA b (Or.inr t)) t hm
      have tb : ¬ b = a := fun e => t.1 e.symm
      refine PSol.tu hP hW hA (τ := fun c => if c = a then s a else s b + p.d * q) ⟨fun c e hc he hn => ?_, fun c _ hc => ?_⟩
      · show (if c = a then s a else s b + p.d * q) + W c e ≤ (if e = a then s a else s b + p.d * q)
        rcases only c hc with rfl | rfl
        · rcases only e he with rfl | rfl
          · exact absurd rfl hn
          · rw [if_pos rfl, if_neg tb]; omega
        · rcases only e he with rfl | rfl
          · rw [if_neg tb, if_pos rfl]; omega
          · exact absurd rfl hn
      · show ∃ r, (if c = a then s a else s b + p.d * q) = s c + p.d * r
        rcases only c hc with rfl | rfl
        · exact ⟨0, by rw [if_pos rfl, Int.mul_zero, Int.add_zero]⟩
        · exact ⟨q, by rw [if_neg tb]⟩
    · have only : ∀ c, scc p.E a c → c = a := fun c hc => hc.elim Eq.symm (fun t => absurd ⟨c, t⟩ q)
      refine PSol.tu hP hW hA (τ := s) ⟨fun c e hc he hn => absurd ((only c hc).trans (only e he).symm) hn, fun c _ _ => ⟨0, by rw [Int.mul_zero, Int.add_zero]⟩⟩
theorem AbS.fin (hP : PrW p) (hW : WyC p W nn) (h : AbS p W P s T) (hG : ClG p G) (hA : ∀ o, o < p.n → G o → P o) : FsbM p G s := by
  refine ⟨fun o ho g => (h.1 o (hA o ho g)).2, fun u k a b c e => ?_, fun a ha g => h.tu hP hW (fun b hb => ?_)⟩
  · exact Int.le_trans (usM_mono p.n (fun o ho g => hA o ho g)) (h.2.1 u k a b c e)
  · refine hA b ?_ (hG.sc hb g)
    rcases hb with rfl | hb
    · exact ha
    · exact (hb.v hP).2
theorem AbS.wn (hP : PrW p) (hW : WyC p W nn) (h : AbS p W P s T) (hG : ClG p G) (hw : FsbM p G w) (hag : ∀ o, P o → G o → w o = s o) (ho : op < p.n) (g : G op) {r : Nat} (pr : P r) (t : tie p.E op r) : Win p.d (s r + T r op) (s r - T op r) (w op) := by
  obtain ⟨tt, ht⟩ := hw.2.2 op ho g
  have hs := TuL.sol hP hW ht P
  have hs2 : PSol p.E W p.d s P op (fun o => w o + p.d * tt o) := ⟨hs.1, fun b pb hb => ⟨tt b, by
    show w b + p.d * tt b = s b + p.d * tt b
    rw [hag b pb (hG.sc hb g)]⟩⟩
  have k1 : w r + p.d * tt r + T r op ≤ w op + p.d * tt op := h.2.2.1.1 op _ hs2 r op (Or.inr t) scc.rf (fun e => t.1 e.symm)
  have k2 : w op + p.d * tt op + T op r ≤ w r + p.d * tt r := h.2.2.1.1 op _ hs2 op r scc.rf (Or.inr t) t.1
  have e := hag r pr (hG.sc (Or.inr t) g)
  exact ⟨tt op - tt r, by rw [Int.mul_sub]; omega, by rw [Int.mul_sub]; omega⟩
theorem AbS.tm (hP : PrW p) (hW : WyC p W nn) (hG : ClG p G) (hw : FsbM p G w) (hag : ∀ o, P o → G o → w o = s o) (ho : op < p.n) (g : G op) : ∃ τ, PSol p.E W p.d s P op τ ∧ ∃ q, τ op = w op + p.d * q := by
  obtain ⟨tt, ht⟩ := hw.2.2 op ho g
  have hs := TuL.sol hP hW ht P
  exact ⟨fun o => w o + p.d * tt o, ⟨hs.1, fun b pb hb => ⟨tt b, by
    show w b + p.d * tt b = s b + p.d * tt b
    rw [hag b pb (hG.sc hb g)]⟩⟩, tt op, rfl⟩
theorem AbS.fu (hG : ClG p G) (hw : FsbM p G w) (hag : ∀ o, P o → G o → w o = s o) (hop : ¬ P op) (ho : op < p.n) (hu : 0 ≤ p.un op ∧ p.un op < 3) (g : G op) : FitU p P s op (w op) := fun k a b => by
  have q := hw.2.1 (p.un op) k hu.1 hu.2 a b
  have e := usM_plus (un := p.un) (bu := p.bu) (d := p.d) (u := p.un op) (k := k) (s := s) (x := w op) hop p.n
  rw [cIf.y ⟨ho, rfl⟩] at e
  rw [← e]
  refine Int.le_trans ?_ q
  have e2 : usM (plusP P op) p.un p.bu p.d (plusS s op (w op)) (p.un op) k p.n = usM (fun o => plusP P op o ∧ G o) p.un p.bu p.d w (p.un op) k p.n := usM_cg p.n (fun o h1 h2 => by
    have go : G o := hG.1 op o ho h1 h2.symm g
    refine ⟨⟨fun z => ⟨z, go⟩, fun z => z.1⟩, fun z => ?_⟩
    by_cases e : o = op
    · subst e; exact plusS.eq
    · rw [plusS.ne e]; exact (hag o (z.resolve_right e) go).symm)
  rw [e2]
  exact usM_mono p.n (fun o _ z => z.2)
end ABS
end
