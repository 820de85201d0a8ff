/-! laid by wip/hand/tg.py: soundness, exactly, in the class -/
/-- soundness, exactly, by the class's cells -/
def SrcC (m : MM) (o k : Nat) : Prop := m 3 (4 * o + 2 * k) < 0 ∨ (m 3 (4 * o + 2 * k) < m 1 0 ∧ ¬ m 2 (m 3 (4 * o + 2 * k)).toNat = 5 ∧ (0 < m 3 (4 * o + 2 * k + 1) ∨ m 3 (4 * o + 2 * k) < o))
def SndX (m : MM) : Prop := ∀ o k : Nat, (o : Int) < m 1 0 → (k : Int) < csN m o → SrcC m o k
theorem SndX.fr {m m' : MM} (h : SndX m) (e : ∀ A i, 0 < A → A < 4 → m' A i = m A i) : SndX m' := fun o k ho hk => by
  rw [e 1 0 (by omega) (by omega)] at ho
  have ec : csN m' o = csN m o := by unfold csN; rw [e 2 o (by omega) (by omega)]
  rw [ec] at hk
  have := h o k ho hk
  unfold SrcC at this ⊢
  rw [e 3 _ (by omega) (by omega), e 3 _ (by omega) (by omega), e 1 0 (by omega) (by omega), e 2 _ (by omega) (by omega)]; exact this
theorem SndX.iff {m m' : MM} (e : ∀ A i, 0 < A → A < 4 → m' A i = m A i) : SndX m ↔ SndX m' := ⟨fun h => h.fr e, fun h => h.fr (fun A i a b => (e A i a b).symm)⟩
theorem SX.fr {m m' : MM} (h : m 0 10 = 1 ↔ SndX m) (e0 : m' 0 10 = m 0 10) (e : ∀ A i, 0 < A → A < 4 → m' A i = m A i) : m' 0 10 = 1 ↔ SndX m' := by rw [e0]; exact h.trans (SndX.iff e)
theorem SndX.snd {m : MM} (h : SndX m) : Snd m := fun o k ho hk => by
  have := h o k ho hk
  unfold SrcC at this
  omega
theorem f_16x {S : Nat × (Nat → Int32)} {n : Nat} {mem : MM} {K : Int → MM → Prop} {E : Nat → MM → Prop} (hB : BodyOK mem) {o s d : Int} {k : Nat} (ho : 0 ≤ o) (hs : s = mem 3 (4 * o.toNat + 2 * k)) (hd : d = mem 3 (4 * o.toNat + 2 * k + 1)) (H : ∀ r, (r = 0 ∨ r = 1) → (r = 1 ↔ SrcC mem o.toNat k) → K r mem) : CQI (Ex S (n + 1)) 16 [.inr 1, .inl o, .inl s, .inl d] mem K E := by
  refine CY.of (k := 0) mt_16 rfl rfl (fun hv => ?_)
  have hC := Ex.mono S n
  have ii_o : InI o := hv (.inl o) (by simp)
  unfold InI at ii_o
  have ii_s : InI s := hv (.inl s) (by simp)
  unfold InI at ii_s
  have ii_d : InI d := hv (.inl d) (by simp)
  unfold InI at ii_d
  clear hv
  have h8 := hB.1
  have hSC : SrcC mem o.toNat k ↔ (s < 0 ∨ (s < mem 1 0 ∧ ¬ mem 2 s.toNat = 5 ∧ (0 < d ∨ s < o))) := by unfold SrcC; rw [← hs, ← hd, Int.toNat_of_nonneg ho]
  show Tx (Ex S n) S M_16 (kI K E) 0 0 0 [some (.inr 1), some (.inl o), some (.inl s), some (.inl d)] [] mem
  refine Tx.iload_n hC te_16_0 rfl ?_
  refine Tx.ifc hC (t := 6) te_16_1 (by decide) (fun q1 => ?_) (fun q1 => ?_)
  · replace q1 : 0 ≤ (s : Int) := q1
    refine Tx.iload_n hC te_16_6 rfl ?_
    refine Tx.aload_n hC te_16_7 rfl ?_
    refine Tx.getI hC te_16_8 rfl rfl rfl (fun v2 v2e v2i => ?_)
    unfold InI at v2i
    refine Tx.icmp hC (t := 24) te_16_11 (by decide) (fun q3 => ?_) (fun q3 => ?_)
    · replace q3 : v2 ≤ (s : Int) := q3
      refine Tx.iconst hC te_16_24 rfl ?_
      exact Tx.bret hC te_16_25 rfl (by omega) (show K 0 mem from H 0 (by omega) (by rw [hSC]; omega))
    · replace q3 : ¬ (v2 ≤ (s : Int)) := q3
      refine Tx.aload_n hC te_16_14 rfl ?_
      refine Tx.getR hC te_16_15 rfl rfl rfl ?_
      refine Tx.iload_n hC te_16_18 rfl ?_
      refine Tx.iald hC te_16_19 rfl (by omega) (fun v4 v4e v4i => ?_)
      unfold InI at v4i
      have f5 := hB.kd (o := (Int.toNat s)) (by omega)
      refine Tx.iconst hC te_16_20 rfl ?_
      refine Tx.icmp hC (t := 26) te_16_21 (by decide) (fun q6 => ?_) (fun q6 => ?_)
      · replace q6 : ¬ (v4 : Int) = 5 := q6
        refine Tx.iload_n hC te_16_26 rfl ?_
        refine Tx.ifc hC (t := 35) te_16_27 (by decide) (fun q7 => ?_) (fun q7 => ?_)
        · replace q7 : 0 < (d : Int) := q7
          refine Tx.iconst hC te_16_35 rfl ?_
          refine Tx.goto hC (t := 40) te_16_36 (by decide) ?_
          exact Tx.bret hC te_16_40 rfl (by omega) (show K 1 mem from H 1 (by omega) (by rw [hSC]; omega))
        · replace q7 : ¬ (0 < (d : Int)) := q7
          refine Tx.iload_n hC te_16_30 rfl ?_
          refine Tx.iload_n hC te_16_31 rfl ?_
          refine Tx.icmp hC (t := 39) te_16_32 (by decide) (fun q8 => ?_) (fun q8 => ?_)
          · replace q8 : o ≤ (s : Int) := q8
            refine Tx.iconst hC te_16_39 rfl ?_
            exact Tx.bret hC te_16_40 rfl (by omega) (show K 0 mem from H 0 (by omega) (by rw [hSC]; omega))
          · replace q8 : ¬ (o ≤ (s : Int)) := q8
            refine Tx.iconst hC te_16_35 rfl ?_
            refine Tx.goto hC (t := 40) te_16_36 (by decide) ?_
            exact Tx.bret hC te_16_40 rfl (by omega) (show K 1 mem from H 1 (by omega) (by rw [hSC]; omega))
      · replace q6 : ¬ (¬ (v4 : Int) = 5) := q6
        refine Tx.iconst hC te_16_24 rfl ?_
        exact Tx.bret hC te_16_25 rfl (by omega) (show K 0 mem from H 0 (by omega) (by rw [hSC]; omega))
  · replace q1 : ¬ (0 ≤ (s : Int)) := q1
    refine Tx.iconst hC te_16_4 rfl ?_
    exact Tx.bret hC te_16_5 rfl (by omega) (show K 1 mem from H 1 (by omega) (by rw [hSC]; omega))
theorem f_12x {S : Nat × (Nat → Int32)} {n : Nat} {mem : MM} {K : Int → MM → Prop} {E : Nat → MM → Prop} (hB : BodyOK mem) (H : ∀ r, r = 0 ∨ r = 1 → (r = 1 ↔ SndX mem) → K r mem) : CQI (Ex S (n + 2)) 12 [.inr 1] mem K E := by
  refine CY.of (k := 2) mt_12 rfl rfl (fun hv => ?_)
  have hC := Ex.mono S (n + 1)
  clear hv
  have h8 := hB.1
  show Tx (Ex S (n + 1)) S M_12 (kI K E) 0 0 0 [some (.inr 1), none, none] [] mem
  have l_2 : ∀ (N : Nat) (x1 : Int), (0 ≤ x1) → (∀ o k : Nat, (o : Int) < x1 → (k : Int) < csN mem o → SrcC mem o k) → ((8 - x1).toNat) < N → Tx (Ex S (n + 1)) S M_12 (kI K E) 0 0 2 [some (.inr 1), some (.inl x1), none] [] mem := by
    intro N
    induction N with
    | zero => intros; omega
    | succ N ih_2 =>
      intro x1 i2_0 i2_1 hN_2 
      have l_12 : ∀ (N : Nat) (x2 : Int), (0 ≤ x2) → (∀ k : Nat, (k : Int) < x2 → SrcC mem (Int.toNat x1) k) → (0 ≤ x1 ∧ x1 < mem 1 0) → ((3 - x2).toNat) < N → Tx (Ex S (n + 1)) S M_12 (kI K E) 0 0 12 [some (.inr 1), some (.inl x1), some (.inl x2)] [] mem := by
        intro N
        induction N with
        | zero => intros; omega
        | succ N ih_12 =>
          intro x2 i12_0 i12_1 i12_2 hN_12 
          refine Tx.iload_n hC te_12_12 rfl ?_
          refine Tx.aload_n hC te_12_13 rfl ?_
          refine Tx.iload_n hC te_12_14 rfl ?_
          refine Tx.virtI hC te_12_15 mt_13 (args := [.inr 1, .inl x1]) (rest := [.inl x2]) (c' := 0) (s' := 0) rfl rfl rfl rfl rfl rfl rfl rfl rfl rfl ?_
          refine f_13q (by omega) (fun r1 r1e r1a r1b r1i => ?_)
          unfold InI at r1i
          refine Tx.icmp hC (t := 49) te_12_18 (by decide) (fun q4 => ?_) (fun q4 => ?_)
          · replace q4 : r1 ≤ (x2 : Int) := q4
            refine Tx.iincW hC te_12_49 rfl rfl (fun z5 z5i z5e => ?_)
            unfold InI at z5i z5e
            first | replace z5e := z5e (by omega) | clear z5e
            refine Tx.goto hC (t := 2) te_12_52 (by decide) ?_
            exact Tx.weak (by repeat' (first | exact trivial | exact rfl | constructor)) (ih_2 z5 (by omega) (fun o k ho hk => (Classical.em ((o : Int) < x1)).elim (fun q => i2_1 o k q hk) (fun q => by have e : o = Int.toNat x1 := by { omega }; subst e; exact i12_1 k (by omega))) (by omega))
          · replace q4 : ¬ (r1 ≤ (x2 : Int)) := q4
            refine Tx.aload_n hC te_12_21 rfl ?_
            refine Tx.iload_n hC te_12_22 rfl ?_
            refine Tx.aload_n hC te_12_23 rfl ?_
            refine Tx.iload_n hC te_12_24 rfl ?_
            refine Tx.iload_n hC te_12_25 rfl ?_
            refine Tx.virtI hC te_12_26 mt_14 (args := [.inr 1, .inl x1, .inl x2]) (rest := [.inl x1, .inr 1]) (c' := 0) (s' := 0) rfl rfl rfl rfl rfl rfl rfl rfl rfl rfl ?_
            refine f_14q (by omega) (by omega) (fun r6 r6e r6i => ?_)
            unfold InI at r6i
            refine Tx.aload_n hC te_12_29 rfl ?_
            refine Tx.iload_n hC te_12_30 rfl ?_
            refine Tx.iload_n hC te_12_31 rfl ?_
            refine Tx.virtI hC te_12_32 mt_15 (args := [.inr 1, .inl x1, .inl x2]) (rest := [.inl r6, .inl x1, .inr 1]) (c' := 0) (s' := 0) rfl rfl rfl rfl rfl rfl rfl rfl rfl rfl ?_
            refine f_15q (by omega) (by omega) (fun r9 r9e r9i => ?_)
            unfold InI at r9i
            refine Tx.virtI hC te_12_35 mt_16 (args := [.inr 1, .inl x1, .inl r6, .inl r9]) (rest := []) (c' := 0) (s' := 0) rfl rfl rfl rfl rfl rfl rfl rfl rfl rfl ?_
            refine f_16x (k := Int.toNat x2) hB (by omega) (by assumption) (by assumption) (fun r12 r12b r12f r12i => ?_)
            unfold InI at r12i
            refine Tx.ifc hC (t := 43) te_12_38 (by decide) (fun q15 => ?_) (fun q15 => ?_)
            · replace q15 : ¬ (r12 : Int) = 0 := q15
              refine Tx.iincW hC te_12_43 rfl rfl (fun z16 z16i z16e => ?_)
              unfold InI at z16i z16e
              first | replace z16e := z16e (by omega) | clear z16e
              refine Tx.goto hC (t := 12) te_12_46 (by decide) ?_
              exact ih_12 z16 (by omega) (fun k hk => (Classical.em ((k : Int) < x2)).elim (fun q => i12_1 k q) (fun q => by rw [show k = Int.toNat x2 by omega]; exact r12f.mp (by omega))) (by omega) (by omega)
            · replace q15 : ¬ (¬ (r12 : Int) = 0) := q15
              refine Tx.iconst hC te_12_41 rfl ?_
              exact Tx.bret hC te_12_42 rfl (by omega) (show K 0 mem from H 0 (by omega) ⟨fun q => absurd q (by omega), fun q => absurd (r12f.mpr (q _ _ (by omega) (by omega))) (by omega)⟩)
      refine Tx.iload_n hC te_12_2 rfl ?_
      refine Tx.aload_n hC te_12_3 rfl ?_
      refine Tx.getI hC te_12_4 rfl rfl rfl (fun v17 v17e v17i => ?_)
      unfold InI at v17i
      refine Tx.icmp hC (t := 55) te_12_7 (by decide) (fun q18 => ?_) (fun q18 => ?_)
      · replace q18 : v17 ≤ (x1 : Int) := q18
        refine Tx.iconst hC te_12_55 rfl ?_
        exact Tx.bret hC te_12_56 rfl (by omega) (show K 1 mem from H 1 (by omega) ⟨fun _ o k ho hk => i2_1 o k (by omega) hk, fun _ => rfl⟩)
      · replace q18 : ¬ (v17 ≤ (x1 : Int)) := q18
        refine Tx.iconst hC te_12_10 rfl ?_
        refine Tx.istore_n hC te_12_11 rfl ?_
        exact l_12 _ 0 (by omega) (fun k hk => absurd hk (by omega)) (by omega) (Nat.lt_succ_self _)
  refine Tx.iconst hC te_12_0 rfl ?_
  refine Tx.istore_n hC te_12_1 rfl ?_
  exact l_2 _ 0 (by omega) (fun o k ho hk => absurd ho (by omega)) (Nat.lt_succ_self _)
