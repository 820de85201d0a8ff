/-! laid by wip/hand/tg.py: the seven that change the ops, exactly, second part -/
theorem f_57n {S : Nat × (Nat → Int32)} {n : Nat} {mem : MM} {K : MM → Prop} {E : Nat → MM → Prop} {o : Int} (H : 0 ≤ o ∧ o < mem 1 0 → K mem) (HE : ¬ (0 ≤ o ∧ o < mem 1 0) → E 2 mem) : CQV (Ex S (n + 1)) 57 [.inr 0, .inl o] mem K E := by
  refine CY.of (k := 0) mt_57 rfl rfl (fun hv => ?_)
  have hC := Ex.mono S n
  have ii_o : InI o := hv (.inl o) (by simp)
  unfold InI at ii_o
  clear hv
  show Tx (Ex S n) S M_57 (kV K E) 0 0 0 [some (.inr 0), some (.inl o)] [] mem
  refine Tx.iload_n hC te_57_0 rfl ?_
  refine Tx.ifc hC (t := 15) te_57_1 (by decide) (fun q1 => ?_) (fun q1 => ?_)
  · replace q1 : (o : Int) < 0 := q1
    exact Tx.thr hC te_57_15 rfl rfl rfl rfl rfl (show E 2 mem from HE (by omega))
  · replace q1 : ¬ ((o : Int) < 0) := q1
    refine Tx.iload_n hC te_57_4 rfl ?_
    refine Tx.aload_n hC te_57_5 rfl ?_
    refine Tx.getR hC te_57_6 rfl rfl rfl ?_
    refine Tx.getI hC te_57_9 rfl rfl rfl (fun v2 v2e v2i => ?_)
    unfold InI at v2i
    refine Tx.icmp hC (t := 26) te_57_12 (by decide) (fun q3 => ?_) (fun q3 => ?_)
    · replace q3 : (o : Int) < v2 := q3
      exact Tx.vret hC te_57_26 rfl (show K mem from H (by omega))
    · replace q3 : ¬ ((o : Int) < v2) := q3
      exact Tx.thr hC te_57_15 rfl rfl rfl rfl rfl (show E 2 mem from HE (by omega))
theorem f_63n {S : Nat × (Nat → Int32)} {n : Nat} {mem : MM} {K : MM → Prop} {E : Nat → MM → Prop} {o : Int} (H : 0 ≤ o ∧ o < 3 → K mem) (HE : ¬ (0 ≤ o ∧ o < 3) → E 2 mem) : CQV (Ex S (n + 1)) 63 [.inr 0, .inl o] mem K E := by
  refine CY.of (k := 0) mt_63 rfl rfl (fun hv => ?_)
  have hC := Ex.mono S n
  have ii_o : InI o := hv (.inl o) (by simp)
  unfold InI at ii_o
  clear hv
  show Tx (Ex S n) S M_63 (kV K E) 0 0 0 [some (.inr 0), some (.inl o)] [] mem
  refine Tx.iload_n hC te_63_0 rfl ?_
  refine Tx.ifc hC (t := 9) te_63_1 (by decide) (fun q1 => ?_) (fun q1 => ?_)
  · replace q1 : (o : Int) < 0 := q1
    exact Tx.thr hC te_63_9 rfl rfl rfl rfl rfl (show E 2 mem from HE (by omega))
  · replace q1 : ¬ ((o : Int) < 0) := q1
    refine Tx.iload_n hC te_63_4 rfl ?_
    refine Tx.iconst hC te_63_5 rfl ?_
    refine Tx.icmp hC (t := 20) te_63_6 (by decide) (fun q2 => ?_) (fun q2 => ?_)
    · replace q2 : (o : Int) < 3 := q2
      exact Tx.vret hC te_63_20 rfl (show K mem from H (by omega))
    · replace q2 : ¬ ((o : Int) < 3) := q2
      exact Tx.thr hC te_63_9 rfl rfl rfl rfl rfl (show E 2 mem from HE (by omega))
theorem f_54x {S : Nat × (Nat → Int32)} {n : Nat} {mem : MM} {K : Int → MM → Prop} {E : Nat → MM → Prop} (hI : ClS mem) (H : 0 < mem 1 0 → ∀ r m', r = mem 1 0 - 1 → ClS m' → m' = upm (upm mem 1 0 (mem 1 0 - 1)) 0 11 1 → K r m') (HE1 : ¬ 0 < mem 1 0 → E 1 mem) : CQI (Ex S (n + 2)) 54 [.inr 0] mem K E := by
  refine CY.of (k := 0) mt_54 rfl rfl (fun hv => ?_)
  have hC := Ex.mono S (n + 1)
  clear hv
  have h8 := hI.1.b.1
  show Tx (Ex S (n + 1)) S M_54 (kI K E) 0 0 0 [some (.inr 0)] [] mem
  refine Tx.aload_n hC te_54_0 rfl ?_
  refine Tx.getR hC te_54_1 rfl rfl rfl ?_
  refine Tx.getI hC te_54_4 rfl rfl rfl (fun v1 v1e v1i => ?_)
  unfold InI at v1i
  first | rw [upm_ne (by omega), upm_eq] at v1e | skip
  refine Tx.ifc hC (t := 20) te_54_7 (by decide) (fun q3 => ?_) (fun q3 => ?_)
  · replace q3 : ¬ (v1 : Int) = 0 := q3
    refine Tx.aload_n hC te_54_20 rfl ?_
    refine Tx.getR hC te_54_21 rfl rfl rfl ?_
    refine Tx.dup hC te_54_24 ?_
    refine Tx.getI hC te_54_25 rfl rfl rfl (fun v4 v4e v4i => ?_)
    unfold InI at v4i
    first | rw [upm_ne (by omega), upm_eq] at v4e | skip
    refine Tx.iconst hC te_54_28 rfl ?_
    refine Tx.isubW hC te_54_29 (fun z6 z6i z6e => ?_)
    unfold InI at z6i z6e
    first | replace z6e := z6e (by omega) | clear z6e
    refine Tx.putI hC te_54_30 rfl rfl rfl rfl ?_
    have ez : z6 = mem 1 0 - 1 := by omega
    rw [ez]
    have hb8 : BodyOK (upm mem 1 0 (mem 1 0 - 1)) := BodyOK.sz hI.1.b (by omega)
    have hf9 : Frm pBd mem (upm mem 1 0 (mem 1 0 - 1)) := Frm.up Frm.rf (by unfold pBd; omega)
    refine Tx.aload_n hC te_54_33 rfl ?_
    refine Tx.iconst hC te_54_34 rfl ?_
    refine Tx.putB hC te_54_35 rfl rfl rfl rfl (by omega) ?_
    have hb11 : BodyOK (upm (upm mem 1 0 (mem 1 0 - 1)) 0 11 1) := BodyOK.up hb8 (by omega)
    have hf12 : Frm pBd mem (upm (upm mem 1 0 (mem 1 0 - 1)) 0 11 1) := Frm.up hf9 (by unfold pBd; omega)
    have hC_13 : ClS (upm (upm mem 1 0 (mem 1 0 - 1)) 0 11 1) := ClS.bd hI hf12 hb11 upm_eq
    refine Tx.aload_n hC te_54_38 rfl ?_
    refine Tx.getR hC te_54_39 rfl rfl rfl ?_
    refine Tx.getI hC te_54_42 rfl rfl rfl (fun v14 v14e v14i => ?_)
    unfold InI at v14i
    first | rw [upm_ne (by omega), upm_eq] at v14e | skip
    exact Tx.ireturn hC te_54_45 rfl (fun hr => show K v14 (upm (upm mem 1 0 (mem 1 0 - 1)) 0 11 1) from H (by omega) _ _ (by omega) hC_13 rfl)
  · replace q3 : ¬ (¬ (v1 : Int) = 0) := q3
    exact Tx.thr hC te_54_10 rfl rfl rfl rfl rfl (show E 1 mem from HE1 (by omega))
theorem f_56x {S : Nat × (Nat → Int32)} {n : Nat} {mem : MM} {K : Int → MM → Prop} {E : Nat → MM → Prop} (hI : ClS mem) {p0 p1 : Int} (H : 0 ≤ p0 ∧ p0 < mem 1 0 → -9999 ≤ p1 ∧ p1 ≤ 9999 → ∀ r m', r = mem 4 p0.toNat → ClS m' → m' = upm mem 4 p0.toNat p1 → K r m') (HE2 : ¬ (0 ≤ p0 ∧ p0 < mem 1 0) → E 2 mem) (HE0 : 0 ≤ p0 ∧ p0 < mem 1 0 → ¬ (-9999 ≤ p1 ∧ p1 ≤ 9999) → E 0 mem) : CQI (Ex S (n + 2)) 56 [.inr 0, .inl p0, .inl p1] mem K E := by
  refine CY.of (k := 1) mt_56 rfl rfl (fun hv => ?_)
  have hC := Ex.mono S (n + 1)
  have ii_p0 : InI p0 := hv (.inl p0) (by simp)
  unfold InI at ii_p0
  have ii_p1 : InI p1 := hv (.inl p1) (by simp)
  unfold InI at ii_p1
  clear hv
  have h8 := hI.1.b.1
  show Tx (Ex S (n + 1)) S M_56 (kI K E) 0 0 0 [some (.inr 0), some (.inl p0), some (.inl p1), none] [] mem
  refine Tx.aload_n hC te_56_0 rfl ?_
  refine Tx.iload_n hC te_56_1 rfl ?_
  refine Tx.virtV hC te_56_2 mt_57 (args := [.inr 0, .inl p0]) (rest := []) (c' := 1) (s' := 6) rfl rfl rfl rfl rfl rfl rfl rfl rfl rfl ?_
  refine f_57n (fun r1a => ?_) (fun r1n => HE2 r1n)
  refine Tx.iload_n hC te_56_5 rfl ?_
  refine Tx.sipush hC te_56_6 rfl rfl ?_
  refine Tx.icmp hC (t := 19) te_56_9 (by decide) (fun q4 => ?_) (fun q4 => ?_)
  · replace q4 : (p1 : Int) < (-9999) := q4
    exact Tx.thr hC te_56_19 rfl rfl rfl rfl rfl (show E 0 mem from HE0 (by omega) (by omega))
  · replace q4 : ¬ ((p1 : Int) < (-9999)) := q4
    refine Tx.iload_n hC te_56_12 rfl ?_
    refine Tx.sipush hC te_56_13 rfl rfl ?_
    refine Tx.icmp hC (t := 29) te_56_16 (by decide) (fun q5 => ?_) (fun q5 => ?_)
    · replace q5 : (p1 : Int) ≤ 9999 := q5
      refine Tx.aload_n hC te_56_29 rfl ?_
      refine Tx.getR hC te_56_30 rfl rfl rfl ?_
      refine Tx.getR hC te_56_33 rfl rfl rfl ?_
      refine Tx.iload_n hC te_56_36 rfl ?_
      refine Tx.iald hC te_56_37 rfl (by omega) (fun v6 v6e v6i => ?_)
      unfold InI at v6i
      refine Tx.istore_n hC te_56_38 rfl ?_
      refine Tx.aload_n hC te_56_39 rfl ?_
      refine Tx.getR hC te_56_40 rfl rfl rfl ?_
      refine Tx.getR hC te_56_43 rfl rfl rfl ?_
      refine Tx.iload_n hC te_56_46 rfl ?_
      refine Tx.iload_n hC te_56_47 rfl ?_
      refine Tx.iast hC te_56_48 rfl (by omega) ?_
      have hC_10 : ClS (upm mem 4 (Int.toNat p0) p1) := ClS.fi hI (up1F (by unfold p4f; omega))
      refine Tx.iload_n hC te_56_49 rfl ?_
      exact Tx.ireturn hC te_56_50 rfl (fun hr => show K v6 (upm mem 4 (Int.toNat p0) p1) from H (by omega) (by omega) _ _ (by assumption) hC_10 rfl)
    · replace q5 : ¬ ((p1 : Int) ≤ 9999) := q5
      exact Tx.thr hC te_56_19 rfl rfl rfl rfl rfl (show E 0 mem from HE0 (by omega) (by omega))
theorem f_62x {S : Nat × (Nat → Int32)} {n : Nat} {mem : MM} {K : Int → MM → Prop} {E : Nat → MM → Prop} (hI : ClS mem) {p0 p1 : Int} (H : 0 ≤ p0 ∧ p0 < 3 → 1 ≤ p1 ∧ p1 ≤ 3 → ∀ r m', r = mem 8 p0.toNat → ClS m' → m' = upm (upm mem 8 p0.toNat p1) 0 11 1 → K r m') (HE2 : ¬ (0 ≤ p0 ∧ p0 < 3) → E 2 mem) (HE0 : 0 ≤ p0 ∧ p0 < 3 → ¬ (1 ≤ p1 ∧ p1 ≤ 3) → E 0 mem) : CQI (Ex S (n + 2)) 62 [.inr 0, .inl p0, .inl p1] mem K E := by
  refine CY.of (k := 1) mt_62 rfl rfl (fun hv => ?_)
  have hC := Ex.mono S (n + 1)
  have ii_p0 : InI p0 := hv (.inl p0) (by simp)
  unfold InI at ii_p0
  have ii_p1 : InI p1 := hv (.inl p1) (by simp)
  unfold InI at ii_p1
  clear hv
  have h8 := hI.1.b.1
  show Tx (Ex S (n + 1)) S M_62 (kI K E) 0 0 0 [some (.inr 0), some (.inl p0), some (.inl p1), none] [] mem
  refine Tx.aload_n hC te_62_0 rfl ?_
  refine Tx.iload_n hC te_62_1 rfl ?_
  refine Tx.virtV hC te_62_2 mt_63 (args := [.inr 0, .inl p0]) (rest := []) (c' := 1) (s' := 6) rfl rfl rfl rfl rfl rfl rfl rfl rfl rfl ?_
  refine f_63n (fun r1a => ?_) (fun r1n => HE2 r1n)
  refine Tx.iload_n hC te_62_5 rfl ?_
  refine Tx.iconst hC te_62_6 rfl ?_
  refine Tx.icmp hC (t := 15) te_62_7 (by decide) (fun q4 => ?_) (fun q4 => ?_)
  · replace q4 : (p1 : Int) < 1 := q4
    exact Tx.thr hC te_62_15 rfl rfl rfl rfl rfl (show E 0 mem from HE0 (by omega) (by omega))
  · replace q4 : ¬ ((p1 : Int) < 1) := q4
    refine Tx.iload_n hC te_62_10 rfl ?_
    refine Tx.iconst hC te_62_11 rfl ?_
    refine Tx.icmp hC (t := 25) te_62_12 (by decide) (fun q5 => ?_) (fun q5 => ?_)
    · replace q5 : (p1 : Int) ≤ 3 := q5
      refine Tx.aload_n hC te_62_25 rfl ?_
      refine Tx.getR hC te_62_26 rfl rfl rfl ?_
      refine Tx.getR hC te_62_29 rfl rfl rfl ?_
      refine Tx.iload_n hC te_62_32 rfl ?_
      refine Tx.iald hC te_62_33 rfl (by omega) (fun v6 v6e v6i => ?_)
      unfold InI at v6i
      refine Tx.istore_n hC te_62_34 rfl ?_
      refine Tx.aload_n hC te_62_35 rfl ?_
      refine Tx.getR hC te_62_36 rfl rfl rfl ?_
      refine Tx.getR hC te_62_39 rfl rfl rfl ?_
      refine Tx.iload_n hC te_62_42 rfl ?_
      refine Tx.iload_n hC te_62_43 rfl ?_
      refine Tx.iast hC te_62_44 rfl (by omega) ?_
      have hb8 : BodyOK (upm mem 8 (Int.toNat p0) p1) := BodyOK.up hI.1.b (by omega)
      have hf9 : Frm pBd mem (upm mem 8 (Int.toNat p0) p1) := Frm.up Frm.rf (by unfold pBd; omega)
      refine Tx.aload_n hC te_62_45 rfl ?_
      refine Tx.iconst hC te_62_46 rfl ?_
      refine Tx.putB hC te_62_47 rfl rfl rfl rfl (by omega) ?_
      have hb11 : BodyOK (upm (upm mem 8 (Int.toNat p0) p1) 0 11 1) := BodyOK.up hb8 (by omega)
      have hf12 : Frm pBd mem (upm (upm mem 8 (Int.toNat p0) p1) 0 11 1) := Frm.up hf9 (by unfold pBd; omega)
      have hC_13 : ClS (upm (upm mem 8 (Int.toNat p0) p1) 0 11 1) := ClS.bd hI hf12 hb11 upm_eq
      refine Tx.iload_n hC te_62_50 rfl ?_
      exact Tx.ireturn hC te_62_51 rfl (fun hr => show K v6 (upm (upm mem 8 (Int.toNat p0) p1) 0 11 1) from H (by omega) (by omega) _ _ (by assumption) hC_13 rfl)
    · replace q5 : ¬ ((p1 : Int) ≤ 3) := q5
      exact Tx.thr hC te_62_15 rfl rfl rfl rfl rfl (show E 0 mem from HE0 (by omega) (by omega))
theorem f_59x {S : Nat × (Nat → Int32)} {n : Nat} {mem : MM} {K : MM → Prop} {E : Nat → MM → Prop} (hI : ClS mem) {p0 p1 p2 p3 : Int} (H : 0 ≤ p0 ∧ p0 < 6 → (0 ≤ p1 ∧ p1 < 3) ∧ (1 ≤ p2 ∧ p2 ≤ 6) ∧ 1 ≤ p3 ∧ p3 ≤ 15 → ∀ m', ClS m' → m' = upm (upm (upm (upm mem 5 p0.toNat p1) 6 p0.toNat p2) 7 p0.toNat p3) 0 11 1 → K m') (HE2 : ¬ (0 ≤ p0 ∧ p0 < 6) → E 2 mem) (HE0 : 0 ≤ p0 ∧ p0 < 6 → ¬ ((0 ≤ p1 ∧ p1 < 3) ∧ (1 ≤ p2 ∧ p2 ≤ 6) ∧ 1 ≤ p3 ∧ p3 ≤ 15) → E 0 mem) : CQV (Ex S (n + 2)) 59 [.inr 0, .inl p0, .inl p1, .inl p2, .inl p3] mem K E := by
  refine CY.of (k := 1) mt_59 rfl rfl (fun hv => ?_)
  have hC := Ex.mono S (n + 1)
  have ii_p0 : InI p0 := hv (.inl p0) (by simp)
  unfold InI at ii_p0
  have ii_p1 : InI p1 := hv (.inl p1) (by simp)
  unfold InI at ii_p1
  have ii_p2 : InI p2 := hv (.inl p2) (by simp)
  unfold InI at ii_p2
  have ii_p3 : InI p3 := hv (.inl p3) (by simp)
  unfold InI at ii_p3
  clear hv
  have h8 := hI.1.b.1
  show Tx (Ex S (n + 1)) S M_59 (kV K E) 0 0 0 [some (.inr 0), some (.inl p0), some (.inl p1), some (.inl p2), some (.inl p3), none] [] mem
  refine Tx.aload_n hC te_59_0 rfl ?_
  refine Tx.iload_n hC te_59_1 rfl ?_
  refine Tx.virtV hC te_59_2 mt_60 (args := [.inr 0, .inl p0]) (rest := []) (c' := 1) (s' := 6) rfl rfl rfl rfl rfl rfl rfl rfl rfl rfl ?_
  refine f_60n (fun r1a r1b => ?_) (fun r1n => HE2 r1n)
  refine Tx.iload_n hC te_59_5 rfl ?_
  refine Tx.ifc hC (t := 29) te_59_6 (by decide) (fun q4 => ?_) (fun q4 => ?_)
  · replace q4 : (p1 : Int) < 0 := q4
    refine Tx.iconst hC te_59_29 rfl ?_
    refine Tx.istore hC te_59_30 rfl ?_
    refine Tx.iload hC te_59_32 rfl ?_
    refine Tx.ifc hC (t := 50) te_59_34 (by decide) (fun q => ?_) (fun q => absurd (show (0 : Int) = 0 by decide) q)
    exact Tx.thr hC te_59_50 rfl rfl rfl rfl rfl (show E 0 mem from HE0 (by omega) (by omega))
  · replace q4 : ¬ ((p1 : Int) < 0) := q4
    refine Tx.iload_n hC te_59_9 rfl ?_
    refine Tx.iconst hC te_59_10 rfl ?_
    refine Tx.icmp hC (t := 29) te_59_11 (by decide) (fun q5 => ?_) (fun q5 => ?_)
    · replace q5 : 3 ≤ (p1 : Int) := q5
      refine Tx.iconst hC te_59_29 rfl ?_
      refine Tx.istore hC te_59_30 rfl ?_
      refine Tx.iload hC te_59_32 rfl ?_
      refine Tx.ifc hC (t := 50) te_59_34 (by decide) (fun q => ?_) (fun q => absurd (show (0 : Int) = 0 by decide) q)
      exact Tx.thr hC te_59_50 rfl rfl rfl rfl rfl (show E 0 mem from HE0 (by omega) (by omega))
    · replace q5 : ¬ (3 ≤ (p1 : Int)) := q5
      refine Tx.iload_n hC te_59_14 rfl ?_
      refine Tx.iconst hC te_59_15 rfl ?_
      refine Tx.icmp hC (t := 29) te_59_16 (by decide) (fun q6 => ?_) (fun q6 => ?_)
      · replace q6 : (p2 : Int) < 1 := q6
        refine Tx.iconst hC te_59_29 rfl ?_
        refine Tx.istore hC te_59_30 rfl ?_
        refine Tx.iload hC te_59_32 rfl ?_
        refine Tx.ifc hC (t := 50) te_59_34 (by decide) (fun q => ?_) (fun q => absurd (show (0 : Int) = 0 by decide) q)
        exact Tx.thr hC te_59_50 rfl rfl rfl rfl rfl (show E 0 mem from HE0 (by omega) (by omega))
      · replace q6 : ¬ ((p2 : Int) < 1) := q6
        refine Tx.iload_n hC te_59_19 rfl ?_
        refine Tx.bipush hC te_59_20 rfl rfl ?_
        refine Tx.icmp hC (t := 29) te_59_22 (by decide) (fun q7 => ?_) (fun q7 => ?_)
        · replace q7 : 6 < (p2 : Int) := q7
          refine Tx.iconst hC te_59_29 rfl ?_
          refine Tx.istore hC te_59_30 rfl ?_
          refine Tx.iload hC te_59_32 rfl ?_
          refine Tx.ifc hC (t := 50) te_59_34 (by decide) (fun q => ?_) (fun q => absurd (show (0 : Int) = 0 by decide) q)
          exact Tx.thr hC te_59_50 rfl rfl rfl rfl rfl (show E 0 mem from HE0 (by omega) (by omega))
        · replace q7 : ¬ (6 < (p2 : Int)) := q7
          refine Tx.iconst hC te_59_25 rfl ?_
          refine Tx.goto hC (t := 30) te_59_26 (by decide) ?_
          refine Tx.istore hC te_59_30 rfl ?_
          refine Tx.iload hC te_59_32 rfl ?_
          refine Tx.ifc hC (t := 50) te_59_34 (by decide) (fun q => absurd q (show ¬ ((1 : Int) = 0) by decide)) (fun q => ?_)
          refine Tx.iload hC te_59_37 rfl ?_
          refine Tx.iconst hC te_59_39 rfl ?_
          refine Tx.icmp hC (t := 50) te_59_40 (by decide) (fun q8 => ?_) (fun q8 => ?_)
          · replace q8 : (p3 : Int) < 1 := q8
            exact Tx.thr hC te_59_50 rfl rfl rfl rfl rfl (show E 0 mem from HE0 (by omega) (by omega))
          · replace q8 : ¬ ((p3 : Int) < 1) := q8
            refine Tx.iload hC te_59_43 rfl ?_
            refine Tx.bipush hC te_59_45 rfl rfl ?_
            refine Tx.icmp hC (t := 60) te_59_47 (by decide) (fun q9 => ?_) (fun q9 => ?_)
            · replace q9 : (p3 : Int) ≤ 15 := q9
              refine Tx.aload_n hC te_59_60 rfl ?_
              refine Tx.getR hC te_59_61 rfl rfl rfl ?_
              refine Tx.getR hC te_59_64 rfl rfl rfl ?_
              refine Tx.iload_n hC te_59_67 rfl ?_
              refine Tx.iload_n hC te_59_68 rfl ?_
              refine Tx.iast hC te_59_69 rfl (by omega) ?_
              have hb11 : BodyOK (upm mem 5 (Int.toNat p0) p1) := BodyOK.up hI.1.b (by omega)
              have hf12 : Frm pBd mem (upm mem 5 (Int.toNat p0) p1) := Frm.up Frm.rf (by unfold pBd; omega)
              refine Tx.aload_n hC te_59_70 rfl ?_
              refine Tx.getR hC te_59_71 rfl rfl rfl ?_
              refine Tx.getR hC te_59_74 rfl rfl rfl ?_
              refine Tx.iload_n hC te_59_77 rfl ?_
              refine Tx.iload_n hC te_59_78 rfl ?_
              refine Tx.iast hC te_59_79 rfl (by omega) ?_
              have hb14 : BodyOK (upm (upm mem 5 (Int.toNat p0) p1) 6 (Int.toNat p0) p2) := BodyOK.up hb11 (by omega)
              have hf15 : Frm pBd mem (upm (upm mem 5 (Int.toNat p0) p1) 6 (Int.toNat p0) p2) := Frm.up hf12 (by unfold pBd; omega)
              refine Tx.aload_n hC te_59_80 rfl ?_
              refine Tx.getR hC te_59_81 rfl rfl rfl ?_
              refine Tx.getR hC te_59_84 rfl rfl rfl ?_
              refine Tx.iload_n hC te_59_87 rfl ?_
              refine Tx.iload hC te_59_88 rfl ?_
              refine Tx.iast hC te_59_90 rfl (by omega) ?_
              have hb17 : BodyOK (upm (upm (upm mem 5 (Int.toNat p0) p1) 6 (Int.toNat p0) p2) 7 (Int.toNat p0) p3) := BodyOK.up hb14 (by omega)
              have hf18 : Frm pBd mem (upm (upm (upm mem 5 (Int.toNat p0) p1) 6 (Int.toNat p0) p2) 7 (Int.toNat p0) p3) := Frm.up hf15 (by unfold pBd; omega)
              refine Tx.aload_n hC te_59_91 rfl ?_
              refine Tx.iconst hC te_59_92 rfl ?_
              refine Tx.putB hC te_59_93 rfl rfl rfl rfl (by omega) ?_
              have hb20 : BodyOK (upm (upm (upm (upm mem 5 (Int.toNat p0) p1) 6 (Int.toNat p0) p2) 7 (Int.toNat p0) p3) 0 11 1) := BodyOK.up hb17 (by omega)
              have hf21 : Frm pBd mem (upm (upm (upm (upm mem 5 (Int.toNat p0) p1) 6 (Int.toNat p0) p2) 7 (Int.toNat p0) p3) 0 11 1) := Frm.up hf18 (by unfold pBd; omega)
              have hC_22 : ClS (upm (upm (upm (upm mem 5 (Int.toNat p0) p1) 6 (Int.toNat p0) p2) 7 (Int.toNat p0) p3) 0 11 1) := ClS.bd hI hf21 hb20 upm_eq
              exact Tx.vret hC te_59_96 rfl (show K (upm (upm (upm (upm mem 5 (Int.toNat p0) p1) 6 (Int.toNat p0) p2) 7 (Int.toNat p0) p3) 0 11 1) from H (by omega) (by omega) _ hC_22 rfl)
            · replace q9 : ¬ ((p3 : Int) ≤ 15) := q9
              exact Tx.thr hC te_59_50 rfl rfl rfl rfl rfl (show E 0 mem from HE0 (by omega) (by omega))
theorem f_229x {S : Nat × (Nat → Int32)} {n : Nat} {mem : MM} {K : Int → MM → Prop} {E : Nat → MM → Prop} {k a b c e : Int} (hs : 0 ≤ mem 143 1 ∧ mem 143 1 < 8) (H : ∀ r m', r = mem 143 1 → m' = addM mem (mem 143 1).toNat k a b c e → K r m') : CQI (Ex S (n + 1)) 229 [.inr 143, .inl k, .inl a, .inl b, .inl c, .inl e] mem K E := by
  refine CY.of (k := 0) mt_229 rfl rfl (fun hv => ?_)
  have hC := Ex.mono S n
  have ii_k : InI k := hv (.inl k) (by simp)
  unfold InI at ii_k
  have ii_a : InI a := hv (.inl a) (by simp)
  unfold InI at ii_a
  have ii_b : InI b := hv (.inl b) (by simp)
  unfold InI at ii_b
  have ii_c : InI c := hv (.inl c) (by simp)
  unfold InI at ii_c
  have ii_e : InI e := hv (.inl e) (by simp)
  unfold InI at ii_e
  clear hv
  obtain ⟨nn, hn⟩ : ∃ nn : Nat, nn = (mem 143 1).toNat := ⟨_, rfl⟩
  rw [← hn] at H
  show Tx (Ex S n) S M_229 (kI K E) 0 0 0 [some (.inr 143), some (.inl k), some (.inl a), some (.inl b), some (.inl c), some (.inl e)] [] mem
  refine Tx.aload_n hC te_229_0 rfl ?_
  refine Tx.getR hC te_229_1 rfl rfl rfl ?_
  refine Tx.aload_n hC te_229_4 rfl ?_
  refine Tx.getI hC te_229_5 rfl rfl rfl (fun v1 v1e v1i => ?_)
  unfold InI at v1i
  refine Tx.iload_n hC te_229_8 rfl ?_
  refine Tx.iast hC te_229_9 rfl (by omega) ?_
  rw [show (Int.toNat v1) = nn by omega]
  have hF3 : Frm pAd mem (upm mem 144 nn k) := Frm.up Frm.rf (by unfold pAd; omega)
  refine Tx.aload_n hC te_229_10 rfl ?_
  refine Tx.getR hC te_229_11 rfl rfl rfl ?_
  refine Tx.aload_n hC te_229_14 rfl ?_
  refine Tx.getI hC te_229_15 rfl rfl rfl (fun v4 v4e v4i => ?_)
  unfold InI at v4i
  rw [hF3 143 _ (by unfold pAd; omega)] at v4e
  refine Tx.iload_n hC te_229_18 rfl ?_
  refine Tx.iast hC te_229_19 rfl (by omega) ?_
  rw [show (Int.toNat v4) = nn by omega]
  have hF6 : Frm pAd mem (upm (upm mem 144 nn k) 145 nn a) := Frm.up hF3 (by unfold pAd; omega)
  refine Tx.aload_n hC te_229_20 rfl ?_
  refine Tx.getR hC te_229_21 rfl rfl rfl ?_
  refine Tx.aload_n hC te_229_24 rfl ?_
  refine Tx.getI hC te_229_25 rfl rfl rfl (fun v7 v7e v7i => ?_)
  unfold InI at v7i
  rw [hF6 143 _ (by unfold pAd; omega)] at v7e
  refine Tx.iload_n hC te_229_28 rfl ?_
  refine Tx.iast hC te_229_29 rfl (by omega) ?_
  rw [show (Int.toNat v7) = nn by omega]
  have hF9 : Frm pAd mem (upm (upm (upm mem 144 nn k) 145 nn a) 146 nn b) := Frm.up hF6 (by unfold pAd; omega)
  refine Tx.aload_n hC te_229_30 rfl ?_
  refine Tx.getR hC te_229_31 rfl rfl rfl ?_
  refine Tx.aload_n hC te_229_34 rfl ?_
  refine Tx.getI hC te_229_35 rfl rfl rfl (fun v10 v10e v10i => ?_)
  unfold InI at v10i
  rw [hF9 143 _ (by unfold pAd; omega)] at v10e
  refine Tx.iload hC te_229_38 rfl ?_
  refine Tx.iast hC te_229_40 rfl (by omega) ?_
  rw [show (Int.toNat v10) = nn by omega]
  have hF12 : Frm pAd mem (upm (upm (upm (upm mem 144 nn k) 145 nn a) 146 nn b) 147 nn c) := Frm.up hF9 (by unfold pAd; omega)
  refine Tx.aload_n hC te_229_41 rfl ?_
  refine Tx.getR hC te_229_42 rfl rfl rfl ?_
  refine Tx.aload_n hC te_229_45 rfl ?_
  refine Tx.getI hC te_229_46 rfl rfl rfl (fun v13 v13e v13i => ?_)
  unfold InI at v13i
  rw [hF12 143 _ (by unfold pAd; omega)] at v13e
  refine Tx.iload hC te_229_49 rfl ?_
  refine Tx.iast hC te_229_51 rfl (by omega) ?_
  rw [show (Int.toNat v13) = nn by omega]
  have hF15 : Frm pAd mem (upm (upm (upm (upm (upm mem 144 nn k) 145 nn a) 146 nn b) 147 nn c) 148 nn e) := Frm.up hF12 (by unfold pAd; omega)
  refine Tx.aload_n hC te_229_52 rfl ?_
  refine Tx.getR hC te_229_53 rfl rfl rfl ?_
  refine Tx.aload_n hC te_229_56 rfl ?_
  refine Tx.getI hC te_229_57 rfl rfl rfl (fun v16 v16e v16i => ?_)
  unfold InI at v16i
  rw [hF15 143 _ (by unfold pAd; omega)] at v16e
  refine Tx.iconst hC te_229_60 rfl ?_
  refine Tx.iast hC te_229_61 rfl (by omega) ?_
  rw [show (Int.toNat v16) = nn by omega]
  have hF18 : Frm pAd mem (upm (upm (upm (upm (upm (upm mem 144 nn k) 145 nn a) 146 nn b) 147 nn c) 148 nn e) 149 nn 0) := Frm.up hF15 (by unfold pAd; omega)
  refine Tx.aload_n hC te_229_62 rfl ?_
  refine Tx.dup hC te_229_63 ?_
  refine Tx.getI hC te_229_64 rfl rfl rfl (fun v19 v19e v19i => ?_)
  unfold InI at v19i
  rw [hF18 143 _ (by unfold pAd; omega)] at v19e
  refine Tx.iconst hC te_229_67 rfl ?_
  refine Tx.iaddW hC te_229_68 (fun z20 z20i z20e => ?_)
  unfold InI at z20i z20e
  first | replace z20e := z20e (by omega) | clear z20e
  refine Tx.putI hC te_229_69 rfl rfl rfl rfl ?_
  have ez : z20 = mem 143 1 + 1 := by omega
  rw [ez]
  refine Tx.aload_n hC te_229_72 rfl ?_
  refine Tx.getI hC te_229_73 rfl rfl rfl (fun v22 v22e v22i => ?_)
  unfold InI at v22i
  rw [upm_eq] at v22e
  refine Tx.iconst hC te_229_76 rfl ?_
  refine Tx.isubW hC te_229_77 (fun z23 z23i z23e => ?_)
  unfold InI at z23i z23e
  first | replace z23e := z23e (by omega) | clear z23e
  exact Tx.ireturn hC te_229_78 rfl (fun hr => show K z23 (upm (upm (upm (upm (upm (upm (upm mem 144 nn k) 145 nn a) 146 nn b) 147 nn c) 148 nn e) 149 nn 0) 143 1 (mem 143 1 + 1)) from H _ _ (by omega) rfl)
theorem f_226x {S : Nat × (Nat → Int32)} {n : Nat} {mem : MM} {K : Int → MM → Prop} {E : Nat → MM → Prop} (h8 : 0 ≤ mem 143 1 ∧ mem 143 1 ≤ 8) {p0 p1 p2 p3 p4 : Int} (H0 : (0 ≤ p0 ∧ p0 < 4) ∧ srcX p1 p2 ∧ srcX p3 p4 → mem 143 1 < 8 → ∀ r m', r = mem 143 1 → m' = addM (upm mem 143 0 0) (mem 143 1).toNat p0 p1 p2 p3 p4 → K r m') (H1 : ¬ ((0 ≤ p0 ∧ p0 < 4) ∧ srcX p1 p2 ∧ srcX p3 p4) → K 0 (upm mem 143 0 1)) (H2 : (0 ≤ p0 ∧ p0 < 4) ∧ srcX p1 p2 ∧ srcX p3 p4 → ¬ mem 143 1 < 8 → K 0 (upm mem 143 0 2)) : CQI (Ex S (n + 3)) 226 [.inr 143, .inl p0, .inl p1, .inl p2, .inl p3, .inl p4] mem K E := by
  refine CY.of (k := 0) mt_226 rfl rfl (fun hv => ?_)
  have hC := Ex.mono S (n + 2)
  have ii_p0 : InI p0 := hv (.inl p0) (by simp)
  unfold InI at ii_p0
  have ii_p1 : InI p1 := hv (.inl p1) (by simp)
  unfold InI at ii_p1
  have ii_p2 : InI p2 := hv (.inl p2) (by simp)
  unfold InI at ii_p2
  have ii_p3 : InI p3 := hv (.inl p3) (by simp)
  unfold InI at ii_p3
  have ii_p4 : InI p4 := hv (.inl p4) (by simp)
  unfold InI at ii_p4
  clear hv
  show Tx (Ex S (n + 2)) S M_226 (kI K E) 0 0 0 [some (.inr 143), some (.inl p0), some (.inl p1), some (.inl p2), some (.inl p3), some (.inl p4)] [] mem
  refine Tx.aload_n hC te_226_0 rfl ?_
  refine Tx.iload_n hC te_226_1 rfl ?_
  refine Tx.iconst hC te_226_2 rfl ?_
  refine Tx.iconst hC te_226_3 rfl ?_
  refine Tx.statI hC te_226_4 (by decide) mt_227 (args := [.inl p0, .inl 0, .inl 3]) (rest := [.inr 143]) (c' := 0) (s' := 0) rfl rfl rfl rfl rfl rfl rfl ?_
  refine CWI.q hC (f_227 (fun r1a r1b r1i => ?_) (fun r1q r1i => ?_))
  · skip
    refine Tx.ifc hC (t := 28) te_226_7 (by decide) (fun q => absurd q (show ¬ ((1 : Int) = 0) by decide)) (fun q => ?_)
    refine Tx.iload_n hC te_226_10 rfl ?_
    refine Tx.iload_n hC te_226_11 rfl ?_
    refine Tx.statI hC te_226_12 (by decide) mt_228 (args := [.inl p1, .inl p2]) (rest := [.inr 143]) (c' := 0) (s' := 0) rfl rfl rfl rfl rfl rfl rfl ?_
    refine f_228x (fun r4s r4i => ?_) (fun r4s r4i => ?_)
    · skip
      refine Tx.ifc hC (t := 28) te_226_15 (by decide) (fun q => absurd q (show ¬ ((1 : Int) = 0) by decide)) (fun q => ?_)
      refine Tx.iload hC te_226_18 rfl ?_
      refine Tx.iload hC te_226_20 rfl ?_
      refine Tx.statI hC te_226_22 (by decide) mt_228 (args := [.inl p3, .inl p4]) (rest := [.inr 143]) (c' := 0) (s' := 0) rfl rfl rfl rfl rfl rfl rfl ?_
      refine f_228x (fun r7s r7i => ?_) (fun r7s r7i => ?_)
      · skip
        refine Tx.ifc hC (t := 32) te_226_25 (by decide) (fun q => ?_) (fun q => absurd (show ¬ (1 : Int) = 0 by decide) q)
        refine Tx.aload_n hC te_226_32 rfl ?_
        refine Tx.getI hC te_226_33 rfl rfl rfl (fun v10 v10e v10i => ?_)
        unfold InI at v10i
        refine Tx.bipush hC te_226_36 rfl rfl ?_
        refine Tx.icmp hC (t := 45) te_226_38 (by decide) (fun q11 => ?_) (fun q11 => ?_)
        · replace q11 : ¬ (v10 : Int) = 8 := q11
          refine Tx.iconst hC te_226_45 rfl ?_
          refine Tx.putI hC te_226_46 rfl rfl rfl rfl ?_
          refine Tx.aload_n hC te_226_49 rfl ?_
          refine Tx.getI hC te_226_50 rfl rfl rfl (fun v13 v13e v13i => ?_)
          rw [upm_eq] at v13e
          subst v13e
          clear v13i
          refine Tx.ifc hC (t := 60) te_226_53 (by decide) (fun q => ?_) (fun q => absurd (show (0 : Int) ≤ 0 by decide) q)
          refine Tx.aload_n hC te_226_60 rfl ?_
          refine Tx.iload_n hC te_226_61 rfl ?_
          refine Tx.iload_n hC te_226_62 rfl ?_
          refine Tx.iload_n hC te_226_63 rfl ?_
          refine Tx.iload hC te_226_64 rfl ?_
          refine Tx.iload hC te_226_66 rfl ?_
          refine Tx.virtI hC te_226_68 mt_229 (args := [.inr 143, .inl p0, .inl p1, .inl p2, .inl p3, .inl p4]) (rest := []) (c' := 0) (s' := 0) rfl rfl rfl rfl rfl rfl rfl rfl rfl rfl ?_
          refine f_229x (by rw [upm_ne (by omega)]; omega) (fun r14 m15 r14e r14m r14i => ?_)
          rw [upm_ne (by omega)] at r14e r14m
          unfold InI at r14i
          exact Tx.ireturn hC te_226_71 rfl (fun hr => show K r14 m15 from H0 ⟨⟨by omega, by omega⟩, by assumption, by assumption⟩ (by omega) _ _ r14e r14m)
        · replace q11 : ¬ (¬ (v10 : Int) = 8) := q11
          refine Tx.iconst hC te_226_41 rfl ?_
          refine Tx.goto hC (t := 46) te_226_42 (by decide) ?_
          refine Tx.putI hC te_226_46 rfl rfl rfl rfl ?_
          refine Tx.aload_n hC te_226_49 rfl ?_
          refine Tx.getI hC te_226_50 rfl rfl rfl (fun v18 v18e v18i => ?_)
          rw [upm_eq] at v18e
          subst v18e
          clear v18i
          refine Tx.ifc hC (t := 60) te_226_53 (by decide) (fun q => absurd q (show ¬ ((2 : Int) ≤ 0) by decide)) (fun q => ?_)
          refine Tx.iconst hC te_226_56 rfl ?_
          refine Tx.goto hC (t := 71) te_226_57 (by decide) ?_
          exact Tx.ireturn hC te_226_71 rfl (fun hr => show K 0 (upm mem 143 0 2) from H2 ⟨⟨by omega, by omega⟩, by assumption, by assumption⟩ (by omega))
      · skip
        refine Tx.ifc hC (t := 32) te_226_25 (by decide) (fun q => absurd q (show ¬ (¬ (0 : Int) = 0) by decide)) (fun q => ?_)
        refine Tx.iconst hC te_226_28 rfl ?_
        refine Tx.goto hC (t := 46) te_226_29 (by decide) ?_
        refine Tx.putI hC te_226_46 rfl rfl rfl rfl ?_
        refine Tx.aload_n hC te_226_49 rfl ?_
        refine Tx.getI hC te_226_50 rfl rfl rfl (fun v20 v20e v20i => ?_)
        rw [upm_eq] at v20e
        subst v20e
        clear v20i
        refine Tx.ifc hC (t := 60) te_226_53 (by decide) (fun q => absurd q (show ¬ ((1 : Int) ≤ 0) by decide)) (fun q => ?_)
        refine Tx.iconst hC te_226_56 rfl ?_
        refine Tx.goto hC (t := 71) te_226_57 (by decide) ?_
        exact Tx.ireturn hC te_226_71 rfl (fun hr => show K 0 (upm mem 143 0 1) from H1 (by intro w; first | (have := w.1; omega) | omega | exact absurd w (by assumption) | exact absurd w.1 (by assumption) | exact absurd w.2 (by assumption) | exact absurd w.2.1 (by assumption) | exact absurd w.2.2 (by assumption)))
    · skip
      refine Tx.ifc hC (t := 28) te_226_15 (by decide) (fun q => ?_) (fun q => absurd (show (0 : Int) = 0 by decide) q)
      refine Tx.iconst hC te_226_28 rfl ?_
      refine Tx.goto hC (t := 46) te_226_29 (by decide) ?_
      refine Tx.putI hC te_226_46 rfl rfl rfl rfl ?_
      refine Tx.aload_n hC te_226_49 rfl ?_
      refine Tx.getI hC te_226_50 rfl rfl rfl (fun v22 v22e v22i => ?_)
      rw [upm_eq] at v22e
      subst v22e
      clear v22i
      refine Tx.ifc hC (t := 60) te_226_53 (by decide) (fun q => absurd q (show ¬ ((1 : Int) ≤ 0) by decide)) (fun q => ?_)
      refine Tx.iconst hC te_226_56 rfl ?_
      refine Tx.goto hC (t := 71) te_226_57 (by decide) ?_
      exact Tx.ireturn hC te_226_71 rfl (fun hr => show K 0 (upm mem 143 0 1) from H1 (by intro w; first | (have := w.1; omega) | omega | exact absurd w (by assumption) | exact absurd w.1 (by assumption) | exact absurd w.2 (by assumption) | exact absurd w.2.1 (by assumption) | exact absurd w.2.2 (by assumption)))
  · skip
    refine Tx.ifc hC (t := 28) te_226_7 (by decide) (fun q => ?_) (fun q => absurd (show (0 : Int) = 0 by decide) q)
    refine Tx.iconst hC te_226_28 rfl ?_
    refine Tx.goto hC (t := 46) te_226_29 (by decide) ?_
    refine Tx.putI hC te_226_46 rfl rfl rfl rfl ?_
    refine Tx.aload_n hC te_226_49 rfl ?_
    refine Tx.getI hC te_226_50 rfl rfl rfl (fun v24 v24e v24i => ?_)
    rw [upm_eq] at v24e
    subst v24e
    clear v24i
    refine Tx.ifc hC (t := 60) te_226_53 (by decide) (fun q => absurd q (show ¬ ((1 : Int) ≤ 0) by decide)) (fun q => ?_)
    refine Tx.iconst hC te_226_56 rfl ?_
    refine Tx.goto hC (t := 71) te_226_57 (by decide) ?_
    exact Tx.ireturn hC te_226_71 rfl (fun hr => show K 0 (upm mem 143 0 1) from H1 (by intro w; first | (have := w.1; omega) | omega | exact absurd w (by assumption) | exact absurd w.1 (by assumption) | exact absurd w.2 (by assumption) | exact absurd w.2.1 (by assumption) | exact absurd w.2.2 (by assumption)))
theorem f_230x {S : Nat × (Nat → Int32)} {n : Nat} {mem : MM} {K : Int → MM → Prop} {E : Nat → MM → Prop} (h8 : 0 ≤ mem 143 1 ∧ mem 143 1 ≤ 8) {p0 p1 : Int} (H0 : rowX p0 p1 → mem 143 1 < 8 → ∀ r m', r = mem 143 1 → m' = addM (upm mem 143 0 0) (mem 143 1).toNat 4 p0 p1 0 0 → K r m') (H1 : ¬ (rowX p0 p1) → K 0 (upm mem 143 0 1)) (H2 : rowX p0 p1 → ¬ mem 143 1 < 8 → K 0 (upm mem 143 0 2)) : CQI (Ex S (n + 3)) 230 [.inr 143, .inl p0, .inl p1] mem K E := by
  refine CY.of (k := 0) mt_230 rfl rfl (fun hv => ?_)
  have hC := Ex.mono S (n + 2)
  have ii_p0 : InI p0 := hv (.inl p0) (by simp)
  unfold InI at ii_p0
  have ii_p1 : InI p1 := hv (.inl p1) (by simp)
  unfold InI at ii_p1
  clear hv
  show Tx (Ex S (n + 2)) S M_230 (kI K E) 0 0 0 [some (.inr 143), some (.inl p0), some (.inl p1)] [] mem
  refine Tx.aload_n hC te_230_0 rfl ?_
  refine Tx.iload_n hC te_230_1 rfl ?_
  refine Tx.iload_n hC te_230_2 rfl ?_
  refine Tx.statI hC te_230_3 (by decide) mt_231 (args := [.inl p0, .inl p1]) (rest := [.inr 143]) (c' := 0) (s' := 0) rfl rfl rfl rfl rfl rfl rfl ?_
  refine f_231x (fun r1s r1i => ?_) (fun r1s r1i => ?_)
  · skip
    refine Tx.ifc hC (t := 13) te_230_6 (by decide) (fun q => ?_) (fun q => absurd (show ¬ (1 : Int) = 0 by decide) q)
    refine Tx.aload_n hC te_230_13 rfl ?_
    refine Tx.getI hC te_230_14 rfl rfl rfl (fun v4 v4e v4i => ?_)
    unfold InI at v4i
    refine Tx.bipush hC te_230_17 rfl rfl ?_
    refine Tx.icmp hC (t := 26) te_230_19 (by decide) (fun q5 => ?_) (fun q5 => ?_)
    · replace q5 : ¬ (v4 : Int) = 8 := q5
      refine Tx.iconst hC te_230_26 rfl ?_
      refine Tx.putI hC te_230_27 rfl rfl rfl rfl ?_
      refine Tx.aload_n hC te_230_30 rfl ?_
      refine Tx.getI hC te_230_31 rfl rfl rfl (fun v7 v7e v7i => ?_)
      rw [upm_eq] at v7e
      subst v7e
      clear v7i
      refine Tx.ifc hC (t := 41) te_230_34 (by decide) (fun q => ?_) (fun q => absurd (show (0 : Int) ≤ 0 by decide) q)
      refine Tx.aload_n hC te_230_41 rfl ?_
      refine Tx.iconst hC te_230_42 rfl ?_
      refine Tx.iload_n hC te_230_43 rfl ?_
      refine Tx.iload_n hC te_230_44 rfl ?_
      refine Tx.iconst hC te_230_45 rfl ?_
      refine Tx.iconst hC te_230_46 rfl ?_
      refine Tx.virtI hC te_230_47 mt_229 (args := [.inr 143, .inl 4, .inl p0, .inl p1, .inl 0, .inl 0]) (rest := []) (c' := 0) (s' := 0) rfl rfl rfl rfl rfl rfl rfl rfl rfl rfl ?_
      refine f_229x (by rw [upm_ne (by omega)]; omega) (fun r8 m9 r8e r8m r8i => ?_)
      rw [upm_ne (by omega)] at r8e r8m
      unfold InI at r8i
      exact Tx.ireturn hC te_230_50 rfl (fun hr => show K r8 m9 from H0 (by assumption) (by omega) _ _ r8e r8m)
    · replace q5 : ¬ (¬ (v4 : Int) = 8) := q5
      refine Tx.iconst hC te_230_22 rfl ?_
      refine Tx.goto hC (t := 27) te_230_23 (by decide) ?_
      refine Tx.putI hC te_230_27 rfl rfl rfl rfl ?_
      refine Tx.aload_n hC te_230_30 rfl ?_
      refine Tx.getI hC te_230_31 rfl rfl rfl (fun v12 v12e v12i => ?_)
      rw [upm_eq] at v12e
      subst v12e
      clear v12i
      refine Tx.ifc hC (t := 41) te_230_34 (by decide) (fun q => absurd q (show ¬ ((2 : Int) ≤ 0) by decide)) (fun q => ?_)
      refine Tx.iconst hC te_230_37 rfl ?_
      refine Tx.goto hC (t := 50) te_230_38 (by decide) ?_
      exact Tx.ireturn hC te_230_50 rfl (fun hr => show K 0 (upm mem 143 0 2) from H2 (by assumption) (by omega))
  · skip
    refine Tx.ifc hC (t := 13) te_230_6 (by decide) (fun q => absurd q (show ¬ (¬ (0 : Int) = 0) by decide)) (fun q => ?_)
    refine Tx.iconst hC te_230_9 rfl ?_
    refine Tx.goto hC (t := 27) te_230_10 (by decide) ?_
    refine Tx.putI hC te_230_27 rfl rfl rfl rfl ?_
    refine Tx.aload_n hC te_230_30 rfl ?_
    refine Tx.getI hC te_230_31 rfl rfl rfl (fun v14 v14e v14i => ?_)
    rw [upm_eq] at v14e
    subst v14e
    clear v14i
    refine Tx.ifc hC (t := 41) te_230_34 (by decide) (fun q => absurd q (show ¬ ((1 : Int) ≤ 0) by decide)) (fun q => ?_)
    refine Tx.iconst hC te_230_37 rfl ?_
    refine Tx.goto hC (t := 50) te_230_38 (by decide) ?_
    exact Tx.ireturn hC te_230_50 rfl (fun hr => show K 0 (upm mem 143 0 1) from H1 (by intro w; first | (have := w.1; omega) | omega | exact absurd w (by assumption) | exact absurd w.1 (by assumption) | exact absurd w.2 (by assumption) | exact absurd w.2.1 (by assumption) | exact absurd w.2.2 (by assumption)))
theorem f_232x {S : Nat × (Nat → Int32)} {n : Nat} {mem : MM} {K : Int → MM → Prop} {E : Nat → MM → Prop} (h8 : 0 ≤ mem 143 1 ∧ mem 143 1 ≤ 8) {p0 p1 p2 p3 : Int} (H0 : srcX p0 p1 ∧ rowX p2 p3 → mem 143 1 < 8 → ∀ r m', r = mem 143 1 → m' = addM (upm mem 143 0 0) (mem 143 1).toNat 5 p0 p1 p2 p3 → K r m') (H1 : ¬ (srcX p0 p1 ∧ rowX p2 p3) → K 0 (upm mem 143 0 1)) (H2 : srcX p0 p1 ∧ rowX p2 p3 → ¬ mem 143 1 < 8 → K 0 (upm mem 143 0 2)) : CQI (Ex S (n + 3)) 232 [.inr 143, .inl p0, .inl p1, .inl p2, .inl p3] mem K E := by
  refine CY.of (k := 0) mt_232 rfl rfl (fun hv => ?_)
  have hC := Ex.mono S (n + 2)
  have ii_p0 : InI p0 := hv (.inl p0) (by simp)
  unfold InI at ii_p0
  have ii_p1 : InI p1 := hv (.inl p1) (by simp)
  unfold InI at ii_p1
  have ii_p2 : InI p2 := hv (.inl p2) (by simp)
  unfold InI at ii_p2
  have ii_p3 : InI p3 := hv (.inl p3) (by simp)
  unfold InI at ii_p3
  clear hv
  show Tx (Ex S (n + 2)) S M_232 (kI K E) 0 0 0 [some (.inr 143), some (.inl p0), some (.inl p1), some (.inl p2), some (.inl p3)] [] mem
  refine Tx.aload_n hC te_232_0 rfl ?_
  refine Tx.iload_n hC te_232_1 rfl ?_
  refine Tx.iload_n hC te_232_2 rfl ?_
  refine Tx.statI hC te_232_3 (by decide) mt_228 (args := [.inl p0, .inl p1]) (rest := [.inr 143]) (c' := 0) (s' := 0) rfl rfl rfl rfl rfl rfl rfl ?_
  refine f_228x (fun r1s r1i => ?_) (fun r1s r1i => ?_)
  · skip
    refine Tx.ifc hC (t := 18) te_232_6 (by decide) (fun q => absurd q (show ¬ ((1 : Int) = 0) by decide)) (fun q => ?_)
    refine Tx.iload_n hC te_232_9 rfl ?_
    refine Tx.iload hC te_232_10 rfl ?_
    refine Tx.statI hC te_232_12 (by decide) mt_231 (args := [.inl p2, .inl p3]) (rest := [.inr 143]) (c' := 0) (s' := 0) rfl rfl rfl rfl rfl rfl rfl ?_
    refine f_231x (fun r4s r4i => ?_) (fun r4s r4i => ?_)
    · skip
      refine Tx.ifc hC (t := 22) te_232_15 (by decide) (fun q => ?_) (fun q => absurd (show ¬ (1 : Int) = 0 by decide) q)
      refine Tx.aload_n hC te_232_22 rfl ?_
      refine Tx.getI hC te_232_23 rfl rfl rfl (fun v7 v7e v7i => ?_)
      unfold InI at v7i
      refine Tx.bipush hC te_232_26 rfl rfl ?_
      refine Tx.icmp hC (t := 35) te_232_28 (by decide) (fun q8 => ?_) (fun q8 => ?_)
      · replace q8 : ¬ (v7 : Int) = 8 := q8
        refine Tx.iconst hC te_232_35 rfl ?_
        refine Tx.putI hC te_232_36 rfl rfl rfl rfl ?_
        refine Tx.aload_n hC te_232_39 rfl ?_
        refine Tx.getI hC te_232_40 rfl rfl rfl (fun v10 v10e v10i => ?_)
        rw [upm_eq] at v10e
        subst v10e
        clear v10i
        refine Tx.ifc hC (t := 50) te_232_43 (by decide) (fun q => ?_) (fun q => absurd (show (0 : Int) ≤ 0 by decide) q)
        refine Tx.aload_n hC te_232_50 rfl ?_
        refine Tx.iconst hC te_232_51 rfl ?_
        refine Tx.iload_n hC te_232_52 rfl ?_
        refine Tx.iload_n hC te_232_53 rfl ?_
        refine Tx.iload_n hC te_232_54 rfl ?_
        refine Tx.iload hC te_232_55 rfl ?_
        refine Tx.virtI hC te_232_57 mt_229 (args := [.inr 143, .inl 5, .inl p0, .inl p1, .inl p2, .inl p3]) (rest := []) (c' := 0) (s' := 0) rfl rfl rfl rfl rfl rfl rfl rfl rfl rfl ?_
        refine f_229x (by rw [upm_ne (by omega)]; omega) (fun r11 m12 r11e r11m r11i => ?_)
        rw [upm_ne (by omega)] at r11e r11m
        unfold InI at r11i
        exact Tx.ireturn hC te_232_60 rfl (fun hr => show K r11 m12 from H0 ⟨by assumption, by assumption⟩ (by omega) _ _ r11e r11m)
      · replace q8 : ¬ (¬ (v7 : Int) = 8) := q8
        refine Tx.iconst hC te_232_31 rfl ?_
        refine Tx.goto hC (t := 36) te_232_32 (by decide) ?_
        refine Tx.putI hC te_232_36 rfl rfl rfl rfl ?_
        refine Tx.aload_n hC te_232_39 rfl ?_
        refine Tx.getI hC te_232_40 rfl rfl rfl (fun v15 v15e v15i => ?_)
        rw [upm_eq] at v15e
        subst v15e
        clear v15i
        refine Tx.ifc hC (t := 50) te_232_43 (by decide) (fun q => absurd q (show ¬ ((2 : Int) ≤ 0) by decide)) (fun q => ?_)
        refine Tx.iconst hC te_232_46 rfl ?_
        refine Tx.goto hC (t := 60) te_232_47 (by decide) ?_
        exact Tx.ireturn hC te_232_60 rfl (fun hr => show K 0 (upm mem 143 0 2) from H2 ⟨by assumption, by assumption⟩ (by omega))
    · skip
      refine Tx.ifc hC (t := 22) te_232_15 (by decide) (fun q => absurd q (show ¬ (¬ (0 : Int) = 0) by decide)) (fun q => ?_)
      refine Tx.iconst hC te_232_18 rfl ?_
      refine Tx.goto hC (t := 36) te_232_19 (by decide) ?_
      refine Tx.putI hC te_232_36 rfl rfl rfl rfl ?_
      refine Tx.aload_n hC te_232_39 rfl ?_
      refine Tx.getI hC te_232_40 rfl rfl rfl (fun v17 v17e v17i => ?_)
      rw [upm_eq] at v17e
      subst v17e
      clear v17i
      refine Tx.ifc hC (t := 50) te_232_43 (by decide) (fun q => absurd q (show ¬ ((1 : Int) ≤ 0) by decide)) (fun q => ?_)
      refine Tx.iconst hC te_232_46 rfl ?_
      refine Tx.goto hC (t := 60) te_232_47 (by decide) ?_
      exact Tx.ireturn hC te_232_60 rfl (fun hr => show K 0 (upm mem 143 0 1) from H1 (by intro w; first | (have := w.1; omega) | omega | exact absurd w (by assumption) | exact absurd w.1 (by assumption) | exact absurd w.2 (by assumption) | exact absurd w.2.1 (by assumption) | exact absurd w.2.2 (by assumption)))
  · skip
    refine Tx.ifc hC (t := 18) te_232_6 (by decide) (fun q => ?_) (fun q => absurd (show (0 : Int) = 0 by decide) q)
    refine Tx.iconst hC te_232_18 rfl ?_
    refine Tx.goto hC (t := 36) te_232_19 (by decide) ?_
    refine Tx.putI hC te_232_36 rfl rfl rfl rfl ?_
    refine Tx.aload_n hC te_232_39 rfl ?_
    refine Tx.getI hC te_232_40 rfl rfl rfl (fun v19 v19e v19i => ?_)
    rw [upm_eq] at v19e
    subst v19e
    clear v19i
    refine Tx.ifc hC (t := 50) te_232_43 (by decide) (fun q => absurd q (show ¬ ((1 : Int) ≤ 0) by decide)) (fun q => ?_)
    refine Tx.iconst hC te_232_46 rfl ?_
    refine Tx.goto hC (t := 60) te_232_47 (by decide) ?_
    exact Tx.ireturn hC te_232_60 rfl (fun hr => show K 0 (upm mem 143 0 1) from H1 (by intro w; first | (have := w.1; omega) | omega | exact absurd w (by assumption) | exact absurd w.1 (by assumption) | exact absurd w.2 (by assumption) | exact absurd w.2.1 (by assumption) | exact absurd w.2.2 (by assumption)))
theorem f_233x {S : Nat × (Nat → Int32)} {n : Nat} {mem : MM} {K : Int → MM → Prop} {E : Nat → MM → Prop} (h8 : 0 ≤ mem 143 1 ∧ mem 143 1 ≤ 8) (H0 : 0 < mem 143 1 → ∀ r m', r = mem 143 1 - 1 → m' = upm (upm mem 143 0 0) 143 1 (mem 143 1 - 1) → K r m') (H1 : ¬ 0 < mem 143 1 → K 0 (upm mem 143 0 1)) : CQI (Ex S (n + 3)) 233 [.inr 143] mem K E := by
  refine CY.of (k := 0) mt_233 rfl rfl (fun hv => ?_)
  have hC := Ex.mono S (n + 2)
  clear hv
  show Tx (Ex S (n + 2)) S M_233 (kI K E) 0 0 0 [some (.inr 143)] [] mem
  refine Tx.aload_n hC te_233_0 rfl ?_
  refine Tx.aload_n hC te_233_1 rfl ?_
  refine Tx.getI hC te_233_2 rfl rfl rfl (fun v1 v1e v1i => ?_)
  unfold InI at v1i
  first | rw [upm_eq] at v1e | rw [upm_ne (by omega)] at v1e | skip
  refine Tx.ifc hC (t := 12) te_233_5 (by decide) (fun q3 => ?_) (fun q3 => ?_)
  · replace q3 : ¬ (v1 : Int) = 0 := q3
    refine Tx.iconst hC te_233_12 rfl ?_
    refine Tx.putI hC te_233_13 rfl rfl rfl rfl ?_
    refine Tx.aload_n hC te_233_16 rfl ?_
    refine Tx.getI hC te_233_17 rfl rfl rfl (fun v5 v5e v5i => ?_)
    rw [upm_eq] at v5e
    subst v5e
    clear v5i
    refine Tx.ifc hC (t := 25) te_233_20 (by decide) (fun q => ?_) (fun q => absurd (show (0 : Int) ≤ 0 by decide) q)
    refine Tx.aload_n hC te_233_25 rfl ?_
    refine Tx.dup hC te_233_26 ?_
    refine Tx.getI hC te_233_27 rfl rfl rfl (fun v6 v6e v6i => ?_)
    unfold InI at v6i
    first | rw [upm_eq] at v6e | rw [upm_ne (by omega)] at v6e | skip
    refine Tx.iconst hC te_233_30 rfl ?_
    refine Tx.isubW hC te_233_31 (fun z8 z8i z8e => ?_)
    unfold InI at z8i z8e
    first | replace z8e := z8e (by omega) | clear z8e
    refine Tx.putI hC te_233_32 rfl rfl rfl rfl ?_
    have ez : z8 = mem 143 1 - 1 := by omega
    rw [ez]
    refine Tx.aload_n hC te_233_35 rfl ?_
    refine Tx.getI hC te_233_36 rfl rfl rfl (fun v10 v10e v10i => ?_)
    unfold InI at v10i
    first | rw [upm_eq] at v10e | rw [upm_ne (by omega)] at v10e | skip
    exact Tx.ireturn hC te_233_39 rfl (fun hr => show K v10 (upm (upm mem 143 0 0) 143 1 (mem 143 1 - 1)) from H0 (by omega) _ _ (by omega) rfl)
  · replace q3 : ¬ (¬ (v1 : Int) = 0) := q3
    refine Tx.iconst hC te_233_8 rfl ?_
    refine Tx.goto hC (t := 13) te_233_9 (by decide) ?_
    refine Tx.putI hC te_233_13 rfl rfl rfl rfl ?_
    refine Tx.aload_n hC te_233_16 rfl ?_
    refine Tx.getI hC te_233_17 rfl rfl rfl (fun v13 v13e v13i => ?_)
    rw [upm_eq] at v13e
    subst v13e
    clear v13i
    refine Tx.ifc hC (t := 25) te_233_20 (by decide) (fun q => absurd q (show ¬ ((1 : Int) ≤ 0) by decide)) (fun q => ?_)
    refine Tx.iconst hC te_233_23 rfl ?_
    exact Tx.ireturn hC te_233_24 rfl (fun hr => show K 0 (upm mem 143 0 1) from H1 (by omega))
theorem f_235x {S : Nat × (Nat → Int32)} {n : Nat} {mem : MM} {K : Int → MM → Prop} {E : Nat → MM → Prop} (h8 : 0 ≤ mem 143 1 ∧ mem 143 1 ≤ 8) {o : Int} (H1 : 0 ≤ o ∧ o < mem 143 1 → K 1 mem) (H0 : ¬ (0 ≤ o ∧ o < mem 143 1) → K 0 mem) : CQI (Ex S (n + 2)) 235 [.inr 143, .inl o] mem K E := by
  refine CY.of (k := 0) mt_235 rfl rfl (fun hv => ?_)
  have hC := Ex.mono S (n + 1)
  have ii_o : InI o := hv (.inl o) (by simp)
  unfold InI at ii_o
  clear hv
  show Tx (Ex S (n + 1)) S M_235 (kI K E) 0 0 0 [some (.inr 143), some (.inl o)] [] mem
  refine Tx.iload_n hC te_235_0 rfl ?_
  refine Tx.iconst hC te_235_1 rfl ?_
  refine Tx.aload_n hC te_235_2 rfl ?_
  refine Tx.getI hC te_235_3 rfl rfl rfl (fun v1 v1e v1i => ?_)
  unfold InI at v1i
  refine Tx.iconst hC te_235_6 rfl ?_
  refine Tx.isubW hC te_235_7 (fun z2 z2i z2e => ?_)
  unfold InI at z2i z2e
  first | replace z2e := z2e (by omega) | clear z2e
  refine Tx.statI hC te_235_8 (by decide) mt_227 (args := [.inl o, .inl 0, .inl z2]) (rest := []) (c' := 0) (s' := 0) rfl rfl rfl rfl rfl rfl rfl ?_
  refine CWI.q hC (f_227 (fun r3a r3b r3i => ?_) (fun r3q r3i => ?_))
  · skip
    exact Tx.bret hC te_235_11 rfl (by omega) (show K 1 mem from H1 (by omega))
  · skip
    exact Tx.bret hC te_235_11 rfl (by omega) (show K 0 mem from H0 (by omega))
theorem f_234x {S : Nat × (Nat → Int32)} {n : Nat} {mem : MM} {K : Int → MM → Prop} {E : Nat → MM → Prop} (h8 : 0 ≤ mem 143 1 ∧ mem 143 1 ≤ 8) {p0 p1 : Int} (H0 : 0 ≤ p0 ∧ p0 < mem 143 1 → -9999 ≤ p1 ∧ p1 ≤ 9999 → ∀ r m', r = mem 149 p0.toNat → m' = upm (upm mem 143 0 0) 149 p0.toNat p1 → K r m') (H1 : ¬ (0 ≤ p0 ∧ p0 < mem 143 1) → K 0 (upm mem 143 0 1)) (H2 : 0 ≤ p0 ∧ p0 < mem 143 1 → ¬ (-9999 ≤ p1 ∧ p1 ≤ 9999) → K 0 (upm mem 143 0 2)) : CQI (Ex S (n + 4)) 234 [.inr 143, .inl p0, .inl p1] mem K E := by
  refine CY.of (k := 1) mt_234 rfl rfl (fun hv => ?_)
  have hC := Ex.mono S (n + 3)
  have ii_p0 : InI p0 := hv (.inl p0) (by simp)
  unfold InI at ii_p0
  have ii_p1 : InI p1 := hv (.inl p1) (by simp)
  unfold InI at ii_p1
  clear hv
  show Tx (Ex S (n + 3)) S M_234 (kI K E) 0 0 0 [some (.inr 143), some (.inl p0), some (.inl p1), none] [] mem
  refine Tx.aload_n hC te_234_0 rfl ?_
  refine Tx.aload_n hC te_234_1 rfl ?_
  refine Tx.iload_n hC te_234_2 rfl ?_
  refine Tx.virtI hC te_234_3 mt_235 (args := [.inr 143, .inl p0]) (rest := [.inr 143]) (c' := 0) (s' := 0) rfl rfl rfl rfl rfl rfl rfl rfl rfl rfl ?_
  refine f_235x h8 (fun r1s r1i => ?_) (fun r1s r1i => ?_)
  · skip
    refine Tx.ifc hC (t := 13) te_234_6 (by decide) (fun q => ?_) (fun q => absurd (show ¬ (1 : Int) = 0 by decide) q)
    refine Tx.iload_n hC te_234_13 rfl ?_
    refine Tx.sipush hC te_234_14 rfl rfl ?_
    refine Tx.sipush hC te_234_17 rfl rfl ?_
    refine Tx.statI hC te_234_20 (by decide) mt_227 (args := [.inl p1, .inl (-9999), .inl 9999]) (rest := [.inr 143]) (c' := 0) (s' := 0) rfl rfl rfl rfl rfl rfl rfl ?_
    refine CWI.q hC (f_227 (fun r4a r4b r4i => ?_) (fun r4q r4i => ?_))
    · skip
      refine Tx.ifc hC (t := 30) te_234_23 (by decide) (fun q => ?_) (fun q => absurd (show ¬ (1 : Int) = 0 by decide) q)
      refine Tx.iconst hC te_234_30 rfl ?_
      refine Tx.putI hC te_234_31 rfl rfl rfl rfl ?_
      refine Tx.aload_n hC te_234_34 rfl ?_
      refine Tx.getI hC te_234_35 rfl rfl rfl (fun v8 v8e v8i => ?_)
      rw [upm_eq] at v8e
      subst v8e
      clear v8i
      refine Tx.ifc hC (t := 43) te_234_38 (by decide) (fun q => ?_) (fun q => absurd (show (0 : Int) ≤ 0 by decide) q)
      refine Tx.aload_n hC te_234_43 rfl ?_
      refine Tx.getR hC te_234_44 rfl rfl rfl ?_
      refine Tx.iload_n hC te_234_47 rfl ?_
      refine Tx.iald hC te_234_48 rfl (by omega) (fun v9 v9e v9i => ?_)
      unfold InI at v9i
      rw [upm_ne (by omega)] at v9e
      refine Tx.istore_n hC te_234_49 rfl ?_
      refine Tx.aload_n hC te_234_50 rfl ?_
      refine Tx.getR hC te_234_51 rfl rfl rfl ?_
      refine Tx.iload_n hC te_234_54 rfl ?_
      refine Tx.iload_n hC te_234_55 rfl ?_
      refine Tx.iast hC te_234_56 rfl (by omega) ?_
      refine Tx.iload_n hC te_234_57 rfl ?_
      exact Tx.ireturn hC te_234_58 rfl (fun hr => show K v9 (upm (upm mem 143 0 0) 149 (Int.toNat p0) p1) from H0 (by omega) (by omega) _ _ (by assumption) rfl)
    · skip
      refine Tx.ifc hC (t := 30) te_234_23 (by decide) (fun q => absurd q (show ¬ (¬ (0 : Int) = 0) by decide)) (fun q => ?_)
      refine Tx.iconst hC te_234_26 rfl ?_
      refine Tx.goto hC (t := 31) te_234_27 (by decide) ?_
      refine Tx.putI hC te_234_31 rfl rfl rfl rfl ?_
      refine Tx.aload_n hC te_234_34 rfl ?_
      refine Tx.getI hC te_234_35 rfl rfl rfl (fun v13 v13e v13i => ?_)
      rw [upm_eq] at v13e
      subst v13e
      clear v13i
      refine Tx.ifc hC (t := 43) te_234_38 (by decide) (fun q => absurd q (show ¬ ((2 : Int) ≤ 0) by decide)) (fun q => ?_)
      refine Tx.iconst hC te_234_41 rfl ?_
      exact Tx.ireturn hC te_234_42 rfl (fun hr => show K 0 (upm mem 143 0 2) from H2 (by omega) (by omega))
  · skip
    refine Tx.ifc hC (t := 13) te_234_6 (by decide) (fun q => absurd q (show ¬ (¬ (0 : Int) = 0) by decide)) (fun q => ?_)
    refine Tx.iconst hC te_234_9 rfl ?_
    refine Tx.goto hC (t := 31) te_234_10 (by decide) ?_
    refine Tx.putI hC te_234_31 rfl rfl rfl rfl ?_
    refine Tx.aload_n hC te_234_34 rfl ?_
    refine Tx.getI hC te_234_35 rfl rfl rfl (fun v15 v15e v15i => ?_)
    rw [upm_eq] at v15e
    subst v15e
    clear v15i
    refine Tx.ifc hC (t := 43) te_234_38 (by decide) (fun q => absurd q (show ¬ ((1 : Int) ≤ 0) by decide)) (fun q => ?_)
    refine Tx.iconst hC te_234_41 rfl ?_
    exact Tx.ireturn hC te_234_42 rfl (fun hr => show K 0 (upm mem 143 0 1) from H1 (by omega))
theorem f_237x {S : Nat × (Nat → Int32)} {n : Nat} {mem : MM} {K : Int → MM → Prop} {E : Nat → MM → Prop} (h8 : 0 ≤ mem 143 1 ∧ mem 143 1 ≤ 8) {p0 p1 : Int} (H0 : 0 ≤ p0 ∧ p0 < 3 → 1 ≤ p1 ∧ p1 ≤ 3 → ∀ r m', r = mem 153 p0.toNat → m' = upm (upm mem 143 0 0) 153 p0.toNat p1 → K r m') (H1 : ¬ (0 ≤ p0 ∧ p0 < 3) → K 0 (upm mem 143 0 1)) (H2 : 0 ≤ p0 ∧ p0 < 3 → ¬ (1 ≤ p1 ∧ p1 ≤ 3) → K 0 (upm mem 143 0 2)) : CQI (Ex S (n + 4)) 237 [.inr 143, .inl p0, .inl p1] mem K E := by
  refine CY.of (k := 1) mt_237 rfl rfl (fun hv => ?_)
  have hC := Ex.mono S (n + 3)
  have ii_p0 : InI p0 := hv (.inl p0) (by simp)
  unfold InI at ii_p0
  have ii_p1 : InI p1 := hv (.inl p1) (by simp)
  unfold InI at ii_p1
  clear hv
  show Tx (Ex S (n + 3)) S M_237 (kI K E) 0 0 0 [some (.inr 143), some (.inl p0), some (.inl p1), none] [] mem
  refine Tx.aload_n hC te_237_0 rfl ?_
  refine Tx.iload_n hC te_237_1 rfl ?_
  refine Tx.iconst hC te_237_2 rfl ?_
  refine Tx.iconst hC te_237_3 rfl ?_
  refine Tx.statI hC te_237_4 (by decide) mt_227 (args := [.inl p0, .inl 0, .inl 2]) (rest := [.inr 143]) (c' := 0) (s' := 0) rfl rfl rfl rfl rfl rfl rfl ?_
  refine CWI.q hC (f_227 (fun r1a r1b r1i => ?_) (fun r1q r1i => ?_))
  · skip
    refine Tx.ifc hC (t := 14) te_237_7 (by decide) (fun q => ?_) (fun q => absurd (show ¬ (1 : Int) = 0 by decide) q)
    refine Tx.iload_n hC te_237_14 rfl ?_
    refine Tx.iconst hC te_237_15 rfl ?_
    refine Tx.iconst hC te_237_16 rfl ?_
    refine Tx.statI hC te_237_17 (by decide) mt_227 (args := [.inl p1, .inl 1, .inl 3]) (rest := [.inr 143]) (c' := 0) (s' := 0) rfl rfl rfl rfl rfl rfl rfl ?_
    refine CWI.q hC (f_227 (fun r4a r4b r4i => ?_) (fun r4q r4i => ?_))
    · skip
      refine Tx.ifc hC (t := 27) te_237_20 (by decide) (fun q => ?_) (fun q => absurd (show ¬ (1 : Int) = 0 by decide) q)
      refine Tx.iconst hC te_237_27 rfl ?_
      refine Tx.putI hC te_237_28 rfl rfl rfl rfl ?_
      refine Tx.aload_n hC te_237_31 rfl ?_
      refine Tx.getI hC te_237_32 rfl rfl rfl (fun v8 v8e v8i => ?_)
      rw [upm_eq] at v8e
      subst v8e
      clear v8i
      refine Tx.ifc hC (t := 40) te_237_35 (by decide) (fun q => ?_) (fun q => absurd (show (0 : Int) ≤ 0 by decide) q)
      refine Tx.aload_n hC te_237_40 rfl ?_
      refine Tx.getR hC te_237_41 rfl rfl rfl ?_
      refine Tx.iload_n hC te_237_44 rfl ?_
      refine Tx.iald hC te_237_45 rfl (by omega) (fun v9 v9e v9i => ?_)
      unfold InI at v9i
      rw [upm_ne (by omega)] at v9e
      refine Tx.istore_n hC te_237_46 rfl ?_
      refine Tx.aload_n hC te_237_47 rfl ?_
      refine Tx.getR hC te_237_48 rfl rfl rfl ?_
      refine Tx.iload_n hC te_237_51 rfl ?_
      refine Tx.iload_n hC te_237_52 rfl ?_
      refine Tx.iast hC te_237_53 rfl (by omega) ?_
      refine Tx.iload_n hC te_237_54 rfl ?_
      exact Tx.ireturn hC te_237_55 rfl (fun hr => show K v9 (upm (upm mem 143 0 0) 153 (Int.toNat p0) p1) from H0 (by omega) (by omega) _ _ (by assumption) rfl)
    · skip
      refine Tx.ifc hC (t := 27) te_237_20 (by decide) (fun q => absurd q (show ¬ (¬ (0 : Int) = 0) by decide)) (fun q => ?_)
      refine Tx.iconst hC te_237_23 rfl ?_
      refine Tx.goto hC (t := 28) te_237_24 (by decide) ?_
      refine Tx.putI hC te_237_28 rfl rfl rfl rfl ?_
      refine Tx.aload_n hC te_237_31 rfl ?_
      refine Tx.getI hC te_237_32 rfl rfl rfl (fun v13 v13e v13i => ?_)
      rw [upm_eq] at v13e
      subst v13e
      clear v13i
      refine Tx.ifc hC (t := 40) te_237_35 (by decide) (fun q => absurd q (show ¬ ((2 : Int) ≤ 0) by decide)) (fun q => ?_)
      refine Tx.iconst hC te_237_38 rfl ?_
      exact Tx.ireturn hC te_237_39 rfl (fun hr => show K 0 (upm mem 143 0 2) from H2 (by omega) (by omega))
  · skip
    refine Tx.ifc hC (t := 14) te_237_7 (by decide) (fun q => absurd q (show ¬ (¬ (0 : Int) = 0) by decide)) (fun q => ?_)
    refine Tx.iconst hC te_237_10 rfl ?_
    refine Tx.goto hC (t := 28) te_237_11 (by decide) ?_
    refine Tx.putI hC te_237_28 rfl rfl rfl rfl ?_
    refine Tx.aload_n hC te_237_31 rfl ?_
    refine Tx.getI hC te_237_32 rfl rfl rfl (fun v15 v15e v15i => ?_)
    rw [upm_eq] at v15e
    subst v15e
    clear v15i
    refine Tx.ifc hC (t := 40) te_237_35 (by decide) (fun q => absurd q (show ¬ ((1 : Int) ≤ 0) by decide)) (fun q => ?_)
    refine Tx.iconst hC te_237_38 rfl ?_
    exact Tx.ireturn hC te_237_39 rfl (fun hr => show K 0 (upm mem 143 0 1) from H1 (by omega))
theorem f_236x {S : Nat × (Nat → Int32)} {n : Nat} {mem : MM} {K : Int → MM → Prop} {E : Nat → MM → Prop} (h8 : 0 ≤ mem 143 1 ∧ mem 143 1 ≤ 8) {p0 p1 p2 p3 : Int} (H0 : 0 ≤ p0 ∧ p0 < 6 → (0 ≤ p1 ∧ p1 < 3) ∧ (1 ≤ p2 ∧ p2 ≤ 6) ∧ 1 ≤ p3 ∧ p3 ≤ 15 → ∀ m', m' = upm (upm (upm (upm mem 143 0 0) 150 p0.toNat p1) 151 p0.toNat p2) 152 p0.toNat p3 → K 0 m') (H1 : ¬ (0 ≤ p0 ∧ p0 < 6) → K 0 (upm mem 143 0 1)) (H2 : 0 ≤ p0 ∧ p0 < 6 → ¬ ((0 ≤ p1 ∧ p1 < 3) ∧ (1 ≤ p2 ∧ p2 ≤ 6) ∧ 1 ≤ p3 ∧ p3 ≤ 15) → K 0 (upm mem 143 0 2)) : CQI (Ex S (n + 4)) 236 [.inr 143, .inl p0, .inl p1, .inl p2, .inl p3] mem K E := by
  refine CY.of (k := 0) mt_236 rfl rfl (fun hv => ?_)
  have hC := Ex.mono S (n + 3)
  have ii_p0 : InI p0 := hv (.inl p0) (by simp)
  unfold InI at ii_p0
  have ii_p1 : InI p1 := hv (.inl p1) (by simp)
  unfold InI at ii_p1
  have ii_p2 : InI p2 := hv (.inl p2) (by simp)
  unfold InI at ii_p2
  have ii_p3 : InI p3 := hv (.inl p3) (by simp)
  unfold InI at ii_p3
  clear hv
  show Tx (Ex S (n + 3)) S M_236 (kI K E) 0 0 0 [some (.inr 143), some (.inl p0), some (.inl p1), some (.inl p2), some (.inl p3)] [] mem
  refine Tx.aload_n hC te_236_0 rfl ?_
  refine Tx.iload_n hC te_236_1 rfl ?_
  refine Tx.iconst hC te_236_2 rfl ?_
  refine Tx.iconst hC te_236_3 rfl ?_
  refine Tx.statI hC te_236_4 (by decide) mt_227 (args := [.inl p0, .inl 0, .inl 5]) (rest := [.inr 143]) (c' := 0) (s' := 0) rfl rfl rfl rfl rfl rfl rfl ?_
  refine CWI.q hC (f_227 (fun r1a r1b r1i => ?_) (fun r1q r1i => ?_))
  · skip
    refine Tx.ifc hC (t := 14) te_236_7 (by decide) (fun q => ?_) (fun q => absurd (show ¬ (1 : Int) = 0 by decide) q)
    refine Tx.iload_n hC te_236_14 rfl ?_
    refine Tx.iconst hC te_236_15 rfl ?_
    refine Tx.iconst hC te_236_16 rfl ?_
    refine Tx.statI hC te_236_17 (by decide) mt_227 (args := [.inl p1, .inl 0, .inl 2]) (rest := [.inr 143]) (c' := 0) (s' := 0) rfl rfl rfl rfl rfl rfl rfl ?_
    refine CWI.q hC (f_227 (fun r4a r4b r4i => ?_) (fun r4q r4i => ?_))
    · skip
      refine Tx.ifc hC (t := 44) te_236_20 (by decide) (fun q => absurd q (show ¬ ((1 : Int) = 0) by decide)) (fun q => ?_)
      refine Tx.iload_n hC te_236_23 rfl ?_
      refine Tx.iconst hC te_236_24 rfl ?_
      refine Tx.bipush hC te_236_25 rfl rfl ?_
      refine Tx.statI hC te_236_27 (by decide) mt_227 (args := [.inl p2, .inl 1, .inl 6]) (rest := [.inr 143]) (c' := 0) (s' := 0) rfl rfl rfl rfl rfl rfl rfl ?_
      refine CWI.q hC (f_227 (fun r7a r7b r7i => ?_) (fun r7q r7i => ?_))
      · skip
        refine Tx.ifc hC (t := 44) te_236_30 (by decide) (fun q => absurd q (show ¬ ((1 : Int) = 0) by decide)) (fun q => ?_)
        refine Tx.iload hC te_236_33 rfl ?_
        refine Tx.iconst hC te_236_35 rfl ?_
        refine Tx.bipush hC te_236_36 rfl rfl ?_
        refine Tx.statI hC te_236_38 (by decide) mt_227 (args := [.inl p3, .inl 1, .inl 15]) (rest := [.inr 143]) (c' := 0) (s' := 0) rfl rfl rfl rfl rfl rfl rfl ?_
        refine CWI.q hC (f_227 (fun r10a r10b r10i => ?_) (fun r10q r10i => ?_))
        · skip
          refine Tx.ifc hC (t := 48) te_236_41 (by decide) (fun q => ?_) (fun q => absurd (show ¬ (1 : Int) = 0 by decide) q)
          refine Tx.iconst hC te_236_48 rfl ?_
          refine Tx.putI hC te_236_49 rfl rfl rfl rfl ?_
          refine Tx.aload_n hC te_236_52 rfl ?_
          refine Tx.getI hC te_236_53 rfl rfl rfl (fun v14 v14e v14i => ?_)
          rw [upm_eq] at v14e
          subst v14e
          clear v14i
          refine Tx.ifc hC (t := 61) te_236_56 (by decide) (fun q => ?_) (fun q => absurd (show (0 : Int) ≤ 0 by decide) q)
          refine Tx.aload_n hC te_236_61 rfl ?_
          refine Tx.getR hC te_236_62 rfl rfl rfl ?_
          refine Tx.iload_n hC te_236_65 rfl ?_
          refine Tx.iload_n hC te_236_66 rfl ?_
          refine Tx.iast hC te_236_67 rfl (by omega) ?_
          refine Tx.aload_n hC te_236_68 rfl ?_
          refine Tx.getR hC te_236_69 rfl rfl rfl ?_
          refine Tx.iload_n hC te_236_72 rfl ?_
          refine Tx.iload_n hC te_236_73 rfl ?_
          refine Tx.iast hC te_236_74 rfl (by omega) ?_
          refine Tx.aload_n hC te_236_75 rfl ?_
          refine Tx.getR hC te_236_76 rfl rfl rfl ?_
          refine Tx.iload_n hC te_236_79 rfl ?_
          refine Tx.iload hC te_236_80 rfl ?_
          refine Tx.iast hC te_236_82 rfl (by omega) ?_
          refine Tx.iconst hC te_236_83 rfl ?_
          exact Tx.ireturn hC te_236_84 rfl (fun hr => show K 0 (upm (upm (upm (upm mem 143 0 0) 150 (Int.toNat p0) p1) 151 (Int.toNat p0) p2) 152 (Int.toNat p0) p3) from H0 (by omega) (by omega) _ rfl)
        · skip
          refine Tx.ifc hC (t := 48) te_236_41 (by decide) (fun q => absurd q (show ¬ (¬ (0 : Int) = 0) by decide)) (fun q => ?_)
          refine Tx.iconst hC te_236_44 rfl ?_
          refine Tx.goto hC (t := 49) te_236_45 (by decide) ?_
          refine Tx.putI hC te_236_49 rfl rfl rfl rfl ?_
          refine Tx.aload_n hC te_236_52 rfl ?_
          refine Tx.getI hC te_236_53 rfl rfl rfl (fun v19 v19e v19i => ?_)
          rw [upm_eq] at v19e
          subst v19e
          clear v19i
          refine Tx.ifc hC (t := 61) te_236_56 (by decide) (fun q => absurd q (show ¬ ((2 : Int) ≤ 0) by decide)) (fun q => ?_)
          refine Tx.iconst hC te_236_59 rfl ?_
          exact Tx.ireturn hC te_236_60 rfl (fun hr => show K 0 (upm mem 143 0 2) from H2 (by omega) (by omega))
      · skip
        refine Tx.ifc hC (t := 44) te_236_30 (by decide) (fun q => ?_) (fun q => absurd (show (0 : Int) = 0 by decide) q)
        refine Tx.iconst hC te_236_44 rfl ?_
        refine Tx.goto hC (t := 49) te_236_45 (by decide) ?_
        refine Tx.putI hC te_236_49 rfl rfl rfl rfl ?_
        refine Tx.aload_n hC te_236_52 rfl ?_
        refine Tx.getI hC te_236_53 rfl rfl rfl (fun v21 v21e v21i => ?_)
        rw [upm_eq] at v21e
        subst v21e
        clear v21i
        refine Tx.ifc hC (t := 61) te_236_56 (by decide) (fun q => absurd q (show ¬ ((2 : Int) ≤ 0) by decide)) (fun q => ?_)
        refine Tx.iconst hC te_236_59 rfl ?_
        exact Tx.ireturn hC te_236_60 rfl (fun hr => show K 0 (upm mem 143 0 2) from H2 (by omega) (by omega))
    · skip
      refine Tx.ifc hC (t := 44) te_236_20 (by decide) (fun q => ?_) (fun q => absurd (show (0 : Int) = 0 by decide) q)
      refine Tx.iconst hC te_236_44 rfl ?_
      refine Tx.goto hC (t := 49) te_236_45 (by decide) ?_
      refine Tx.putI hC te_236_49 rfl rfl rfl rfl ?_
      refine Tx.aload_n hC te_236_52 rfl ?_
      refine Tx.getI hC te_236_53 rfl rfl rfl (fun v23 v23e v23i => ?_)
      rw [upm_eq] at v23e
      subst v23e
      clear v23i
      refine Tx.ifc hC (t := 61) te_236_56 (by decide) (fun q => absurd q (show ¬ ((2 : Int) ≤ 0) by decide)) (fun q => ?_)
      refine Tx.iconst hC te_236_59 rfl ?_
      exact Tx.ireturn hC te_236_60 rfl (fun hr => show K 0 (upm mem 143 0 2) from H2 (by omega) (by omega))
  · skip
    refine Tx.ifc hC (t := 14) te_236_7 (by decide) (fun q => absurd q (show ¬ (¬ (0 : Int) = 0) by decide)) (fun q => ?_)
    refine Tx.iconst hC te_236_10 rfl ?_
    refine Tx.goto hC (t := 49) te_236_11 (by decide) ?_
    refine Tx.putI hC te_236_49 rfl rfl rfl rfl ?_
    refine Tx.aload_n hC te_236_52 rfl ?_
    refine Tx.getI hC te_236_53 rfl rfl rfl (fun v25 v25e v25i => ?_)
    rw [upm_eq] at v25e
    subst v25e
    clear v25i
    refine Tx.ifc hC (t := 61) te_236_56 (by decide) (fun q => absurd q (show ¬ ((1 : Int) ≤ 0) by decide)) (fun q => ?_)
    refine Tx.iconst hC te_236_59 rfl ?_
    exact Tx.ireturn hC te_236_60 rfl (fun hr => show K 0 (upm mem 143 0 1) from H1 (by omega))
