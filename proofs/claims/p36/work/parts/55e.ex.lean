/-! laid by wip/hand/tg.py: the seven that change the ops, exactly -/
/-- a source, exactly -/
def srcX (a b : Int) : Prop := a = -1 ∨ (a = -2 ∧ -99 ≤ b ∧ b ≤ 99) ∨ (0 ≤ a ∧ a ≤ 7 ∧ 0 ≤ b ∧ b ≤ 3)
def rowX (a b : Int) : Prop := (0 ≤ a ∧ a ≤ 1) ∧ 0 ≤ b ∧ b ≤ 7
theorem rowX.w {a b : Int} (h : rowX a b) : 0 ≤ a ∧ a ≤ 1 ∧ 0 ≤ b ∧ b ≤ 7 := by unfold rowX at h; omega
theorem srcX.ok {a b : Int} (h : srcX a b) : srcOK a b := by unfold srcX at h; unfold srcOK; omega
/-- one op more, in the reference -/
def addM (mem : MM) (n : Nat) (k a b c e : Int) : MM := upm (upm (upm (upm (upm (upm (upm mem 144 n k) 145 n a) 146 n b) 147 n c) 148 n e) 149 n 0) 143 1 (mem 143 1 + 1)
theorem addM_ne {mem : MM} {n A i : Nat} {k a b c e : Int} (h : ¬ (A = 143 ∧ i = 1) ∧ ¬ (144 ≤ A ∧ A ≤ 149 ∧ i = n)) : addM mem n k a b c e A i = mem A i := by
  unfold addM
  rw [upm_ne (by omega), upm_ne (by omega), upm_ne (by omega), upm_ne (by omega), upm_ne (by omega), upm_ne (by omega), upm_ne (by omega)]
theorem addM_at {mem : MM} {n : Nat} {k a b c e : Int} : addM mem n k a b c e 144 n = k ∧ addM mem n k a b c e 145 n = a ∧ addM mem n k a b c e 146 n = b ∧ addM mem n k a b c e 147 n = c ∧ addM mem n k a b c e 148 n = e ∧ addM mem n k a b c e 149 n = 0 ∧ addM mem n k a b c e 143 1 = mem 143 1 + 1 := by
  unfold addM
  refine ⟨?_, ?_, ?_, ?_, ?_, ?_, upm_eq⟩
  · rw [upm_ne (by omega), upm_ne (by omega), upm_ne (by omega), upm_ne (by omega), upm_ne (by omega), upm_ne (by omega), upm_eq]
  · rw [upm_ne (by omega), upm_ne (by omega), upm_ne (by omega), upm_ne (by omega), upm_ne (by omega), upm_eq]
  · rw [upm_ne (by omega), upm_ne (by omega), upm_ne (by omega), upm_ne (by omega), upm_eq]
  · rw [upm_ne (by omega), upm_ne (by omega), upm_ne (by omega), upm_eq]
  · rw [upm_ne (by omega), upm_ne (by omega), upm_eq]
  · rw [upm_ne (by omega), upm_eq]
def pAd (A _i : Nat) : Prop := 144 ≤ A ∧ A ≤ 149
theorem f_45x {S : Nat × (Nat → Int32)} {n : Nat} {mem : MM} {K : Int → MM → Prop} {E : Nat → MM → Prop} {a b : Int} (H1 : srcX a b → K 1 mem) (H0 : ¬ (srcX a b) → K 0 mem) : CQI (Ex S (n + 1)) 45 [.inl a, .inl b] mem K E := by
  refine CY.of (k := 0) mt_45 rfl rfl (fun hv => ?_)
  have hC := Ex.mono S n
  have ii_a : InI a := hv (.inl a) (by simp)
  unfold InI at ii_a
  have ii_b : InI b := hv (.inl b) (by simp)
  unfold InI at ii_b
  clear hv
  show Tx (Ex S n) S M_45 (kI K E) 0 0 0 [some (.inl a), some (.inl b)] [] mem
  refine Tx.iload_n hC te_45_0 rfl ?_
  refine Tx.iconst hC te_45_1 rfl ?_
  refine Tx.icmp hC (t := 7) te_45_2 (by decide) (fun q1 => ?_) (fun q1 => ?_)
  · replace q1 : ¬ (a : Int) = (-1) := q1
    refine Tx.iload_n hC te_45_7 rfl ?_
    refine Tx.bipush hC te_45_8 rfl rfl ?_
    refine Tx.icmp hC (t := 31) te_45_10 (by decide) (fun q2 => ?_) (fun q2 => ?_)
    · replace q2 : ¬ (a : Int) = (-2) := q2
      refine Tx.iload_n hC te_45_31 rfl ?_
      refine Tx.ifc hC (t := 54) te_45_32 (by decide) (fun q3 => ?_) (fun q3 => ?_)
      · replace q3 : (a : Int) < 0 := q3
        refine Tx.iconst hC te_45_54 rfl ?_
        exact Tx.bret hC te_45_55 rfl (by omega) (show K 0 mem from H0 (by unfold srcX; omega))
      · replace q3 : ¬ ((a : Int) < 0) := q3
        refine Tx.iload_n hC te_45_35 rfl ?_
        refine Tx.bipush hC te_45_36 rfl rfl ?_
        refine Tx.icmp hC (t := 54) te_45_38 (by decide) (fun q4 => ?_) (fun q4 => ?_)
        · replace q4 : 8 ≤ (a : Int) := q4
          refine Tx.iconst hC te_45_54 rfl ?_
          exact Tx.bret hC te_45_55 rfl (by omega) (show K 0 mem from H0 (by unfold srcX; omega))
        · replace q4 : ¬ (8 ≤ (a : Int)) := q4
          refine Tx.iload_n hC te_45_41 rfl ?_
          refine Tx.ifc hC (t := 54) te_45_42 (by decide) (fun q5 => ?_) (fun q5 => ?_)
          · replace q5 : (b : Int) < 0 := q5
            refine Tx.iconst hC te_45_54 rfl ?_
            exact Tx.bret hC te_45_55 rfl (by omega) (show K 0 mem from H0 (by unfold srcX; omega))
          · replace q5 : ¬ ((b : Int) < 0) := q5
            refine Tx.iload_n hC te_45_45 rfl ?_
            refine Tx.iconst hC te_45_46 rfl ?_
            refine Tx.icmp hC (t := 54) te_45_47 (by decide) (fun q6 => ?_) (fun q6 => ?_)
            · replace q6 : 3 < (b : Int) := q6
              refine Tx.iconst hC te_45_54 rfl ?_
              exact Tx.bret hC te_45_55 rfl (by omega) (show K 0 mem from H0 (by unfold srcX; omega))
            · replace q6 : ¬ (3 < (b : Int)) := q6
              refine Tx.iconst hC te_45_50 rfl ?_
              refine Tx.goto hC (t := 55) te_45_51 (by decide) ?_
              exact Tx.bret hC te_45_55 rfl (by omega) (show K 1 mem from H1 (by unfold srcX; omega))
    · replace q2 : ¬ (¬ (a : Int) = (-2)) := q2
      refine Tx.iload_n hC te_45_13 rfl ?_
      refine Tx.bipush hC te_45_14 rfl rfl ?_
      refine Tx.icmp hC (t := 29) te_45_16 (by decide) (fun q7 => ?_) (fun q7 => ?_)
      · replace q7 : (b : Int) < (-99) := q7
        refine Tx.iconst hC te_45_29 rfl ?_
        exact Tx.bret hC te_45_30 rfl (by omega) (show K 0 mem from H0 (by unfold srcX; omega))
      · replace q7 : ¬ ((b : Int) < (-99)) := q7
        refine Tx.iload_n hC te_45_19 rfl ?_
        refine Tx.bipush hC te_45_20 rfl rfl ?_
        refine Tx.icmp hC (t := 29) te_45_22 (by decide) (fun q8 => ?_) (fun q8 => ?_)
        · replace q8 : 99 < (b : Int) := q8
          refine Tx.iconst hC te_45_29 rfl ?_
          exact Tx.bret hC te_45_30 rfl (by omega) (show K 0 mem from H0 (by unfold srcX; omega))
        · replace q8 : ¬ (99 < (b : Int)) := q8
          refine Tx.iconst hC te_45_25 rfl ?_
          refine Tx.goto hC (t := 30) te_45_26 (by decide) ?_
          exact Tx.bret hC te_45_30 rfl (by omega) (show K 1 mem from H1 (by unfold srcX; omega))
  · replace q1 : ¬ (¬ (a : Int) = (-1)) := q1
    refine Tx.iconst hC te_45_5 rfl ?_
    exact Tx.bret hC te_45_6 rfl (by omega) (show K 1 mem from H1 (by unfold srcX; omega))
theorem f_50x {S : Nat × (Nat → Int32)} {n : Nat} {mem : MM} {K : Int → MM → Prop} {E : Nat → MM → Prop} {a b : Int} (H1 : rowX a b → K 1 mem) (H0 : ¬ (rowX a b) → K 0 mem) : CQI (Ex S (n + 1)) 50 [.inl a, .inl b] mem K E := by
  refine CY.of (k := 0) mt_50 rfl rfl (fun hv => ?_)
  have hC := Ex.mono S n
  have ii_a : InI a := hv (.inl a) (by simp)
  unfold InI at ii_a
  have ii_b : InI b := hv (.inl b) (by simp)
  unfold InI at ii_b
  clear hv
  show Tx (Ex S n) S M_50 (kI K E) 0 0 0 [some (.inl a), some (.inl b)] [] mem
  refine Tx.iload_n hC te_50_0 rfl ?_
  refine Tx.ifc hC (t := 23) te_50_1 (by decide) (fun q1 => ?_) (fun q1 => ?_)
  · replace q1 : (a : Int) < 0 := q1
    refine Tx.iconst hC te_50_23 rfl ?_
    exact Tx.bret hC te_50_24 rfl (by omega) (show K 0 mem from H0 (by unfold rowX; omega))
  · replace q1 : ¬ ((a : Int) < 0) := q1
    refine Tx.iload_n hC te_50_4 rfl ?_
    refine Tx.iconst hC te_50_5 rfl ?_
    refine Tx.icmp hC (t := 23) te_50_6 (by decide) (fun q2 => ?_) (fun q2 => ?_)
    · replace q2 : 1 < (a : Int) := q2
      refine Tx.iconst hC te_50_23 rfl ?_
      exact Tx.bret hC te_50_24 rfl (by omega) (show K 0 mem from H0 (by unfold rowX; omega))
    · replace q2 : ¬ (1 < (a : Int)) := q2
      refine Tx.iload_n hC te_50_9 rfl ?_
      refine Tx.ifc hC (t := 23) te_50_10 (by decide) (fun q3 => ?_) (fun q3 => ?_)
      · replace q3 : (b : Int) < 0 := q3
        refine Tx.iconst hC te_50_23 rfl ?_
        exact Tx.bret hC te_50_24 rfl (by omega) (show K 0 mem from H0 (by unfold rowX; omega))
      · replace q3 : ¬ ((b : Int) < 0) := q3
        refine Tx.iload_n hC te_50_13 rfl ?_
        refine Tx.bipush hC te_50_14 rfl rfl ?_
        refine Tx.icmp hC (t := 23) te_50_16 (by decide) (fun q4 => ?_) (fun q4 => ?_)
        · replace q4 : 7 < (b : Int) := q4
          refine Tx.iconst hC te_50_23 rfl ?_
          exact Tx.bret hC te_50_24 rfl (by omega) (show K 0 mem from H0 (by unfold rowX; omega))
        · replace q4 : ¬ (7 < (b : Int)) := q4
          refine Tx.iconst hC te_50_19 rfl ?_
          refine Tx.goto hC (t := 24) te_50_20 (by decide) ?_
          exact Tx.bret hC te_50_24 rfl (by omega) (show K 1 mem from H1 (by unfold rowX; omega))
theorem f_228x {S : Nat × (Nat → Int32)} {n : Nat} {mem : MM} {K : Int → MM → Prop} {E : Nat → MM → Prop} {a b : Int} (H1 : srcX a b → K 1 mem) (H0 : ¬ (srcX a b) → K 0 mem) : CQI (Ex S (n + 2)) 228 [.inl a, .inl b] mem K E := by
  refine CY.of (k := 0) mt_228 rfl rfl (fun hv => ?_)
  have hC := Ex.mono S (n + 1)
  have ii_a : InI a := hv (.inl a) (by simp)
  unfold InI at ii_a
  have ii_b : InI b := hv (.inl b) (by simp)
  unfold InI at ii_b
  clear hv
  show Tx (Ex S (n + 1)) S M_228 (kI K E) 0 0 0 [some (.inl a), some (.inl b)] [] mem
  refine Tx.iload_n hC te_228_0 rfl ?_
  refine Tx.bipush hC te_228_1 rfl rfl ?_
  refine Tx.icmp hC (t := 17) te_228_3 (by decide) (fun q1 => ?_) (fun q1 => ?_)
  · replace q1 : ¬ (a : Int) = (-2) := q1
    refine Tx.iload_n hC te_228_17 rfl ?_
    refine Tx.iconst hC te_228_18 rfl ?_
    refine Tx.icmp hC (t := 41) te_228_19 (by decide) (fun q2 => ?_) (fun q2 => ?_)
    · replace q2 : (a : Int) = (-1) := q2
      refine Tx.iconst hC te_228_41 rfl ?_
      refine Tx.goto hC (t := 46) te_228_42 (by decide) ?_
      exact Tx.bret hC te_228_46 rfl (by omega) (show K 1 mem from H1 (by unfold srcX; omega))
    · replace q2 : ¬ ((a : Int) = (-1)) := q2
      refine Tx.iload_n hC te_228_22 rfl ?_
      refine Tx.iconst hC te_228_23 rfl ?_
      refine Tx.bipush hC te_228_24 rfl rfl ?_
      refine Tx.statI hC te_228_26 (by decide) mt_227 (args := [.inl a, .inl 0, .inl 7]) (rest := []) (c' := 0) (s' := 0) rfl rfl rfl rfl rfl rfl rfl ?_
      refine CWI.q hC (f_227 (fun r3a r3b r3i => ?_) (fun r3q r3i => ?_))
      · skip
        refine Tx.ifc hC (t := 45) te_228_29 (by decide) (fun q => absurd q (show ¬ ((1 : Int) = 0) by decide)) (fun q => ?_)
        refine Tx.iload_n hC te_228_32 rfl ?_
        refine Tx.iconst hC te_228_33 rfl ?_
        refine Tx.iconst hC te_228_34 rfl ?_
        refine Tx.statI hC te_228_35 (by decide) mt_227 (args := [.inl b, .inl 0, .inl 3]) (rest := []) (c' := 0) (s' := 0) rfl rfl rfl rfl rfl rfl rfl ?_
        refine CWI.q hC (f_227 (fun r6a r6b r6i => ?_) (fun r6q r6i => ?_))
        · skip
          refine Tx.ifc hC (t := 45) te_228_38 (by decide) (fun q => absurd q (show ¬ ((1 : Int) = 0) by decide)) (fun q => ?_)
          refine Tx.iconst hC te_228_41 rfl ?_
          refine Tx.goto hC (t := 46) te_228_42 (by decide) ?_
          exact Tx.bret hC te_228_46 rfl (by omega) (show K 1 mem from H1 (by unfold srcX; omega))
        · skip
          refine Tx.ifc hC (t := 45) te_228_38 (by decide) (fun q => ?_) (fun q => absurd (show (0 : Int) = 0 by decide) q)
          refine Tx.iconst hC te_228_45 rfl ?_
          exact Tx.bret hC te_228_46 rfl (by omega) (show K 0 mem from H0 (by unfold srcX; omega))
      · skip
        refine Tx.ifc hC (t := 45) te_228_29 (by decide) (fun q => ?_) (fun q => absurd (show (0 : Int) = 0 by decide) q)
        refine Tx.iconst hC te_228_45 rfl ?_
        exact Tx.bret hC te_228_46 rfl (by omega) (show K 0 mem from H0 (by unfold srcX; omega))
  · replace q1 : ¬ (¬ (a : Int) = (-2)) := q1
    refine Tx.iload_n hC te_228_6 rfl ?_
    refine Tx.bipush hC te_228_7 rfl rfl ?_
    refine Tx.bipush hC te_228_9 rfl rfl ?_
    refine Tx.statI hC te_228_11 (by decide) mt_227 (args := [.inl b, .inl (-99), .inl 99]) (rest := []) (c' := 0) (s' := 0) rfl rfl rfl rfl rfl rfl rfl ?_
    refine CWI.q hC (f_227 (fun r9a r9b r9i => ?_) (fun r9q r9i => ?_))
    · skip
      refine Tx.goto hC (t := 46) te_228_14 (by decide) ?_
      exact Tx.bret hC te_228_46 rfl (by omega) (show K 1 mem from H1 (by unfold srcX; omega))
    · skip
      refine Tx.goto hC (t := 46) te_228_14 (by decide) ?_
      exact Tx.bret hC te_228_46 rfl (by omega) (show K 0 mem from H0 (by unfold srcX; omega))
theorem f_231x {S : Nat × (Nat → Int32)} {n : Nat} {mem : MM} {K : Int → MM → Prop} {E : Nat → MM → Prop} {a b : Int} (H1 : rowX a b → K 1 mem) (H0 : ¬ (rowX a b) → K 0 mem) : CQI (Ex S (n + 2)) 231 [.inl a, .inl b] mem K E := by
  refine CY.of (k := 0) mt_231 rfl rfl (fun hv => ?_)
  have hC := Ex.mono S (n + 1)
  have ii_a : InI a := hv (.inl a) (by simp)
  unfold InI at ii_a
  have ii_b : InI b := hv (.inl b) (by simp)
  unfold InI at ii_b
  clear hv
  show Tx (Ex S (n + 1)) S M_231 (kI K E) 0 0 0 [some (.inl a), some (.inl b)] [] mem
  refine Tx.iload_n hC te_231_0 rfl ?_
  refine Tx.iconst hC te_231_1 rfl ?_
  refine Tx.iconst hC te_231_2 rfl ?_
  refine Tx.statI hC te_231_3 (by decide) mt_227 (args := [.inl a, .inl 0, .inl 1]) (rest := []) (c' := 0) (s' := 0) rfl rfl rfl rfl rfl rfl rfl ?_
  refine CWI.q hC (f_227 (fun r1a r1b r1i => ?_) (fun r1q r1i => ?_))
  · skip
    refine Tx.ifc hC (t := 23) te_231_6 (by decide) (fun q => absurd q (show ¬ ((1 : Int) = 0) by decide)) (fun q => ?_)
    refine Tx.iload_n hC te_231_9 rfl ?_
    refine Tx.iconst hC te_231_10 rfl ?_
    refine Tx.bipush hC te_231_11 rfl rfl ?_
    refine Tx.statI hC te_231_13 (by decide) mt_227 (args := [.inl b, .inl 0, .inl 7]) (rest := []) (c' := 0) (s' := 0) rfl rfl rfl rfl rfl rfl rfl ?_
    refine CWI.q hC (f_227 (fun r4a r4b r4i => ?_) (fun r4q r4i => ?_))
    · skip
      refine Tx.ifc hC (t := 23) te_231_16 (by decide) (fun q => absurd q (show ¬ ((1 : Int) = 0) by decide)) (fun q => ?_)
      refine Tx.iconst hC te_231_19 rfl ?_
      refine Tx.goto hC (t := 24) te_231_20 (by decide) ?_
      exact Tx.bret hC te_231_24 rfl (by omega) (show K 1 mem from H1 (by unfold rowX; omega))
    · skip
      refine Tx.ifc hC (t := 23) te_231_16 (by decide) (fun q => ?_) (fun q => absurd (show (0 : Int) = 0 by decide) q)
      refine Tx.iconst hC te_231_23 rfl ?_
      exact Tx.bret hC te_231_24 rfl (by omega) (show K 0 mem from H0 (by unfold rowX; omega))
  · skip
    refine Tx.ifc hC (t := 23) te_231_6 (by decide) (fun q => ?_) (fun q => absurd (show (0 : Int) = 0 by decide) q)
    refine Tx.iconst hC te_231_23 rfl ?_
    exact Tx.bret hC te_231_24 rfl (by omega) (show K 0 mem from H0 (by unfold rowX; omega))
theorem f_46x {S : Nat × (Nat → Int32)} {n : Nat} {mem : MM} {K : Int → MM → Prop} {E : Nat → MM → Prop} (hI : ClS mem) {k a b c e : Int} (hk : 0 ≤ k ∧ k ≤ 5) (h3 : k ≤ 3 → srcOK a b ∧ srcOK c e) (h4 : k = 4 → 0 ≤ a ∧ a ≤ 1 ∧ 0 ≤ b ∧ b ≤ 7) (h5 : k = 5 → srcOK a b ∧ 0 ≤ c ∧ c ≤ 1 ∧ 0 ≤ e ∧ e ≤ 7) (H : mem 1 0 < 8 → ∀ r m', r = mem 1 0 → ClS m' → m' = upm (putM mem (mem 1 0).toNat k a b c e) 0 11 1 → K r m') (HE : ¬ mem 1 0 < 8 → E 1 mem) : CQI (Ex S (n + 2)) 46 [.inr 0, .inl k, .inl a, .inl b, .inl c, .inl e] mem K E := by
  refine CY.of (k := 0) mt_46 rfl rfl (fun hv => ?_)
  have hC := Ex.mono S (n + 1)
  have ii_k : InI k := hv (.inl k) (by simp)
  unfold InI at ii_k
  have ii_a : InI a := hv (.inl a) (by simp)
  unfold InI at ii_a
  have ii_b : InI b := hv (.inl b) (by simp)
  unfold InI at ii_b
  have ii_c : InI c := hv (.inl c) (by simp)
  unfold InI at ii_c
  have ii_e : InI e := hv (.inl e) (by simp)
  unfold InI at ii_e
  clear hv
  have h8 := hI.1.b.1
  show Tx (Ex S (n + 1)) S M_46 (kI K E) 0 0 0 [some (.inr 0), some (.inl k), some (.inl a), some (.inl b), some (.inl c), some (.inl e)] [] mem
  refine Tx.aload_n hC te_46_0 rfl ?_
  refine Tx.getR hC te_46_1 rfl rfl rfl ?_
  refine Tx.getI hC te_46_4 rfl rfl rfl (fun v1 v1e v1i => ?_)
  unfold InI at v1i
  first | rw [upm_ne (by omega), putM_at.2.2.2.2.2.2] at v1e | skip
  refine Tx.bipush hC te_46_7 rfl rfl ?_
  refine Tx.icmp hC (t := 23) te_46_9 (by decide) (fun q3 => ?_) (fun q3 => ?_)
  · replace q3 : (v1 : Int) < 8 := q3
    refine Tx.aload_n hC te_46_23 rfl ?_
    refine Tx.getR hC te_46_24 rfl rfl rfl ?_
    refine Tx.iload_n hC te_46_27 rfl ?_
    refine Tx.iload_n hC te_46_28 rfl ?_
    refine Tx.iload_n hC te_46_29 rfl ?_
    refine Tx.iload hC te_46_30 rfl ?_
    refine Tx.iload hC te_46_32 rfl ?_
    refine Tx.virtV hC te_46_34 mt_47 (args := [.inr 1, .inl k, .inl a, .inl b, .inl c, .inl e]) (rest := []) (c' := 0) (s' := 0) rfl rfl rfl rfl rfl rfl rfl rfl rfl rfl ?_
    refine f_47 (by omega) ?_
    have r4b := putM_ok (n := (mem 1 0).toNat) hI.1.b (by omega) (by omega) hk h3 h4 h5
    have r4f : Frm pBd mem (putM mem (mem 1 0).toNat k a b c e) := fun A i q => putM_ne (by unfold pBd at q; omega)
    refine Tx.aload_n hC te_46_37 rfl ?_
    refine Tx.iconst hC te_46_38 rfl ?_
    refine Tx.putB hC te_46_39 rfl rfl rfl rfl (by omega) ?_
    have hC_9 : ClS (upm (putM mem (mem 1 0).toNat k a b c e) 0 11 1) := ClS.bd hI (Frm.up r4f (by unfold pBd; omega)) (BodyOK.up r4b (by omega)) upm_eq
    refine Tx.aload_n hC te_46_42 rfl ?_
    refine Tx.getR hC te_46_43 rfl rfl rfl ?_
    refine Tx.getI hC te_46_46 rfl rfl rfl (fun v10 v10e v10i => ?_)
    unfold InI at v10i
    first | rw [upm_ne (by omega), putM_at.2.2.2.2.2.2] at v10e | skip
    refine Tx.iconst hC te_46_49 rfl ?_
    refine Tx.isubW hC te_46_50 (fun z12 z12i z12e => ?_)
    unfold InI at z12i z12e
    first | replace z12e := z12e (by omega) | clear z12e
    exact Tx.ireturn hC te_46_51 rfl (fun hr => show K z12 (upm (putM mem (mem 1 0).toNat k a b c e) 0 11 1) from H (by omega) _ _ (by omega) hC_9 rfl)
  · replace q3 : ¬ ((v1 : Int) < 8) := q3
    exact Tx.thr hC te_46_12 rfl rfl rfl rfl rfl (show E 1 mem from HE (by omega))
theorem f_44x {S : Nat × (Nat → Int32)} {n : Nat} {mem : MM} {K : Int → MM → Prop} {E : Nat → MM → Prop} (hI : ClS mem) {p0 p1 p2 p3 p4 : Int} (H : (0 ≤ p0 ∧ p0 < 4) ∧ srcX p1 p2 ∧ srcX p3 p4 → mem 1 0 < 8 → ∀ r m', r = mem 1 0 → ClS m' → m' = upm (putM mem (mem 1 0).toNat p0 p1 p2 p3 p4) 0 11 1 → K r m') (HE0 : ¬ ((0 ≤ p0 ∧ p0 < 4) ∧ srcX p1 p2 ∧ srcX p3 p4) → E 0 mem) (HE1 : (0 ≤ p0 ∧ p0 < 4) ∧ srcX p1 p2 ∧ srcX p3 p4 → ¬ mem 1 0 < 8 → E 1 mem) : CQI (Ex S (n + 3)) 44 [.inr 0, .inl p0, .inl p1, .inl p2, .inl p3, .inl p4] mem K E := by
  refine CY.of (k := 0) mt_44 rfl rfl (fun hv => ?_)
  have hC := Ex.mono S (n + 2)
  have ii_p0 : InI p0 := hv (.inl p0) (by simp)
  unfold InI at ii_p0
  have ii_p1 : InI p1 := hv (.inl p1) (by simp)
  unfold InI at ii_p1
  have ii_p2 : InI p2 := hv (.inl p2) (by simp)
  unfold InI at ii_p2
  have ii_p3 : InI p3 := hv (.inl p3) (by simp)
  unfold InI at ii_p3
  have ii_p4 : InI p4 := hv (.inl p4) (by simp)
  unfold InI at ii_p4
  clear hv
  have h8 := hI.1.b.1
  show Tx (Ex S (n + 2)) S M_44 (kI K E) 0 0 0 [some (.inr 0), some (.inl p0), some (.inl p1), some (.inl p2), some (.inl p3), some (.inl p4)] [] mem
  refine Tx.iload_n hC te_44_0 rfl ?_
  refine Tx.ifc hC (t := 27) te_44_1 (by decide) (fun q1 => ?_) (fun q1 => ?_)
  · replace q1 : (p0 : Int) < 0 := q1
    exact Tx.thr hC te_44_27 rfl rfl rfl rfl rfl (show E 0 mem from HE0 (by intro w; first | (have := w.1; omega) | exact absurd w (by assumption) | exact absurd w.1 (by assumption) | exact absurd w.2 (by assumption) | exact absurd w.2.1 (by assumption) | exact absurd w.2.2 (by assumption)))
  · replace q1 : ¬ ((p0 : Int) < 0) := q1
    refine Tx.iload_n hC te_44_4 rfl ?_
    refine Tx.iconst hC te_44_5 rfl ?_
    refine Tx.icmp hC (t := 27) te_44_6 (by decide) (fun q2 => ?_) (fun q2 => ?_)
    · replace q2 : 4 ≤ (p0 : Int) := q2
      exact Tx.thr hC te_44_27 rfl rfl rfl rfl rfl (show E 0 mem from HE0 (by intro w; first | (have := w.1; omega) | exact absurd w (by assumption) | exact absurd w.1 (by assumption) | exact absurd w.2 (by assumption) | exact absurd w.2.1 (by assumption) | exact absurd w.2.2 (by assumption)))
    · replace q2 : ¬ (4 ≤ (p0 : Int)) := q2
      refine Tx.iload_n hC te_44_9 rfl ?_
      refine Tx.iload_n hC te_44_10 rfl ?_
      refine Tx.statI hC te_44_11 (by decide) mt_45 (args := [.inl p1, .inl p2]) (rest := []) (c' := 0) (s' := 0) rfl rfl rfl rfl rfl rfl rfl ?_
      refine f_45x (fun r3s r3i => ?_) (fun r3s r3i => ?_)
      · skip
        refine Tx.ifc hC (t := 27) te_44_14 (by decide) (fun q => absurd q (show ¬ ((1 : Int) = 0) by decide)) (fun q => ?_)
        refine Tx.iload hC te_44_17 rfl ?_
        refine Tx.iload hC te_44_19 rfl ?_
        refine Tx.statI hC te_44_21 (by decide) mt_45 (args := [.inl p3, .inl p4]) (rest := []) (c' := 0) (s' := 0) rfl rfl rfl rfl rfl rfl rfl ?_
        refine f_45x (fun r6s r6i => ?_) (fun r6s r6i => ?_)
        · skip
          refine Tx.ifc hC (t := 37) te_44_24 (by decide) (fun q => ?_) (fun q => absurd (show ¬ (1 : Int) = 0 by decide) q)
          refine Tx.aload_n hC te_44_37 rfl ?_
          refine Tx.iload_n hC te_44_38 rfl ?_
          refine Tx.iload_n hC te_44_39 rfl ?_
          refine Tx.iload_n hC te_44_40 rfl ?_
          refine Tx.iload hC te_44_41 rfl ?_
          refine Tx.iload hC te_44_43 rfl ?_
          refine Tx.virtI hC te_44_45 mt_46 (args := [.inr 0, .inl p0, .inl p1, .inl p2, .inl p3, .inl p4]) (rest := []) (c' := 1) (s' := 6) rfl rfl rfl rfl rfl rfl rfl rfl rfl rfl ?_
          refine f_46x hI (by omega) (fun z => ⟨srcX.ok (by assumption), srcX.ok (by assumption)⟩) (fun z => absurd z (by omega)) (fun z => absurd z (by omega)) (fun r9h r9 m10 r9e r9C r9m r9i => ?_) (fun r9h => HE1 (by exact ⟨⟨by omega, by omega⟩, by assumption, by assumption⟩) r9h)
          have hF11n : Frm pCl mem m10 := by rw [r9m]; exact fun A i q => by rw [upm_ne (by unfold pCl at q; omega), putM_ne (by unfold pCl at q; omega)]
          unfold InI at r9i
          exact Tx.ireturn hC te_44_48 rfl (fun hr => show K r9 m10 from H (by exact ⟨⟨by omega, by omega⟩, by assumption, by assumption⟩) r9h _ _ r9e r9C r9m)
        · skip
          refine Tx.ifc hC (t := 37) te_44_24 (by decide) (fun q => absurd q (show ¬ (¬ (0 : Int) = 0) by decide)) (fun q => ?_)
          exact Tx.thr hC te_44_27 rfl rfl rfl rfl rfl (show E 0 mem from HE0 (by intro w; first | (have := w.1; omega) | exact absurd w (by assumption) | exact absurd w.1 (by assumption) | exact absurd w.2 (by assumption) | exact absurd w.2.1 (by assumption) | exact absurd w.2.2 (by assumption)))
      · skip
        refine Tx.ifc hC (t := 27) te_44_14 (by decide) (fun q => ?_) (fun q => absurd (show (0 : Int) = 0 by decide) q)
        exact Tx.thr hC te_44_27 rfl rfl rfl rfl rfl (show E 0 mem from HE0 (by intro w; first | (have := w.1; omega) | exact absurd w (by assumption) | exact absurd w.1 (by assumption) | exact absurd w.2 (by assumption) | exact absurd w.2.1 (by assumption) | exact absurd w.2.2 (by assumption)))
theorem f_49x {S : Nat × (Nat → Int32)} {n : Nat} {mem : MM} {K : Int → MM → Prop} {E : Nat → MM → Prop} (hI : ClS mem) {p0 p1 : Int} (H : rowX p0 p1 → mem 1 0 < 8 → ∀ r m', r = mem 1 0 → ClS m' → m' = upm (putM mem (mem 1 0).toNat 4 p0 p1 0 0) 0 11 1 → K r m') (HE0 : ¬ (rowX p0 p1) → E 0 mem) (HE1 : rowX p0 p1 → ¬ mem 1 0 < 8 → E 1 mem) : CQI (Ex S (n + 3)) 49 [.inr 0, .inl p0, .inl p1] mem K E := by
  refine CY.of (k := 0) mt_49 rfl rfl (fun hv => ?_)
  have hC := Ex.mono S (n + 2)
  have ii_p0 : InI p0 := hv (.inl p0) (by simp)
  unfold InI at ii_p0
  have ii_p1 : InI p1 := hv (.inl p1) (by simp)
  unfold InI at ii_p1
  clear hv
  have h8 := hI.1.b.1
  show Tx (Ex S (n + 2)) S M_49 (kI K E) 0 0 0 [some (.inr 0), some (.inl p0), some (.inl p1)] [] mem
  refine Tx.iload_n hC te_49_0 rfl ?_
  refine Tx.iload_n hC te_49_1 rfl ?_
  refine Tx.statI hC te_49_2 (by decide) mt_50 (args := [.inl p0, .inl p1]) (rest := []) (c' := 0) (s' := 0) rfl rfl rfl rfl rfl rfl rfl ?_
  refine f_50x (fun r1s r1i => ?_) (fun r1s r1i => ?_)
  · skip
    refine Tx.ifc hC (t := 18) te_49_5 (by decide) (fun q => ?_) (fun q => absurd (show ¬ (1 : Int) = 0 by decide) q)
    refine Tx.aload_n hC te_49_18 rfl ?_
    refine Tx.iconst hC te_49_19 rfl ?_
    refine Tx.iload_n hC te_49_20 rfl ?_
    refine Tx.iload_n hC te_49_21 rfl ?_
    refine Tx.iconst hC te_49_22 rfl ?_
    refine Tx.iconst hC te_49_23 rfl ?_
    refine Tx.virtI hC te_49_24 mt_46 (args := [.inr 0, .inl 4, .inl p0, .inl p1, .inl 0, .inl 0]) (rest := []) (c' := 1) (s' := 6) rfl rfl rfl rfl rfl rfl rfl rfl rfl rfl ?_
    refine f_46x hI (by omega) (fun z => absurd z (by omega)) (fun z => rowX.w (by assumption)) (fun z => absurd z (by omega)) (fun r4h r4 m5 r4e r4C r4m r4i => ?_) (fun r4h => HE1 (by assumption) r4h)
    have hF6n : Frm pCl mem m5 := by rw [r4m]; exact fun A i q => by rw [upm_ne (by unfold pCl at q; omega), putM_ne (by unfold pCl at q; omega)]
    unfold InI at r4i
    exact Tx.ireturn hC te_49_27 rfl (fun hr => show K r4 m5 from H (by assumption) r4h _ _ r4e r4C r4m)
  · skip
    refine Tx.ifc hC (t := 18) te_49_5 (by decide) (fun q => absurd q (show ¬ (¬ (0 : Int) = 0) by decide)) (fun q => ?_)
    exact Tx.thr hC te_49_8 rfl rfl rfl rfl rfl (show E 0 mem from HE0 (by intro w; first | (have := w.1; omega) | exact absurd w (by assumption) | exact absurd w.1 (by assumption) | exact absurd w.2 (by assumption) | exact absurd w.2.1 (by assumption) | exact absurd w.2.2 (by assumption)))
theorem f_52x {S : Nat × (Nat → Int32)} {n : Nat} {mem : MM} {K : Int → MM → Prop} {E : Nat → MM → Prop} (hI : ClS mem) {p0 p1 p2 p3 : Int} (H : srcX p0 p1 ∧ rowX p2 p3 → mem 1 0 < 8 → ∀ r m', r = mem 1 0 → ClS m' → m' = upm (putM mem (mem 1 0).toNat 5 p0 p1 p2 p3) 0 11 1 → K r m') (HE0 : ¬ (srcX p0 p1 ∧ rowX p2 p3) → E 0 mem) (HE1 : srcX p0 p1 ∧ rowX p2 p3 → ¬ mem 1 0 < 8 → E 1 mem) : CQI (Ex S (n + 3)) 52 [.inr 0, .inl p0, .inl p1, .inl p2, .inl p3] mem K E := by
  refine CY.of (k := 0) mt_52 rfl rfl (fun hv => ?_)
  have hC := Ex.mono S (n + 2)
  have ii_p0 : InI p0 := hv (.inl p0) (by simp)
  unfold InI at ii_p0
  have ii_p1 : InI p1 := hv (.inl p1) (by simp)
  unfold InI at ii_p1
  have ii_p2 : InI p2 := hv (.inl p2) (by simp)
  unfold InI at ii_p2
  have ii_p3 : InI p3 := hv (.inl p3) (by simp)
  unfold InI at ii_p3
  clear hv
  have h8 := hI.1.b.1
  show Tx (Ex S (n + 2)) S M_52 (kI K E) 0 0 0 [some (.inr 0), some (.inl p0), some (.inl p1), some (.inl p2), some (.inl p3)] [] mem
  refine Tx.iload_n hC te_52_0 rfl ?_
  refine Tx.iload_n hC te_52_1 rfl ?_
  refine Tx.statI hC te_52_2 (by decide) mt_45 (args := [.inl p0, .inl p1]) (rest := []) (c' := 0) (s' := 0) rfl rfl rfl rfl rfl rfl rfl ?_
  refine f_45x (fun r1s r1i => ?_) (fun r1s r1i => ?_)
  · skip
    refine Tx.ifc hC (t := 17) te_52_5 (by decide) (fun q => absurd q (show ¬ ((1 : Int) = 0) by decide)) (fun q => ?_)
    refine Tx.iload_n hC te_52_8 rfl ?_
    refine Tx.iload hC te_52_9 rfl ?_
    refine Tx.statI hC te_52_11 (by decide) mt_50 (args := [.inl p2, .inl p3]) (rest := []) (c' := 0) (s' := 0) rfl rfl rfl rfl rfl rfl rfl ?_
    refine f_50x (fun r4s r4i => ?_) (fun r4s r4i => ?_)
    · skip
      refine Tx.ifc hC (t := 27) te_52_14 (by decide) (fun q => ?_) (fun q => absurd (show ¬ (1 : Int) = 0 by decide) q)
      refine Tx.aload_n hC te_52_27 rfl ?_
      refine Tx.iconst hC te_52_28 rfl ?_
      refine Tx.iload_n hC te_52_29 rfl ?_
      refine Tx.iload_n hC te_52_30 rfl ?_
      refine Tx.iload_n hC te_52_31 rfl ?_
      refine Tx.iload hC te_52_32 rfl ?_
      refine Tx.virtI hC te_52_34 mt_46 (args := [.inr 0, .inl 5, .inl p0, .inl p1, .inl p2, .inl p3]) (rest := []) (c' := 1) (s' := 6) rfl rfl rfl rfl rfl rfl rfl rfl rfl rfl ?_
      refine f_46x hI (by omega) (fun z => absurd z (by omega)) (fun z => absurd z (by omega)) (fun z => ⟨srcX.ok (by assumption), rowX.w (by assumption)⟩) (fun r7h r7 m8 r7e r7C r7m r7i => ?_) (fun r7h => HE1 (by exact ⟨by assumption, by assumption⟩) r7h)
      have hF9n : Frm pCl mem m8 := by rw [r7m]; exact fun A i q => by rw [upm_ne (by unfold pCl at q; omega), putM_ne (by unfold pCl at q; omega)]
      unfold InI at r7i
      exact Tx.ireturn hC te_52_37 rfl (fun hr => show K r7 m8 from H (by exact ⟨by assumption, by assumption⟩) r7h _ _ r7e r7C r7m)
    · skip
      refine Tx.ifc hC (t := 27) te_52_14 (by decide) (fun q => absurd q (show ¬ (¬ (0 : Int) = 0) by decide)) (fun q => ?_)
      exact Tx.thr hC te_52_17 rfl rfl rfl rfl rfl (show E 0 mem from HE0 (by intro w; first | (have := w.1; omega) | exact absurd w (by assumption) | exact absurd w.1 (by assumption) | exact absurd w.2 (by assumption) | exact absurd w.2.1 (by assumption) | exact absurd w.2.2 (by assumption)))
  · skip
    refine Tx.ifc hC (t := 17) te_52_5 (by decide) (fun q => ?_) (fun q => absurd (show (0 : Int) = 0 by decide) q)
    exact Tx.thr hC te_52_17 rfl rfl rfl rfl rfl (show E 0 mem from HE0 (by intro w; first | (have := w.1; omega) | exact absurd w (by assumption) | exact absurd w.1 (by assumption) | exact absurd w.2 (by assumption) | exact absurd w.2.1 (by assumption) | exact absurd w.2.2 (by assumption)))
