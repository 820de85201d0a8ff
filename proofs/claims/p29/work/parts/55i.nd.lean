/-! laid by wip/hand/tg.py: isSound and need of the class, exactly -/
def ndQ (m : MM) (a w : Int) : Int := if w = 0 then m 10 a.toNat else if w = 1 then m 11 a.toNat else if w = 2 then m 12 a.toNat else m 13 a.toNat
theorem f_69x {S : Nat × (Nat → Int32)} {n : Nat} {mem : MM} {K : MM → Prop} {E : Nat → MM → Prop} (hI : ClS mem) (H : ∀ m', Rdy m' → Frm pNb mem m' → K m') (HE : ∀ m', ClS m' → Frm pNb mem m' → ¬ SndX m' → E 1 m') : CQV (Ex S (n + 14)) 69 [.inr 0] mem K E := by
  refine CY.of (k := 0) mt_69 rfl rfl (fun hv => ?_)
  have hC := Ex.mono S (n + 13)
  clear hv
  show Tx (Ex S (n + 13)) S M_69 (kV K E) 0 0 0 [some (.inr 0)] [] mem
  refine Tx.aload_n hC te_69_0 rfl ?_
  refine Tx.virtV hC te_69_1 mt_11 (args := [.inr 0]) (rest := []) (c' := 0) (s' := 0) rfl rfl rfl rfl rfl rfl rfl rfl rfl rfl ?_
  refine f_11 hI (fun m2 r1I hF3 => ?_)
  have hF3n : Frm pNb mem m2 := Frm.rf.tr hF3
  refine Tx.aload_n hC te_69_4 rfl ?_
  refine Tx.getI hC te_69_5 rfl rfl rfl (fun v4 v4e v4i => ?_)
  unfold InI at v4i
  have f5 := r1I.1.1.so
  refine Tx.ifc hC (t := 22) te_69_8 (by decide) (fun q6 => ?_) (fun q6 => ?_)
  · replace q6 : ¬ (v4 : Int) = 0 := q6
    exact Tx.vret hC te_69_22 rfl (show K m2 from H _ (r1I.rdy (by omega)) hF3n)
  · replace q6 : ¬ (¬ (v4 : Int) = 0) := q6
    exact Tx.thr hC te_69_11 rfl rfl rfl rfl rfl (show E 1 m2 from HE _ r1I.cs hF3n (fun q => absurd (r1I.1.2.2.2.mpr q) (by omega)))
theorem f_10x {S : Nat × (Nat → Int32)} {n : Nat} {mem : MM} {K : Int → MM → Prop} {E : Nat → MM → Prop} (hI : ClS mem) (H : ∀ r m', ClS m' → Frm pNb mem m' → (r = 0 ∨ r = 1) → (r = 1 ↔ SndX m') → K r m') : CQI (Ex S (n + 14)) 10 [.inr 0] mem K E := by
  refine CY.of (k := 0) mt_10 rfl rfl (fun hv => ?_)
  have hC := Ex.mono S (n + 13)
  clear hv
  show Tx (Ex S (n + 13)) S M_10 (kI K E) 0 0 0 [some (.inr 0)] [] mem
  refine Tx.aload_n hC te_10_0 rfl ?_
  refine Tx.virtV hC te_10_1 mt_11 (args := [.inr 0]) (rest := []) (c' := 0) (s' := 0) rfl rfl rfl rfl rfl rfl rfl rfl rfl rfl ?_
  refine f_11 hI (fun m2 r1I hF3 => ?_)
  have hF3n : Frm pNb mem m2 := Frm.rf.tr hF3
  refine Tx.aload_n hC te_10_4 rfl ?_
  refine Tx.getI hC te_10_5 rfl rfl rfl (fun v4 v4e v4i => ?_)
  unfold InI at v4i
  have f5 := r1I.1.1.so
  exact Tx.bret hC te_10_8 rfl (by omega) (show K v4 m2 from H _ _ r1I.cs hF3n (by omega) (by rw [v4e]; exact r1I.1.2.2.2))
theorem f_70n {S : Nat × (Nat → Int32)} {n : Nat} {mem : MM} {K : MM → Prop} {E : Nat → MM → Prop} {o : Int} (H : 0 ≤ o ∧ o < mem 9 0 → K mem) (HE : ¬ (0 ≤ o ∧ o < mem 9 0) → E 2 mem) : CQV (Ex S (n + 1)) 70 [.inr 0, .inl o] mem K E := by
  refine CY.of (k := 0) mt_70 rfl rfl (fun hv => ?_)
  have hC := Ex.mono S n
  have ii_o : InI o := hv (.inl o) (by simp)
  unfold InI at ii_o
  clear hv
  show Tx (Ex S n) S M_70 (kV K E) 0 0 0 [some (.inr 0), some (.inl o)] [] mem
  refine Tx.iload_n hC te_70_0 rfl ?_
  refine Tx.ifc hC (t := 15) te_70_1 (by decide) (fun q1 => ?_) (fun q1 => ?_)
  · replace q1 : (o : Int) < 0 := q1
    exact Tx.thr hC te_70_15 rfl rfl rfl rfl rfl (show E 2 mem from HE (by omega))
  · replace q1 : ¬ ((o : Int) < 0) := q1
    refine Tx.iload_n hC te_70_4 rfl ?_
    refine Tx.aload_n hC te_70_5 rfl ?_
    refine Tx.getR hC te_70_6 rfl rfl rfl ?_
    refine Tx.getI hC te_70_9 rfl rfl rfl (fun v2 v2e v2i => ?_)
    unfold InI at v2i
    refine Tx.icmp hC (t := 26) te_70_12 (by decide) (fun q3 => ?_) (fun q3 => ?_)
    · replace q3 : (o : Int) < v2 := q3
      exact Tx.vret hC te_70_26 rfl (show K mem from H (by omega))
    · replace q3 : ¬ ((o : Int) < v2) := q3
      exact Tx.thr hC te_70_15 rfl rfl rfl rfl rfl (show E 2 mem from HE (by omega))
theorem f_68x {S : Nat × (Nat → Int32)} {n : Nat} {mem : MM} {K : Int → MM → Prop} {E : Nat → MM → Prop} (hI : ClS mem) {p0 p1 : Int} (H : ∀ r m', ClS m' → Frm pNb mem m' → SndX m' → Enum (cwq m' 9) (m' 9 0).toNat (NdC m' (-1)) → 0 ≤ p0 ∧ p0 < m' 9 0 → 0 ≤ p1 ∧ p1 ≤ 3 → r = ndQ m' p0 p1 → K r m') (HE1 : ∀ m', ClS m' → Frm pNb mem m' → ¬ SndX m' → E 1 m') (HE2 : ∀ m', ClS m' → Frm pNb mem m' → SndX m' → Enum (cwq m' 9) (m' 9 0).toNat (NdC m' (-1)) → ¬ (0 ≤ p0 ∧ p0 < m' 9 0) → E 2 m') (HE3 : ∀ m', ClS m' → Frm pNb mem m' → SndX m' → Enum (cwq m' 9) (m' 9 0).toNat (NdC m' (-1)) → 0 ≤ p0 ∧ p0 < m' 9 0 → ¬ (0 ≤ p1 ∧ p1 ≤ 3) → E 3 m') : CQI (Ex S (n + 17)) 68 [.inr 0, .inl p0, .inl p1] mem K E := by
  refine CY.of (k := 0) mt_68 rfl rfl (fun hv => ?_)
  have hC := Ex.mono S (n + 16)
  have ii_p0 : InI p0 := hv (.inl p0) (by simp)
  unfold InI at ii_p0
  have ii_p1 : InI p1 := hv (.inl p1) (by simp)
  unfold InI at ii_p1
  clear hv
  have h8 := hI.1.b.1
  show Tx (Ex S (n + 16)) S M_68 (kI K E) 0 0 0 [some (.inr 0), some (.inl p0), some (.inl p1)] [] mem
  refine Tx.aload_n hC te_68_0 rfl ?_
  refine Tx.virtV hC te_68_1 mt_69 (args := [.inr 0]) (rest := []) (c' := 1) (s' := 6) rfl rfl rfl rfl rfl rfl rfl rfl rfl rfl ?_
  refine f_69x hI (fun m2 r1R hF3 => ?_) (fun m2 r1C hF3 r1s => HE1 _ r1C (Frm.rf.tr hF3) r1s)
  have r1w := r1R.1.w.2
  have hF3n : Frm pNb mem m2 := Frm.rf.tr hF3
  refine Tx.aload_n hC te_68_4 rfl ?_
  refine Tx.iload_n hC te_68_5 rfl ?_
  refine Tx.virtV hC te_68_6 mt_70 (args := [.inr 0, .inl p0]) (rest := []) (c' := 2) (s' := 12) rfl rfl rfl rfl rfl rfl rfl rfl rfl rfl ?_
  refine f_70n (fun r4a => ?_) (fun r4n => HE2 _ r1R.cs hF3n r1R.2.2.2.2 r1R.2.2.2.1.2.1 r4n)
  refine Tx.iload_n hC te_68_9 rfl ?_
  refine Tx.iconst hC te_68_10 rfl ?_
  refine Tx.statV hC te_68_11 (by decide) mt_66 (args := [.inl p1, .inl 3]) (rest := []) (c' := 3) (s' := 18) rfl rfl rfl rfl rfl rfl rfl ?_
  refine f_66n (fun r7a => ?_) (fun r7n => HE3 _ r1R.cs hF3n r1R.2.2.2.2 r1R.2.2.2.1.2.1 (by omega) r7n)
  refine Tx.iload_n hC te_68_14 rfl ?_
  refine Tx.tsw hC (t := 70) (ts := [40, 50, 60]) te_68_15 rfl (by decide) rfl (fun q10 => ?_) (fun i t e q10 => ?_)
  · skip
    refine Tx.aload_n hC te_68_70 rfl ?_
    refine Tx.getR hC te_68_71 rfl rfl rfl ?_
    refine Tx.getR hC te_68_74 rfl rfl rfl ?_
    refine Tx.iload_n hC te_68_77 rfl ?_
    refine Tx.iald hC te_68_78 rfl (by omega) (fun v11 v11e v11i => ?_)
    unfold InI at v11i
    exact Tx.ireturn hC te_68_79 rfl (fun hr => show K v11 m2 from H _ _ r1R.cs hF3n r1R.2.2.2.2 r1R.2.2.2.1.2.1 (by omega) (by omega) (by unfold ndQ; first | (rw [if_pos (by omega)]; assumption) | (rw [if_neg (by omega), if_pos (by omega)]; assumption) | (rw [if_neg (by omega), if_neg (by omega), if_pos (by omega)]; assumption) | (rw [if_neg (by omega), if_neg (by omega), if_neg (by omega)]; assumption)))
  · have hi : i = 0 ∨ i = 1 ∨ i = 2 := by
      have := (List.getElem?_eq_some_iff.mp e).1
      simp only [List.length_cons, List.length_nil] at this
      omega
    rcases hi with hi | hi | hi
    · subst hi
      cases (show some 40 = some t from e)
      refine Tx.aload_n hC te_68_40 rfl ?_
      refine Tx.getR hC te_68_41 rfl rfl rfl ?_
      refine Tx.getR hC te_68_44 rfl rfl rfl ?_
      refine Tx.iload_n hC te_68_47 rfl ?_
      refine Tx.iald hC te_68_48 rfl (by omega) (fun v12 v12e v12i => ?_)
      unfold InI at v12i
      exact Tx.ireturn hC te_68_49 rfl (fun hr => show K v12 m2 from H _ _ r1R.cs hF3n r1R.2.2.2.2 r1R.2.2.2.1.2.1 (by omega) (by omega) (by unfold ndQ; first | (rw [if_pos (by omega)]; assumption) | (rw [if_neg (by omega), if_pos (by omega)]; assumption) | (rw [if_neg (by omega), if_neg (by omega), if_pos (by omega)]; assumption) | (rw [if_neg (by omega), if_neg (by omega), if_neg (by omega)]; assumption)))
    · subst hi
      cases (show some 50 = some t from e)
      refine Tx.aload_n hC te_68_50 rfl ?_
      refine Tx.getR hC te_68_51 rfl rfl rfl ?_
      refine Tx.getR hC te_68_54 rfl rfl rfl ?_
      refine Tx.iload_n hC te_68_57 rfl ?_
      refine Tx.iald hC te_68_58 rfl (by omega) (fun v13 v13e v13i => ?_)
      unfold InI at v13i
      exact Tx.ireturn hC te_68_59 rfl (fun hr => show K v13 m2 from H _ _ r1R.cs hF3n r1R.2.2.2.2 r1R.2.2.2.1.2.1 (by omega) (by omega) (by unfold ndQ; first | (rw [if_pos (by omega)]; assumption) | (rw [if_neg (by omega), if_pos (by omega)]; assumption) | (rw [if_neg (by omega), if_neg (by omega), if_pos (by omega)]; assumption) | (rw [if_neg (by omega), if_neg (by omega), if_neg (by omega)]; assumption)))
    · subst hi
      cases (show some 60 = some t from e)
      refine Tx.aload_n hC te_68_60 rfl ?_
      refine Tx.getR hC te_68_61 rfl rfl rfl ?_
      refine Tx.getR hC te_68_64 rfl rfl rfl ?_
      refine Tx.iload_n hC te_68_67 rfl ?_
      refine Tx.iald hC te_68_68 rfl (by omega) (fun v14 v14e v14i => ?_)
      unfold InI at v14i
      exact Tx.ireturn hC te_68_69 rfl (fun hr => show K v14 m2 from H _ _ r1R.cs hF3n r1R.2.2.2.2 r1R.2.2.2.1.2.1 (by omega) (by omega) (by unfold ndQ; first | (rw [if_pos (by omega)]; assumption) | (rw [if_neg (by omega), if_pos (by omega)]; assumption) | (rw [if_neg (by omega), if_neg (by omega), if_pos (by omega)]; assumption) | (rw [if_neg (by omega), if_neg (by omega), if_neg (by omega)]; assumption)))
theorem f_188x {S : Nat × (Nat → Int32)} {n : Nat} {mem : MM} {K : Int → MM → Prop} {E : Nat → MM → Prop} (hI : ClS mem) {p0 : Int} (H : ∀ r m', ClS m' → Frm pNb mem m' → SndX m' → WbX m' → r = (if p0 = 0 then m' 9 5 else m' 9 6) → K r m') (HE1 : ∀ m', ClS m' → Frm pNb mem m' → ¬ SndX m' → E 1 m') : CQI (Ex S (n + 17)) 188 [.inr 0, .inl p0] mem K E := by
  refine CY.of (k := 0) mt_188 rfl rfl (fun hv => ?_)
  have hC := Ex.mono S (n + 16)
  have ii_p0 : InI p0 := hv (.inl p0) (by simp)
  unfold InI at ii_p0
  clear hv
  show Tx (Ex S (n + 16)) S M_188 (kI K E) 0 0 0 [some (.inr 0), some (.inl p0)] [] mem
  refine Tx.aload_n hC te_188_0 rfl ?_
  refine Tx.virtV hC te_188_1 mt_69 (args := [.inr 0]) (rest := []) (c' := 1) (s' := 6) rfl rfl rfl rfl rfl rfl rfl rfl rfl rfl ?_
  refine f_69x hI (fun m2 r1R hF3 => ?_) (fun m2 r1C hF3 r1s => HE1 _ r1C (Frm.rf.tr hF3) r1s)
  have r1w := r1R.1.w.2
  have hF3n : Frm pNb mem m2 := Frm.rf.tr hF3
  refine Tx.iload_n hC te_188_4 rfl ?_
  refine Tx.ifc hC (t := 18) te_188_5 (by decide) (fun q4 => ?_) (fun q4 => ?_)
  · replace q4 : (p0 : Int) = 0 := q4
    refine Tx.aload_n hC te_188_18 rfl ?_
    refine Tx.getR hC te_188_19 rfl rfl rfl ?_
    refine Tx.getI hC te_188_22 rfl rfl rfl (fun v5 v5e v5i => ?_)
    unfold InI at v5i
    exact Tx.ireturn hC te_188_25 rfl (fun hr => show K v5 m2 from H _ _ r1R.cs hF3n r1R.2.2.2.2 r1R.2.2.2.1 (by first | (rw [if_pos (by omega)]; assumption) | (rw [if_neg (by omega)]; assumption)))
  · replace q4 : ¬ ((p0 : Int) = 0) := q4
    refine Tx.aload_n hC te_188_8 rfl ?_
    refine Tx.getR hC te_188_9 rfl rfl rfl ?_
    refine Tx.getI hC te_188_12 rfl rfl rfl (fun v6 v6e v6i => ?_)
    unfold InI at v6i
    refine Tx.goto hC (t := 25) te_188_15 (by decide) ?_
    exact Tx.ireturn hC te_188_25 rfl (fun hr => show K v6 m2 from H _ _ r1R.cs hF3n r1R.2.2.2.2 r1R.2.2.2.1 (by first | (rw [if_pos (by omega)]; assumption) | (rw [if_neg (by omega)]; assumption)))
theorem f_190x {S : Nat × (Nat → Int32)} {n : Nat} {mem : MM} {K : Int → MM → Prop} {E : Nat → MM → Prop} (hI : ClS mem) (H : ∀ r m', ClS m' → Frm pNb mem m' → SndX m' → WbX m' → r = m' 9 7 → K r m') (HE1 : ∀ m', ClS m' → Frm pNb mem m' → ¬ SndX m' → E 1 m') : CQI (Ex S (n + 17)) 190 [.inr 0] mem K E := by
  refine CY.of (k := 0) mt_190 rfl rfl (fun hv => ?_)
  have hC := Ex.mono S (n + 16)
  clear hv
  show Tx (Ex S (n + 16)) S M_190 (kI K E) 0 0 0 [some (.inr 0)] [] mem
  refine Tx.aload_n hC te_190_0 rfl ?_
  refine Tx.virtV hC te_190_1 mt_69 (args := [.inr 0]) (rest := []) (c' := 1) (s' := 6) rfl rfl rfl rfl rfl rfl rfl rfl rfl rfl ?_
  refine f_69x hI (fun m2 r1R hF3 => ?_) (fun m2 r1C hF3 r1s => HE1 _ r1C (Frm.rf.tr hF3) r1s)
  have r1w := r1R.1.w.2
  have hF3n : Frm pNb mem m2 := Frm.rf.tr hF3
  refine Tx.aload_n hC te_190_4 rfl ?_
  refine Tx.getR hC te_190_5 rfl rfl rfl ?_
  refine Tx.getI hC te_190_8 rfl rfl rfl (fun v4 v4e v4i => ?_)
  unfold InI at v4i
  exact Tx.ireturn hC te_190_11 rfl (fun hr => show K v4 m2 from H _ _ r1R.cs hF3n r1R.2.2.2.2 r1R.2.2.2.1 (by assumption))
