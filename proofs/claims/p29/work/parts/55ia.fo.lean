/-! laid by wip/hand/tg.py: fold and bestFold of the class -/
theorem mulK {k r c : Int} (hk : 1 ≤ k ∧ k ≤ 4) (hr : 0 ≤ r ∧ r ≤ c) : 0 ≤ k * r ∧ k * r ≤ 4 * c := by
  have a1 : 0 ≤ k * r := Int.mul_nonneg (by omega) hr.1
  have a2 : k * r ≤ 4 * r := Int.mul_le_mul_of_nonneg_right hk.2 hr.1
  omega
/-- the most by units, of the first so many -/
def buV (f g : Nat → Int) (k : Int) : Nat → Int
  | 0 => 0
  | u + 1 => max (buV f g k u) (upV (k * f u) (g u))
def foV (f g : Nat → Int) (k U L : Int) : Nat → Int
  | 0 => max 1 (upV (k * U) L)
  | u + 1 => max (foV f g k U L u) (upV (k * f u) (g u))
theorem foV_bu {f g : Nat → Int} {k U L : Int} : ∀ u, foV f g k U L u = max 1 (max (upV (k * U) L) (buV f g k u))
  | 0 => by unfold foV buV; omega
  | u + 1 => by unfold foV buV; rw [foV_bu u]; omega
theorem buV_cg {f g f' g' : Nat → Int} {k : Int} : ∀ u, (∀ i, i < u → f i = f' i ∧ g i = g' i) → buV f g k u = buV f' g' k u
  | 0, _ => rfl
  | u + 1, h => by unfold buV; rw [buV_cg u (fun i hi => h i (by omega)), (h u (by omega)).1, (h u (by omega)).2]
theorem buV_st {f g : Nat → Int} {k x : Int} (h : 0 ≤ x) : buV f g k (x + 1).toNat = max (buV f g k x.toNat) (upV (k * f x.toNat) (g x.toNat)) := by
  rw [show (x + 1).toNat = x.toNat + 1 by omega]; rfl
theorem foV_st {f g : Nat → Int} {k U L x : Int} (h : 0 ≤ x) : foV f g k U L (x + 1).toNat = max (foV f g k U L x.toNat) (upV (k * f x.toNat) (g x.toNat)) := by
  rw [show (x + 1).toNat = x.toNat + 1 by omega]; rfl
def fbC (m : MM) (k : Int) : Int := foV (fun u => usC m (u : Int)) (m 8) k (m 9 5) (m 9 6) 3
def fbR (m : MM) (k : Int) : Int := foV (fun u => usR m (u : Int)) (m 153) k (m 143 31) (m 143 32) 3
def bfV (f : Int → Int) : Nat → Int
  | 0 => 1
  | k + 1 => if f ((k : Int) + 2) * bfV f k < f (bfV f k) * ((k : Int) + 2) then (k : Int) + 2 else bfV f k
theorem bfV_rg {f : Int → Int} : ∀ k : Nat, 1 ≤ bfV f k ∧ bfV f k ≤ k + 1
  | 0 => by unfold bfV; omega
  | k + 1 => by
    have := bfV_rg (f := f) k
    unfold bfV
    split <;> omega
theorem bfV_st {f : Int → Int} {x : Int} (h : 2 ≤ x) : bfV f (x + 1 - 2).toNat = if f x * bfV f (x - 2).toNat < f (bfV f (x - 2).toNat) * x then x else bfV f (x - 2).toNat := by
  rw [show (x + 1 - 2).toNat = (x - 2).toNat + 1 by omega]
  have e : (((x - 2).toNat : Nat) : Int) + 2 = x := by omega
  show (if f ((((x - 2).toNat : Nat) : Int) + 2) * bfV f (x - 2).toNat < f (bfV f (x - 2).toNat) * ((((x - 2).toNat : Nat) : Int) + 2) then (((x - 2).toNat : Nat) : Int) + 2 else bfV f (x - 2).toNat) = _
  rw [e]
theorem f_35x {S : Nat × (Nat → Int32)} {n : Nat} {mem : MM} {K : Int → MM → Prop} {E : Nat → MM → Prop} (hB : BodyOK mem) {u k : Int} (hu : u = -1) (hk : 1 ≤ k ∧ k ≤ 4) (H : ∀ r, r = buV (fun u => usC mem (u : Int)) (mem 8) k 3 → 0 ≤ r → r ≤ 128 → K r mem) : CQI (Ex S (n + 3)) 35 [.inr 1, .inl u, .inl k] mem K E := by
  refine CY.of (k := 3) mt_35 rfl rfl (fun hv => ?_)
  have hC := Ex.mono S (n + 2)
  have ii_u : InI u := hv (.inl u) (by simp)
  unfold InI at ii_u
  have ii_k : InI k := hv (.inl k) (by simp)
  unfold InI at ii_k
  clear hv
  have h8 := hB.1
  show Tx (Ex S (n + 2)) S M_35 (kI K E) 0 0 0 [some (.inr 1), some (.inl u), some (.inl k), none, none, none] [] mem
  have l_5 : ∀ (N : Nat) (x3 x4 : Int), (0 ≤ x4 ∧ x4 ≤ 3) → (x3 = buV (fun u => usC mem (u : Int)) (mem 8) k x4.toNat) → (0 ≤ x3 ∧ x3 ≤ 128) → ((3 - x4).toNat) < N → Tx (Ex S (n + 2)) S M_35 (kI K E) 0 0 5 [some (.inr 1), some (.inl u), some (.inl k), some (.inl x3), some (.inl x4), none] [] mem := by
    intro N
    induction N with
    | zero => intros; omega
    | succ N ih_5 =>
      intro x3 x4 i5_0 i5_1 i5_2 hN_5 
      refine Tx.iload hC te_35_5 rfl ?_
      refine Tx.iconst hC te_35_7 rfl ?_
      refine Tx.icmp hC (t := 62) te_35_8 (by decide) (fun q1 => ?_) (fun q1 => ?_)
      · replace q1 : 3 ≤ (x4 : Int) := q1
        refine Tx.iload_n hC te_35_62 rfl ?_
        exact Tx.ireturn hC te_35_63 rfl (fun hr => show K x3 mem from H _ (by rw [show (3 : Nat) = x4.toNat by omega]; omega) (by omega) (by omega))
      · replace q1 : ¬ (3 ≤ (x4 : Int)) := q1
        refine Tx.iload hC te_35_11 rfl ?_
        refine Tx.iload_n hC te_35_13 rfl ?_
        refine Tx.icmp hC (t := 29) te_35_14 (by decide) (fun q2 => ?_) (fun q2 => ?_)
        · replace q2 : ¬ (x4 : Int) = u := q2
          refine Tx.aload_n hC te_35_29 rfl ?_
          refine Tx.getR hC te_35_30 rfl rfl rfl ?_
          refine Tx.iload hC te_35_33 rfl ?_
          refine Tx.iald hC te_35_35 rfl (by omega) (fun v3 v3e v3i => ?_)
          unfold InI at v3i
          have f4 := hB.cn (o := (Int.toNat x4)) (by omega)
          refine Tx.istore hC te_35_36 rfl ?_
          refine Tx.iload_n hC te_35_38 rfl ?_
          refine Tx.iload_n hC te_35_39 rfl ?_
          refine Tx.aload_n hC te_35_40 rfl ?_
          refine Tx.iload hC te_35_41 rfl ?_
          refine Tx.virtI hC te_35_43 mt_36 (args := [.inr 1, .inl x4]) (rest := [.inl k, .inl x3]) (c' := 0) (s' := 0) rfl rfl rfl rfl rfl rfl rfl rfl rfl rfl ?_
          refine f_36x hB (fun r5 r5e r5a r5b r5i => ?_)
          unfold InI at r5i
          have pm := mulK (r := r5) (c := 32) hk (by omega)
          refine Tx.imulW hC te_35_46 (fun z8 z8i z8e => ?_)
          unfold InI at z8i z8e
          first | replace z8e := z8e (by omega) | clear z8e
          refine Tx.iload hC te_35_47 rfl ?_
          refine Tx.statI hC te_35_49 (by decide) mt_33 (args := [.inl z8, .inl v3]) (rest := [.inl x3]) (c' := 0) (s' := 0) rfl rfl rfl rfl rfl rfl rfl ?_
          refine f_33x (by omega) (by omega) (fun r9 r9e r9i => ?_)
          have r9g := upV_rg (a := z8) (b := v3) (by omega) (by omega)
          have r9u : upV (k * usC mem x4) (mem 8 (Int.toNat x4)) = r9 := by first | (exfalso; omega) | (rw [r9e, z8e, v3e, r5e])
          unfold InI at r9i
          refine Tx.statI hC te_35_52 (by decide) mt_40 (args := [.inl x3, .inl r9]) (rest := []) (c' := 0) (s' := 0) rfl rfl rfl rfl rfl rfl rfl ?_
          refine f_40q (fun r12 r12a r12b r12c r12i => ?_)
          unfold InI at r12i
          refine Tx.istore_n hC te_35_55 rfl ?_
          refine Tx.iincW hC te_35_56 rfl rfl (fun z15 z15i z15e => ?_)
          unfold InI at z15i z15e
          first | replace z15e := z15e (by omega) | clear z15e
          refine Tx.goto hC (t := 5) te_35_59 (by decide) ?_
          exact Tx.weak (by repeat' (first | exact trivial | exact rfl | constructor)) (ih_5 r12 z15 (by omega) (by
                have w := buV_st (f := (fun u => usC mem (u : Int))) (g := mem 8) (k := k) (x := x4) (by omega)
                have w2 : ((x4.toNat : Nat) : Int) = x4 := by omega
                simp only [w2] at w
                rw [show z15 = x4 + 1 by omega, w]
                omega) (by omega) (by omega))
        · replace q2 : ¬ (¬ (x4 : Int) = u) := q2
          refine Tx.aload_n hC te_35_17 rfl ?_
          refine Tx.getR hC te_35_18 rfl rfl rfl ?_
          refine Tx.iload hC te_35_21 rfl ?_
          refine Tx.iald hC te_35_23 rfl (by omega) (fun v16 v16e v16i => ?_)
          unfold InI at v16i
          have f17 := hB.cn (o := (Int.toNat x4)) (by omega)
          refine Tx.iconst hC te_35_24 rfl ?_
          refine Tx.iaddW hC te_35_25 (fun z18 z18i z18e => ?_)
          unfold InI at z18i z18e
          first | replace z18e := z18e (by omega) | clear z18e
          refine Tx.goto hC (t := 36) te_35_26 (by decide) ?_
          refine Tx.istore hC te_35_36 rfl ?_
          refine Tx.iload_n hC te_35_38 rfl ?_
          refine Tx.iload_n hC te_35_39 rfl ?_
          refine Tx.aload_n hC te_35_40 rfl ?_
          refine Tx.iload hC te_35_41 rfl ?_
          refine Tx.virtI hC te_35_43 mt_36 (args := [.inr 1, .inl x4]) (rest := [.inl k, .inl x3]) (c' := 0) (s' := 0) rfl rfl rfl rfl rfl rfl rfl rfl rfl rfl ?_
          refine f_36x hB (fun r19 r19e r19a r19b r19i => ?_)
          unfold InI at r19i
          have pm := mulK (r := r19) (c := 32) hk (by omega)
          refine Tx.imulW hC te_35_46 (fun z22 z22i z22e => ?_)
          unfold InI at z22i z22e
          first | replace z22e := z22e (by omega) | clear z22e
          refine Tx.iload hC te_35_47 rfl ?_
          refine Tx.statI hC te_35_49 (by decide) mt_33 (args := [.inl z22, .inl z18]) (rest := [.inl x3]) (c' := 0) (s' := 0) rfl rfl rfl rfl rfl rfl rfl ?_
          refine f_33x (by omega) (by omega) (fun r23 r23e r23i => ?_)
          have r23g := upV_rg (a := z22) (b := z18) (by omega) (by omega)
          have r23u : upV (k * usC mem x4) (mem 8 (Int.toNat x4)) = r23 := by first | (exfalso; omega) | (rw [r23e, z22e, z18e, r19e])
          unfold InI at r23i
          refine Tx.statI hC te_35_52 (by decide) mt_40 (args := [.inl x3, .inl r23]) (rest := []) (c' := 0) (s' := 0) rfl rfl rfl rfl rfl rfl rfl ?_
          refine f_40q (fun r26 r26a r26b r26c r26i => ?_)
          unfold InI at r26i
          refine Tx.istore_n hC te_35_55 rfl ?_
          refine Tx.iincW hC te_35_56 rfl rfl (fun z29 z29i z29e => ?_)
          unfold InI at z29i z29e
          first | replace z29e := z29e (by omega) | clear z29e
          refine Tx.goto hC (t := 5) te_35_59 (by decide) ?_
          exact Tx.weak (by repeat' (first | exact trivial | exact rfl | constructor)) (ih_5 r26 z29 (by omega) (by
                have w := buV_st (f := (fun u => usC mem (u : Int))) (g := mem 8) (k := k) (x := x4) (by omega)
                have w2 : ((x4.toNat : Nat) : Int) = x4 := by omega
                simp only [w2] at w
                rw [show z29 = x4 + 1 by omega, w]
                omega) (by omega) (by omega))
  refine Tx.iconst hC te_35_0 rfl ?_
  refine Tx.istore_n hC te_35_1 rfl ?_
  refine Tx.iconst hC te_35_2 rfl ?_
  refine Tx.istore hC te_35_3 rfl ?_
  exact l_5 _ 0 0 (by omega) (rfl) (by omega) (Nat.lt_succ_self _)
theorem f_41x {S : Nat × (Nat → Int32)} {n : Nat} {mem : MM} {K : Int → MM → Prop} {E : Nat → MM → Prop} (hB : BodyOK mem) (hT : WtOK mem 9) {k : Int} (hk : 1 ≤ k ∧ k ≤ 4) (H : ∀ r, r = fbC mem k → 0 ≤ r → r ≤ 320 → K r mem) : CQI (Ex S (n + 4)) 41 [.inr 0, .inl k] mem K E := by
  refine CY.of (k := 0) mt_41 rfl rfl (fun hv => ?_)
  have hC := Ex.mono S (n + 3)
  have ii_k : InI k := hv (.inl k) (by simp)
  unfold InI at ii_k
  clear hv
  have hT1 := hT.1
  have hT2 := hT.2
  show Tx (Ex S (n + 3)) S M_41 (kI K E) 0 0 0 [some (.inr 0), some (.inl k)] [] mem
  refine Tx.iconst hC te_41_0 rfl ?_
  refine Tx.iload_n hC te_41_1 rfl ?_
  refine Tx.aload_n hC te_41_2 rfl ?_
  refine Tx.getR hC te_41_3 rfl rfl rfl ?_
  refine Tx.getI hC te_41_6 rfl rfl rfl (fun v1 v1e v1i => ?_)
  unfold InI at v1i
  have pm := mulK (r := v1) (c := 80) hk (by omega)
  have hv1 := v1e
  refine Tx.imulW hC te_41_9 (fun z2 z2i z2e => ?_)
  unfold InI at z2i z2e
  first | replace z2e := z2e (by omega) | clear z2e
  refine Tx.aload_n hC te_41_10 rfl ?_
  refine Tx.getR hC te_41_11 rfl rfl rfl ?_
  refine Tx.getI hC te_41_14 rfl rfl rfl (fun v3 v3e v3i => ?_)
  unfold InI at v3i
  refine Tx.statI hC te_41_17 (by decide) mt_33 (args := [.inl z2, .inl v3]) (rest := [.inl 1]) (c' := 0) (s' := 0) rfl rfl rfl rfl rfl rfl rfl ?_
  refine f_33x (by omega) (by omega) (fun r4 r4e r4i => ?_)
  have r4g := upV_rg (a := z2) (b := v3) (by omega) (by omega)
  have r4u : upV (k * mem 9 5) (mem 9 6) = r4 := by rw [r4e, z2e, v3e, hv1]
  unfold InI at r4i
  refine Tx.aload_n hC te_41_20 rfl ?_
  refine Tx.getR hC te_41_21 rfl rfl rfl ?_
  refine Tx.iconst hC te_41_24 rfl ?_
  refine Tx.iload_n hC te_41_25 rfl ?_
  refine Tx.virtI hC te_41_26 mt_35 (args := [.inr 1, .inl (-1), .inl k]) (rest := [.inl r4, .inl 1]) (c' := 0) (s' := 0) rfl rfl rfl rfl rfl rfl rfl rfl rfl rfl ?_
  refine f_35x hB rfl hk (fun r7 r7e r7a r7b r7i => ?_)
  unfold InI at r7i
  refine Tx.statI hC te_41_29 (by decide) mt_40 (args := [.inl r4, .inl r7]) (rest := [.inl 1]) (c' := 0) (s' := 0) rfl rfl rfl rfl rfl rfl rfl ?_
  refine f_40q (fun r10 r10a r10b r10c r10i => ?_)
  unfold InI at r10i
  refine Tx.statI hC te_41_32 (by decide) mt_40 (args := [.inl 1, .inl r10]) (rest := []) (c' := 0) (s' := 0) rfl rfl rfl rfl rfl rfl rfl ?_
  refine f_40q (fun r13 r13a r13b r13c r13i => ?_)
  unfold InI at r13i
  exact Tx.ireturn hC te_41_35 rfl (fun hr => show K r13 mem from H _ (by unfold fbC; rw [foV_bu]; omega) (by omega) (by omega))
theorem f_192x {S : Nat × (Nat → Int32)} {n : Nat} {mem : MM} {K : Int → MM → Prop} {E : Nat → MM → Prop} (hI : ClS mem) {p0 : Int} (H : 1 ≤ p0 ∧ p0 ≤ 4 → ∀ m', ClS m' → Frm pNb mem m' → SndX m' → WbX m' → ∀ r, r = fbC m' p0 → K r m') (HE0 : ¬ (1 ≤ p0 ∧ p0 ≤ 4) → E 0 mem) (HE1 : 1 ≤ p0 ∧ p0 ≤ 4 → ∀ m', ClS m' → Frm pNb mem m' → ¬ SndX m' → E 1 m') : CQI (Ex S (n + 17)) 192 [.inr 0, .inl p0] mem K E := by
  refine CY.of (k := 0) mt_192 rfl rfl (fun hv => ?_)
  have hC := Ex.mono S (n + 16)
  have ii_p0 : InI p0 := hv (.inl p0) (by simp)
  unfold InI at ii_p0
  clear hv
  show Tx (Ex S (n + 16)) S M_192 (kI K E) 0 0 0 [some (.inr 0), some (.inl p0)] [] mem
  refine Tx.iload_n hC te_192_0 rfl ?_
  refine Tx.iconst hC te_192_1 rfl ?_
  refine Tx.icmp hC (t := 10) te_192_2 (by decide) (fun q1 => ?_) (fun q1 => ?_)
  · replace q1 : (p0 : Int) < 1 := q1
    exact Tx.thr hC te_192_10 rfl rfl rfl rfl rfl (show E 0 mem from HE0 (by omega))
  · replace q1 : ¬ ((p0 : Int) < 1) := q1
    refine Tx.iload_n hC te_192_5 rfl ?_
    refine Tx.iconst hC te_192_6 rfl ?_
    refine Tx.icmp hC (t := 21) te_192_7 (by decide) (fun q2 => ?_) (fun q2 => ?_)
    · replace q2 : (p0 : Int) ≤ 4 := q2
      refine Tx.aload_n hC te_192_21 rfl ?_
      refine Tx.virtV hC te_192_22 mt_69 (args := [.inr 0]) (rest := []) (c' := 1) (s' := 6) rfl rfl rfl rfl rfl rfl rfl rfl rfl rfl ?_
      refine f_69x hI (fun m4 r3R hF5 => ?_) (fun m4 r3C hF5 r3s => HE1 (by omega) _ r3C (Frm.rf.tr hF5) r3s)
      have r3w := r3R.1.w.2
      have hF5n : Frm pNb mem m4 := Frm.rf.tr hF5
      refine Tx.aload_n hC te_192_25 rfl ?_
      refine Tx.iload_n hC te_192_26 rfl ?_
      refine Tx.virtI hC te_192_27 mt_41 (args := [.inr 0, .inl p0]) (rest := []) (c' := 1) (s' := 6) rfl rfl rfl rfl rfl rfl rfl rfl rfl rfl ?_
      refine f_41x r3R.cs.1.b r3R.2.2.2.1.2.2.1 (by omega) (fun r6 r6e r6a r6b r6i => ?_)
      unfold InI at r6i
      exact Tx.ireturn hC te_192_30 rfl (fun hr => show K r6 m4 from H (by omega) _ r3R.cs hF5n r3R.2.2.2.2 r3R.2.2.2.1 _ (by assumption))
    · replace q2 : ¬ ((p0 : Int) ≤ 4) := q2
      exact Tx.thr hC te_192_10 rfl rfl rfl rfl rfl (show E 0 mem from HE0 (by omega))
theorem f_194x {S : Nat × (Nat → Int32)} {n : Nat} {mem : MM} {K : Int → MM → Prop} {E : Nat → MM → Prop} (hI : ClS mem) (H : ∀ m', ClS m' → Frm pNb mem m' → SndX m' → WbX m' → ∀ r, r = bfV (fbC m') 3 → K r m') (HE1 : ∀ m', ClS m' → Frm pNb mem m' → ¬ SndX m' → E 1 m') : CQI (Ex S (n + 17)) 194 [.inr 0] mem K E := by
  refine CY.of (k := 4) mt_194 rfl rfl (fun hv => ?_)
  have hC := Ex.mono S (n + 16)
  clear hv
  show Tx (Ex S (n + 16)) S M_194 (kI K E) 0 0 0 [some (.inr 0), none, none, none, none] [] mem
  have l_14 : ∀ (N : Nat) (x1 x2 x3 : Int) (m_14 : MM), (2 ≤ x3 ∧ x3 ≤ 5) → (x1 = bfV (fbC m_14) (x3 - 2).toNat) → (x2 = fbC m_14 x1) → (0 ≤ x2 ∧ x2 ≤ 320) → (Rdy m_14) → ((5 - x3).toNat) < N → Frm pNb mem m_14 → Tx (Ex S (n + 16)) S M_194 (kI K E) 1 6 14 [some (.inr 0), some (.inl x1), some (.inl x2), some (.inl x3), none] [] m_14 := by
    intro N
    induction N with
    | zero => intros; omega
    | succ N ih_14 =>
      intro x1 x2 x3 m_14 i14_0 i14_1 i14_2 i14_3 i14_4 hN_14 hF_14
      have bg := bfV_rg (f := fbC m_14) (x3 - 2).toNat
      refine Tx.iload_n hC te_194_14 rfl ?_
      refine Tx.iconst hC te_194_15 rfl ?_
      refine Tx.icmp hC (t := 47) te_194_16 (by decide) (fun q1 => ?_) (fun q1 => ?_)
      · replace q1 : 4 < (x3 : Int) := q1
        refine Tx.iload_n hC te_194_47 rfl ?_
        exact Tx.ireturn hC te_194_48 rfl (fun hr => show K x1 m_14 from H _ i14_4.cs hF_14 i14_4.2.2.2.2 i14_4.2.2.2.1 _ (by rw [show (3 : Nat) = (x3 - 2).toNat by omega]; assumption))
      · replace q1 : ¬ (4 < (x3 : Int)) := q1
        refine Tx.aload_n hC te_194_19 rfl ?_
        refine Tx.iload_n hC te_194_20 rfl ?_
        refine Tx.virtI hC te_194_21 mt_41 (args := [.inr 0, .inl x3]) (rest := []) (c' := 1) (s' := 6) rfl rfl rfl rfl rfl rfl rfl rfl rfl rfl ?_
        refine f_41x i14_4.cs.1.b i14_4.2.2.2.1.2.2.1 (by omega) (fun r2 r2e r2a r2b r2i => ?_)
        unfold InI at r2i
        refine Tx.istore hC te_194_24 rfl ?_
        refine Tx.iload hC te_194_26 rfl ?_
        refine Tx.iload_n hC te_194_28 rfl ?_
        have pm1 := mul4 (r := r2) (x := x1) (by omega) (by omega)
        unfold InI at pm1
        refine Tx.imulW hC te_194_29 (fun z5 z5i z5e => ?_)
        unfold InI at z5i z5e
        first | replace z5e := z5e (by omega) | clear z5e
        refine Tx.iload_n hC te_194_30 rfl ?_
        refine Tx.iload_n hC te_194_31 rfl ?_
        have pm2 := mul4 (r := x2) (x := x3) (by omega) (by omega)
        unfold InI at pm2
        refine Tx.imulW hC te_194_32 (fun z6 z6i z6e => ?_)
        unfold InI at z6i z6e
        first | replace z6e := z6e (by omega) | clear z6e
        refine Tx.icmp hC (t := 41) te_194_33 (by decide) (fun q7 => ?_) (fun q7 => ?_)
        · replace q7 : z6 ≤ (z5 : Int) := q7
          refine Tx.iincW hC te_194_41 rfl rfl (fun z8 z8i z8e => ?_)
          unfold InI at z8i z8e
          first | replace z8e := z8e (by omega) | clear z8e
          refine Tx.goto hC (t := 14) te_194_44 (by decide) ?_
          exact Tx.weak (by repeat' (first | exact trivial | exact rfl | constructor)) (ih_14 x1 x2 z8 m_14 (by omega) (by
                have w := bfV_st (f := fbC m_14) (x := x3) (by omega)
                rw [show z8 = x3 + 1 by omega, w, ← i14_1, ← i14_2, ← r2e]
                first | rw [if_pos (by omega)] | rw [if_neg (by omega)]) ((by assumption)) (by omega) (i14_4) (by omega) hF_14)
        · replace q7 : ¬ (z6 ≤ (z5 : Int)) := q7
          refine Tx.iload_n hC te_194_36 rfl ?_
          refine Tx.istore_n hC te_194_37 rfl ?_
          refine Tx.iload hC te_194_38 rfl ?_
          refine Tx.istore_n hC te_194_40 rfl ?_
          refine Tx.iincW hC te_194_41 rfl rfl (fun z9 z9i z9e => ?_)
          unfold InI at z9i z9e
          first | replace z9e := z9e (by omega) | clear z9e
          refine Tx.goto hC (t := 14) te_194_44 (by decide) ?_
          exact Tx.weak (by repeat' (first | exact trivial | exact rfl | constructor)) (ih_14 x3 r2 z9 m_14 (by omega) (by
                have w := bfV_st (f := fbC m_14) (x := x3) (by omega)
                rw [show z9 = x3 + 1 by omega, w, ← i14_1, ← i14_2, ← r2e]
                first | rw [if_pos (by omega)] | rw [if_neg (by omega)]) ((by assumption)) (by omega) (i14_4) (by omega) hF_14)
  refine Tx.aload_n hC te_194_0 rfl ?_
  refine Tx.virtV hC te_194_1 mt_69 (args := [.inr 0]) (rest := []) (c' := 1) (s' := 6) rfl rfl rfl rfl rfl rfl rfl rfl rfl rfl ?_
  refine f_69x hI (fun m11 r10R hF12 => ?_) (fun m11 r10C hF12 r10s => HE1 _ r10C (Frm.rf.tr hF12) r10s)
  have r10w := r10R.1.w.2
  have hF12n : Frm pNb mem m11 := Frm.rf.tr hF12
  refine Tx.iconst hC te_194_4 rfl ?_
  refine Tx.istore_n hC te_194_5 rfl ?_
  refine Tx.aload_n hC te_194_6 rfl ?_
  refine Tx.iconst hC te_194_7 rfl ?_
  refine Tx.virtI hC te_194_8 mt_41 (args := [.inr 0, .inl 1]) (rest := []) (c' := 1) (s' := 6) rfl rfl rfl rfl rfl rfl rfl rfl rfl rfl ?_
  refine f_41x r10R.cs.1.b r10R.2.2.2.1.2.2.1 (by omega) (fun r13 r13e r13a r13b r13i => ?_)
  unfold InI at r13i
  refine Tx.istore_n hC te_194_11 rfl ?_
  refine Tx.iconst hC te_194_12 rfl ?_
  refine Tx.istore_n hC te_194_13 rfl ?_
  exact l_14 _ 1 r13 2 m11 (by omega) (rfl) ((by assumption)) (by omega) (r10R) (Nat.lt_succ_self _) hF12n
