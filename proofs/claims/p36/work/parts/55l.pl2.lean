/-! laid by wip/hand/tg.py: a loop turn by turn -/
theorem f_160n {S : Nat × (Nat → Int32)} {n : Nat} {mem : MM} {K : MM → Prop} {E : Nat → MM → Prop} {r p : Int} (H : (0 ≤ r ∧ r ≤ 1) ∧ 0 ≤ p ∧ p ≤ 63 → K mem) (HE : ¬ ((0 ≤ r ∧ r ≤ 1) ∧ 0 ≤ p ∧ p ≤ 63) → E 0 mem) : CQV (Ex S (n + 1)) 160 [.inl r, .inl p] mem K E := by
  refine CY.of (k := 0) mt_160 rfl rfl (fun hv => ?_)
  have hC := Ex.mono S n
  have ii_r : InI r := hv (.inl r) (by simp)
  unfold InI at ii_r
  have ii_p : InI p := hv (.inl p) (by simp)
  unfold InI at ii_p
  clear hv
  show Tx (Ex S n) S M_160 (kV K E) 0 0 0 [some (.inl r), some (.inl p)] [] mem
  refine Tx.iload_n hC te_160_0 rfl ?_
  refine Tx.ifc hC (t := 19) te_160_1 (by decide) (fun q1 => ?_) (fun q1 => ?_)
  · replace q1 : (r : Int) < 0 := q1
    exact Tx.thr hC te_160_19 rfl rfl rfl rfl rfl (show E 0 mem from HE (by omega))
  · replace q1 : ¬ ((r : Int) < 0) := q1
    refine Tx.iload_n hC te_160_4 rfl ?_
    refine Tx.iconst hC te_160_5 rfl ?_
    refine Tx.icmp hC (t := 19) te_160_6 (by decide) (fun q2 => ?_) (fun q2 => ?_)
    · replace q2 : 1 < (r : Int) := q2
      exact Tx.thr hC te_160_19 rfl rfl rfl rfl rfl (show E 0 mem from HE (by omega))
    · replace q2 : ¬ (1 < (r : Int)) := q2
      refine Tx.iload_n hC te_160_9 rfl ?_
      refine Tx.ifc hC (t := 19) te_160_10 (by decide) (fun q3 => ?_) (fun q3 => ?_)
      · replace q3 : (p : Int) < 0 := q3
        exact Tx.thr hC te_160_19 rfl rfl rfl rfl rfl (show E 0 mem from HE (by omega))
      · replace q3 : ¬ ((p : Int) < 0) := q3
        refine Tx.iload_n hC te_160_13 rfl ?_
        refine Tx.bipush hC te_160_14 rfl rfl ?_
        refine Tx.icmp hC (t := 29) te_160_16 (by decide) (fun q4 => ?_) (fun q4 => ?_)
        · replace q4 : (p : Int) < 64 := q4
          exact Tx.vret hC te_160_29 rfl (show K mem from H (by omega))
        · replace q4 : ¬ ((p : Int) < 64) := q4
          exact Tx.thr hC te_160_19 rfl rfl rfl rfl rfl (show E 0 mem from HE (by omega))
theorem f_151n {S : Nat × (Nat → Int32)} {n : Nat} {mem : MM} {K : MM → Prop} {E : Nat → MM → Prop} {t : Int} (H : 0 ≤ t ∧ t ≤ 40 → K mem) (HE : ¬ (0 ≤ t ∧ t ≤ 40) → E 0 mem) : CQV (Ex S (n + 1)) 151 [.inl t] mem K E := by
  refine CY.of (k := 0) mt_151 rfl rfl (fun hv => ?_)
  have hC := Ex.mono S n
  have ii_t : InI t := hv (.inl t) (by simp)
  unfold InI at ii_t
  clear hv
  show Tx (Ex S n) S M_151 (kV K E) 0 0 0 [some (.inl t)] [] mem
  refine Tx.iload_n hC te_151_0 rfl ?_
  refine Tx.ifc hC (t := 10) te_151_1 (by decide) (fun q1 => ?_) (fun q1 => ?_)
  · replace q1 : (t : Int) < 0 := q1
    exact Tx.thr hC te_151_10 rfl rfl rfl rfl rfl (show E 0 mem from HE (by omega))
  · replace q1 : ¬ ((t : Int) < 0) := q1
    refine Tx.iload_n hC te_151_4 rfl ?_
    refine Tx.bipush hC te_151_5 rfl rfl ?_
    refine Tx.icmp hC (t := 21) te_151_7 (by decide) (fun q2 => ?_) (fun q2 => ?_)
    · replace q2 : (t : Int) ≤ 40 := q2
      exact Tx.vret hC te_151_21 rfl (show K mem from H (by omega))
    · replace q2 : ¬ ((t : Int) ≤ 40) := q2
      exact Tx.thr hC te_151_10 rfl rfl rfl rfl rfl (show E 0 mem from HE (by omega))
theorem f_169x {S : Nat × (Nat → Int32)} {n : Nat} {mem : MM} {K : Int → MM → Prop} {E : Nat → MM → Prop} (hI : ClS mem) {p0 p1 p2 : Int} (H : ((0 ≤ p0 ∧ p0 ≤ 1) ∧ 0 ≤ p1 ∧ p1 ≤ 63) ∧ 0 ≤ p2 ∧ p2 ≤ 40 → ∀ r m', ClS m' → Frm pNb mem m' → SndX m' → r = (trM (acsC m') (m' 1 0).toNat p2.toNat).1 p0.toNat p1.toNat → K r m') (HE0 : ¬ (((0 ≤ p0 ∧ p0 ≤ 1) ∧ 0 ≤ p1 ∧ p1 ≤ 63) ∧ 0 ≤ p2 ∧ p2 ≤ 40) → E 0 mem) (HE1 : ((0 ≤ p0 ∧ p0 ≤ 1) ∧ 0 ≤ p1 ∧ p1 ≤ 63) ∧ 0 ≤ p2 ∧ p2 ≤ 40 → ∀ m', ClS m' → Frm pNb mem m' → ¬ SndX m' → E 1 m') : CQI (Ex S (n + 17)) 169 [.inr 0, .inl p0, .inl p1, .inl p2] mem K E := by
  refine CY.of (k := 0) mt_169 rfl rfl (fun hv => ?_)
  have hC := Ex.mono S (n + 16)
  have ii_p0 : InI p0 := hv (.inl p0) (by simp)
  unfold InI at ii_p0
  have ii_p1 : InI p1 := hv (.inl p1) (by simp)
  unfold InI at ii_p1
  have ii_p2 : InI p2 := hv (.inl p2) (by simp)
  unfold InI at ii_p2
  clear hv
  have h8 := hI.1.b.1
  show Tx (Ex S (n + 16)) S M_169 (kI K E) 0 0 0 [some (.inr 0), some (.inl p0), some (.inl p1), some (.inl p2)] [] mem
  refine Tx.iload_n hC te_169_0 rfl ?_
  refine Tx.iload_n hC te_169_1 rfl ?_
  refine Tx.statV hC te_169_2 (by decide) mt_160 (args := [.inl p0, .inl p1]) (rest := []) (c' := 1) (s' := 6) rfl rfl rfl rfl rfl rfl rfl ?_
  refine f_160n (fun r1a => ?_) (fun r1n => HE0 (by omega))
  refine Tx.iload_n hC te_169_5 rfl ?_
  refine Tx.statV hC te_169_6 (by decide) mt_151 (args := [.inl p2]) (rest := []) (c' := 2) (s' := 12) rfl rfl rfl rfl rfl rfl rfl ?_
  refine f_151n (fun r4a => ?_) (fun r4n => HE0 (by omega))
  refine Tx.aload_n hC te_169_9 rfl ?_
  refine Tx.virtV hC te_169_10 mt_69 (args := [.inr 0]) (rest := []) (c' := 3) (s' := 18) rfl rfl rfl rfl rfl rfl rfl rfl rfl rfl ?_
  refine f_69x hI (fun m8 r7R hF9 => ?_) (fun m8 r7C hF9 r7s => HE1 (by omega) _ r7C (Frm.rf.tr hF9) r7s)
  have r7w := r7R.1.w.2
  have hF9n : Frm pNb mem m8 := Frm.rf.tr hF9
  refine Tx.aload_n hC te_169_13 rfl ?_
  refine Tx.getR hC te_169_14 rfl rfl rfl ?_
  refine Tx.aload_n hC te_169_17 rfl ?_
  refine Tx.getR hC te_169_18 rfl rfl rfl ?_
  refine Tx.iload_n hC te_169_21 rfl ?_
  refine Tx.virtV hC te_169_22 mt_161 (args := [.inr 134, .inr 1, .inl p2]) (rest := []) (c' := 3) (s' := 18) rfl rfl rfl rfl rfl rfl rfl rfl rfl rfl ?_
  refine f_161x r7R.1.b r7R.2.2.2.2 (by omega) (fun m11 hF12x r10p => ?_)
  have hF12 : Frm pPl m8 m11 := hF12x.mono (fun A i q => by unfold pPx at q; unfold pPl; omega)
  have r10R := Rdy.e_play r7R hF12
  have r10a : acsC m11 = acsC m8 := acsC_fr (fun A i a b => hF12x A i (by unfold pPx; omega))
  have r10z : m11 1 0 = m8 1 0 := hF12x 1 0 (by unfold pPx; omega)
  have hF12n : Frm pNb mem m11 := hF9n.tr (hF12.mono (fun A i q => by unfold pPl at q; unfold pNb; omega))
  refine Tx.aload_n hC te_169_25 rfl ?_
  refine Tx.getR hC te_169_26 rfl rfl rfl ?_
  refine Tx.getR hC te_169_29 rfl rfl rfl ?_
  refine Tx.iload_n hC te_169_32 rfl ?_
  refine Tx.aaldP hC te_169_33 (by omega) (fun R eR => ?_)
  have hR : shA R = some (.inl 64) := rowP eR (by omega)
  refine Tx.iload_n hC te_169_34 rfl ?_
  refine Tx.iald hC te_169_35 hR (by omega) (fun v13 v13e v13i => ?_)
  unfold InI at v13i
  exact Tx.ireturn hC te_169_36 rfl (fun hr => show K v13 m11 from H (by omega) _ _ r10R.cs hF12n r10R.2.2.2.2 (by { rw [v13e, eR, r10a, r10z]; exact r10p.1 _ _ (by omega) (by omega) }))
