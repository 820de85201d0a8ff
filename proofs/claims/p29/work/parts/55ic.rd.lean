/-! laid by wip/hand/tg.py: rounds, bounds, counts of the class -/
def laN (f : Nat → Int) : Nat → Int
  | 0 => 0
  | n + 1 => laN f n + f n
theorem laN_st {f : Nat → Int} {o : Int} (h : 0 ≤ o) : laN f (o + 1).toNat = laN f o.toNat + f o.toNat := by
  rw [show (o + 1).toNat = o.toNat + 1 by omega]
  rfl
theorem laN_eq {f g : Nat → Int} : ∀ n : Nat, (∀ o, o < n → f o = g o) → laN f n = laN g n
  | 0, _ => rfl
  | n + 1, h => by
    unfold laN
    rw [laN_eq n (fun o ho => h o (by omega)), h n (by omega)]
def laC (m : MM) : Int := laN (cLa m) (m 1 0).toNat
/-- counts of units, one having one more -/
def gY (m : MM) (u : Int) (i : Nat) : Int := if (i : Int) = u then m 8 i + 1 else m 8 i
def byC (m : MM) (u : Int) : Int := buV (fun i => usC m (i : Int)) (gY m u) 1 3
theorem gY_n {m : MM} : gY m (-1) = m 8 := funext fun i => if_neg (by omega)
def CntC (m m' : MM) (x r : Int) : Prop := (x = 0 → r = m 1 0) ∧ (1 ≤ x ∧ x ≤ 4 → ¬ SndX m' → r = -1) ∧ (1 ≤ x ∧ x ≤ 4 → SndX m' → WbX m' ∧ (x = 1 → r = m' 9 0) ∧ (x = 2 → r = upV (m' 9 5) (m' 9 6)) ∧ (x = 3 → r = byC m' (-1)) ∧ (x = 4 → r = fbC m' 1)) ∧ (x = 5 → r = laC m') ∧ (6 ≤ x ∧ x ≤ 8 → ∃ z : Int, z = x - 6 ∧ r = m 8 (Int.toNat z)) ∧ (¬ (0 ≤ x ∧ x ≤ 8) → r = -1)
/-- all but one need, so far -/
def TalI (m0 m : MM) (l x : Int) : Prop := R64 m 14 ∧ m 14 0 = (if l < x then x - 1 else x) ∧ ∀ j : Nat, (j : Int) < m 14 0 → cwq m 14 j = cwq m0 9 (if (j : Int) < l then j else j + 1)
theorem TalI.ini {m0 m : MM} {l : Int} (hl : 0 ≤ l) (h : R64 m 14) : TalI m0 (upm m 14 0 0) l 0 := by
  refine ⟨R64.up0 h, ?_, fun j hj => ?_⟩
  · rw [upm_eq, if_neg (by omega)]
  · rw [upm_eq] at hj; omega
theorem TalI.skip {m0 m : MM} {l x z : Int} (h : TalI m0 m l x) (e : x = l) (hz : z = x + 1) : TalI m0 m l z := by
  refine ⟨h.1, ?_, h.2.2⟩
  rw [h.2.1, if_neg (by omega), if_pos (by omega)]
  omega
theorem TalI.step {m0 m m2 : MM} {l x a y : Int} (h : TalI m0 m l x) (hx : 0 ≤ x) (hl : 0 ≤ l) (ne : ¬ x = l) (ha : a = m 14 0) (hy : y = a + 1) (h0 : m2 14 0 = m 14 0) (hR : R64 m2 14) (e : cwq m2 14 a.toNat = cwq m0 9 x.toNat) (o : ∀ i, ¬ i = a.toNat → cwq m2 14 i = cwq m 14 i) : TalI m0 (upm m2 14 0 y) l (x + 1) := by
  have e0 := h.2.1
  refine ⟨R64.up0 hR, ?_, fun j hj => ?_⟩
  · rw [upm_eq, hy, ha, e0]
    split <;> split <;> omega
  · have ec : cwq (upm m2 14 0 y) 14 j = cwq m2 14 j := by
      unfold cwq
      rw [upm_ne (by omega), upm_ne (by omega), upm_ne (by omega), upm_ne (by omega)]
    rw [upm_eq] at hj
    rw [ec]
    by_cases q : j = a.toNat
    · rw [q, e]
      congr 1
      rw [e0] at ha
      split at ha <;> split <;> omega
    · rw [o j q]
      refine h.2.2 j ?_
      rw [e0] at ha ⊢
      split at ha <;> omega
def TalQ (m : MM) (l : Int) : Prop := m 14 0 = m 9 0 - 1 ∧ ∀ j : Nat, (j : Int) < m 14 0 → cwq m 14 j = cwq m 9 (if (j : Int) < l then j else j + 1)
theorem TalI.q {m0 m : MM} {l : Int} (h : TalI m0 m l (m0 9 0)) (hl : l < m0 9 0) (e : ∀ A i, 9 ≤ A → A ≤ 13 → m A i = m0 A i) : TalQ m l := by
  refine ⟨by rw [h.2.1, if_pos hl, e 9 0 (by omega) (by omega)], fun j hj => ?_⟩
  rw [h.2.2 j hj]
  unfold cwq
  rw [e (9 + 1) _ (by omega) (by omega), e (9 + 2) _ (by omega) (by omega), e (9 + 3) _ (by omega) (by omega), e (9 + 4) _ (by omega) (by omega)]
theorem TalQ.fr {m m' : MM} {l : Int} (h : TalQ m l) (e : ∀ A i, (9 ≤ A ∧ A ≤ 13) ∨ (A = 14 ∧ i = 0) ∨ (15 ≤ A ∧ A ≤ 18) → m' A i = m A i) : TalQ m' l := by
  refine ⟨by rw [e 14 0 (by omega), e 9 0 (by omega)]; exact h.1, fun j hj => ?_⟩
  rw [e 14 0 (by omega)] at hj
  have w := h.2 j hj
  unfold cwq at w ⊢
  rw [e (14 + 1) _ (by omega), e (14 + 2) _ (by omega), e (14 + 3) _ (by omega), e (14 + 4) _ (by omega), e (9 + 1) _ (by omega), e (9 + 2) _ (by omega), e (9 + 3) _ (by omega), e (9 + 4) _ (by omega)]
  exact w
theorem f_19x {S : Nat × (Nat → Int32)} {n : Nat} {mem : MM} {K : Int → MM → Prop} {E : Nat → MM → Prop} (hB : BodyOK mem) {o : Int} (ho : 0 ≤ o ∧ o < 8) (H : ∀ r, r = cLa mem o.toNat → 1 ≤ r → r ≤ 6 → K r mem) : CQI (Ex S (n + 1)) 19 [.inr 1, .inl o] mem K E := by
  refine CY.of (k := 0) mt_19 rfl rfl (fun hv => ?_)
  have hC := Ex.mono S n
  have ii_o : InI o := hv (.inl o) (by simp)
  unfold InI at ii_o
  clear hv
  show Tx (Ex S n) S M_19 (kI K E) 0 0 0 [some (.inr 1), some (.inl o)] [] mem
  refine Tx.aload_n hC te_19_0 rfl ?_
  refine Tx.getR hC te_19_1 rfl rfl rfl ?_
  refine Tx.aload_n hC te_19_4 rfl ?_
  refine Tx.getR hC te_19_5 rfl rfl rfl ?_
  refine Tx.iload_n hC te_19_8 rfl ?_
  refine Tx.iald hC te_19_9 rfl (by omega) (fun v1 v1e v1i => ?_)
  unfold InI at v1i
  have f2 := hB.kd (o := (Int.toNat o)) (by omega)
  refine Tx.iald hC te_19_10 rfl (by omega) (fun v3 v3e v3i => ?_)
  unfold InI at v3i
  have f4 := hB.la (o := (Int.toNat v1)) (by omega)
  exact Tx.ireturn hC te_19_11 rfl (fun hr => show K v3 mem from H _ (by unfold cLa; simp_all) (by omega) (by omega))
theorem f_42x {S : Nat × (Nat → Int32)} {n : Nat} {mem : MM} {K : Int → MM → Prop} {E : Nat → MM → Prop} (hB : BodyOK mem) (H : ∀ r, r = laC mem → 0 ≤ r → r ≤ 48 → K r mem) : CQI (Ex S (n + 2)) 42 [.inr 1] mem K E := by
  refine CY.of (k := 2) mt_42 rfl rfl (fun hv => ?_)
  have hC := Ex.mono S (n + 1)
  clear hv
  have h8 := hB.1
  show Tx (Ex S (n + 1)) S M_42 (kI K E) 0 0 0 [some (.inr 1), none, none] [] mem
  have l_4 : ∀ (N : Nat) (x1 x2 : Int), (0 ≤ x2 ∧ x2 ≤ mem 1 0) → (x1 = laN (cLa mem) x2.toNat) → (0 ≤ x1 ∧ x1 ≤ 6 * x2) → ((8 - x2).toNat) < N → Tx (Ex S (n + 1)) S M_42 (kI K E) 0 0 4 [some (.inr 1), some (.inl x1), some (.inl x2)] [] mem := by
    intro N
    induction N with
    | zero => intros; omega
    | succ N ih_4 =>
      intro x1 x2 i4_0 i4_1 i4_2 hN_4 
      refine Tx.iload_n hC te_42_4 rfl ?_
      refine Tx.aload_n hC te_42_5 rfl ?_
      refine Tx.getI hC te_42_6 rfl rfl rfl (fun v1 v1e v1i => ?_)
      unfold InI at v1i
      refine Tx.icmp hC (t := 26) te_42_9 (by decide) (fun q2 => ?_) (fun q2 => ?_)
      · replace q2 : v1 ≤ (x2 : Int) := q2
        refine Tx.iload_n hC te_42_26 rfl ?_
        exact Tx.ireturn hC te_42_27 rfl (fun hr => show K x1 mem from H _ (by unfold laC; rw [show (mem 1 0).toNat = x2.toNat by omega]; omega) (by omega) (by omega))
      · replace q2 : ¬ (v1 ≤ (x2 : Int)) := q2
        refine Tx.iload_n hC te_42_12 rfl ?_
        refine Tx.aload_n hC te_42_13 rfl ?_
        refine Tx.iload_n hC te_42_14 rfl ?_
        refine Tx.virtI hC te_42_15 mt_19 (args := [.inr 1, .inl x2]) (rest := [.inl x1]) (c' := 0) (s' := 0) rfl rfl rfl rfl rfl rfl rfl rfl rfl rfl ?_
        refine f_19x hB (by omega) (fun r3 r3e r3a r3b r3i => ?_)
        unfold InI at r3i
        refine Tx.iaddW hC te_42_18 (fun z6 z6i z6e => ?_)
        unfold InI at z6i z6e
        first | replace z6e := z6e (by omega) | clear z6e
        refine Tx.istore_n hC te_42_19 rfl ?_
        refine Tx.iincW hC te_42_20 rfl rfl (fun z7 z7i z7e => ?_)
        unfold InI at z7i z7e
        first | replace z7e := z7e (by omega) | clear z7e
        refine Tx.goto hC (t := 4) te_42_23 (by decide) ?_
        exact ih_4 z6 z7 (by omega) (by
              have w := laN_st (f := cLa mem) (o := x2) (by omega)
              rw [show z7 = x2 + 1 by omega, w]
              omega) (by omega) (by omega)
  refine Tx.iconst hC te_42_0 rfl ?_
  refine Tx.istore_n hC te_42_1 rfl ?_
  refine Tx.iconst hC te_42_2 rfl ?_
  refine Tx.istore_n hC te_42_3 rfl ?_
  exact l_4 _ 0 0 (by omega) (rfl) (by omega) (Nat.lt_succ_self _)
theorem f_35y {S : Nat × (Nat → Int32)} {n : Nat} {mem : MM} {K : Int → MM → Prop} {E : Nat → MM → Prop} (hB : BodyOK mem) {u k : Int} (hk : k = 1) (H : ∀ r, r = byC mem u → 0 ≤ r → r ≤ 128 → K r mem) : CQI (Ex S (n + 3)) 35 [.inr 1, .inl u, .inl k] mem K E := by
  refine CY.of (k := 3) mt_35 rfl rfl (fun hv => ?_)
  have hC := Ex.mono S (n + 2)
  have ii_u : InI u := hv (.inl u) (by simp)
  unfold InI at ii_u
  have ii_k : InI k := hv (.inl k) (by simp)
  unfold InI at ii_k
  clear hv
  have h8 := hB.1
  show Tx (Ex S (n + 2)) S M_35 (kI K E) 0 0 0 [some (.inr 1), some (.inl u), some (.inl k), none, none, none] [] mem
  have l_5 : ∀ (N : Nat) (x3 x4 : Int), (0 ≤ x4 ∧ x4 ≤ 3) → (x3 = buV (fun i => usC mem (i : Int)) (gY mem u) 1 x4.toNat) → (0 ≤ x3 ∧ x3 ≤ 128) → ((3 - x4).toNat) < N → Tx (Ex S (n + 2)) S M_35 (kI K E) 0 0 5 [some (.inr 1), some (.inl u), some (.inl k), some (.inl x3), some (.inl x4), none] [] mem := by
    intro N
    induction N with
    | zero => intros; omega
    | succ N ih_5 =>
      intro x3 x4 i5_0 i5_1 i5_2 hN_5 
      refine Tx.iload hC te_35_5 rfl ?_
      refine Tx.iconst hC te_35_7 rfl ?_
      refine Tx.icmp hC (t := 62) te_35_8 (by decide) (fun q1 => ?_) (fun q1 => ?_)
      · replace q1 : 3 ≤ (x4 : Int) := q1
        refine Tx.iload_n hC te_35_62 rfl ?_
        exact Tx.ireturn hC te_35_63 rfl (fun hr => show K x3 mem from H _ (by unfold byC; rw [show (3 : Nat) = x4.toNat by omega]; omega) (by omega) (by omega))
      · replace q1 : ¬ (3 ≤ (x4 : Int)) := q1
        refine Tx.iload hC te_35_11 rfl ?_
        refine Tx.iload_n hC te_35_13 rfl ?_
        refine Tx.icmp hC (t := 29) te_35_14 (by decide) (fun q2 => ?_) (fun q2 => ?_)
        · replace q2 : ¬ (x4 : Int) = u := q2
          refine Tx.aload_n hC te_35_29 rfl ?_
          refine Tx.getR hC te_35_30 rfl rfl rfl ?_
          refine Tx.iload hC te_35_33 rfl ?_
          refine Tx.iald hC te_35_35 rfl (by omega) (fun v3 v3e v3i => ?_)
          unfold InI at v3i
          have f4 := hB.cn (o := (Int.toNat x4)) (by omega)
          refine Tx.istore hC te_35_36 rfl ?_
          refine Tx.iload_n hC te_35_38 rfl ?_
          refine Tx.iload_n hC te_35_39 rfl ?_
          refine Tx.aload_n hC te_35_40 rfl ?_
          refine Tx.iload hC te_35_41 rfl ?_
          refine Tx.virtI hC te_35_43 mt_36 (args := [.inr 1, .inl x4]) (rest := [.inl k, .inl x3]) (c' := 0) (s' := 0) rfl rfl rfl rfl rfl rfl rfl rfl rfl rfl ?_
          refine f_36x hB (fun r5 r5e r5a r5b r5i => ?_)
          unfold InI at r5i
          have pm := mulK (r := r5) (k := k) (c := 32) (by omega) (by omega)
          have pk : k * r5 = r5 := by rw [hk, Int.one_mul]
          refine Tx.imulW hC te_35_46 (fun z8 z8i z8e => ?_)
          unfold InI at z8i z8e
          first | replace z8e := z8e (by omega) | clear z8e
          refine Tx.iload hC te_35_47 rfl ?_
          refine Tx.statI hC te_35_49 (by decide) mt_33 (args := [.inl z8, .inl v3]) (rest := [.inl x3]) (c' := 0) (s' := 0) rfl rfl rfl rfl rfl rfl rfl ?_
          refine f_33x (by omega) (by omega) (fun r9 r9e r9i => ?_)
          have r9g := upV_rg (a := z8) (b := v3) (by omega) (by omega)
          have r9u : upV (1 * usC mem x4) (gY mem u (Int.toNat x4)) = r9 := by
            have gy : gY mem u (Int.toNat x4) = v3 := by unfold gY; split <;> omega
            rw [r9e, gy, show 1 * usC mem x4 = z8 by omega]
          unfold InI at r9i
          refine Tx.statI hC te_35_52 (by decide) mt_40 (args := [.inl x3, .inl r9]) (rest := []) (c' := 0) (s' := 0) rfl rfl rfl rfl rfl rfl rfl ?_
          refine f_40q (fun r12 r12a r12b r12c r12i => ?_)
          unfold InI at r12i
          refine Tx.istore_n hC te_35_55 rfl ?_
          refine Tx.iincW hC te_35_56 rfl rfl (fun z15 z15i z15e => ?_)
          unfold InI at z15i z15e
          first | replace z15e := z15e (by omega) | clear z15e
          refine Tx.goto hC (t := 5) te_35_59 (by decide) ?_
          exact Tx.weak (by repeat' (first | exact trivial | exact rfl | constructor)) (ih_5 r12 z15 (by omega) (by
                have w := buV_st (f := (fun i => usC mem (i : Int))) (g := gY mem u) (k := 1) (x := x4) (by omega)
                have w2 : ((x4.toNat : Nat) : Int) = x4 := by omega
                simp only [w2] at w
                rw [show z15 = x4 + 1 by omega, w]
                omega) (by omega) (by omega))
        · replace q2 : ¬ (¬ (x4 : Int) = u) := q2
          refine Tx.aload_n hC te_35_17 rfl ?_
          refine Tx.getR hC te_35_18 rfl rfl rfl ?_
          refine Tx.iload hC te_35_21 rfl ?_
          refine Tx.iald hC te_35_23 rfl (by omega) (fun v16 v16e v16i => ?_)
          unfold InI at v16i
          have f17 := hB.cn (o := (Int.toNat x4)) (by omega)
          refine Tx.iconst hC te_35_24 rfl ?_
          refine Tx.iaddW hC te_35_25 (fun z18 z18i z18e => ?_)
          unfold InI at z18i z18e
          first | replace z18e := z18e (by omega) | clear z18e
          refine Tx.goto hC (t := 36) te_35_26 (by decide) ?_
          refine Tx.istore hC te_35_36 rfl ?_
          refine Tx.iload_n hC te_35_38 rfl ?_
          refine Tx.iload_n hC te_35_39 rfl ?_
          refine Tx.aload_n hC te_35_40 rfl ?_
          refine Tx.iload hC te_35_41 rfl ?_
          refine Tx.virtI hC te_35_43 mt_36 (args := [.inr 1, .inl x4]) (rest := [.inl k, .inl x3]) (c' := 0) (s' := 0) rfl rfl rfl rfl rfl rfl rfl rfl rfl rfl ?_
          refine f_36x hB (fun r19 r19e r19a r19b r19i => ?_)
          unfold InI at r19i
          have pm := mulK (r := r19) (k := k) (c := 32) (by omega) (by omega)
          have pk : k * r19 = r19 := by rw [hk, Int.one_mul]
          refine Tx.imulW hC te_35_46 (fun z22 z22i z22e => ?_)
          unfold InI at z22i z22e
          first | replace z22e := z22e (by omega) | clear z22e
          refine Tx.iload hC te_35_47 rfl ?_
          refine Tx.statI hC te_35_49 (by decide) mt_33 (args := [.inl z22, .inl z18]) (rest := [.inl x3]) (c' := 0) (s' := 0) rfl rfl rfl rfl rfl rfl rfl ?_
          refine f_33x (by omega) (by omega) (fun r23 r23e r23i => ?_)
          have r23g := upV_rg (a := z22) (b := z18) (by omega) (by omega)
          have r23u : upV (1 * usC mem x4) (gY mem u (Int.toNat x4)) = r23 := by
            have gy : gY mem u (Int.toNat x4) = z18 := by unfold gY; split <;> omega
            rw [r23e, gy, show 1 * usC mem x4 = z22 by omega]
          unfold InI at r23i
          refine Tx.statI hC te_35_52 (by decide) mt_40 (args := [.inl x3, .inl r23]) (rest := []) (c' := 0) (s' := 0) rfl rfl rfl rfl rfl rfl rfl ?_
          refine f_40q (fun r26 r26a r26b r26c r26i => ?_)
          unfold InI at r26i
          refine Tx.istore_n hC te_35_55 rfl ?_
          refine Tx.iincW hC te_35_56 rfl rfl (fun z29 z29i z29e => ?_)
          unfold InI at z29i z29e
          first | replace z29e := z29e (by omega) | clear z29e
          refine Tx.goto hC (t := 5) te_35_59 (by decide) ?_
          exact Tx.weak (by repeat' (first | exact trivial | exact rfl | constructor)) (ih_5 r26 z29 (by omega) (by
                have w := buV_st (f := (fun i => usC mem (i : Int))) (g := gY mem u) (k := 1) (x := x4) (by omega)
                have w2 : ((x4.toNat : Nat) : Int) = x4 := by omega
                simp only [w2] at w
                rw [show z29 = x4 + 1 by omega, w]
                omega) (by omega) (by omega))
  refine Tx.iconst hC te_35_0 rfl ?_
  refine Tx.istore_n hC te_35_1 rfl ?_
  refine Tx.iconst hC te_35_2 rfl ?_
  refine Tx.istore hC te_35_3 rfl ?_
  exact l_5 _ 0 0 (by omega) (rfl) (by omega) (Nat.lt_succ_self _)
theorem f_31x {S : Nat × (Nat → Int32)} {n : Nat} {mem : MM} {K : Int → MM → Prop} {E : Nat → MM → Prop} (hI : ClS mem) {p0 : Int} (H : ∀ r m', ClS m' → Frm pNb mem m' → CntC mem m' p0 r → K r m') : CQI (Ex S (n + 17)) 31 [.inr 0, .inl p0] mem K E := by
  refine CY.of (k := 0) mt_31 rfl rfl (fun hv => ?_)
  have hC := Ex.mono S (n + 16)
  have ii_p0 : InI p0 := hv (.inl p0) (by simp)
  unfold InI at ii_p0
  clear hv
  have h8 := hI.1.b.1
  show Tx (Ex S (n + 16)) S M_31 (kI K E) 0 0 0 [some (.inr 0), some (.inl p0)] [] mem
  refine Tx.aload_n hC te_31_0 rfl ?_
  refine Tx.virtV hC te_31_1 mt_11 (args := [.inr 0]) (rest := []) (c' := 0) (s' := 0) rfl rfl rfl rfl rfl rfl rfl rfl rfl rfl ?_
  refine f_11 hI (fun m2 r1I hF3 => ?_)
  have hF3n : Frm pNb mem m2 := Frm.rf.tr hF3
  refine Tx.iload_n hC te_31_4 rfl ?_
  refine Tx.ifc hC (t := 16) te_31_5 (by decide) (fun q4 => ?_) (fun q4 => ?_)
  · replace q4 : ¬ (p0 : Int) = 0 := q4
    refine Tx.iload_n hC te_31_16 rfl ?_
    refine Tx.iconst hC te_31_17 rfl ?_
    refine Tx.icmp hC (t := 35) te_31_18 (by decide) (fun q5 => ?_) (fun q5 => ?_)
    · replace q5 : (p0 : Int) < 1 := q5
      refine Tx.iload_n hC te_31_35 rfl ?_
      refine Tx.tsw hC (t := 137) (ts := [84, 92, 100, 110, 116, 124, 124, 124]) te_31_36 rfl (by decide) rfl (fun q6 => ?_) (fun i t e q6 => ?_)
      · skip
        refine Tx.iconst hC te_31_137 rfl ?_
        exact Tx.ireturn hC te_31_138 rfl (fun hr => show K (-1) m2 from H _ _ r1I.cs hF3n ⟨fun _ => by omega, fun _ s => by first | omega | exact absurd (r1I.1.2.2.2.mp (by omega)) s, fun _ s => by
          have w := r1I.1.2.2.2.mpr s
          exact ⟨r1I.1.2.2.1 w, fun _ => by omega, fun _ => by omega, fun _ => by omega, fun _ => by omega⟩, fun _ => by omega, fun h => by first | (exfalso; omega) | exact (by refine ⟨_, ?_, by assumption⟩; omega), fun _ => by omega⟩)
      · have hi : i = 0 ∨ i = 1 ∨ i = 2 ∨ i = 3 ∨ i = 4 ∨ i = 5 ∨ i = 6 ∨ i = 7 := by
          have := (List.getElem?_eq_some_iff.mp e).1
          simp only [List.length_cons, List.length_nil] at this
          omega
        rcases hi with hi | hi | hi | hi | hi | hi | hi | hi
        · subst hi
          cases (show some 84 = some t from e)
          refine Tx.aload_n hC te_31_84 rfl ?_
          refine Tx.getR hC te_31_85 rfl rfl rfl ?_
          refine Tx.getI hC te_31_88 rfl rfl rfl (fun v7 v7e v7i => ?_)
          unfold InI at v7i
          exact Tx.ireturn hC te_31_91 rfl (fun hr => show K v7 m2 from H _ _ r1I.cs hF3n ⟨fun _ => by omega, fun _ s => by first | omega | exact absurd (r1I.1.2.2.2.mp (by omega)) s, fun _ s => by
            have w := r1I.1.2.2.2.mpr s
            exact ⟨r1I.1.2.2.1 w, fun _ => by omega, fun _ => by omega, fun _ => by omega, fun _ => by omega⟩, fun _ => by omega, fun h => by first | (exfalso; omega) | exact (by refine ⟨_, ?_, by assumption⟩; omega), fun _ => by omega⟩)
        · subst hi
          cases (show some 92 = some t from e)
          refine Tx.aload_n hC te_31_92 rfl ?_
          refine Tx.getR hC te_31_93 rfl rfl rfl ?_
          refine Tx.virtI hC te_31_96 mt_32 (args := [.inr 9]) (rest := []) (c' := 0) (s' := 0) rfl rfl rfl rfl rfl rfl rfl rfl rfl rfl ?_
          refine f_32x (W := 9) ⟨rfl, rfl, rfl, rfl, rfl⟩ ((r1I.1.2.2.1 (by omega)).2.2.1) (fun r8 r8e r8a r8b r8i => ?_)
          unfold InI at r8i
          exact Tx.ireturn hC te_31_99 rfl (fun hr => show K r8 m2 from H _ _ r1I.cs hF3n ⟨fun _ => by omega, fun _ s => by first | omega | exact absurd (r1I.1.2.2.2.mp (by omega)) s, fun _ s => by
            have w := r1I.1.2.2.2.mpr s
            exact ⟨r1I.1.2.2.1 w, fun _ => by omega, fun _ => by omega, fun _ => by omega, fun _ => by omega⟩, fun _ => by omega, fun h => by first | (exfalso; omega) | exact (by refine ⟨_, ?_, by assumption⟩; omega), fun _ => by omega⟩)
        · subst hi
          cases (show some 100 = some t from e)
          refine Tx.aload_n hC te_31_100 rfl ?_
          refine Tx.getR hC te_31_101 rfl rfl rfl ?_
          refine Tx.iconst hC te_31_104 rfl ?_
          refine Tx.iconst hC te_31_105 rfl ?_
          refine Tx.virtI hC te_31_106 mt_35 (args := [.inr 1, .inl (-1), .inl 1]) (rest := []) (c' := 0) (s' := 0) rfl rfl rfl rfl rfl rfl rfl rfl rfl rfl ?_
          refine f_35y r1I.cs.1.b rfl (fun r11 r11e r11a r11b r11i => ?_)
          unfold InI at r11i
          exact Tx.ireturn hC te_31_109 rfl (fun hr => show K r11 m2 from H _ _ r1I.cs hF3n ⟨fun _ => by omega, fun _ s => by first | omega | exact absurd (r1I.1.2.2.2.mp (by omega)) s, fun _ s => by
            have w := r1I.1.2.2.2.mpr s
            exact ⟨r1I.1.2.2.1 w, fun _ => by omega, fun _ => by omega, fun _ => by omega, fun _ => by omega⟩, fun _ => by omega, fun h => by first | (exfalso; omega) | exact (by refine ⟨_, ?_, by assumption⟩; omega), fun _ => by omega⟩)
        · subst hi
          cases (show some 110 = some t from e)
          refine Tx.aload_n hC te_31_110 rfl ?_
          refine Tx.iconst hC te_31_111 rfl ?_
          refine Tx.virtI hC te_31_112 mt_41 (args := [.inr 0, .inl 1]) (rest := []) (c' := 0) (s' := 0) rfl rfl rfl rfl rfl rfl rfl rfl rfl rfl ?_
          refine f_41x r1I.cs.1.b ((r1I.1.2.2.1 (by omega)).2.2.1) (by omega) (fun r14 r14e r14a r14b r14i => ?_)
          unfold InI at r14i
          exact Tx.ireturn hC te_31_115 rfl (fun hr => show K r14 m2 from H _ _ r1I.cs hF3n ⟨fun _ => by omega, fun _ s => by first | omega | exact absurd (r1I.1.2.2.2.mp (by omega)) s, fun _ s => by
            have w := r1I.1.2.2.2.mpr s
            exact ⟨r1I.1.2.2.1 w, fun _ => by omega, fun _ => by omega, fun _ => by omega, fun _ => by omega⟩, fun _ => by omega, fun h => by first | (exfalso; omega) | exact (by refine ⟨_, ?_, by assumption⟩; omega), fun _ => by omega⟩)
        · subst hi
          cases (show some 116 = some t from e)
          refine Tx.aload_n hC te_31_116 rfl ?_
          refine Tx.getR hC te_31_117 rfl rfl rfl ?_
          refine Tx.virtI hC te_31_120 mt_42 (args := [.inr 1]) (rest := []) (c' := 0) (s' := 0) rfl rfl rfl rfl rfl rfl rfl rfl rfl rfl ?_
          refine f_42x r1I.cs.1.b (fun r17 r17e r17a r17b r17i => ?_)
          unfold InI at r17i
          exact Tx.ireturn hC te_31_123 rfl (fun hr => show K r17 m2 from H _ _ r1I.cs hF3n ⟨fun _ => by omega, fun _ s => by first | omega | exact absurd (r1I.1.2.2.2.mp (by omega)) s, fun _ s => by
            have w := r1I.1.2.2.2.mpr s
            exact ⟨r1I.1.2.2.1 w, fun _ => by omega, fun _ => by omega, fun _ => by omega, fun _ => by omega⟩, fun _ => by omega, fun h => by first | (exfalso; omega) | exact (by refine ⟨_, ?_, by assumption⟩; omega), fun _ => by omega⟩)
        · subst hi
          cases (show some 124 = some t from e)
          refine Tx.aload_n hC te_31_124 rfl ?_
          refine Tx.getR hC te_31_125 rfl rfl rfl ?_
          refine Tx.getR hC te_31_128 rfl rfl rfl ?_
          refine Tx.iload_n hC te_31_131 rfl ?_
          refine Tx.bipush hC te_31_132 rfl rfl ?_
          refine Tx.isubW hC te_31_134 (fun z20 z20i z20e => ?_)
          unfold InI at z20i z20e
          first | replace z20e := z20e (by omega) | clear z20e
          refine Tx.iald hC te_31_135 rfl (by omega) (fun v21 v21e v21i => ?_)
          unfold InI at v21i
          rw [hF3n 8 _ (by unfold pNb; omega)] at v21e
          have f22 := hI.1.b.cn (o := (Int.toNat z20)) (by omega)
          exact Tx.ireturn hC te_31_136 rfl (fun hr => show K v21 m2 from H _ _ r1I.cs hF3n ⟨fun _ => by omega, fun _ s => by first | omega | exact absurd (r1I.1.2.2.2.mp (by omega)) s, fun _ s => by
            have w := r1I.1.2.2.2.mpr s
            exact ⟨r1I.1.2.2.1 w, fun _ => by omega, fun _ => by omega, fun _ => by omega, fun _ => by omega⟩, fun _ => by omega, fun h => by first | (exfalso; omega) | exact (by refine ⟨_, ?_, by assumption⟩; omega), fun _ => by omega⟩)
        · subst hi
          cases (show some 124 = some t from e)
          refine Tx.aload_n hC te_31_124 rfl ?_
          refine Tx.getR hC te_31_125 rfl rfl rfl ?_
          refine Tx.getR hC te_31_128 rfl rfl rfl ?_
          refine Tx.iload_n hC te_31_131 rfl ?_
          refine Tx.bipush hC te_31_132 rfl rfl ?_
          refine Tx.isubW hC te_31_134 (fun z23 z23i z23e => ?_)
          unfold InI at z23i z23e
          first | replace z23e := z23e (by omega) | clear z23e
          refine Tx.iald hC te_31_135 rfl (by omega) (fun v24 v24e v24i => ?_)
          unfold InI at v24i
          rw [hF3n 8 _ (by unfold pNb; omega)] at v24e
          have f25 := hI.1.b.cn (o := (Int.toNat z23)) (by omega)
          exact Tx.ireturn hC te_31_136 rfl (fun hr => show K v24 m2 from H _ _ r1I.cs hF3n ⟨fun _ => by omega, fun _ s => by first | omega | exact absurd (r1I.1.2.2.2.mp (by omega)) s, fun _ s => by
            have w := r1I.1.2.2.2.mpr s
            exact ⟨r1I.1.2.2.1 w, fun _ => by omega, fun _ => by omega, fun _ => by omega, fun _ => by omega⟩, fun _ => by omega, fun h => by first | (exfalso; omega) | exact (by refine ⟨_, ?_, by assumption⟩; omega), fun _ => by omega⟩)
        · subst hi
          cases (show some 124 = some t from e)
          refine Tx.aload_n hC te_31_124 rfl ?_
          refine Tx.getR hC te_31_125 rfl rfl rfl ?_
          refine Tx.getR hC te_31_128 rfl rfl rfl ?_
          refine Tx.iload_n hC te_31_131 rfl ?_
          refine Tx.bipush hC te_31_132 rfl rfl ?_
          refine Tx.isubW hC te_31_134 (fun z26 z26i z26e => ?_)
          unfold InI at z26i z26e
          first | replace z26e := z26e (by omega) | clear z26e
          refine Tx.iald hC te_31_135 rfl (by omega) (fun v27 v27e v27i => ?_)
          unfold InI at v27i
          rw [hF3n 8 _ (by unfold pNb; omega)] at v27e
          have f28 := hI.1.b.cn (o := (Int.toNat z26)) (by omega)
          exact Tx.ireturn hC te_31_136 rfl (fun hr => show K v27 m2 from H _ _ r1I.cs hF3n ⟨fun _ => by omega, fun _ s => by first | omega | exact absurd (r1I.1.2.2.2.mp (by omega)) s, fun _ s => by
            have w := r1I.1.2.2.2.mpr s
            exact ⟨r1I.1.2.2.1 w, fun _ => by omega, fun _ => by omega, fun _ => by omega, fun _ => by omega⟩, fun _ => by omega, fun h => by first | (exfalso; omega) | exact (by refine ⟨_, ?_, by assumption⟩; omega), fun _ => by omega⟩)
    · replace q5 : ¬ ((p0 : Int) < 1) := q5
      refine Tx.iload_n hC te_31_21 rfl ?_
      refine Tx.iconst hC te_31_22 rfl ?_
      refine Tx.icmp hC (t := 35) te_31_23 (by decide) (fun q29 => ?_) (fun q29 => ?_)
      · replace q29 : 4 < (p0 : Int) := q29
        refine Tx.iload_n hC te_31_35 rfl ?_
        refine Tx.tsw hC (t := 137) (ts := [84, 92, 100, 110, 116, 124, 124, 124]) te_31_36 rfl (by decide) rfl (fun q30 => ?_) (fun i t e q30 => ?_)
        · skip
          refine Tx.iconst hC te_31_137 rfl ?_
          exact Tx.ireturn hC te_31_138 rfl (fun hr => show K (-1) m2 from H _ _ r1I.cs hF3n ⟨fun _ => by omega, fun _ s => by first | omega | exact absurd (r1I.1.2.2.2.mp (by omega)) s, fun _ s => by
            have w := r1I.1.2.2.2.mpr s
            exact ⟨r1I.1.2.2.1 w, fun _ => by omega, fun _ => by omega, fun _ => by omega, fun _ => by omega⟩, fun _ => by omega, fun h => by first | (exfalso; omega) | exact (by refine ⟨_, ?_, by assumption⟩; omega), fun _ => by omega⟩)
        · have hi : i = 0 ∨ i = 1 ∨ i = 2 ∨ i = 3 ∨ i = 4 ∨ i = 5 ∨ i = 6 ∨ i = 7 := by
            have := (List.getElem?_eq_some_iff.mp e).1
            simp only [List.length_cons, List.length_nil] at this
            omega
          rcases hi with hi | hi | hi | hi | hi | hi | hi | hi
          · subst hi
            cases (show some 84 = some t from e)
            refine Tx.aload_n hC te_31_84 rfl ?_
            refine Tx.getR hC te_31_85 rfl rfl rfl ?_
            refine Tx.getI hC te_31_88 rfl rfl rfl (fun v31 v31e v31i => ?_)
            unfold InI at v31i
            exact Tx.ireturn hC te_31_91 rfl (fun hr => show K v31 m2 from H _ _ r1I.cs hF3n ⟨fun _ => by omega, fun _ s => by first | omega | exact absurd (r1I.1.2.2.2.mp (by omega)) s, fun _ s => by
              have w := r1I.1.2.2.2.mpr s
              exact ⟨r1I.1.2.2.1 w, fun _ => by omega, fun _ => by omega, fun _ => by omega, fun _ => by omega⟩, fun _ => by omega, fun h => by first | (exfalso; omega) | exact (by refine ⟨_, ?_, by assumption⟩; omega), fun _ => by omega⟩)
          · subst hi
            cases (show some 92 = some t from e)
            refine Tx.aload_n hC te_31_92 rfl ?_
            refine Tx.getR hC te_31_93 rfl rfl rfl ?_
            refine Tx.virtI hC te_31_96 mt_32 (args := [.inr 9]) (rest := []) (c' := 0) (s' := 0) rfl rfl rfl rfl rfl rfl rfl rfl rfl rfl ?_
            refine f_32x (W := 9) ⟨rfl, rfl, rfl, rfl, rfl⟩ ((r1I.1.2.2.1 (by omega)).2.2.1) (fun r32 r32e r32a r32b r32i => ?_)
            unfold InI at r32i
            exact Tx.ireturn hC te_31_99 rfl (fun hr => show K r32 m2 from H _ _ r1I.cs hF3n ⟨fun _ => by omega, fun _ s => by first | omega | exact absurd (r1I.1.2.2.2.mp (by omega)) s, fun _ s => by
              have w := r1I.1.2.2.2.mpr s
              exact ⟨r1I.1.2.2.1 w, fun _ => by omega, fun _ => by omega, fun _ => by omega, fun _ => by omega⟩, fun _ => by omega, fun h => by first | (exfalso; omega) | exact (by refine ⟨_, ?_, by assumption⟩; omega), fun _ => by omega⟩)
          · subst hi
            cases (show some 100 = some t from e)
            refine Tx.aload_n hC te_31_100 rfl ?_
            refine Tx.getR hC te_31_101 rfl rfl rfl ?_
            refine Tx.iconst hC te_31_104 rfl ?_
            refine Tx.iconst hC te_31_105 rfl ?_
            refine Tx.virtI hC te_31_106 mt_35 (args := [.inr 1, .inl (-1), .inl 1]) (rest := []) (c' := 0) (s' := 0) rfl rfl rfl rfl rfl rfl rfl rfl rfl rfl ?_
            refine f_35y r1I.cs.1.b rfl (fun r35 r35e r35a r35b r35i => ?_)
            unfold InI at r35i
            exact Tx.ireturn hC te_31_109 rfl (fun hr => show K r35 m2 from H _ _ r1I.cs hF3n ⟨fun _ => by omega, fun _ s => by first | omega | exact absurd (r1I.1.2.2.2.mp (by omega)) s, fun _ s => by
              have w := r1I.1.2.2.2.mpr s
              exact ⟨r1I.1.2.2.1 w, fun _ => by omega, fun _ => by omega, fun _ => by omega, fun _ => by omega⟩, fun _ => by omega, fun h => by first | (exfalso; omega) | exact (by refine ⟨_, ?_, by assumption⟩; omega), fun _ => by omega⟩)
          · subst hi
            cases (show some 110 = some t from e)
            refine Tx.aload_n hC te_31_110 rfl ?_
            refine Tx.iconst hC te_31_111 rfl ?_
            refine Tx.virtI hC te_31_112 mt_41 (args := [.inr 0, .inl 1]) (rest := []) (c' := 0) (s' := 0) rfl rfl rfl rfl rfl rfl rfl rfl rfl rfl ?_
            refine f_41x r1I.cs.1.b ((r1I.1.2.2.1 (by omega)).2.2.1) (by omega) (fun r38 r38e r38a r38b r38i => ?_)
            unfold InI at r38i
            exact Tx.ireturn hC te_31_115 rfl (fun hr => show K r38 m2 from H _ _ r1I.cs hF3n ⟨fun _ => by omega, fun _ s => by first | omega | exact absurd (r1I.1.2.2.2.mp (by omega)) s, fun _ s => by
              have w := r1I.1.2.2.2.mpr s
              exact ⟨r1I.1.2.2.1 w, fun _ => by omega, fun _ => by omega, fun _ => by omega, fun _ => by omega⟩, fun _ => by omega, fun h => by first | (exfalso; omega) | exact (by refine ⟨_, ?_, by assumption⟩; omega), fun _ => by omega⟩)
          · subst hi
            cases (show some 116 = some t from e)
            refine Tx.aload_n hC te_31_116 rfl ?_
            refine Tx.getR hC te_31_117 rfl rfl rfl ?_
            refine Tx.virtI hC te_31_120 mt_42 (args := [.inr 1]) (rest := []) (c' := 0) (s' := 0) rfl rfl rfl rfl rfl rfl rfl rfl rfl rfl ?_
            refine f_42x r1I.cs.1.b (fun r41 r41e r41a r41b r41i => ?_)
            unfold InI at r41i
            exact Tx.ireturn hC te_31_123 rfl (fun hr => show K r41 m2 from H _ _ r1I.cs hF3n ⟨fun _ => by omega, fun _ s => by first | omega | exact absurd (r1I.1.2.2.2.mp (by omega)) s, fun _ s => by
              have w := r1I.1.2.2.2.mpr s
              exact ⟨r1I.1.2.2.1 w, fun _ => by omega, fun _ => by omega, fun _ => by omega, fun _ => by omega⟩, fun _ => by omega, fun h => by first | (exfalso; omega) | exact (by refine ⟨_, ?_, by assumption⟩; omega), fun _ => by omega⟩)
          · subst hi
            cases (show some 124 = some t from e)
            refine Tx.aload_n hC te_31_124 rfl ?_
            refine Tx.getR hC te_31_125 rfl rfl rfl ?_
            refine Tx.getR hC te_31_128 rfl rfl rfl ?_
            refine Tx.iload_n hC te_31_131 rfl ?_
            refine Tx.bipush hC te_31_132 rfl rfl ?_
            refine Tx.isubW hC te_31_134 (fun z44 z44i z44e => ?_)
            unfold InI at z44i z44e
            first | replace z44e := z44e (by omega) | clear z44e
            refine Tx.iald hC te_31_135 rfl (by omega) (fun v45 v45e v45i => ?_)
            unfold InI at v45i
            rw [hF3n 8 _ (by unfold pNb; omega)] at v45e
            have f46 := hI.1.b.cn (o := (Int.toNat z44)) (by omega)
            exact Tx.ireturn hC te_31_136 rfl (fun hr => show K v45 m2 from H _ _ r1I.cs hF3n ⟨fun _ => by omega, fun _ s => by first | omega | exact absurd (r1I.1.2.2.2.mp (by omega)) s, fun _ s => by
              have w := r1I.1.2.2.2.mpr s
              exact ⟨r1I.1.2.2.1 w, fun _ => by omega, fun _ => by omega, fun _ => by omega, fun _ => by omega⟩, fun _ => by omega, fun h => by first | (exfalso; omega) | exact (by refine ⟨_, ?_, by assumption⟩; omega), fun _ => by omega⟩)
          · subst hi
            cases (show some 124 = some t from e)
            refine Tx.aload_n hC te_31_124 rfl ?_
            refine Tx.getR hC te_31_125 rfl rfl rfl ?_
            refine Tx.getR hC te_31_128 rfl rfl rfl ?_
            refine Tx.iload_n hC te_31_131 rfl ?_
            refine Tx.bipush hC te_31_132 rfl rfl ?_
            refine Tx.isubW hC te_31_134 (fun z47 z47i z47e => ?_)
            unfold InI at z47i z47e
            first | replace z47e := z47e (by omega) | clear z47e
            refine Tx.iald hC te_31_135 rfl (by omega) (fun v48 v48e v48i => ?_)
            unfold InI at v48i
            rw [hF3n 8 _ (by unfold pNb; omega)] at v48e
            have f49 := hI.1.b.cn (o := (Int.toNat z47)) (by omega)
            exact Tx.ireturn hC te_31_136 rfl (fun hr => show K v48 m2 from H _ _ r1I.cs hF3n ⟨fun _ => by omega, fun _ s => by first | omega | exact absurd (r1I.1.2.2.2.mp (by omega)) s, fun _ s => by
              have w := r1I.1.2.2.2.mpr s
              exact ⟨r1I.1.2.2.1 w, fun _ => by omega, fun _ => by omega, fun _ => by omega, fun _ => by omega⟩, fun _ => by omega, fun h => by first | (exfalso; omega) | exact (by refine ⟨_, ?_, by assumption⟩; omega), fun _ => by omega⟩)
          · subst hi
            cases (show some 124 = some t from e)
            refine Tx.aload_n hC te_31_124 rfl ?_
            refine Tx.getR hC te_31_125 rfl rfl rfl ?_
            refine Tx.getR hC te_31_128 rfl rfl rfl ?_
            refine Tx.iload_n hC te_31_131 rfl ?_
            refine Tx.bipush hC te_31_132 rfl rfl ?_
            refine Tx.isubW hC te_31_134 (fun z50 z50i z50e => ?_)
            unfold InI at z50i z50e
            first | replace z50e := z50e (by omega) | clear z50e
            refine Tx.iald hC te_31_135 rfl (by omega) (fun v51 v51e v51i => ?_)
            unfold InI at v51i
            rw [hF3n 8 _ (by unfold pNb; omega)] at v51e
            have f52 := hI.1.b.cn (o := (Int.toNat z50)) (by omega)
            exact Tx.ireturn hC te_31_136 rfl (fun hr => show K v51 m2 from H _ _ r1I.cs hF3n ⟨fun _ => by omega, fun _ s => by first | omega | exact absurd (r1I.1.2.2.2.mp (by omega)) s, fun _ s => by
              have w := r1I.1.2.2.2.mpr s
              exact ⟨r1I.1.2.2.1 w, fun _ => by omega, fun _ => by omega, fun _ => by omega, fun _ => by omega⟩, fun _ => by omega, fun h => by first | (exfalso; omega) | exact (by refine ⟨_, ?_, by assumption⟩; omega), fun _ => by omega⟩)
      · replace q29 : ¬ (4 < (p0 : Int)) := q29
        refine Tx.aload_n hC te_31_26 rfl ?_
        refine Tx.getI hC te_31_27 rfl rfl rfl (fun v53 v53e v53i => ?_)
        unfold InI at v53i
        have f54 := r1I.1.1.so
        refine Tx.ifc hC (t := 35) te_31_30 (by decide) (fun q55 => ?_) (fun q55 => ?_)
        · replace q55 : ¬ (v53 : Int) = 0 := q55
          refine Tx.iload_n hC te_31_35 rfl ?_
          refine Tx.tsw hC (t := 137) (ts := [84, 92, 100, 110, 116, 124, 124, 124]) te_31_36 rfl (by decide) rfl (fun q56 => ?_) (fun i t e q56 => ?_)
          · skip
            refine Tx.iconst hC te_31_137 rfl ?_
            exact Tx.ireturn hC te_31_138 rfl (fun hr => show K (-1) m2 from H _ _ r1I.cs hF3n ⟨fun _ => by omega, fun _ s => by first | omega | exact absurd (r1I.1.2.2.2.mp (by omega)) s, fun _ s => by
              have w := r1I.1.2.2.2.mpr s
              exact ⟨r1I.1.2.2.1 w, fun _ => by omega, fun _ => by omega, fun _ => by omega, fun _ => by omega⟩, fun _ => by omega, fun h => by first | (exfalso; omega) | exact (by refine ⟨_, ?_, by assumption⟩; omega), fun _ => by omega⟩)
          · have hi : i = 0 ∨ i = 1 ∨ i = 2 ∨ i = 3 ∨ i = 4 ∨ i = 5 ∨ i = 6 ∨ i = 7 := by
              have := (List.getElem?_eq_some_iff.mp e).1
              simp only [List.length_cons, List.length_nil] at this
              omega
            rcases hi with hi | hi | hi | hi | hi | hi | hi | hi
            · subst hi
              cases (show some 84 = some t from e)
              refine Tx.aload_n hC te_31_84 rfl ?_
              refine Tx.getR hC te_31_85 rfl rfl rfl ?_
              refine Tx.getI hC te_31_88 rfl rfl rfl (fun v57 v57e v57i => ?_)
              unfold InI at v57i
              exact Tx.ireturn hC te_31_91 rfl (fun hr => show K v57 m2 from H _ _ r1I.cs hF3n ⟨fun _ => by omega, fun _ s => by first | omega | exact absurd (r1I.1.2.2.2.mp (by omega)) s, fun _ s => by
                have w := r1I.1.2.2.2.mpr s
                exact ⟨r1I.1.2.2.1 w, fun _ => by omega, fun _ => by omega, fun _ => by omega, fun _ => by omega⟩, fun _ => by omega, fun h => by first | (exfalso; omega) | exact (by refine ⟨_, ?_, by assumption⟩; omega), fun _ => by omega⟩)
            · subst hi
              cases (show some 92 = some t from e)
              refine Tx.aload_n hC te_31_92 rfl ?_
              refine Tx.getR hC te_31_93 rfl rfl rfl ?_
              refine Tx.virtI hC te_31_96 mt_32 (args := [.inr 9]) (rest := []) (c' := 0) (s' := 0) rfl rfl rfl rfl rfl rfl rfl rfl rfl rfl ?_
              refine f_32x (W := 9) ⟨rfl, rfl, rfl, rfl, rfl⟩ ((r1I.1.2.2.1 (by omega)).2.2.1) (fun r58 r58e r58a r58b r58i => ?_)
              unfold InI at r58i
              exact Tx.ireturn hC te_31_99 rfl (fun hr => show K r58 m2 from H _ _ r1I.cs hF3n ⟨fun _ => by omega, fun _ s => by first | omega | exact absurd (r1I.1.2.2.2.mp (by omega)) s, fun _ s => by
                have w := r1I.1.2.2.2.mpr s
                exact ⟨r1I.1.2.2.1 w, fun _ => by omega, fun _ => by omega, fun _ => by omega, fun _ => by omega⟩, fun _ => by omega, fun h => by first | (exfalso; omega) | exact (by refine ⟨_, ?_, by assumption⟩; omega), fun _ => by omega⟩)
            · subst hi
              cases (show some 100 = some t from e)
              refine Tx.aload_n hC te_31_100 rfl ?_
              refine Tx.getR hC te_31_101 rfl rfl rfl ?_
              refine Tx.iconst hC te_31_104 rfl ?_
              refine Tx.iconst hC te_31_105 rfl ?_
              refine Tx.virtI hC te_31_106 mt_35 (args := [.inr 1, .inl (-1), .inl 1]) (rest := []) (c' := 0) (s' := 0) rfl rfl rfl rfl rfl rfl rfl rfl rfl rfl ?_
              refine f_35y r1I.cs.1.b rfl (fun r61 r61e r61a r61b r61i => ?_)
              unfold InI at r61i
              exact Tx.ireturn hC te_31_109 rfl (fun hr => show K r61 m2 from H _ _ r1I.cs hF3n ⟨fun _ => by omega, fun _ s => by first | omega | exact absurd (r1I.1.2.2.2.mp (by omega)) s, fun _ s => by
                have w := r1I.1.2.2.2.mpr s
                exact ⟨r1I.1.2.2.1 w, fun _ => by omega, fun _ => by omega, fun _ => by omega, fun _ => by omega⟩, fun _ => by omega, fun h => by first | (exfalso; omega) | exact (by refine ⟨_, ?_, by assumption⟩; omega), fun _ => by omega⟩)
            · subst hi
              cases (show some 110 = some t from e)
              refine Tx.aload_n hC te_31_110 rfl ?_
              refine Tx.iconst hC te_31_111 rfl ?_
              refine Tx.virtI hC te_31_112 mt_41 (args := [.inr 0, .inl 1]) (rest := []) (c' := 0) (s' := 0) rfl rfl rfl rfl rfl rfl rfl rfl rfl rfl ?_
              refine f_41x r1I.cs.1.b ((r1I.1.2.2.1 (by omega)).2.2.1) (by omega) (fun r64 r64e r64a r64b r64i => ?_)
              unfold InI at r64i
              exact Tx.ireturn hC te_31_115 rfl (fun hr => show K r64 m2 from H _ _ r1I.cs hF3n ⟨fun _ => by omega, fun _ s => by first | omega | exact absurd (r1I.1.2.2.2.mp (by omega)) s, fun _ s => by
                have w := r1I.1.2.2.2.mpr s
                exact ⟨r1I.1.2.2.1 w, fun _ => by omega, fun _ => by omega, fun _ => by omega, fun _ => by omega⟩, fun _ => by omega, fun h => by first | (exfalso; omega) | exact (by refine ⟨_, ?_, by assumption⟩; omega), fun _ => by omega⟩)
            · subst hi
              cases (show some 116 = some t from e)
              refine Tx.aload_n hC te_31_116 rfl ?_
              refine Tx.getR hC te_31_117 rfl rfl rfl ?_
              refine Tx.virtI hC te_31_120 mt_42 (args := [.inr 1]) (rest := []) (c' := 0) (s' := 0) rfl rfl rfl rfl rfl rfl rfl rfl rfl rfl ?_
              refine f_42x r1I.cs.1.b (fun r67 r67e r67a r67b r67i => ?_)
              unfold InI at r67i
              exact Tx.ireturn hC te_31_123 rfl (fun hr => show K r67 m2 from H _ _ r1I.cs hF3n ⟨fun _ => by omega, fun _ s => by first | omega | exact absurd (r1I.1.2.2.2.mp (by omega)) s, fun _ s => by
                have w := r1I.1.2.2.2.mpr s
                exact ⟨r1I.1.2.2.1 w, fun _ => by omega, fun _ => by omega, fun _ => by omega, fun _ => by omega⟩, fun _ => by omega, fun h => by first | (exfalso; omega) | exact (by refine ⟨_, ?_, by assumption⟩; omega), fun _ => by omega⟩)
            · subst hi
              cases (show some 124 = some t from e)
              refine Tx.aload_n hC te_31_124 rfl ?_
              refine Tx.getR hC te_31_125 rfl rfl rfl ?_
              refine Tx.getR hC te_31_128 rfl rfl rfl ?_
              refine Tx.iload_n hC te_31_131 rfl ?_
              refine Tx.bipush hC te_31_132 rfl rfl ?_
              refine Tx.isubW hC te_31_134 (fun z70 z70i z70e => ?_)
              unfold InI at z70i z70e
              first | replace z70e := z70e (by omega) | clear z70e
              refine Tx.iald hC te_31_135 rfl (by omega) (fun v71 v71e v71i => ?_)
              unfold InI at v71i
              rw [hF3n 8 _ (by unfold pNb; omega)] at v71e
              have f72 := hI.1.b.cn (o := (Int.toNat z70)) (by omega)
              exact Tx.ireturn hC te_31_136 rfl (fun hr => show K v71 m2 from H _ _ r1I.cs hF3n ⟨fun _ => by omega, fun _ s => by first | omega | exact absurd (r1I.1.2.2.2.mp (by omega)) s, fun _ s => by
                have w := r1I.1.2.2.2.mpr s
                exact ⟨r1I.1.2.2.1 w, fun _ => by omega, fun _ => by omega, fun _ => by omega, fun _ => by omega⟩, fun _ => by omega, fun h => by first | (exfalso; omega) | exact (by refine ⟨_, ?_, by assumption⟩; omega), fun _ => by omega⟩)
            · subst hi
              cases (show some 124 = some t from e)
              refine Tx.aload_n hC te_31_124 rfl ?_
              refine Tx.getR hC te_31_125 rfl rfl rfl ?_
              refine Tx.getR hC te_31_128 rfl rfl rfl ?_
              refine Tx.iload_n hC te_31_131 rfl ?_
              refine Tx.bipush hC te_31_132 rfl rfl ?_
              refine Tx.isubW hC te_31_134 (fun z73 z73i z73e => ?_)
              unfold InI at z73i z73e
              first | replace z73e := z73e (by omega) | clear z73e
              refine Tx.iald hC te_31_135 rfl (by omega) (fun v74 v74e v74i => ?_)
              unfold InI at v74i
              rw [hF3n 8 _ (by unfold pNb; omega)] at v74e
              have f75 := hI.1.b.cn (o := (Int.toNat z73)) (by omega)
              exact Tx.ireturn hC te_31_136 rfl (fun hr => show K v74 m2 from H _ _ r1I.cs hF3n ⟨fun _ => by omega, fun _ s => by first | omega | exact absurd (r1I.1.2.2.2.mp (by omega)) s, fun _ s => by
                have w := r1I.1.2.2.2.mpr s
                exact ⟨r1I.1.2.2.1 w, fun _ => by omega, fun _ => by omega, fun _ => by omega, fun _ => by omega⟩, fun _ => by omega, fun h => by first | (exfalso; omega) | exact (by refine ⟨_, ?_, by assumption⟩; omega), fun _ => by omega⟩)
            · subst hi
              cases (show some 124 = some t from e)
              refine Tx.aload_n hC te_31_124 rfl ?_
              refine Tx.getR hC te_31_125 rfl rfl rfl ?_
              refine Tx.getR hC te_31_128 rfl rfl rfl ?_
              refine Tx.iload_n hC te_31_131 rfl ?_
              refine Tx.bipush hC te_31_132 rfl rfl ?_
              refine Tx.isubW hC te_31_134 (fun z76 z76i z76e => ?_)
              unfold InI at z76i z76e
              first | replace z76e := z76e (by omega) | clear z76e
              refine Tx.iald hC te_31_135 rfl (by omega) (fun v77 v77e v77i => ?_)
              unfold InI at v77i
              rw [hF3n 8 _ (by unfold pNb; omega)] at v77e
              have f78 := hI.1.b.cn (o := (Int.toNat z76)) (by omega)
              exact Tx.ireturn hC te_31_136 rfl (fun hr => show K v77 m2 from H _ _ r1I.cs hF3n ⟨fun _ => by omega, fun _ s => by first | omega | exact absurd (r1I.1.2.2.2.mp (by omega)) s, fun _ s => by
                have w := r1I.1.2.2.2.mpr s
                exact ⟨r1I.1.2.2.1 w, fun _ => by omega, fun _ => by omega, fun _ => by omega, fun _ => by omega⟩, fun _ => by omega, fun h => by first | (exfalso; omega) | exact (by refine ⟨_, ?_, by assumption⟩; omega), fun _ => by omega⟩)
        · replace q55 : ¬ (¬ (v53 : Int) = 0) := q55
          refine Tx.iconst hC te_31_33 rfl ?_
          exact Tx.ireturn hC te_31_34 rfl (fun hr => show K (-1) m2 from H _ _ r1I.cs hF3n ⟨fun _ => by omega, fun _ s => by first | omega | exact absurd (r1I.1.2.2.2.mp (by omega)) s, fun _ s => by
            have w := r1I.1.2.2.2.mpr s
            exact ⟨r1I.1.2.2.1 w, fun _ => by omega, fun _ => by omega, fun _ => by omega, fun _ => by omega⟩, fun _ => by omega, fun h => by first | (exfalso; omega) | exact (by refine ⟨_, ?_, by assumption⟩; omega), fun _ => by omega⟩)
  · replace q4 : ¬ (¬ (p0 : Int) = 0) := q4
    refine Tx.aload_n hC te_31_8 rfl ?_
    refine Tx.getR hC te_31_9 rfl rfl rfl ?_
    refine Tx.getI hC te_31_12 rfl rfl rfl (fun v79 v79e v79i => ?_)
    unfold InI at v79i
    rw [hF3n 1 _ (by unfold pNb; omega)] at v79e
    exact Tx.ireturn hC te_31_15 rfl (fun hr => show K v79 m2 from H _ _ r1I.cs hF3n ⟨fun _ => by omega, fun _ s => by first | omega | exact absurd (r1I.1.2.2.2.mp (by omega)) s, fun _ s => by
      have w := r1I.1.2.2.2.mpr s
      exact ⟨r1I.1.2.2.1 w, fun _ => by omega, fun _ => by omega, fun _ => by omega, fun _ => by omega⟩, fun _ => by omega, fun h => by first | (exfalso; omega) | exact (by refine ⟨_, ?_, by assumption⟩; omega), fun _ => by omega⟩)
theorem f_221x {S : Nat × (Nat → Int32)} {n : Nat} {mem : MM} {K : Int → MM → Prop} {E : Nat → MM → Prop} (hI : ClS mem) {p0 : Int} (H : 0 ≤ p0 ∧ p0 < 3 → ∀ m', ClS m' → Frm pNb mem m' → SndX m' → WbX m' → ∀ r, r = max 1 (max (upV (m' 9 5) (m' 9 6)) (byC m' p0)) → K r m') (HE2 : ¬ (0 ≤ p0 ∧ p0 < 3) → E 2 mem) (HE1 : 0 ≤ p0 ∧ p0 < 3 → ∀ m', ClS m' → Frm pNb mem m' → ¬ SndX m' → E 1 m') : CQI (Ex S (n + 17)) 221 [.inr 0, .inl p0] mem K E := by
  refine CY.of (k := 0) mt_221 rfl rfl (fun hv => ?_)
  have hC := Ex.mono S (n + 16)
  have ii_p0 : InI p0 := hv (.inl p0) (by simp)
  unfold InI at ii_p0
  clear hv
  show Tx (Ex S (n + 16)) S M_221 (kI K E) 0 0 0 [some (.inr 0), some (.inl p0)] [] mem
  refine Tx.aload_n hC te_221_0 rfl ?_
  refine Tx.iload_n hC te_221_1 rfl ?_
  refine Tx.virtV hC te_221_2 mt_63 (args := [.inr 0, .inl p0]) (rest := []) (c' := 1) (s' := 6) rfl rfl rfl rfl rfl rfl rfl rfl rfl rfl ?_
  refine f_63n (fun r1a => ?_) (fun r1n => HE2 r1n)
  refine Tx.aload_n hC te_221_5 rfl ?_
  refine Tx.virtV hC te_221_6 mt_69 (args := [.inr 0]) (rest := []) (c' := 2) (s' := 12) rfl rfl rfl rfl rfl rfl rfl rfl rfl rfl ?_
  refine f_69x hI (fun m5 r4R hF6 => ?_) (fun m5 r4C hF6 r4s => HE1 (by omega) _ r4C (Frm.rf.tr hF6) r4s)
  have r4w := r4R.1.w.2
  have hF6n : Frm pNb mem m5 := Frm.rf.tr hF6
  refine Tx.iconst hC te_221_9 rfl ?_
  refine Tx.aload_n hC te_221_10 rfl ?_
  refine Tx.getR hC te_221_11 rfl rfl rfl ?_
  refine Tx.virtI hC te_221_14 mt_32 (args := [.inr 9]) (rest := [.inl 1]) (c' := 2) (s' := 12) rfl rfl rfl rfl rfl rfl rfl rfl rfl rfl ?_
  refine f_32x (W := 9) ⟨rfl, rfl, rfl, rfl, rfl⟩ r4R.2.2.2.1.2.2.1 (fun r7 r7e r7a r7b r7i => ?_)
  unfold InI at r7i
  refine Tx.aload_n hC te_221_17 rfl ?_
  refine Tx.getR hC te_221_18 rfl rfl rfl ?_
  refine Tx.iload_n hC te_221_21 rfl ?_
  refine Tx.iconst hC te_221_22 rfl ?_
  refine Tx.virtI hC te_221_23 mt_35 (args := [.inr 1, .inl p0, .inl 1]) (rest := [.inl r7, .inl 1]) (c' := 2) (s' := 12) rfl rfl rfl rfl rfl rfl rfl rfl rfl rfl ?_
  refine f_35y r4R.cs.1.b rfl (fun r10 r10e r10a r10b r10i => ?_)
  unfold InI at r10i
  refine Tx.statI hC te_221_26 (by decide) mt_40 (args := [.inl r7, .inl r10]) (rest := [.inl 1]) (c' := 2) (s' := 12) rfl rfl rfl rfl rfl rfl rfl ?_
  refine f_40q (fun r13 r13a r13b r13c r13i => ?_)
  unfold InI at r13i
  refine Tx.statI hC te_221_29 (by decide) mt_40 (args := [.inl 1, .inl r13]) (rest := []) (c' := 2) (s' := 12) rfl rfl rfl rfl rfl rfl rfl ?_
  refine f_40q (fun r16 r16a r16b r16c r16i => ?_)
  unfold InI at r16i
  exact Tx.ireturn hC te_221_32 rfl (fun hr => show K r16 m5 from H (by omega) _ r4R.cs hF6n r4R.2.2.2.2 r4R.2.2.2.1 _ (by omega))
theorem f_199x {S : Nat × (Nat → Int32)} {n : Nat} {mem : MM} {K : MM → Prop} {E : Nat → MM → Prop} (hW9 : WbOK mem 9) (hR14 : R64 mem 14) {l : Int} (hl : 0 ≤ l) (H : ∀ m', Frm p14 mem m' → TalI mem m' l (mem 9 0) → WbOK m' 14 → K m') : CQV (Ex S (n + 2)) 199 [.inr 14, .inr 9, .inl l] mem K E := by
  refine CY.of (k := 1) mt_199 rfl rfl (fun hv => ?_)
  have hC := Ex.mono S (n + 1)
  have ii_l : InI l := hv (.inl l) (by simp)
  unfold InI at ii_l
  clear hv
  have hw := hW9.2
  show Tx (Ex S (n + 1)) S M_199 (kV K E) 0 0 0 [some (.inr 14), some (.inr 9), some (.inl l), none] [] mem
  have l_7 : ∀ (N : Nat) (x3 : Int) (m_7 : MM), (0 ≤ x3 ∧ x3 ≤ mem 9 0) → (TalI mem m_7 l x3) → ((64 - x3).toNat) < N → Frm p14 mem m_7 → Tx (Ex S (n + 1)) S M_199 (kV K E) 0 0 7 [some (.inr 14), some (.inr 9), some (.inl l), some (.inl x3)] [] m_7 := by
    intro N
    induction N with
    | zero => intros; omega
    | succ N ih_7 =>
      intro x3 m_7 i7_0 i7_1 hN_7 hF_7
      refine Tx.iload_n hC te_199_7 rfl ?_
      refine Tx.aload_n hC te_199_8 rfl ?_
      refine Tx.getI hC te_199_9 rfl rfl rfl (fun v1 v1e v1i => ?_)
      unfold InI at v1i
      rw [hF_7 9 _ (by unfold p14; omega)] at v1e
      refine Tx.icmp hC (t := 68) te_199_12 (by decide) (fun q2 => ?_) (fun q2 => ?_)
      · replace q2 : v1 ≤ (x3 : Int) := q2
        exact Tx.vret hC te_199_68 rfl (show K m_7 from H _ hF_7 (by rw [show mem 9 0 = x3 by omega]; exact i7_1) ⟨i7_1.1, by have := i7_1.2.1; split at this <;> omega⟩)
      · replace q2 : ¬ (v1 ≤ (x3 : Int)) := q2
        refine Tx.iload_n hC te_199_15 rfl ?_
        refine Tx.iload_n hC te_199_16 rfl ?_
        refine Tx.icmp hC (t := 62) te_199_17 (by decide) (fun q3 => ?_) (fun q3 => ?_)
        · replace q3 : (x3 : Int) = l := q3
          refine Tx.iincW hC te_199_62 rfl rfl (fun z4 z4i z4e => ?_)
          unfold InI at z4i z4e
          first | replace z4e := z4e (by omega) | clear z4e
          refine Tx.goto hC (t := 7) te_199_65 (by decide) ?_
          exact ih_7 z4 m_7 (by omega) (TalI.skip i7_1 (by omega) (by omega)) (by omega) hF_7
        · replace q3 : ¬ ((x3 : Int) = l) := q3
          refine Tx.aload_n hC te_199_20 rfl ?_
          refine Tx.aload_n hC te_199_21 rfl ?_
          refine Tx.getI hC te_199_22 rfl rfl rfl (fun v5 v5e v5i => ?_)
          unfold InI at v5i
          refine Tx.aload_n hC te_199_25 rfl ?_
          refine Tx.getR hC te_199_26 rfl rfl rfl ?_
          refine Tx.iload_n hC te_199_29 rfl ?_
          refine Tx.iald hC te_199_30 rfl (by omega) (fun v6 v6e v6i => ?_)
          unfold InI at v6i
          rw [hF_7 10 _ (by unfold p14; omega)] at v6e
          have f7 : Rg (mem 10 (Int.toNat x3)) (mem 11 (Int.toNat x3)) (mem 12 (Int.toNat x3)) (mem 13 (Int.toNat x3)) := hW9.1 (Int.toNat x3) (by omega)
          unfold Rg at f7
          refine Tx.aload_n hC te_199_31 rfl ?_
          refine Tx.getR hC te_199_32 rfl rfl rfl ?_
          refine Tx.iload_n hC te_199_35 rfl ?_
          refine Tx.iald hC te_199_36 rfl (by omega) (fun v8 v8e v8i => ?_)
          unfold InI at v8i
          rw [hF_7 11 _ (by unfold p14; omega)] at v8e
          have f9 : Rg (mem 10 (Int.toNat x3)) (mem 11 (Int.toNat x3)) (mem 12 (Int.toNat x3)) (mem 13 (Int.toNat x3)) := hW9.1 (Int.toNat x3) (by omega)
          unfold Rg at f9
          refine Tx.aload_n hC te_199_37 rfl ?_
          refine Tx.getR hC te_199_38 rfl rfl rfl ?_
          refine Tx.iload_n hC te_199_41 rfl ?_
          refine Tx.iald hC te_199_42 rfl (by omega) (fun v10 v10e v10i => ?_)
          unfold InI at v10i
          rw [hF_7 12 _ (by unfold p14; omega)] at v10e
          have f11 : Rg (mem 10 (Int.toNat x3)) (mem 11 (Int.toNat x3)) (mem 12 (Int.toNat x3)) (mem 13 (Int.toNat x3)) := hW9.1 (Int.toNat x3) (by omega)
          unfold Rg at f11
          refine Tx.aload_n hC te_199_43 rfl ?_
          refine Tx.getR hC te_199_44 rfl rfl rfl ?_
          refine Tx.iload_n hC te_199_47 rfl ?_
          refine Tx.iald hC te_199_48 rfl (by omega) (fun v12 v12e v12i => ?_)
          unfold InI at v12i
          rw [hF_7 13 _ (by unfold p14; omega)] at v12e
          have f13 : Rg (mem 10 (Int.toNat x3)) (mem 11 (Int.toNat x3)) (mem 12 (Int.toNat x3)) (mem 13 (Int.toNat x3)) := hW9.1 (Int.toNat x3) (by omega)
          unfold Rg at f13
          refine Tx.virtV hC te_199_49 mt_22 (args := [.inr 14, .inl v5, .inl v6, .inl v8, .inl v10, .inl v12]) (rest := []) (c' := 0) (s' := 0) rfl rfl rfl rfl rfl rfl rfl rfl rfl rfl ?_
          refine CWV.q hC (f_22e (W := 14) ⟨rfl, rfl, rfl, rfl, rfl⟩ i7_1.1 (by have := i7_1.2.1; split at this <;> omega) (by unfold Rg; omega) (fun m15 hF16w r14z r14t r14q r14o => ?_))
          have r14e : cwq m15 14 (Int.toNat v5) = cwq mem 9 (Int.toNat x3) := by
            rw [r14q]
            show ((v6 : Int), v8, v10, v12) = (mem 10 (Int.toNat x3), mem 11 (Int.toNat x3), mem 12 (Int.toNat x3), mem 13 (Int.toNat x3))
            rw [← v6e, ← v8e, ← v10e, ← v12e]
          have r14b : 0 ≤ m15 14 0 ∧ m15 14 0 ≤ 64 := by
            have := i7_1.2.1
            rw [r14z]
            split at this <;> omega
          have hF16n : Frm p14 mem m15 := hF_7.tr (fun A i q => hF16w A i (by unfold p14 at q; omega) (by unfold p14 at q; omega))
          refine Tx.aload_n hC te_199_52 rfl ?_
          refine Tx.dup hC te_199_53 ?_
          refine Tx.getI hC te_199_54 rfl rfl rfl (fun v17 v17e v17i => ?_)
          unfold InI at v17i
          refine Tx.iconst hC te_199_57 rfl ?_
          refine Tx.iaddW hC te_199_58 (fun z18 z18i z18e => ?_)
          unfold InI at z18i z18e
          first | replace z18e := z18e (by omega) | clear z18e
          refine Tx.putI hC te_199_59 rfl rfl rfl rfl ?_
          have hF20 : Frm p14 mem (upm m15 14 0 z18) := Frm.up hF16n (by unfold p14; omega)
          have hI21 : TalI mem (upm m15 14 0 z18) l (x3 + 1) := TalI.step i7_1 (by omega) hl (by omega) (by omega) (by omega) r14z r14t r14e r14o
          generalize upm m15 14 0 z18 = m19 at hF20 hI21 ⊢
          refine Tx.iincW hC te_199_62 rfl rfl (fun z22 z22i z22e => ?_)
          unfold InI at z22i z22e
          first | replace z22e := z22e (by omega) | clear z22e
          refine Tx.goto hC (t := 7) te_199_65 (by decide) ?_
          exact ih_7 z22 m19 (by omega) (by rw [show z22 = x3 + 1 by omega]; exact hI21) (by omega) hF20
  refine Tx.aload_n hC te_199_0 rfl ?_
  refine Tx.iconst hC te_199_1 rfl ?_
  refine Tx.putI hC te_199_2 rfl rfl rfl rfl ?_
  have hF24 : Frm p14 mem (upm mem 14 0 0) := Frm.up Frm.rf (by unfold p14; omega)
  have hI25 : TalI mem (upm mem 14 0 0) l 0 := TalI.ini hl hR14
  generalize upm mem 14 0 0 = m23 at hF24 hI25 ⊢
  refine Tx.iconst hC te_199_5 rfl ?_
  refine Tx.istore_n hC te_199_6 rfl ?_
  exact l_7 _ 0 m23 (by omega) (hI25) (Nat.lt_succ_self _) hF24
theorem f_196x {S : Nat × (Nat → Int32)} {n : Nat} {mem : MM} {K : Int → MM → Prop} {E : Nat → MM → Prop} (hI : ClS mem) {p0 : Int} (H : 0 ≤ p0 ∧ p0 < 6 → ∀ m', ClS m' → Frm pNb mem m' → SndX m' → WtOK m' 14 → Enum (cwq m' 14) (m' 14 0).toNat (NdC mem p0) → RtL (ringsAll (cwq m' 14) (m' 14 0).toNat (mem 1 0).toNat) m' 14 → ¬ mem 6 p0.toNat = 1 → ∀ r, r = max 1 (max (upV (m' 14 5) (m' 14 6)) (byC m' (-1))) → K r m') (HE2 : ¬ (0 ≤ p0 ∧ p0 < 6) → E 2 mem) (HE1 : 0 ≤ p0 ∧ p0 < 6 → ∀ m', ClS m' → Frm pNb mem m' → (¬ SndX m' ∨ (SndX m' ∧ mem 6 p0.toNat = 1)) → E 1 m') : CQI (Ex S (n + 17)) 196 [.inr 0, .inl p0] mem K E := by
  refine CY.of (k := 0) mt_196 rfl rfl (fun hv => ?_)
  have hC := Ex.mono S (n + 16)
  have ii_p0 : InI p0 := hv (.inl p0) (by simp)
  unfold InI at ii_p0
  clear hv
  have h8 := hI.1.b.1
  show Tx (Ex S (n + 16)) S M_196 (kI K E) 0 0 0 [some (.inr 0), some (.inl p0)] [] mem
  refine Tx.aload_n hC te_196_0 rfl ?_
  refine Tx.iload_n hC te_196_1 rfl ?_
  refine Tx.virtV hC te_196_2 mt_60 (args := [.inr 0, .inl p0]) (rest := []) (c' := 1) (s' := 6) rfl rfl rfl rfl rfl rfl rfl rfl rfl rfl ?_
  refine f_60n (fun r1a r1b => ?_) (fun r1n => HE2 r1n)
  refine Tx.aload_n hC te_196_5 rfl ?_
  refine Tx.virtV hC te_196_6 mt_69 (args := [.inr 0]) (rest := []) (c' := 2) (s' := 12) rfl rfl rfl rfl rfl rfl rfl rfl rfl rfl ?_
  refine f_69x hI (fun m5 r4R hF6 => ?_) (fun m5 r4C hF6 r4s => HE1 (by omega) _ r4C (Frm.rf.tr hF6) (Or.inl r4s))
  have r4w := r4R.1.w.2
  have hF6n : Frm pNb mem m5 := Frm.rf.tr hF6
  refine Tx.aload_n hC te_196_9 rfl ?_
  refine Tx.getR hC te_196_10 rfl rfl rfl ?_
  refine Tx.getR hC te_196_13 rfl rfl rfl ?_
  refine Tx.iload_n hC te_196_16 rfl ?_
  refine Tx.iald hC te_196_17 rfl (by omega) (fun v7 v7e v7i => ?_)
  unfold InI at v7i
  rw [hF6n 6 _ (by unfold pNb; omega)] at v7e
  have f8 := hI.1.b.la (o := (Int.toNat p0)) (by omega)
  refine Tx.iconst hC te_196_18 rfl ?_
  refine Tx.icmp hC (t := 33) te_196_19 (by decide) (fun q9 => ?_) (fun q9 => ?_)
  · replace q9 : ¬ (v7 : Int) = 1 := q9
    refine Tx.aload_n hC te_196_33 rfl ?_
    refine Tx.getR hC te_196_34 rfl rfl rfl ?_
    refine Tx.aload_n hC te_196_37 rfl ?_
    refine Tx.getR hC te_196_38 rfl rfl rfl ?_
    refine Tx.iload_n hC te_196_41 rfl ?_
    refine Tx.virtV hC te_196_42 mt_17 (args := [.inr 14, .inr 1, .inl p0]) (rest := []) (c' := 2) (s' := 12) rfl rfl rfl rfl rfl rfl rfl rfl rfl rfl ?_
    refine CWV.q hC (f_17e (W := 14) ⟨rfl, rfl, rfl, rfl, rfl⟩ (Or.inr rfl) r4R.1.b r4R.1.w2.1 (fun m11 hF12w r10O r10q r10E0 => ?_))
    have hF12 : Frm p14 m5 m11 := fun A i q => hF12w A i (by unfold p14 at q; omega) (by unfold p14 at q; omega)
    have r10R := Rdy.e_sp1 r4R hF12 r10O
    have r10E := r10E0.cg rfl (fun _ _ => rfl) (fun x => NdC.fr (fun A i a b c => hF6n A i (by unfold pNb; omega)))
    have hF12n : Frm pNb mem m11 := hF6n.tr (hF12.mono (fun A i q => by unfold p14 at q; unfold pNb; omega))
    refine Tx.aload_n hC te_196_45 rfl ?_
    refine Tx.getR hC te_196_46 rfl rfl rfl ?_
    refine Tx.aload_n hC te_196_49 rfl ?_
    refine Tx.getR hC te_196_50 rfl rfl rfl ?_
    refine Tx.getI hC te_196_53 rfl rfl rfl (fun v13 v13e v13i => ?_)
    unfold InI at v13i
    rw [hF12n 1 _ (by unfold pNb; omega)] at v13e
    refine Tx.virtV hC te_196_56 mt_26 (args := [.inr 14, .inl v13]) (rest := []) (c' := 2) (s' := 12) rfl rfl rfl rfl rfl rfl rfl rfl rfl rfl ?_
    refine CWV.q hC (f_26e (W := 14) ⟨rfl, rfl, rfl, rfl, rfl⟩ r10R.1.w2 (by omega) (fun m15 hF16 r14t r14w => ?_))
    have r14R := Rdy.e_sp2 r10R hF16
    have r14c : cwq m15 14 = cwq m11 14 := funext (fun i => by unfold cwq; rw [hF16 (14 + 1) i (by omega), hF16 (14 + 2) i (by omega), hF16 (14 + 3) i (by omega), hF16 (14 + 4) i (by omega)])
    have r14l : RtL (ringsAll (cwq m15 14) (m15 14 0).toNat (mem 1 0).toNat) m15 14 := by
      rw [r14c, hF16 14 0 (by omega), show mem 1 0 = v13 by omega]
      exact r14w
    have r14E : Enum (cwq m15 14) (m15 14 0).toNat (NdC mem p0) := by
      rw [r14c, hF16 14 0 (by omega)]
      exact r10E
    have hF16n : Frm pNb mem m15 := hF12n.tr (Frm.mono (P := pW14c) hF16 (fun A i q => by unfold pW14c at q; unfold pNb; omega))
    refine Tx.iconst hC te_196_59 rfl ?_
    refine Tx.aload_n hC te_196_60 rfl ?_
    refine Tx.getR hC te_196_61 rfl rfl rfl ?_
    refine Tx.virtI hC te_196_64 mt_32 (args := [.inr 14]) (rest := [.inl 1]) (c' := 2) (s' := 12) rfl rfl rfl rfl rfl rfl rfl rfl rfl rfl ?_
    refine f_32x (W := 14) ⟨rfl, rfl, rfl, rfl, rfl⟩ r14t (fun r17 r17e r17a r17b r17i => ?_)
    unfold InI at r17i
    refine Tx.aload_n hC te_196_67 rfl ?_
    refine Tx.getR hC te_196_68 rfl rfl rfl ?_
    refine Tx.iconst hC te_196_71 rfl ?_
    refine Tx.iconst hC te_196_72 rfl ?_
    refine Tx.virtI hC te_196_73 mt_35 (args := [.inr 1, .inl (-1), .inl 1]) (rest := [.inl r17, .inl 1]) (c' := 2) (s' := 12) rfl rfl rfl rfl rfl rfl rfl rfl rfl rfl ?_
    refine f_35y r14R.cs.1.b rfl (fun r20 r20e r20a r20b r20i => ?_)
    unfold InI at r20i
    refine Tx.statI hC te_196_76 (by decide) mt_40 (args := [.inl r17, .inl r20]) (rest := [.inl 1]) (c' := 2) (s' := 12) rfl rfl rfl rfl rfl rfl rfl ?_
    refine f_40q (fun r23 r23a r23b r23c r23i => ?_)
    unfold InI at r23i
    refine Tx.statI hC te_196_79 (by decide) mt_40 (args := [.inl 1, .inl r23]) (rest := []) (c' := 2) (s' := 12) rfl rfl rfl rfl rfl rfl rfl ?_
    refine f_40q (fun r26 r26a r26b r26c r26i => ?_)
    unfold InI at r26i
    exact Tx.ireturn hC te_196_82 rfl (fun hr => show K r26 m15 from H (by omega) _ r14R.cs hF16n r14R.2.2.2.2 r14t r14E r14l (by omega) _ (by omega))
  · replace q9 : ¬ (¬ (v7 : Int) = 1) := q9
    exact Tx.thr hC te_196_22 rfl rfl rfl rfl rfl (show E 1 m5 from HE1 (by omega) _ r4R.cs hF6n (Or.inr ⟨r4R.2.2.2.2, by omega⟩))
theorem f_198x {S : Nat × (Nat → Int32)} {n : Nat} {mem : MM} {K : Int → MM → Prop} {E : Nat → MM → Prop} (hI : ClS mem) {p0 : Int} (H : ∀ m', ClS m' → Frm pNb mem m' → SndX m' → WbX m' → 0 ≤ p0 ∧ p0 < m' 9 0 → WtOK m' 14 → TalQ m' p0 → RtL (ringsAll (cwq m' 14) (m' 14 0).toNat (mem 1 0).toNat) m' 14 → ∀ r, r = upV (m' 14 5) (m' 14 6) → K r m') (HE2 : ∀ m', ClS m' → Frm pNb mem m' → SndX m' → WbX m' → ¬ (0 ≤ p0 ∧ p0 < m' 9 0) → E 2 m') (HE1 : ∀ m', ClS m' → Frm pNb mem m' → ¬ SndX m' → E 1 m') : CQI (Ex S (n + 17)) 198 [.inr 0, .inl p0] mem K E := by
  refine CY.of (k := 0) mt_198 rfl rfl (fun hv => ?_)
  have hC := Ex.mono S (n + 16)
  have ii_p0 : InI p0 := hv (.inl p0) (by simp)
  unfold InI at ii_p0
  clear hv
  have h8 := hI.1.b.1
  show Tx (Ex S (n + 16)) S M_198 (kI K E) 0 0 0 [some (.inr 0), some (.inl p0)] [] mem
  refine Tx.aload_n hC te_198_0 rfl ?_
  refine Tx.virtV hC te_198_1 mt_69 (args := [.inr 0]) (rest := []) (c' := 1) (s' := 6) rfl rfl rfl rfl rfl rfl rfl rfl rfl rfl ?_
  refine f_69x hI (fun m2 r1R hF3 => ?_) (fun m2 r1C hF3 r1s => HE1 _ r1C (Frm.rf.tr hF3) r1s)
  have r1w := r1R.1.w.2
  have hF3n : Frm pNb mem m2 := Frm.rf.tr hF3
  refine Tx.aload_n hC te_198_4 rfl ?_
  refine Tx.iload_n hC te_198_5 rfl ?_
  refine Tx.virtV hC te_198_6 mt_70 (args := [.inr 0, .inl p0]) (rest := []) (c' := 2) (s' := 12) rfl rfl rfl rfl rfl rfl rfl rfl rfl rfl ?_
  refine f_70n (fun r4a => ?_) (fun r4n => HE2 _ r1R.cs hF3n r1R.2.2.2.2 r1R.2.2.2.1 r4n)
  refine Tx.aload_n hC te_198_9 rfl ?_
  refine Tx.getR hC te_198_10 rfl rfl rfl ?_
  refine Tx.aload_n hC te_198_13 rfl ?_
  refine Tx.getR hC te_198_14 rfl rfl rfl ?_
  refine Tx.iload_n hC te_198_17 rfl ?_
  refine Tx.virtV hC te_198_18 mt_199 (args := [.inr 14, .inr 9, .inl p0]) (rest := []) (c' := 2) (s' := 12) rfl rfl rfl rfl rfl rfl rfl rfl rfl rfl ?_
  refine f_199x r1R.1.w r1R.1.w2.1 (by omega) (fun m8 hF9 r7k r7w => ?_)
  have r7R := Rdy.e_sp1 r1R hF9 r7w
  have r7Q : TalQ m8 p0 := r7k.q (by omega) (fun A i a b => hF9 A i (by unfold p14; omega))
  have r7z : m8 9 0 = m2 9 0 := hF9 9 0 (by unfold p14; omega)
  have hF9n : Frm pNb mem m8 := hF3n.tr (hF9.mono (fun A i q => by unfold p14 at q; unfold pNb; omega))
  refine Tx.aload_n hC te_198_21 rfl ?_
  refine Tx.getR hC te_198_22 rfl rfl rfl ?_
  refine Tx.aload_n hC te_198_25 rfl ?_
  refine Tx.getR hC te_198_26 rfl rfl rfl ?_
  refine Tx.getI hC te_198_29 rfl rfl rfl (fun v10 v10e v10i => ?_)
  unfold InI at v10i
  rw [hF9n 1 _ (by unfold pNb; omega)] at v10e
  refine Tx.virtV hC te_198_32 mt_26 (args := [.inr 14, .inl v10]) (rest := []) (c' := 2) (s' := 12) rfl rfl rfl rfl rfl rfl rfl rfl rfl rfl ?_
  refine CWV.q hC (f_26e (W := 14) ⟨rfl, rfl, rfl, rfl, rfl⟩ r7R.1.w2 (by omega) (fun m12 hF13 r11t r11w => ?_))
  have r11R := Rdy.e_sp2 r7R hF13
  have r11c : cwq m12 14 = cwq m8 14 := funext (fun i => by unfold cwq; rw [hF13 (14 + 1) i (by omega), hF13 (14 + 2) i (by omega), hF13 (14 + 3) i (by omega), hF13 (14 + 4) i (by omega)])
  have r11l : RtL (ringsAll (cwq m12 14) (m12 14 0).toNat (mem 1 0).toNat) m12 14 := by
    rw [r11c, hF13 14 0 (by omega), show mem 1 0 = v10 by omega]
    exact r11w
  have r11Q : TalQ m12 p0 := r7Q.fr (fun A i q => hF13 A i (by omega))
  have r11z : m12 9 0 = m8 9 0 := hF13 9 0 (by omega)
  have hF13n : Frm pNb mem m12 := hF9n.tr (Frm.mono (P := pW14c) hF13 (fun A i q => by unfold pW14c at q; unfold pNb; omega))
  refine Tx.aload_n hC te_198_35 rfl ?_
  refine Tx.getR hC te_198_36 rfl rfl rfl ?_
  refine Tx.virtI hC te_198_39 mt_32 (args := [.inr 14]) (rest := []) (c' := 2) (s' := 12) rfl rfl rfl rfl rfl rfl rfl rfl rfl rfl ?_
  refine f_32x (W := 14) ⟨rfl, rfl, rfl, rfl, rfl⟩ r11t (fun r14 r14e r14a r14b r14i => ?_)
  unfold InI at r14i
  exact Tx.ireturn hC te_198_42 rfl (fun hr => show K r14 m12 from H _ r11R.cs hF13n r11R.2.2.2.2 r11R.2.2.2.1 (by omega) r11t r11Q r11l _ (by omega))
