section
/-! laid by wip/hand/tg.py: turning, rotary of the class, exactly -/
theorem f_33z {S : Nat × (Nat → Int32)} {n : Nat} {mem : MM} {K : Int → MM → Prop} {E : Nat → MM → Prop} {a b c : Int} (hb : 0 < b) (ha : -c ≤ a ∧ a ≤ c) (hc : c ≤ 1000000) (H : ∀ r, b * (r - 1) < a → a ≤ b * r → -c ≤ r → r ≤ c → K r mem) : CQI (Ex S (n + 2)) 33 [.inl a, .inl b] mem K E := by
  refine CY.of (k := 0) mt_33 rfl rfl (fun hv => ?_)
  have hC := Ex.mono S (n + 1)
  have ii_a : InI a := hv (.inl a) (by simp)
  unfold InI at ii_a
  have ii_b : InI b := hv (.inl b) (by simp)
  unfold InI at ii_b
  clear hv
  show Tx (Ex S (n + 1)) S M_33 (kI K E) 0 0 0 [some (.inl a), some (.inl b)] [] mem
  refine Tx.iload_n hC te_33_0 rfl ?_
  refine Tx.ifc hC (t := 8) te_33_1 (by decide) (fun q1 => ?_) (fun q1 => ?_)
  · replace q1 : 0 < (b : Int) := q1
    refine Tx.iload_n hC te_33_8 rfl ?_
    refine Tx.inegW hC te_33_9 (fun z2 z2i z2e => ?_)
    unfold InI at z2i z2e
    replace z2e := z2e (by omega)
    refine Tx.iload_n hC te_33_10 rfl ?_
    refine Tx.statI hC te_33_11 (by decide) mt_34 (args := [.inl z2, .inl b]) (rest := []) (c' := 0) (s' := 0) rfl rfl rfl rfl rfl rfl rfl ?_
    refine f_34 (by omega) (fun r3 r3a r3b r3i => ?_)
    unfold InI at r3i
    have b1 : b * (-c) ≤ -c := by
      have k : 1 * c ≤ b * c := Int.mul_le_mul_of_nonneg_right (by omega) (by omega)
      rw [Int.mul_neg]
      omega
    have lo : -c ≤ r3 := Decidable.byContradiction (fun q => by
      have k : b * (r3 + 1) ≤ b * (-c) := Int.mul_le_mul_of_nonneg_left (by omega) (by omega)
      rw [Int.mul_add, Int.mul_one] at k
      omega)
    have hi : r3 ≤ c := Decidable.byContradiction (fun q => by
      have k : 1 * r3 ≤ b * r3 := Int.mul_le_mul_of_nonneg_right (by omega) (by omega)
      omega)
    refine Tx.inegW hC te_33_14 (fun z6 z6i z6e => ?_)
    unfold InI at z6i z6e
    replace z6e := z6e (by omega)
    exact Tx.ireturn hC te_33_15 rfl (fun hr => show K z6 mem from H z6 (by rw [z6e, show -r3 - 1 = -(r3 + 1) by omega, Int.mul_neg, Int.mul_add, Int.mul_one]; omega) (by rw [z6e, Int.mul_neg]; omega) (by omega) (by omega))
  · replace q1 : ¬ (0 < (b : Int)) := q1
    exact absurd hb q1
theorem ClS.e_whl {m m' : MM} (h : ClS m) (hF : Frm p140 m m') : ClS m' := ⟨CJ.e_whl h.1 hF, fun a b => by
  rw [hF 0 11 (by unfold p140; omega)] at a
  rw [hF 0 10 (by unfold p140; omega)] at b
  exact ⟨(h.2.1 a b).1.fr (fun A i q => hF A i (by unfold p140; omega)), (h.2.1 a b).2.fr (fun A i q => hF A i (by unfold p140; omega))⟩, fun a => SX.fr (h.2.2 (by rw [hF 0 11 (by unfold p140; omega)] at a; exact a)) (hF 0 10 (by unfold p140; omega)) (fun A i a b => hF A i (by unfold p140; omega))⟩
theorem FiC.whl {m m' : MM} {d : Int} {Q : Nat} (h : FiC m d Q) (hQ : 38 ≤ Q ∧ Q ≤ 122) (hF : Frm p140 m m') : FiC m' d Q := by
  obtain ⟨h1, h2, h3, h4⟩ := h
  refine ⟨h1.fr (fun A i a b => hF A i (by unfold p140; omega)), h2.fr (fun A i q => hF A i (by unfold p140; omega)), ?_, h4.fr (fun A i q => hF A i (by unfold p140; omega))⟩
  rw [hF 9 5 (by unfold p140; omega), hF 9 6 (by unfold p140; omega)]
  exact h3
theorem f_181x {S : Nat × (Nat → Int32)} {n : Nat} {mem : MM} {K : Int64 → MM → Prop} {Q : Nat} (hQ : ChSh Q) (hO : ChtOK mem Q) {d : Int} (hd : 1 ≤ d ∧ d ≤ 12) (h3 : mem Q 3 = d) {p o r : Int} (hp : 0 ≤ p ∧ p < 8) (ho : 0 ≤ o ∧ o < 8) (hr : 1 ≤ r ∧ r ≤ 40) (lp : 0 ≤ mem (Q + 4) p.toNat ∧ mem (Q + 4) p.toNat ≤ 12000) (lo : 0 ≤ mem (Q + 4) o.toNat ∧ mem (Q + 4) o.toNat ≤ 12000) (pp : -1 ≤ mem 140 p.toNat ∧ mem 140 p.toNat ≤ 40) (H : ∀ l, (∀ i : Nat, Bl l i ↔ (i : Int) < r ∧ SbW (mem (Q + 3)) (mem (Q + 4)) (mem 140) d r p.toNat o.toNat i) → K l mem) : CQLx (Ex S (n + 3)) 181 [.inr 139, .inr Q, .inl p, .inl o, .inl r] mem K := by
  refine CQLx.of (k := 6) mt_181 rfl rfl (fun hv => ?_)
  have hC := Ex.mono S (n + 2)
  have ii_p : InI p := hv (.inl p) (by simp)
  unfold InI at ii_p
  have ii_o : InI o := hv (.inl o) (by simp)
  unfold InI at ii_o
  have ii_r : InI r := hv (.inl r) (by simp)
  unfold InI at ii_r
  clear hv
  have hq8 := hQ.rg
  have hQ1 := hO.1
  show Lx (Ex S (n + 2)) S M_181 (fun h0 => QLx h0 K) 0 [some (.inl (.inr 139)), some (.inl (.inr Q)), some (.inl (.inl p)), some (.inl (.inl o)), some (.inl (.inl r)), none, none, none, none, none, none] [] mem
  have l_62 : ∀ (N : Nat) (x5 x6 x7 x10 : Int) (x8 : Int64), (x6 ≤ x10 ∧ x10 ≤ x6 + r) → (x10 = x6 ∨ x10 ≤ x7 + 1) → (-40000 ≤ x6 ∧ x6 ≤ 40000) → (ShL x8 (mem 140 p.toNat) r x6 x10) → (∀ t : Int, MtW (mem (Q + 3)) (mem (Q + 4)) d p.toNat o.toNat t ↔ x6 ≤ t ∧ t ≤ x7) → ((x6 + r - x10).toNat) < N → Lx (Ex S (n + 2)) S M_181 (fun h0 => QLx h0 K) 62 [some (.inl (.inr 139)), some (.inl (.inr Q)), some (.inl (.inl p)), some (.inl (.inl o)), some (.inl (.inl r)), some (.inl (.inl x5)), some (.inl (.inl x6)), some (.inl (.inl x7)), some (.inr x8), none, some (.inl (.inl x10))] [] mem := by
    intro N
    induction N with
    | zero => intros; omega
    | succ N ih_62 =>
      intro x5 x6 x7 x10 x8 i62_0 i62_1 i62_2 i62_3 i62_4 hN_62 
      refine Lx.iload hC te_181_62 rfl ?_
      refine Lx.iload hC te_181_64 rfl ?_
      refine Lx.icmp hC (t := 106) te_181_66 (by decide) (fun q1 => ?_) (fun q1 => ?_)
      · replace q1 : x7 < (x10 : Int) := q1
        refine Lx.lload hC te_181_106 rfl ?_
        exact Lx.lretX hC te_181_108 rfl (show K x8 mem from H _ (i62_3.fin (by omega) (by omega) (by omega) i62_4))
      · replace q1 : ¬ (x7 < (x10 : Int)) := q1
        refine Lx.iload hC te_181_69 rfl ?_
        refine Lx.iload hC te_181_71 rfl ?_
        refine Lx.iload hC te_181_73 rfl ?_
        refine Lx.iaddW hC te_181_75 (fun z2 z2i z2e => ?_)
        unfold InI at z2i z2e
        refine Lx.icmp hC (t := 106) te_181_76 (by decide) (fun q3 => ?_) (fun q3 => ?_)
        · replace q3 : z2 ≤ (x10 : Int) := q3
          refine Lx.lload hC te_181_106 rfl ?_
          exact Lx.lretX hC te_181_108 rfl (show K x8 mem from H _ (i62_3.fin (by omega) (by omega) (by omega) i62_4))
        · replace q3 : ¬ (z2 ≤ (x10 : Int)) := q3
          refine Lx.lload hC te_181_79 rfl ?_
          refine Lx.lconstX hC te_181_81 (fun l4 l4e => ?_)
          refine Lx.aload_n hC te_181_82 rfl ?_
          refine Lx.getR hC te_181_83 rfl rfl rfl ?_
          refine Lx.iload_n hC te_181_86 rfl ?_
          refine Lx.iald hC te_181_87 rfl (by omega) (fun v5 v5e v5i => ?_)
          unfold InI at v5i
          refine Lx.iload hC te_181_88 rfl ?_
          refine Lx.iaddW hC te_181_90 (fun z6 z6i z6e => ?_)
          unfold InI at z6i z6e
          first | replace z6e := z6e (by omega) | clear z6e
          refine Lx.iload hC te_181_91 rfl ?_
          refine Lx.statI hC te_181_93 (by decide) mt_94 (args := [.inl z6, .inl r]) (rest := [.inr l4, .inr x8]) rfl rfl rfl rfl rfl ?_
          refine f_94e (by omega) (fun r7i => ?_)
          have ey : z6 = mem 140 p.toNat + x10 := by omega
          refine Lx.lshlX hC te_181_96 (fun l10 l10e => ?_)
          refine Lx.lorX hC te_181_97 (fun l11 l11e => ?_)
          refine Lx.lstore hC te_181_98 rfl rfl ?_
          refine Lx.iincW hC te_181_100 rfl rfl rfl (fun z12 z12i z12e => ?_)
          unfold InI at z12i z12e
          first | replace z12e := z12e (by omega) | clear z12e
          refine Lx.goto hC (t := 62) te_181_103 (by decide) ?_
          exact ih_62 x5 x6 x7 z12 l11 (by omega) (by omega) (by omega) (by
            first
            | exact ShL.ini (by assumption) (by omega)
            | exact i62_3.nxt hr (by omega) (by omega) (by assumption) (by assumption) (by assumption) (by assumption)) (by
            first
            | exact i62_4
            | exact mtI (by omega) (by assumption) (by assumption) (by assumption) (by assumption) (by omega) (by omega)) (by omega)
  refine Lx.aload_n hC te_181_0 rfl ?_
  refine Lx.getR hC te_181_1 hQ.s0 rfl rfl ?_
  refine Lx.iload_n hC te_181_4 rfl ?_
  refine Lx.iald hC te_181_5 hQ.s3 (by omega) (fun v13 v13e v13i => ?_)
  unfold InI at v13i
  have f14 := hO.2 (Int.toNat p) (by omega)
  refine Lx.aload_n hC te_181_6 rfl ?_
  refine Lx.getR hC te_181_7 hQ.s0 rfl rfl ?_
  refine Lx.iload_n hC te_181_10 rfl ?_
  refine Lx.iald hC te_181_11 hQ.s3 (by omega) (fun v15 v15e v15i => ?_)
  unfold InI at v15i
  have f16 := hO.2 (Int.toNat o) (by omega)
  refine Lx.isubW hC te_181_12 (fun z17 z17i z17e => ?_)
  unfold InI at z17i z17e
  first | replace z17e := z17e (by omega) | clear z17e
  refine Lx.istore hC te_181_13 rfl rfl ?_
  refine Lx.iload hC te_181_15 rfl ?_
  refine Lx.aload_n hC te_181_17 rfl ?_
  refine Lx.getR hC te_181_18 hQ.s0 rfl rfl ?_
  refine Lx.iload_n hC te_181_21 rfl ?_
  refine Lx.iald hC te_181_22 hQ.s4 (by omega) (fun v18 v18e v18i => ?_)
  unfold InI at v18i
  refine Lx.isubW hC te_181_23 (fun z19 z19i z19e => ?_)
  unfold InI at z19i z19e
  first | replace z19e := z19e (by omega) | clear z19e
  refine Lx.iconst hC te_181_24 rfl ?_
  refine Lx.iaddW hC te_181_25 (fun z20 z20i z20e => ?_)
  unfold InI at z20i z20e
  first | replace z20e := z20e (by omega) | clear z20e
  refine Lx.aload_n hC te_181_26 rfl ?_
  refine Lx.getI hC te_181_27 hQ.s0 rfl rfl (fun v21 v21e v21i => ?_)
  unfold InI at v21i
  refine Lx.statI hC te_181_30 (by decide) mt_33 (args := [.inl z20, .inl v21]) (rest := []) rfl rfl rfl rfl rfl ?_
  refine f_33z (c := 40000) (by omega) (by omega) (by omega) (fun r22 r22a r22b r22c r22d r22i => ?_)
  rw [show v21 = d by omega] at r22a r22b
  unfold InI at r22i
  refine Lx.istore hC te_181_33 rfl rfl ?_
  refine Lx.iload hC te_181_35 rfl ?_
  refine Lx.aload_n hC te_181_37 rfl ?_
  refine Lx.getR hC te_181_38 hQ.s0 rfl rfl ?_
  refine Lx.iload_n hC te_181_41 rfl ?_
  refine Lx.iald hC te_181_42 hQ.s4 (by omega) (fun v25 v25e v25i => ?_)
  unfold InI at v25i
  refine Lx.iaddW hC te_181_43 (fun z26 z26i z26e => ?_)
  unfold InI at z26i z26e
  first | replace z26e := z26e (by omega) | clear z26e
  refine Lx.iconst hC te_181_44 rfl ?_
  refine Lx.isubW hC te_181_45 (fun z27 z27i z27e => ?_)
  unfold InI at z27i z27e
  first | replace z27e := z27e (by omega) | clear z27e
  refine Lx.aload_n hC te_181_46 rfl ?_
  refine Lx.getI hC te_181_47 hQ.s0 rfl rfl (fun v28 v28e v28i => ?_)
  unfold InI at v28i
  refine Lx.statI hC te_181_50 (by decide) mt_34 (args := [.inl z27, .inl v28]) (rest := []) rfl rfl rfl rfl rfl ?_
  refine f_34 (by omega) (fun r29 r29a r29b r29i => ?_)
  rw [show v28 = d by omega] at r29a r29b
  unfold InI at r29i
  refine Lx.istore hC te_181_53 rfl rfl ?_
  refine Lx.lconstX hC te_181_55 (fun l32 l32e => ?_)
  refine Lx.lstore hC te_181_56 rfl rfl ?_
  refine Lx.iload hC te_181_58 rfl ?_
  refine Lx.istore hC te_181_60 rfl rfl ?_
  exact l_62 _ z17 r22 r29 r22 l32 (by omega) (by omega) (by omega) (by
    first
    | exact ShL.ini (by assumption) (by omega)
    | exact i62_3.nxt hr (by omega) (by omega) (by assumption) (by assumption) (by assumption) (by assumption)) (by
    first
    | exact i62_4
    | exact mtI (by omega) (by assumption) (by assumption) (by assumption) (by assumption) (by omega) (by omega)) (Nat.lt_succ_self _)
theorem f_180x {S : Nat × (Nat → Int32)} {n : Nat} {mem : MM} {K : Int → MM → Prop} {E : Nat → MM → Prop} {Q : Nat} (hQ : ChSh Q) (hO : ChtOK mem Q) {d : Int} (hd : 1 ≤ d ∧ d ≤ 12) (h3 : mem Q 3 = d) {o r : Int} (ho : 0 ≤ o ∧ o < 8) (hr : 1 ≤ r ∧ r ≤ 40) (hl : ∀ u : Nat, (u : Int) ≤ o → 0 ≤ mem (Q + 4) u ∧ mem (Q + 4) u ≤ 12000) (hp : ∀ a : Nat, (a : Int) < o → -1 ≤ mem 140 a ∧ mem 140 a ≤ 40) (H : ∀ y, PcW (mem (Q + 3)) (mem (Q + 4)) (mem 140) d r o.toNat y → K y mem) : CQI (Ex S (n + 4)) 180 [.inr 139, .inr Q, .inl o, .inl r] mem K E := by
  refine CY.of (k := 3) mt_180 rfl rfl (fun hv => ?_)
  have hC := Ex.mono S (n + 3)
  have ii_o : InI o := hv (.inl o) (by simp)
  unfold InI at ii_o
  have ii_r : InI r := hv (.inl r) (by simp)
  unfold InI at ii_r
  clear hv
  have hq8 := hQ.rg
  have hQ1 := hO.1
  have mb := mulb (a := d) (b := r) (c := 12) (e := 40) (by omega) (by omega)
  refine Tx.ofL ?_
  show Lx (Ex S (n + 3)) S M_180 (fun h0 => QX h0 (kI K E)) 0 [some (.inl (.inr 139)), some (.inl (.inr Q)), some (.inl (.inl o)), some (.inl (.inl r)), none, none, none] [] mem
  have l_62 : ∀ (N : Nat) (x6 : Int) (x4 : Int64), (0 ≤ x6 ∧ x6 ≤ r) → (ShO (mem (Q + 3)) (mem (Q + 4)) (mem 140) d r o.toNat x4 o) → (∀ x : Int, 0 ≤ x → x < x6 → ShW (mem (Q + 3)) (mem (Q + 4)) (mem 140) d r o.toNat x) → (mem (Q + 4) o.toNat ≤ d * r) → ((40 - x6).toNat) < N → Lx (Ex S (n + 3)) S M_180 (fun h0 => QX h0 (kI K E)) 62 [some (.inl (.inr 139)), some (.inl (.inr Q)), some (.inl (.inl o)), some (.inl (.inl r)), some (.inr x4), none, some (.inl (.inl x6))] [] mem := by
    intro N
    induction N with
    | zero => intros; omega
    | succ N ih_62 =>
      intro x6 x4 i62_0 i62_1 i62_2 i62_3 hN_62 
      refine Lx.iload hC te_180_62 rfl ?_
      refine Lx.iload_n hC te_180_64 rfl ?_
      refine Lx.icmp hC (t := 89) te_180_65 (by decide) (fun q1 => ?_) (fun q1 => ?_)
      · replace q1 : r ≤ (x6 : Int) := q1
        refine Lx.iconst hC te_180_89 rfl ?_
        exact Lx.ireturn hC te_180_90 rfl (fun hr => show K (-1) mem from (by
          first
          | exact H _ (Or.inr ⟨rfl, Or.inl (by omega)⟩)
          | exact H _ (Or.inr ⟨rfl, Or.inr (fun x a b => i62_2 x a (by omega))⟩)))
      · replace q1 : ¬ (r ≤ (x6 : Int)) := q1
        refine Lx.lload hC te_180_68 rfl ?_
        refine Lx.lconstX hC te_180_70 (fun l2 l2e => ?_)
        refine Lx.iload hC te_180_71 rfl ?_
        refine Lx.lshlX hC te_180_73 (fun l3 l3e => ?_)
        refine Lx.landX hC te_180_74 (fun l4 l4e => ?_)
        refine Lx.lconstX hC te_180_75 (fun l5 l5e => ?_)
        refine Lx.lcmpX hC te_180_76 (fun z6 z6e z6i => ?_)
        unfold InI at z6i
        have tz : z6 = 0 ↔ ¬ Bl x4 (x6 : Int).toNat := tstL (by omega) (by assumption) (by assumption) (by assumption) (by assumption) (by assumption)
        have ts := i62_1.sh (y := x6) (by omega) (by omega)
        refine Lx.ifc hC (t := 83) te_180_77 (by decide) (fun q7 => ?_) (fun q7 => ?_)
        · replace q7 : ¬ (z6 : Int) = 0 := q7
          refine Lx.iincW hC te_180_83 rfl rfl rfl (fun z8 z8i z8e => ?_)
          unfold InI at z8i z8e
          first | replace z8e := z8e (by omega) | clear z8e
          refine Lx.goto hC (t := 62) te_180_86 (by decide) ?_
          exact ih_62 z8 x4 (by omega) (by
            first
            | exact i62_1
            | (rw [show x6 = o by omega] at i23_1
               exact i23_1)) (by
            intro x a b
            first
            | (exfalso; omega)
            | (by_cases q : x < x6
               · exact i62_2 x a q
               · rw [show x = x6 by omega]
                 exact ts.mp (Classical.byContradiction (fun w => by have := tz.mpr w; omega)))) (by omega) (by omega)
        · replace q7 : ¬ (¬ (z6 : Int) = 0) := q7
          refine Lx.iload hC te_180_80 rfl ?_
          exact Lx.ireturn hC te_180_82 rfl (fun hr => show K x6 mem from H _ (Or.inl ⟨by omega, by omega, i62_3, fun w => (tz.mp (by omega)) (ts.mpr w), i62_2⟩))
  have l_23 : ∀ (N : Nat) (x6 : Int) (x4 : Int64), (0 ≤ x6 ∧ x6 ≤ o) → (ShO (mem (Q + 3)) (mem (Q + 4)) (mem 140) d r o.toNat x4 x6) → (mem (Q + 4) o.toNat ≤ d * r) → ((8 - x6).toNat) < N → Lx (Ex S (n + 3)) S M_180 (fun h0 => QX h0 (kI K E)) 23 [some (.inl (.inr 139)), some (.inl (.inr Q)), some (.inl (.inl o)), some (.inl (.inl r)), some (.inr x4), none, some (.inl (.inl x6))] [] mem := by
    intro N
    induction N with
    | zero => intros; omega
    | succ N ih_23 =>
      intro x6 x4 i23_0 i23_1 i23_2 hN_23 
      refine Lx.iload hC te_180_23 rfl ?_
      refine Lx.iload_n hC te_180_25 rfl ?_
      refine Lx.icmp hC (t := 59) te_180_26 (by decide) (fun q9 => ?_) (fun q9 => ?_)
      · replace q9 : o ≤ (x6 : Int) := q9
        refine Lx.iconst hC te_180_59 rfl ?_
        refine Lx.istore hC te_180_60 rfl rfl ?_
        exact l_62 _ 0 x4 (by omega) (by
          first
          | exact i62_1
          | (rw [show x6 = o by omega] at i23_1
             exact i23_1)) (by
          intro x a b
          first
          | (exfalso; omega)
          | (by_cases q : x < x6
             · exact i62_2 x a q
             · rw [show x = x6 by omega]
               exact ts.mp (Classical.byContradiction (fun w => by have := tz.mpr w; omega)))) (by omega) (Nat.lt_succ_self _)
      · replace q9 : ¬ (o ≤ (x6 : Int)) := q9
        refine Lx.aload_n hC te_180_29 rfl ?_
        refine Lx.getR hC te_180_30 hQ.s0 rfl rfl ?_
        refine Lx.iload hC te_180_33 rfl ?_
        refine Lx.iald hC te_180_35 hQ.s4 (by omega) (fun v10 v10e v10i => ?_)
        unfold InI at v10i
        have f11 := hl (Int.toNat x6) (by omega)
        refine Lx.ifc hC (t := 53) te_180_36 (by decide) (fun q12 => ?_) (fun q12 => ?_)
        · replace q12 : (v10 : Int) ≤ 0 := q12
          refine Lx.iincW hC te_180_53 rfl rfl rfl (fun z13 z13i z13e => ?_)
          unfold InI at z13i z13e
          first | replace z13e := z13e (by omega) | clear z13e
          refine Lx.goto hC (t := 23) te_180_56 (by decide) ?_
          exact ih_23 z13 x4 (by omega) (by
            first
            | exact ShO.ini (by assumption)
            | exact i23_1.no (by omega) (by omega) (by omega)
            | exact i23_1.yes (by omega) (by omega) (by omega) (by assumption) (by assumption)) (by omega) (by omega)
        · replace q12 : ¬ ((v10 : Int) ≤ 0) := q12
          refine Lx.lload hC te_180_39 rfl ?_
          refine Lx.aload_n hC te_180_41 rfl ?_
          refine Lx.aload_n hC te_180_42 rfl ?_
          refine Lx.iload hC te_180_43 rfl ?_
          refine Lx.iload_n hC te_180_45 rfl ?_
          refine Lx.iload_n hC te_180_46 rfl ?_
          refine Lx.virtLX hC te_180_47 mt_181 (args := [.inr 139, .inr Q, .inl x6, .inl o, .inl r]) (rest := [.inr x4]) rfl rfl rfl rfl rfl rfl rfl rfl ?_
          refine f_181x hQ hO hd h3 (by omega) (by omega) hr (hl _ (by omega)) (hl _ (by omega)) (hp _ (by omega)) (fun r14 r14b => ?_)
          refine Lx.lorX hC te_180_50 (fun l17 l17e => ?_)
          refine Lx.lstore hC te_180_51 rfl rfl ?_
          refine Lx.iincW hC te_180_53 rfl rfl rfl (fun z18 z18i z18e => ?_)
          unfold InI at z18i z18e
          first | replace z18e := z18e (by omega) | clear z18e
          refine Lx.goto hC (t := 23) te_180_56 (by decide) ?_
          exact ih_23 z18 l17 (by omega) (by
            first
            | exact ShO.ini (by assumption)
            | exact i23_1.no (by omega) (by omega) (by omega)
            | exact i23_1.yes (by omega) (by omega) (by omega) (by assumption) (by assumption)) (by omega) (by omega)
  refine Lx.aload_n hC te_180_0 rfl ?_
  refine Lx.getR hC te_180_1 hQ.s0 rfl rfl ?_
  refine Lx.iload_n hC te_180_4 rfl ?_
  refine Lx.iald hC te_180_5 hQ.s4 (by omega) (fun v19 v19e v19i => ?_)
  unfold InI at v19i
  have f20 := hl (Int.toNat o) (by omega)
  refine Lx.aload_n hC te_180_6 rfl ?_
  refine Lx.getI hC te_180_7 hQ.s0 rfl rfl (fun v21 v21e v21i => ?_)
  unfold InI at v21i
  refine Lx.iload_n hC te_180_10 rfl ?_
  have s3 : v21 = d := by omega
  rw [← s3] at mb
  refine Lx.imulW hC te_180_11 (fun z22 z22i z22e => ?_)
  unfold InI at z22i z22e
  first | replace z22e := z22e (by omega) | clear z22e
  rw [s3] at mb
  have zx : z22 = d * r := by rw [z22e, s3]
  refine Lx.icmp hC (t := 17) te_180_12 (by decide) (fun q23 => ?_) (fun q23 => ?_)
  · replace q23 : (v19 : Int) ≤ z22 := q23
    refine Lx.lconstX hC te_180_17 (fun l24 l24e => ?_)
    refine Lx.lstore hC te_180_18 rfl rfl ?_
    refine Lx.iconst hC te_180_20 rfl ?_
    refine Lx.istore hC te_180_21 rfl rfl ?_
    exact l_23 _ 0 l24 (by omega) (by
      first
      | exact ShO.ini (by assumption)
      | exact i23_1.no (by omega) (by omega) (by omega)
      | exact i23_1.yes (by omega) (by omega) (by omega) (by assumption) (by assumption)) (by omega) (Nat.lt_succ_self _)
  · replace q23 : ¬ ((v19 : Int) ≤ z22) := q23
    refine Lx.iconst hC te_180_15 rfl ?_
    exact Lx.ireturn hC te_180_16 rfl (fun hr => show K (-1) mem from (by
      first
      | exact H _ (Or.inr ⟨rfl, Or.inl (by omega)⟩)
      | exact H _ (Or.inr ⟨rfl, Or.inr (fun x a b => i62_2 x a (by omega))⟩)))
theorem f_179x {S : Nat × (Nat → Int32)} {n : Nat} {mem : MM} {K : Int → MM → Prop} {E : Nat → MM → Prop} {Q : Nat} (hQ : ChSh Q) (h2 : mem Q 2 = mem 1 0) (h8 : 0 ≤ mem 1 0 ∧ mem 1 0 ≤ 8) (hO : ChtOK mem Q) {d : Int} (hd : 1 ≤ d ∧ d ≤ 12) (h3 : mem Q 3 = d) (hl : ∀ o : Nat, (o : Int) < mem 1 0 → 0 ≤ mem (Q + 4) o ∧ mem (Q + 4) o ≤ 12000) {r : Int} (hr : 1 ≤ r ∧ r ≤ 40) (H : ∀ y m', Frm p140 mem m' → StW (mem (Q + 3)) (mem (Q + 4)) d r m' y (mem 1 0) → (y = 0 ∨ y = 1) → K y m') : CQI (Ex S (n + 5)) 179 [.inr 139, .inr Q, .inl r] mem K E := by
  refine CY.of (k := 2) mt_179 rfl rfl (fun hv => ?_)
  have hC := Ex.mono S (n + 4)
  have ii_r : InI r := hv (.inl r) (by simp)
  unfold InI at ii_r
  clear hv
  have hq8 := hQ.rg
  show Tx (Ex S (n + 4)) S M_179 (kI K E) 0 0 0 [some (.inr 139), some (.inr Q), some (.inl r), none, none] [] mem
  have l_5 : ∀ (N : Nat) (x3 x4 : Int) (m_5 : MM), (0 ≤ x4 ∧ x4 ≤ mem 1 0) → (x3 = 0 ∨ x3 = 1) → (StW (mem (Q + 3)) (mem (Q + 4)) d r m_5 x3 x4) → ((8 - x4).toNat) < N → Frm p140 mem m_5 → Tx (Ex S (n + 4)) S M_179 (kI K E) 0 0 5 [some (.inr 139), some (.inr Q), some (.inl r), some (.inl x3), some (.inl x4)] [] m_5 := by
    intro N
    induction N with
    | zero => intros; omega
    | succ N ih_5 =>
      intro x3 x4 m_5 i5_0 i5_1 i5_2 hN_5 hF_5
      refine Tx.iload hC te_179_5 rfl ?_
      refine Tx.aload_n hC te_179_7 rfl ?_
      refine Tx.getI hC te_179_8 hQ.s0 rfl rfl (fun v1 v1e v1i => ?_)
      unfold InI at v1i
      rw [hF_5 Q _ (by unfold p140; omega)] at v1e
      refine Tx.icmp hC (t := 74) te_179_11 (by decide) (fun q2 => ?_) (fun q2 => ?_)
      · replace q2 : v1 ≤ (x4 : Int) := q2
        refine Tx.iload_n hC te_179_74 rfl ?_
        exact Tx.bret hC te_179_75 rfl (by omega) (show K x3 m_5 from H _ _ hF_5 (by rw [show mem 1 0 = x4 by omega]; exact i5_2) (by omega))
      · replace q2 : ¬ (v1 ≤ (x4 : Int)) := q2
        refine Tx.aload_n hC te_179_14 rfl ?_
        refine Tx.getR hC te_179_15 rfl rfl rfl ?_
        refine Tx.iload hC te_179_18 rfl ?_
        refine Tx.iconst hC te_179_20 rfl ?_
        refine Tx.iast hC te_179_21 rfl (by omega) ?_
        have hF4 : Frm p140 mem (upm m_5 140 (Int.toNat x4) (-1)) := Frm.up hF_5 (by unfold p140; omega)
        have m3e : (upm m_5 140 (Int.toNat x4) (-1)) 140 (Int.toNat x4) = (-1) := upm_eq
        have m3n : ∀ B j, ¬ (B = 140 ∧ j = (Int.toNat x4)) → (upm m_5 140 (Int.toNat x4) (-1)) B j = m_5 B j := fun B j q => upm_ne q
        generalize upm m_5 140 (Int.toNat x4) (-1) = m3 at hF4 m3e m3n ⊢
        refine Tx.iload_n hC te_179_22 rfl ?_
        refine Tx.ifc hC (t := 68) te_179_23 (by decide) (fun q5 => ?_) (fun q5 => ?_)
        · replace q5 : (x3 : Int) = 0 := q5
          refine Tx.iincW hC te_179_68 rfl rfl (fun z6 z6i z6e => ?_)
          unfold InI at z6i z6e
          first | replace z6e := z6e (by omega) | clear z6e
          refine Tx.goto hC (t := 5) te_179_71 (by decide) ?_
          exact ih_5 x3 z6 m3 (by omega) (by omega) (by
            first
            | exact StW.ini
            | exact i5_2.no (by omega) (by omega) (by omega) (by omega) (by assumption) (by assumption)
            | exact i5_2.yes (by omega) (by omega) (by omega) (by omega) (by omega) (by omega) n1 (by assumption) (by assumption) (by assumption) (by omega)) (by omega) hF4
        · replace q5 : ¬ ((x3 : Int) = 0) := q5
          refine Tx.aload_n hC te_179_26 rfl ?_
          refine Tx.getR hC te_179_27 hQ.s0 rfl rfl ?_
          refine Tx.iload hC te_179_30 rfl ?_
          refine Tx.iald hC te_179_32 hQ.s4 (by omega) (fun v7 v7e v7i => ?_)
          unfold InI at v7i
          rw [hF4 (Q + 4) _ (by unfold p140; omega)] at v7e
          refine Tx.ifc hC (t := 68) te_179_33 (by decide) (fun q8 => ?_) (fun q8 => ?_)
          · replace q8 : (v7 : Int) ≤ 0 := q8
            refine Tx.iincW hC te_179_68 rfl rfl (fun z9 z9i z9e => ?_)
            unfold InI at z9i z9e
            first | replace z9e := z9e (by omega) | clear z9e
            refine Tx.goto hC (t := 5) te_179_71 (by decide) ?_
            exact ih_5 x3 z9 m3 (by omega) (by omega) (by
              first
              | exact StW.ini
              | exact i5_2.no (by omega) (by omega) (by omega) (by omega) (by assumption) (by assumption)
              | exact i5_2.yes (by omega) (by omega) (by omega) (by omega) (by omega) (by omega) n1 (by assumption) (by assumption) (by assumption) (by omega)) (by omega) hF4
          · replace q8 : ¬ ((v7 : Int) ≤ 0) := q8
            refine Tx.aload_n hC te_179_36 rfl ?_
            refine Tx.getR hC te_179_37 rfl rfl rfl ?_
            refine Tx.iload hC te_179_40 rfl ?_
            refine Tx.aload_n hC te_179_42 rfl ?_
            refine Tx.aload_n hC te_179_43 rfl ?_
            refine Tx.iload hC te_179_44 rfl ?_
            refine Tx.iload_n hC te_179_46 rfl ?_
            refine Tx.virtI hC te_179_47 mt_180 (args := [.inr 139, .inr Q, .inl x4, .inl r]) (rest := [.inl x4, .inr 140]) (c' := 0) (s' := 0) rfl rfl rfl rfl rfl rfl rfl rfl rfl rfl ?_
            have fr : ∀ A i, ¬ A = 140 → m3 A i = mem A i := fun A i a => hF4 A i (by unfold p140; omega)
            have kO : ChtOK m3 Q := hO.fr (fun A i a b => fr A i (by omega))
            have k3 : m3 Q 3 = d := by rw [fr Q 3 (by omega)]; exact h3
            have r3 : m3 (Q + 3) = mem (Q + 3) := funext fun i => fr _ i (by omega)
            have r4 : m3 (Q + 4) = mem (Q + 4) := funext fun i => fr _ i (by omega)
            have n1 := m3n
            refine f_180x hQ kO hd k3 (by omega) hr (fun u hu => by rw [r4]; exact hl u (by omega)) (fun a ha => by rw [n1 140 a (by omega)]; exact i5_2.2.2 a ha) (fun r10 r10p r10i => ?_)
            rw [r3, r4] at r10p
            unfold InI at r10i
            refine Tx.iast hC te_179_50 rfl (by omega) ?_
            have hF14 : Frm p140 mem (upm m3 140 (Int.toNat x4) r10) := Frm.up hF4 (by unfold p140; omega)
            have m13e : (upm m3 140 (Int.toNat x4) r10) 140 (Int.toNat x4) = r10 := upm_eq
            have m13n : ∀ B j, ¬ (B = 140 ∧ j = (Int.toNat x4)) → (upm m3 140 (Int.toNat x4) r10) B j = m3 B j := fun B j q => upm_ne q
            generalize upm m3 140 (Int.toNat x4) r10 = m13 at hF14 m13e m13n ⊢
            refine Tx.aload_n hC te_179_51 rfl ?_
            refine Tx.getR hC te_179_52 rfl rfl rfl ?_
            refine Tx.iload hC te_179_55 rfl ?_
            refine Tx.iald hC te_179_57 rfl (by omega) (fun v15 v15e v15i => ?_)
            unfold InI at v15i
            refine Tx.iconst hC te_179_58 rfl ?_
            refine Tx.icmp hC (t := 66) te_179_59 (by decide) (fun q16 => ?_) (fun q16 => ?_)
            · replace q16 : (v15 : Int) = (-1) := q16
              refine Tx.iconst hC te_179_66 rfl ?_
              refine Tx.istore_n hC te_179_67 rfl ?_
              refine Tx.iincW hC te_179_68 rfl rfl (fun z17 z17i z17e => ?_)
              unfold InI at z17i z17e
              first | replace z17e := z17e (by omega) | clear z17e
              refine Tx.goto hC (t := 5) te_179_71 (by decide) ?_
              exact ih_5 0 z17 m13 (by omega) (by omega) (by
                first
                | exact StW.ini
                | exact i5_2.no (by omega) (by omega) (by omega) (by omega) (by assumption) (by assumption)
                | exact i5_2.yes (by omega) (by omega) (by omega) (by omega) (by omega) (by omega) n1 (by assumption) (by assumption) (by assumption) (by omega)) (by omega) hF14
            · replace q16 : ¬ ((v15 : Int) = (-1)) := q16
              refine Tx.iconst hC te_179_62 rfl ?_
              refine Tx.goto hC (t := 67) te_179_63 (by decide) ?_
              refine Tx.istore_n hC te_179_67 rfl ?_
              refine Tx.iincW hC te_179_68 rfl rfl (fun z18 z18i z18e => ?_)
              unfold InI at z18i z18e
              first | replace z18e := z18e (by omega) | clear z18e
              refine Tx.goto hC (t := 5) te_179_71 (by decide) ?_
              exact ih_5 1 z18 m13 (by omega) (by omega) (by
                first
                | exact StW.ini
                | exact i5_2.no (by omega) (by omega) (by omega) (by omega) (by assumption) (by assumption)
                | exact i5_2.yes (by omega) (by omega) (by omega) (by omega) (by omega) (by omega) n1 (by assumption) (by assumption) (by assumption) (by omega)) (by omega) hF14
  refine Tx.iconst hC te_179_0 rfl ?_
  refine Tx.istore_n hC te_179_1 rfl ?_
  refine Tx.iconst hC te_179_2 rfl ?_
  refine Tx.istore hC te_179_3 rfl ?_
  exact l_5 _ 1 0 mem (by omega) (by omega) (by
    first
    | exact StW.ini
    | exact i5_2.no (by omega) (by omega) (by omega) (by omega) (by assumption) (by assumption)
    | exact i5_2.yes (by omega) (by omega) (by omega) (by omega) (by omega) (by omega) n1 (by assumption) (by assumption) (by assumption) (by omega)) (Nat.lt_succ_self _) Frm.rf
theorem f_178x {S : Nat × (Nat → Int32)} {n : Nat} {mem : MM} {K : Int → MM → Prop} {E : Nat → MM → Prop} (hI : ClS mem) {p0 : Int} (H : 1 ≤ p0 ∧ p0 ≤ 12 → ∀ m' Q, ClS m' → Frm pNb mem m' → (38 ≤ Q ∧ Q ≤ 122) → FiC m' p0 Q → ∀ r, TgX (m' (Q + 3)) (m' (Q + 4)) p0 r (m' 1 0).toNat → K r m') (HE0 : ¬ (1 ≤ p0 ∧ p0 ≤ 12) → E 0 mem) (HE1 : 1 ≤ p0 ∧ p0 ≤ 12 → ∀ m', ClS m' → Frm pNb mem m' → NoC m' p0 → E 1 m') : CQI (Ex S (n + 17)) 178 [.inr 0, .inl p0] mem K E := by
  refine CY.of (k := 2) mt_178 rfl rfl (fun hv => ?_)
  have hC := Ex.mono S (n + 16)
  have ii_p0 : InI p0 := hv (.inl p0) (by simp)
  unfold InI at ii_p0
  clear hv
  show Tx (Ex S (n + 16)) S M_178 (kI K E) 0 0 0 [some (.inr 0), some (.inl p0), none, none] [] mem
  have l_8 : ∀ (N : Nat) (x3 : Int) (Q : Nat) (m_8 : MM), (1 ≤ x3 ∧ x3 ≤ 41) → (ChSh Q) → (ClS m_8) → (FiC m_8 p0 Q) → (∀ k : Int, 1 ≤ k → k < x3 → TgN (m_8 (Q + 3)) (m_8 (Q + 4)) p0 k (m_8 1 0).toNat) → (1 ≤ p0 ∧ p0 ≤ 12) → ((41 - x3).toNat) < N → Frm pNb mem m_8 → Tx (Ex S (n + 16)) S M_178 (kI K E) 3 18 8 [some (.inr 0), some (.inl p0), some (.inr Q), some (.inl x3)] [] m_8 := by
    intro N
    induction N with
    | zero => intros; omega
    | succ N ih_8 =>
      intro x3 Q m_8 i8_0 i8_1 i8_2 i8_3 i8_4 i8_5 hN_8 hF_8
      have hQ := i8_1
      have hq8 := hQ.rg
      have o8 := i8_2.1.ch Q hQ
      have g8 := i8_3.2.2.2.rg o8 i8_2.1.b i8_5
      have h8q := i8_3.2.2.2.1
      have b8 := i8_2.1.b.1
      refine Tx.iload_n hC te_178_8 rfl ?_
      refine Tx.bipush hC te_178_9 rfl rfl ?_
      refine Tx.icmp hC (t := 34) te_178_11 (by decide) (fun q1 => ?_) (fun q1 => ?_)
      · replace q1 : 40 < (x3 : Int) := q1
        refine Tx.iconst hC te_178_34 rfl ?_
        exact Tx.ireturn hC te_178_35 rfl (fun hr => show K (-1) m_8 from H i8_5 _ _ i8_2 hF_8 hq8 i8_3 _ (Or.inr ⟨rfl, fun k a b => i8_4 k a (by omega)⟩))
      · replace q1 : ¬ (40 < (x3 : Int)) := q1
        refine Tx.aload_n hC te_178_14 rfl ?_
        refine Tx.getR hC te_178_15 rfl rfl rfl ?_
        refine Tx.aload_n hC te_178_18 rfl ?_
        refine Tx.iload_n hC te_178_19 rfl ?_
        refine Tx.virtI hC te_178_20 mt_179 (args := [.inr 139, .inr Q, .inl x3]) (rest := []) (c' := 3) (s' := 18) rfl rfl rfl rfl rfl rfl rfl rfl rfl rfl ?_
        refine f_179x hQ h8q.1 b8 o8 i8_5 h8q.2 (fun o ho => (g8.1 o ho).1) (by omega) (fun r2 m3 hF4 r2w r2b r2i => ?_)
        have r2C := ClS.e_whl i8_2 hF4
        have r2W := FiC.whl i8_3 (by omega) hF4
        have w3 : m3 (Q + 3) = m_8 (Q + 3) := funext fun i => hF4 _ i (by unfold p140; omega)
        have w4 : m3 (Q + 4) = m_8 (Q + 4) := funext fun i => hF4 _ i (by unfold p140; omega)
        have w1 : m3 1 0 = m_8 1 0 := hF4 1 0 (by unfold p140; omega)
        rw [← w3, ← w4, ← w1] at r2w
        have hF4n : Frm pNb mem m3 := hF_8.tr (hF4.mono (fun A i q => by unfold p140 at q; unfold pNb; omega))
        unfold InI at r2i
        refine Tx.ifc hC (t := 28) te_178_23 (by decide) (fun q5 => ?_) (fun q5 => ?_)
        · replace q5 : (r2 : Int) = 0 := q5
          refine Tx.iincW hC te_178_28 rfl rfl (fun z6 z6i z6e => ?_)
          unfold InI at z6i z6e
          first | replace z6e := z6e (by omega) | clear z6e
          refine Tx.goto hC (t := 8) te_178_31 (by decide) ?_
          exact ih_8 z6 (Q) m3 (by omega) (hQ) (r2C) (r2W) (by
            intro k a b
            first
            | (exfalso; omega)
            | (rw [w3, w4, w1]
               by_cases z : k < x3
               · exact i8_4 k a z
               · rw [show k = x3 by omega, ← w3, ← w4, ← w1]
                 exact ⟨_, r2w.1, fun g => by have := r2w.2.1.mpr g; omega⟩)) (by omega) (by omega) hF4n
        · replace q5 : ¬ ((r2 : Int) = 0) := q5
          refine Tx.iload_n hC te_178_26 rfl ?_
          exact Tx.ireturn hC te_178_27 rfl (fun hr => show K x3 m3 from H i8_5 _ _ r2C hF4n hq8 r2W _ (Or.inl ⟨by omega, by omega, ⟨_, r2w.1, r2w.2.1.mp (by omega)⟩, fun k a b => by rw [w3, w4, w1]; exact i8_4 k a b⟩))
  refine Tx.aload_n hC te_178_0 rfl ?_
  refine Tx.iload_n hC te_178_1 rfl ?_
  refine Tx.virtR hC te_178_2 mt_115 (args := [.inr 0, .inl p0]) (rest := []) (c' := 3) (s' := 18) rfl rfl rfl rfl rfl rfl rfl rfl rfl rfl ?_
  refine f_115x hI (fun Q m8 hQ r7C hF9 r7d r7W => ?_) (fun r7n => HE0 r7n) (fun r7d m8 r7C hF9 r7n => HE1 r7d _ r7C hF9 r7n)
  have hq8 := hQ.rg
  have r7O := r7C.1.ch Q hQ
  have r7g := r7W.2.2.2.rg r7O r7C.1.b r7d
  have r7h := r7W.2.2.2.1
  have r78 := r7C.1.b.1
  have k10 : m8 1 0 = mem 1 0 := hF9 1 0 (by unfold pNb; omega)
  have k80 : ∀ i, m8 8 i = mem 8 i := fun i => hF9 8 i (by unfold pNb; omega)
  have hF9n : Frm pNb mem m8 := hF9
  refine Tx.astore_n hC te_178_5 rfl ?_
  refine Tx.iconst hC te_178_6 rfl ?_
  refine Tx.istore_n hC te_178_7 rfl ?_
  exact l_8 _ 1 (Q) m8 (by omega) (hQ) (r7C) (r7W) (by
    intro k a b
    first
    | (exfalso; omega)
    | (rw [w3, w4, w1]
       by_cases z : k < x3
       · exact i8_4 k a z
       · rw [show k = x3 by omega, ← w3, ← w4, ← w1]
         exact ⟨_, X.1, fun g => by have := X.2.1.mpr g; omega⟩)) (by omega) (Nat.lt_succ_self _) hF9n
end
section
/-! a file that turns, in the reference, exactly -/
section RWH
variable {S : Nat × (Nat → Int32)} {n : Nat} {mem : MM} {K : Int → MM → Prop} {d : Int}
def lfW (m : MM) (d : Int) (o : Nat) : Int := lifeF m o d
theorem lfW_cg {m m' : MM} (e : Fr1 169 m m') : cmR m' = cmR m ∧ lfW m' d = lfW m d := by
  have r1 : ∀ A i, ¬ A = 169 → m' A i = m A i := fun A i q => e A i (by omega)
  have l1 : latF m' = latF m := funext fun o => by unfold latF; rw [r1 144 o (by omega), r1 151 _ (by omega)]
  refine ⟨funext fun o => by unfold cmR; rw [l1, r1 161 o (by omega)], funext fun o => ?_⟩
  have k1 : ∀ u k L, lst1 m' o d u k L = lst1 m o d u k L := fun u k L => by
    unfold lst1 srcA srcB
    rw [r1 145 u (by omega), r1 146 u (by omega), r1 147 u (by omega), r1 148 u (by omega), r1 161 u (by omega)]
  have k2 : ∀ u k L, lstK m' o d u L k = lstK m o d u L k := fun u k L => by
    induction k with
    | zero => rfl
    | succ k ih =>
      show lst1 m' o d u k (lstK m' o d u L k) = lst1 m o d u k (lstK m o d u L k)
      rw [ih, k1]
  have k3 : ∀ u, lstN m' o d u = lstN m o d u := fun u => by
    induction u with
    | zero => rfl
    | succ u ih =>
      show lstK m' o d u (lstN m' o d u) (srcN m' u).toNat = lstK m o d u (lstN m o d u) (srcN m u).toNat
      rw [ih, k2, show srcN m' u = srcN m u from by unfold srcN; rw [r1 144 u (by omega)]]
  unfold lfW lifeF
  rw [k3, l1, r1 144 o (by omega), r1 143 1 (by omega), r1 161 o (by omega)]
theorem mt_rng (hO : OpsOK mem) (hT : TmOK mem d) (hd : 1 ≤ d ∧ d ≤ 12) {a b : Nat} (ha : (a : Int) < mem 143 1) (hb : (b : Int) < mem 143 1) {t : Int} (h : MtW (cmR mem) (lfW mem d) d a b t) : -360 ≤ t ∧ t ≤ 400 := by
  have h8 := hO.1
  have ta := hT a ha
  have tb := hT b hb
  have la := hO.lat (o := a) (by omega)
  have lb := hO.lat (o := b) (by omega)
  have fa : -1000 ≤ lfW mem d a ∧ lfW mem d a ≤ 33 + 12 * d := lifeF_rng hO hT hd ha
  have fb : -1000 ≤ lfW mem d b ∧ lfW mem d b ≤ 33 + 12 * d := lifeF_rng hO hT hd hb
  have ca : cmR mem a = mem 161 a + latF mem a := rfl
  have cb : cmR mem b = mem 161 b + latF mem b := rfl
  obtain ⟨h1, h2⟩ := h
  constructor
  · refine Decidable.byContradiction (fun q => ?_)
    have k : d * t ≤ d * (-361) := Int.mul_le_mul_of_nonneg_left (by omega) (by omega)
    omega
  · refine Decidable.byContradiction (fun q => ?_)
    have k : d * 401 ≤ d * t := Int.mul_le_mul_of_nonneg_left (by omega) (by omega)
    omega
theorem f_341e (hO : OpsOK mem) (hT : TmOK mem d) (hd : 1 ≤ d ∧ d ≤ 12) {a b : Nat} {t : Int} (ha : (a : Int) < mem 143 1) (hb : (b : Int) < mem 143 1) (ht : -1000 ≤ t ∧ t ≤ 1000) (H1 : MtW (cmR mem) (lfW mem d) d a b t → K 1 mem) (H0 : ¬ MtW (cmR mem) (lfW mem d) d a b t → K 0 mem) : CWI (Ex S (n + 4)) 341 [.inr 143, .inl (a : Int), .inl (b : Int), .inl t, .inl d] mem K := by
  have h8 := hO.1
  have ta := hT a ha
  have tb := hT b hb
  have la := hO.lat (o := a) (by omega)
  have lb := hO.lat (o := b) (by omega)
  have fa := lifeF_rng hO hT hd ha
  have fb := lifeF_rng hO hT hd hb
  have p : -12000 ≤ d * t ∧ d * t ≤ 12000 := by
    have a1 : d * (-1000) ≤ d * t := Int.mul_le_mul_of_nonneg_left ht.1 (by omega)
    have a2 : d * t ≤ d * 1000 := Int.mul_le_mul_of_nonneg_left ht.2 (by omega)
    omega
  unfold MtW lfW cmR at H1 H0
  refine CW.of (k := 2) mt_341 rfl rfl (w_341_0 (Ex.mono S (n + 3)) (f_299 hO ⟨by omega, ha⟩ (by rw [Int.toNat_natCast]; omega) (fun _ => f_299 hO ⟨by omega, hb⟩ (by rw [Int.toNat_natCast]; omega) (fun _ => ?_))))
  rw [Int.toNat_natCast, Int.toNat_natCast]
  exact ⟨by unfold InI; omega, by unfold InI; omega, f_298 hO hT hd ha (fun _ => ⟨by unfold InI; omega, by unfold InI; omega, fun q => ⟨_, rfl, H0 (fun z => by omega)⟩, fun q => f_298 hO hT hd hb (fun _ => ⟨by unfold InI; omega, by unfold InI; omega, fun q2 => ⟨_, rfl, H0 (fun z => by omega)⟩, fun q2 => ⟨_, rfl, H1 ⟨by omega, by omega⟩⟩⟩)⟩)⟩
def ClW (c l s : Nat → Int) (d r : Int) (a b : Nat) : Prop := ∃ t, (a = b → ¬ t = 0) ∧ MtW c l d a b t ∧ (s b - s a - t) % r = 0
theorem modt {r x y : Int} (hr : 0 < r) (h1 : x % r = 0) (h2 : y % r = 0) (h3 : x ≤ y) (h4 : y < x + r) : x = y := by
  have e1 := Int.mul_ediv_add_emod x r
  have e2 := Int.mul_ediv_add_emod y r
  rw [h1] at e1
  rw [h2] at e2
  have k : x / r = y / r := by
    refine Decidable.byContradiction (fun q => ?_)
    by_cases w : x / r < y / r
    · have := Int.mul_le_mul_of_nonneg_left (show x / r + 1 ≤ y / r by omega) (show 0 ≤ r by omega)
      rw [Int.mul_add, Int.mul_one] at this
      omega
    · have := Int.mul_le_mul_of_nonneg_left (show y / r + 1 ≤ x / r by omega) (show 0 ≤ r by omega)
      rw [Int.mul_add, Int.mul_one] at this
      omega
  rw [k] at e1
  omega
theorem mod_s {r x t k : Int} (h : (x - t) % r = 0) : (x - (t + r * k)) % r = 0 := by
  rw [show x - (t + r * k) = (x - t) + r * (-k) by rw [Int.mul_neg]; omega, Int.add_mul_emod_self_left]
  exact h
theorem mod_n {r x : Int} (h : x % r = 0) : (-x) % r = 0 := by
  have e := Int.mul_ediv_add_emod x r
  rw [h] at e
  rw [show -x = r * (-(x / r)) by rw [Int.mul_neg]; omega]
  exact Int.mul_emod_right _ _
theorem f_340e (hO : OpsOK mem) (hT : TmOK mem d) (hd : 1 ≤ d ∧ d ≤ 12) {a b : Nat} {r : Int} (hr : 1 ≤ r ∧ r ≤ 40) (ha : (a : Int) < mem 143 1) (hb : (b : Int) < mem 143 1) (sa : -1 ≤ mem 169 a ∧ mem 169 a ≤ 40) (sb : -1 ≤ mem 169 b ∧ mem 169 b ≤ 40) (H1 : ClW (cmR mem) (lfW mem d) (mem 169) d r a b → K 1 mem) (H0 : ¬ ClW (cmR mem) (lfW mem d) (mem 169) d r a b → K 0 mem) : CWI (Ex S (n + 5)) 340 [.inr 143, .inl (a : Int), .inl (b : Int), .inl d, .inl r] mem K := by
  have h8 := hO.1
  have key : ∀ (N : Nat) (y t : Int), -1000 ≤ t → t ≤ 441 → (mem 169 b - mem 169 a - t) % r = 0 → (∀ u : Int, -360 ≤ u → u < t → (mem 169 b - mem 169 a - u) % r = 0 → ¬ ((a = b → ¬ u = 0) ∧ MtW (cmR mem) (lfW mem d) d a b u)) → (441 - t).toNat < N → Wx (Ex S (n + 4)) S M_340 (fun r m => ∃ y, r = some y ∧ K y m) 37 [some (.inr 143), some (.inl (a : Int)), some (.inl (b : Int)), some (.inl d), some (.inl r), some (.inl y), some (.inl t)] [] mem := by
    intro N
    induction N with
    | zero => intros; omega
    | succ N ih =>
      intro y t t1 t2 hm hu hN
      have nx : ¬ 400 < t → ¬ ((a = b → ¬ t = 0) ∧ MtW (cmR mem) (lfW mem d) d a b t) → InI (t + r) ∧ Wx (Ex S (n + 4)) S M_340 (fun r m => ∃ y, r = some y ∧ K y m) 37 [some (.inr 143), some (.inl (a : Int)), some (.inl (b : Int)), some (.inl d), some (.inl r), some (.inl y), some (.inl (t + r))] [] mem := fun z nt => ⟨by unfold InI; omega, ih y (t + r) (by omega) (by omega) (by have := mod_s (k := 1) hm; rwa [Int.mul_one] at this) (fun u u1 u2 u3 => by
        by_cases q : u < t
        · exact hu u u1 q u3
        · have e := modt (show 0 < r by omega) (mod_n hm) (mod_n u3) (by omega) (by omega)
          rw [show u = t by omega]
          exact nt) (by omega)⟩
      refine w_340_37 (Ex.mono S (n + 4)) ⟨fun q => ⟨_, rfl, H0 (fun ⟨u, u1, u2, u3⟩ => ?_)⟩, fun q => ⟨fun ne => f_341e hO hT hd ha hb ⟨by omega, by omega⟩ (fun hm1 _ => ⟨fun z => absurd z (by decide), fun _ => ⟨_, rfl, H1 ⟨t, fun z => absurd (show (a : Int) = b by omega) ne, hm1, hm⟩⟩⟩) (fun hm0 _ => ⟨fun _ => nx q (fun w => hm0 w.2), fun z => absurd rfl z⟩), fun ee => ⟨fun t0 => nx q (fun w => w.1 (by have := Decidable.of_not_not ee; omega) t0), fun t0 => f_341e hO hT hd ha hb ⟨by omega, by omega⟩ (fun hm1 _ => ⟨fun z => absurd z (by decide), fun _ => ⟨_, rfl, H1 ⟨t, fun _ => t0, hm1, hm⟩⟩⟩) (fun hm0 _ => ⟨fun _ => nx q (fun w => hm0 w.2), fun z => absurd rfl z⟩)⟩⟩⟩
      have g := mt_rng hO hT hd ha hb u2
      exact hu u g.1 (by omega) u3 ⟨u1, u2⟩
  refine CW.of (k := 2) mt_340 rfl rfl (w_340_0 (Ex.mono S (n + 4)) ⟨by omega, fun v1 e1 _ => ⟨by omega, fun v2 e2 _ => ?_⟩⟩)
  rw [Int.toNat_natCast] at e1 e2
  have e := Int.mul_tdiv_add_tmod 400 r
  have e2' := tmod_r (x := 400) (y := r) (by omega) (by omega)
  have en := Int.mul_ediv_add_emod (v1 - v2) r
  have ea := Int.emod_nonneg (v1 - v2) (show r ≠ 0 by omega)
  have eb := Int.emod_lt_of_pos (v1 - v2) (show 0 < r by omega)
  have ec : (400 : Int).tdiv r * r = r * (400 : Int).tdiv r := Int.mul_comm _ _
  refine ⟨by unfold InI; omega, f_272e ⟨by omega, by omega⟩ (fun _ => ⟨by omega, by unfold InI; omega, by unfold InI; omega, by unfold InI; omega, key _ _ _ (by omega) (by omega) ?_ (fun u u1 u2 => absurd u2 (by omega)) (Nat.lt_succ_self _)⟩)⟩
  rw [← e1, ← e2, show v1 - v2 - ((v1 - v2) % r - (400 : Int).tdiv r * r - r) = r * ((v1 - v2) / r + (400 : Int).tdiv r + 1) by rw [Int.mul_add, Int.mul_add, Int.mul_one]; omega]
  exact Int.mul_emod_right _ _
def FreW (c l s : Nat → Int) (d r : Int) (o : Nat) : Prop := ¬ ClW c l s d r o o ∧ ∀ a : Nat, a < o → 0 < l a → ¬ ClW c l s d r a o
theorem f_339e (hO : OpsOK mem) (hT : TmOK mem d) (hd : 1 ≤ d ∧ d ≤ 12) {o : Nat} {x r : Int} (hr : 1 ≤ r ∧ r ≤ 40) (hx : 0 ≤ x ∧ x ≤ 40) (ho : (o : Int) < mem 143 1) (hs : SpOK mem o) (H1 : FreW (cmR mem) (lfW mem d) (upm mem 169 o x 169) d r o → K 1 (upm mem 169 o x)) (H0 : ¬ FreW (cmR mem) (lfW mem d) (upm mem 169 o x 169) d r o → K 0 (upm mem 169 o x)) : CWI (Ex S (n + 6)) 339 [.inr 143, .inl (o : Int), .inl x, .inl d, .inl r] mem K := by
  have h8 := hO.1
  have hO' : OpsOK (upm mem 169 o x) := hO
  have hT' : TmOK (upm mem 169 o x) d := hT
  have hso : -1 ≤ upm mem 169 o x 169 o ∧ upm mem 169 o x 169 o ≤ 40 := by rw [upm_eq]; omega
  obtain ⟨cg1, cg2⟩ := lfW_cg (d := d) (m := mem) (m' := upm mem 169 o x) Fr1.up
  have key : ∀ (N : Nat) (a : Nat), a ≤ o → ¬ ClW (cmR mem) (lfW mem d) (upm mem 169 o x 169) d r o o → (∀ u : Nat, u < a → 0 < lfW mem d u → ¬ ClW (cmR mem) (lfW mem d) (upm mem 169 o x 169) d r u o) → o - a < N → Wx (Ex S (n + 5)) S M_339 (fun r m => ∃ y, r = some y ∧ K y m) 24 [some (.inr 143), some (.inl (o : Int)), some (.inl x), some (.inl d), some (.inl r), some (.inl (a : Int))] [] (upm mem 169 o x) := by
    intro N
    induction N with
    | zero => intros; omega
    | succ N ih =>
      intro a ha h0 hu hN
      refine w_339_24 (Ex.mono S (n + 5)) ⟨fun q => ⟨_, rfl, H1 ⟨h0, fun u hu2 => hu u (by omega)⟩⟩, fun q => ?_⟩
      have hsa : -1 ≤ upm mem 169 o x 169 a ∧ upm mem 169 o x 169 a ≤ 40 := by rw [upm_ne (by omega)]; exact hs a (by omega)
      have ha1 : (a : Int) < upm mem 169 o x 143 1 := by rw [upm_ne (by omega)]; omega
      have ea : lifeF (upm mem 169 o x) a d = lfW mem d a := congrFun cg2 a
      refine f_298 hO' hT' hd ha1 (fun _ => ⟨fun z => ⟨by unfold InI; omega, ih (a + 1) (by omega) h0 (fun u hu2 => ?_) (by omega)⟩, fun z => f_340e hO' hT' hd hr ha1 ho hsa hso (fun hc _ => ⟨fun z => absurd z (by decide), fun _ => ⟨_, rfl, H0 (fun w => w.2 a (by omega) (by omega) ?_)⟩⟩) (fun hc _ => ⟨fun _ => ⟨by unfold InI; omega, ih (a + 1) (by omega) h0 (fun u hu2 => ?_) (by omega)⟩, fun z => absurd rfl z⟩)⟩)
      · by_cases e : u = a
        · rw [e]
          intro w
          omega
        · exact hu u (by omega)
      · rw [cg1, cg2] at hc
        exact hc
      · rw [cg1, cg2] at hc
        by_cases e : u = a
        · rw [e]
          exact fun _ => hc
        · exact hu u (by omega)
  refine CW.of (k := 1) mt_339 rfl rfl (w_339_0 (Ex.mono S (n + 5)) ⟨by omega, ?_⟩)
  rw [Int.toNat_natCast]
  refine f_340e hO' hT' hd hr ho ho hso hso (fun hc _ => ⟨fun z => absurd z (by decide), fun _ => ⟨_, rfl, H0 (fun w => w.1 ?_)⟩⟩) (fun hc _ => ⟨fun _ => key _ 0 (by omega) ?_ (fun u hu => absurd hu (by omega)) (Nat.lt_succ_self _), fun z => absurd rfl z⟩)
  · rw [cg1, cg2] at hc
    exact hc
  · rw [cg1, cg2] at hc
    exact hc
theorem frW_iff {c l p s : Nat → Int} {r x : Int} {o : Nat} (hd : 0 < d) (hr : 0 < r) (hl : 0 < l o) (e : ∀ a : Nat, a < o → s a = p a) (ex : s o = x) : FreW c l s d r o ↔ l o ≤ d * r ∧ ¬ ShW c l p d r o x := by
  have self : ClW c l s d r o o ↔ d * r < l o := by
    constructor
    · rintro ⟨t, t1, ⟨t2, t3⟩, t4⟩
      have t0 := t1 rfl
      have t5 := mod_n t4
      rw [show -(s o - s o - t) = t by omega] at t5
      have g := Int.mul_ediv_add_emod t r
      rw [t5] at g
      by_cases q : 0 < t
      · have k : r ≤ t := Decidable.byContradiction (fun w => t0 (by have := Int.emod_eq_of_lt (show 0 ≤ t by omega) (show t < r by omega); omega))
        have m := Int.mul_le_mul_of_nonneg_left k (show 0 ≤ d by omega)
        omega
      · have t6 := mod_n t5
        have k : r ≤ -t := Decidable.byContradiction (fun w => t0 (by have := Int.emod_eq_of_lt (show 0 ≤ -t by omega) (show -t < r by omega); omega))
        have m := Int.mul_le_mul_of_nonneg_left k (show 0 ≤ d by omega)
        rw [Int.mul_neg] at m
        omega
    · intro h
      have m := Int.mul_nonneg (show 0 ≤ d by omega) (show 0 ≤ r by omega)
      refine ⟨r, fun _ => by omega, ⟨by omega, by omega⟩, ?_⟩
      rw [show s o - s o - r = r * (-1) by omega]
      exact Int.mul_emod_right _ _
  unfold FreW
  rw [self]
  constructor
  · rintro ⟨h1, h2⟩
    refine ⟨by omega, ?_⟩
    rintro ⟨a, g1, g2, t, g3, g4⟩
    exact h2 a g1 g2 ⟨t, fun z => absurd z (by omega), g3, by rw [ex, e a g1]; exact g4⟩
  · rintro ⟨h1, h2⟩
    refine ⟨by omega, fun a g1 g2 => ?_⟩
    rintro ⟨t, -, g3, g4⟩
    exact h2 ⟨a, g1, g2, t, g3, by rw [← ex, ← e a g1]; exact g4⟩
theorem f_338e (hO : OpsOK mem) (hT : TmOK mem d) (hd : 1 ≤ d ∧ d ≤ 12) {r : Int} {p : Nat → Int} (hr : 1 ≤ r ∧ r ≤ 40) (h0 : ∀ o : Nat, (o : Int) < mem 143 1 → 0 ≤ lfW mem d o) (hP : PlW (cmR mem) (lfW mem d) p d r (mem 143 1).toNat) (H : ∀ (y : Nat) m', Fr1 169 mem m' → (y : Int) ≤ mem 143 1 → (∀ a : Nat, a < y → m' 169 a = p a) → ((y : Int) = mem 143 1 → GoW (lfW mem d) p (mem 143 1).toNat) → ((y : Int) < mem 143 1 → 0 < lfW mem d y ∧ p y = -1) → K y m') : CWI (Ex S (n + 7)) 338 [.inr 143, .inl d, .inl r] mem K := by
  have h8 := hO.1
  have up : ∀ (m : MM) (o : Nat) (x : Int), Fr1 169 mem m → Fr1 169 mem (upm m 169 o x) := fun m o x h => h.tr Fr1.up
  have spu : ∀ (m : MM) (o : Nat) (x : Int), SpOK m o → -1 ≤ x → x ≤ 40 → SpOK (upm m 169 o x) (o + 1) := fun m o x h x1 x2 a ha => by
    by_cases e : a = o
    · subst e; rw [upm_eq]; omega
    · rw [upm_ne (fun z => e z.2)]; exact h a (by omega)
  have key : ∀ (N : Nat) (o : Nat) (m : MM), (o : Int) ≤ mem 143 1 → (mem 143 1 - o).toNat < N → Fr1 169 mem m → SpOK m o → (∀ a : Nat, a < o → m 169 a = p a) → GoW (lfW mem d) p o → Wx (Ex S (n + 6)) S M_338 (fun r m => ∃ y, r = some y ∧ K y m) 2 [some (.inr 143), some (.inl d), some (.inl r), some (.inl (o : Int)), none] [] m := by
    intro N
    induction N with
    | zero => intros; omega
    | succ N ih =>
      intro o m ho hN hF hS hA hG
      have e1' : m 143 1 = mem 143 1 := hF _ _ (by omega)
      refine w_338_2 (Ex.mono S (n + 6)) (fun v1 e1 _ => ⟨fun q v2 e2 _ _ => ⟨_, rfl, ?_⟩, fun q => ⟨by omega, ?_⟩⟩)
      · have e3 : (o : Int) = mem 143 1 := by omega
        rw [e2, e1', ← e3]
        exact H o m hF ho hA (fun _ => by rw [← e3, Int.toNat_natCast]; exact hG) (fun z => by omega)
      rw [Int.toNat_natCast]
      have hol : (o : Int) < mem 143 1 := by omega
      obtain ⟨P1, P2⟩ := hP o (by omega)
      have opsF : ∀ m, Fr1 169 mem m → OpsOK m := fun m h => by
        refine ⟨by rw [h 143 1 (by omega)]; exact hO.1, fun u hu => ?_, fun i hi => by rw [h 151 i (by omega)]; exact hO.2.2 i hi⟩
        have := hO.2.1 u hu
        unfold OpOK at this ⊢
        rw [h 144 u (by omega), h 145 u (by omega), h 146 u (by omega), h 147 u (by omega), h 148 u (by omega)]
        exact this
      have hF2 := up m o (-1) hF
      have h21 : (o : Int) < upm m 169 o (-1) 143 1 := by rw [hF2 143 1 (by omega)]; omega
      have elf : lifeF (upm m 169 o (-1)) o d = lfW mem d o := congrFun (lfW_cg hF2).2 o
      have s3 : SpOK (upm m 169 o (-1)) (o + 1) := spu m o (-1) hS (by omega) (by omega)
      have hA2 : ∀ a : Nat, a < o → upm m 169 o (-1) 169 a = p a := fun a ha => by rw [upm_ne (by omega)]; exact hA a ha
      refine f_298 (opsF _ hF2) (hF2.tm169 hT) hd h21 (fun _ => ⟨fun z => ?_, fun z => ⟨by unfold InI; omega, ih (o + 1) _ (by omega) (by omega) hF2 s3 (fun a ha => ?_) (fun a ha w => ?_)⟩⟩)
      · have hl : 0 < lfW mem d o := by
          have := h0 o hol
          omega
        have pc := P1 ⟨hG, hl⟩
        have pr := pc.rg hr.2
        have inner : ∀ (N' : Nat) (x : Int) (m' : MM), 0 ≤ x → x ≤ r → (∀ y : Int, 0 ≤ y → y < x → ¬ (lfW mem d o ≤ d * r ∧ ¬ ShW (cmR mem) (lfW mem d) p d r o y)) → (r - x).toNat < N' → Fr1 169 mem m' → SpOK m' o → (∀ a : Nat, a < o → m' 169 a = p a) → Wx (Ex S (n + 6)) S M_338 (fun r m => ∃ y, r = some y ∧ K y m) 32 [some (.inr 143), some (.inl d), some (.inl r), some (.inl (o : Int)), some (.inl x)] [] m' := by
          intro N'
          induction N' with
          | zero => intros; omega
          | succ N' ih2 =>
            intro x m' x1 x2 hx hN' hF' hS' hA'
            have e2' : m' 143 1 = mem 143 1 := hF' _ _ (by omega)
            have fin : ∀ m2, Fr1 169 mem m2 → SpOK m2 o → (∀ a : Nat, a < o → m2 169 a = p a) → (x < r → lfW mem d o ≤ d * r ∧ ¬ ShW (cmR mem) (lfW mem d) p d r o x) → (¬ x = r → ((0 : Int) ≤ (o : Int) ∧ ((o : Int) : Int) < 8) ∧ (InI ((o : Int) + 1)) ∧ (Wx (Ex S (n + 6)) S M_338 (fun r m => ∃ y, r = some y ∧ K y m) 2 [some (.inr 143), some (.inl d), some (.inl r), some (.inl ((o : Int) + 1)), none] [] (upm m2 169 (Int.toNat (o : Int)) x))) ∧ (¬ (¬ x = r) → ((0 : Int) ≤ (o : Int) ∧ ((o : Int) : Int) < 8) ∧ (InI (o : Int) → ∃ y, some (o : Int) = some y ∧ K y (upm m2 169 (Int.toNat (o : Int)) (-1)))) := fun m2 g1 g2 g3 g4 => by
              rw [Int.toNat_natCast]
              refine ⟨fun q3 => ⟨by omega, by unfold InI; omega, ih (o + 1) _ (by omega) (by omega) (up _ _ _ g1) (spu _ _ _ g2 (by omega) (by omega)) (fun a ha => ?_) (fun a ha w => ?_)⟩, fun q3 => ⟨by omega, fun _ => ⟨_, rfl, H o _ (up _ _ _ g1) (by omega) (fun a ha => by rw [upm_ne (by omega)]; exact g3 a ha) (fun z => by omega) (fun _ => ⟨hl, ?_⟩)⟩⟩⟩
              · have g5 := g4 (by omega)
                have px : p o = x := by
                  rcases pc with ⟨c1, c2, c3, c4, c5⟩ | ⟨c1, c2⟩
                  · refine Decidable.byContradiction (fun w => ?_)
                    by_cases lt : p o < x
                    · exact hx (p o) c1 lt ⟨c3, c4⟩
                    · exact g5.2 (c5 x x1 (by omega))
                  · rcases c2 with c2 | c2
                    · omega
                    · exact absurd (c2 x x1 (by omega)) g5.2
                by_cases e : a = o
                · rw [e, upm_eq, px]
                · rw [upm_ne (by omega)]
                  exact g3 a (by omega)
              · have g5 := g4 (by omega)
                by_cases e : a = o
                · rw [e]
                  rcases pc with ⟨c1, c2, c3, c4, c5⟩ | ⟨c1, c2⟩
                  · omega
                  · rcases c2 with c2 | c2
                    · omega
                    · exact absurd (c2 x x1 (by omega)) g5.2
                · exact hG a (by omega) w
              · rcases pc with ⟨c1, c2, c3, c4, c5⟩ | ⟨c1, c2⟩
                · exact absurd ⟨c3, c4⟩ (hx (p o) c1 (by omega))
                · exact c1
            have nf : ∀ (m3 : MM), m3 = upm m' 169 o x → Fr1 169 mem m3 ∧ SpOK m3 o ∧ (∀ a : Nat, a < o → m3 169 a = p a) := fun m3 e3 => by
              subst e3
              exact ⟨up _ _ _ hF', fun a ha => spu m' o x hS' (by omega) (by omega) a (by omega), fun a ha => by rw [upm_ne (by omega)]; exact hA' a ha⟩
            obtain ⟨cg1, cg2⟩ := lfW_cg (d := d) hF'
            have fi : FreW (cmR m') (lfW m' d) (upm m' 169 o x 169) d r o ↔ lfW mem d o ≤ d * r ∧ ¬ ShW (cmR mem) (lfW mem d) p d r o x := by
              rw [cg1, cg2]
              exact frW_iff (by omega) (by omega) hl (nf _ rfl).2.2 upm_eq
            refine w_338_32 (Ex.mono S (n + 6)) ⟨fun q2 => fin m' hF' hS' hA' (fun z => by omega), fun q2 => f_339e (opsF _ hF') (hF'.tm169 hT) hd hr ⟨x1, by omega⟩ (by omega) hS' (fun hf _ => ⟨fun _ => fin _ (nf _ rfl).1 (nf _ rfl).2.1 (nf _ rfl).2.2 (fun _ => fi.mp hf), fun z => absurd (by decide) z⟩) (fun hf _ => ⟨fun z => absurd rfl z, fun _ => ⟨by unfold InI; omega, ih2 (x + 1) _ (by omega) (by omega) (fun y y1 y2 => ?_) (by omega) (nf _ rfl).1 (nf _ rfl).2.1 (nf _ rfl).2.2⟩⟩)⟩
            by_cases e : y = x
            · rw [e]
              exact fun w => hf (fi.mpr w)
            · exact hx y y1 (by omega)
        exact inner _ 0 _ (by omega) (by omega) (fun y y1 y2 => absurd y2 (by omega)) (Nat.lt_succ_self _) hF2 (fun a ha => s3 a (by omega)) hA2
      · have z' := Decidable.of_not_not z
        have hl : ¬ 0 < lfW mem d o := by omega
        by_cases e : a = o
        · rw [e, upm_eq]
          exact (P2 (fun w => hl w.2)).symm
        · exact hA2 a (by omega)
      · have z' := Decidable.of_not_not z
        have hl : ¬ 0 < lfW mem d o := by omega
        by_cases e : a = o
        · rw [e] at w
          exact absurd w hl
        · exact hG a (by omega) w
  exact CW.of (k := 2) mt_338 rfl rfl (w_338_0 (Ex.mono S (n + 6)) (key 9 0 mem (by omega) (by omega) Fr1.rf (fun a ha => by omega) (fun a ha => by omega) (fun a ha => by omega)))
end RWH
end
section
/-! what holds of the heap between the law's calls, with what both sides tell of ops -/
def LM (h : PH) (m : MM) (g : Nat → Int64) : Prop := RA h ∧ h[173]? = some (.inl (1, 1, .inr (.inl g))) ∧ RH h h m
def LR (h : PH) : Prop := ∃ m g, LM h m g ∧ ClS m ∧ RefOK m ∧ RelB m
theorem RH.self {h0 h : PH} {mem : MM} (H : RH h0 h mem) : RH h h mem := ⟨fun _ _ => rfl, H.2⟩
theorem LM.step {h h' : PH} {m m' : MM} {g : Nat → Int64} (hL : LM h m g) (H : RH h h' m') : LM h' m' g := by
  obtain ⟨h1, h2, -⟩ := hL
  exact ⟨RA.at h1 H, by rw [H.1 173 rfl]; exact h2, H.self⟩
theorem LM.out {h : PH} {m : MM} {g g2 : Nat → Int64} (hL : LM h m g) : LM (h.set 173 (.inl (1, 1, .inr (.inl g2)))) m g2 := by
  obtain ⟨h1, h2, H⟩ := hL
  have hl := (List.getElem?_eq_some_iff.mp h2).1
  have e : ∀ A, ¬ A = 173 → (h.set 173 (.inl (1, 1, .inr (.inl g2))))[A]? = h[A]? := fun A q => List.getElem?_set_ne (fun z => q z.symm)
  refine ⟨?_, List.getElem?_set_self hl, ⟨fun _ _ => rfl, fun A s hA => ?_⟩⟩
  · unfold RA
    rw [e 37 (by decide), e 135 (by decide)]; exact h1
  · obtain ⟨y, a, b⟩ := H.2 A s hA
    exact ⟨y, by rw [e A (fun z => by rw [z] at hA; cases hA)]; exact a, b⟩
theorem LM.obj {h : PH} {m : MM} {g : Nat → Int64} (hL : LM h m g) {A ci : Nat} {fs : List (Option Nat)} (hA : shA A = some (.inr (ci, fs))) : ∃ gs, h[A]? = some (.inr (ci, gs)) := by
  obtain ⟨gs, g, -⟩ := hL.2.2.obj hA
  exact ⟨gs, g⟩
theorem callQM {S : Nat × (Nat → Int32)} {n μ : Nat} {args : List WV} {h : PH} {m : MM} {g : Nat → Int64} {K : Int → MM → Prop} {E : Nat → MM → Prop} (ha : ∀ v ∈ args, vOK v) (hL : LM h m g) (spec : CQI (Ex S n) μ args m K E) : Ex S n μ (args.map wv) h (fun r h' => (∃ y m', r = .inl (some (.int (Int32.ofInt y))) ∧ InI y ∧ LM h' m' g ∧ K y m') ∨ ∃ e m', r = .inr e ∧ LM h' m' g ∧ E e m') := by
  refine Ex.mono S n _ _ _ _ _ ?_ (spec ha h h hL.1 hL.2.2)
  rintro r h' ⟨x, m', rfl, k2, k3, k4⟩
  cases x with
  | inr e => exact Or.inr ⟨e, m', rfl, hL.step k3, k4⟩
  | inl o => cases o with
    | none => exact False.elim k4
    | some v => cases v with
      | inr A => exact False.elim k4
      | inl y => exact Or.inl ⟨y, m', rfl, k2, hL.step k3, k4⟩
theorem callQV {S : Nat × (Nat → Int32)} {n μ : Nat} {args : List WV} {h : PH} {m : MM} {g : Nat → Int64} {K : MM → Prop} {E : Nat → MM → Prop} (ha : ∀ v ∈ args, vOK v) (hL : LM h m g) (spec : CQV (Ex S n) μ args m K E) : Ex S n μ (args.map wv) h (fun r h' => (∃ m', r = .inl none ∧ LM h' m' g ∧ K m') ∨ ∃ e m', r = .inr e ∧ LM h' m' g ∧ E e m') := by
  refine Ex.mono S n _ _ _ _ _ ?_ (spec ha h h hL.1 hL.2.2)
  rintro r h' ⟨x, m', rfl, k2, k3, k4⟩
  cases x with
  | inr e => exact Or.inr ⟨e, m', rfl, hL.step k3, k4⟩
  | inl o => cases o with
    | some v => cases v <;> exact False.elim k4
    | none => exact Or.inl ⟨m', rfl, hL.step k3, k4⟩
def pRf (A _i : Nat) : Prop := 143 ≤ A
theorem CJ.e_ref {m m' : MM} (h : CJ m) (hF : Frm pRf m m') : CJ m' := by
  exact ⟨h.b.fr (fun A i a b => hF A i (by unfold pRf; omega)), h.w.fr (fun A i a b => hF A i (by unfold pRf; omega)), h.w2.fr (fun A i a b => hF A i (by unfold pRf; omega)), by rw [hF 19 0 (by unfold pRf; omega)]; exact h.r, h.hs.fr (fun A i a b => hF A i (by unfold pRf; omega)), fun o ho => by rw [hF 24 o (by unfold pRf; omega), hF 22 o (by unfold pRf; omega)]; exact h.us o ho, fun Q' hQ' => (h.ch Q' hQ').fr3 (fun A i q => hF A i (by have := hQ'.rg; unfold pRf; omega)), by rw [hF 0 10 (by unfold pRf; omega)]; exact h.so, by rw [hF 0 11 (by unfold pRf; omega)]; exact h.st⟩
theorem Rdy.e_ref {m m' : MM} (h : Rdy m) (hF : Frm pRf m m') : Rdy m' := by
  exact ⟨CJ.e_ref h.1 hF , ⟨by rw [hF 0 11 (by unfold pRf; omega)]; exact h.2.1.1, h.2.1.2.fr (fun A i q => hF A i (by unfold pRf; omega))⟩, by rw [hF 0 10 (by unfold pRf; omega)]; exact h.2.2.1, h.2.2.2.1.fr (fun A i q => hF A i (by unfold pRf; omega)), h.2.2.2.2.fr (fun A i a b => hF A i (by unfold pRf; omega))⟩
theorem RfC.e_ref {m m' : MM} (h : RfC m) (hF : Frm pRf m m') : RfC m' := by
  exact ⟨CJ.e_ref h.1 hF , by rw [hF 0 11 (by unfold pRf; omega)]; exact h.2.1, fun z => by
    rw [hF 0 10 (by unfold pRf; omega)] at z
    exact (h.2.2.1 z).fr (fun A i q => hF A i (by unfold pRf; omega)), SX.fr h.2.2.2 (hF 0 10 (by unfold pRf; omega)) (fun A i a b => hF A i (by unfold pRf; omega))⟩
theorem ClS.ref {m m' : MM} (h : ClS m) (hF : Frm pRf m m') : ClS m' := ⟨CJ.e_ref h.1 hF, fun a b => by
  rw [hF 0 11 (by unfold pRf; omega)] at a
  rw [hF 0 10 (by unfold pRf; omega)] at b
  exact ⟨(h.2.1 a b).1.fr (fun A i q => hF A i (by unfold pRf; omega)), (h.2.1 a b).2.fr (fun A i q => hF A i (by unfold pRf; omega))⟩, fun a => SX.fr (h.2.2 (by rw [hF 0 11 (by unfold pRf; omega)] at a; exact a)) (hF 0 10 (by unfold pRf; omega)) (fun A i a b => hF A i (by unfold pRf; omega))⟩
theorem RefOK.fr {m m' : MM} (h : RefOK m) (e : ∀ A i, 143 ≤ A → A ≤ 172 → m' A i = m A i) : RefOK m' :=
  Kp.rest (fun A i q => e A i (by omega) (by omega)) h (fun o ho => by rw [e 160 o (by omega) (by omega)]; exact h.sl o ho) (fun j hj => by rw [e _ _ (by omega) (by omega), e _ _ (by omega) (by omega), e _ _ (by omega) (by omega), e _ _ (by omega) (by omega)]; exact h.r48 j hj) (by rw [e 143 12 (by omega) (by omega)]; exact h.nd)
theorem p_call_mk {C : CXW} {M N : PM} {hd : List (Nat × Nat × Nat × Int)} {Q : Rs → PH → Prop} {K : Kt} {pc μ : Nat} {virt : Bool} {lv : LV} {av rest : List Value} {h : PH} {c s : Nat} (hN : MT[μ]? = some N) (hl : av.length = pN N) (hr : (rest.map Value.category).sum ≤ 8) (hc : c + pC N ≤ pC M) (hs : s + pS N ≤ pS M) (hv : virt = true → ∃ a fs, av[0]? = some (.ref a) ∧ h[a]? = some (.inr (pO N, fs))) (H : C μ av h (p_back M hd Q K pc lv rest (c + pC N) (s + pS N))) : p_call C M hd Q K pc μ virt lv (av.reverse ++ rest) h c s := by
  unfold p_call
  rw [hN]
  have el : av.reverse.length = pN N := by rw [List.length_reverse]; exact hl
  have e1 : (av.reverse ++ rest).take (pN N) = av.reverse := by rw [← el, List.take_left]
  have e2 : (av.reverse ++ rest).drop (pN N) = rest := by rw [← el, List.drop_left]
  simp only [e1, e2, List.reverse_reverse]
  refine ⟨by rw [List.length_append, el]; omega, hr, hc, hs, fun q => ?_, H⟩
  obtain ⟨a, fs, g1, g2⟩ := hv q
  exact ⟨a, fs, by rw [List.getLast?_reverse, List.head?_eq_getElem?]; exact g1, g2⟩
theorem vp00 : vp_in (Int32.ofInt 0) 1 := vp_in_iff.mpr (by decide)
theorem st_last {C : CXW} (hC : Cmono C) {S : Nat × (Nat → Int32)} {M : PM} {hd : List (Nat × Nat × Nat × Int)} {Q : Rs → PH → Prop} {pc : Nat} {lv : LV} {r : List Value} {h : PH} {c s : Nat} {x : Int64} {g : Nat → Int64} (ht : (pT M).find? (fun e => e.1 == pc) = some (pc, .lastore, 0, 0)) (hg : h[173]? = some (.inl (1, 1, .inr (.inl g)))) (H : ∀ g2 : Nat → Int64, g2 0 = x → Vx C S M hd Q (pc + 1) lv r (h.set 173 (.inl (1, 1, .inr (.inl g2)))) c s) : Vx C S M hd Q pc lv (.long x :: .int (Int32.ofInt 0) :: .ref 173 :: r) h c s := Vx.go hC ht (show p_last h _ (fun st h => Vx C S M hd Q (pc + 1) lv st h c s) from last_mk hg vp00 (H _ (by
  show vp_updL g (Int32.ofInt 0).toNatClampNeg x 0 = x
  rw [show (Int32.ofInt 0).toNatClampNeg = 0 by decide]
  unfold vp_updL
  simp)))
theorem LR.cls {h' : PH} {m m' : MM} {g' : Nat → Int64} (hL : LM h' m' g') (hr : RefOK m) (hb : RelB m) (hc : ClS m') (hF : Frm pNb m m') : LR h' := ⟨m', g', hL, hc, hr.fr (fun A i a b => hF A i (by unfold pNb; omega)), hb.fr (fun A i q => hF A i (by unfold pNb; omega))⟩
theorem LR.refq {h' : PH} {m m' : MM} {g' : Nat → Int64} (hL : LM h' m' g') (hc : ClS m) (hb : RelB m) (hr : RefOK m') (hF : FrQ m m') : LR h' := ⟨m', g', hL, hc.ref (fun A i q => hF A i (by unfold pRf at q; omega)), hr, hb.fr (fun A i q => hF A i (by omega))⟩
end
