section
/-! laid by wip/hand/tg.py: far, height, bare of the class -/
def mxW (f : Nat → Int) : Nat → Int
  | 0 => 0
  | n + 1 => max (mxW f n) (f n)
theorem mxW_st {f : Nat → Int} {x : Int} (h : 0 ≤ x) : mxW f (x + 1).toNat = max (mxW f x.toNat) (f x.toNat) := by
  rw [show (x + 1).toNat = x.toNat + 1 by omega]
  rfl
theorem mxW_rg {f : Nat → Int} {c : Int} (hc : 0 ≤ c) : ∀ n : Nat, (∀ i, i < n → f i ≤ c) → 0 ≤ mxW f n ∧ mxW f n ≤ c
  | 0, _ => by unfold mxW; omega
  | n + 1, h => by
    have := mxW_rg hc n (fun i hi => h i (by omega))
    have := h n (by omega)
    unfold mxW; omega
theorem mxW_eq {f g : Nat → Int} : ∀ n : Nat, (∀ i, i < n → f i = g i ∨ (f i ≤ 0 ∧ g i ≤ 0)) → mxW f n = mxW g n
  | 0, _ => rfl
  | n + 1, h => by
    have r := (mxW_rg (f := f) (c := max 0 (mxW f n)) (by omega) 0 (fun i hi => by omega)).1
    have p : ∀ k : Nat, 0 ≤ mxW f k := fun k => by
      induction k with
      | zero => unfold mxW; omega
      | succ k ih => unfold mxW; omega
    have q : ∀ k : Nat, 0 ≤ mxW g k := fun k => by
      induction k with
      | zero => unfold mxW; omega
      | succ k ih => unfold mxW; omega
    have e := mxW_eq n (fun i hi => h i (by omega))
    have e2 := h n (by omega)
    have p1 := p n
    unfold mxW
    omega
theorem WyV.rg {E : Nat → Nat → Int → Prop} {k : Nat} {nn w : Int} {a b : Nat} (h : WyV E nn a b w) (hE : FwH E k) : w = nn ∨ (-801 ≤ w ∧ w ≤ 54) := by
  rcases h with ⟨e, -⟩ | ⟨-, ⟨p, g⟩, u⟩
  · exact Or.inl e
  · obtain ⟨p', v', g1, -, g3, g4⟩ := Wk.red hE.2.1 p a b w g
    have r := hE.rg g1 g3
    have := u _ _ g3
    have := hE.up g
    exact Or.inr (by omega)
def FwR (m : MM) (d : Int) : Prop := SndX m ∧ WbX m ∧ upV (m 9 5) (m 9 6) ≤ d ∧ m 19 0 = m 1 0 ∧ FwH (EdQ (cwq m 9) (m 9 0).toNat d) (m 1 0).toNat ∧ ∀ a b : Nat, (a : Int) < m 1 0 → (b : Int) < m 1 0 → WyV (EdQ (cwq m 9) (m 9 0).toNat d) (-100000) a b (WM m 20 a b)
def NoR (m : MM) (d : Int) : Prop := ¬ SndX m ∨ (SndX m ∧ WbX m ∧ d < upV (m 9 5) (m 9 6))
theorem Rdy.fwr {m : MM} {d : Int} (h : Rdy m) (hd : 1 ≤ d ∧ d ≤ 12) (q : upV (m 9 5) (m 9 6) ≤ d) (y : m 19 1 = d) : FwR m d := by
  have h8 := h.1.1.1
  have hN := h.noup (show 0 ≤ d by omega) q
  obtain ⟨z, w⟩ := h.2.1.2.resolve_left (by omega)
  rw [y] at w
  refine ⟨h.2.2.2.2, h.2.2.2.1, q, z, EdQ.fwh (by omega) (by omega) h.edv (fun j hj => ?_) hN, w⟩
  have g : Rg (m 10 j) (m 11 j) (m 12 j) (m 13 j) := h.1.2.1.1 j (by have := h.1.2.1.2; omega)
  unfold Rg at g
  exact ⟨g.2.2.1.2, g.2.2.2.1, g.2.2.2.2⟩
def WyR (m : MM) : Prop := ∀ a b : Nat, (a : Int) < m 19 0 → (b : Int) < m 19 0 → WM m 20 a b = -100000 ∨ (-801 ≤ WM m 20 a b ∧ WM m 20 a b ≤ 54)
theorem FwR.wyr {m : MM} {d : Int} (h : FwR m d) : WyR m := fun a b ha hb => by
  rw [h.2.2.2.1] at ha hb
  exact (h.2.2.2.2.2 a b ha hb).rg h.2.2.2.2.1
def abC (m : MM) (o : Nat) : Int := mxW (fun b => WM m 20 o b) (m 19 0).toNat
def soC (m : MM) (o : Nat) : Int := mxW (fun a => WM m 20 a o) (m 19 0).toNat
def enC (m : MM) : Int := mxW (fun i => soC m i + cLa m i) (m 19 0).toNat
def ltN (w l : Nat → Int) (e x nn : Int) : Nat → Int
  | 0 => e - x
  | n + 1 => if w n = nn then ltN w l e x nn n else min (ltN w l e x nn n) (e - l n - w n)
theorem ltN_st {w l : Nat → Int} {e x nn z : Int} (h : 0 ≤ z) : ltN w l e x nn (z + 1).toNat = if w z.toNat = nn then ltN w l e x nn z.toNat else min (ltN w l e x nn z.toNat) (e - l z.toNat - w z.toNat) := by
  rw [show (z + 1).toNat = z.toNat + 1 by omega]
  rfl
def ltC (m : MM) (o : Nat) : Int := ltN (fun b => WM m 20 o b) (cLa m) (enC m) (cLa m o) (-100000) (m 19 0).toNat
theorem f_74n {S : Nat × (Nat → Int32)} {n : Nat} {mem : MM} {K : MM → Prop} {E : Nat → MM → Prop} {d : Int} (H : 1 ≤ d ∧ d ≤ 12 → K mem) (HE : ¬ (1 ≤ d ∧ d ≤ 12) → E 0 mem) : CQV (Ex S (n + 1)) 74 [.inl d] mem K E := by
  refine CY.of (k := 0) mt_74 rfl rfl (fun hv => ?_)
  have hC := Ex.mono S n
  have ii_d : InI d := hv (.inl d) (by simp)
  unfold InI at ii_d
  clear hv
  show Tx (Ex S n) S M_74 (kV K E) 0 0 0 [some (.inl d)] [] mem
  refine Tx.iload_n hC te_74_0 rfl ?_
  refine Tx.iconst hC te_74_1 rfl ?_
  refine Tx.icmp hC (t := 11) te_74_2 (by decide) (fun q1 => ?_) (fun q1 => ?_)
  · replace q1 : (d : Int) < 1 := q1
    exact Tx.thr hC te_74_11 rfl rfl rfl rfl rfl (show E 0 mem from HE (by omega))
  · replace q1 : ¬ ((d : Int) < 1) := q1
    refine Tx.iload_n hC te_74_5 rfl ?_
    refine Tx.bipush hC te_74_6 rfl rfl ?_
    refine Tx.icmp hC (t := 22) te_74_8 (by decide) (fun q2 => ?_) (fun q2 => ?_)
    · replace q2 : (d : Int) ≤ 12 := q2
      exact Tx.vret hC te_74_22 rfl (show K mem from H (by omega))
    · replace q2 : ¬ ((d : Int) ≤ 12) := q2
      exact Tx.thr hC te_74_11 rfl rfl rfl rfl rfl (show E 0 mem from HE (by omega))
theorem f_73x {S : Nat × (Nat → Int32)} {n : Nat} {mem : MM} {K : MM → Prop} {E : Nat → MM → Prop} (hI : ClS mem) {d : Int} (H : 1 ≤ d ∧ d ≤ 12 → ∀ m', Rdy m' → Frm pNb mem m' → upV (m' 9 5) (m' 9 6) ≤ d → m' 19 1 = d → K m') (HE0 : ¬ (1 ≤ d ∧ d ≤ 12) → E 0 mem) (HE1 : 1 ≤ d ∧ d ≤ 12 → ∀ m', ClS m' → Frm pNb mem m' → NoR m' d → E 1 m') : CQV (Ex S (n + 15)) 73 [.inr 0, .inl d] mem K E := by
  refine CY.of (k := 0) mt_73 rfl rfl (fun hv => ?_)
  have hC := Ex.mono S (n + 14)
  have ii_d : InI d := hv (.inl d) (by simp)
  unfold InI at ii_d
  clear hv
  show Tx (Ex S (n + 14)) S M_73 (kV K E) 0 0 0 [some (.inr 0), some (.inl d)] [] mem
  refine Tx.iload_n hC te_73_0 rfl ?_
  refine Tx.statV hC te_73_1 (by decide) mt_74 (args := [.inl d]) (rest := []) (c' := 1) (s' := 6) rfl rfl rfl rfl rfl rfl rfl ?_
  refine f_74n (fun r1a => ?_) (fun r1n => HE0 r1n)
  refine Tx.aload_n hC te_73_4 rfl ?_
  refine Tx.virtV hC te_73_5 mt_69 (args := [.inr 0]) (rest := []) (c' := 2) (s' := 12) rfl rfl rfl rfl rfl rfl rfl rfl rfl rfl ?_
  refine f_69x hI (fun m5 r4R hF6 => ?_) (fun m5 r4C hF6 r4s => HE1 (by omega) _ r4C (Frm.rf.tr hF6) (Or.inl r4s))
  have r4w := r4R.1.w.2
  have hF6n : Frm pNb mem m5 := Frm.rf.tr hF6
  refine Tx.iload_n hC te_73_8 rfl ?_
  refine Tx.aload_n hC te_73_9 rfl ?_
  refine Tx.getR hC te_73_10 rfl rfl rfl ?_
  refine Tx.virtI hC te_73_13 mt_32 (args := [.inr 9]) (rest := [.inl d]) (c' := 2) (s' := 12) rfl rfl rfl rfl rfl rfl rfl rfl rfl rfl ?_
  refine f_32x (W := 9) ⟨rfl, rfl, rfl, rfl, rfl⟩ r4R.2.2.2.1.2.2.1 (fun r7 r7e r7a r7b r7i => ?_)
  unfold InI at r7i
  refine Tx.icmp hC (t := 30) te_73_16 (by decide) (fun q10 => ?_) (fun q10 => ?_)
  · replace q10 : r7 ≤ (d : Int) := q10
    refine Tx.aload_n hC te_73_30 rfl ?_
    refine Tx.getR hC te_73_31 rfl rfl rfl ?_
    refine Tx.aload_n hC te_73_34 rfl ?_
    refine Tx.getR hC te_73_35 rfl rfl rfl ?_
    refine Tx.aload_n hC te_73_38 rfl ?_
    refine Tx.getR hC te_73_39 rfl rfl rfl ?_
    refine Tx.iload_n hC te_73_42 rfl ?_
    refine Tx.virtV hC te_73_43 mt_75 (args := [.inr 19, .inr 1, .inr 9, .inl d]) (rest := []) (c' := 2) (s' := 12) rfl rfl rfl rfl rfl rfl rfl rfl rfl rfl ?_
    refine f_75x r4R.1.b r4R.1.w r4R.2.2.2.1.1 r4R.edv (Rdy.noup r4R (by omega) (by omega)) r4R.2.1.2 (by omega) (fun m12 hF13 r11x r11z r11y => ?_)
    have r11R := Rdy.e_span r4R hF13 (by have := r4R.1.b.1; omega) r11x
    have r11u : upV (m12 9 5) (m12 9 6) = upV (m5 9 5) (m5 9 6) := by rw [hF13 9 5 (by unfold pRe; omega), hF13 9 6 (by unfold pRe; omega)]
    have hF13n : Frm pNb mem m12 := hF6n.tr (hF13.mono (fun A i q => by unfold pRe at q; unfold pNb; omega))
    exact Tx.vret hC te_73_46 rfl (show K m12 from H (by omega) _ r11R hF13n (by omega) r11y)
  · replace q10 : ¬ (r7 ≤ (d : Int)) := q10
    exact Tx.thr hC te_73_19 rfl rfl rfl rfl rfl (show E 1 m5 from HE1 (by omega) _ r4R.cs hF6n (Or.inr ⟨r4R.2.2.2.2, r4R.2.2.2.1, by omega⟩))
theorem f_205x {S : Nat × (Nat → Int32)} {n : Nat} {mem : MM} {K : Int → MM → Prop} {E : Nat → MM → Prop} (hz : 0 ≤ mem 19 0 ∧ mem 19 0 ≤ 8) (hW : WyR mem) {o : Int} (ho : 0 ≤ o ∧ o < mem 19 0) (H : ∀ r, r = soC mem o.toNat → 0 ≤ r → r ≤ 54 → K r mem) : CQI (Ex S (n + 2)) 205 [.inr 19, .inl o] mem K E := by
  refine CY.of (k := 2) mt_205 rfl rfl (fun hv => ?_)
  have hC := Ex.mono S (n + 1)
  have ii_o : InI o := hv (.inl o) (by simp)
  unfold InI at ii_o
  clear hv
  show Tx (Ex S (n + 1)) S M_205 (kI K E) 0 0 0 [some (.inr 19), some (.inl o), none, none] [] mem
  have l_4 : ∀ (N : Nat) (x2 x3 : Int), (0 ≤ x3 ∧ x3 ≤ mem 19 0) → (x2 = mxW (fun a => WM mem 20 a o.toNat) x3.toNat) → (0 ≤ x2 ∧ x2 ≤ 54) → ((8 - x3).toNat) < N → Tx (Ex S (n + 1)) S M_205 (kI K E) 0 0 4 [some (.inr 19), some (.inl o), some (.inl x2), some (.inl x3)] [] mem := by
    intro N
    induction N with
    | zero => intros; omega
    | succ N ih_4 =>
      intro x2 x3 i4_0 i4_1 i4_2 hN_4 
      refine Tx.iload_n hC te_205_4 rfl ?_
      refine Tx.aload_n hC te_205_5 rfl ?_
      refine Tx.getI hC te_205_6 rfl rfl rfl (fun v1 v1e v1i => ?_)
      unfold InI at v1i
      refine Tx.icmp hC (t := 34) te_205_9 (by decide) (fun q2 => ?_) (fun q2 => ?_)
      · replace q2 : v1 ≤ (x3 : Int) := q2
        refine Tx.iload_n hC te_205_34 rfl ?_
        exact Tx.ireturn hC te_205_35 rfl (fun hr => show K x2 mem from H _ (by unfold soC; rw [show (mem 19 0).toNat = x3.toNat by omega]; omega) (by omega) (by omega))
      · replace q2 : ¬ (v1 ≤ (x3 : Int)) := q2
        refine Tx.iload_n hC te_205_12 rfl ?_
        refine Tx.aload_n hC te_205_13 rfl ?_
        refine Tx.getR hC te_205_14 rfl rfl rfl ?_
        refine Tx.iload_n hC te_205_17 rfl ?_
        refine Tx.bipush hC te_205_18 rfl rfl ?_
        refine Tx.imulW hC te_205_20 (fun z3 z3i z3e => ?_)
        unfold InI at z3i z3e
        first | replace z3e := z3e (by omega) | clear z3e
        refine Tx.iload_n hC te_205_21 rfl ?_
        refine Tx.iaddW hC te_205_22 (fun z4 z4i z4e => ?_)
        unfold InI at z4i z4e
        first | replace z4e := z4e (by omega) | clear z4e
        refine Tx.iald hC te_205_23 rfl (by omega) (fun v5 v5e v5i => ?_)
        unfold InI at v5i
        have va : v5 = WM mem 20 x3.toNat o.toNat := by rw [v5e]; unfold WM; congr 1; omega
        have ra := hW x3.toNat o.toNat (by omega) (by omega)
        refine Tx.statI hC te_205_24 (by decide) mt_40 (args := [.inl x2, .inl v5]) (rest := []) (c' := 0) (s' := 0) rfl rfl rfl rfl rfl rfl rfl ?_
        refine f_40q (fun r6 r6a r6b r6c r6i => ?_)
        unfold InI at r6i
        refine Tx.istore_n hC te_205_27 rfl ?_
        refine Tx.iincW hC te_205_28 rfl rfl (fun z9 z9i z9e => ?_)
        unfold InI at z9i z9e
        first | replace z9e := z9e (by omega) | clear z9e
        refine Tx.goto hC (t := 4) te_205_31 (by decide) ?_
        exact ih_4 r6 z9 (by omega) (by
              have w : mxW (fun a => WM mem 20 a o.toNat) (x3 + 1).toNat = max (mxW (fun a => WM mem 20 a o.toNat) x3.toNat) (WM mem 20 x3.toNat o.toNat) := mxW_st (by omega)
              rw [show z9 = x3 + 1 by omega, w]
              omega) (by omega) (by omega)
  refine Tx.iconst hC te_205_0 rfl ?_
  refine Tx.istore_n hC te_205_1 rfl ?_
  refine Tx.iconst hC te_205_2 rfl ?_
  refine Tx.istore_n hC te_205_3 rfl ?_
  exact l_4 _ 0 0 (by omega) (rfl) (by omega) (Nat.lt_succ_self _)
theorem f_204x {S : Nat × (Nat → Int32)} {n : Nat} {mem : MM} {K : Int → MM → Prop} {E : Nat → MM → Prop} (hB : BodyOK mem) (hz : mem 19 0 = mem 1 0) (hW : WyR mem) {o : Int} (ho : 0 ≤ o ∧ o < mem 19 0) (H : ∀ r, r = ltC mem o.toNat → K r mem) : CQI (Ex S (n + 3)) 204 [.inr 19, .inr 1, .inl o] mem K E := by
  refine CY.of (k := 4) mt_204 rfl rfl (fun hv => ?_)
  have hC := Ex.mono S (n + 2)
  have ii_o : InI o := hv (.inl o) (by simp)
  unfold InI at ii_o
  clear hv
  have h8 := hB.1
  show Tx (Ex S (n + 2)) S M_204 (kI K E) 0 0 0 [some (.inr 19), some (.inr 1), some (.inl o), none, none, none, none] [] mem
  have l_50 : ∀ (N : Nat) (x3 x4 x5 : Int), (0 ≤ x5 ∧ x5 ≤ mem 19 0) → (x4 = ltN (fun b => WM mem 20 o.toNat b) (cLa mem) (enC mem) (cLa mem o.toNat) (-100000) x5.toNat) → (x3 = enC mem) → (0 ≤ x3 ∧ x3 ≤ 60) → (-70000 ≤ x4 ∧ x4 ≤ 70000) → ((8 - x5).toNat) < N → Tx (Ex S (n + 2)) S M_204 (kI K E) 0 0 50 [some (.inr 19), some (.inr 1), some (.inl o), some (.inl x3), some (.inl x4), some (.inl x5), none] [] mem := by
    intro N
    induction N with
    | zero => intros; omega
    | succ N ih_50 =>
      intro x3 x4 x5 i50_0 i50_1 i50_2 i50_3 i50_4 hN_50 
      refine Tx.iload hC te_204_50 rfl ?_
      refine Tx.aload_n hC te_204_52 rfl ?_
      refine Tx.getI hC te_204_53 rfl rfl rfl (fun v1 v1e v1i => ?_)
      unfold InI at v1i
      refine Tx.icmp hC (t := 104) te_204_56 (by decide) (fun q2 => ?_) (fun q2 => ?_)
      · replace q2 : v1 ≤ (x5 : Int) := q2
        refine Tx.iload hC te_204_104 rfl ?_
        exact Tx.ireturn hC te_204_106 rfl (fun hr => show K x4 mem from H _ (by unfold ltC; rw [show (mem 19 0).toNat = x5.toNat by omega]; omega))
      · replace q2 : ¬ (v1 ≤ (x5 : Int)) := q2
        refine Tx.aload_n hC te_204_59 rfl ?_
        refine Tx.getR hC te_204_60 rfl rfl rfl ?_
        refine Tx.iload_n hC te_204_63 rfl ?_
        refine Tx.bipush hC te_204_64 rfl rfl ?_
        refine Tx.imulW hC te_204_66 (fun z3 z3i z3e => ?_)
        unfold InI at z3i z3e
        first | replace z3e := z3e (by omega) | clear z3e
        refine Tx.iload hC te_204_67 rfl ?_
        refine Tx.iaddW hC te_204_69 (fun z4 z4i z4e => ?_)
        unfold InI at z4i z4e
        first | replace z4e := z4e (by omega) | clear z4e
        refine Tx.iald hC te_204_70 rfl (by omega) (fun v5 v5e v5i => ?_)
        unfold InI at v5i
        have va : v5 = WM mem 20 o.toNat x5.toNat := by rw [v5e]; unfold WM; congr 1; omega
        have ra := hW o.toNat x5.toNat (by omega) (by omega)
        refine Tx.istore hC te_204_71 rfl ?_
        refine Tx.iload hC te_204_73 rfl ?_
        refine Tx.ldc hC (z := (-100000)) te_204_75 rfl rfl rfl rfl ?_
        refine Tx.icmp hC (t := 98) te_204_77 (by decide) (fun q6 => ?_) (fun q6 => ?_)
        · replace q6 : (v5 : Int) = (-100000) := q6
          refine Tx.iincW hC te_204_98 rfl rfl (fun z7 z7i z7e => ?_)
          unfold InI at z7i z7e
          first | replace z7e := z7e (by omega) | clear z7e
          refine Tx.goto hC (t := 50) te_204_101 (by decide) ?_
          exact Tx.weak (by repeat' (first | exact trivial | exact rfl | constructor)) (ih_50 x3 x4 z7 (by omega) (by
                have w : ltN (fun b => WM mem 20 o.toNat b) (cLa mem) (enC mem) (cLa mem o.toNat) (-100000) (x5 + 1).toNat = if WM mem 20 o.toNat x5.toNat = -100000 then ltN (fun b => WM mem 20 o.toNat b) (cLa mem) (enC mem) (cLa mem o.toNat) (-100000) x5.toNat else min (ltN (fun b => WM mem 20 o.toNat b) (cLa mem) (enC mem) (cLa mem o.toNat) (-100000) x5.toNat) (enC mem - cLa mem x5.toNat - WM mem 20 o.toNat x5.toNat) := ltN_st (by omega)
                rw [show z7 = x5 + 1 by omega, w]
                split <;> omega) ((by omega)) (by omega) (by omega) (by omega))
        · replace q6 : ¬ ((v5 : Int) = (-100000)) := q6
          refine Tx.iload hC te_204_80 rfl ?_
          refine Tx.iload_n hC te_204_82 rfl ?_
          refine Tx.aload_n hC te_204_83 rfl ?_
          refine Tx.iload hC te_204_84 rfl ?_
          refine Tx.virtI hC te_204_86 mt_19 (args := [.inr 1, .inl x5]) (rest := [.inl x3, .inl x4]) (c' := 0) (s' := 0) rfl rfl rfl rfl rfl rfl rfl rfl rfl rfl ?_
          refine f_19x hB (by omega) (fun r8 r8e r8a r8b r8i => ?_)
          unfold InI at r8i
          refine Tx.isubW hC te_204_89 (fun z11 z11i z11e => ?_)
          unfold InI at z11i z11e
          first | replace z11e := z11e (by omega) | clear z11e
          refine Tx.iload hC te_204_90 rfl ?_
          refine Tx.isubW hC te_204_92 (fun z12 z12i z12e => ?_)
          unfold InI at z12i z12e
          first | replace z12e := z12e (by omega) | clear z12e
          refine Tx.statI hC te_204_93 (by decide) mt_29 (args := [.inl x4, .inl z12]) (rest := []) (c' := 0) (s' := 0) rfl rfl rfl rfl rfl rfl rfl ?_
          refine f_29q (fun r13 r13a r13b r13c r13i => ?_)
          unfold InI at r13i
          refine Tx.istore hC te_204_96 rfl ?_
          refine Tx.iincW hC te_204_98 rfl rfl (fun z16 z16i z16e => ?_)
          unfold InI at z16i z16e
          first | replace z16e := z16e (by omega) | clear z16e
          refine Tx.goto hC (t := 50) te_204_101 (by decide) ?_
          exact Tx.weak (by repeat' (first | exact trivial | exact rfl | constructor)) (ih_50 x3 r13 z16 (by omega) (by
                have w : ltN (fun b => WM mem 20 o.toNat b) (cLa mem) (enC mem) (cLa mem o.toNat) (-100000) (x5 + 1).toNat = if WM mem 20 o.toNat x5.toNat = -100000 then ltN (fun b => WM mem 20 o.toNat b) (cLa mem) (enC mem) (cLa mem o.toNat) (-100000) x5.toNat else min (ltN (fun b => WM mem 20 o.toNat b) (cLa mem) (enC mem) (cLa mem o.toNat) (-100000) x5.toNat) (enC mem - cLa mem x5.toNat - WM mem 20 o.toNat x5.toNat) := ltN_st (by omega)
                rw [show z16 = x5 + 1 by omega, w]
                split <;> omega) ((by omega)) (by omega) (by omega) (by omega))
  have l_5 : ∀ (N : Nat) (x3 x4 : Int), (0 ≤ x4 ∧ x4 ≤ mem 19 0) → (x3 = mxW (fun i => soC mem i + cLa mem i) x4.toNat) → (0 ≤ x3 ∧ x3 ≤ 60) → ((8 - x4).toNat) < N → Tx (Ex S (n + 2)) S M_204 (kI K E) 0 0 5 [some (.inr 19), some (.inr 1), some (.inl o), some (.inl x3), some (.inl x4), none, none] [] mem := by
    intro N
    induction N with
    | zero => intros; omega
    | succ N ih_5 =>
      intro x3 x4 i5_0 i5_1 i5_2 hN_5 
      refine Tx.iload hC te_204_5 rfl ?_
      refine Tx.aload_n hC te_204_7 rfl ?_
      refine Tx.getI hC te_204_8 rfl rfl rfl (fun v17 v17e v17i => ?_)
      unfold InI at v17i
      refine Tx.icmp hC (t := 38) te_204_11 (by decide) (fun q18 => ?_) (fun q18 => ?_)
      · replace q18 : v17 ≤ (x4 : Int) := q18
        refine Tx.iload_n hC te_204_38 rfl ?_
        refine Tx.aload_n hC te_204_39 rfl ?_
        refine Tx.iload_n hC te_204_40 rfl ?_
        refine Tx.virtI hC te_204_41 mt_19 (args := [.inr 1, .inl o]) (rest := [.inl x3]) (c' := 0) (s' := 0) rfl rfl rfl rfl rfl rfl rfl rfl rfl rfl ?_
        refine f_19x hB (by omega) (fun r19 r19e r19a r19b r19i => ?_)
        unfold InI at r19i
        refine Tx.isubW hC te_204_44 (fun z22 z22i z22e => ?_)
        unfold InI at z22i z22e
        first | replace z22e := z22e (by omega) | clear z22e
        refine Tx.istore hC te_204_45 rfl ?_
        refine Tx.iconst hC te_204_47 rfl ?_
        refine Tx.istore hC te_204_48 rfl ?_
        exact l_50 _ x3 z22 0 (by omega) (by show _ = enC mem - cLa mem o.toNat; have w : x3 = enC mem := by { unfold enC; rw [show (mem 19 0).toNat = x4.toNat by omega]; omega }; omega) (by unfold enC; rw [show (mem 19 0).toNat = x4.toNat by omega]; omega) (by omega) (by omega) (Nat.lt_succ_self _)
      · replace q18 : ¬ (v17 ≤ (x4 : Int)) := q18
        refine Tx.iload_n hC te_204_14 rfl ?_
        refine Tx.aload_n hC te_204_15 rfl ?_
        refine Tx.iload hC te_204_16 rfl ?_
        refine Tx.virtI hC te_204_18 mt_205 (args := [.inr 19, .inl x4]) (rest := [.inl x3]) (c' := 0) (s' := 0) rfl rfl rfl rfl rfl rfl rfl rfl rfl rfl ?_
        refine f_205x (by omega) hW (by omega) (fun r23 r23e r23a r23b r23i => ?_)
        unfold InI at r23i
        refine Tx.aload_n hC te_204_21 rfl ?_
        refine Tx.iload hC te_204_22 rfl ?_
        refine Tx.virtI hC te_204_24 mt_19 (args := [.inr 1, .inl x4]) (rest := [.inl r23, .inl x3]) (c' := 0) (s' := 0) rfl rfl rfl rfl rfl rfl rfl rfl rfl rfl ?_
        refine f_19x hB (by omega) (fun r26 r26e r26a r26b r26i => ?_)
        unfold InI at r26i
        refine Tx.iaddW hC te_204_27 (fun z29 z29i z29e => ?_)
        unfold InI at z29i z29e
        first | replace z29e := z29e (by omega) | clear z29e
        refine Tx.statI hC te_204_28 (by decide) mt_40 (args := [.inl x3, .inl z29]) (rest := []) (c' := 0) (s' := 0) rfl rfl rfl rfl rfl rfl rfl ?_
        refine f_40q (fun r30 r30a r30b r30c r30i => ?_)
        unfold InI at r30i
        refine Tx.istore_n hC te_204_31 rfl ?_
        refine Tx.iincW hC te_204_32 rfl rfl (fun z33 z33i z33e => ?_)
        unfold InI at z33i z33e
        first | replace z33e := z33e (by omega) | clear z33e
        refine Tx.goto hC (t := 5) te_204_35 (by decide) ?_
        exact ih_5 r30 z33 (by omega) (by
              have w : mxW (fun i => soC mem i + cLa mem i) (x4 + 1).toNat = max (mxW (fun i => soC mem i + cLa mem i) x4.toNat) (soC mem x4.toNat + cLa mem x4.toNat) := mxW_st (by omega)
              rw [show z33 = x4 + 1 by omega, w]
              omega) (by omega) (by omega)
  refine Tx.iconst hC te_204_0 rfl ?_
  refine Tx.istore_n hC te_204_1 rfl ?_
  refine Tx.iconst hC te_204_2 rfl ?_
  refine Tx.istore hC te_204_3 rfl ?_
  exact l_5 _ 0 0 (by omega) (rfl) (by omega) (Nat.lt_succ_self _)
theorem f_203x {S : Nat × (Nat → Int32)} {n : Nat} {mem : MM} {K : Int → MM → Prop} {E : Nat → MM → Prop} (hI : ClS mem) {p0 p1 p2 : Int} (H : 0 ≤ p0 ∧ p0 < mem 1 0 → 1 ≤ p1 ∧ p1 ≤ 12 → ∀ m', ClS m' → Frm pNb mem m' → FwR m' p1 → ∀ r, r = (if p2 = 0 then soC m' p0.toNat else ltC m' p0.toNat) → K r m') (HE2 : ¬ (0 ≤ p0 ∧ p0 < mem 1 0) → E 2 mem) (HE0 : 0 ≤ p0 ∧ p0 < mem 1 0 → ¬ (1 ≤ p1 ∧ p1 ≤ 12) → E 0 mem) (HE1 : 0 ≤ p0 ∧ p0 < mem 1 0 → 1 ≤ p1 ∧ p1 ≤ 12 → ∀ m', ClS m' → Frm pNb mem m' → NoR m' p1 → E 1 m') : CQI (Ex S (n + 17)) 203 [.inr 0, .inl p0, .inl p1, .inl p2] mem K E := by
  refine CY.of (k := 0) mt_203 rfl rfl (fun hv => ?_)
  have hC := Ex.mono S (n + 16)
  have ii_p0 : InI p0 := hv (.inl p0) (by simp)
  unfold InI at ii_p0
  have ii_p1 : InI p1 := hv (.inl p1) (by simp)
  unfold InI at ii_p1
  have ii_p2 : InI p2 := hv (.inl p2) (by simp)
  unfold InI at ii_p2
  clear hv
  have h8 := hI.1.b.1
  show Tx (Ex S (n + 16)) S M_203 (kI K E) 0 0 0 [some (.inr 0), some (.inl p0), some (.inl p1), some (.inl p2)] [] mem
  refine Tx.aload_n hC te_203_0 rfl ?_
  refine Tx.iload_n hC te_203_1 rfl ?_
  refine Tx.virtV hC te_203_2 mt_57 (args := [.inr 0, .inl p0]) (rest := []) (c' := 1) (s' := 6) rfl rfl rfl rfl rfl rfl rfl rfl rfl rfl ?_
  refine f_57n (fun r1a => ?_) (fun r1n => HE2 (by omega))
  refine Tx.aload_n hC te_203_5 rfl ?_
  refine Tx.iload_n hC te_203_6 rfl ?_
  refine Tx.virtV hC te_203_7 mt_73 (args := [.inr 0, .inl p1]) (rest := []) (c' := 4) (s' := 24) rfl rfl rfl rfl rfl rfl rfl rfl rfl rfl ?_
  refine f_73x hI (fun r4d m5 r4R hF6 r4q r4y => ?_) (fun r4n => HE0 (by omega) r4n) (fun r4d m5 r4C hF6 r4n => HE1 (by omega) r4d _ r4C hF6 r4n)
  have r4w := Rdy.fwr r4R r4d r4q r4y
  have r4z := r4w.2.2.2.1
  have r48 := hF6 1 0 (by unfold pNb; omega)
  have hF6n : Frm pNb mem m5 := hF6
  refine Tx.iload_n hC te_203_10 rfl ?_
  refine Tx.ifc hC (t := 29) te_203_11 (by decide) (fun q7 => ?_) (fun q7 => ?_)
  · replace q7 : (p2 : Int) = 0 := q7
    refine Tx.aload_n hC te_203_29 rfl ?_
    refine Tx.getR hC te_203_30 rfl rfl rfl ?_
    refine Tx.iload_n hC te_203_33 rfl ?_
    refine Tx.virtI hC te_203_34 mt_205 (args := [.inr 19, .inl p0]) (rest := []) (c' := 4) (s' := 24) rfl rfl rfl rfl rfl rfl rfl rfl rfl rfl ?_
    refine f_205x (by omega) r4w.wyr (by omega) (fun r8 r8e r8a r8b r8i => ?_)
    unfold InI at r8i
    exact Tx.ireturn hC te_203_37 rfl (fun hr => show K r8 m5 from H (by omega) r4d _ r4R.cs hF6n r4w _ (by first | (rw [if_pos (by omega)]; omega) | (rw [if_neg (by omega)]; omega)))
  · replace q7 : ¬ ((p2 : Int) = 0) := q7
    refine Tx.aload_n hC te_203_14 rfl ?_
    refine Tx.getR hC te_203_15 rfl rfl rfl ?_
    refine Tx.aload_n hC te_203_18 rfl ?_
    refine Tx.getR hC te_203_19 rfl rfl rfl ?_
    refine Tx.iload_n hC te_203_22 rfl ?_
    refine Tx.virtI hC te_203_23 mt_204 (args := [.inr 19, .inr 1, .inl p0]) (rest := []) (c' := 4) (s' := 24) rfl rfl rfl rfl rfl rfl rfl rfl rfl rfl ?_
    refine f_204x r4R.1.b (by omega) r4w.wyr (by omega) (fun r11 r11e r11i => ?_)
    unfold InI at r11i
    refine Tx.goto hC (t := 37) te_203_26 (by decide) ?_
    exact Tx.ireturn hC te_203_37 rfl (fun hr => show K r11 m5 from H (by omega) r4d _ r4R.cs hF6n r4w _ (by first | (rw [if_pos (by omega)]; omega) | (rw [if_neg (by omega)]; omega)))
end
section
/-! far, height, bare of the reference, exactly -/
theorem NoUp.mono {c : Nat → Q4} {n o : Nat} {r d : Int} (ho : o ≤ 8) (hV : EdV c n o) (h : NoUp (EdQ c n r)) (hr : r ≤ d) : NoUp (EdQ c n d) := by
  refine (rings_noup ho hV).mp (fun x hx => ?_)
  have w := (rings_noup ho hV).mpr h x hx
  have q := ring_dist hV hx
  have := Int.mul_le_mul_of_nonneg_right hr (show 0 ≤ x.2.1 by omega)
  omega
theorem ltN_eq {w1 w2 l1 l2 : Nat → Int} {e x n1 n2 : Int} : ∀ n : Nat, (∀ i, i < n → ((w1 i = n1 ∧ w2 i = n2) ∨ (¬ w1 i = n1 ∧ ¬ w2 i = n2 ∧ w1 i = w2 i)) ∧ l1 i = l2 i) → ltN w1 l1 e x n1 n = ltN w2 l2 e x n2 n
  | 0, _ => rfl
  | n + 1, h => by
    have q := h n (by omega)
    unfold ltN
    rw [ltN_eq n (fun i hi => h i (by omega)), q.2]
    rcases q.1 with ⟨a, b⟩ | ⟨a, b, c⟩
    · rw [if_pos a, if_pos b]
    · rw [if_neg a, if_neg b, c]
def NoM (m m' : MM) (d : Int) : Prop := ¬ SoundM m ∨ (SoundM m ∧ ∃ r, NdRd m m' r ∧ d < r)
def abR (m : MM) (o : Nat) : Int := mxW (fun b => WM m 158 o b) (m 143 1).toNat
def soR (m : MM) (o : Nat) : Int := mxW (fun a => WM m 158 a o) (m 143 1).toNat
def enR (m : MM) : Int := mxW (fun i => soR m i + latF m i) (m 143 1).toNat
def ltR (m : MM) (o : Nat) : Int := ltN (fun b => WM m 158 o b) (latF m) (enR m) (latF m o) (-1000) (m 143 1).toNat
section RFW
variable {S : Nat × (Nat → Int32)} {n : Nat} {mem : MM} {K : Int → MM → Prop} {d : Int}
theorem f_253e {x : Int} (H1 : 1 ≤ x → x ≤ 12 → K 1 mem) (H0 : ¬ (1 ≤ x ∧ x ≤ 12) → K 0 mem) : CWI (Ex S (n + 2)) 253 [.inl x] mem K :=
  CW.of (k := 0) mt_253 rfl rfl (w_253_0 (Ex.mono S (n + 1)) (f_227 (fun a b _ => ⟨Or.inr rfl, _, rfl, H1 a b⟩) (fun b _ => ⟨Or.inl rfl, _, rfl, H0 (by omega)⟩)))
theorem f_235e {x : Int} (h8 : 0 ≤ mem 143 1 ∧ mem 143 1 ≤ 8) (H1 : 0 ≤ x → x < mem 143 1 → K 1 mem) (H0 : ¬ (0 ≤ x ∧ x < mem 143 1) → K 0 mem) : CWI (Ex S (n + 2)) 235 [.inr 143, .inl x] mem K :=
  CW.of (k := 0) mt_235 rfl rfl (w_235_0 (Ex.mono S (n + 1)) (fun v e _ => ⟨by unfold InI; omega, f_227 (fun a b _ => ⟨Or.inr rfl, _, rfl, H1 a (by omega)⟩) (fun b _ => ⟨Or.inl rfl, _, rfl, H0 (by omega)⟩)⟩))
theorem f_254q (h : RefOK mem) (H1 : ∀ m', RefOK m' → FrQ mem m' → NoM mem m' d → K 1 m') (H0 : ∀ m', RefOK m' → FrQ mem m' → SoundM mem → (∃ r, NdRd mem m' r ∧ r ≤ d) → K 0 m') : CWI (Ex S (n + 4)) 254 [.inr 143, .inl d] mem K :=
  f_254e h.ops (fun m' k1 k2 q => H1 m' (k1.rest k2 h) k1.f.q (by
    by_cases s : SoundM mem
    · obtain ⟨a, -, b, r, r0, c, e⟩ := q s
      exact Or.inr ⟨s, r, ⟨a, b, r0, c⟩, e⟩
    · exact Or.inl s)) (fun m' k1 k2 s a _ b ⟨r, r0, c, e⟩ => H0 m' (k1.rest k2 h) k1.f.q s ⟨r, ⟨a, b, r0, c⟩, e⟩)
theorem NdRd.fr1 {m m1 m2 : MM} {r : Int} (h : NdRd m m1 r) (k : Fr1 158 m1 m2) : NdRd m m2 r := by
  obtain ⟨a, b, r0, c⟩ := h
  have eq : rq m2 = rq m1 := funext fun i => by
    unfold rq
    rw [k 154 i (by omega), k 155 i (by omega), k 156 i (by omega), k 157 i (by omega)]
  refine ⟨a.fr k, by rw [eq, k 143 12 (by omega)]; exact b, r0, ?_⟩
  have : NdE m2 = NdE m1 := funext fun d => NdE.fr k d
  rw [this]; exact c
theorem f_256q {m1 : MM} {K : MM → Prop} {r : Int} (hd : 1 ≤ d ∧ d ≤ 12) (h1 : RefOK m1) (hw : NdRd mem m1 r) (hr : r ≤ d) (H : ∀ m2, RefOK m2 → Fr1 158 m1 m2 → NdRd mem m2 r → WyA m2 d → K m2) : CWV (Ex S (n + 2)) 256 [.inr 143, .inl d] m1 K := by
  have hN := hw.1
  refine f_256x hN h1.lo hd ?_ (fun m2 k2 hW => H m2 (k2.rest158 h1).1 k2 (hw.fr1 k2) hW)
  have c := hw.2.2.2.1
  rw [NdE.q h1.lo hN.2.1.1] at c ⊢
  exact NoUp.mono (by have := hN.1; omega) hN.v c hr
theorem NoM.th {m m' : MM} {z : Int} (h : NoM m m' d) : NoM m (upm m' 143 0 z) d := h
theorem f_360e {K : MM → Prop} (hO : OpsOK mem) (hW : ∀ a b : Nat, (a : Int) < mem 143 1 → (b : Int) < mem 143 1 → WM mem 158 a b = -1000 ∨ (-801 ≤ WM mem 158 a b ∧ WM mem 158 a b ≤ 54)) (H : ∀ m', FrB mem m' → (∀ o : Nat, (o : Int) < mem 143 1 → m' 171 o = soR mem o ∧ m' 172 o = ltR mem o) → K m') : CWV (Ex S (n + 2)) 360 [.inr 143, .inl d] mem K := by
  have h8 := hO.1
  have opsF : ∀ m, FrB mem m → OpsOK m := fun m h => by
    refine ⟨by rw [h 143 1 (by omega) (by omega)]; exact hO.1, fun u hu => ?_, fun i hi => by rw [h 151 i (by omega) (by omega)]; exact hO.2.2 i hi⟩
    have := hO.2.1 u hu
    unfold OpOK at this ⊢
    rw [h 144 u (by omega) (by omega), h 145 u (by omega) (by omega), h 146 u (by omega) (by omega), h 147 u (by omega) (by omega), h 148 u (by omega) (by omega)]
    exact this
  have latF_ : ∀ m, FrB mem m → ∀ o, latF m o = latF mem o := fun m h o => by
    unfold latF
    rw [h 144 o (by omega) (by omega), h 151 _ (by omega) (by omega)]
  have upB : ∀ (m : MM) (A i : Nat) (x : Int), A = 171 ∨ A = 172 → FrB mem m → FrB mem (upm m A i x) := fun m A i x hA h B j e1 e2 => by rw [upm_ne (by omega)]; exact h B j e1 e2
  have wmE : ∀ m, FrB mem m → ∀ (a b v : Int), 0 ≤ a → 0 ≤ b → v = m 158 (8 * a + b).toNat → v = WM mem 158 a.toNat b.toNat := fun m h a b v ha hb e => by
    rw [e, h 158 _ (by omega) (by omega)]
    unfold WM
    congr 1
    omega
  have soB : ∀ o : Nat, (o : Int) < mem 143 1 → ∀ k : Nat, (k : Int) ≤ mem 143 1 → 0 ≤ mxW (fun a => WM mem 158 a o) k ∧ mxW (fun a => WM mem 158 a o) k ≤ 54 := fun o ho k hk => mxW_rg (by omega) k (fun i hi => by have := hW i o (by omega) ho; omega)
  have enB : ∀ k : Nat, (k : Int) ≤ mem 143 1 → 0 ≤ mxW (fun i => soR mem i + latF mem i) k ∧ mxW (fun i => soR mem i + latF mem i) k ≤ 60 := fun k hk => mxW_rg (by omega) k (fun i hi => by
    have a1 := soB i (by omega) (mem 143 1).toNat (by omega)
    have a2 := hO.lat (o := i) (by omega)
    show soR mem i + latF mem i ≤ 60
    unfold soR
    omega)
  -- the greatest times
  have l89 : ∀ (N : Nat) (o : Nat) (m : MM), (o : Int) ≤ mem 143 1 → (mem 143 1 - o).toNat < N → FrB mem m → (∀ i : Nat, (i : Int) < mem 143 1 → m 171 i = soR mem i) → (∀ i : Nat, i < o → m 172 i = ltR mem i) → Wx (Ex S (n + 1)) S M_360 (fun r m => r = none ∧ K m) 89 [some (.inr 143), some (.inl d), some (.inl (enR mem)), some (.inl (o : Int)), none] [] m := by
    intro N
    induction N with
    | zero => intros; omega
    | succ N ih =>
      intro o m ho hN hF h1 h2
      have e1' : m 143 1 = mem 143 1 := hF _ _ (by omega) (by omega)
      have eb : 0 ≤ enR mem ∧ enR mem ≤ 60 := enB (mem 143 1).toNat (by omega)
      refine w_360_89 (Ex.mono S (n + 1)) (fun v1 e1 _ => ⟨fun q => ⟨rfl, H m hF (fun i hi => ⟨h1 i hi, h2 i (by omega)⟩)⟩, fun q => f_246 (opsF m hF) ⟨by omega, by omega⟩ (fun _ => ?_)⟩)
      rw [Int.toNat_natCast, latF_ m hF]
      have hl := hO.lat (o := o) (by omega)
      have inner : ∀ (N' : Nat) (b : Nat) (m' : MM), (b : Int) ≤ mem 143 1 → (mem 143 1 - b).toNat < N' → FrB mem m' → (∀ i : Nat, (i : Int) < mem 143 1 → m' 171 i = soR mem i) → (∀ i : Nat, i < o → m' 172 i = ltR mem i) → m' 172 o = ltN (fun b => WM mem 158 o b) (latF mem) (enR mem) (latF mem o) (-1000) b → -100000 ≤ m' 172 o ∧ m' 172 o ≤ 100000 → Wx (Ex S (n + 1)) S M_360 (fun r m => r = none ∧ K m) 113 [some (.inr 143), some (.inl d), some (.inl (enR mem)), some (.inl (o : Int)), some (.inl (b : Int))] [] m' := by
        intro N'
        induction N' with
        | zero => intros; omega
        | succ N' ih2 =>
          intro b m' hb hN' hF' g1 g2 g3 g4
          have e2' : m' 143 1 = mem 143 1 := hF' _ _ (by omega) (by omega)
          have st : ltN (fun b => WM mem 158 o b) (latF mem) (enR mem) (latF mem o) (-1000) (b + 1) = if WM mem 158 o b = -1000 then ltN (fun b => WM mem 158 o b) (latF mem) (enR mem) (latF mem o) (-1000) b else min (ltN (fun b => WM mem 158 o b) (latF mem) (enR mem) (latF mem o) (-1000) b) (enR mem - latF mem b - WM mem 158 o b) := rfl
          refine w_360_113 (Ex.mono S (n + 1)) (fun v1 e1 _ => ⟨fun q2 => ⟨by unfold InI; omega, ih (o + 1) m' (by omega) (by omega) hF' g1 (fun i hi => ?_)⟩, fun q2 => ⟨by unfold InI; omega, by unfold InI; omega, by omega, fun v2 e2 _ => ⟨fun q3 => ⟨by unfold InI; omega, ih2 (b + 1) m' (by omega) (by omega) hF' g1 g2 ?_ g4⟩, fun q3 => ⟨by omega, fun v3 e3 _ => f_246 (opsF m' hF') ⟨by omega, by omega⟩ (fun _ => ?_)⟩⟩⟩⟩)
          · by_cases z : i = o
            · subst z
              rw [g3, show b = (mem 143 1).toNat by omega]; rfl
            · exact g2 i (by omega)
          · have ew := wmE m' hF' _ _ v2 (by omega) (by omega) e2
            rw [Int.toNat_natCast, Int.toNat_natCast] at ew
            have hw := hW o b (by omega) (by omega)
            rw [st, if_pos (by omega), g3]
          rw [Int.toNat_natCast, latF_ m' hF']
          have hlb := hO.lat (o := b) (by omega)
          refine ⟨by unfold InI; omega, by unfold InI; omega, by unfold InI; omega, by omega, fun v6 e6 _ => ?_⟩
          have ew := wmE m' hF' _ _ v2 (by omega) (by omega) e2
          rw [Int.toNat_natCast, Int.toNat_natCast] at ew
          have ew6 := wmE m' hF' _ _ v6 (by omega) (by omega) e6
          rw [Int.toNat_natCast, Int.toNat_natCast] at ew6
          have hw := hW o b (by omega) (by omega)
          refine ⟨by unfold InI; omega, f_258 (fun _ _ => ⟨by omega, by unfold InI; omega, ?_⟩)⟩
          rw [Int.toNat_natCast] at e3 ⊢
          refine ih2 (b + 1) _ (by omega) (by omega) (upB _ _ _ _ (Or.inr rfl) hF') (fun i hi => by rw [upm_ne (by omega)]; exact g1 i hi) (fun i hi => by rw [upm_ne (by omega)]; exact g2 i hi) ?_ (by rw [upm_eq]; omega)
          rw [upm_eq, st, if_neg (by omega), e3, g3, ew6]
      refine ⟨by unfold InI; omega, by omega, inner 9 0 _ (by omega) (by omega) (upB _ _ _ _ (Or.inr rfl) hF) (fun i hi => by rw [upm_ne (by omega)]; exact h1 i hi) (fun i hi => by rw [upm_ne (by omega)]; exact h2 i hi) ?_ (by rw [upm_eq]; omega)⟩
      rw [upm_eq]
      rfl
  -- the least times
  have l4 : ∀ (N : Nat) (o : Nat) (m : MM), (o : Int) ≤ mem 143 1 → (mem 143 1 - o).toNat < N → FrB mem m → (∀ i : Nat, i < o → m 171 i = soR mem i) → Wx (Ex S (n + 1)) S M_360 (fun r m => r = none ∧ K m) 4 [some (.inr 143), some (.inl d), some (.inl (mxW (fun i => soR mem i + latF mem i) o)), some (.inl (o : Int)), none] [] m := by
    intro N
    induction N with
    | zero => intros; omega
    | succ N ih =>
      intro o m ho hN hF h1
      have e1' : m 143 1 = mem 143 1 := hF _ _ (by omega) (by omega)
      have eb := enB o ho
      refine w_360_4 (Ex.mono S (n + 1)) (fun v1 e1 _ => ⟨fun q => ?_, fun q => ⟨by omega, ?_⟩⟩)
      · have w := l89 9 0 m (by omega) (by omega) hF (fun i hi => h1 i (by omega)) (fun i hi => by omega)
        unfold enR at w
        rw [show (mem 143 1).toNat = o by omega] at w
        exact w
      rw [Int.toNat_natCast]
      have inner : ∀ (N' : Nat) (a : Nat) (m' : MM), (a : Int) ≤ mem 143 1 → (mem 143 1 - a).toNat < N' → FrB mem m' → (∀ i : Nat, i < o → m' 171 i = soR mem i) → m' 171 o = mxW (fun a => WM mem 158 a o) a → Wx (Ex S (n + 1)) S M_360 (fun r m => r = none ∧ K m) 22 [some (.inr 143), some (.inl d), some (.inl (mxW (fun i => soR mem i + latF mem i) o)), some (.inl (o : Int)), some (.inl (a : Int))] [] m' := by
        intro N'
        induction N' with
        | zero => intros; omega
        | succ N' ih2 =>
          intro a m' ha hN' hF' s1 s2
          have e2' : m' 143 1 = mem 143 1 := hF' _ _ (by omega) (by omega)
          have sb := soB o (by omega) a ha
          refine w_360_22 (Ex.mono S (n + 1)) (fun v1 e1 _ => ⟨fun q2 => ⟨by omega, fun v2 e2 _ => f_246 (opsF m' hF') ⟨by omega, by omega⟩ (fun _ => ?_)⟩, fun q2 => ⟨by omega, fun v7 e7 _ => ⟨by unfold InI; omega, by unfold InI; omega, by omega, fun v8 e8 _ => f_257 (fun _ _ => ⟨by omega, by unfold InI; omega, ?_⟩)⟩⟩⟩)
          · rw [Int.toNat_natCast] at e2 ⊢
            rw [latF_ m' hF']
            have hl := hO.lat (o := o) (by omega)
            have ea : m' 171 o = soR mem o := by
              rw [s2, show a = (mem 143 1).toNat by omega]; rfl
            refine ⟨by unfold InI; omega, f_257 (fun _ _ => ⟨by unfold InI; omega, ?_⟩)⟩
            have w := ih (o + 1) m' (by omega) (by omega) hF' (fun i hi => by
              by_cases z : i = o
              · subst z; exact ea
              · exact s1 i (by omega))
            have st : mxW (fun i => soR mem i + latF mem i) (o + 1) = max (mxW (fun i => soR mem i + latF mem i) o) (soR mem o + latF mem o) := rfl
            rw [st] at w
            rw [e2, ea]
            exact w
          · rw [Int.toNat_natCast] at e7 ⊢
            have ew := wmE m' hF' _ _ v8 (by omega) (by omega) e8
            rw [Int.toNat_natCast, Int.toNat_natCast] at ew
            refine ih2 (a + 1) _ (by omega) (by omega) (upB _ _ _ _ (Or.inl rfl) hF') (fun i hi => by rw [upm_ne (by omega)]; exact s1 i hi) ?_
            rw [upm_eq, e7, s2, ew]
            rfl
      exact inner 9 0 _ (by omega) (by omega) (upB _ _ _ _ (Or.inl rfl) hF) (fun i hi => by rw [upm_ne (by omega)]; exact h1 i hi) (by rw [upm_eq]; rfl)
  exact CW.of (k := 3) mt_360 rfl rfl (w_360_0 (Ex.mono S (n + 1)) (l4 9 0 mem (by omega) (by omega) (fun _ _ _ _ => rfl) (fun i hi => by omega)))
theorem f_359e {a x : Int} (h : RefOK mem) (H1 : ¬ (0 ≤ a ∧ a < mem 143 1) → ∀ m', RefOK m' → FrQ mem m' → m' 143 0 = 1 → K 0 m') (H2 : (0 ≤ a ∧ a < mem 143 1) → ¬ (1 ≤ d ∧ d ≤ 12) → ∀ m', RefOK m' → FrQ mem m' → m' 143 0 = 2 → K 0 m') (H3 : (0 ≤ a ∧ a < mem 143 1) → (1 ≤ d ∧ d ≤ 12) → ∀ m', RefOK m' → FrQ mem m' → m' 143 0 = 3 → NoM mem m' d → K 0 m') (H : (0 ≤ a ∧ a < mem 143 1) → (1 ≤ d ∧ d ≤ 12) → SoundM mem → ∀ r z m', RefOK m' → FrQ mem m' → m' 143 0 = 0 → NdRd mem m' r → r ≤ d → WyA m' d → z = (if x = 0 then soR m' a.toNat else ltR m' a.toNat) → K z m') : CWI (Ex S (n + 5)) 359 [.inr 143, .inl a, .inl d, .inl x] mem K := by
  have h8 := h.ops.1
  refine CW.of (k := 0) mt_359 rfl rfl (w_359_0 (Ex.mono S (n + 4)) (f_235e h8 (fun a1 a2 _ => ⟨fun _ => f_253e (fun d1 d2 _ => ⟨fun _ => f_254q h (fun m' h1 h2 hn _ => ⟨fun z => absurd z (by decide), fun _ _ => ⟨_, rfl, H3 ⟨a1, a2⟩ ⟨d1, d2⟩ _ (h1.th' (by omega)) (h2.tr FrQ.th) upm_eq hn.th⟩⟩) (fun m' h1 h2 hs ⟨r, hw, hr⟩ _ => ⟨fun _ => ?_, fun z => absurd rfl z⟩), fun z => absurd (by decide) z⟩) (fun nd _ => ⟨fun z => absurd rfl z, fun _ _ => ⟨_, rfl, H2 ⟨a1, a2⟩ nd _ (h.th' (by omega)) FrQ.th upm_eq⟩⟩), fun z => absurd (by decide) z⟩) (fun na _ => ⟨fun z => absurd rfl z, fun _ _ => ⟨_, rfl, H1 na _ (h.th' (by omega)) FrQ.th upm_eq⟩⟩)))
  refine f_256q (mem := mem) ⟨d1, d2⟩ (h1.th' (z := 0) (by omega)) (show NdRd mem (upm m' 143 0 0) r from hw) hr (fun m2 g1 k2 w2 hW => ?_)
  have hq2 : FrQ mem m2 := (h2.tr FrQ.th).tr k2.w.f.q
  have e1 : m2 143 1 = mem 143 1 := hq2 143 1 (by omega)
  have hN2 := w2.1
  have hU : NoUp (EdQ (rq m2) (m2 143 12).toNat d) := by
    have c := w2.2.2.2.1
    rw [NdE.q g1.lo hN2.2.1.1] at c
    exact NoUp.mono (by have := hN2.1; omega) hN2.v c hr
  have hE := hN2.fwh (by omega) hU
  refine f_360e g1.ops (fun u w hu hw => (hW u w hu hw).rg hE) (fun m3 k3 k4 => ?_)
  obtain ⟨q1, q2⟩ := k3.rest g1
  have w3 : NdRd mem m3 r := by
    obtain ⟨y1, y2, y3, y4⟩ := w2
    have er : rq m3 = rq m2 := funext fun i => by
      unfold rq
      rw [k3 154 i (by omega) (by omega), k3 155 i (by omega) (by omega), k3 156 i (by omega) (by omega), k3 157 i (by omega) (by omega)]
    have eE : NdE m3 = NdE m2 := funext fun d => by
      funext u v x
      unfold NdE
      rw [k3 143 12 (by omega) (by omega), k3 143 18 (by omega) (by omega)]
      simp only [k3 154 _ (by omega) (by omega), k3 155 _ (by omega) (by omega), k3 156 _ (by omega) (by omega), k3 157 _ (by omega) (by omega)]
    refine ⟨⟨by rw [k3 143 1 (by omega) (by omega)]; exact y1.1, by rw [k3 143 12 (by omega) (by omega)]; exact y1.2.1, fun j hj => ?_⟩, by rw [er, k3 143 12 (by omega) (by omega)]; exact y2, y3, by rw [eE]; exact y4⟩
    rw [k3 143 12 (by omega) (by omega)] at hj
    have p := y1.2.2 j hj
    rw [k3 143 1 (by omega) (by omega), k3 154 j (by omega) (by omega), k3 155 j (by omega) (by omega), k3 156 j (by omega) (by omega), k3 157 j (by omega) (by omega)]
    exact p
  have eW : ∀ u v, WM m3 158 u v = WM m2 158 u v := fun u v => by
    unfold WM
    rw [k3 158 _ (by omega) (by omega)]
  have hW3 : WyA m3 d := fun u v hu hv => by
    rw [k3 143 1 (by omega) (by omega)] at hu hv
    have er : rq m3 = rq m2 := funext fun i => by
      unfold rq
      rw [k3 154 i (by omega) (by omega), k3 155 i (by omega) (by omega), k3 156 i (by omega) (by omega), k3 157 i (by omega) (by omega)]
    rw [er, k3 143 12 (by omega) (by omega), eW]
    exact hW u v hu hv
  have eso : ∀ o, soR m3 o = soR m2 o := fun o => by
    unfold soR
    rw [k3 143 1 (by omega) (by omega)]
    exact mxW_eq _ (fun i _ => Or.inl (eW i o))
  have ela : ∀ o, latF m3 o = latF m2 o := fun o => by
    unfold latF
    rw [k3 144 o (by omega) (by omega), k3 151 _ (by omega) (by omega)]
  have elt : ∀ o, ltR m3 o = ltR m2 o := fun o => by
    have een : enR m3 = enR m2 := by
      unfold enR
      rw [k3 143 1 (by omega) (by omega)]
      exact mxW_eq _ (fun i _ => Or.inl (by show soR m3 i + latF m3 i = soR m2 i + latF m2 i; rw [eso, ela]))
    unfold ltR
    rw [k3 143 1 (by omega) (by omega), een, ela]
    refine ltN_eq _ (fun i _ => ⟨?_, ela i⟩)
    show (WM m3 158 o i = -1000 ∧ WM m2 158 o i = -1000) ∨ _
    rw [eW]
    by_cases z : WM m2 158 o i = -1000
    · exact Or.inl ⟨z, z⟩
    · exact Or.inr ⟨z, z, rfl⟩
  have th : m3 143 0 = 0 := (k3 143 0 (by omega) (by omega)).trans ((k2 143 0 (by omega)).trans upm_eq)
  have fin := fun z => H ⟨a1, a2⟩ ⟨d1, d2⟩ hs r z m3 q1 (hq2.tr q2) th w3 hr hW3
  have ka := k4 a.toNat (by omega)
  refine ⟨fun q => ⟨by omega, fun v e _ _ => ⟨_, rfl, fin v ?_⟩⟩, fun q => ⟨by omega, fun v e _ _ => ⟨_, rfl, fin v ?_⟩⟩⟩
  · rw [if_pos q, eso, e]; exact ka.1
  · rw [if_neg q, elt, e]; exact ka.2
end RFW
end
section
/-! slots of the reference, exactly -/
def RPb (m : MM) (d : Int) : Prb := ((m 143 1).toNat, rUn m, rBu m, fun u => m 153 u, d, EdQ (rq m) (m 143 12).toNat d)
theorem RPb.cg {m m' : MM} {d : Int} (h : ∀ A i, (A = 143 ∧ ¬ i = 0) ∨ (144 ≤ A ∧ A ≤ 157) → m' A i = m A i) : RPb m' d = RPb m d := by
  have e1 : rUn m' = rUn m := funext fun o => by
    unfold rUn
    rw [h 144 o (by omega), h 150 _ (by omega)]
  have e2 : rBu m' = rBu m := funext fun o => by
    unfold rBu
    rw [h 144 o (by omega), h 152 _ (by omega)]
  have e3 : (fun u => m' 153 u) = fun u => m 153 u := funext fun u => h 153 u (by omega)
  have e4 : rq m' = rq m := funext fun i => by
    unfold rq
    rw [h 154 i (by omega), h 155 i (by omega), h 156 i (by omega), h 157 i (by omega)]
  unfold RPb
  rw [e1, e2, e3, e4, h 143 1 (by omega), h 143 12 (by omega)]
def WaT (W : Nat → Nat → Int) (nn : Int) (s : Nat → Int) (d : Int) (k : Nat) (t : Nat → Int) : Prop := ∀ a b, a < k → b < k → ¬ W a b = nn → s a + d * t a + W a b ≤ s b + d * t b
theorem WaT.cg {W : Nat → Nat → Int} {nn : Int} {s s' : Nat → Int} {d : Int} {k : Nat} {t : Nat → Int} (h : WaT W nn s d k t) (e : ∀ o, o < k → s o = s' o) : WaT W nn s' d k t := fun a b ha hb w => by
  rw [← e a ha, ← e b hb]; exact h a b ha hb w
def HgW (W : Nat → Nat → Int) (nn : Int) (k : Nat) : Prop := ∃ φ : Nat → Int, (∀ b, 0 ≤ φ b ∧ φ b ≤ 42) ∧ ∀ a b, a < k → b < k → ¬ W a b = nn → φ a + W a b ≤ φ b
def WyW (m : MM) (d : Int) : Prop := (∀ a b, a < (m 143 1).toNat → b < (m 143 1).toNat → -5000 ≤ WM m 158 a b ∧ WM m 158 a b ≤ 5000) ∧ HgW (WM m 158) (-1000) (m 143 1).toNat ∧ (∀ a b x, (RPb m d).E a b x → (a < (m 143 1).toNat ∧ b < (m 143 1).toNat) ∧ ¬ WM m 158 a b = -1000 ∧ x ≤ WM m 158 a b) ∧ ∀ s t, TuP (RPb m d) s t → WaT (WM m 158) (-1000) s d (m 143 1).toNat t
theorem us_cg {p : Prb} {s s' : Nat → Int} {u k : Int} {j : Nat} (h : ∀ o, o < j → s o = s' o) : p.us s u k j = p.us s' u k j := usM_cg j (fun o ho _ => ⟨Iff.rfl, fun _ => h o ho⟩)
section RSL
variable {S : Nat × (Nat → Int32)} {n : Nat} {mem : MM} {d : Int}
def UsI (p : Prb) (m : MM) (j : Nat) : Prop := ∀ u k : Nat, u < 3 → k < 12 → m 159 (12 * u + k) = p.us (m 160) u k j
def FitI (p : Prb) (m : MM) (j : Nat) : Prop := ∀ u k : Int, 0 ≤ u → u < 3 → 0 ≤ k → k < p.d → p.us (m 160) u k j ≤ p.ct u.toNat
def LexI (p : Prb) (m : MM) (j : Nat) : Prop := ∀ v, Fsb p v → ∀ i, i < j → (∀ l, l < i → v l = m 160 l) → m 160 i ≤ v i
theorem UsI.cg {p : Prb} {m m' : MM} {j : Nat} (h : UsI p m j) (e1 : ∀ i, m' 159 i = m 159 i) (e2 : ∀ o, o < j → m' 160 o = m 160 o) : UsI p m' j := fun u k hu hk => by
  rw [e1, h u k hu hk]
  exact (us_cg e2).symm
theorem FitI.cg {p : Prb} {m m' : MM} {j : Nat} (h : FitI p m j) (e2 : ∀ o, o < j → m' 160 o = m 160 o) : FitI p m' j := fun u k a b c e => by
  rw [us_cg e2]; exact h u k a b c e
theorem LexI.cg {p : Prb} {m m' : MM} {j : Nat} (h : LexI p m j) (e2 : ∀ o, o < j → m' 160 o = m 160 o) : LexI p m' j := fun v hv i hi hl => by
  rw [e2 i hi]
  exact h v hv i hi (fun l h2 => by rw [← e2 l (by omega)]; exact hl l h2)
end RSL
end
section
/-! findsSlots, laysTimes, fitsBy of the reference, exactly -/
section RFT
variable {S : Nat × (Nat → Int32)} {n : Nat} {mem : MM} {d : Int}
theorem WyW.cg {m m' : MM} (h : WyW m d) (e : ∀ A i, (A = 143 ∧ ¬ i = 0) ∨ (144 ≤ A ∧ A ≤ 158) → m' A i = m A i) : WyW m' d := by
  have e1 : RPb m' d = RPb m d := RPb.cg (fun A i q => e A i (by omega))
  have e2 : WM m' 158 = WM m 158 := funext fun a => funext fun b => e 158 _ (by omega)
  unfold WyW
  rw [e1, e2, e 143 1 (by omega)]
  exact h
end RFT
end
section
/-! a loop turn by turn: the model, and sums that go round told exactly -/
def wr (t : Int) : Int := (Int32.ofInt t).toInt
abbrev Acc : Type := (Nat → Int) × (Nat → Int) × (Nat → Int) × (Nat → Int) × (Nat → Nat → Int) × (Nat → Nat → Int)
abbrev PSt : Type := (Nat → Nat → Int) × (Nat → Nat → Int)
def lkM (A : Acc) (cm : Nat → Nat → Int) (o k : Nat) (t : Int) : Int := if A.2.2.2.2.1 o k = -1 then t else if A.2.2.2.2.1 o k = -2 then A.2.2.2.2.2 o k else if t - A.2.2.2.2.2 o k < 0 then A.2.2.2.1 (A.2.2.2.2.1 o k).toNat else cm (A.2.2.2.2.1 o k).toNat (t - A.2.2.2.2.2 o k).toNat
def opM (k a b : Int) : Int := if k = 0 then wr (a + b) else if k = 1 then wr (a - b) else if k = 2 then wr (a * b) else min a b
def acM (A : Acc) (s : PSt) (o t : Nat) : Int := if A.1 o = 4 then s.1 (A.2.1 o).toNat (t + A.2.2.1 o).toNat else if A.1 o = 5 then lkM A s.2 o 0 t else opM (A.1 o) (lkM A s.2 o 0 t) (lkM A s.2 o 1 t)
def up2 (f : Nat → Nat → Int) (a b : Nat) (v : Int) : Nat → Nat → Int := fun i j => if i = a ∧ j = b then v else f i j
def stM (A : Acc) (s : PSt) (o t : Nat) : PSt := (if A.1 o = 5 then up2 s.1 (A.2.1 o).toNat (t + A.2.2.1 o).toNat (acM A s o t) else s.1, up2 s.2 o t (acM A s o t))
def opsM (A : Acc) (s : PSt) (t : Nat) : Nat → PSt
  | 0 => s
  | o + 1 => stM A (opsM A s t o) o t
def trM (A : Acc) (N : Nat) : Nat → PSt
  | 0 => (fun r p => if r = 0 then 3 * (p : Int) + 1 else 7 * (p : Int) - 5, fun _ _ => 0)
  | t + 1 => opsM A (trM A N t) t N
def dn (N t o o' t' : Nat) : Prop := o' < N ∧ (t' < t ∨ (t' = t ∧ o' < o))
theorem lkM.cg {A B : Acc} {cm : Nat → Nat → Int} {o k : Nat} {t : Int} (h1 : A.2.2.2.2.1 o k = B.2.2.2.2.1 o k) (h2 : A.2.2.2.2.2 o k = B.2.2.2.2.2 o k) (h3 : 0 ≤ A.2.2.2.2.1 o k → A.2.2.2.1 (A.2.2.2.2.1 o k).toNat = B.2.2.2.1 (A.2.2.2.2.1 o k).toNat) (h4 : -2 ≤ A.2.2.2.2.1 o k) : lkM A cm o k t = lkM B cm o k t := by
  unfold lkM
  rw [← h1, ← h2]
  by_cases a : A.2.2.2.2.1 o k = -1
  · rw [if_pos a, if_pos a]
  · rw [if_neg a, if_neg a]
    by_cases b : A.2.2.2.2.1 o k = -2
    · rw [if_pos b, if_pos b]
    · rw [if_neg b, if_neg b, h3 (by omega)]
def AgO (A B : Acc) (o : Nat) : Prop := A.1 o = B.1 o ∧ (A.1 o = 4 ∨ A.1 o = 5 → A.2.1 o = B.2.1 o ∧ A.2.2.1 o = B.2.2.1 o) ∧ ∀ k, k < 2 → A.2.2.2.2.1 o k = B.2.2.2.2.1 o k ∧ A.2.2.2.2.2 o k = B.2.2.2.2.2 o k ∧ (0 ≤ A.2.2.2.2.1 o k → A.2.2.2.1 (A.2.2.2.2.1 o k).toNat = B.2.2.2.1 (A.2.2.2.2.1 o k).toNat) ∧ -2 ≤ A.2.2.2.2.1 o k
theorem AgO.lk {A B : Acc} {o : Nat} (h : AgO A B o) {cm : Nat → Nat → Int} {k : Nat} (hk : k < 2) {t : Int} : lkM A cm o k t = lkM B cm o k t := by
  have q := h.2.2 k hk
  exact lkM.cg q.1 q.2.1 q.2.2.1 q.2.2.2
theorem AgO.ac {A B : Acc} {o : Nat} (h : AgO A B o) {s : PSt} {t : Nat} : acM A s o t = acM B s o t := by
  unfold acM
  rw [← h.1, h.lk (k := 0) (by omega), h.lk (k := 1) (by omega)]
  by_cases a : A.1 o = 4
  · rw [if_pos a, if_pos a, (h.2.1 (Or.inl a)).1, (h.2.1 (Or.inl a)).2]
  · rw [if_neg a, if_neg a]
theorem AgO.st {A B : Acc} {o : Nat} (h : AgO A B o) {s : PSt} {t : Nat} : stM A s o t = stM B s o t := by
  unfold stM
  rw [h.ac, ← h.1]
  by_cases a : A.1 o = 5
  · rw [if_pos a, if_pos a, (h.2.1 (Or.inr a)).1, (h.2.1 (Or.inr a)).2]
  · rw [if_neg a, if_neg a]
theorem opsM.cg {A B : Acc} {s : PSt} {t : Nat} : ∀ n, (∀ o, o < n → AgO A B o) → opsM A s t n = opsM B s t n
  | 0, _ => rfl
  | n + 1, h => by
    show stM A (opsM A s t n) n t = stM B (opsM B s t n) n t
    rw [opsM.cg n (fun o ho => h o (by omega)), (h n (by omega)).st]
theorem trM.cg {A B : Acc} {N : Nat} (h : ∀ o, o < N → AgO A B o) : ∀ t, trM A N t = trM B N t
  | 0 => rfl
  | t + 1 => by
    show opsM A (trM A N t) t N = opsM B (trM B N t) t N
    rw [trM.cg h t, opsM.cg N h]
def acsC (m : MM) : Acc := (m 2, rowB m, plcB m, m 4, fun o k => m 3 (4 * o + 2 * k), fun o k => m 3 (4 * o + 2 * k + 1))
def acsR (m : MM) : Acc := (m 144, rowF m, plcF m, m 149, fun o k => srcA m o k, fun o k => srcB m o k)
def SrcK (A : Acc) (N : Nat) (o k : Nat) : Prop := A.2.2.2.2.1 o k < 0 ∨ (A.2.2.2.2.1 o k < N ∧ (0 < A.2.2.2.2.2 o k ∨ A.2.2.2.2.1 o k < o) ∧ 0 ≤ A.2.2.2.2.2 o k)
theorem lkM.dnq {A : Acc} {N o k t : Nat} {cm cm2 : Nat → Nat → Int} (hs : SrcK A N o k) (h2 : -2 ≤ A.2.2.2.2.1 o k) (ho : o < N) (h : ∀ o' t', dn N t o o' t' → cm o' t' = cm2 o' t') : lkM A cm o k t = lkM A cm2 o k t := by
  unfold lkM SrcK at *
  by_cases a : A.2.2.2.2.1 o k = -1
  · rw [if_pos a, if_pos a]
  · rw [if_neg a, if_neg a]
    by_cases b : A.2.2.2.2.1 o k = -2
    · rw [if_pos b, if_pos b]
    · rw [if_neg b, if_neg b]
      by_cases c : (t : Int) - A.2.2.2.2.2 o k < 0
      · rw [if_pos c, if_pos c]
      · rw [if_neg c, if_neg c, h]
        unfold dn
        omega
def PlC (m : MM) (s : PSt) (N t o : Nat) : Prop := (∀ r p : Nat, r < 2 → p < 64 → m (136 + r) p = s.1 r p) ∧ ∀ o' t' : Nat, dn N t o o' t' → m 138 (40 * o' + t') = s.2 o' t'
def PlR (m : MM) (s : PSt) (N t o : Nat) : Prop := (∀ r p : Nat, r < 2 → p < 64 → m 165 (64 * r + p) = s.1 r p) ∧ ∀ o' t' : Nat, dn N t o o' t' → m 167 (41 * o' + t') = s.2 o' t'
def acC (m : MM) (o t : Nat) : Int := acM (acsC m) (fun r p => m (136 + r) p, fun o t => m 138 (40 * o + t)) o t
def acR (m : MM) (o t : Nat) : Int := acM (acsR m) (fun r p => m 165 (64 * r + p), fun o t => m 167 (41 * o + t)) o t
theorem acM.eq {A : Acc} {s s2 : PSt} {N t o : Nat} (ho : o < N) (hs : ¬ A.1 o = 4 → SrcK A N o 0 ∧ (¬ A.1 o = 5 → SrcK A N o 1)) (h2 : ¬ A.1 o = 4 → -2 ≤ A.2.2.2.2.1 o 0 ∧ (¬ A.1 o = 5 → -2 ≤ A.2.2.2.2.1 o 1)) (hr : A.1 o = 4 → s.1 (A.2.1 o).toNat (t + A.2.2.1 o).toNat = s2.1 (A.2.1 o).toNat (t + A.2.2.1 o).toNat) (h : ∀ o' t', dn N t o o' t' → s.2 o' t' = s2.2 o' t') : acM A s o t = acM A s2 o t := by
  unfold acM
  by_cases a : A.1 o = 4
  · rw [if_pos a, if_pos a, hr a]
  · rw [if_neg a, if_neg a]
    have q := hs a
    rw [lkM.dnq q.1 (h2 a).1 ho h]
    by_cases b : A.1 o = 5
    · rw [if_pos b, if_pos b]
    · rw [if_neg b, if_neg b, lkM.dnq (q.2 b) ((h2 a).2 b) ho h]
end
section
/-! laid by wip/hand/tg.py: a loop turn by turn -/
theorem dn_next {N t o o' t' : Nat} (h : dn N t (o + 1) o' t') : dn N t o o' t' ∨ (o' = o ∧ t' = t) := by unfold dn at *; omega
theorem acsC_fr {m m' : MM} (e : ∀ A i, 0 < A → A < 9 → m' A i = m A i) : acsC m' = acsC m := by
  have h := bd_fr (q := 0) (fun A i a b _ => e A i a b)
  unfold acsC
  rw [h.2.1, h.2.2.1, show m' 2 = m 2 from funext fun i => e 2 i (by omega) (by omega), show m' 4 = m 4 from funext fun i => e 4 i (by omega) (by omega), show m' 3 = m 3 from funext fun i => e 3 i (by omega) (by omega)]
theorem PlC.ac {m m0 : MM} {N t o : Nat} {s : PSt} (h : PlC m s N t o) (hB : BodyOK m0) (hs : SndX m0) (e : ∀ A i, 0 < A → A < 9 → m A i = m0 A i) (hN : N = (m0 1 0).toNat) (ho : o < N) (ht : t < 40) : acC m o t = acM (acsC m0) s o t := by
  have h8 := hB.1
  have hop := hB.2.1 o (by omega)
  unfold acC
  rw [acsC_fr e]
  unfold BOp at hop
  have sk : ∀ k : Nat, (k : Int) < csN m0 o → SrcK (acsC m0) N o k := fun k hk => by
    have q := hs o k (by omega) hk
    have w := hB.src (o := o) (k := k) (by omega) hk
    unfold SrcC at q
    unfold srcOK at w
    unfold SrcK acsC
    simp only
    omega
  refine acM.eq ho (fun k4 => ⟨sk 0 ?_, fun k5 => sk 1 ?_⟩) (fun k4 => ⟨?_, fun k5 => ?_⟩) (fun k4 => ?_) (fun o' t' hd => h.2 o' t' hd)
  · have k4 : ¬ m0 2 o = 4 := k4
    unfold csN; rw [if_neg k4]; split <;> omega
  · have k4 : ¬ m0 2 o = 4 := k4
    have k5 : ¬ m0 2 o = 5 := k5
    unfold csN; rw [if_neg k4, if_neg k5]; omega
  · have k4 : ¬ m0 2 o = 4 := k4
    show -2 ≤ m0 3 (4 * o)
    unfold srcOK at hop
    omega
  · have k4 : ¬ m0 2 o = 4 := k4
    have k5 : ¬ m0 2 o = 5 := k5
    show -2 ≤ m0 3 (4 * o + 2)
    unfold srcOK at hop
    omega
  · have k4 : m0 2 o = 4 := k4
    have w := hop.2.2.1 k4
    have er : rowB m0 o = m0 3 (4 * o) := by unfold rowB; rw [if_neg (by omega)]
    have ep : plcB m0 o = m0 3 (4 * o + 1) := by unfold plcB; rw [if_neg (by omega)]
    exact h.1 (rowB m0 o).toNat ((t : Int) + plcB m0 o).toNat (by omega) (by omega)
theorem PlC.step {m m0 : MM} {N t o : Nat} {s : PSt} (h : PlC m s N t o) (hB : BodyOK m0) (hs : SndX m0) (e : ∀ A i, 0 < A → A < 9 → m A i = m0 A i) (hN : N = (m0 1 0).toNat) (ho : o < N) (ht : t < 40) {m2 : MM} (h2 : m2 = upm (if m 2 o = 5 then upm m (136 + (rowB m o).toNat) ((t : Int) + plcB m o).toNat (acC m o t) else m) 138 (40 * o + t) (acC m o t)) : PlC m2 (stM (acsC m0) s o t) N t (o + 1) := by
  have h8 := hB.1
  have hop := hB.2.1 o (by omega)
  have ea := h.ac hB hs e hN ho ht
  have ek := e 2 o (by omega) (by omega)
  have eb := bd_fr (q := 0) (fun A i a b _ => e A i a b)
  unfold BOp at hop
  rw [ea, ek, eb.2.1, eb.2.2.1] at h2
  generalize acM (acsC m0) s o t = v at h2 ea ⊢
  have hv : stM (acsC m0) s o t = (if m0 2 o = 5 then up2 s.1 (rowB m0 o).toNat ((t : Int) + plcB m0 o).toNat v else s.1, up2 s.2 o t v) := by
    have ea2 := h.ac hB hs e hN ho ht
    unfold stM
    rw [← ea2, ea]
    rfl
  rw [hv]
  refine ⟨fun r p hr hp => ?_, fun o' t' hd => ?_⟩
  · rw [h2, upm_ne (by omega)]
    by_cases k5 : m0 2 o = 5
    · rw [if_pos k5]
      show _ = (if m0 2 o = 5 then up2 s.1 (rowB m0 o).toNat ((t : Int) + plcB m0 o).toNat v else s.1) r p
      rw [if_pos k5]
      unfold up2
      by_cases w : r = (rowB m0 o).toNat ∧ p = ((t : Int) + plcB m0 o).toNat
      · rw [if_pos w, w.1, w.2]; exact upm_eq
      · rw [if_neg w, upm_ne (by omega)]; exact h.1 r p hr hp
    · rw [if_neg k5]
      show _ = (if m0 2 o = 5 then up2 s.1 (rowB m0 o).toNat ((t : Int) + plcB m0 o).toNat v else s.1) r p
      rw [if_neg k5]; exact h.1 r p hr hp
  · rw [h2]
    show _ = up2 s.2 o t v o' t'
    unfold up2
    have hd' := hd
    unfold dn at hd'
    by_cases w : o' = o ∧ t' = t
    · rw [if_pos w, w.1, w.2]; exact upm_eq
    · rw [if_neg w, upm_ne (by omega)]
      have hd2 := (dn_next hd).resolve_right w
      by_cases k5 : m0 2 o = 5
      · rw [if_pos k5]
        have q := hop.2.2.2 k5
        have er : rowB m0 o = m0 3 (4 * o + 2) := by unfold rowB; rw [if_pos k5]
        rw [upm_ne (by omega)]; exact h.2 o' t' hd2
      · rw [if_neg k5]; exact h.2 o' t' hd2
theorem RefOK.rw {m : MM} (h : RefOK m) {o : Nat} (ho : o < 8) (hk : m 144 o = 4 ∨ m 144 o = 5) : (0 ≤ rowF m o ∧ rowF m o ≤ 1) ∧ 0 ≤ plcF m o ∧ plcF m o ≤ 7 := by
  have q := h.ops.2.1 o ho
  unfold OpOK at q
  unfold rowF plcF
  rcases hk with k | k
  · have := q.2.2.2.1 k
    rw [if_pos k, if_pos k]; omega
  · have := q.2.2.2.2 k
    rw [if_neg (by omega), if_neg (by omega)]; omega
theorem acsR_fr {m m' : MM} (e : ∀ A i, 143 < A → A < 154 → m' A i = m A i) : acsR m' = acsR m := by
  unfold acsR rowF plcF srcA srcB
  rw [show m' 144 = m 144 from funext fun i => e 144 i (by omega) (by omega), show m' 145 = m 145 from funext fun i => e 145 i (by omega) (by omega), show m' 146 = m 146 from funext fun i => e 146 i (by omega) (by omega), show m' 147 = m 147 from funext fun i => e 147 i (by omega) (by omega), show m' 148 = m 148 from funext fun i => e 148 i (by omega) (by omega), show m' 149 = m 149 from funext fun i => e 149 i (by omega) (by omega)]
theorem PlR.ac {m m0 : MM} {N t o : Nat} {s : PSt} (h : PlR m s N t o) (hr : RefOK m0) (hs : SoundM m0) (e : ∀ A i, 143 < A → A < 154 → m A i = m0 A i) (hN : N = (m0 143 1).toNat) (ho : o < N) (ht : t < 40) : acR m o t = acM (acsR m0) s o t := by
  have h8 := hr.ops.1
  have hop := hr.ops.2.1 o (by omega)
  have hab := hr.ab o (by omega)
  unfold acR
  rw [acsR_fr e]
  unfold OpOK at hop
  have sk : ∀ k : Nat, (k : Int) < srcN m0 o → SrcK (acsR m0) N o k := fun k hk => by
    have q := hs o (by omega) k (by omega) hk
    have w := hr.ops.src (o := o) (by omega) (k := (k : Int)) (by omega) hk
    unfold SrcS at q
    unfold srcOK at w
    unfold SrcK acsR
    simp only
    omega
  refine acM.eq ho (fun k4 => ⟨sk 0 ?_, fun k5 => sk 1 ?_⟩) (fun _ => ⟨hab.1.1, fun _ => hab.2.1⟩) (fun k4 => ?_) (fun o' t' hd => h.2 o' t' hd)
  · have k4 : ¬ m0 144 o = 4 := k4
    unfold srcN; rw [if_neg k4]; split <;> omega
  · have k4 : ¬ m0 144 o = 4 := k4
    have k5 : ¬ m0 144 o = 5 := k5
    unfold srcN; rw [if_neg k4, if_neg k5]; omega
  · have k4 : m0 144 o = 4 := k4
    have w := hr.rw (o := o) (by omega) (Or.inl k4)
    exact h.1 (rowF m0 o).toNat ((t : Int) + plcF m0 o).toNat (by omega) (by omega)
theorem PlR.step {m m0 : MM} {N t o : Nat} {s : PSt} (h : PlR m s N t o) (hr : RefOK m0) (hs : SoundM m0) (e : ∀ A i, 143 < A → A < 154 → m A i = m0 A i) (hN : N = (m0 143 1).toNat) (ho : o < N) (ht : t < 40) {m2 : MM} (h2 : m2 = if m 144 o = 5 then upm (upm m 167 (41 * o + t) (acR m o t)) 165 (64 * (rowF m o).toNat + ((t : Int) + plcF m o).toNat) (acR m o t) else upm m 167 (41 * o + t) (acR m o t)) : PlR m2 (stM (acsR m0) s o t) N t (o + 1) := by
  have h8 := hr.ops.1
  have ea := h.ac hr hs e hN ho ht
  have ek := e 144 o (by omega) (by omega)
  have eb : rowF m o = rowF m0 o ∧ plcF m o = plcF m0 o := by
    have q := acsR_fr e
    exact ⟨congrFun (congrArg (fun A : Acc => A.2.1) q) o, congrFun (congrArg (fun A : Acc => A.2.2.1) q) o⟩
  rw [ea, ek, eb.1, eb.2] at h2
  generalize hvv : acM (acsR m0) s o t = v at h2 ea
  have hv : stM (acsR m0) s o t = (if m0 144 o = 5 then up2 s.1 (rowF m0 o).toNat ((t : Int) + plcF m0 o).toNat v else s.1, up2 s.2 o t v) := by
    unfold stM
    rw [hvv]
    rfl
  rw [hv]
  have hw : m0 144 o = 5 → (0 ≤ rowF m0 o ∧ rowF m0 o ≤ 1) ∧ 0 ≤ plcF m0 o ∧ plcF m0 o ≤ 7 := fun k5 => hr.rw (o := o) (by omega) (Or.inr k5)
  refine ⟨fun r p hr2 hp => ?_, fun o' t' hd => ?_⟩
  · by_cases k5 : m0 144 o = 5
    · have q := hw k5
      rw [h2, if_pos k5]
      show _ = (if m0 144 o = 5 then up2 s.1 (rowF m0 o).toNat ((t : Int) + plcF m0 o).toNat v else s.1) r p
      rw [if_pos k5]
      unfold up2
      by_cases w : r = (rowF m0 o).toNat ∧ p = ((t : Int) + plcF m0 o).toNat
      · rw [if_pos w, w.1, w.2]; exact upm_eq
      · rw [if_neg w, upm_ne (by omega), upm_ne (by omega)]; exact h.1 r p hr2 hp
    · rw [h2, if_neg k5, upm_ne (by omega)]
      show _ = (if m0 144 o = 5 then up2 s.1 (rowF m0 o).toNat ((t : Int) + plcF m0 o).toNat v else s.1) r p
      rw [if_neg k5]; exact h.1 r p hr2 hp
  · show _ = up2 s.2 o t v o' t'
    unfold up2
    have hd' := hd
    unfold dn at hd'
    have eA : m2 167 (41 * o' + t') = upm m 167 (41 * o + t) v 167 (41 * o' + t') := by
      by_cases k5 : m0 144 o = 5
      · rw [h2, if_pos k5, upm_ne (by omega)]
      · rw [h2, if_neg k5]
    rw [eA]
    by_cases w : o' = o ∧ t' = t
    · rw [if_pos w, w.1, w.2]; exact upm_eq
    · rw [if_neg w, upm_ne (by omega)]; exact h.2 o' t' ((dn_next hd).resolve_right w)
end
section
/-! what holds of the heap between the law's calls, with what both sides tell of ops -/
def LM (h : PH) (m : MM) (g : Nat → Int64) : Prop := RA h ∧ h[173]? = some (.inl (1, 1, .inr (.inl g))) ∧ RH h h m
def LR (h : PH) : Prop := ∃ m g, LM h m g ∧ ClS m ∧ RefOK m ∧ RelB m
theorem RH.self {h0 h : PH} {mem : MM} (H : RH h0 h mem) : RH h h mem := ⟨fun _ _ => rfl, H.2⟩
theorem LM.step {h h' : PH} {m m' : MM} {g : Nat → Int64} (hL : LM h m g) (H : RH h h' m') : LM h' m' g := by
  obtain ⟨h1, h2, -⟩ := hL
  exact ⟨RA.at h1 H, by rw [H.1 173 rfl]; exact h2, H.self⟩
theorem LM.out {h : PH} {m : MM} {g g2 : Nat → Int64} (hL : LM h m g) : LM (h.set 173 (.inl (1, 1, .inr (.inl g2)))) m g2 := by
  obtain ⟨h1, h2, H⟩ := hL
  have hl := (List.getElem?_eq_some_iff.mp h2).1
  have e : ∀ A, ¬ A = 173 → (h.set 173 (.inl (1, 1, .inr (.inl g2))))[A]? = h[A]? := fun A q => List.getElem?_set_ne (fun z => q z.symm)
  refine ⟨?_, List.getElem?_set_self hl, ⟨fun _ _ => rfl, fun A s hA => ?_⟩⟩
  · unfold RA
    rw [e 37 (by decide), e 135 (by decide)]; exact h1
  · obtain ⟨y, a, b⟩ := H.2 A s hA
    exact ⟨y, by rw [e A (fun z => by rw [z] at hA; cases hA)]; exact a, b⟩
theorem LM.obj {h : PH} {m : MM} {g : Nat → Int64} (hL : LM h m g) {A ci : Nat} {fs : List (Option Nat)} (hA : shA A = some (.inr (ci, fs))) : ∃ gs, h[A]? = some (.inr (ci, gs)) := by
  obtain ⟨gs, g, -⟩ := hL.2.2.obj hA
  exact ⟨gs, g⟩
theorem callQM {S : Nat × (Nat → Int32)} {n μ : Nat} {args : List WV} {h : PH} {m : MM} {g : Nat → Int64} {K : Int → MM → Prop} {E : Nat → MM → Prop} (ha : ∀ v ∈ args, vOK v) (hL : LM h m g) (spec : CQI (Ex S n) μ args m K E) : Ex S n μ (args.map wv) h (fun r h' => (∃ y m', r = .inl (some (.int (Int32.ofInt y))) ∧ InI y ∧ LM h' m' g ∧ K y m') ∨ ∃ e m', r = .inr e ∧ LM h' m' g ∧ E e m') := by
  refine Ex.mono S n _ _ _ _ _ ?_ (spec ha h h hL.1 hL.2.2)
  rintro r h' ⟨x, m', rfl, k2, k3, k4⟩
  cases x with
  | inr e => exact Or.inr ⟨e, m', rfl, hL.step k3, k4⟩
  | inl o => cases o with
    | none => exact False.elim k4
    | some v => cases v with
      | inr A => exact False.elim k4
      | inl y => exact Or.inl ⟨y, m', rfl, k2, hL.step k3, k4⟩
theorem callQV {S : Nat × (Nat → Int32)} {n μ : Nat} {args : List WV} {h : PH} {m : MM} {g : Nat → Int64} {K : MM → Prop} {E : Nat → MM → Prop} (ha : ∀ v ∈ args, vOK v) (hL : LM h m g) (spec : CQV (Ex S n) μ args m K E) : Ex S n μ (args.map wv) h (fun r h' => (∃ m', r = .inl none ∧ LM h' m' g ∧ K m') ∨ ∃ e m', r = .inr e ∧ LM h' m' g ∧ E e m') := by
  refine Ex.mono S n _ _ _ _ _ ?_ (spec ha h h hL.1 hL.2.2)
  rintro r h' ⟨x, m', rfl, k2, k3, k4⟩
  cases x with
  | inr e => exact Or.inr ⟨e, m', rfl, hL.step k3, k4⟩
  | inl o => cases o with
    | some v => cases v <;> exact False.elim k4
    | none => exact Or.inl ⟨m', rfl, hL.step k3, k4⟩
def pRf (A _i : Nat) : Prop := 143 ≤ A
theorem CJ.e_ref {m m' : MM} (h : CJ m) (hF : Frm pRf m m') : CJ m' := by
  exact ⟨h.b.fr (fun A i a b => hF A i (by unfold pRf; omega)), h.w.fr (fun A i a b => hF A i (by unfold pRf; omega)), h.w2.fr (fun A i a b => hF A i (by unfold pRf; omega)), by rw [hF 19 0 (by unfold pRf; omega)]; exact h.r, h.hs.fr (fun A i a b => hF A i (by unfold pRf; omega)), fun o ho => by rw [hF 24 o (by unfold pRf; omega), hF 22 o (by unfold pRf; omega)]; exact h.us o ho, fun Q' hQ' => (h.ch Q' hQ').fr3 (fun A i q => hF A i (by have := hQ'.rg; unfold pRf; omega)), by rw [hF 0 10 (by unfold pRf; omega)]; exact h.so, by rw [hF 0 11 (by unfold pRf; omega)]; exact h.st⟩
theorem Rdy.e_ref {m m' : MM} (h : Rdy m) (hF : Frm pRf m m') : Rdy m' := by
  exact ⟨CJ.e_ref h.1 hF , ⟨by rw [hF 0 11 (by unfold pRf; omega)]; exact h.2.1.1, h.2.1.2.fr (fun A i q => hF A i (by unfold pRf; omega))⟩, by rw [hF 0 10 (by unfold pRf; omega)]; exact h.2.2.1, h.2.2.2.1.fr (fun A i q => hF A i (by unfold pRf; omega)), h.2.2.2.2.fr (fun A i a b => hF A i (by unfold pRf; omega))⟩
theorem RfC.e_ref {m m' : MM} (h : RfC m) (hF : Frm pRf m m') : RfC m' := by
  exact ⟨CJ.e_ref h.1 hF , by rw [hF 0 11 (by unfold pRf; omega)]; exact h.2.1, fun z => by
    rw [hF 0 10 (by unfold pRf; omega)] at z
    exact (h.2.2.1 z).fr (fun A i q => hF A i (by unfold pRf; omega)), SX.fr h.2.2.2 (hF 0 10 (by unfold pRf; omega)) (fun A i a b => hF A i (by unfold pRf; omega))⟩
theorem ClS.ref {m m' : MM} (h : ClS m) (hF : Frm pRf m m') : ClS m' := ⟨CJ.e_ref h.1 hF, fun a b => by
  rw [hF 0 11 (by unfold pRf; omega)] at a
  rw [hF 0 10 (by unfold pRf; omega)] at b
  exact ⟨(h.2.1 a b).1.fr (fun A i q => hF A i (by unfold pRf; omega)), (h.2.1 a b).2.fr (fun A i q => hF A i (by unfold pRf; omega))⟩, fun a => SX.fr (h.2.2 (by rw [hF 0 11 (by unfold pRf; omega)] at a; exact a)) (hF 0 10 (by unfold pRf; omega)) (fun A i a b => hF A i (by unfold pRf; omega))⟩
theorem RefOK.fr {m m' : MM} (h : RefOK m) (e : ∀ A i, 143 ≤ A → A ≤ 172 → m' A i = m A i) : RefOK m' :=
  Kp.rest (fun A i q => e A i (by omega) (by omega)) h (fun o ho => by rw [e 160 o (by omega) (by omega)]; exact h.sl o ho) (fun j hj => by rw [e _ _ (by omega) (by omega), e _ _ (by omega) (by omega), e _ _ (by omega) (by omega), e _ _ (by omega) (by omega)]; exact h.r48 j hj) (by rw [e 143 12 (by omega) (by omega)]; exact h.nd)
theorem p_call_mk {C : CXW} {M N : PM} {hd : List (Nat × Nat × Nat × Int)} {Q : Rs → PH → Prop} {K : Kt} {pc μ : Nat} {virt : Bool} {lv : LV} {av rest : List Value} {h : PH} {c s : Nat} (hN : MT[μ]? = some N) (hl : av.length = pN N) (hr : (rest.map Value.category).sum ≤ 8) (hc : c + pC N ≤ pC M) (hs : s + pS N ≤ pS M) (hv : virt = true → ∃ a fs, av[0]? = some (.ref a) ∧ h[a]? = some (.inr (pO N, fs))) (H : C μ av h (p_back M hd Q K pc lv rest (c + pC N) (s + pS N))) : p_call C M hd Q K pc μ virt lv (av.reverse ++ rest) h c s := by
  unfold p_call
  rw [hN]
  have el : av.reverse.length = pN N := by rw [List.length_reverse]; exact hl
  have e1 : (av.reverse ++ rest).take (pN N) = av.reverse := by rw [← el, List.take_left]
  have e2 : (av.reverse ++ rest).drop (pN N) = rest := by rw [← el, List.drop_left]
  simp only [e1, e2, List.reverse_reverse]
  refine ⟨by rw [List.length_append, el]; omega, hr, hc, hs, fun q => ?_, H⟩
  obtain ⟨a, fs, g1, g2⟩ := hv q
  exact ⟨a, fs, by rw [List.getLast?_reverse, List.head?_eq_getElem?]; exact g1, g2⟩
theorem vp00 : vp_in (Int32.ofInt 0) 1 := vp_in_iff.mpr (by decide)
theorem st_last {C : CXW} (hC : Cmono C) {S : Nat × (Nat → Int32)} {M : PM} {hd : List (Nat × Nat × Nat × Int)} {Q : Rs → PH → Prop} {pc : Nat} {lv : LV} {r : List Value} {h : PH} {c s : Nat} {x : Int64} {g : Nat → Int64} (ht : (pT M).find? (fun e => e.1 == pc) = some (pc, .lastore, 0, 0)) (hg : h[173]? = some (.inl (1, 1, .inr (.inl g)))) (H : ∀ g2 : Nat → Int64, g2 0 = x → Vx C S M hd Q (pc + 1) lv r (h.set 173 (.inl (1, 1, .inr (.inl g2)))) c s) : Vx C S M hd Q pc lv (.long x :: .int (Int32.ofInt 0) :: .ref 173 :: r) h c s := Vx.go hC ht (show p_last h _ (fun st h => Vx C S M hd Q (pc + 1) lv st h c s) from last_mk hg vp00 (H _ (by
  show vp_updL g (Int32.ofInt 0).toNatClampNeg x 0 = x
  rw [show (Int32.ofInt 0).toNatClampNeg = 0 by decide]
  unfold vp_updL
  simp)))
theorem LR.cls {h' : PH} {m m' : MM} {g' : Nat → Int64} (hL : LM h' m' g') (hr : RefOK m) (hb : RelB m) (hc : ClS m') (hF : Frm pNb m m') : LR h' := ⟨m', g', hL, hc, hr.fr (fun A i a b => hF A i (by unfold pNb; omega)), hb.fr (fun A i q => hF A i (by unfold pNb; omega))⟩
theorem LR.refq {h' : PH} {m m' : MM} {g' : Nat → Int64} (hL : LM h' m' g') (hc : ClS m) (hb : RelB m) (hr : RefOK m') (hF : FrQ m m') : LR h' := ⟨m', g', hL, hc.ref (fun A i q => hF A i (by unfold pRf at q; omega)), hr, hb.fr (fun A i q => hF A i (by omega))⟩
end
