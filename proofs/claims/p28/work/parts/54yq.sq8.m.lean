section
/-! laid by wip/hand/tg.py: the seeker, exactly -/
set_option maxHeartbeats 2000000 in
theorem f_103e {S : Nat × (Nat → Int32)} {n : Nat} {mem : MM} {K : Int → MM → Prop} {E : Nat → MM → Prop} {p : Prb} {W : Nat → Nat → Int} {nn : Int} (hP : PrW p) (hW : WyC p W nn) (hff : FfP p mem) (htw : TiW p W mem) (H1 : ∀ m', FrS mem m' → LstP p (m' 22) → K 1 m') (H0 : ∀ m', FrS mem m' → (∀ v, ¬ Fsb p v) → K 0 m') : CQI (Ex S (n + 14)) 103 [.inr 21, .inr 20] mem K E := by
  refine CY.of (k := 6) mt_103 rfl rfl (fun hv => ?_)
  have hC := Ex.mono S (n + 13)
  clear hv
  have h1 := hff.1.1.2.1.1
  have hd := hff.1.1.2.1.2
  have hWr : ∀ b c, tie p.E b c → -801 ≤ W b c := fun b c t => (htw.2.1 b c t).2.1
  have hn := hff.1.2
  have n8 := hff.1.1.1
  show Tx (Ex S (n + 13)) S M_103 (kI K E) 0 0 0 [some (.inr 21), some (.inr 20), none, none, none, none, none, none] [] mem
  have l_11 : ∀ (N : Nat) (x2 : Int) (m_11 : MM), (0 ≤ x2 ∧ x2 ≤ (p.n : Int)) → (FfI p W m_11 x2) → ((8 - x2).toNat) < N → FrS mem m_11 → Tx (Ex S (n + 13)) S M_103 (kI K E) 0 0 11 [some (.inr 21), some (.inr 20), some (.inl x2), none, none, none, none, none] [] m_11 := by
    intro N
    induction N with
    | zero => intros; omega
    | succ N ih_11 =>
      intro x2 m_11 i11_0 i11_1 hN_11 hF_11
      have hS11 := i11_1.1
      have hn11 := hS11.2.1
      have l_67 : ∀ (N : Nat) (x3 x4 x5 x6 : Int) (m0 : MM) (m_67 : MM), (0 ≤ x6) → (FfS p W m0 x2 x3 x4) → (FfD p W m0 m_67 x2 x3 x5 x6) → ((12 - x6).toNat) < N → FrS mem m_67 → Tx (Ex S (n + 13)) S M_103 (kI K E) 0 0 67 [some (.inr 21), some (.inr 20), some (.inl x2), some (.inl x3), some (.inl x4), some (.inl x5), some (.inl x6), none] [] m_67 := by
        intro N
        induction N with
        | zero => intros; omega
        | succ N ih_67 =>
          intro x3 x4 x5 x6 m0 m_67 i67_0 i67_1 i67_2 hN_67 hF_67
          have xb := i67_1.2.1
          refine Tx.iload hC te_103_67 rfl ?_
          refine Tx.aload_n hC te_103_69 rfl ?_
          refine Tx.getI hC te_103_70 rfl rfl rfl (fun v1 v1e v1i => ?_)
          unfold InI at v1i
          rw [FrS.at hF_67 21 _ (by unfold pSk; omega)] at v1e
          refine Tx.icmp hC (t := 159) te_103_73 (by decide) (fun q2 => ?_) (fun q2 => ?_)
          · replace q2 : v1 ≤ (x6 : Int) := q2
            refine Tx.iload hC te_103_159 rfl ?_
            refine Tx.ifc hC (t := 166) te_103_161 (by decide) (fun q3 => ?_) (fun q3 => ?_)
            · replace q3 : ¬ (x5 : Int) = 0 := q3
              refine Tx.iincW hC te_103_166 rfl rfl (fun z4 z4i z4e => ?_)
              unfold InI at z4i z4e
              first | replace z4e := z4e (by omega) | clear z4e
              refine Tx.goto hC (t := 11) te_103_169 (by decide) ?_
              exact Tx.weak (by repeat' (first | exact trivial | exact rfl | constructor)) (ih_11 z4 m_67 (by omega) (by
                first
                | exact i67_2.one (by omega) (by omega)
                | exact FfP.ini hP hff htw XF Xa Xb XF Xa) (by omega) hF_67)
            · replace q3 : ¬ (¬ (x5 : Int) = 0) := q3
              refine Tx.iconst hC te_103_164 rfl ?_
              exact Tx.bret hC te_103_165 rfl (by omega) (show K 0 m_67 from (by first | (exfalso; omega) | exact H0 _ hF_67 (i67_2.zero hP i67_1 (by omega) (by omega))))
          · replace q2 : ¬ (v1 ≤ (x6 : Int)) := q2
            refine Tx.iload hC te_103_76 rfl ?_
            refine Tx.ifc hC (t := 159) te_103_78 (by decide) (fun q5 => ?_) (fun q5 => ?_)
            · replace q5 : ¬ (x5 : Int) = 0 := q5
              refine Tx.iload hC te_103_159 rfl ?_
              refine Tx.ifc hC (t := 166) te_103_161 (by decide) (fun q6 => ?_) (fun q6 => ?_)
              · replace q6 : ¬ (x5 : Int) = 0 := q6
                refine Tx.iincW hC te_103_166 rfl rfl (fun z7 z7i z7e => ?_)
                unfold InI at z7i z7e
                first | replace z7e := z7e (by omega) | clear z7e
                refine Tx.goto hC (t := 11) te_103_169 (by decide) ?_
                exact Tx.weak (by repeat' (first | exact trivial | exact rfl | constructor)) (ih_11 z7 m_67 (by omega) (by
                  first
                  | exact i67_2.one (by omega) (by omega)
                  | exact FfP.ini hP hff htw XF Xa Xb XF Xa) (by omega) hF_67)
              · replace q6 : ¬ (¬ (x5 : Int) = 0) := q6
                refine Tx.iconst hC te_103_164 rfl ?_
                exact Tx.bret hC te_103_165 rfl (by omega) (show K 0 m_67 from (by first | (exfalso; omega) | exact H0 _ hF_67 (i67_2.zero hP i67_1 (by omega) (by omega))))
            · replace q5 : ¬ (¬ (x5 : Int) = 0) := q5
              have x50 : x5 = 0 := by omega
              have d0 := i67_2.z x50
              have xb := i67_1.2.1
              have hS0 := i67_1.1.1
              have hD0 := i67_1.1.2.1
              have hS1 := d0.1.sts hS0
              have hD1 := d0.1.std hP hS0 hD0
              have f21 : m_67 21 0 = p.n := hS1.2.1
              have npl : ¬ (fun j : Nat => (j : Int) < x2) x2.toNat := FfS.np
              have hG := LnkB.cl hP hS0 i67_1.1.2.2.1 (o := x2.toNat) (by omega)
              have pr91 := hS1.pre91 (o := x2.toNat) (s := x6) hP hD1 (by omega)
              refine Tx.iload hC te_103_81 rfl ?_
              refine Tx.iconst hC te_103_83 rfl ?_
              refine Tx.iload hC te_103_84 rfl ?_
              refine Tx.bits hC (f := (fun (x y : Int32) => x <<< (y &&& 31))) te_103_86 (fun _ _ _ _ => Iff.rfl) (fun b8 b8e b8i => ?_)
              unfold InI at b8i
              refine Tx.bits hC (f := (fun (x y : Int32) => x &&& y)) te_103_87 (fun _ _ _ _ => Iff.rfl) (fun b9 b9e b9i => ?_)
              unfold InI at b9i
              have t9 := Bt_tst (o := x6) (by omega) (by assumption) b9e
              refine Tx.ifc hC (t := 153) te_103_88 (by decide) (fun q10 => ?_) (fun q10 => ?_)
              · replace q10 : (b9 : Int) = 0 := q10
                refine Tx.iincW hC te_103_153 rfl rfl (fun z11 z11i z11e => ?_)
                unfold InI at z11i z11e
                first | replace z11e := z11e (by omega) | clear z11e
                refine Tx.goto hC (t := 67) te_103_156 (by decide) ?_
                exact ih_67 x3 x4 x5 z11 (m0) m_67 (by omega) (by
                  first
                  | exact i67_1
                  | exact ⟨fi, by omega, fun j => by rw [m_67e, eL]; exact rs j, Or.inl ⟨rfl, ld, fun i => Bt_1⟩⟩
                  | exact ⟨fi, by omega, fun j => by rw [m_67e, eL]; exact rs j, Or.inr ⟨rfl, xs, rs97⟩⟩) (by
                  first
                  | exact FfD.shut hP hW i67_1 i67_2 x50 (by omega) i67_0 (fun z => absurd (t9.mpr z) (by omega))
                  | exact FfD.known hP i67_1 i67_2 x50 (by omega) (by omega) X hSD
                  | exact FfD.found hP i67_1 i67_2 x50 X hSD XB XF
                  | exact FfD.none hP i67_1 i67_2 x50 (by omega) (by omega) X XB Xe XN XL
                  | exact FfD.ring hP hW i67_1 i67_2 x50 (by omega) (by omega) X XN XL
                  | (refine FfD.ini (x4 := x4) ?_; first | exact ⟨fi, by omega, fun j => by rw [m_67e, eL]; exact rs j, Or.inl ⟨rfl, ld, fun i => Bt_1⟩⟩ | exact ⟨fi, by omega, fun j => by rw [m_67e, eL]; exact rs j, Or.inr ⟨rfl, xs, rs97⟩⟩)) (by omega) hF_67
              · replace q10 : ¬ ((b9 : Int) = 0) := q10
                have hO := OpnB.cg (d := 0) (by omega) hP hS0 hD0 d0.1 (by omega) (i67_1.opn hP (t9.mp (by assumption)))
                refine Tx.iload_n hC te_103_91 rfl ?_
                refine Tx.ifc hC (t := 110) te_103_92 (by decide) (fun q12 => ?_) (fun q12 => ?_)
                · replace q12 : ¬ (x3 : Int) = 0 := q12
                  refine Tx.iconst hC te_103_110 rfl ?_
                  refine Tx.istore hC te_103_111 rfl ?_
                  refine Tx.aload_n hC te_103_113 rfl ?_
                  refine Tx.iload_n hC te_103_114 rfl ?_
                  refine Tx.iload hC te_103_115 rfl ?_
                  refine Tx.virtI hC te_103_117 mt_91 (args := [.inr 21, .inl x2, .inl x6]) (rest := []) (c' := 0) (s' := 0) rfl rfl rfl rfl rfl rfl rfl rfl rfl rfl ?_
                  refine f_91e (hS1.skm hD1) (by omega) (by omega) pr91.1 pr91.2.1 pr91.2.2.1 pr91.2.2.2 (fun m14 m14K m14T r13i => ?_) (fun m14 m14K mn m14N r13i => ?_)
                  · skip
                    have hSD := hS1.put hP hWr hD1 (by omega) npl (by omega) hO m14K m14T
                    have hF15n : FrS mem m14 := FrS.tr hF_67 (m14K.frs (by omega))
                    refine Tx.ifc hC (t := 140) te_103_120 (by decide) (fun q => absurd q (show ¬ ((1 : Int) = 0) by decide)) (fun q => ?_)
                    refine Tx.iload hC te_103_123 rfl ?_
                    refine Tx.ifc hC (t := 136) te_103_125 (by decide) (fun q => absurd q (show ¬ (¬ (0 : Int) = 0) by decide)) (fun q => ?_)
                    refine Tx.aload_n hC te_103_128 rfl ?_
                    refine Tx.iconst hC te_103_129 rfl ?_
                    refine Tx.virtI hC te_103_130 mt_96 (args := [.inr 21, .inl 0]) (rest := []) (c' := 0) (s' := 0) rfl rfl rfl rfl rfl rfl rfl rfl rfl rfl ?_
                    have mm3 : m14 21 3 = m0 21 3 := (m14K.cells.2.2 21 3 (by omega) (by omega) (by omega) (by omega) (by omega)).trans (d0.1.at (by omega))
                    refine f_96s hP hW hWr hG hSD.1 hSD.2 (fun j => by
                      rw [mm3, i67_1.2.2.1 j]
                      exact ⟨fun g => ⟨LnkB.lt hP hS0 i67_1.1.2.2.1 (by omega) g, g⟩, fun g => g.2⟩) (fun m17 m17B m17F r16i => ?_) (fun m17 m17B m17e m17N r16i => ?_)
                    · skip
                      have hS3 := m17B.sts hSD.1
                      have hk : SkO m17 p.d ∧ m17 21 0 = p.n ∧ ∀ j, Bt (m17 34 x2.toNat) j → j < 8 := ⟨hS3.1, hS3.2.1, fun j b => by have := ((hS3.2.2.2.2.2.1 x2.toNat (by omega) j).mp b).1; omega⟩
                      have hF18n : FrS mem m17 := FrS.tr hF15n m17B.frs
                      refine Tx.ifc hC (t := 140) te_103_133 (by decide) (fun q => absurd q (show ¬ ((1 : Int) = 0) by decide)) (fun q => ?_)
                      refine Tx.iconst hC te_103_136 rfl ?_
                      refine Tx.goto hC (t := 141) te_103_137 (by decide) ?_
                      refine Tx.istore hC te_103_141 rfl ?_
                      refine Tx.iload hC te_103_143 rfl ?_
                      refine Tx.ifc hC (t := 153) te_103_145 (by decide) (fun q => ?_) (fun q => absurd (show ¬ (1 : Int) = 0 by decide) q)
                      refine Tx.iincW hC te_103_153 rfl rfl (fun z19 z19i z19e => ?_)
                      unfold InI at z19i z19e
                      first | replace z19e := z19e (by omega) | clear z19e
                      refine Tx.goto hC (t := 67) te_103_156 (by decide) ?_
                      exact Tx.weak (by repeat' (first | exact trivial | exact rfl | constructor)) (ih_67 x3 x4 1 z19 (m0) m17 (by omega) (by
                        first
                        | exact i67_1
                        | exact ⟨fi, by omega, fun j => by rw [m17e, eL]; exact rs j, Or.inl ⟨rfl, ld, fun i => Bt_1⟩⟩
                        | exact ⟨fi, by omega, fun j => by rw [m17e, eL]; exact rs j, Or.inr ⟨rfl, xs, rs97⟩⟩) (by
                        first
                        | exact FfD.shut hP hW i67_1 i67_2 x50 (by omega) i67_0 (fun z => absurd (t9.mpr z) (by omega))
                        | exact FfD.known hP i67_1 i67_2 x50 (by omega) (by omega) m14K hSD
                        | exact FfD.found hP i67_1 i67_2 x50 m14K hSD m17B m17F
                        | exact FfD.none hP i67_1 i67_2 x50 (by omega) (by omega) m14K m17B m17e m17N XL
                        | exact FfD.ring hP hW i67_1 i67_2 x50 (by omega) (by omega) m14K m14N XL
                        | (refine FfD.ini (x4 := x4) ?_; first | exact ⟨fi, by omega, fun j => by rw [m17e, eL]; exact rs j, Or.inl ⟨rfl, ld, fun i => Bt_1⟩⟩ | exact ⟨fi, by omega, fun j => by rw [m17e, eL]; exact rs j, Or.inr ⟨rfl, xs, rs97⟩⟩)) (by omega) hF18n)
                    · skip
                      have hS3 := m17B.sts hSD.1
                      have hk : SkO m17 p.d ∧ m17 21 0 = p.n ∧ ∀ j, Bt (m17 34 x2.toNat) j → j < 8 := ⟨hS3.1, hS3.2.1, fun j b => by have := ((hS3.2.2.2.2.2.1 x2.toNat (by omega) j).mp b).1; omega⟩
                      have hF18n : FrS mem m17 := FrS.tr hF15n m17B.frs
                      refine Tx.ifc hC (t := 140) te_103_133 (by decide) (fun q => ?_) (fun q => absurd (show (0 : Int) = 0 by decide) q)
                      refine Tx.iconst hC te_103_140 rfl ?_
                      refine Tx.istore hC te_103_141 rfl ?_
                      refine Tx.iload hC te_103_143 rfl ?_
                      refine Tx.ifc hC (t := 153) te_103_145 (by decide) (fun q => absurd q (show ¬ (¬ (0 : Int) = 0) by decide)) (fun q => ?_)
                      refine Tx.aload_n hC te_103_148 rfl ?_
                      refine Tx.iload_n hC te_103_149 rfl ?_
                      refine Tx.virtV hC te_103_150 mt_102 (args := [.inr 21, .inl x2]) (rest := []) (c' := 0) (s' := 0) rfl rfl rfl rfl rfl rfl rfl rfl rfl rfl ?_
                      refine f_102e hk.1 (by omega) hk.2.2 (fun m21 m21L => ?_)
                      have hF22n : FrS mem m21 := FrS.tr hF18n m21L.frs
                      refine Tx.iincW hC te_103_153 rfl rfl (fun z23 z23i z23e => ?_)
                      unfold InI at z23i z23e
                      first | replace z23e := z23e (by omega) | clear z23e
                      refine Tx.goto hC (t := 67) te_103_156 (by decide) ?_
                      exact Tx.weak (by repeat' (first | exact trivial | exact rfl | constructor)) (ih_67 x3 x4 0 z23 (m0) m21 (by omega) (by
                        first
                        | exact i67_1
                        | exact ⟨fi, by omega, fun j => by rw [m21e, eL]; exact rs j, Or.inl ⟨rfl, ld, fun i => Bt_1⟩⟩
                        | exact ⟨fi, by omega, fun j => by rw [m21e, eL]; exact rs j, Or.inr ⟨rfl, xs, rs97⟩⟩) (by
                        first
                        | exact FfD.shut hP hW i67_1 i67_2 x50 (by omega) i67_0 (fun z => absurd (t9.mpr z) (by omega))
                        | exact FfD.known hP i67_1 i67_2 x50 (by omega) (by omega) m14K hSD
                        | exact FfD.found hP i67_1 i67_2 x50 m14K hSD m17B m17F
                        | exact FfD.none hP i67_1 i67_2 x50 (by omega) (by omega) m14K m17B m17e m17N m21L
                        | exact FfD.ring hP hW i67_1 i67_2 x50 (by omega) (by omega) m14K m14N m21L
                        | (refine FfD.ini (x4 := x4) ?_; first | exact ⟨fi, by omega, fun j => by rw [m21e, eL]; exact rs j, Or.inl ⟨rfl, ld, fun i => Bt_1⟩⟩ | exact ⟨fi, by omega, fun j => by rw [m21e, eL]; exact rs j, Or.inr ⟨rfl, xs, rs97⟩⟩)) (by omega) hF22n)
                  · skip
                    have hk : SkO m14 p.d ∧ m14 21 0 = p.n ∧ ∀ j, Bt (m14 34 x2.toNat) j → j < 8 := by
                      have e34 : m14 34 x2.toNat = m_67 34 x2.toNat := m14K.cells.2.2 34 _ (by omega) (by omega) (by omega) (by omega) (by omega)
                      rw [e34]
                      exact ⟨hS1.1.plc m14K, (m14K.cells.2.2 21 0 (by omega) (by omega) (by omega) (by omega) (by omega)).trans (by omega), pr91.1⟩
                    have hF15n : FrS mem m14 := FrS.tr hF_67 (m14K.frs (by omega))
                    refine Tx.ifc hC (t := 140) te_103_120 (by decide) (fun q => ?_) (fun q => absurd (show (0 : Int) = 0 by decide) q)
                    refine Tx.iconst hC te_103_140 rfl ?_
                    refine Tx.istore hC te_103_141 rfl ?_
                    refine Tx.iload hC te_103_143 rfl ?_
                    refine Tx.ifc hC (t := 153) te_103_145 (by decide) (fun q => absurd q (show ¬ (¬ (0 : Int) = 0) by decide)) (fun q => ?_)
                    refine Tx.aload_n hC te_103_148 rfl ?_
                    refine Tx.iload_n hC te_103_149 rfl ?_
                    refine Tx.virtV hC te_103_150 mt_102 (args := [.inr 21, .inl x2]) (rest := []) (c' := 0) (s' := 0) rfl rfl rfl rfl rfl rfl rfl rfl rfl rfl ?_
                    refine f_102e hk.1 (by omega) hk.2.2 (fun m25 m25L => ?_)
                    have hF26n : FrS mem m25 := FrS.tr hF15n m25L.frs
                    refine Tx.iincW hC te_103_153 rfl rfl (fun z27 z27i z27e => ?_)
                    unfold InI at z27i z27e
                    first | replace z27e := z27e (by omega) | clear z27e
                    refine Tx.goto hC (t := 67) te_103_156 (by decide) ?_
                    exact Tx.weak (by repeat' (first | exact trivial | exact rfl | constructor)) (ih_67 x3 x4 0 z27 (m0) m25 (by omega) (by
                      first
                      | exact i67_1
                      | exact ⟨fi, by omega, fun j => by rw [m25e, eL]; exact rs j, Or.inl ⟨rfl, ld, fun i => Bt_1⟩⟩
                      | exact ⟨fi, by omega, fun j => by rw [m25e, eL]; exact rs j, Or.inr ⟨rfl, xs, rs97⟩⟩) (by
                      first
                      | exact FfD.shut hP hW i67_1 i67_2 x50 (by omega) i67_0 (fun z => absurd (t9.mpr z) (by omega))
                      | exact FfD.known hP i67_1 i67_2 x50 (by omega) (by omega) m14K hSD
                      | exact FfD.found hP i67_1 i67_2 x50 m14K hSD XB XF
                      | exact FfD.none hP i67_1 i67_2 x50 (by omega) (by omega) m14K XB Xe XN m25L
                      | exact FfD.ring hP hW i67_1 i67_2 x50 (by omega) (by omega) m14K m14N m25L
                      | (refine FfD.ini (x4 := x4) ?_; first | exact ⟨fi, by omega, fun j => by rw [m25e, eL]; exact rs j, Or.inl ⟨rfl, ld, fun i => Bt_1⟩⟩ | exact ⟨fi, by omega, fun j => by rw [m25e, eL]; exact rs j, Or.inr ⟨rfl, xs, rs97⟩⟩)) (by omega) hF26n)
                · replace q12 : ¬ (¬ (x3 : Int) = 0) := q12
                  refine Tx.iload hC te_103_95 rfl ?_
                  refine Tx.aload_n hC te_103_97 rfl ?_
                  refine Tx.getR hC te_103_98 rfl rfl rfl ?_
                  refine Tx.iload_n hC te_103_101 rfl ?_
                  refine Tx.iald hC te_103_102 rfl (by omega) (fun v28 v28e v28i => ?_)
                  unfold InI at v28i
                  refine Tx.icmp hC (t := 110) te_103_103 (by decide) (fun q29 => ?_) (fun q29 => ?_)
                  · replace q29 : ¬ (x6 : Int) = v28 := q29
                    refine Tx.iconst hC te_103_110 rfl ?_
                    refine Tx.istore hC te_103_111 rfl ?_
                    refine Tx.aload_n hC te_103_113 rfl ?_
                    refine Tx.iload_n hC te_103_114 rfl ?_
                    refine Tx.iload hC te_103_115 rfl ?_
                    refine Tx.virtI hC te_103_117 mt_91 (args := [.inr 21, .inl x2, .inl x6]) (rest := []) (c' := 0) (s' := 0) rfl rfl rfl rfl rfl rfl rfl rfl rfl rfl ?_
                    refine f_91e (hS1.skm hD1) (by omega) (by omega) pr91.1 pr91.2.1 pr91.2.2.1 pr91.2.2.2 (fun m31 m31K m31T r30i => ?_) (fun m31 m31K mn m31N r30i => ?_)
                    · skip
                      have hSD := hS1.put hP hWr hD1 (by omega) npl (by omega) hO m31K m31T
                      have hF32n : FrS mem m31 := FrS.tr hF_67 (m31K.frs (by omega))
                      refine Tx.ifc hC (t := 140) te_103_120 (by decide) (fun q => absurd q (show ¬ ((1 : Int) = 0) by decide)) (fun q => ?_)
                      refine Tx.iload hC te_103_123 rfl ?_
                      refine Tx.ifc hC (t := 136) te_103_125 (by decide) (fun q => absurd q (show ¬ (¬ (0 : Int) = 0) by decide)) (fun q => ?_)
                      refine Tx.aload_n hC te_103_128 rfl ?_
                      refine Tx.iconst hC te_103_129 rfl ?_
                      refine Tx.virtI hC te_103_130 mt_96 (args := [.inr 21, .inl 0]) (rest := []) (c' := 0) (s' := 0) rfl rfl rfl rfl rfl rfl rfl rfl rfl rfl ?_
                      have mm3 : m31 21 3 = m0 21 3 := (m31K.cells.2.2 21 3 (by omega) (by omega) (by omega) (by omega) (by omega)).trans (d0.1.at (by omega))
                      refine f_96s hP hW hWr hG hSD.1 hSD.2 (fun j => by
                        rw [mm3, i67_1.2.2.1 j]
                        exact ⟨fun g => ⟨LnkB.lt hP hS0 i67_1.1.2.2.1 (by omega) g, g⟩, fun g => g.2⟩) (fun m34 m34B m34F r33i => ?_) (fun m34 m34B m34e m34N r33i => ?_)
                      · skip
                        have hS3 := m34B.sts hSD.1
                        have hk : SkO m34 p.d ∧ m34 21 0 = p.n ∧ ∀ j, Bt (m34 34 x2.toNat) j → j < 8 := ⟨hS3.1, hS3.2.1, fun j b => by have := ((hS3.2.2.2.2.2.1 x2.toNat (by omega) j).mp b).1; omega⟩
                        have hF35n : FrS mem m34 := FrS.tr hF32n m34B.frs
                        refine Tx.ifc hC (t := 140) te_103_133 (by decide) (fun q => absurd q (show ¬ ((1 : Int) = 0) by decide)) (fun q => ?_)
                        refine Tx.iconst hC te_103_136 rfl ?_
                        refine Tx.goto hC (t := 141) te_103_137 (by decide) ?_
                        refine Tx.istore hC te_103_141 rfl ?_
                        refine Tx.iload hC te_103_143 rfl ?_
                        refine Tx.ifc hC (t := 153) te_103_145 (by decide) (fun q => ?_) (fun q => absurd (show ¬ (1 : Int) = 0 by decide) q)
                        refine Tx.iincW hC te_103_153 rfl rfl (fun z36 z36i z36e => ?_)
                        unfold InI at z36i z36e
                        first | replace z36e := z36e (by omega) | clear z36e
                        refine Tx.goto hC (t := 67) te_103_156 (by decide) ?_
                        exact Tx.weak (by repeat' (first | exact trivial | exact rfl | constructor)) (ih_67 x3 x4 1 z36 (m0) m34 (by omega) (by
                          first
                          | exact i67_1
                          | exact ⟨fi, by omega, fun j => by rw [m34e, eL]; exact rs j, Or.inl ⟨rfl, ld, fun i => Bt_1⟩⟩
                          | exact ⟨fi, by omega, fun j => by rw [m34e, eL]; exact rs j, Or.inr ⟨rfl, xs, rs97⟩⟩) (by
                          first
                          | exact FfD.shut hP hW i67_1 i67_2 x50 (by omega) i67_0 (fun z => absurd (t9.mpr z) (by omega))
                          | exact FfD.known hP i67_1 i67_2 x50 (by omega) (by omega) m31K hSD
                          | exact FfD.found hP i67_1 i67_2 x50 m31K hSD m34B m34F
                          | exact FfD.none hP i67_1 i67_2 x50 (by omega) (by omega) m31K m34B m34e m34N XL
                          | exact FfD.ring hP hW i67_1 i67_2 x50 (by omega) (by omega) m31K m31N XL
                          | (refine FfD.ini (x4 := x4) ?_; first | exact ⟨fi, by omega, fun j => by rw [m34e, eL]; exact rs j, Or.inl ⟨rfl, ld, fun i => Bt_1⟩⟩ | exact ⟨fi, by omega, fun j => by rw [m34e, eL]; exact rs j, Or.inr ⟨rfl, xs, rs97⟩⟩)) (by omega) hF35n)
                      · skip
                        have hS3 := m34B.sts hSD.1
                        have hk : SkO m34 p.d ∧ m34 21 0 = p.n ∧ ∀ j, Bt (m34 34 x2.toNat) j → j < 8 := ⟨hS3.1, hS3.2.1, fun j b => by have := ((hS3.2.2.2.2.2.1 x2.toNat (by omega) j).mp b).1; omega⟩
                        have hF35n : FrS mem m34 := FrS.tr hF32n m34B.frs
                        refine Tx.ifc hC (t := 140) te_103_133 (by decide) (fun q => ?_) (fun q => absurd (show (0 : Int) = 0 by decide) q)
                        refine Tx.iconst hC te_103_140 rfl ?_
                        refine Tx.istore hC te_103_141 rfl ?_
                        refine Tx.iload hC te_103_143 rfl ?_
                        refine Tx.ifc hC (t := 153) te_103_145 (by decide) (fun q => absurd q (show ¬ (¬ (0 : Int) = 0) by decide)) (fun q => ?_)
                        refine Tx.aload_n hC te_103_148 rfl ?_
                        refine Tx.iload_n hC te_103_149 rfl ?_
                        refine Tx.virtV hC te_103_150 mt_102 (args := [.inr 21, .inl x2]) (rest := []) (c' := 0) (s' := 0) rfl rfl rfl rfl rfl rfl rfl rfl rfl rfl ?_
                        refine f_102e hk.1 (by omega) hk.2.2 (fun m38 m38L => ?_)
                        have hF39n : FrS mem m38 := FrS.tr hF35n m38L.frs
                        refine Tx.iincW hC te_103_153 rfl rfl (fun z40 z40i z40e => ?_)
                        unfold InI at z40i z40e
                        first | replace z40e := z40e (by omega) | clear z40e
                        refine Tx.goto hC (t := 67) te_103_156 (by decide) ?_
                        exact Tx.weak (by repeat' (first | exact trivial | exact rfl | constructor)) (ih_67 x3 x4 0 z40 (m0) m38 (by omega) (by
                          first
                          | exact i67_1
                          | exact ⟨fi, by omega, fun j => by rw [m38e, eL]; exact rs j, Or.inl ⟨rfl, ld, fun i => Bt_1⟩⟩
                          | exact ⟨fi, by omega, fun j => by rw [m38e, eL]; exact rs j, Or.inr ⟨rfl, xs, rs97⟩⟩) (by
                          first
                          | exact FfD.shut hP hW i67_1 i67_2 x50 (by omega) i67_0 (fun z => absurd (t9.mpr z) (by omega))
                          | exact FfD.known hP i67_1 i67_2 x50 (by omega) (by omega) m31K hSD
                          | exact FfD.found hP i67_1 i67_2 x50 m31K hSD m34B m34F
                          | exact FfD.none hP i67_1 i67_2 x50 (by omega) (by omega) m31K m34B m34e m34N m38L
                          | exact FfD.ring hP hW i67_1 i67_2 x50 (by omega) (by omega) m31K m31N m38L
                          | (refine FfD.ini (x4 := x4) ?_; first | exact ⟨fi, by omega, fun j => by rw [m38e, eL]; exact rs j, Or.inl ⟨rfl, ld, fun i => Bt_1⟩⟩ | exact ⟨fi, by omega, fun j => by rw [m38e, eL]; exact rs j, Or.inr ⟨rfl, xs, rs97⟩⟩)) (by omega) hF39n)
                    · skip
                      have hk : SkO m31 p.d ∧ m31 21 0 = p.n ∧ ∀ j, Bt (m31 34 x2.toNat) j → j < 8 := by
                        have e34 : m31 34 x2.toNat = m_67 34 x2.toNat := m31K.cells.2.2 34 _ (by omega) (by omega) (by omega) (by omega) (by omega)
                        rw [e34]
                        exact ⟨hS1.1.plc m31K, (m31K.cells.2.2 21 0 (by omega) (by omega) (by omega) (by omega) (by omega)).trans (by omega), pr91.1⟩
                      have hF32n : FrS mem m31 := FrS.tr hF_67 (m31K.frs (by omega))
                      refine Tx.ifc hC (t := 140) te_103_120 (by decide) (fun q => ?_) (fun q => absurd (show (0 : Int) = 0 by decide) q)
                      refine Tx.iconst hC te_103_140 rfl ?_
                      refine Tx.istore hC te_103_141 rfl ?_
                      refine Tx.iload hC te_103_143 rfl ?_
                      refine Tx.ifc hC (t := 153) te_103_145 (by decide) (fun q => absurd q (show ¬ (¬ (0 : Int) = 0) by decide)) (fun q => ?_)
                      refine Tx.aload_n hC te_103_148 rfl ?_
                      refine Tx.iload_n hC te_103_149 rfl ?_
                      refine Tx.virtV hC te_103_150 mt_102 (args := [.inr 21, .inl x2]) (rest := []) (c' := 0) (s' := 0) rfl rfl rfl rfl rfl rfl rfl rfl rfl rfl ?_
                      refine f_102e hk.1 (by omega) hk.2.2 (fun m42 m42L => ?_)
                      have hF43n : FrS mem m42 := FrS.tr hF32n m42L.frs
                      refine Tx.iincW hC te_103_153 rfl rfl (fun z44 z44i z44e => ?_)
                      unfold InI at z44i z44e
                      first | replace z44e := z44e (by omega) | clear z44e
                      refine Tx.goto hC (t := 67) te_103_156 (by decide) ?_
                      exact Tx.weak (by repeat' (first | exact trivial | exact rfl | constructor)) (ih_67 x3 x4 0 z44 (m0) m42 (by omega) (by
                        first
                        | exact i67_1
                        | exact ⟨fi, by omega, fun j => by rw [m42e, eL]; exact rs j, Or.inl ⟨rfl, ld, fun i => Bt_1⟩⟩
                        | exact ⟨fi, by omega, fun j => by rw [m42e, eL]; exact rs j, Or.inr ⟨rfl, xs, rs97⟩⟩) (by
                        first
                        | exact FfD.shut hP hW i67_1 i67_2 x50 (by omega) i67_0 (fun z => absurd (t9.mpr z) (by omega))
                        | exact FfD.known hP i67_1 i67_2 x50 (by omega) (by omega) m31K hSD
                        | exact FfD.found hP i67_1 i67_2 x50 m31K hSD XB XF
                        | exact FfD.none hP i67_1 i67_2 x50 (by omega) (by omega) m31K XB Xe XN m42L
                        | exact FfD.ring hP hW i67_1 i67_2 x50 (by omega) (by omega) m31K m31N m42L
                        | (refine FfD.ini (x4 := x4) ?_; first | exact ⟨fi, by omega, fun j => by rw [m42e, eL]; exact rs j, Or.inl ⟨rfl, ld, fun i => Bt_1⟩⟩ | exact ⟨fi, by omega, fun j => by rw [m42e, eL]; exact rs j, Or.inr ⟨rfl, xs, rs97⟩⟩)) (by omega) hF43n)
                  · replace q29 : ¬ (¬ (x6 : Int) = v28) := q29
                    refine Tx.iconst hC te_103_106 rfl ?_
                    refine Tx.goto hC (t := 111) te_103_107 (by decide) ?_
                    refine Tx.istore hC te_103_111 rfl ?_
                    refine Tx.aload_n hC te_103_113 rfl ?_
                    refine Tx.iload_n hC te_103_114 rfl ?_
                    refine Tx.iload hC te_103_115 rfl ?_
                    refine Tx.virtI hC te_103_117 mt_91 (args := [.inr 21, .inl x2, .inl x6]) (rest := []) (c' := 0) (s' := 0) rfl rfl rfl rfl rfl rfl rfl rfl rfl rfl ?_
                    refine f_91e (hS1.skm hD1) (by omega) (by omega) pr91.1 pr91.2.1 pr91.2.2.1 pr91.2.2.2 (fun m46 m46K m46T r45i => ?_) (fun m46 m46K mn m46N r45i => ?_)
                    · skip
                      have hSD := hS1.put hP hWr hD1 (by omega) npl (by omega) hO m46K m46T
                      have hF47n : FrS mem m46 := FrS.tr hF_67 (m46K.frs (by omega))
                      refine Tx.ifc hC (t := 140) te_103_120 (by decide) (fun q => absurd q (show ¬ ((1 : Int) = 0) by decide)) (fun q => ?_)
                      refine Tx.iload hC te_103_123 rfl ?_
                      refine Tx.ifc hC (t := 136) te_103_125 (by decide) (fun q => ?_) (fun q => absurd (show ¬ (1 : Int) = 0 by decide) q)
                      refine Tx.iconst hC te_103_136 rfl ?_
                      refine Tx.goto hC (t := 141) te_103_137 (by decide) ?_
                      refine Tx.istore hC te_103_141 rfl ?_
                      refine Tx.iload hC te_103_143 rfl ?_
                      refine Tx.ifc hC (t := 153) te_103_145 (by decide) (fun q => ?_) (fun q => absurd (show ¬ (1 : Int) = 0 by decide) q)
                      refine Tx.iincW hC te_103_153 rfl rfl (fun z48 z48i z48e => ?_)
                      unfold InI at z48i z48e
                      first | replace z48e := z48e (by omega) | clear z48e
                      refine Tx.goto hC (t := 67) te_103_156 (by decide) ?_
                      exact Tx.weak (by repeat' (first | exact trivial | exact rfl | constructor)) (ih_67 x3 x4 1 z48 (m0) m46 (by omega) (by
                        first
                        | exact i67_1
                        | exact ⟨fi, by omega, fun j => by rw [m46e, eL]; exact rs j, Or.inl ⟨rfl, ld, fun i => Bt_1⟩⟩
                        | exact ⟨fi, by omega, fun j => by rw [m46e, eL]; exact rs j, Or.inr ⟨rfl, xs, rs97⟩⟩) (by
                        first
                        | exact FfD.shut hP hW i67_1 i67_2 x50 (by omega) i67_0 (fun z => absurd (t9.mpr z) (by omega))
                        | exact FfD.known hP i67_1 i67_2 x50 (by omega) (by omega) m46K hSD
                        | exact FfD.found hP i67_1 i67_2 x50 m46K hSD XB XF
                        | exact FfD.none hP i67_1 i67_2 x50 (by omega) (by omega) m46K XB Xe XN XL
                        | exact FfD.ring hP hW i67_1 i67_2 x50 (by omega) (by omega) m46K m46N XL
                        | (refine FfD.ini (x4 := x4) ?_; first | exact ⟨fi, by omega, fun j => by rw [m46e, eL]; exact rs j, Or.inl ⟨rfl, ld, fun i => Bt_1⟩⟩ | exact ⟨fi, by omega, fun j => by rw [m46e, eL]; exact rs j, Or.inr ⟨rfl, xs, rs97⟩⟩)) (by omega) hF47n)
                    · skip
                      have hk : SkO m46 p.d ∧ m46 21 0 = p.n ∧ ∀ j, Bt (m46 34 x2.toNat) j → j < 8 := by
                        have e34 : m46 34 x2.toNat = m_67 34 x2.toNat := m46K.cells.2.2 34 _ (by omega) (by omega) (by omega) (by omega) (by omega)
                        rw [e34]
                        exact ⟨hS1.1.plc m46K, (m46K.cells.2.2 21 0 (by omega) (by omega) (by omega) (by omega) (by omega)).trans (by omega), pr91.1⟩
                      have hF47n : FrS mem m46 := FrS.tr hF_67 (m46K.frs (by omega))
                      refine Tx.ifc hC (t := 140) te_103_120 (by decide) (fun q => ?_) (fun q => absurd (show (0 : Int) = 0 by decide) q)
                      refine Tx.iconst hC te_103_140 rfl ?_
                      refine Tx.istore hC te_103_141 rfl ?_
                      refine Tx.iload hC te_103_143 rfl ?_
                      refine Tx.ifc hC (t := 153) te_103_145 (by decide) (fun q => absurd q (show ¬ (¬ (0 : Int) = 0) by decide)) (fun q => ?_)
                      refine Tx.aload_n hC te_103_148 rfl ?_
                      refine Tx.iload_n hC te_103_149 rfl ?_
                      refine Tx.virtV hC te_103_150 mt_102 (args := [.inr 21, .inl x2]) (rest := []) (c' := 0) (s' := 0) rfl rfl rfl rfl rfl rfl rfl rfl rfl rfl ?_
                      refine f_102e hk.1 (by omega) hk.2.2 (fun m50 m50L => ?_)
                      have hF51n : FrS mem m50 := FrS.tr hF47n m50L.frs
                      refine Tx.iincW hC te_103_153 rfl rfl (fun z52 z52i z52e => ?_)
                      unfold InI at z52i z52e
                      first | replace z52e := z52e (by omega) | clear z52e
                      refine Tx.goto hC (t := 67) te_103_156 (by decide) ?_
                      exact Tx.weak (by repeat' (first | exact trivial | exact rfl | constructor)) (ih_67 x3 x4 0 z52 (m0) m50 (by omega) (by
                        first
                        | exact i67_1
                        | exact ⟨fi, by omega, fun j => by rw [m50e, eL]; exact rs j, Or.inl ⟨rfl, ld, fun i => Bt_1⟩⟩
                        | exact ⟨fi, by omega, fun j => by rw [m50e, eL]; exact rs j, Or.inr ⟨rfl, xs, rs97⟩⟩) (by
                        first
                        | exact FfD.shut hP hW i67_1 i67_2 x50 (by omega) i67_0 (fun z => absurd (t9.mpr z) (by omega))
                        | exact FfD.known hP i67_1 i67_2 x50 (by omega) (by omega) m46K hSD
                        | exact FfD.found hP i67_1 i67_2 x50 m46K hSD XB XF
                        | exact FfD.none hP i67_1 i67_2 x50 (by omega) (by omega) m46K XB Xe XN m50L
                        | exact FfD.ring hP hW i67_1 i67_2 x50 (by omega) (by omega) m46K m46N m50L
                        | (refine FfD.ini (x4 := x4) ?_; first | exact ⟨fi, by omega, fun j => by rw [m50e, eL]; exact rs j, Or.inl ⟨rfl, ld, fun i => Bt_1⟩⟩ | exact ⟨fi, by omega, fun j => by rw [m50e, eL]; exact rs j, Or.inr ⟨rfl, xs, rs97⟩⟩)) (by omega) hF51n)
      refine Tx.iload_n hC te_103_11 rfl ?_
      refine Tx.aload_n hC te_103_12 rfl ?_
      refine Tx.getI hC te_103_13 rfl rfl rfl (fun v53 v53e v53i => ?_)
      unfold InI at v53i
      rw [FrS.at hF_11 21 _ (by unfold pSk; omega)] at v53e
      refine Tx.icmp hC (t := 172) te_103_16 (by decide) (fun q54 => ?_) (fun q54 => ?_)
      · replace q54 : v53 ≤ (x2 : Int) := q54
        refine Tx.iconst hC te_103_172 rfl ?_
        exact Tx.bret hC te_103_173 rfl (by omega) (show K 1 m_11 from H1 _ hF_11 (i11_1.fin hP hW (by omega)))
      · replace q54 : ¬ (v53 ≤ (x2 : Int)) := q54
        refine Tx.aload_n hC te_103_19 rfl ?_
        refine Tx.aload_n hC te_103_20 rfl ?_
        refine Tx.iload_n hC te_103_21 rfl ?_
        refine Tx.virtI hC te_103_22 mt_105 (args := [.inr 21, .inl x2]) (rest := [.inr 21]) (c' := 0) (s' := 0) rfl rfl rfl rfl rfl rfl rfl rfl rfl rfl ?_
        refine f_105e hS11.1 (by omega) (fun j l => by have := LnkB.lt hP hS11 i11_1.2.2.1 (by omega) l; omega) (fun r55 r55s r55i => ?_)
        have rs := r55s
        unfold InI at r55i
        refine Tx.putI hC te_103_25 rfl rfl rfl rfl ?_
        have hF59 : FrS mem (upm m_11 21 3 r55) := FrS.up hF_11 (by unfold pSk; omega) (by omega)
        have m58e : (upm m_11 21 3 r55) 21 3 = r55 := upm_eq
        have m58n : ∀ B j, ¬ (B = 21 ∧ j = 3) → (upm m_11 21 3 r55) B j = m_11 B j := fun B j q => upm_ne q
        generalize upm m_11 21 3 r55 = m58 at hF59 m58e m58n ⊢
        have fi : FfI p W m58 x2 := i11_1.cg (fun A i q => m58n A i q)
        have eL : LnkB m58 = LnkB m_11 := LnkB.cgf (fun A i q => m58n A i (by omega))
        have hn58 := fi.1.2.1
        refine Tx.aload_n hC te_103_28 rfl ?_
        refine Tx.getI hC te_103_29 rfl rfl rfl (fun v60 v60e v60i => ?_)
        unfold InI at v60i
        have n29 := v60e
        rw [m58e] at n29
        refine Tx.aload_n hC te_103_32 rfl ?_
        refine Tx.getI hC te_103_33 rfl rfl rfl (fun v61 v61e v61i => ?_)
        unfold InI at v61i
        have n33 := v61e
        refine Tx.bits hC (f := (fun (x y : Int32) => x &&& y)) te_103_36 (fun _ _ _ _ => Iff.rfl) (fun b62 b62e b62i => ?_)
        unfold InI at b62i
        have zz := Bt_z b62e
        have aa : ∀ a, Bt b62 a ↔ LnkB m_11 x2.toNat a ∧ (a : Int) < x2 := fun a => by rw [Bt_and b62e, n29, n33, rs a, fi.2.1.1 a]
        refine Tx.ifc hC (t := 44) te_103_37 (by decide) (fun q63 => ?_) (fun q63 => ?_)
        · replace q63 : ¬ (b62 : Int) = 0 := q63
          have xs : ∃ a : Nat, (a : Int) < x2 ∧ LnkB m58 x2.toNat a := Classical.byContradiction fun z => absurd (zz.mpr fun a g => z ⟨a, ((aa a).mp g).2, by rw [eL]; exact ((aa a).mp g).1⟩) (by assumption)
          refine Tx.iconst hC te_103_44 rfl ?_
          refine Tx.istore_n hC te_103_45 rfl ?_
          refine Tx.iload_n hC te_103_46 rfl ?_
          refine Tx.ifc hC (t := 54) te_103_47 (by decide) (fun q => ?_) (fun q => absurd (show (0 : Int) = 0 by decide) q)
          refine Tx.aload_n hC te_103_54 rfl ?_
          refine Tx.iload_n hC te_103_55 rfl ?_
          refine Tx.virtI hC te_103_56 mt_97 (args := [.inr 21, .inl x2]) (rest := []) (c' := 0) (s' := 0) rfl rfl rfl rfl rfl rfl rfl rfl rfl rfl ?_
          refine f_97e (fi.1.skm fi.2.1) (by omega) (fun r64 r64s r64i => ?_)
          have rs97 := r64s
          unfold InI at r64i
          refine Tx.istore hC te_103_59 rfl ?_
          refine Tx.iconst hC te_103_61 rfl ?_
          refine Tx.istore hC te_103_62 rfl ?_
          refine Tx.iconst hC te_103_64 rfl ?_
          refine Tx.istore hC te_103_65 rfl ?_
          exact l_67 _ 0 r64 0 0 (m58) m58 (by omega) (by
            first
            | exact i67_1
            | exact ⟨fi, by omega, fun j => by rw [m58e, eL]; exact rs j, Or.inl ⟨rfl, ld, fun i => Bt_1⟩⟩
            | exact ⟨fi, by omega, fun j => by rw [m58e, eL]; exact rs j, Or.inr ⟨rfl, xs, rs97⟩⟩) (by
            first
            | exact FfD.shut hP hW i67_1 i67_2 x50 (by omega) i67_0 (fun z => absurd (t9.mpr z) (by omega))
            | exact FfD.known hP i67_1 i67_2 x50 (by omega) (by omega) X hSD
            | exact FfD.found hP i67_1 i67_2 x50 X hSD XB XF
            | exact FfD.none hP i67_1 i67_2 x50 (by omega) (by omega) X XB Xe XN XL
            | exact FfD.ring hP hW i67_1 i67_2 x50 (by omega) (by omega) X XN XL
            | (refine FfD.ini (x4 := r64) ?_; first | exact ⟨fi, by omega, fun j => by rw [m58e, eL]; exact rs j, Or.inl ⟨rfl, ld, fun i => Bt_1⟩⟩ | exact ⟨fi, by omega, fun j => by rw [m58e, eL]; exact rs j, Or.inr ⟨rfl, xs, rs97⟩⟩)) (Nat.lt_succ_self _) hF59
        · replace q63 : ¬ (¬ (b62 : Int) = 0) := q63
          have ld : ∀ a : Nat, (a : Int) < x2 → ¬ LnkB m58 x2.toNat a := fun a ha g => zz.mp (by omega) a ((aa a).mpr ⟨by rw [← eL]; exact g, ha⟩)
          refine Tx.iconst hC te_103_40 rfl ?_
          refine Tx.goto hC (t := 45) te_103_41 (by decide) ?_
          refine Tx.istore_n hC te_103_45 rfl ?_
          refine Tx.iload_n hC te_103_46 rfl ?_
          refine Tx.ifc hC (t := 54) te_103_47 (by decide) (fun q => absurd q (show ¬ ((1 : Int) = 0) by decide)) (fun q => ?_)
          refine Tx.iconst hC te_103_50 rfl ?_
          refine Tx.goto hC (t := 59) te_103_51 (by decide) ?_
          refine Tx.istore hC te_103_59 rfl ?_
          refine Tx.iconst hC te_103_61 rfl ?_
          refine Tx.istore hC te_103_62 rfl ?_
          refine Tx.iconst hC te_103_64 rfl ?_
          refine Tx.istore hC te_103_65 rfl ?_
          exact l_67 _ 1 1 0 0 (m58) m58 (by omega) (by
            first
            | exact i67_1
            | exact ⟨fi, by omega, fun j => by rw [m58e, eL]; exact rs j, Or.inl ⟨rfl, ld, fun i => Bt_1⟩⟩
            | exact ⟨fi, by omega, fun j => by rw [m58e, eL]; exact rs j, Or.inr ⟨rfl, xs, rs97⟩⟩) (by
            first
            | exact FfD.shut hP hW i67_1 i67_2 x50 (by omega) i67_0 (fun z => absurd (t9.mpr z) (by omega))
            | exact FfD.known hP i67_1 i67_2 x50 (by omega) (by omega) X hSD
            | exact FfD.found hP i67_1 i67_2 x50 X hSD XB XF
            | exact FfD.none hP i67_1 i67_2 x50 (by omega) (by omega) X XB Xe XN XL
            | exact FfD.ring hP hW i67_1 i67_2 x50 (by omega) (by omega) X XN XL
            | (refine FfD.ini (x4 := 1) ?_; first | exact ⟨fi, by omega, fun j => by rw [m58e, eL]; exact rs j, Or.inl ⟨rfl, ld, fun i => Bt_1⟩⟩ | exact ⟨fi, by omega, fun j => by rw [m58e, eL]; exact rs j, Or.inr ⟨rfl, xs, rs97⟩⟩)) (Nat.lt_succ_self _) hF59
  refine Tx.aload_n hC te_103_0 rfl ?_
  refine Tx.aload_n hC te_103_1 rfl ?_
  refine Tx.virtV hC te_103_2 mt_104 (args := [.inr 21, .inr 20]) (rest := []) (c' := 0) (s' := 0) rfl rfl rfl rfl rfl rfl rfl rfl rfl rfl ?_
  refine f_104e hff.1.1 (fun m68 m68F m68a m68b => ?_)
  have hF69n : FrS mem m68 := FrS.tr FrS.rf ⟨m68F.mono (fun A i q => by unfold pRt at q; unfold pSk; omega), fun o => Or.inl (m68F 22 o (by unfold pRt; omega))⟩
  refine Tx.aload_n hC te_103_5 rfl ?_
  refine Tx.virtV hC te_103_6 mt_89 (args := [.inr 21]) (rest := []) (c' := 0) (s' := 0) rfl rfl rfl rfl rfl rfl rfl rfl rfl rfl ?_
  refine f_89e (hff.1.1.cg (fun A i q => m68F A i (by unfold pRt; omega))) (fun m71 m71F m71a => ?_)
  have hF72n : FrS mem m71 := FrS.tr hF69n ⟨m71F.mono (fun A i q => by unfold pR35 at q; unfold pSk; omega), fun o => Or.inl (m71F 22 o (by unfold pR35; omega))⟩
  refine Tx.iconst hC te_103_9 rfl ?_
  refine Tx.istore_n hC te_103_10 rfl ?_
  exact l_11 _ 0 m71 (by omega) (by
    first
    | exact i67_2.one (by omega) (by omega)
    | exact FfP.ini hP hff htw m68F m68a m68b m71F m71a) (Nat.lt_succ_self _) hF72n
end
section
/-! laid by wip/hand/tg.py: the seeker, exactly -/
def CPb (m : MM) (d : Int) : Prb := ((m 1 0).toNat, cUn m, cBu m, fun u => m 8 u, d, EdQ (cwq m 9) (m 9 0).toNat d)
def smK (f : Int → Int) : Nat → Int
  | 0 => 0
  | d + 1 => smK f d + f d
theorem smK_le {f : Int → Int} {c : Int} : ∀ d : Nat, (∀ k : Int, 0 ≤ k → k < d → f k ≤ c) → smK f d ≤ d * c
  | 0, _ => by
    show (0 : Int) ≤ ((0 : Nat) : Int) * c
    omega
  | d + 1, h => by
    have a := smK_le d (fun k h0 h1 => h k h0 (by omega))
    have b := h d (by omega) (by omega)
    show smK f d + f d ≤ ((d + 1 : Nat) : Int) * c
    rw [show ((d + 1 : Nat) : Int) = (d : Int) + 1 by omega, Int.add_mul, Int.one_mul]
    omega
theorem smK_cg {f g : Int → Int} : ∀ d : Nat, (∀ k : Int, 0 ≤ k → k < d → f k = g k) → smK f d = smK g d
  | 0, _ => rfl
  | d + 1, h => by
    show smK f d + f d = smK g d + g d
    rw [smK_cg d (fun k h0 h1 => h k h0 (by omega)), h d (by omega) (by omega)]
theorem smK_add {f g : Int → Int} : ∀ d : Nat, smK (fun k => f k + g k) d = smK f d + smK g d
  | 0 => rfl
  | d + 1 => by
    show smK (fun k => f k + g k) d + (f d + g d) = smK f d + f d + (smK g d + g d)
    rw [smK_add d]
    omega
theorem smK_one {P : Prop} {hp : Decidable P} {j : Int} (h0 : 0 ≤ j) : ∀ d : Nat, smK (fun k => if P ∧ j = k then 1 else 0) d = if P ∧ j < d then 1 else 0
  | 0 => by
    rw [if_neg (by omega)]
    rfl
  | d + 1 => by
    have h := smK_one (P := P) (hp := hp) h0 d
    show smK (fun k => if P ∧ j = k then 1 else 0) d + (if P ∧ j = (d : Int) then 1 else 0) = _
    rw [h]
    by_cases q : P
    · simp only [q, true_and]
      split <;> split <;> split <;> omega
    · simp only [q, false_and, if_false]
      rfl
theorem smK_us1 {d s bu : Int} (hd : 0 < d) : smK (us1 d s bu) d.toNat = popI bu := by
  have r : ∀ x : Int, 0 ≤ x % d ∧ x % d < ((d.toNat : Nat) : Int) := fun x => ⟨Int.emod_nonneg _ (by omega), by have := Int.emod_lt_of_pos x hd; omega⟩
  have one : ∀ (P : Prop) (_ : Decidable P) (x : Int), smK (fun k => if P ∧ x % d = k then 1 else 0) d.toNat = if P then 1 else 0 := fun P _ x => by
    rw [smK_one (r x).1]
    by_cases q : P
    · rw [if_pos ⟨q, (r x).2⟩, if_pos q]
    · rw [if_neg (fun z => q z.1), if_neg q]
  have e : us1 d s bu = fun k => (((if bu % 2 = 1 ∧ s % d = k then 1 else 0) + (if bu / 2 % 2 = 1 ∧ (s + 1) % d = k then 1 else 0)) + (if bu / 4 % 2 = 1 ∧ (s + 2) % d = k then 1 else 0)) + (if bu / 8 % 2 = 1 ∧ (s + 3) % d = k then 1 else 0) := funext fun k => rfl
  rw [e, smK_add, smK_add, smK_add, one, one, one, one]
  unfold popI
  split <;> split <;> split <;> split <;> omega
theorem smK_z {d : Nat} : smK (fun _ => 0) d = 0 := by
  induction d with
  | zero => rfl
  | succ d ih =>
    show smK (fun _ => 0) d + 0 = 0
    rw [ih]
    rfl
theorem smK_us {p : Prb} {s : Nat → Int} {u : Int} (hd : 0 < p.d) : ∀ n : Nat, smK (fun k => p.us s u k n) p.d.toNat = usN p.un p.bu u n
  | 0 => smK_z
  | n + 1 => by
    have e : (fun k => p.us s u k (n + 1)) = fun k => p.us s u k n + cIf (p.un n = u) (us1 p.d (s n) (p.bu n) k) 0 := funext fun k => us_st
    rw [e, smK_add, smK_us hd n]
    show _ = usN p.un p.bu u n + (if p.un n = u then popI (p.bu n) else 0)
    congr 1
    by_cases q : p.un n = u
    · rw [if_pos q, ← smK_us1 (s := s n) hd]
      exact smK_cg _ (fun k _ _ => cIf.y q)
    · rw [if_neg q]
      exact (smK_cg _ (fun k _ _ => cIf.n q)).trans smK_z
theorem fsb_uses {p : Prb} {v : Nat → Int} (hd : 0 < p.d) (h : Fsb p v) {u : Int} (hu : 0 ≤ u ∧ u < 3) : usN p.un p.bu u p.n ≤ p.d * p.ct u.toNat := by
  rw [← smK_us (s := v) hd p.n]
  have g := smK_le (f := fun k => p.us v u k p.n) (c := p.ct u.toNat) p.d.toNat (fun k h0 h1 => h.2.1 u k hu.1 hu.2 h0 (by omega))
  rw [show ((p.d.toNat : Nat) : Int) = p.d by omega] at g
  exact g
theorem us_pos {p : Prb} {s : Nat → Int} {u k : Int} : ∀ m : Nat, 0 ≤ p.us s u k m
  | 0 => Int.le_refl _
  | m + 1 => by
    have a := us_pos (p := p) (s := s) (u := u) (k := k) m
    have b := us1_rg (d := p.d) (s := s m) (bu := p.bu m) (k := k)
    have c := cIf.rg (c := p.un m = u) b (show (0 : Int) ≤ 0 ∧ (0 : Int) ≤ 4 by omega)
    rw [us_st]
    omega
theorem us_ge {p : Prb} {s : Nat → Int} {u k : Int} {o : Nat} (e : p.un o = u) : ∀ m : Nat, o < m → us1 p.d (s o) (p.bu o) k ≤ p.us s u k m
  | 0, h => absurd h (by omega)
  | m + 1, h => by
    rw [us_st]
    by_cases q : o = m
    · subst q
      have a := us_pos (p := p) (s := s) (u := u) (k := k) o
      rw [cIf.y e]
      omega
    · have a := us_ge (s := s) (k := k) e m (by omega)
      have b := us1_rg (d := p.d) (s := s m) (bu := p.bu m) (k := k)
      have c := cIf.rg (c := p.un m = u) b (show (0 : Int) ≤ 0 ∧ (0 : Int) ≤ 4 by omega)
      omega
theorem fsb_ask {p : Prb} {v : Nat → Int} (hd : 0 < p.d) (h : Fsb p v) {o r : Nat} (ho : o < p.n) (hu : 0 ≤ p.un o ∧ p.un o < 3) (hr : r < 4) : ask p.d (p.bu o) r ≤ p.ct (p.un o).toNat := by
  have z0 := Int.emod_nonneg (v o + (r : Int)) (show p.d ≠ 0 by omega)
  have z1 := Int.emod_lt_of_pos (v o + (r : Int)) hd
  have g := h.2.1 (p.un o) ((v o + (r : Int)) % p.d) hu.1 hu.2 z0 z1
  have a := us_ge (p := p) (s := v) (k := (v o + (r : Int)) % p.d) (o := o) rfl p.n ho
  rw [us1_spr hd] at a
  by_cases q : (r : Int) < p.d
  · rw [spr_at hd ⟨by omega, by omega, q⟩] at a
    omega
  · have := us_pos (p := p) (s := v) (u := p.un o) (k := (v o + (r : Int)) % p.d) p.n
    rw [ask_out hd (Or.inl (by omega))]
    omega
theorem emod_le0 {x d : Int} (h0 : 0 ≤ x) (hd : 0 < d) : x % d ≤ x := by
  have a := Int.mul_ediv_add_emod x d
  have b := Int.mul_nonneg (show 0 ≤ d by omega) (Int.ediv_nonneg h0 (show 0 ≤ d by omega))
  omega
def AkI (m : MM) (d b c : Int) (o : Nat) (x : Int) : Prop := ∀ k : Nat, k < 4 → m 27 (4 * o + k) = askN d b k x.toNat ∧ m 27 (4 * o + k) ≤ c
theorem AkI.ini {m : MM} {d b c : Int} {o : Nat} (h : ∀ k : Nat, (k : Int) < 4 → m 27 (4 * o + k) = 0) (hc : 0 ≤ c) : AkI m d b c o 0 := fun k hk => by
  rw [h k (by omega)]
  exact ⟨rfl, hc⟩
theorem askN_n {d b x y : Int} {k : Nat} (e : y = x + 1) (h0 : 0 ≤ x) : askN d b k y.toNat = askN d b k x.toNat + (if b / pw4 x.toNat % 2 = 1 ∧ ((x.toNat : Nat) : Int) % d = k then 1 else 0) := by
  rw [show y.toNat = x.toNat + 1 by omega]
  rfl
theorem AkI.skip {m : MM} {d b c x y : Int} {o : Nat} (h : AkI m d b c o x) (e : y = x + 1) (h0 : 0 ≤ x ∧ x < 4) (hb : 0 ≤ b ∧ b ≤ 15) (nb : ¬ Bt b x.toNat) : AkI m d b c o y := fun k hk => by
  rw [askN_n e h0.1, if_neg (fun z => nb ((Bt_4 hb (by omega)).mpr z.1)), Int.add_zero]
  exact h k hk
theorem AkI.hit {m : MM} {d b c x y z8 z9 v w : Int} {o : Nat} (h : AkI m d b c o x) (h0 : 0 ≤ x ∧ x < 4) (hb : 0 ≤ b ∧ b ≤ 15) (hd : 1 ≤ d ∧ d ≤ 12) (bt : Bt b x.toNat) (e8 : z8 = x % d) (e9 : z9 = 4 * (o : Int) + z8) (ev : v = m 27 z9.toNat) (ew : w = v + 1) : (w ≤ c → y = x + 1 → AkI (upm m 27 z9.toNat w) d b c o y) ∧ (c < w → ∃ r : Nat, r < 4 ∧ c < ask d b r) := by
  have r0 := Int.emod_nonneg x (show d ≠ 0 by omega)
  have r1 : x % d ≤ x := emod_le0 h0.1 (by omega)
  have bv := (Bt_4 hb (show x.toNat < 4 by omega)).mp bt
  have hk := h (x % d).toNat (by omega)
  have ez : z9.toNat = 4 * o + (x % d).toNat := by omega
  rw [← ez] at hk
  have xx : ((x.toNat : Nat) : Int) = x := by omega
  have er : (((x % d).toNat : Nat) : Int) = x % d := by omega
  have st : askN d b (((x % d).toNat : Nat) : Int) (x + 1).toNat = w := by
    rw [askN_n rfl h0.1, if_pos ⟨bv, by rw [xx, er]⟩, ← hk.1]
    omega
  refine ⟨fun hw e k hk2 => ?_, fun hw => ⟨(x % d).toNat, by omega, ?_⟩⟩
  · rw [askN_n e h0.1]
    by_cases q : (k : Int) = x % d
    · rw [show 4 * o + k = z9.toNat by omega, upm_eq, if_pos ⟨bv, by rw [xx]; exact q.symm⟩]
      have kk : k = (x % d).toNat := by omega
      rw [kk, ← hk.1]
      omega
    · rw [upm_ne (by omega), if_neg (fun z => q (by rw [← xx]; exact z.2.symm)), Int.add_zero]
      exact h k hk2
  · have le := askN_le (d := d) (bu := b) (r := (((x % d).toNat : Nat) : Int)) (i := (x + 1).toNat) 4 (by omega)
    rw [st] at le
    unfold ask
    omega
theorem cUn_k7 {mem m : MM} (h : Frm pK7 mem m) : cUn m = cUn mem := funext fun o => by
  unfold cUn
  rw [h 2 o (by unfold pK7; omega), h 5 _ (by unfold pK7; omega)]
theorem cBu_k7 {mem m : MM} (h : Frm pK7 mem m) : cBu m = cBu mem := funext fun o => by
  unfold cBu
  rw [h 2 o (by unfold pK7; omega), h 7 _ (by unfold pK7; omega)]
theorem usC_k7 {mem m : MM} {u : Int} (h : Frm pK7 mem m) : usC m u = usC mem u := by
  unfold usC
  rw [cUn_k7 h, cBu_k7 h, h 1 0 (by unfold pK7; omega)]
theorem shl1_13 : ∀ k : Nat, k < 14 → 1 ≤ ((Int32.ofInt 1) <<< ((Int32.ofInt ((k : Nat) : Int)) &&& 31)).toInt := by decide +kernel
theorem shl1_ge {d b : Int} (hd : 0 ≤ d ∧ d < 14) (e : b = ((fun (x y : Int32) => x <<< (y &&& 31)) (Int32.ofInt 1) (Int32.ofInt d)).toInt) : 1 ≤ b := by
  have h := shl1_13 d.toNat (by omega)
  rw [show ((d.toNat : Nat) : Int) = d by omega] at h
  rw [e]
  exact h
def TkF (mem m : MM) (d : Int) : Prop := m 21 0 = mem 1 0 ∧ m 21 1 = d ∧ (∀ i : Nat, Bt (m 21 2) i ↔ (i : Int) < d) ∧ m 21 4 = 0 ∧ ∀ o, o < 8 → 0 ≤ m 24 o ∧ m 24 o ≤ 2
def TkV (mem m : MM) (d x : Int) : Prop := ∀ u : Nat, (u : Int) < x → m 25 u = mem 8 u ∧ m 26 u = 0 ∧ (m 28 (4 * u + 1) = 0 ∧ m 28 (4 * u + 2) = 0 ∧ m 28 (4 * u + 3) = 0)
def TkO (mem m : MM) (d x : Int) : Prop := (∀ u : Nat, u < 3 → m 25 u = mem 8 u ∧ (m 28 (4 * u + 1) = 0 ∧ m 28 (4 * u + 2) = 0 ∧ m 28 (4 * u + 3) = 0) ∧ ∀ j : Nat, Bt (m 26 u) j ↔ (j : Int) < x ∧ cUn mem j = (u : Int)) ∧ ∀ o : Nat, (o : Int) < x → m 24 o = cUn mem o ∧ ∀ r : Nat, r < 4 → m 27 (4 * o + r) = ask d (cBu mem o) r ∧ ask d (cBu mem o) r ≤ mem 8 (cUn mem o).toNat
section TAKE
variable {mem m m' : MM} {d x y u : Int}
theorem TkF.up {A i : Nat} (h : TkF mem m d) (e : ∀ B j, ¬ (B = A ∧ j = i) → m' B j = m B j) (q : ¬ A = 21 ∧ ¬ A = 24) : TkF mem m' d := by
  obtain ⟨h1, h2, h3, h4, h5⟩ := h
  refine ⟨by rw [e 21 0 (by omega)]; exact h1, by rw [e 21 1 (by omega)]; exact h2, by rw [e 21 2 (by omega)]; exact h3, by rw [e 21 4 (by omega)]; exact h4, fun o ho => by rw [e 24 o (by omega)]; exact h5 o ho⟩
theorem TkF.up24 {i : Nat} {x : Int} (h : TkF mem m d) (e : ∀ B j, ¬ (B = 24 ∧ j = i) → m' B j = m B j) (ex : m' 24 i = x) (q : 0 ≤ x ∧ x ≤ 2) : TkF mem m' d := by
  obtain ⟨h1, h2, h3, h4, h5⟩ := h
  refine ⟨by rw [e 21 0 (by omega)]; exact h1, by rw [e 21 1 (by omega)]; exact h2, by rw [e 21 2 (by omega)]; exact h3, by rw [e 21 4 (by omega)]; exact h4, fun o ho => ?_⟩
  by_cases w : o = i
  · subst w; rw [ex]; exact q
  · rw [e 24 o (by omega)]; exact h5 o ho
theorem TkF.bz {o : Int} (h : TkF mem m d) (e : Frm (pBz o) m m') : TkF mem m' d := by
  obtain ⟨h1, h2, h3, h4, h5⟩ := h
  have e2 : ∀ A i, ¬ A = 27 → m' A i = m A i := fun A i q => e A i (by unfold pBz; omega)
  refine ⟨by rw [e2 21 0 (by omega)]; exact h1, by rw [e2 21 1 (by omega)]; exact h2, by rw [e2 21 2 (by omega)]; exact h3, by rw [e2 21 4 (by omega)]; exact h4, fun o ho => by rw [e2 24 o (by omega)]; exact h5 o ho⟩
theorem TkV.nxt (h : TkV mem m d x) (e : y = x + 1) (h0 : 0 ≤ x ∧ x < 3) (er : ∀ B j, (B = 25 ∨ B = 26) → ¬ j = x.toNat → m' B j = m B j) (e28 : ∀ j, ¬ (4 * x.toNat ≤ j ∧ j < 4 * x.toNat + 4) → m' 28 j = m 28 j) (c1 : m' 25 x.toNat = mem 8 x.toNat) (c2 : m' 26 x.toNat = 0) (c3 : m' 28 (4 * x.toNat + 1) = 0) (c4 : m' 28 (4 * x.toNat + 2) = 0) (c5 : m' 28 (4 * x.toNat + 3) = 0) : TkV mem m' d y := fun v hv => by
  by_cases q : v = x.toNat
  · subst q; exact ⟨c1, c2, c3, c4, c5⟩
  · rw [er 25 v (by omega) q, er 26 v (by omega) q, e28 _ (by omega), e28 _ (by omega), e28 _ (by omega)]
    exact h v (by omega)
theorem TkV.out (h : TkV mem m d x) (q : 3 ≤ x) : TkO mem m d 0 := ⟨fun u hu => by
  obtain ⟨h1, h2, h3⟩ := h u (by omega)
  exact ⟨h1, h3, fun j => by rw [h2]; exact ⟨fun z => absurd z Bt_0, fun z => absurd z.1 (by omega)⟩⟩, fun o ho => absurd ho (by omega)⟩
theorem TkO.nxt (h : TkO mem m d x) (e : y = x + 1) (h0 : 0 ≤ x) (hu : u = cUn mem x.toNat) (ur : 0 ≤ u ∧ u ≤ 2) (F : ∀ A i, ¬ (A = 24 ∧ i = x.toNat) → ¬ (A = 26 ∧ i = u.toNat) → ¬ (A = 27 ∧ 4 * x.toNat ≤ i ∧ i < 4 * x.toNat + 4) → m' A i = m A i) (c24 : m' 24 x.toNat = u) (c26 : ∀ j : Nat, Bt (m' 26 u.toNat) j ↔ Bt (m 26 u.toNat) j ∨ (j : Int) = x) (c27 : ∀ r : Nat, r < 4 → m' 27 (4 * x.toNat + r) = ask d (cBu mem x.toNat) r ∧ ask d (cBu mem x.toNat) r ≤ mem 8 u.toNat) : TkO mem m' d y := by
  refine ⟨fun v hv => ?_, fun o ho => ?_⟩
  · obtain ⟨h1, h2, h3⟩ := h.1 v hv
    refine ⟨by rw [F 25 v (by omega) (by omega) (by omega)]; exact h1, by rw [F 28 _ (by omega) (by omega) (by omega), F 28 _ (by omega) (by omega) (by omega), F 28 _ (by omega) (by omega) (by omega)]; exact h2, fun j => ?_⟩
    by_cases q : v = u.toNat
    · rw [q, c26 j, ← q, h3 j]
      have uv : u = (v : Int) := by omega
      constructor
      · rintro (w | w)
        · exact ⟨by omega, w.2⟩
        · exact ⟨by omega, by rw [← uv, hu]; congr 1; omega⟩
      · intro w
        by_cases c : (j : Int) < x
        · exact Or.inl ⟨c, w.2⟩
        · exact Or.inr (by omega)
    · rw [F 26 v (by omega) (by omega) (by omega), h3 j]
      constructor
      · exact fun w => ⟨by omega, w.2⟩
      · intro w
        refine ⟨?_, w.2⟩
        by_cases c : (j : Int) < x
        · exact c
        · exfalso
          have w2 := w.2
          rw [show j = x.toNat by omega, ← hu] at w2
          omega
  · by_cases q : o = x.toNat
    · subst q
      exact ⟨c24.trans hu, fun r hr => by rw [← hu]; exact c27 r hr⟩
    · rw [F 24 o (by omega) (by omega) (by omega)]
      refine ⟨(h.2 o (by omega)).1, fun r hr => ?_⟩
      rw [F 27 _ (by omega) (by omega) (by omega)]
      exact (h.2 o (by omega)).2 r hr
theorem TkO.ffp (hB : BodyOK mem) (hd : 1 ≤ d ∧ d ≤ 12) (hF : TkF mem m d) (h : TkO mem m d x) (q : mem 1 0 = x) : FfP (CPb mem d) m := by
  obtain ⟨h1, h2, h3, h4, h5⟩ := hF
  have h8 := hB.1
  have pn : (CPb mem d).n = (mem 1 0).toNat := rfl
  have pd : (CPb mem d).d = d := rfl
  refine ⟨⟨⟨by omega, ⟨h2, hd⟩, h5, fun u hu => ?_, fun o r ho hr => ?_⟩, by rw [pn]; omega⟩, h3, fun o ho => ⟨(h.2 o (by omega)).1, fun r hr => ((h.2 o (by omega)).2 r hr).1⟩, fun u hu => (h.1 u hu).1, fun u hu j => ?_, fun i => by rw [h4]; exact Bt_0, fun u hu => ?_⟩
  · rw [(h.1 u (by omega)).1]; exact hB.cn (o := u) (by omega)
  · have g := h.2 o (by omega)
    have a := g.2 r hr
    have u2 := h5 o (by omega)
    have k := ask_rg (d := d) (bu := cBu mem o) (r := (r : Int))
    rw [g.1] at u2 ⊢
    rw [a.1, (h.1 (cUn mem o).toNat (by omega)).1]
    exact ⟨k.1, a.2⟩
  · rw [(h.1 u hu).2.2 j]
    show _ ↔ j < (mem 1 0).toNat ∧ cUn mem j = (u : Int)
    exact ⟨fun w => ⟨by omega, w.2⟩, fun w => ⟨by omega, w.2⟩⟩
  · intro k y h1 h2
    have z := (h.1 u hu).2.1
    have zz : m 28 (4 * u + k) = 0 := by
      rcases (show k = 1 ∨ k = 2 ∨ k = 3 by omega) with rfl | rfl | rfl
      · exact z.1
      · exact z.2.1
      · exact z.2.2
    show Bt (m 28 (4 * u + k)) y ↔ (y : Int) < d ∧ (k : Int) ≤ 0
    rw [zz]
    exact ⟨fun w => absurd w Bt_0, fun w => by omega⟩
end TAKE
theorem f_88e {S : Nat × (Nat → Int32)} {n : Nat} {mem : MM} {K : Int → MM → Prop} {E : Nat → MM → Prop} {o b d : Int} (ho : 0 ≤ o ∧ o < 8) (h1 : mem 21 1 = d) (hd : 1 ≤ d ∧ d ≤ 12) (hb : 0 ≤ b ∧ b ≤ 15) (hu : 0 ≤ mem 24 o.toNat ∧ mem 24 o.toNat ≤ 2) (hc : 1 ≤ mem 25 (mem 24 (Int.toNat o)).toNat ∧ mem 25 (mem 24 (Int.toNat o)).toNat ≤ 3) (H1 : ∀ m', Frm (pBz o) mem m' → (∀ r : Nat, r < 4 → m' 27 (4 * o.toNat + r) = ask d b r ∧ ask d b r ≤ mem 25 (mem 24 (Int.toNat o)).toNat) → K 1 m') (H0 : ∀ m', Frm (pBz o) mem m' → (∃ r : Nat, r < 4 ∧ mem 25 (mem 24 (Int.toNat o)).toNat < ask d b r) → K 0 m') : CQI (Ex S (n + 1)) 88 [.inr 21, .inl o, .inl b] mem K E := by
  refine CY.of (k := 2) mt_88 rfl rfl (fun hv => ?_)
  have hC := Ex.mono S n
  have ii_o : InI o := hv (.inl o) (by simp)
  unfold InI at ii_o
  have ii_b : InI b := hv (.inl b) (by simp)
  unfold InI at ii_b
  clear hv
  show Tx (Ex S n) S M_88 (kI K E) 0 0 0 [some (.inr 21), some (.inl o), some (.inl b), none, none] [] mem
  have l_26 : ∀ (N : Nat) (x3 : Int) (m_26 : MM), (0 ≤ x3 ∧ x3 ≤ 4) → (AkI m_26 d b (mem 25 (mem 24 (Int.toNat o)).toNat) o.toNat x3) → ((4 - x3).toNat) < N → Frm (pBz o) mem m_26 → Tx (Ex S n) S M_88 (kI K E) 0 0 26 [some (.inr 21), some (.inl o), some (.inl b), some (.inl x3), none] [] m_26 := by
    intro N
    induction N with
    | zero => intros; omega
    | succ N ih_26 =>
      intro x3 m_26 i26_0 i26_1 hN_26 hF_26
      refine Tx.iload_n hC te_88_26 rfl ?_
      refine Tx.iconst hC te_88_27 rfl ?_
      refine Tx.icmp hC (t := 91) te_88_28 (by decide) (fun q1 => ?_) (fun q1 => ?_)
      · replace q1 : 4 ≤ (x3 : Int) := q1
        refine Tx.iconst hC te_88_91 rfl ?_
        exact Tx.bret hC te_88_92 rfl (by omega) (show K 1 m_26 from H1 _ hF_26 (fun r hr => by
          have w := i26_1 r hr
          rw [show x3.toNat = 4 by omega] at w
          exact ⟨w.1, by have z := w.1; unfold ask; omega⟩))
      · replace q1 : ¬ (4 ≤ (x3 : Int)) := q1
        refine Tx.iload_n hC te_88_31 rfl ?_
        refine Tx.iconst hC te_88_32 rfl ?_
        refine Tx.iload_n hC te_88_33 rfl ?_
        refine Tx.bits hC (f := (fun (x y : Int32) => x <<< (y &&& 31))) te_88_34 (fun _ _ _ _ => Iff.rfl) (fun b2 b2e b2i => ?_)
        unfold InI at b2i
        refine Tx.bits hC (f := (fun (x y : Int32) => x &&& y)) te_88_35 (fun _ _ _ _ => Iff.rfl) (fun b3 b3e b3i => ?_)
        unfold InI at b3i
        have t3 := Bt_tst (o := x3) (by omega) (by assumption) b3e
        refine Tx.ifc hC (t := 85) te_88_36 (by decide) (fun q4 => ?_) (fun q4 => ?_)
        · replace q4 : (b3 : Int) = 0 := q4
          refine Tx.iincW hC te_88_85 rfl rfl (fun z5 z5i z5e => ?_)
          unfold InI at z5i z5e
          first | replace z5e := z5e (by omega) | clear z5e
          refine Tx.goto hC (t := 26) te_88_88 (by decide) ?_
          exact ih_26 z5 m_26 (by omega) (by first | exact AkI.ini (fun k hk => i2_1 k (by omega)) (by omega) | exact AkI.skip i26_1 (by omega) (by omega) hb (fun z => absurd (t3.mpr z) (by omega)) | exact (@AkI.hit _ _ _ (mem 25 (mem 24 (Int.toNat o)).toNat) _ _ _ _ _ _ _ i26_1 (by omega) hb hd (t3.mp (by assumption)) e8 (show z9 = 4 * ((o.toNat : Nat) : Int) + z8 by omega) v10e z11e).1 (by omega) (by omega)) (by omega) hF_26
        · replace q4 : ¬ ((b3 : Int) = 0) := q4
          refine Tx.iload_n hC te_88_39 rfl ?_
          refine Tx.iconst hC te_88_40 rfl ?_
          refine Tx.imulW hC te_88_41 (fun z6 z6i z6e => ?_)
          unfold InI at z6i z6e
          first | replace z6e := z6e (by omega) | clear z6e
          refine Tx.iload_n hC te_88_42 rfl ?_
          refine Tx.aload_n hC te_88_43 rfl ?_
          refine Tx.getI hC te_88_44 rfl rfl rfl (fun v7 v7e v7i => ?_)
          unfold InI at v7i
          rw [hF_26 21 _ (by unfold pBz; omega)] at v7e
          refine Tx.iremW hC te_88_47 (by omega) (fun z8 z8i z8e z8f => ?_)
          unfold InI at z8i
          have e8 : z8 = x3 % d := by rw [z8e, v7e, h1, Int.tmod_eq_emod_of_nonneg (by omega)]
          refine Tx.iaddW hC te_88_48 (fun z9 z9i z9e => ?_)
          unfold InI at z9i z9e
          first | replace z9e := z9e (by omega) | clear z9e
          refine Tx.istore hC te_88_49 rfl ?_
          refine Tx.aload_n hC te_88_51 rfl ?_
          refine Tx.getR hC te_88_52 rfl rfl rfl ?_
          refine Tx.iload hC te_88_55 rfl ?_
          refine Tx.dup2 hC te_88_57 ?_
          refine Tx.iald hC te_88_58 rfl (by omega) (fun v10 v10e v10i => ?_)
          unfold InI at v10i
          refine Tx.iconst hC te_88_59 rfl ?_
          have er0 := Int.emod_nonneg x3 (show d ≠ 0 by omega)
          have er1 := emod_le0 (x := x3) (d := d) (by omega) (by omega)
          have w := i26_1 (x3 % d).toNat (by omega)
          rw [show 4 * o.toNat + (x3 % d).toNat = z9.toNat by omega, ← v10e] at w
          have av := askN_rg (d := d) (bu := b) (r := (((x3 % d).toNat : Nat) : Int)) x3.toNat
          refine Tx.iaddW hC te_88_60 (fun z11 z11i z11e => ?_)
          unfold InI at z11i z11e
          first | replace z11e := z11e (by omega) | clear z11e
          refine Tx.iast hC te_88_61 rfl (by omega) ?_
          have hF13 : Frm (pBz o) mem (upm m_26 27 (Int.toNat z9) z11) := Frm.up hF_26 (by unfold pBz; omega)
          refine Tx.aload_n hC te_88_62 rfl ?_
          refine Tx.getR hC te_88_63 rfl rfl rfl ?_
          refine Tx.iload hC te_88_66 rfl ?_
          refine Tx.iald hC te_88_68 rfl (by omega) (fun v14 v14e v14i => ?_)
          unfold InI at v14i
          rw [upm_eq] at v14e
          refine Tx.aload_n hC te_88_69 rfl ?_
          refine Tx.getR hC te_88_70 rfl rfl rfl ?_
          refine Tx.aload_n hC te_88_73 rfl ?_
          refine Tx.getR hC te_88_74 rfl rfl rfl ?_
          refine Tx.iload_n hC te_88_77 rfl ?_
          refine Tx.iald hC te_88_78 rfl (by omega) (fun v15 v15e v15i => ?_)
          unfold InI at v15i
          rw [hF13 24 _ (by unfold pBz; omega)] at v15e
          have cu : mem 25 (Int.toNat v15) = mem 25 (mem 24 (Int.toNat o)).toNat := by rw [v15e]
          refine Tx.iald hC te_88_79 rfl (by omega) (fun v16 v16e v16i => ?_)
          unfold InI at v16i
          rw [hF13 25 _ (by unfold pBz; omega)] at v16e
          refine Tx.icmp hC (t := 85) te_88_80 (by decide) (fun q17 => ?_) (fun q17 => ?_)
          · replace q17 : (v14 : Int) ≤ v16 := q17
            refine Tx.iincW hC te_88_85 rfl rfl (fun z18 z18i z18e => ?_)
            unfold InI at z18i z18e
            first | replace z18e := z18e (by omega) | clear z18e
            refine Tx.goto hC (t := 26) te_88_88 (by decide) ?_
            exact Tx.weak (by repeat' (first | exact trivial | exact rfl | constructor)) (ih_26 z18 (upm m_26 27 (Int.toNat z9) z11) (by omega) (by first | exact AkI.ini (fun k hk => i2_1 k (by omega)) (by omega) | exact AkI.skip i26_1 (by omega) (by omega) hb (fun z => absurd (t3.mpr z) (by omega)) | exact (@AkI.hit _ _ _ (mem 25 (mem 24 (Int.toNat o)).toNat) _ _ _ _ _ _ _ i26_1 (by omega) hb hd (t3.mp (by assumption)) e8 (show z9 = 4 * ((o.toNat : Nat) : Int) + z8 by omega) v10e z11e).1 (by omega) (by omega)) (by omega) hF13)
          · replace q17 : ¬ ((v14 : Int) ≤ v16) := q17
            refine Tx.iconst hC te_88_83 rfl ?_
            exact Tx.bret hC te_88_84 rfl (by omega) (show K 0 (upm m_26 27 (Int.toNat z9) z11) from H0 _ hF13 ((@AkI.hit _ _ _ (mem 25 (mem 24 (Int.toNat o)).toNat) _ (x3 + 1) _ _ _ _ _ i26_1 (by omega) hb hd (t3.mp (by assumption)) e8 (show z9 = 4 * ((o.toNat : Nat) : Int) + z8 by omega) v10e z11e).2 (by omega)))
  have l_2 : ∀ (N : Nat) (x3 : Int) (m_2 : MM), (0 ≤ x3 ∧ x3 ≤ 4) → (∀ k : Nat, (k : Int) < x3 → m_2 27 (4 * o.toNat + k) = 0) → ((4 - x3).toNat) < N → Frm (pBz o) mem m_2 → Tx (Ex S n) S M_88 (kI K E) 0 0 2 [some (.inr 21), some (.inl o), some (.inl b), some (.inl x3), none] [] m_2 := by
    intro N
    induction N with
    | zero => intros; omega
    | succ N ih_2 =>
      intro x3 m_2 i2_0 i2_1 hN_2 hF_2
      refine Tx.iload_n hC te_88_2 rfl ?_
      refine Tx.iconst hC te_88_3 rfl ?_
      refine Tx.icmp hC (t := 24) te_88_4 (by decide) (fun q19 => ?_) (fun q19 => ?_)
      · replace q19 : 4 ≤ (x3 : Int) := q19
        refine Tx.iconst hC te_88_24 rfl ?_
        refine Tx.istore_n hC te_88_25 rfl ?_
        exact l_26 _ 0 m_2 (by omega) (by first | exact AkI.ini (fun k hk => i2_1 k (by omega)) (by omega) | exact AkI.skip i26_1 (by omega) (by omega) hb (fun z => absurd (t3.mpr z) (by omega)) | exact (@AkI.hit _ _ _ (mem 25 (mem 24 (Int.toNat o)).toNat) _ _ _ _ _ _ _ i26_1 (by omega) hb hd (t3.mp (by assumption)) e8 (show z9 = 4 * ((o.toNat : Nat) : Int) + z8 by omega) v10e z11e).1 (by omega) (by omega)) (Nat.lt_succ_self _) hF_2
      · replace q19 : ¬ (4 ≤ (x3 : Int)) := q19
        refine Tx.aload_n hC te_88_7 rfl ?_
        refine Tx.getR hC te_88_8 rfl rfl rfl ?_
        refine Tx.iload_n hC te_88_11 rfl ?_
        refine Tx.iconst hC te_88_12 rfl ?_
        refine Tx.imulW hC te_88_13 (fun z20 z20i z20e => ?_)
        unfold InI at z20i z20e
        first | replace z20e := z20e (by omega) | clear z20e
        refine Tx.iload_n hC te_88_14 rfl ?_
        refine Tx.iaddW hC te_88_15 (fun z21 z21i z21e => ?_)
        unfold InI at z21i z21e
        first | replace z21e := z21e (by omega) | clear z21e
        refine Tx.iconst hC te_88_16 rfl ?_
        refine Tx.iast hC te_88_17 rfl (by omega) ?_
        have hF23 : Frm (pBz o) mem (upm m_2 27 (Int.toNat z21) 0) := Frm.up hF_2 (by unfold pBz; omega)
        refine Tx.iincW hC te_88_18 rfl rfl (fun z24 z24i z24e => ?_)
        unfold InI at z24i z24e
        first | replace z24e := z24e (by omega) | clear z24e
        refine Tx.goto hC (t := 2) te_88_21 (by decide) ?_
        exact ih_2 z24 (upm m_2 27 (Int.toNat z21) 0) (by omega) (by intro k hk; first | (exfalso; omega) | (by_cases q : (k : Int) < x3; (rw [upm_ne (by omega)]; exact i2_1 k q); (rw [show 4 * o.toNat + k = z21.toNat by omega]; exact upm_eq))) (by omega) hF23
  refine Tx.iconst hC te_88_0 rfl ?_
  refine Tx.istore_n hC te_88_1 rfl ?_
  exact l_2 _ 0 mem (by omega) (by intro k hk; first | (exfalso; omega) | (by_cases q : (k : Int) < x3; (rw [upm_ne (by omega)]; exact i2_1 k q); (rw [show 4 * o.toNat + k = z21.toNat by omega]; exact upm_eq))) (Nat.lt_succ_self _) Frm.rf
set_option maxHeartbeats 1000000 in
theorem f_87e {S : Nat × (Nat → Int32)} {n : Nat} {mem : MM} {K : Int → MM → Prop} {E : Nat → MM → Prop} {d : Int} (hB : BodyOK mem) (hd : 1 ≤ d ∧ d ≤ 12) (hU : ∀ o, o < 8 → 0 ≤ mem 24 o ∧ mem 24 o ≤ 2) (H1 : ∀ m', Frm pK7 mem m' → (∀ o, o < 8 → 0 ≤ m' 24 o ∧ m' 24 o ≤ 2) → FfP (CPb mem d) m' → K 1 m') (H0 : ∀ m', Frm pK7 mem m' → (∀ o, o < 8 → 0 ≤ m' 24 o ∧ m' 24 o ≤ 2) → (∀ v, ¬ Fsb (CPb mem d) v) → K 0 m') : CQI (Ex S (n + 3)) 87 [.inr 21, .inr 1, .inl d] mem K E := by
  refine CY.of (k := 1) mt_87 rfl rfl (fun hv => ?_)
  have hC := Ex.mono S (n + 2)
  have ii_d : InI d := hv (.inl d) (by simp)
  unfold InI at ii_d
  clear hv
  have h8 := hB.1
  have pn : (CPb mem d).n = (mem 1 0).toNat := rfl
  have pd : (CPb mem d).d = d := rfl
  show Tx (Ex S (n + 2)) S M_87 (kI K E) 0 0 0 [some (.inr 21), some (.inr 1), some (.inl d), none] [] mem
  have l_124 : ∀ (N : Nat) (x3 : Int) (m_124 : MM), (0 ≤ x3 ∧ x3 ≤ mem 1 0) → (TkF mem m_124 d) → (TkO mem m_124 d x3) → ((8 - x3).toNat) < N → Frm pK7 mem m_124 → Tx (Ex S (n + 2)) S M_87 (kI K E) 0 0 124 [some (.inr 21), some (.inr 1), some (.inl d), some (.inl x3)] [] m_124 := by
    intro N
    induction N with
    | zero => intros; omega
    | succ N ih_124 =>
      intro x3 m_124 i124_0 i124_1 i124_2 hN_124 hF_124
      refine Tx.iload_n hC te_87_124 rfl ?_
      refine Tx.aload_n hC te_87_125 rfl ?_
      refine Tx.getI hC te_87_126 rfl rfl rfl (fun v1 v1e v1i => ?_)
      unfold InI at v1i
      have f2 := i124_1.1
      refine Tx.icmp hC (t := 181) te_87_129 (by decide) (fun q3 => ?_) (fun q3 => ?_)
      · replace q3 : v1 ≤ (x3 : Int) := q3
        refine Tx.iconst hC te_87_181 rfl ?_
        exact Tx.bret hC te_87_182 rfl (by omega) (show K 1 m_124 from H1 _ hF_124 i124_1.2.2.2.2 (TkO.ffp hB hd i124_1 i124_2 (by omega)))
      · replace q3 : ¬ (v1 ≤ (x3 : Int)) := q3
        refine Tx.aload_n hC te_87_132 rfl ?_
        refine Tx.getR hC te_87_133 rfl rfl rfl ?_
        refine Tx.iload_n hC te_87_136 rfl ?_
        refine Tx.aload_n hC te_87_137 rfl ?_
        refine Tx.iload_n hC te_87_138 rfl ?_
        refine Tx.virtI hC te_87_139 mt_37 (args := [.inr 1, .inl x3]) (rest := [.inl x3, .inr 24]) (c' := 0) (s' := 0) rfl rfl rfl rfl rfl rfl rfl rfl rfl rfl ?_
        refine f_37x (hB.fr (fun A i a b => hF_124 A i (by unfold pK7; omega))) (by omega) (fun r4 r4e r4a r4b r4i => ?_)
        have kx := r4e
        rw [cUn_k7 hF_124] at kx
        unfold InI at r4i
        refine Tx.iast hC te_87_142 rfl (by omega) ?_
        have hF8 : Frm pK7 mem (upm m_124 24 (Int.toNat x3) r4) := Frm.up hF_124 (by unfold pK7; omega)
        have m7e : (upm m_124 24 (Int.toNat x3) r4) 24 (Int.toNat x3) = r4 := upm_eq
        have m7n : ∀ B j, ¬ (B = 24 ∧ j = (Int.toNat x3)) → (upm m_124 24 (Int.toNat x3) r4) B j = m_124 B j := fun B j q => upm_ne q
        generalize upm m_124 24 (Int.toNat x3) r4 = m7 at hF8 m7e m7n ⊢
        have hT9 : TkF mem m7 d := TkF.up24 i124_1 m7n m7e (by omega)
        refine Tx.aload_n hC te_87_143 rfl ?_
        refine Tx.getR hC te_87_144 rfl rfl rfl ?_
        refine Tx.aload_n hC te_87_147 rfl ?_
        refine Tx.getR hC te_87_148 rfl rfl rfl ?_
        refine Tx.iload_n hC te_87_151 rfl ?_
        refine Tx.iald hC te_87_152 rfl (by omega) (fun v10 v10e v10i => ?_)
        unfold InI at v10i
        have e8 : v10 = r4 := by rw [v10e, m7e]
        refine Tx.dup2 hC te_87_153 ?_
        refine Tx.iald hC te_87_154 rfl (by omega) (fun v11 v11e v11i => ?_)
        unfold InI at v11i
        refine Tx.iconst hC te_87_155 rfl ?_
        refine Tx.iload_n hC te_87_156 rfl ?_
        refine Tx.bits hC (f := (fun (x y : Int32) => x <<< (y &&& 31))) te_87_157 (fun _ _ _ _ => Iff.rfl) (fun b12 b12e b12i => ?_)
        unfold InI at b12i
        refine Tx.bits hC (f := (fun (x y : Int32) => x ||| y)) te_87_158 (fun _ _ _ _ => Iff.rfl) (fun b13 b13e b13i => ?_)
        unfold InI at b13i
        have c26 : ∀ j : Nat, Bt b13 j ↔ Bt (m_124 26 r4.toNat) j ∨ (j : Int) = x3 := fun j => by
          rw [Bt_or b13e, v11e, e8, m7n 26 _ (by omega), Bt_bit (by omega) b12e]
        refine Tx.iast hC te_87_159 rfl (by omega) ?_
        have hF15 : Frm pK7 mem (upm m7 26 (Int.toNat v10) b13) := Frm.up hF8 (by unfold pK7; omega)
        have m14e : (upm m7 26 (Int.toNat v10) b13) 26 (Int.toNat v10) = b13 := upm_eq
        have m14n : ∀ B j, ¬ (B = 26 ∧ j = (Int.toNat v10)) → (upm m7 26 (Int.toNat v10) b13) B j = m7 B j := fun B j q => upm_ne q
        generalize upm m7 26 (Int.toNat v10) b13 = m14 at hF15 m14e m14n ⊢
        have hT16 : TkF mem m14 d := TkF.up hT9 m14n (by omega)
        refine Tx.aload_n hC te_87_160 rfl ?_
        refine Tx.iload_n hC te_87_161 rfl ?_
        refine Tx.aload_n hC te_87_162 rfl ?_
        refine Tx.iload_n hC te_87_163 rfl ?_
        refine Tx.virtI hC te_87_164 mt_38 (args := [.inr 1, .inl x3]) (rest := [.inl x3, .inr 21]) (c' := 0) (s' := 0) rfl rfl rfl rfl rfl rfl rfl rfl rfl rfl ?_
        refine f_38x (hB.fr (fun A i a b => hF15 A i (by unfold pK7; omega))) (by omega) (fun r17 r17e r17a r17b r17i => ?_)
        have bx := r17e
        rw [cBu_k7 hF15] at bx
        unfold InI at r17i
        refine Tx.virtI hC te_87_167 mt_88 (args := [.inr 21, .inl x3, .inl r17]) (rest := []) (c' := 0) (s' := 0) rfl rfl rfl rfl rfl rfl rfl rfl rfl rfl ?_
        have ux : m14 24 x3.toNat = r4 := by rw [m14n 24 _ (by omega), m7e]
        have cx : m14 25 (m14 24 x3.toNat).toNat = mem 8 r4.toNat := by rw [ux, m14n 25 _ (by omega), m7n 25 _ (by omega)]; exact (i124_2.1 r4.toNat (by omega)).1
        have cc := hB.cn (o := r4.toNat) (by omega)
        refine f_88e (by omega) hT16.2.1 hd (by omega) (by omega) (by omega) (fun m21 m21F m21a r20i => ?_) (fun m21 m21F m21x r20i => ?_)
        · skip
          have m21T := TkF.bz hT16 m21F
          rw [cx] at m21a
          have hF22n : Frm pK7 mem m21 := hF15.tr (m21F.mono (fun A i q => by unfold pBz at q; unfold pK7; omega))
          refine Tx.ifc hC (t := 175) te_87_170 (by decide) (fun q => ?_) (fun q => absurd (show ¬ (1 : Int) = 0 by decide) q)
          refine Tx.iincW hC te_87_175 rfl rfl (fun z23 z23i z23e => ?_)
          unfold InI at z23i z23e
          first | replace z23e := z23e (by omega) | clear z23e
          refine Tx.goto hC (t := 124) te_87_178 (by decide) ?_
          exact ih_124 z23 m21 (by omega) (by first | exact i29_1 | exact m21T) (by
            first
            | exact TkV.out i29_2 (by omega)
            | exact TkO.nxt i124_2 (by omega) (by omega) kx (by omega) (fun A i a b c => by rw [m21F A i (by unfold pBz; omega), m14n A i (by rw [e8]; omega), m7n A i (by omega)]) (by rw [m21F 24 _ (by unfold pBz; omega)]; exact ux) (fun j => by rw [m21F 26 _ (by unfold pBz; omega), ← e8, m14e, c26 j, e8]) (fun r hr => by
                have w := m21a r hr
                rw [bx] at w
                exact w)) (by omega) hF22n
        · skip
          have m21T := TkF.bz hT16 m21F
          rw [cx] at m21x
          have hF22n : Frm pK7 mem m21 := hF15.tr (m21F.mono (fun A i q => by unfold pBz at q; unfold pK7; omega))
          refine Tx.ifc hC (t := 175) te_87_170 (by decide) (fun q => absurd q (show ¬ (¬ (0 : Int) = 0) by decide)) (fun q => ?_)
          refine Tx.iconst hC te_87_173 rfl ?_
          exact Tx.bret hC te_87_174 rfl (by omega) (show K 0 m21 from H0 _ hF22n m21T.2.2.2.2 (fun v hv => by
            obtain ⟨r, hr, hx⟩ := m21x
            have z := fsb_ask (p := CPb mem d) (by omega) hv (o := x3.toNat) (r := r) (by omega) (by show 0 ≤ cUn mem x3.toNat ∧ cUn mem x3.toNat < 3; rw [← kx]; omega) hr
            have z2 : ask d (cBu mem x3.toNat) r ≤ mem 8 (cUn mem x3.toNat).toNat := z
            rw [← kx, ← bx] at z2
            omega))
  have l_29 : ∀ (N : Nat) (x3 : Int) (m_29 : MM), (0 ≤ x3 ∧ x3 ≤ 3) → (TkF mem m_29 d) → (TkV mem m_29 d x3) → ((3 - x3).toNat) < N → Frm pK7 mem m_29 → Tx (Ex S (n + 2)) S M_87 (kI K E) 0 0 29 [some (.inr 21), some (.inr 1), some (.inl d), some (.inl x3)] [] m_29 := by
    intro N
    induction N with
    | zero => intros; omega
    | succ N ih_29 =>
      intro x3 m_29 i29_0 i29_1 i29_2 hN_29 hF_29
      refine Tx.iload_n hC te_87_29 rfl ?_
      refine Tx.iconst hC te_87_30 rfl ?_
      refine Tx.icmp hC (t := 122) te_87_31 (by decide) (fun q24 => ?_) (fun q24 => ?_)
      · replace q24 : 3 ≤ (x3 : Int) := q24
        refine Tx.iconst hC te_87_122 rfl ?_
        refine Tx.istore_n hC te_87_123 rfl ?_
        exact l_124 _ 0 m_29 (by omega) (by first | exact i29_1 | exact i29_1) (by
          first
          | exact TkV.out i29_2 (by omega)
          | exact TkO.nxt i124_2 (by omega) (by omega) kx (by omega) (fun A i a b c => by rw [m_29F A i (by unfold pBz; omega), m14n A i (by rw [e8]; omega), m7n A i (by omega)]) (by rw [m_29F 24 _ (by unfold pBz; omega)]; exact ux) (fun j => by rw [m_29F 26 _ (by unfold pBz; omega), ← e8, m14e, c26 j, e8]) (fun r hr => by
              have w := m_29a r hr
              rw [bx] at w
              exact w)) (Nat.lt_succ_self _) hF_29
      · replace q24 : ¬ (3 ≤ (x3 : Int)) := q24
        refine Tx.aload_n hC te_87_34 rfl ?_
        refine Tx.getR hC te_87_35 rfl rfl rfl ?_
        refine Tx.iload_n hC te_87_38 rfl ?_
        refine Tx.aload_n hC te_87_39 rfl ?_
        refine Tx.getR hC te_87_40 rfl rfl rfl ?_
        refine Tx.iload_n hC te_87_43 rfl ?_
        refine Tx.iald hC te_87_44 rfl (by omega) (fun v25 v25e v25i => ?_)
        unfold InI at v25i
        rw [hF_29 8 _ (by unfold pK7; omega)] at v25e
        have f26 := hB.cn (o := (Int.toNat x3)) (by omega)
        refine Tx.iast hC te_87_45 rfl (by omega) ?_
        have hF28 : Frm pK7 mem (upm m_29 25 (Int.toNat x3) v25) := Frm.up hF_29 (by unfold pK7; omega)
        have m27e : (upm m_29 25 (Int.toNat x3) v25) 25 (Int.toNat x3) = v25 := upm_eq
        have m27n : ∀ B j, ¬ (B = 25 ∧ j = (Int.toNat x3)) → (upm m_29 25 (Int.toNat x3) v25) B j = m_29 B j := fun B j q => upm_ne q
        generalize upm m_29 25 (Int.toNat x3) v25 = m27 at hF28 m27e m27n ⊢
        have hT29 : TkF mem m27 d := TkF.up i29_1 m27n (by omega)
        refine Tx.aload_n hC te_87_46 rfl ?_
        refine Tx.iload_n hC te_87_47 rfl ?_
        refine Tx.virtI hC te_87_48 mt_36 (args := [.inr 1, .inl x3]) (rest := []) (c' := 0) (s' := 0) rfl rfl rfl rfl rfl rfl rfl rfl rfl rfl ?_
        refine f_36x (hB.fr (fun A i a b => hF28 A i (by unfold pK7; omega))) (fun r30 r30e r30a r30b r30i => ?_)
        rw [usC_k7 hF28] at r30e
        unfold InI at r30i
        refine Tx.iload_n hC te_87_51 rfl ?_
        refine Tx.aload_n hC te_87_52 rfl ?_
        refine Tx.getR hC te_87_53 rfl rfl rfl ?_
        refine Tx.iload_n hC te_87_56 rfl ?_
        refine Tx.iald hC te_87_57 rfl (by omega) (fun v33 v33e v33i => ?_)
        unfold InI at v33i
        refine Tx.imulW hC te_87_58 (fun z34 z34i z34e => ?_)
        unfold InI at z34i z34e
        have zx : z34 = d * mem 8 x3.toNat := by
          have w := hB.cn (o := x3.toNat) (by omega)
          have q : v33 = mem 8 x3.toNat := by rw [v33e, m27e, v25e]
          rw [← q] at w ⊢
          refine z34e ?_
          rcases (show v33 = 1 ∨ v33 = 2 ∨ v33 = 3 by omega) with h | h | h <;> rw [h] <;> (try unfold InI) <;> omega
        refine Tx.icmp hC (t := 64) te_87_59 (by decide) (fun q35 => ?_) (fun q35 => ?_)
        · replace q35 : (r30 : Int) ≤ z34 := q35
          have zq : usC mem x3 ≤ d * mem 8 x3.toNat := by omega
          refine Tx.aload_n hC te_87_64 rfl ?_
          refine Tx.getR hC te_87_65 rfl rfl rfl ?_
          refine Tx.iload_n hC te_87_68 rfl ?_
          refine Tx.iconst hC te_87_69 rfl ?_
          refine Tx.iast hC te_87_70 rfl (by omega) ?_
          have hF37 : Frm pK7 mem (upm m27 26 (Int.toNat x3) 0) := Frm.up hF28 (by unfold pK7; omega)
          have m36e : (upm m27 26 (Int.toNat x3) 0) 26 (Int.toNat x3) = 0 := upm_eq
          have m36n : ∀ B j, ¬ (B = 26 ∧ j = (Int.toNat x3)) → (upm m27 26 (Int.toNat x3) 0) B j = m27 B j := fun B j q => upm_ne q
          generalize upm m27 26 (Int.toNat x3) 0 = m36 at hF37 m36e m36n ⊢
          have hT38 : TkF mem m36 d := TkF.up hT29 m36n (by omega)
          refine Tx.aload_n hC te_87_71 rfl ?_
          refine Tx.getR hC te_87_72 rfl rfl rfl ?_
          refine Tx.iload_n hC te_87_75 rfl ?_
          refine Tx.iconst hC te_87_76 rfl ?_
          refine Tx.imulW hC te_87_77 (fun z39 z39i z39e => ?_)
          unfold InI at z39i z39e
          first | replace z39e := z39e (by omega) | clear z39e
          refine Tx.aload_n hC te_87_78 rfl ?_
          refine Tx.getI hC te_87_79 rfl rfl rfl (fun v40 v40e v40i => ?_)
          unfold InI at v40i
          refine Tx.iast hC te_87_82 rfl (by omega) ?_
          have hF42 : Frm pK7 mem (upm m36 28 (Int.toNat z39) v40) := Frm.up hF37 (by unfold pK7; omega)
          have m41e : (upm m36 28 (Int.toNat z39) v40) 28 (Int.toNat z39) = v40 := upm_eq
          have m41n : ∀ B j, ¬ (B = 28 ∧ j = (Int.toNat z39)) → (upm m36 28 (Int.toNat z39) v40) B j = m36 B j := fun B j q => upm_ne q
          generalize upm m36 28 (Int.toNat z39) v40 = m41 at hF42 m41e m41n ⊢
          have hT43 : TkF mem m41 d := TkF.up hT38 m41n (by omega)
          refine Tx.aload_n hC te_87_83 rfl ?_
          refine Tx.getR hC te_87_84 rfl rfl rfl ?_
          refine Tx.iload_n hC te_87_87 rfl ?_
          refine Tx.iconst hC te_87_88 rfl ?_
          refine Tx.imulW hC te_87_89 (fun z44 z44i z44e => ?_)
          unfold InI at z44i z44e
          first | replace z44e := z44e (by omega) | clear z44e
          refine Tx.iconst hC te_87_90 rfl ?_
          refine Tx.iaddW hC te_87_91 (fun z45 z45i z45e => ?_)
          unfold InI at z45i z45e
          first | replace z45e := z45e (by omega) | clear z45e
          refine Tx.iconst hC te_87_92 rfl ?_
          refine Tx.iast hC te_87_93 rfl (by omega) ?_
          have hF47 : Frm pK7 mem (upm m41 28 (Int.toNat z45) 0) := Frm.up hF42 (by unfold pK7; omega)
          have m46e : (upm m41 28 (Int.toNat z45) 0) 28 (Int.toNat z45) = 0 := upm_eq
          have m46n : ∀ B j, ¬ (B = 28 ∧ j = (Int.toNat z45)) → (upm m41 28 (Int.toNat z45) 0) B j = m41 B j := fun B j q => upm_ne q
          generalize upm m41 28 (Int.toNat z45) 0 = m46 at hF47 m46e m46n ⊢
          have hT48 : TkF mem m46 d := TkF.up hT43 m46n (by omega)
          refine Tx.aload_n hC te_87_94 rfl ?_
          refine Tx.getR hC te_87_95 rfl rfl rfl ?_
          refine Tx.iload_n hC te_87_98 rfl ?_
          refine Tx.iconst hC te_87_99 rfl ?_
          refine Tx.imulW hC te_87_100 (fun z49 z49i z49e => ?_)
          unfold InI at z49i z49e
          first | replace z49e := z49e (by omega) | clear z49e
          refine Tx.iconst hC te_87_101 rfl ?_
          refine Tx.iaddW hC te_87_102 (fun z50 z50i z50e => ?_)
          unfold InI at z50i z50e
          first | replace z50e := z50e (by omega) | clear z50e
          refine Tx.iconst hC te_87_103 rfl ?_
          refine Tx.iast hC te_87_104 rfl (by omega) ?_
          have hF52 : Frm pK7 mem (upm m46 28 (Int.toNat z50) 0) := Frm.up hF47 (by unfold pK7; omega)
          have m51e : (upm m46 28 (Int.toNat z50) 0) 28 (Int.toNat z50) = 0 := upm_eq
          have m51n : ∀ B j, ¬ (B = 28 ∧ j = (Int.toNat z50)) → (upm m46 28 (Int.toNat z50) 0) B j = m46 B j := fun B j q => upm_ne q
          generalize upm m46 28 (Int.toNat z50) 0 = m51 at hF52 m51e m51n ⊢
          have hT53 : TkF mem m51 d := TkF.up hT48 m51n (by omega)
          refine Tx.aload_n hC te_87_105 rfl ?_
          refine Tx.getR hC te_87_106 rfl rfl rfl ?_
          refine Tx.iload_n hC te_87_109 rfl ?_
          refine Tx.iconst hC te_87_110 rfl ?_
          refine Tx.imulW hC te_87_111 (fun z54 z54i z54e => ?_)
          unfold InI at z54i z54e
          first | replace z54e := z54e (by omega) | clear z54e
          refine Tx.iconst hC te_87_112 rfl ?_
          refine Tx.iaddW hC te_87_113 (fun z55 z55i z55e => ?_)
          unfold InI at z55i z55e
          first | replace z55e := z55e (by omega) | clear z55e
          refine Tx.iconst hC te_87_114 rfl ?_
          refine Tx.iast hC te_87_115 rfl (by omega) ?_
          have hF57 : Frm pK7 mem (upm m51 28 (Int.toNat z55) 0) := Frm.up hF52 (by unfold pK7; omega)
          have m56e : (upm m51 28 (Int.toNat z55) 0) 28 (Int.toNat z55) = 0 := upm_eq
          have m56n : ∀ B j, ¬ (B = 28 ∧ j = (Int.toNat z55)) → (upm m51 28 (Int.toNat z55) 0) B j = m51 B j := fun B j q => upm_ne q
          generalize upm m51 28 (Int.toNat z55) 0 = m56 at hF57 m56e m56n ⊢
          have hT58 : TkF mem m56 d := TkF.up hT53 m56n (by omega)
          have n1 : ∀ B j, (B = 25 ∨ B = 26) → ¬ j = x3.toNat → m56 B j = m_29 B j := fun B j a b => by rw [m56n B j (by omega), m51n B j (by omega), m46n B j (by omega), m41n B j (by omega), m36n B j (by omega), m27n B j (by omega)]
          have n2 : ∀ j, ¬ (4 * x3.toNat ≤ j ∧ j < 4 * x3.toNat + 4) → m56 28 j = m_29 28 j := fun j a => by rw [m56n 28 j (by omega), m51n 28 j (by omega), m46n 28 j (by omega), m41n 28 j (by omega), m36n 28 j (by omega), m27n 28 j (by omega)]
          have n3 : m56 25 x3.toNat = mem 8 x3.toNat := by rw [m56n 25 _ (by omega), m51n 25 _ (by omega), m46n 25 _ (by omega), m41n 25 _ (by omega), m36n 25 _ (by omega), m27e, v25e]
          have n4 : m56 26 x3.toNat = 0 := by rw [m56n 26 _ (by omega), m51n 26 _ (by omega), m46n 26 _ (by omega), m41n 26 _ (by omega), m36e]
          have n5 : m56 28 (4 * x3.toNat + 1) = 0 := by rw [m56n 28 _ (by omega), m51n 28 _ (by omega), show 4 * x3.toNat + 1 = z45.toNat by omega, m46e]
          have n6 : m56 28 (4 * x3.toNat + 2) = 0 := by rw [m56n 28 _ (by omega), show 4 * x3.toNat + 2 = z50.toNat by omega, m51e]
          have n7 : m56 28 (4 * x3.toNat + 3) = 0 := by rw [show 4 * x3.toNat + 3 = z55.toNat by omega, m56e]
          refine Tx.iincW hC te_87_116 rfl rfl (fun z59 z59i z59e => ?_)
          unfold InI at z59i z59e
          first | replace z59e := z59e (by omega) | clear z59e
          refine Tx.goto hC (t := 29) te_87_119 (by decide) ?_
          exact ih_29 z59 m56 (by omega) (by first | exact hT58) (by first | exact (fun u hu => absurd hu (by omega)) | exact TkV.nxt i29_2 (by omega) (by omega) n1 n2 n3 n4 n5 n6 n7) (by omega) hF57
        · replace q35 : ¬ ((r30 : Int) ≤ z34) := q35
          refine Tx.iconst hC te_87_62 rfl ?_
          exact Tx.bret hC te_87_63 rfl (by omega) (show K 0 m27 from H0 _ hF28 hT29.2.2.2.2 (fun v hv => by
            have w := fsb_uses (p := CPb mem d) (by omega) hv (u := x3) (by omega)
            have w2 : usC mem x3 ≤ d * mem 8 x3.toNat := w
            omega))
  refine Tx.aload_n hC te_87_0 rfl ?_
  refine Tx.aload_n hC te_87_1 rfl ?_
  refine Tx.getI hC te_87_2 rfl rfl rfl (fun v60 v60e v60i => ?_)
  unfold InI at v60i
  refine Tx.putI hC te_87_5 rfl rfl rfl rfl ?_
  have hF62 : Frm pK7 mem (upm mem 21 0 v60) := Frm.up Frm.rf (by unfold pK7; omega)
  have m61e : (upm mem 21 0 v60) 21 0 = v60 := upm_eq
  have m61n : ∀ B j, ¬ (B = 21 ∧ j = 0) → (upm mem 21 0 v60) B j = mem B j := fun B j q => upm_ne q
  generalize upm mem 21 0 v60 = m61 at hF62 m61e m61n ⊢
  refine Tx.aload_n hC te_87_8 rfl ?_
  refine Tx.iload_n hC te_87_9 rfl ?_
  refine Tx.putI hC te_87_10 rfl rfl rfl rfl ?_
  have hF64 : Frm pK7 mem (upm m61 21 1 d) := Frm.up hF62 (by unfold pK7; omega)
  have m63e : (upm m61 21 1 d) 21 1 = d := upm_eq
  have m63n : ∀ B j, ¬ (B = 21 ∧ j = 1) → (upm m61 21 1 d) B j = m61 B j := fun B j q => upm_ne q
  generalize upm m61 21 1 d = m63 at hF64 m63e m63n ⊢
  refine Tx.aload_n hC te_87_13 rfl ?_
  refine Tx.iconst hC te_87_14 rfl ?_
  refine Tx.iload_n hC te_87_15 rfl ?_
  refine Tx.bits hC (f := (fun (x y : Int32) => x <<< (y &&& 31))) te_87_16 (fun _ _ _ _ => Iff.rfl) (fun b65 b65e b65i => ?_)
  unfold InI at b65i
  have b1 := shl1_ge (d := d) (by omega) b65e
  refine Tx.iconst hC te_87_17 rfl ?_
  refine Tx.isubW hC te_87_18 (fun z66 z66i z66e => ?_)
  unfold InI at z66i z66e
  first | replace z66e := z66e (by omega) | clear z66e
  refine Tx.putI hC te_87_19 rfl rfl rfl rfl ?_
  have hF68 : Frm pK7 mem (upm m63 21 2 z66) := Frm.up hF64 (by unfold pK7; omega)
  have m67e : (upm m63 21 2 z66) 21 2 = z66 := upm_eq
  have m67n : ∀ B j, ¬ (B = 21 ∧ j = 2) → (upm m63 21 2 z66) B j = m63 B j := fun B j q => upm_ne q
  generalize upm m63 21 2 z66 = m67 at hF68 m67e m67n ⊢
  refine Tx.aload_n hC te_87_22 rfl ?_
  refine Tx.iconst hC te_87_23 rfl ?_
  refine Tx.putI hC te_87_24 rfl rfl rfl rfl ?_
  have hF70 : Frm pK7 mem (upm m67 21 4 0) := Frm.up hF68 (by unfold pK7; omega)
  have m69e : (upm m67 21 4 0) 21 4 = 0 := upm_eq
  have m69n : ∀ B j, ¬ (B = 21 ∧ j = 4) → (upm m67 21 4 0) B j = m67 B j := fun B j q => upm_ne q
  generalize upm m67 21 4 0 = m69 at hF70 m69e m69n ⊢
  refine Tx.iconst hC te_87_27 rfl ?_
  refine Tx.istore_n hC te_87_28 rfl ?_
  exact l_29 _ 0 m69 (by omega) (by first | exact TkF.st hU hd m69 | exact ⟨by rw [m69n 21 0 (by omega), m67n 21 0 (by omega), m63n 21 0 (by omega), m61e, v60e], by rw [m69n 21 1 (by omega), m67n 21 1 (by omega), m63e], fun i => by rw [m69n 21 2 (by omega), m67e]; exact Bt_full (by omega) b65e z66e, m69e, fun o ho => by rw [m69n 24 o (by omega), m67n 24 o (by omega), m63n 24 o (by omega), m61n 24 o (by omega)]; exact hU o ho⟩) (by first | exact (fun u hu => absurd hu (by omega)) | exact TkV.nxt i29_2 (by omega) (by omega) n1 n2 n3 n4 n5 n6 n7) (Nat.lt_succ_self _) hF70
end
section
/-! laid by wip/hand/tg.py: the seeker, exactly -/
def pRw (Z A _i : Nat) : Prop := A = Z
def PbU (p : Prb) : Prb := (p.n, p.un, p.bu, p.ct, p.d, fun _ _ _ => False)
def HuI (p : Prb) (m : MM) : Prop := StS (PbU p) m ∧ StD (PbU p) (fun _ _ => -100000) (fun _ => False) m ∧ Shr p m
def FrHu (m m' : MM) : Prop := Frm pT6 m m' ∧ (∀ o, m' 22 o = m 22 o ∨ (0 ≤ m' 22 o ∧ m' 22 o ≤ 11)) ∧ ∀ o, o < 8 → 0 ≤ m' 24 o ∧ m' 24 o ≤ 2
theorem noWk {a b : Nat} {v : Int} : ∀ l : List Nat, ¬ Wk (fun _ _ _ => False) a l b v
  | [], h => h
  | _ :: _, ⟨_, _, h, _⟩ => h
section HBU
variable {p : Prb} {m m1 m2 m3 m4 mem m' : MM} {a b c o j : Nat} {s x y : Int}
theorem PbU.ti : ¬ tie (PbU p).E a b := fun h => by
  obtain ⟨l, v, g⟩ := h.2.1
  exact noWk l g
theorem PbU.w (hd : 0 < p.d) (hc : ∀ u, u < 3 → 0 ≤ p.ct u) : PrW (PbU p) := ⟨hd, fun _ _ _ h => h.elim, hc, fun _ l _ _ g => (noWk l g).elim⟩
theorem PbU.wy : WyC (PbU p) (fun _ _ => -100000) (-100000) := fun _ _ _ _ => Or.inl ⟨rfl, fun l _ g => noWk l g⟩
theorem PbU.fsb {v : Nat → Int} (h : Fsb p v) : Fsb (PbU p) v := ⟨h.1, h.2.1, fun _ => 0, fun _ _ _ z => z.elim⟩
def UnG (p : Prb) (o : Nat) (j : Nat) : Prop := p.un j = p.un o
theorem UnG.cl : ClG (PbU p) (UnG p o) := ⟨fun a b _ _ e g => (show p.un b = p.un o from (show p.un b = p.un a from e.symm).trans g), fun _ _ t => (PbU.ti t).elim⟩
theorem FrHu.tr (h : FrHu m m1) (g : FrS m1 m2) : FrHu m m2 := ⟨h.1.tr (g.1.mono (fun A i q => by unfold pSk at q; unfold pT6; omega)), fun o => by
  have a := h.2.1 o
  have b := g.2 o
  omega, fun o ho => by rw [g.1 24 o (by unfold pSk; omega)]; exact h.2.2 o ho⟩
theorem FrHu.k7 (h : Frm pK7 m m1) (g : ∀ o, o < 8 → 0 ≤ m1 24 o ∧ m1 24 o ≤ 2) : FrHu m m1 := ⟨h.mono (fun A i q => by unfold pK7 at q; unfold pT6; omega), fun o => Or.inl (h 22 o (by unfold pK7; omega)), g⟩
theorem FrHu.rw {Z : Nat} (h : FrHu m m1) (g : Frm (pRw Z) m1 m2) (q : Z = 34 ∨ Z = 36) : FrHu m m2 := h.tr ⟨g.mono (fun A i w => by unfold pRw at w; unfold pSk; omega), fun o => Or.inl (g 22 o (by unfold pRw; omega))⟩
theorem HuI.cg (h : HuI p m) (e : ∀ A i, ¬ (A = 21 ∧ i = 3) → m' A i = m A i) : HuI p m' := by
  have e22 : m' 22 = m 22 := funext fun i => e 22 i (by omega)
  have e28 : m' 28 = m 28 := funext fun i => e 28 i (by omega)
  have eT : TM m' = TM m := funext fun a => funext fun b => e 30 _ (by omega)
  exact ⟨h.1.cg (fun A i q => e A i (by omega)) (fun o _ => by rw [eT]), ⟨fun i => by rw [e 21 4 (by omega)]; exact h.2.1.1 i, by rw [e28, e22]; exact h.2.1.2.1, by rw [e22, eT]; exact h.2.1.2.2⟩, fun u hu j => by rw [e 26 u (by omega)]; exact h.2.2 u hu j⟩
theorem HuI.back (hP : PrW (PbU p)) (h : HuI p m) (g : BkX (fun _ => False) m m') : HuI p m' := ⟨g.sts h.1, g.std hP h.1 h.2.1, fun u hu j => by rw [g.at (by omega)]; exact h.2.2 u hu j⟩
theorem HuI.ffp (h : HuI p m) : FfP p m := by
  obtain ⟨hS, hD, hR⟩ := h
  refine ⟨⟨hS.1, hS.2.1⟩, hS.2.2.1, hS.2.2.2.1, hS.2.2.2.2.1, hR, fun i z => (hD.1 i).mp z, fun u hu => ?_⟩
  exact (hD.2.1 u hu).cg (V := fun _ => 0) (fun y _ => usM_none _ (fun o _ q => q.1))
theorem FfP.hui (hP : PrW (PbU p)) (h : FfP p mem) (F1 : Frm (pRw 34) mem m1) (z : ∀ o, o < 8 → m1 34 o = 0) (F0 : Frm (pRw 36) m1 m2) (F2 : Frm pR35 m2 m3) (a2 : ∀ o : Nat, (o : Int) < m2 21 0 → InU (fun j => ¬ j = o ∧ TwB m2 o j) (m3 35 o) (m2 21 0)) : HuI p m3 := by
  obtain ⟨⟨hk, hn⟩, hf, ha, hc, hR, hp, hx⟩ := h
  have n8 := hk.1
  have e2 : ∀ A i, ¬ A = 35 → m3 A i = m2 A i := fun A i q => F2 A i (by unfold pR35; omega)
  have e1 : ∀ A i, ¬ A = 34 → ¬ A = 36 → m2 A i = mem A i := fun A i a b => (F0 A i (by unfold pRw; omega)).trans (F1 A i (by unfold pRw; omega))
  have e : ∀ A i, ¬ A = 34 → ¬ A = 35 → ¬ A = 36 → m3 A i = mem A i := fun A i a b c => (e2 A i b).trans (e1 A i a c)
  have n1 : m2 21 0 = mem 21 0 := e1 21 0 (by omega) (by omega)
  have pn : (PbU p).n = p.n := rfl
  have us : ∀ u k : Int, usM (fun _ => False) (PbU p).un (PbU p).bu (PbU p).d (m3 22) u k (PbU p).n = 0 := fun u k => usM_none _ (fun o _ q => q.1)
  refine ⟨⟨hk.cg (fun A i q => e A i (by omega) (by omega) (by omega)), (e 21 0 (by omega) (by omega) (by omega)).trans hn, fun i => by rw [e 21 2 (by omega) (by omega) (by omega)]; exact hf i, fun o ho => ⟨(e 24 o (by omega) (by omega) (by omega)).trans (ha o ho).1, fun r hr => (e 27 _ (by omega) (by omega) (by omega)).trans ((ha o ho).2 r hr)⟩, fun u hu => (e 25 u (by omega) (by omega) (by omega)).trans (hc u hu), fun o ho j => ?_, fun o ho j => ?_, fun o ho z => ?_⟩, ⟨fun i => ?_, fun u hu => ?_, ⟨fun o z => z.elim, fun u k a b c d => ?_, ⟨fun a τ hτ b c hb hc hn => absurd ((hb.sy.tr hc).ti hn) PbU.ti, fun b c q => absurd q PbU.ti, fun b c q => absurd q PbU.ti, fun a b z => z.elim, fun b c q => absurd q PbU.ti⟩, fun a b z => z.elim⟩⟩, fun u hu j => by rw [e 26 u (by omega) (by omega) (by omega)]; exact hR u hu j⟩
  · rw [e2 34 o (by omega), F0 34 o (by unfold pRw; omega), z o (by omega)]
    exact ⟨fun w => absurd w Bt_0, fun w => absurd w.2 PbU.ti⟩
  · have ho2 : o < p.n := ho
    rw [a2 o (by omega) j, n1, hn, TwB.fr F2]
    exact ⟨fun q => ⟨by rw [pn]; omega, q.2⟩, fun q => ⟨by rw [pn] at q; omega, q.2⟩⟩
  · obtain ⟨j, t⟩ := z
    exact absurd t PbU.ti
  · rw [e 21 4 (by omega) (by omega) (by omega)]
    exact ⟨fun z => absurd z (hp i), fun z => z.elim⟩
  · have z := (hx u hu).cg (V := fun y => usM (fun _ => False) (PbU p).un (PbU p).bu (PbU p).d (m3 22) (u : Int) (y : Int) (PbU p).n) (fun y _ => (us _ _).symm)
    intro k y h1 h2
    rw [e 28 _ (by omega) (by omega) (by omega)]
    exact z k y h1 h2
  · rw [us]; exact hP.2.2.1 u.toNat (by omega)
theorem HuI.non (hP : PrW (PbU p)) (hS : StS (PbU p) m2) (ho : o < p.n) (e22 : m2 22 o = 0) (hl : ∀ a, a < o → ¬ UnG p o a) (hN : ∀ w, ¬ PlnG (PbU p) (plusP (fun _ => False) o) (UnG p o) m2 w) : ∀ v, ¬ Fsb p v := fun v hv => by
  obtain ⟨L, hL⟩ := lst_ex (PbU.fsb hv)
  refine hN L ⟨hL.1.m _, fun a pa _ => ?_, fun a b hab hb _ _ t => hL.tw hP (hS.tw hP (by omega) hb t) hab hb⟩
  rw [pa.resolve_left (fun z => z), e22]
  exact hL.lead hP UnG.cl ho hl rfl
end HBU
theorem f_76r {S : Nat × (Nat → Int32)} {n : Nat} {mem : MM} {K : MM → Prop} {E : Nat → MM → Prop} {Z zn : Nat} (hZ : shA Z = some (.inl zn)) (hz : zn ≤ 1000) {x : Int} (H : ∀ m', Frm (pRw Z) mem m' → (∀ k, k < zn → m' Z k = x) → K m') : CQV (Ex S (n + 1)) 76 [.inr Z, .inl x] mem K E := by
  refine CY.of (k := 2) mt_76 rfl rfl (fun hv => ?_)
  have hC := Ex.mono S n
  have ii_x : InI x := hv (.inl x) (by simp)
  unfold InI at ii_x
  clear hv
  show Tx (Ex S n) S M_76 (kV K E) 0 0 0 [some (.inr Z), some (.inl x), none, none] [] mem
  have l_5 : ∀ (N : Nat) (x2 x3 : Int) (m_5 : MM), (0 ≤ x2) → (∀ k : Nat, (k : Int) < x2 → m_5 Z k = x) → (x3 = (zn : Int)) → ((zn - x2).toNat) < N → Frm (pRw Z) mem m_5 → Tx (Ex S n) S M_76 (kV K E) 0 0 5 [some (.inr Z), some (.inl x), some (.inl x2), some (.inl x3)] [] m_5 := by
    intro N
    induction N with
    | zero => intros; omega
    | succ N ih_5 =>
      intro x2 x3 m_5 i5_0 i5_1 i5_2 hN_5 hF_5
      refine Tx.iload_n hC te_76_5 rfl ?_
      refine Tx.iload_n hC te_76_6 rfl ?_
      refine Tx.icmp hC (t := 20) te_76_7 (by decide) (fun q1 => ?_) (fun q1 => ?_)
      · replace q1 : x3 ≤ (x2 : Int) := q1
        exact Tx.vret hC te_76_20 rfl (show K m_5 from H _ hF_5 (fun k hk => i5_1 k (by omega)))
      · replace q1 : ¬ (x3 ≤ (x2 : Int)) := q1
        refine Tx.aload_n hC te_76_10 rfl ?_
        refine Tx.iload_n hC te_76_11 rfl ?_
        refine Tx.iload_n hC te_76_12 rfl ?_
        refine Tx.iast hC te_76_13 hZ (by omega) ?_
        have hF3 : Frm (pRw Z) mem (upm m_5 Z (Int.toNat x2) x) := Frm.up hF_5 (by unfold pRw; omega)
        refine Tx.iincW hC te_76_14 rfl rfl (fun z4 z4i z4e => ?_)
        unfold InI at z4i z4e
        first | replace z4e := z4e (by omega) | clear z4e
        refine Tx.goto hC (t := 5) te_76_17 (by decide) ?_
        exact ih_5 z4 x3 (upm m_5 Z (Int.toNat x2) x) (by omega) (by intro k hk; first | (exfalso; omega) | (by_cases q : (k : Int) < x2; (rw [upm_ne (by omega)]; exact i5_1 k q); (rw [show k = x2.toNat by omega]; exact upm_eq))) (by first | rfl | exact i5_2) (by omega) hF3
  refine Tx.iconst hC te_76_0 rfl ?_
  refine Tx.istore_n hC te_76_1 rfl ?_
  refine Tx.aload_n hC te_76_2 rfl ?_
  refine Tx.alen hC te_76_3 hZ (by unfold InI; omega) ?_
  refine Tx.istore_n hC te_76_4 rfl ?_
  exact l_5 _ 0 (zn : Int) mem (by omega) (by intro k hk; first | (exfalso; omega) | (by_cases q : (k : Int) < x2; (rw [upm_ne (by omega)]; exact i5_1 k q); (rw [show k = x2.toNat by omega]; exact upm_eq))) (by first | rfl | exact i5_2) (Nat.lt_succ_self _) Frm.rf
set_option maxHeartbeats 1000000 in
theorem f_86e {S : Nat × (Nat → Int32)} {n : Nat} {mem : MM} {K : Int → MM → Prop} {E : Nat → MM → Prop} {d : Int} (hB : BodyOK mem) (hd : 1 ≤ d ∧ d ≤ 12) (hU : ∀ o, o < 8 → 0 ≤ mem 24 o ∧ mem 24 o ≤ 2) (H1 : ∀ m', FrHu mem m' → FfP (CPb mem d) m' → K 1 m') (H0 : ∀ m', FrHu mem m' → (∀ v, ¬ Fsb (CPb mem d) v) → K 0 m') : CQI (Ex S (n + 14)) 86 [.inr 21, .inr 1, .inl d] mem K E := by
  refine CY.of (k := 3) mt_86 rfl rfl (fun hv => ?_)
  have hC := Ex.mono S (n + 13)
  have ii_d : InI d := hv (.inl d) (by simp)
  unfold InI at ii_d
  clear hv
  have h8 := hB.1
  have pn : (CPb mem d).n = (mem 1 0).toNat := rfl
  have pu : (PbU (CPb mem d)).n = (mem 1 0).toNat := rfl
  have pd : (PbU (CPb mem d)).d = d := rfl
  have hPU : PrW (PbU (CPb mem d)) := PbU.w (show 0 < d by omega) (fun u hu => by have := hB.cn (o := u) (by omega); show 0 ≤ mem 8 u; omega)
  show Tx (Ex S (n + 13)) S M_86 (kI K E) 0 0 0 [some (.inr 21), some (.inr 1), some (.inl d), none, none, none] [] mem
  have l_36 : ∀ (N : Nat) (x3 x4 : Int) (m_36 : MM), (0 ≤ x4) → (∀ a : Nat, (a : Int) < x4 → ∀ j : Nat, j < (CPb mem d).n → (CPb mem d).un j = (CPb mem d).un a → Bt x3 j) → (∀ i j : Nat, Bt x3 i → j < (CPb mem d).n → (CPb mem d).un j = (CPb mem d).un i → Bt x3 j) → (HuI (CPb mem d) m_36) → ((8 - x4).toNat) < N → FrHu mem m_36 → Tx (Ex S (n + 13)) S M_86 (kI K E) 0 0 36 [some (.inr 21), some (.inr 1), some (.inl d), some (.inl x3), some (.inl x4), none] [] m_36 := by
    intro N
    induction N with
    | zero => intros; omega
    | succ N ih_36 =>
      intro x3 x4 m_36 i36_0 i36_1 i36_2 i36_3 hN_36 hF_36
      refine Tx.iload hC te_86_36 rfl ?_
      refine Tx.aload_n hC te_86_38 rfl ?_
      refine Tx.getI hC te_86_39 rfl rfl rfl (fun v1 v1e v1i => ?_)
      unfold InI at v1i
      refine Tx.icmp hC (t := 121) te_86_42 (by decide) (fun q2 => ?_) (fun q2 => ?_)
      · replace q2 : v1 ≤ (x4 : Int) := q2
        refine Tx.iconst hC te_86_121 rfl ?_
        exact Tx.bret hC te_86_122 rfl (by omega) (show K 1 m_36 from H1 _ hF_36 i36_3.ffp)
      · replace q2 : ¬ (v1 ≤ (x4 : Int)) := q2
        have hn36 := i36_3.1.2.1
        refine Tx.iload_n hC te_86_45 rfl ?_
        refine Tx.iconst hC te_86_46 rfl ?_
        refine Tx.iload hC te_86_47 rfl ?_
        refine Tx.bits hC (f := (fun (x y : Int32) => x <<< (y &&& 31))) te_86_49 (fun _ _ _ _ => Iff.rfl) (fun b3 b3e b3i => ?_)
        unfold InI at b3i
        refine Tx.bits hC (f := (fun (x y : Int32) => x &&& y)) te_86_50 (fun _ _ _ _ => Iff.rfl) (fun b4 b4e b4i => ?_)
        unfold InI at b4i
        have t4 := Bt_tst (o := x4) (by omega) (by assumption) b4e
        refine Tx.ifc hC (t := 115) te_86_51 (by decide) (fun q5 => ?_) (fun q5 => ?_)
        · replace q5 : ¬ (b4 : Int) = 0 := q5
          refine Tx.iincW hC te_86_115 rfl rfl (fun z6 z6i z6e => ?_)
          unfold InI at z6i z6e
          first | replace z6e := z6e (by omega) | clear z6e
          refine Tx.goto hC (t := 36) te_86_118 (by decide) ?_
          exact ih_36 x3 z6 m_36 (by omega) (by
            intro a ha j hj e
            first
            | (exfalso; omega)
            | (by_cases q : (a : Int) < x4
               · exact i36_1 a q j hj e
               · rw [show a = x4.toNat by omega] at e
                 exact i36_2 x4.toNat j (t4.mp (by assumption)) hj e)
            | (rw [bs j]
               by_cases q : (a : Int) < x4
               · exact Or.inl (i36_1 a q j hj e)
               · rw [show a = x4.toNat by omega] at e
                 exact Or.inr ⟨hj, e⟩)) (by
            intro i j b hj e
            first
            | exact absurd b Bt_0
            | exact i36_2 i j b hj e
            | (rw [bs j]
               rcases (bs i).mp b with w | w
               · exact Or.inl (i36_2 i j w hj e)
               · exact Or.inr ⟨hj, (show (CPb mem d).un j = (CPb mem d).un x4.toNat from e.trans w.2)⟩)) (by
            first
            | exact i36_3
            | exact hi.back hPU hb
            | exact FfP.hui hPU XP XF Xz XF XF Xa) (by omega) hF_36
        · replace q5 : ¬ (¬ (b4 : Int) = 0) := q5
          have ld : ∀ a : Nat, a < x4.toNat → ¬ UnG (CPb mem d) x4.toNat a := fun a ha g => absurd (t4.mpr (i36_1 a (by omega) x4.toNat (by omega) (show (CPb mem d).un x4.toNat = (CPb mem d).un a from (show (CPb mem d).un a = (CPb mem d).un x4.toNat from g).symm))) (by omega)
          have u24 := (i36_3.1.2.2.2.1 x4.toNat (by omega)).1
          have u02 := i36_3.1.un (o := x4.toNat) (by omega)
          refine Tx.aload_n hC te_86_54 rfl ?_
          refine Tx.aload_n hC te_86_55 rfl ?_
          refine Tx.getR hC te_86_56 rfl rfl rfl ?_
          refine Tx.aload_n hC te_86_59 rfl ?_
          refine Tx.getR hC te_86_60 rfl rfl rfl ?_
          refine Tx.iload hC te_86_63 rfl ?_
          refine Tx.iald hC te_86_65 rfl (by omega) (fun v7 v7e v7i => ?_)
          unfold InI at v7i
          have v7x : v7 = (CPb mem d).un x4.toNat := by rw [v7e]; exact u24
          refine Tx.iald hC te_86_66 rfl (by omega) (fun v8 v8e v8i => ?_)
          unfold InI at v8i
          have bm : ∀ j : Nat, Bt v8 j ↔ j < (CPb mem d).n ∧ UnG (CPb mem d) x4.toNat j := fun j => by
            rw [v8e, i36_3.2.2 _ (by rw [v7x]; show ((PbU (CPb mem d)).un x4.toNat).toNat < 3; omega) j]
            unfold UnG
            rw [v7x, show ((((CPb mem d).un x4.toNat).toNat : Nat) : Int) = (CPb mem d).un x4.toNat from by have w : 0 ≤ (CPb mem d).un x4.toNat := u02.1; omega]
          refine Tx.putI hC te_86_67 rfl rfl rfl rfl ?_
          have hF10 : FrHu mem (upm m_36 21 3 v8) := hF_36.tr (FrS.up FrS.rf (by unfold pSk; omega) (by omega))
          have m9e : (upm m_36 21 3 v8) 21 3 = v8 := upm_eq
          have m9n : ∀ B j, ¬ (B = 21 ∧ j = 3) → (upm m_36 21 3 v8) B j = m_36 B j := fun B j q => upm_ne q
          generalize upm m_36 21 3 v8 = m9 at hF10 m9e m9n ⊢
          have hi : HuI (CPb mem d) m9 := i36_3.cg (fun A i q => m9n A i q)
          have hn9 := hi.1.2.1
          have nmn : ¬ MnB m9 x4.toNat := fun z => by
            obtain ⟨b, c, _, t, _⟩ := (hi.1.mn hPU (o := x4.toNat) (by omega)).mp z
            exact PbU.ti t
          have pr91 := hi.1.pre91 (o := x4.toNat) (s := 0) hPU hi.2.1 (by omega)
          have hO : OpnB m9 d x4.toNat 0 := StS.lead hPU hi.1 hi.2.1 (show Shr (PbU (CPb mem d)) m9 from hi.2.2) (by omega) (fun a z => z.elim)
          refine Tx.iload_n hC te_86_70 rfl ?_
          refine Tx.aload_n hC te_86_71 rfl ?_
          refine Tx.getI hC te_86_72 rfl rfl rfl (fun v11 v11e v11i => ?_)
          unfold InI at v11i
          have n11 := v11e
          rw [m9e] at n11
          refine Tx.bits hC (f := (fun (x y : Int32) => x ||| y)) te_86_75 (fun _ _ _ _ => Iff.rfl) (fun b12 b12e b12i => ?_)
          unfold InI at b12i
          have bs : ∀ j : Nat, Bt b12 j ↔ Bt x3 j ∨ (j < (CPb mem d).n ∧ UnG (CPb mem d) x4.toNat j) := fun j => by rw [Bt_or b12e, n11, bm j]
          refine Tx.istore_n hC te_86_76 rfl ?_
          refine Tx.aload_n hC te_86_77 rfl ?_
          refine Tx.iload hC te_86_78 rfl ?_
          refine Tx.iconst hC te_86_80 rfl ?_
          refine Tx.virtI hC te_86_81 mt_91 (args := [.inr 21, .inl x4, .inl 0]) (rest := []) (c' := 0) (s' := 0) rfl rfl rfl rfl rfl rfl rfl rfl rfl rfl ?_
          refine f_91e (hi.1.skm hi.2.1) (by omega) (by omega) pr91.1 pr91.2.1 pr91.2.2.1 pr91.2.2.2 (fun m14 m14K m14T r13i => ?_) (fun _ _ mn _ => absurd mn nmn)
          have hSD := hi.1.put hPU (fun b c t => absurd t PbU.ti) hi.2.1 (o := x4.toNat) (s := 0) (by omega) (fun z => z) (by omega) hO m14K m14T
          have mm3 : m14 21 3 = m9 21 3 := m14K.cells.2.2 21 3 (by omega) (by omega) (by omega) (by omega) (by omega)
          have hF15n : FrHu mem m14 := hF10.tr (m14K.frs (by omega))
          refine Tx.ifc hC (t := 99) te_86_84 (by decide) (fun q => absurd q (show ¬ ((1 : Int) = 0) by decide)) (fun q => ?_)
          refine Tx.aload_n hC te_86_87 rfl ?_
          refine Tx.iconst hC te_86_88 rfl ?_
          refine Tx.virtI hC te_86_89 mt_96 (args := [.inr 21, .inl 0]) (rest := []) (c' := 0) (s' := 0) rfl rfl rfl rfl rfl rfl rfl rfl rfl rfl ?_
          refine f_96s hPU PbU.wy (fun b c t => absurd t PbU.ti) (UnG.cl (o := x4.toNat)) hSD.1 hSD.2 (fun j => by
            rw [mm3, m9e]
            exact bm j) (fun m17 m17B m17F r16i => ?_) (fun m17 m17B m17e m17N r16i => ?_)
          · skip
            have hS3 := m17B.sts hSD.1
            have hk : SkO m17 d ∧ m17 21 0 = mem 1 0 ∧ ∀ j, Bt (m17 34 x4.toNat) j → j < 8 := ⟨hS3.1, by have w := hS3.2.1; rw [pu] at w; omega, fun j b => by have := ((hS3.2.2.2.2.2.1 x4.toNat (by omega) j).mp b).1; omega⟩
            have hF18n : FrHu mem m17 := hF15n.tr m17B.frs
            refine Tx.ifc hC (t := 99) te_86_92 (by decide) (fun q => absurd q (show ¬ ((1 : Int) = 0) by decide)) (fun q => ?_)
            refine Tx.iconst hC te_86_95 rfl ?_
            refine Tx.goto hC (t := 100) te_86_96 (by decide) ?_
            refine Tx.istore hC te_86_100 rfl ?_
            refine Tx.aload_n hC te_86_102 rfl ?_
            refine Tx.iload hC te_86_103 rfl ?_
            refine Tx.virtV hC te_86_105 mt_102 (args := [.inr 21, .inl x4]) (rest := []) (c' := 0) (s' := 0) rfl rfl rfl rfl rfl rfl rfl rfl rfl rfl ?_
            refine f_102e hk.1 (by omega) hk.2.2 (fun m20 m20L => ?_)
            have hb := BkX.back hPU hi.1 (o := x4.toNat) (by omega) (fun z => z) hi.2.1.1 m14K m17B m20L (by omega)
            have hF21n : FrHu mem m20 := hF18n.tr m20L.frs
            refine Tx.iload hC te_86_108 rfl ?_
            refine Tx.ifc hC (t := 115) te_86_110 (by decide) (fun q => ?_) (fun q => absurd (show ¬ (1 : Int) = 0 by decide) q)
            refine Tx.iincW hC te_86_115 rfl rfl (fun z22 z22i z22e => ?_)
            unfold InI at z22i z22e
            first | replace z22e := z22e (by omega) | clear z22e
            refine Tx.goto hC (t := 36) te_86_118 (by decide) ?_
            exact Tx.weak (by repeat' (first | exact trivial | exact rfl | constructor)) (ih_36 b12 z22 m20 (by omega) (by
              intro a ha j hj e
              first
              | (exfalso; omega)
              | (by_cases q : (a : Int) < x4
                 · exact i36_1 a q j hj e
                 · rw [show a = x4.toNat by omega] at e
                   exact i36_2 x4.toNat j (t4.mp (by assumption)) hj e)
              | (rw [bs j]
                 by_cases q : (a : Int) < x4
                 · exact Or.inl (i36_1 a q j hj e)
                 · rw [show a = x4.toNat by omega] at e
                   exact Or.inr ⟨hj, e⟩)) (by
              intro i j b hj e
              first
              | exact absurd b Bt_0
              | exact i36_2 i j b hj e
              | (rw [bs j]
                 rcases (bs i).mp b with w | w
                 · exact Or.inl (i36_2 i j w hj e)
                 · exact Or.inr ⟨hj, (show (CPb mem d).un j = (CPb mem d).un x4.toNat from e.trans w.2)⟩)) (by
              first
              | exact i36_3
              | exact hi.back hPU hb
              | exact FfP.hui hPU XP XF Xz XF XF Xa) (by omega) hF21n)
          · skip
            have hS3 := m17B.sts hSD.1
            have hk : SkO m17 d ∧ m17 21 0 = mem 1 0 ∧ ∀ j, Bt (m17 34 x4.toNat) j → j < 8 := ⟨hS3.1, by have w := hS3.2.1; rw [pu] at w; omega, fun j b => by have := ((hS3.2.2.2.2.2.1 x4.toNat (by omega) j).mp b).1; omega⟩
            have hF18n : FrHu mem m17 := hF15n.tr m17B.frs
            refine Tx.ifc hC (t := 99) te_86_92 (by decide) (fun q => ?_) (fun q => absurd (show (0 : Int) = 0 by decide) q)
            refine Tx.iconst hC te_86_99 rfl ?_
            refine Tx.istore hC te_86_100 rfl ?_
            refine Tx.aload_n hC te_86_102 rfl ?_
            refine Tx.iload hC te_86_103 rfl ?_
            refine Tx.virtV hC te_86_105 mt_102 (args := [.inr 21, .inl x4]) (rest := []) (c' := 0) (s' := 0) rfl rfl rfl rfl rfl rfl rfl rfl rfl rfl ?_
            refine f_102e hk.1 (by omega) hk.2.2 (fun m24 m24L => ?_)
            have hb := BkX.back hPU hi.1 (o := x4.toNat) (by omega) (fun z => z) hi.2.1.1 m14K m17B m24L (by omega)
            have hF25n : FrHu mem m24 := hF18n.tr m24L.frs
            refine Tx.iload hC te_86_108 rfl ?_
            refine Tx.ifc hC (t := 115) te_86_110 (by decide) (fun q => absurd q (show ¬ (¬ (0 : Int) = 0) by decide)) (fun q => ?_)
            refine Tx.iconst hC te_86_113 rfl ?_
            exact Tx.bret hC te_86_114 rfl (by omega) (show K 0 m24 from H0 _ hF25n (HuI.non hPU hSD.1 (o := x4.toNat) (by omega) (by rw [m14K.cells.1]; exact plusS.eq) ld m17N))
  refine Tx.aload_n hC te_86_0 rfl ?_
  refine Tx.aload_n hC te_86_1 rfl ?_
  refine Tx.iload_n hC te_86_2 rfl ?_
  refine Tx.virtI hC te_86_3 mt_87 (args := [.inr 21, .inr 1, .inl d]) (rest := []) (c' := 0) (s' := 0) rfl rfl rfl rfl rfl rfl rfl rfl rfl rfl ?_
  refine f_87e hB hd hU (fun m27 m27F m27U m27P r26i => ?_) (fun m27 m27F m27U m27N r26i => ?_)
  · skip
    have hF28n : FrHu mem m27 := FrHu.k7 m27F m27U
    refine Tx.ifc hC (t := 11) te_86_6 (by decide) (fun q => ?_) (fun q => absurd (show ¬ (1 : Int) = 0 by decide) q)
    refine Tx.aload_n hC te_86_11 rfl ?_
    refine Tx.getR hC te_86_12 rfl rfl rfl ?_
    refine Tx.iconst hC te_86_15 rfl ?_
    refine Tx.statV hC te_86_16 (by decide) mt_76 (args := [.inr 34, .inl 0]) (rest := []) (c' := 0) (s' := 0) rfl rfl rfl rfl rfl rfl rfl ?_
    refine f_76r (Z := 34) (zn := 8) rfl (by omega) (fun m30 m30F m30z => ?_)
    have hF31n : FrHu mem m30 := hF28n.rw m30F (by omega)
    refine Tx.aload_n hC te_86_19 rfl ?_
    refine Tx.getR hC te_86_20 rfl rfl rfl ?_
    refine Tx.iconst hC te_86_23 rfl ?_
    refine Tx.statV hC te_86_24 (by decide) mt_76 (args := [.inr 36, .inl 1]) (rest := []) (c' := 0) (s' := 0) rfl rfl rfl rfl rfl rfl rfl ?_
    refine f_76r (Z := 36) (zn := 8) rfl (by omega) (fun m33 m33F m33z => ?_)
    have hF34n : FrHu mem m33 := hF31n.rw m33F (by omega)
    refine Tx.aload_n hC te_86_27 rfl ?_
    refine Tx.virtV hC te_86_28 mt_89 (args := [.inr 21]) (rest := []) (c' := 0) (s' := 0) rfl rfl rfl rfl rfl rfl rfl rfl rfl rfl ?_
    have sk : SkO m33 d := m27P.1.1.cg (fun A i q => (m33F A i (by unfold pRw; omega)).trans (m30F A i (by unfold pRw; omega)))
    refine f_89e sk (fun m36 m36F m36a => ?_)
    have hF37n : FrHu mem m36 := hF34n.tr ⟨m36F.mono (fun A i q => by unfold pR35 at q; unfold pSk; omega), fun o => Or.inl (m36F 22 o (by unfold pR35; omega))⟩
    refine Tx.iconst hC te_86_31 rfl ?_
    refine Tx.istore_n hC te_86_32 rfl ?_
    refine Tx.iconst hC te_86_33 rfl ?_
    refine Tx.istore hC te_86_34 rfl ?_
    exact l_36 _ 0 0 m36 (by omega) (by
      intro a ha j hj e
      first
      | (exfalso; omega)
      | (by_cases q : (a : Int) < x4
         · exact i36_1 a q j hj e
         · rw [show a = x4.toNat by omega] at e
           exact i36_2 x4.toNat j (t4.mp (by assumption)) hj e)
      | (rw [bs j]
         by_cases q : (a : Int) < x4
         · exact Or.inl (i36_1 a q j hj e)
         · rw [show a = x4.toNat by omega] at e
           exact Or.inr ⟨hj, e⟩)) (by
      intro i j b hj e
      first
      | exact absurd b Bt_0
      | exact i36_2 i j b hj e
      | (rw [bs j]
         rcases (bs i).mp b with w | w
         · exact Or.inl (i36_2 i j w hj e)
         · exact Or.inr ⟨hj, (show (CPb mem d).un j = (CPb mem d).un x4.toNat from e.trans w.2)⟩)) (by
      first
      | exact i36_3
      | exact hi.back hPU hb
      | exact FfP.hui hPU m27P m30F m30z m33F m36F m36a) (Nat.lt_succ_self _) hF37n
  · skip
    have hF28n : FrHu mem m27 := FrHu.k7 m27F m27U
    refine Tx.ifc hC (t := 11) te_86_6 (by decide) (fun q => absurd q (show ¬ (¬ (0 : Int) = 0) by decide)) (fun q => ?_)
    refine Tx.iconst hC te_86_9 rfl ?_
    exact Tx.bret hC te_86_10 rfl (by omega) (show K 0 m27 from H0 _ hF28n m27N)
end
section
/-! laid by wip/hand/tg.py: the seeker, exactly -/
def WkN (E : Nat → Nat → Int → Prop) : Nat → Nat → Int → Prop
  | 0, _, v => v = 0
  | j + 1, b, v => WkN E j b v ∨ ∃ a w v', WkN E j a v' ∧ E a b w ∧ v = v' + w
section WKN
variable {E : Nat → Nat → Int → Prop} {n : Nat}
theorem WkN.zero : ∀ (j b : Nat), WkN E j b 0
  | 0, _ => rfl
  | j + 1, b => Or.inl (WkN.zero j b)
theorem WkN.up {b : Nat} {v : Int} {j : Nat} (h : WkN E j b v) : ∀ i : Nat, WkN E (j + i) b v
  | 0 => h
  | i + 1 => Or.inl (WkN.up h i)
theorem WkN.wk : ∀ (j : Nat) {b : Nat} {v : Int}, WkN E j b v → v = 0 ∨ ∃ a l, l.length < j ∧ Wk E a l b v
  | 0, _, _, h => Or.inl h
  | j + 1, b, v, h => by
    rcases h with h | ⟨a, w, v', h1, h2, h3⟩
    · rcases WkN.wk j h with e | ⟨a, l, e1, e2⟩
      · exact Or.inl e
      · exact Or.inr ⟨a, l, by omega, e2⟩
    · rcases WkN.wk j h1 with e | ⟨c, l, e1, e2⟩
      · refine Or.inr ⟨a, [], by simp, ?_⟩
        rw [h3, e, Int.zero_add]
        exact h2
      · refine Or.inr ⟨c, l ++ a :: [], by rw [List.length_append, List.length_cons, List.length_nil]; omega, ?_⟩
        rw [h3]
        exact Wk.app e2 (q := []) h2
theorem Wk.wkn : ∀ (l : List Nat) {a b : Nat} {v v0 : Int} {j : Nat}, WkN E j a v0 → Wk E a l b v → WkN E (j + l.length + 1) b (v0 + v)
  | [], a, b, v, v0, j, h, g => Or.inr ⟨a, v, v0, h, g, rfl⟩
  | c :: l, a, b, v, v0, j, h, ⟨x, y, g1, g2, e⟩ => by
    have z := Wk.wkn l (j := j + 1) (v0 := v0 + x) (Or.inr ⟨a, x, v0, h, g1, rfl⟩) g2
    rw [show j + (c :: l).length + 1 = j + 1 + l.length + 1 by rw [List.length_cons]; omega, e, ← Int.add_assoc]
    exact z
theorem WkN.red (hU : NoUp E) (hV : ∀ a b x, E a b x → a < n ∧ b < n) {j b : Nat} {v : Int} (h : WkN E j b v) : ∃ v', v ≤ v' ∧ WkN E (n + 1) b v' := by
  rcases WkN.wk j h with e | ⟨a, l, -, g⟩
  · exact ⟨0, by omega, WkN.zero _ _⟩
  · obtain ⟨l', v', g1, g2, g3, g4⟩ := Wk.red hU l a b v g
    have ends := Wk.ends hV g
    have len := nd_len (k := n) g1 (fun c hc => ends.2.2 c (g2 c hc))
    have z := (Wk.wkn l' (WkN.zero 0 a) g3).up (n - l'.length)
    rw [Int.zero_add, show 0 + l'.length + 1 + (n - l'.length) = n + 1 by omega] at z
    exact ⟨v', g4, z⟩
end WKN
def TmA (p : Prb) (s T : Nat → Int) : Prop := ∀ b, b < p.n → ∃ j v, WkN (CEd p s) j b v ∧ T b = s b + p.d * v
def TmN (p : Prb) (s T : Nat → Int) (j : Nat) : Prop := ∀ b v, b < p.n → WkN (CEd p s) j b v → s b + p.d * v ≤ T b
def TmD (p : Prb) (T : Nat → Int) : Prop := ∀ a b x, p.E a b x → T a + x ≤ T b
def TmI (p : Prb) (s T0 T : Nat → Int) (c : Nat → Q4) (ch i : Int) : Prop := TmA p s T ∧ (∀ o, o < p.n → T0 o ≤ T o) ∧ (∀ j : Nat, (j : Int) < i → ∀ a b : Nat, (c j).1 = a → (c j).2.1 = b → ∀ v, s a + p.d * v ≤ T0 a → s b + p.d * (v + cdv ((c j).2.2.2 - p.d * (c j).2.2.1 + s a - s b) p.d) ≤ T b) ∧ (ch = 0 → (∀ o, o < p.n → T o = T0 o) ∧ ∀ j : Nat, (j : Int) < i → ∀ a b : Nat, (c j).1 = a → (c j).2.1 = b → T a + ((c j).2.2.2 - p.d * (c j).2.2.1) ≤ T b)
section TMS
variable {p : Prb} {s T T' T0 : Nat → Int} {c : Nat → Q4} {sz : Nat} {ch i i' : Int}
theorem CEd.nou (hP : PrW p) {t : Nat → Int} (ht : TuP p s t) : NoUp (CEd p s) := fun a l v _ g => by
  have z := Wk.pot (E := CEd p s) (φ := t) (fun a b y ⟨x, h1, h2⟩ => by rw [h2]; exact CEd.le hP (ht a b x h1)) g
  omega
theorem TmA.ini (e : ∀ o, o < p.n → T o = s o) : TmA p s T := fun b hb => ⟨0, 0, rfl, by rw [e b hb, Int.mul_zero, Int.add_zero]⟩
theorem TmN.ini (e : ∀ o, o < p.n → T o = s o) : TmN p s T 0 := fun b v hb h => by
  rw [e b hb, show v = 0 from h, Int.mul_zero, Int.add_zero]
  exact Int.le_refl _
theorem TmI.ini (h : TmA p s T) : TmI p s T T c 0 0 := ⟨h, fun _ _ => Int.le_refl _, fun j hj => absurd hj (by omega), fun _ => ⟨fun _ _ => rfl, fun j hj => absurd hj (by omega)⟩⟩
theorem TmI.ok (hP : PrW p) (hE : p.E = EdQ c sz p.d) (h : TmI p s T0 T c ch i) (e : i' = i + 1) (h0 : 0 ≤ i ∧ i < sz) {a b : Nat} (ha : (c i.toNat).1 = a) (hb : (c i.toNat).2.1 = b) (hn : T a + ((c i.toNat).2.2.2 - p.d * (c i.toNat).2.2.1) ≤ T b) : TmI p s T0 T c ch i' := by
  obtain ⟨h1, h2, h3, h4⟩ := h
  have ed : p.E a b ((c i.toNat).2.2.2 - p.d * (c i.toNat).2.2.1) := by
    rw [hE]
    exact ⟨i.toNat, by omega, ha, hb, rfl⟩
  have v := (hP.2.1 a b _ ed).1
  refine ⟨h1, h2, fun j hj a' b' ea eb v0 hv => ?_, fun z => ⟨(h4 z).1, fun j hj a' b' ea eb => ?_⟩⟩
  · by_cases q : (j : Int) < i
    · exact h3 j q a' b' ea eb v0 hv
    · have jj : j = i.toNat := by omega
      subst jj
      obtain rfl : a' = a := by omega
      obtain rfl : b' = b := by omega
      obtain ⟨ja, va, ka, ea2⟩ := h1 a' v.1
      obtain ⟨jb, vb, kb, eb2⟩ := h1 b' v.2
      have l0 := h2 a' v.1
      have l1 : p.d * v0 ≤ p.d * va := by omega
      have l2 := Int.le_of_mul_le_mul_left l1 hP.1
      have l3 := (cdv_le (z := (c i.toNat).2.2.2 - p.d * (c i.toNat).2.2.1 + s a' - s b') (y := vb - va) hP.1).mpr (by rw [Int.mul_sub]; omega)
      have l4 := Int.mul_le_mul_of_nonneg_left (show v0 + cdv ((c i.toNat).2.2.2 - p.d * (c i.toNat).2.2.1 + s a' - s b') p.d ≤ vb by omega) (show 0 ≤ p.d by have := hP.1; omega)
      omega
  · by_cases q : (j : Int) < i
    · exact (h4 z).2 j q a' b' ea eb
    · have jj : j = i.toNat := by omega
      subst jj
      obtain rfl : a' = a := by omega
      obtain rfl : b' = b := by omega
      exact hn
theorem TmI.add (hP : PrW p) (hE : p.E = EdQ c sz p.d) (h : TmI p s T0 T c ch i) (e : i' = i + 1) (h0 : 0 ≤ i ∧ i < sz) {a b : Nat} (ha : (c i.toNat).1 = a) (hb : (c i.toNat).2.1 = b) {y r : Int} (ey : y = T a + ((c i.toNat).2.2.2 - p.d * (c i.toNat).2.2.1) - T b) (hy : 0 < y) (hr1 : p.d * (r - 1) < y) (hr2 : y ≤ p.d * r) (eT : ∀ o, o < p.n → T' o = if o = b then T b + p.d * r else T o) : TmI p s T0 T' c 1 i' := by
  obtain ⟨h1, h2, h3, h4⟩ := h
  have d0 := hP.1
  have ed : p.E a b ((c i.toNat).2.2.2 - p.d * (c i.toNat).2.2.1) := by
    rw [hE]
    exact ⟨i.toNat, by omega, ha, hb, rfl⟩
  have v := (hP.2.1 a b _ ed).1
  have r0 : 0 < r := by
    by_cases q : 0 < r
    · exact q
    · have := Int.mul_nonpos_of_nonneg_of_nonpos (show 0 ≤ p.d by omega) (show r ≤ 0 by omega)
      omega
  have dr := Int.mul_pos d0 r0
  obtain ⟨ja, va, ka, ea2⟩ := h1 a v.1
  obtain ⟨jb, vb, kb, eb2⟩ := h1 b v.2
  have er : r = cdv ((c i.toNat).2.2.2 - p.d * (c i.toNat).2.2.1 + s a - s b) p.d + va - vb := by
    have q1 := (cdv_le (z := (c i.toNat).2.2.2 - p.d * (c i.toNat).2.2.1 + s a - s b) (y := r + vb - va) d0).mpr (by rw [Int.mul_sub, Int.mul_add]; omega)
    have q2 : ¬ cdv ((c i.toNat).2.2.2 - p.d * (c i.toNat).2.2.1 + s a - s b) p.d ≤ r - 1 + vb - va := fun w => by
      have w2 := (cdv_le d0).mp w
      rw [Int.mul_sub, Int.mul_add] at w2
      omega
    omega
  have Tb : T' b = s b + p.d * (va + cdv ((c i.toNat).2.2.2 - p.d * (c i.toNat).2.2.1 + s a - s b) p.d) := by
    rw [eT b v.2, if_pos rfl, eb2, show va + cdv ((c i.toNat).2.2.2 - p.d * (c i.toNat).2.2.1 + s a - s b) p.d = vb + r by omega, Int.mul_add]
    omega
  have up : ∀ o, o < p.n → T o ≤ T' o := fun o ho => by
    rw [eT o ho]
    split
    · rename_i q
      subst q
      omega
    · exact Int.le_refl _
  refine ⟨fun o ho => ?_, fun o ho => Int.le_trans (h2 o ho) (up o ho), fun j hj a' b' ea eb v0 hv => ?_, fun z => by omega⟩
  · by_cases q : o = b
    · subst q
      exact ⟨ja + 1, _, Or.inr ⟨a, _, va, ka, ⟨_, ed, rfl⟩, rfl⟩, Tb⟩
    · rw [eT o ho, if_neg q]
      exact h1 o ho
  · by_cases q : (j : Int) < i
    · have ed2 : p.E a' b' ((c j).2.2.2 - p.d * (c j).2.2.1) := by
        rw [hE]
        exact ⟨j, by omega, ea, eb, rfl⟩
      exact Int.le_trans (h3 j q a' b' ea eb v0 hv) (up b' (hP.2.1 a' b' _ ed2).1.2)
    · have jj : j = i.toNat := by omega
      subst jj
      obtain rfl : a' = a := by omega
      obtain rfl : b' = b := by omega
      have l0 := h2 a' v.1
      have l1 : p.d * v0 ≤ p.d * va := by omega
      have l2 := Int.le_of_mul_le_mul_left l1 d0
      have l4 := Int.mul_le_mul_of_nonneg_left (show v0 + cdv ((c i.toNat).2.2.2 - p.d * (c i.toNat).2.2.1 + s a' - s b') p.d ≤ va + cdv ((c i.toNat).2.2.2 - p.d * (c i.toNat).2.2.1 + s a' - s b') p.d by omega) (show 0 ≤ p.d by omega)
      omega
theorem TmI.out (hP : PrW p) (hE : p.E = EdQ c sz p.d) {j : Nat} (hN : TmN p s T0 j) (h : TmI p s T0 T c ch i) (q : (sz : Int) ≤ i) : TmA p s T ∧ TmN p s T (j + 1) ∧ (ch = 0 → TmD p T) := by
  obtain ⟨h1, h2, h3, h4⟩ := h
  refine ⟨h1, fun b v hb w => ?_, fun z a b x hx => ?_⟩
  · rcases w with w | ⟨a, y, v', w1, ⟨x, w2, w3⟩, w4⟩
    · exact Int.le_trans (hN b v hb w) (h2 b hb)
    · have va := (hP.2.1 a b x w2).1.1
      have w5 := w2
      rw [hE] at w5
      obtain ⟨k, k1, k2, k3, k4⟩ := w5
      have g := h3 k (by omega) a b k2 k3 v' (hN a v' va w1)
      rw [← k4, ← w3, ← w4] at g
      exact g
  · rw [hE] at hx
    obtain ⟨k, k1, k2, k3, k4⟩ := hx
    rw [k4]
    exact (h4 z).2 k (by omega) a b k2 k3
theorem TmA.full (hP : PrW p) {t : Nat → Int} (ht : TuP p s t) (h : TmA p s T) {j : Nat} (hN : TmN p s T j) (q : p.n + 1 ≤ j) : TmD p T := fun a b x hx => by
  have v := (hP.2.1 a b x hx).1
  obtain ⟨ja, va, ka, ea⟩ := h a v.1
  have w : WkN (CEd p s) (ja + 1) b (va + cdv (x + s a - s b) p.d) := Or.inr ⟨a, _, va, ka, ⟨x, hx, rfl⟩, rfl⟩
  obtain ⟨v', g1, g2⟩ := WkN.red (n := p.n) (CEd.nou hP ht) (fun a b y ⟨x, h1, _⟩ => (hP.2.1 a b x h1).1) w
  have g3 := hN b v' v.2 (by have z := g2.up (j - (p.n + 1)); rw [show p.n + 1 + (j - (p.n + 1)) = j by omega] at z; exact z)
  have l := Int.mul_le_mul_of_nonneg_left g1 (show 0 ≤ p.d by have := hP.1; omega)
  have c := (cdv_le (z := x + s a - s b) (y := cdv (x + s a - s b) p.d) hP.1).mp (Int.le_refl _)
  rw [Int.mul_add] at l
  omega
theorem TmA.least (hP : PrW p) (h : TmA p s T) (hD : TmD p T) (h0 : ∀ o, o < p.n → s o ≤ T o) : TmL p s T := by
  have d0 := hP.1
  refine ⟨⟨fun o ho => ?_, hD⟩, fun T' hT' o ho => ?_⟩
  · obtain ⟨j, v, _, e⟩ := h o ho
    refine ⟨v, ?_, e⟩
    have := h0 o ho
    by_cases q : 0 ≤ v
    · exact q
    · have z := Int.mul_neg_of_pos_of_neg d0 (show v < 0 by omega)
      omega
  · obtain ⟨j, v, g, e⟩ := h o ho
    have key : ∀ (j : Nat) (b : Nat) (v : Int), b < p.n → WkN (CEd p s) j b v → s b + p.d * v ≤ T' b := by
      intro j
      induction j with
      | zero =>
        intro b v hb w
        obtain ⟨t, t0, te⟩ := hT'.1 b hb
        have z := Int.mul_nonneg (show 0 ≤ p.d by omega) t0
        rw [show v = 0 from w, te, Int.mul_zero]
        omega
      | succ j ih =>
        intro b v hb w
        rcases w with w | ⟨a, y, v', w1, ⟨x, w2, w3⟩, w4⟩
        · exact ih b v hb w
        · have va := (hP.2.1 a b x w2).1.1
          have g1 := ih a v' va w1
          have g2 := hT'.2 a b x w2
          obtain ⟨ta, ta0, tea⟩ := hT'.1 a va
          obtain ⟨tb, tb0, teb⟩ := hT'.1 b hb
          have l1 : p.d * v' ≤ p.d * ta := by omega
          have l2 := Int.le_of_mul_le_mul_left l1 d0
          have l3 := (cdv_le (z := x + s a - s b) (y := tb - ta) d0).mpr (by rw [Int.mul_sub]; omega)
          have l4 := Int.mul_le_mul_of_nonneg_left (show v ≤ tb by rw [w4, w3]; omega) (show 0 ≤ p.d by omega)
          omega
    rw [e]
    exact key j o v ho g
end TMS
set_option maxHeartbeats 1000000 in
theorem f_107e {S : Nat × (Nat → Int32)} {n : Nat} {mem : MM} {K : MM → Prop} {E : Nat → MM → Prop} {Q : Nat} (hQ : ChSh Q) (hz : mem Q 2 = mem 1 0) (h8 : 0 ≤ mem 1 0 ∧ mem 1 0 ≤ 8) (hp : 1 ≤ mem Q 3 ∧ mem Q 3 ≤ 12) (hsl : ∀ o, o < 8 → 0 ≤ mem (Q + 1) o ∧ mem (Q + 1) o ≤ 11) (hD : DT mem Q 0 0) (hW9 : WbOK mem 9) (hWS : WbS mem) (hP : PrW (CPb mem (mem Q 3))) (ht : ∃ t, TuP (CPb mem (mem Q 3)) (mem (Q + 1)) t) (H : ∀ m', Frm (pTm Q) mem m' → DT m' Q 0 0 → TmL (CPb mem (mem Q 3)) (mem (Q + 1)) (m' (Q + 2)) → K m') : CQV (Ex S (n + 3)) 107 [.inr Q, .inr 9] mem K E := by
  refine CY.of (k := 5) mt_107 rfl rfl (fun hv => ?_)
  have hC := Ex.mono S (n + 2)
  clear hv
  have hq8 := hQ.rg
  have hw := hW9.2
  have pn : (CPb mem (mem Q 3)).n = (mem 1 0).toNat := rfl
  have pd : (CPb mem (mem Q 3)).d = mem Q 3 := rfl
  have pE : (CPb mem (mem Q 3)).E = EdQ (cwq mem 9) (mem 9 0).toNat (CPb mem (mem Q 3)).d := rfl
  show Tx (Ex S (n + 2)) S M_107 (kV K E) 0 0 0 [some (.inr Q), some (.inr 9), none, none, none, none, none] [] mem
  have l_32 : ∀ (N : Nat) (x2 x3 : Int) (m_32 : MM), (0 ≤ x3 ∧ x3 ≤ 9) → (DT m_32 Q (mem 1 0) (11 + 1152 * x3)) → (TmA (CPb mem (mem Q 3)) (mem (Q + 1)) (m_32 (Q + 2)) ∧ TmN (CPb mem (mem Q 3)) (mem (Q + 1)) (m_32 (Q + 2)) x3.toNat ∧ (x2 = 0 → TmD (CPb mem (mem Q 3)) (m_32 (Q + 2)))) → (∀ o, o < (CPb mem (mem Q 3)).n → mem (Q + 1) o ≤ m_32 (Q + 2) o) → ((9 - x3).toNat) < N → Frm (pTm Q) mem m_32 → Tx (Ex S (n + 2)) S M_107 (kV K E) 0 0 32 [some (.inr Q), some (.inr 9), some (.inl x2), some (.inl x3), none, none, none] [] m_32 := by
    intro N
    induction N with
    | zero => intros; omega
    | succ N ih_32 =>
      intro x2 x3 m_32 i32_0 i32_1 i32_2 i32_3 hN_32 hF_32
      have l_47 : ∀ (N : Nat) (x2 x4 : Int) (m_47 : MM), (0 ≤ x4 ∧ x4 ≤ 64) → (DT m_47 Q (mem 1 0) (11 + 1152 * x3 + 18 * x4)) → (0 ≤ x3 ∧ x3 ≤ 8) → (TmI (CPb mem (mem Q 3)) (mem (Q + 1)) (m_32 (Q + 2)) (m_47 (Q + 2)) (cwq mem 9) x2 x4) → ((64 - x4).toNat) < N → Frm (pTm Q) mem m_47 → Tx (Ex S (n + 2)) S M_107 (kV K E) 0 0 47 [some (.inr Q), some (.inr 9), some (.inl x2), some (.inl x3), some (.inl x4), none, none] [] m_47 := by
        intro N
        induction N with
        | zero => intros; omega
        | succ N ih_47 =>
          intro x2 x4 m_47 i47_0 i47_1 i47_2 i47_3 hN_47 hF_47
          refine Tx.iload hC te_107_47 rfl ?_
          refine Tx.aload_n hC te_107_49 rfl ?_
          refine Tx.getI hC te_107_50 rfl rfl rfl (fun v1 v1e v1i => ?_)
          unfold InI at v1i
          rw [hF_47 9 _ (by unfold pTm; omega)] at v1e
          refine Tx.icmp hC (t := 145) te_107_53 (by decide) (fun q2 => ?_) (fun q2 => ?_)
          · replace q2 : v1 ≤ (x4 : Int) := q2
            refine Tx.iincW hC te_107_145 rfl rfl (fun z3 z3i z3e => ?_)
            unfold InI at z3i z3e
            first | replace z3e := z3e (by omega) | clear z3e
            refine Tx.goto hC (t := 32) te_107_148 (by decide) ?_
            exact Tx.weak (by repeat' (first | exact trivial | exact rfl | constructor)) (ih_32 x2 z3 m_47 (by omega) (DT.le i47_1 (by omega) (by omega)) (by
              first
              | (have w := TmI.out hP pE i32_2.2.1 i47_3 (by omega)
                 rw [show (z3 : Int).toNat = x3.toNat + 1 by omega]
                 exact w)
              | (refine ⟨TmA.ini (fun o ho => i2_2 o (by omega)), TmN.ini (fun o ho => i2_2 o (by omega)), fun z => by omega⟩)) (by
              intro o ho
              first
              | exact Int.le_trans (i32_3 o ho) (i47_3.2.1 o ho)
              | (rw [i2_2 o (by omega)]; exact Int.le_refl _)) (by omega) hF_47)
          · replace q2 : ¬ (v1 ≤ (x4 : Int)) := q2
            refine Tx.aload_n hC te_107_56 rfl ?_
            refine Tx.getR hC te_107_57 rfl rfl rfl ?_
            refine Tx.iload hC te_107_60 rfl ?_
            refine Tx.iald hC te_107_62 rfl (by omega) (fun v4 v4e v4i => ?_)
            unfold InI at v4i
            rw [hF_47 11 _ (by unfold pTm; omega)] at v4e
            have f5 : Rg (mem 10 (Int.toNat x4)) (mem 11 (Int.toNat x4)) (mem 12 (Int.toNat x4)) (mem 13 (Int.toNat x4)) := hW9.1 (Int.toNat x4) (by omega)
            unfold Rg at f5
            have f5s := hWS (Int.toNat x4) (by omega)
            refine Tx.istore hC te_107_63 rfl ?_
            refine Tx.aload_n hC te_107_65 rfl ?_
            refine Tx.getR hC te_107_66 hQ.s0 rfl rfl ?_
            refine Tx.aload_n hC te_107_69 rfl ?_
            refine Tx.getR hC te_107_70 rfl rfl rfl ?_
            refine Tx.iload hC te_107_73 rfl ?_
            refine Tx.iald hC te_107_75 rfl (by omega) (fun v6 v6e v6i => ?_)
            unfold InI at v6i
            rw [hF_47 10 _ (by unfold pTm; omega)] at v6e
            have f7 : Rg (mem 10 (Int.toNat x4)) (mem 11 (Int.toNat x4)) (mem 12 (Int.toNat x4)) (mem 13 (Int.toNat x4)) := hW9.1 (Int.toNat x4) (by omega)
            unfold Rg at f7
            have f7s := hWS (Int.toNat x4) (by omega)
            refine Tx.iald hC te_107_76 hQ.s2 (by omega) (fun v8 v8e v8i => ?_)
            unfold InI at v8i
            have f9 := i47_1 (Int.toNat v6) (by omega)
            refine Tx.aload_n hC te_107_77 rfl ?_
            refine Tx.getR hC te_107_78 rfl rfl rfl ?_
            refine Tx.iload hC te_107_81 rfl ?_
            refine Tx.iald hC te_107_83 rfl (by omega) (fun v10 v10e v10i => ?_)
            unfold InI at v10i
            rw [hF_47 13 _ (by unfold pTm; omega)] at v10e
            have f11 : Rg (mem 10 (Int.toNat x4)) (mem 11 (Int.toNat x4)) (mem 12 (Int.toNat x4)) (mem 13 (Int.toNat x4)) := hW9.1 (Int.toNat x4) (by omega)
            unfold Rg at f11
            refine Tx.iaddW hC te_107_84 (fun z12 z12i z12e => ?_)
            unfold InI at z12i z12e
            first | replace z12e := z12e (by omega) | clear z12e
            refine Tx.aload_n hC te_107_85 rfl ?_
            refine Tx.getI hC te_107_86 hQ.s0 rfl rfl (fun v13 v13e v13i => ?_)
            unfold InI at v13i
            rw [hF_47 Q _ (by unfold pTm; omega)] at v13e
            refine Tx.aload_n hC te_107_89 rfl ?_
            refine Tx.getR hC te_107_90 rfl rfl rfl ?_
            refine Tx.iload hC te_107_93 rfl ?_
            refine Tx.iald hC te_107_95 rfl (by omega) (fun v14 v14e v14i => ?_)
            unfold InI at v14i
            rw [hF_47 12 _ (by unfold pTm; omega)] at v14e
            have f15 : Rg (mem 10 (Int.toNat x4)) (mem 11 (Int.toNat x4)) (mem 12 (Int.toNat x4)) (mem 13 (Int.toNat x4)) := hW9.1 (Int.toNat x4) (by omega)
            unfold Rg at f15
            have v13d := d7 (d := v13) (x := v14) (by omega) (by omega)
            refine Tx.imulW hC te_107_96 (fun z16 z16i z16e => ?_)
            unfold InI at z16i z16e
            first | replace z16e := z16e (by omega) | clear z16e
            refine Tx.isubW hC te_107_97 (fun z17 z17i z17e => ?_)
            unfold InI at z17i z17e
            first | replace z17e := z17e (by omega) | clear z17e
            refine Tx.aload_n hC te_107_98 rfl ?_
            refine Tx.getR hC te_107_99 hQ.s0 rfl rfl ?_
            refine Tx.iload hC te_107_102 rfl ?_
            refine Tx.iald hC te_107_104 hQ.s2 (by omega) (fun v18 v18e v18i => ?_)
            unfold InI at v18i
            have f19 := i47_1 (Int.toNat v4) (by omega)
            refine Tx.isubW hC te_107_105 (fun z20 z20i z20e => ?_)
            unfold InI at z20i z20e
            first | replace z20e := z20e (by omega) | clear z20e
            have zz : z16 = mem Q 3 * mem 12 x4.toNat := by rw [z16e, v13e, v14e]
            have ha : (cwq mem 9 x4.toNat).1 = ((v6.toNat : Nat) : Int) := (show mem 10 x4.toNat = ((v6.toNat : Nat) : Int) by omega)
            have hb : (cwq mem 9 x4.toNat).2.1 = ((v4.toNat : Nat) : Int) := (show mem 11 x4.toNat = ((v4.toNat : Nat) : Int) by omega)
            have hy : z20 = m_47 (Q + 2) v6.toNat + ((cwq mem 9 x4.toNat).2.2.2 - (CPb mem (mem Q 3)).d * (cwq mem 9 x4.toNat).2.2.1) - m_47 (Q + 2) v4.toNat := (show z20 = m_47 (Q + 2) v6.toNat + (mem 13 x4.toNat - mem Q 3 * mem 12 x4.toNat) - m_47 (Q + 2) v4.toNat by omega)
            refine Tx.istore hC te_107_106 rfl ?_
            refine Tx.iload hC te_107_108 rfl ?_
            refine Tx.ifc hC (t := 139) te_107_110 (by decide) (fun q21 => ?_) (fun q21 => ?_)
            · replace q21 : (z20 : Int) ≤ 0 := q21
              refine Tx.iincW hC te_107_139 rfl rfl (fun z22 z22i z22e => ?_)
              unfold InI at z22i z22e
              first | replace z22e := z22e (by omega) | clear z22e
              refine Tx.goto hC (t := 47) te_107_142 (by decide) ?_
              exact Tx.weak (by repeat' (first | exact trivial | exact rfl | constructor)) (ih_47 x2 z22 m_47 (by omega) (DT.le i47_1 (by omega) (by omega)) (by omega) (by
                first
                | exact TmI.ini i32_2.1
                | exact TmI.ok hP pE i47_3 (by omega) (by omega) ha hb (by omega)
                | exact TmI.add hP pE i47_3 (by omega) (by omega) ha hb hy (by omega) r26g.1 r26g.2.1 eT) (by omega) hF_47)
            · replace q21 : ¬ ((z20 : Int) ≤ 0) := q21
              refine Tx.aload_n hC te_107_113 rfl ?_
              refine Tx.getR hC te_107_114 hQ.s0 rfl rfl ?_
              refine Tx.iload hC te_107_117 rfl ?_
              refine Tx.dup2 hC te_107_119 ?_
              refine Tx.iald hC te_107_120 hQ.s2 (by omega) (fun v23 v23e v23i => ?_)
              unfold InI at v23i
              have f24 := i47_1 (Int.toNat v4) (by omega)
              refine Tx.iload hC te_107_121 rfl ?_
              refine Tx.aload_n hC te_107_123 rfl ?_
              refine Tx.getI hC te_107_124 hQ.s0 rfl rfl (fun v25 v25e v25i => ?_)
              unfold InI at v25i
              rw [hF_47 Q _ (by unfold pTm; omega)] at v25e
              refine Tx.statI hC te_107_127 (by decide) mt_33 (args := [.inl z20, .inl v25]) (rest := [.inl v23, .inl v4, .inr (Q + 2)]) (c' := 0) (s' := 0) rfl rfl rfl rfl rfl rfl rfl ?_
              refine f_33 (fun r26 r26f r26i => ?_)
              rw [v25e] at r26f
              unfold InI at r26i
              refine Tx.aload_n hC te_107_130 rfl ?_
              refine Tx.getI hC te_107_131 hQ.s0 rfl rfl (fun v29 v29e v29i => ?_)
              unfold InI at v29i
              rw [hF_47 Q _ (by unfold pTm; omega)] at v29e
              have cm : r26 * v29 = mem Q 3 * r26 := by rw [v29e, Int.mul_comm]
              have ms : mem Q 3 * (r26 - 1) = mem Q 3 * r26 - mem Q 3 := by rw [Int.mul_sub, Int.mul_one]
              have r26g := r26f (by omega) (by omega)
              refine Tx.imulW hC te_107_134 (fun z30 z30i z30e => ?_)
              unfold InI at z30i z30e
              first | replace z30e := z30e (by omega) | clear z30e
              refine Tx.iaddW hC te_107_135 (fun z31 z31i z31e => ?_)
              unfold InI at z31i z31e
              first | replace z31e := z31e (by omega) | clear z31e
              refine Tx.iast hC te_107_136 hQ.s2 (by omega) ?_
              have hF33 : Frm (pTm Q) mem (upm m_47 (Q + 2) (Int.toNat v4) z31) := Frm.up hF_47 (by unfold pTm; omega)
              have hT34 : DT (upm m_47 (Q + 2) (Int.toNat v4) z31) Q (mem 1 0) (11 + 1152 * x3 + 18 * x4 + 18) := DT.up i47_1 (by omega) (by omega) (by omega)
              have m32e : (upm m_47 (Q + 2) (Int.toNat v4) z31) (Q + 2) (Int.toNat v4) = z31 := upm_eq
              have m32n : ∀ B j, ¬ (B = (Q + 2) ∧ j = (Int.toNat v4)) → (upm m_47 (Q + 2) (Int.toNat v4) z31) B j = m_47 B j := fun B j q => upm_ne q
              generalize upm m_47 (Q + 2) (Int.toNat v4) z31 = m32 at hF33 hT34 m32e m32n ⊢
              have eT : ∀ o, o < (CPb mem (mem Q 3)).n → m32 (Q + 2) o = if o = v4.toNat then m_47 (Q + 2) v4.toNat + mem Q 3 * r26 else m_47 (Q + 2) o := fun o _ => by
                by_cases q : o = v4.toNat
                · rw [if_pos q, q, m32e]; omega
                · rw [if_neg q, m32n _ _ (by omega)]
              refine Tx.iconst hC te_107_137 rfl ?_
              refine Tx.istore_n hC te_107_138 rfl ?_
              refine Tx.iincW hC te_107_139 rfl rfl (fun z35 z35i z35e => ?_)
              unfold InI at z35i z35e
              first | replace z35e := z35e (by omega) | clear z35e
              refine Tx.goto hC (t := 47) te_107_142 (by decide) ?_
              exact Tx.weak (by repeat' (first | exact trivial | exact rfl | constructor)) (ih_47 1 z35 m32 (by omega) (DT.le hT34 (by omega) (by omega)) (by omega) (by
                first
                | exact TmI.ini i32_2.1
                | exact TmI.ok hP pE i47_3 (by omega) (by omega) ha hb (by omega)
                | exact TmI.add hP pE i47_3 (by omega) (by omega) ha hb hy (by omega) r26g.1 r26g.2.1 eT) (by omega) hF33)
      refine Tx.iload_n hC te_107_32 rfl ?_
      refine Tx.bipush hC te_107_33 rfl rfl ?_
      refine Tx.icmp hC (t := 151) te_107_35 (by decide) (fun q36 => ?_) (fun q36 => ?_)
      · replace q36 : 8 < (x3 : Int) := q36
        exact Tx.vret hC te_107_151 rfl (show K m_32 from H _ hF_32 (fun o ho => ⟨(i32_1 o ho).1, fun z => by omega⟩) (TmA.least hP i32_2.1 (by
          by_cases q : x2 = 0
          · exact i32_2.2.2 q
          · obtain ⟨t, ht⟩ := ht
            exact TmA.full hP ht i32_2.1 i32_2.2.1 (by rw [pn]; omega)) i32_3))
      · replace q36 : ¬ (8 < (x3 : Int)) := q36
        refine Tx.iload_n hC te_107_38 rfl ?_
        refine Tx.ifc hC (t := 151) te_107_39 (by decide) (fun q37 => ?_) (fun q37 => ?_)
        · replace q37 : (x2 : Int) = 0 := q37
          exact Tx.vret hC te_107_151 rfl (show K m_32 from H _ hF_32 (fun o ho => ⟨(i32_1 o ho).1, fun z => by omega⟩) (TmA.least hP i32_2.1 (by
            by_cases q : x2 = 0
            · exact i32_2.2.2 q
            · obtain ⟨t, ht⟩ := ht
              exact TmA.full hP ht i32_2.1 i32_2.2.1 (by rw [pn]; omega)) i32_3))
        · replace q37 : ¬ ((x2 : Int) = 0) := q37
          refine Tx.iconst hC te_107_42 rfl ?_
          refine Tx.istore_n hC te_107_43 rfl ?_
          refine Tx.iconst hC te_107_44 rfl ?_
          refine Tx.istore hC te_107_45 rfl ?_
          exact l_47 _ 0 0 m_32 (by omega) (DT.le i32_1 (by omega) (by omega)) (by omega) (by
            first
            | exact TmI.ini i32_2.1
            | exact TmI.ok hP pE i47_3 (by omega) (by omega) ha hb (by omega)
            | exact TmI.add hP pE i47_3 (by omega) (by omega) ha hb hy (by omega) r26g.1 r26g.2.1 eT) (Nat.lt_succ_self _) hF_32
  have l_2 : ∀ (N : Nat) (x2 : Int) (m_2 : MM), (0 ≤ x2) → (DT m_2 Q x2 11) → (∀ o : Nat, (o : Int) < x2 → m_2 (Q + 2) o = mem (Q + 1) o) → ((8 - x2).toNat) < N → Frm (pTm Q) mem m_2 → Tx (Ex S (n + 2)) S M_107 (kV K E) 0 0 2 [some (.inr Q), some (.inr 9), some (.inl x2), none, none, none, none] [] m_2 := by
    intro N
    induction N with
    | zero => intros; omega
    | succ N ih_2 =>
      intro x2 m_2 i2_0 i2_1 i2_2 hN_2 hF_2
      refine Tx.iload_n hC te_107_2 rfl ?_
      refine Tx.aload_n hC te_107_3 rfl ?_
      refine Tx.getI hC te_107_4 hQ.s0 rfl rfl (fun v38 v38e v38i => ?_)
      unfold InI at v38i
      rw [hF_2 Q _ (by unfold pTm; omega)] at v38e
      refine Tx.icmp hC (t := 28) te_107_7 (by decide) (fun q39 => ?_) (fun q39 => ?_)
      · replace q39 : v38 ≤ (x2 : Int) := q39
        refine Tx.iconst hC te_107_28 rfl ?_
        refine Tx.istore_n hC te_107_29 rfl ?_
        refine Tx.iconst hC te_107_30 rfl ?_
        refine Tx.istore_n hC te_107_31 rfl ?_
        exact l_32 _ 1 0 m_2 (by omega) (DT.le i2_1 (by omega) (by omega)) (by
          first
          | (have w := TmI.out hP pE i32_2.2.1 i47_3 (by omega)
             rw [show (0 : Int).toNat = x3.toNat + 1 by omega]
             exact w)
          | (refine ⟨TmA.ini (fun o ho => i2_2 o (by omega)), TmN.ini (fun o ho => i2_2 o (by omega)), fun z => by omega⟩)) (by
          intro o ho
          first
          | exact Int.le_trans (i32_3 o ho) (i47_3.2.1 o ho)
          | (rw [i2_2 o (by omega)]; exact Int.le_refl _)) (Nat.lt_succ_self _) hF_2
      · replace q39 : ¬ (v38 ≤ (x2 : Int)) := q39
        refine Tx.aload_n hC te_107_10 rfl ?_
        refine Tx.getR hC te_107_11 hQ.s0 rfl rfl ?_
        refine Tx.iload_n hC te_107_14 rfl ?_
        refine Tx.aload_n hC te_107_15 rfl ?_
        refine Tx.getR hC te_107_16 hQ.s0 rfl rfl ?_
        refine Tx.iload_n hC te_107_19 rfl ?_
        refine Tx.iald hC te_107_20 hQ.s1 (by omega) (fun v40 v40e v40i => ?_)
        unfold InI at v40i
        rw [hF_2 (Q + 1) _ (by unfold pTm; omega)] at v40e
        have f41 := hsl (Int.toNat x2) (by omega)
        refine Tx.iast hC te_107_21 hQ.s2 (by omega) ?_
        have hF43 : Frm (pTm Q) mem (upm m_2 (Q + 2) (Int.toNat x2) v40) := Frm.up hF_2 (by unfold pTm; omega)
        have hT44 : DT (upm m_2 (Q + 2) (Int.toNat x2) v40) Q (x2 + 1) 11 := DT.up1 i2_1 (by omega) (by omega)
        have m42e : (upm m_2 (Q + 2) (Int.toNat x2) v40) (Q + 2) (Int.toNat x2) = v40 := upm_eq
        have m42n : ∀ B j, ¬ (B = (Q + 2) ∧ j = (Int.toNat x2)) → (upm m_2 (Q + 2) (Int.toNat x2) v40) B j = m_2 B j := fun B j q => upm_ne q
        generalize upm m_2 (Q + 2) (Int.toNat x2) v40 = m42 at hF43 hT44 m42e m42n ⊢
        refine Tx.iincW hC te_107_22 rfl rfl (fun z45 z45i z45e => ?_)
        unfold InI at z45i z45e
        first | replace z45e := z45e (by omega) | clear z45e
        refine Tx.goto hC (t := 2) te_107_25 (by decide) ?_
        exact ih_2 z45 m42 (by omega) (DT.le hT44 (by omega) (by omega)) (by
          intro o ho
          first
          | (exfalso; omega)
          | (by_cases q : (o : Int) < x2
             · rw [m42n _ _ (by omega)]; exact i2_2 o q
             · rw [show o = x2.toNat by omega, m42e]; assumption)) (by omega) hF43
  refine Tx.iconst hC te_107_0 rfl ?_
  refine Tx.istore_n hC te_107_1 rfl ?_
  exact l_2 _ 0 mem (by omega) (hD.le (by omega) (by omega)) (by
    intro o ho
    first
    | (exfalso; omega)
    | (by_cases q : (o : Int) < x2
       · rw [memn _ _ (by omega)]; exact i2_2 o q
       · rw [show o = x2.toNat by omega, meme]; assumption)) (Nat.lt_succ_self _) Frm.rf
end
