section
/-! what the class keeps of each step's chart -/
def mxW (f : Nat → Int) : Nat → Int
  | 0 => 0
  | n + 1 => max (mxW f n) (f n)
theorem mxW_st {f : Nat → Int} {x : Int} (h : 0 ≤ x) : mxW f (x + 1).toNat = max (mxW f x.toNat) (f x.toNat) := by
  rw [show (x + 1).toNat = x.toNat + 1 by omega]
  rfl
theorem WyV.rg {E : Nat → Nat → Int → Prop} {k : Nat} {nn w : Int} {a b : Nat} (h : WyV E nn a b w) (hE : FwH E k) : w = nn ∨ (-801 ≤ w ∧ w ≤ 54) := by
  rcases h with ⟨e, -⟩ | ⟨-, ⟨p, g⟩, u⟩
  · exact Or.inl e
  · obtain ⟨p', v', g1, -, g3, g4⟩ := Wk.red hE.2.1 p a b w g
    have r := hE.rg g1 g3
    have := u _ _ g3
    have := hE.up g
    exact Or.inr (by omega)
theorem TiW.of {m m' : MM} {d : Int} {k : Nat} (hk : (CPb m d).n = k) (hE : FwH (CPb m d).E k) (hW : WyC (CPb m d) (WM m 20) (-100000)) (e : ∀ i, m' 20 i = m 20 i) : TiW (CPb m d) (WM m 20) m' := by
  have ne : ∀ a b, a < k → b < k → (¬ WM m 20 a b = -100000 ↔ Rch (CPb m d).E a b) := fun a b ha hb => by
    rcases hW a b (by omega) (by omega) with ⟨w1, w2⟩ | ⟨w1, ⟨l, w2⟩, w3⟩
    · exact ⟨fun z => absurd w1 z, fun ⟨l, v, g⟩ => absurd g (w2 l v)⟩
    · exact ⟨fun _ => ⟨l, _, w2⟩, fun _ => w1⟩
  refine ⟨fun a b ha hb hn => ?_, fun a b t => ?_, fun a t => ?_⟩
  · unfold TiB
    rw [e, e]
    have n1 := ne a b (by omega) (by omega)
    have n2 := ne b a (by omega) (by omega)
    exact ⟨fun z => ⟨hn, n1.mp z.1, n2.mp z.2⟩, fun z => ⟨n1.mpr z.2.1, n2.mpr z.2.2⟩⟩
  · obtain ⟨l, v, g⟩ := t.2.1
    have va := Wk.ends (fun a b x h => hE.v a b x h) g
    rw [e]
    refine ⟨rfl, ?_⟩
    have z := (ne a b va.1 va.2.1).mpr t.2.1
    have y := (hW a b (by omega) (by omega)).rg hE
    omega
  · obtain ⟨j, t⟩ := t
    have rr := t.2.1.tr t.2.2
    obtain ⟨l, v, g⟩ := rr
    have va := Wk.ends (fun a b x h => hE.v a b x h) g
    have z := (ne a a va.1 va.1).mpr ⟨l, v, g⟩
    rcases hW a a (by omega) (by omega) with ⟨w1, w2⟩ | ⟨w1, ⟨l2, w2⟩, w3⟩
    · exact absurd w1 z
    · have y := (hW a a (by omega) (by omega)).rg hE
      obtain ⟨l3, v3, g1, -, g3, g4⟩ := Wk.red hE.2.1 l2 a a _ w2
      have u := hE.2.1 a l3 v3 g1 g3
      rw [e]
      show -100000 ≤ WM m 20 a a ∧ WM m 20 a a ≤ 0
      omega
def ChX (m : MM) (d : Int) (Q : Nat) : Prop := (m Q 2 = m 1 0 ∧ m Q 3 = d) ∧ LstP (CPb m d) (m (Q + 1)) ∧ TmL (CPb m d) (m (Q + 1)) (m (Q + 2)) ∧ (∀ o : Nat, (o : Int) < m 1 0 → m (Q + 3) o = m (Q + 2) o + cLa m o) ∧ m Q 4 = mxW (fun o => m (Q + 2) o + cLa m o) (m 1 0).toNat ∧ m Q 5 = 1 + mxW (fun o => m (Q + 2) o / d) (m 1 0).toNat
def DrX (m : MM) (d : Int) (Q : Nat) : Prop := (m Q 1 = 0 ∧ (d < upV (m 9 5) (m 9 6) ∨ ∀ v, ¬ Fsb (CPb m d) v)) ∨ (m Q 1 = 1 ∧ upV (m 9 5) (m 9 6) ≤ d ∧ ChX m d Q)
def ChtX (m : MM) : Prop := ∀ k : Nat, 1 ≤ k → k ≤ 12 → ¬ m (38 + 7 * k) 0 = 0 → DrX m k (38 + 7 * k)
section DRX
variable {m m' : MM} {d : Int} {Q : Nat}
theorem CPb.cg (e : ∀ A i, (0 < A ∧ A < 9 ∧ ¬ A = 4) ∨ (A = 9 ∧ i = 0) ∨ (10 ≤ A ∧ A ≤ 13) → m' A i = m A i) : CPb m' d = CPb m d := by
  have e1 : cUn m' = cUn m := funext fun o => by
    unfold cUn
    rw [e 2 o (by omega), e 5 _ (by omega)]
  have e2 : cBu m' = cBu m := funext fun o => by
    unfold cBu
    rw [e 2 o (by omega), e 7 _ (by omega)]
  have e3 : (fun u => m' 8 u) = fun u => m 8 u := funext fun u => e 8 u (by omega)
  have e4 : cwq m' 9 = cwq m 9 := funext fun i => by
    unfold cwq
    rw [e (9 + 1) i (by omega), e (9 + 2) i (by omega), e (9 + 3) i (by omega), e (9 + 4) i (by omega)]
  unfold CPb
  rw [e1, e2, e3, e4, e 1 0 (by omega), e 9 0 (by omega)]
theorem cLa.cg (e : ∀ A i, (0 < A ∧ A < 9 ∧ ¬ A = 4) → m' A i = m A i) : cLa m' = cLa m := funext fun o => by
  unfold cLa
  rw [e 2 o (by omega), e 6 _ (by omega)]
theorem ChX.fr (h : ChX m d Q) (e : ∀ A i, (0 < A ∧ A < 9 ∧ ¬ A = 4) ∨ (A = 9 ∧ i = 0) ∨ (10 ≤ A ∧ A ≤ 13) ∨ (A = Q ∧ 2 ≤ i) ∨ (Q < A ∧ A ≤ Q + 6) → m' A i = m A i) : ChX m' d Q := by
  have r1 : m' (Q + 1) = m (Q + 1) := funext fun i => e _ i (by omega)
  have r2 : m' (Q + 2) = m (Q + 2) := funext fun i => e _ i (by omega)
  have r3 : m' (Q + 3) = m (Q + 3) := funext fun i => e _ i (by omega)
  unfold ChX
  rw [CPb.cg (fun A i q => e A i (by omega)), cLa.cg (fun A i q => e A i (by omega)), r1, r2, r3, e Q 2 (by omega), e Q 3 (by omega), e Q 4 (by omega), e Q 5 (by omega), e 1 0 (by omega)]
  exact h
theorem DrX.fr (h : DrX m d Q) (e : ∀ A i, (0 < A ∧ A < 9 ∧ ¬ A = 4) ∨ (A = 9 ∧ (i = 0 ∨ i = 5 ∨ i = 6)) ∨ (10 ≤ A ∧ A ≤ 13) ∨ (A = Q ∧ 1 ≤ i) ∨ (Q < A ∧ A ≤ Q + 6) → m' A i = m A i) : DrX m' d Q := by
  unfold DrX
  rw [CPb.cg (fun A i q => e A i (by omega)), e Q 1 (by omega), e 9 5 (by omega), e 9 6 (by omega)]
  exact h.imp id (fun w => ⟨w.1, w.2.1, w.2.2.fr (fun A i q => e A i (by omega))⟩)
theorem ChtX.fr (h : ChtX m) (e : ∀ A i, (0 < A ∧ A < 9 ∧ ¬ A = 4) ∨ (A = 9 ∧ (i = 0 ∨ i = 5 ∨ i = 6)) ∨ (10 ≤ A ∧ A ≤ 13) ∨ (38 ≤ A ∧ A ≤ 128) → m' A i = m A i) : ChtX m' := fun k k1 k2 z => by
  rw [e (38 + 7 * k) 0 (by omega)] at z
  exact (h k k1 k2 z).fr (fun A i q => e A i (by omega))
theorem ChtX.but {k : Nat} (h : ChtX m) (e : ∀ A i, (0 < A ∧ A < 9 ∧ ¬ A = 4) ∨ (A = 9 ∧ (i = 0 ∨ i = 5 ∨ i = 6)) ∨ (10 ≤ A ∧ A ≤ 13) ∨ (38 ≤ A ∧ A ≤ 128 ∧ ¬ (38 + 7 * k ≤ A ∧ A ≤ 38 + 7 * k + 6)) → m' A i = m A i) (g : DrX m' k (38 + 7 * k)) : ChtX m' := fun j k1 k2 z => by
  by_cases q : j = k
  · subst q; exact g
  · rw [e (38 + 7 * j) 0 (by omega)] at z
    exact (h j k1 k2 z).fr (fun A i w => e A i (by omega))
end DRX
def CcX (m : MM) : Prop := RchX m ∧ ChtX m
theorem CcX.fr {m m' : MM} (h : CcX m) (e : ∀ A i, (A = 19 ∧ i < 2) ∨ A = 20 ∨ (A = 9 ∧ (i = 0 ∨ i = 5 ∨ i = 6)) ∨ (10 ≤ A ∧ A ≤ 13) ∨ (0 < A ∧ A < 9 ∧ ¬ A = 4) ∨ (38 ≤ A ∧ A ≤ 128) → m' A i = m A i) : CcX m' := ⟨h.1.fr (fun A i q => e A i (by omega)), h.2.fr (fun A i q => e A i (by omega))⟩
end
section
/-! laid by wip/hand/tg.py: a chart is drawn, exactly -/
def DwI (mem m : MM) (d : Int) (Q : Nat) (x : Int) : Prop := (m Q 2 = mem 1 0 ∧ m Q 3 = d) ∧ LstP (CPb mem d) (m (Q + 1)) ∧ TmL (CPb mem d) (m (Q + 1)) (m (Q + 2)) ∧ (∀ o : Nat, (o : Int) < x → m (Q + 3) o = m (Q + 2) o + cLa mem o) ∧ m Q 4 = mxW (fun o => m (Q + 2) o + cLa mem o) x.toNat ∧ m Q 5 = 1 + mxW (fun o => m (Q + 2) o / d) x.toNat
theorem Fsb.cgv {p : Prb} {s s' : Nat → Int} (hP : PrW p) (h : Fsb p s) (e : ∀ o, o < p.n → s o = s' o) : Fsb p s' := by
  obtain ⟨h1, h2, t, ht⟩ := h
  refine ⟨fun o ho => by rw [← e o ho]; exact h1 o ho, fun u k a b c d => ?_, t, fun a b x hx => ?_⟩
  · have w := h2 u k a b c d
    unfold Prb.us at w ⊢
    rw [← usM_cg p.n (fun o ho _ => ⟨Iff.rfl, fun _ => e o ho⟩)]
    exact w
  · have v := (hP.2.1 a b x hx).1
    rw [← e a v.1, ← e b v.2]
    exact ht a b x hx
theorem LstP.cgv {p : Prb} {s s' : Nat → Int} (hP : PrW p) (h : LstP p s) (e : ∀ o, o < p.n → s o = s' o) : LstP p s' := ⟨h.1.cgv hP e, fun v hv j hj k => by
  rw [← e j hj]
  exact h.2 v hv j hj (fun i hi => (k i hi).trans (e i (by omega)).symm)⟩
section DRW
variable {mem m m' : MM} {d x y : Int} {Q : Nat}
theorem DwI.ini (h1 : m Q 2 = mem 1 0 ∧ m Q 3 = d) (h2 : LstP (CPb mem d) (m (Q + 1))) (h3 : TmL (CPb mem d) (m (Q + 1)) (m (Q + 2))) (h4 : m Q 4 = 0) (h5 : m Q 5 = 1) : DwI mem m d Q 0 := ⟨h1, h2, h3, fun o ho => absurd ho (by omega), h4, h5⟩
theorem DwI.nxt (h : DwI mem m d Q x) (e : y = x + 1) (h0 : 0 ≤ x) (en : ∀ B j, ¬ (B = Q + 3 ∧ j = x.toNat) → ¬ (B = Q ∧ j = 4) → ¬ (B = Q ∧ j = 5) → m' B j = m B j) (e3 : m' (Q + 3) x.toNat = m (Q + 2) x.toNat + cLa mem x.toNat) (e4 : m' Q 4 = max (m Q 4) (m (Q + 2) x.toNat + cLa mem x.toNat)) (e5 : m' Q 5 = max (m Q 5) (m (Q + 2) x.toNat / d + 1)) : DwI mem m' d Q y := by
  obtain ⟨h1, h2, h3, h4, h5, h6⟩ := h
  have r1 : m' (Q + 1) = m (Q + 1) := funext fun i => en _ i (by omega) (by omega) (by omega)
  have r2 : m' (Q + 2) = m (Q + 2) := funext fun i => en _ i (by omega) (by omega) (by omega)
  unfold DwI
  rw [r1, r2, en Q 2 (by omega) (by omega) (by omega), en Q 3 (by omega) (by omega) (by omega)]
  refine ⟨h1, h2, h3, fun o ho => ?_, ?_, ?_⟩
  · by_cases q : o = x.toNat
    · subst q; exact e3
    · rw [en _ o (by omega) (by omega) (by omega)]; exact h4 o (by omega)
  · rw [e, mxW_st h0, e4, h5]
  · rw [e, mxW_st h0, e5, h6]
    omega
theorem DwI.chx (h : DwI mem m d Q (mem 1 0)) (e : ∀ A i, (0 < A ∧ A < 9 ∧ ¬ A = 4) ∨ (A = 9 ∧ i = 0) ∨ (10 ≤ A ∧ A ≤ 13) → m A i = mem A i) : ChX m d Q := by
  unfold ChX
  rw [CPb.cg e, cLa.cg (fun A i q => e A i (by omega)), e 1 0 (by omega)]
  exact h
theorem DwI.fin (h : DwI mem m d Q x) (q : x = mem 1 0) (e : ∀ A i, ¬ (A = Q ∧ (i = 6 ∨ i = 7)) → ¬ A = Q + 4 → ¬ A = Q + 5 → ¬ A = Q + 6 → m' A i = m A i) : DwI mem m' d Q (mem 1 0) := by
  rw [q] at h
  have r1 : m' (Q + 1) = m (Q + 1) := funext fun i => e _ i (by omega) (by omega) (by omega) (by omega)
  have r2 : m' (Q + 2) = m (Q + 2) := funext fun i => e _ i (by omega) (by omega) (by omega) (by omega)
  have r3 : m' (Q + 3) = m (Q + 3) := funext fun i => e _ i (by omega) (by omega) (by omega) (by omega)
  unfold DwI
  rw [r1, r2, r3, e Q 2 (by omega) (by omega) (by omega) (by omega), e Q 3 (by omega) (by omega) (by omega) (by omega), e Q 4 (by omega) (by omega) (by omega) (by omega), e Q 5 (by omega) (by omega) (by omega) (by omega)]
  exact h
end DRW
theorem f_108e {S : Nat × (Nat → Int32)} {n : Nat} {mem : MM} {K : Int → MM → Prop} {E : Nat → MM → Prop} {Q : Nat} (hQ : ChSh Q) (hO : ChtOK mem Q) {o : Int} (ho : 0 ≤ o ∧ o < 8) (h3 : 1 ≤ mem Q 3) (H : ∀ r, r = mem (Q + 2) o.toNat / mem Q 3 → 0 ≤ r → r ≤ 11000 → K r mem) : CQI (Ex S (n + 1)) 108 [.inr Q, .inl o] mem K E := by
  refine CY.of (k := 0) mt_108 rfl rfl (fun hv => ?_)
  have hC := Ex.mono S n
  have ii_o : InI o := hv (.inl o) (by simp)
  unfold InI at ii_o
  clear hv
  have hq8 := hQ.rg
  have hO1 := hO.1
  show Tx (Ex S n) S M_108 (kI K E) 0 0 0 [some (.inr Q), some (.inl o)] [] mem
  refine Tx.aload_n hC te_108_0 rfl ?_
  refine Tx.getI hC te_108_1 hQ.s0 rfl rfl (fun v1 v1e v1i => ?_)
  unfold InI at v1i
  refine Tx.ifc hC (t := 11) te_108_4 (by decide) (fun q2 => ?_) (fun q2 => ?_)
  · replace q2 : 0 < (v1 : Int) := q2
    refine Tx.aload_n hC te_108_11 rfl ?_
    refine Tx.getR hC te_108_12 hQ.s0 rfl rfl ?_
    refine Tx.iload_n hC te_108_15 rfl ?_
    refine Tx.iald hC te_108_16 hQ.s2 (by omega) (fun v3 v3e v3i => ?_)
    unfold InI at v3i
    have f4 := hO.2 (Int.toNat o) (by omega)
    refine Tx.aload_n hC te_108_17 rfl ?_
    refine Tx.getI hC te_108_18 hQ.s0 rfl rfl (fun v5 v5e v5i => ?_)
    unfold InI at v5i
    refine Tx.idivW hC te_108_21 (by omega) (fun z6 z6i z6e z6f => ?_)
    unfold InI at z6i
    exact Tx.ireturn hC te_108_22 rfl (fun hr => show K z6 mem from (by first | (exfalso; omega) | (refine H _ ?_ (by omega) (by omega); simp_all [Int.tdiv_eq_ediv_of_nonneg])))
  · replace q2 : ¬ (0 < (v1 : Int)) := q2
    refine Tx.iconst hC te_108_7 rfl ?_
    refine Tx.goto hC (t := 22) te_108_8 (by decide) ?_
    exact Tx.ireturn hC te_108_22 rfl (fun hr => show K 0 mem from (by first | (exfalso; omega) | (refine H _ ?_ (by omega) (by omega); simp_all [Int.tdiv_eq_ediv_of_nonneg])))
set_option maxHeartbeats 1000000 in
theorem f_106e {S : Nat × (Nat → Int32)} {n : Nat} {mem : MM} {K : MM → Prop} {E : Nat → MM → Prop} {Q : Nat} (hQ : ChSh Q) (hO : ChtOK mem Q) (hB : BodyOK mem) (hW9 : WbOK mem 9) (hWS : WbS mem) (hSl : ∀ o, o < 8 → 0 ≤ mem 22 o ∧ mem 22 o ≤ 11) {d : Int} (hd : 1 ≤ d ∧ d ≤ 12) (hP : PrW (CPb mem d)) (hL : LstP (CPb mem d) (mem 22)) (H : ∀ m', Frm (pCh Q) mem m' → ChtOK m' Q → DwI mem m' d Q (mem 1 0) → m' Q 1 = mem Q 1 → K m') : CQV (Ex S (n + 4)) 106 [.inr Q, .inr 1, .inr 9, .inr 22, .inl d] mem K E := by
  refine CY.of (k := 1) mt_106 rfl rfl (fun hv => ?_)
  have hC := Ex.mono S (n + 3)
  have ii_d : InI d := hv (.inl d) (by simp)
  unfold InI at ii_d
  clear hv
  have hq8 := hQ.rg
  show Tx (Ex S (n + 3)) S M_106 (kV K E) 0 0 0 [some (.inr Q), some (.inr 1), some (.inr 9), some (.inr 22), some (.inl d), none] [] mem
  have l_44 : ∀ (N : Nat) (x5 : Int) (m_44 : MM), (0 ≤ x5 ∧ x5 ≤ mem 1 0) → (ChtOK m_44 Q) → (DwI mem m_44 d Q x5) → (m_44 Q 1 = mem Q 1) → ((8 - x5).toNat) < N → Frm (pCh Q) mem m_44 → Tx (Ex S (n + 3)) S M_106 (kV K E) 0 0 44 [some (.inr Q), some (.inr 1), some (.inr 9), some (.inr 22), some (.inl d), some (.inl x5)] [] m_44 := by
    intro N
    induction N with
    | zero => intros; omega
    | succ N ih_44 =>
      intro x5 m_44 i44_0 i44_1 i44_2 i44_3 hN_44 hF_44
      have dw := i44_2.1
      have h8 := hB.1
      refine Tx.iload hC te_106_44 rfl ?_
      refine Tx.aload_n hC te_106_46 rfl ?_
      refine Tx.getI hC te_106_47 hQ.s0 rfl rfl (fun v1 v1e v1i => ?_)
      unfold InI at v1i
      have f2 := i44_1.1
      refine Tx.icmp hC (t := 117) te_106_50 (by decide) (fun q3 => ?_) (fun q3 => ?_)
      · replace q3 : v1 ≤ (x5 : Int) := q3
        refine Tx.aload_n hC te_106_117 rfl ?_
        refine Tx.aload_n hC te_106_118 rfl ?_
        refine Tx.virtV hC te_106_119 mt_109 (args := [.inr Q, .inr 1]) (rest := []) (c' := 0) (s' := 0) rfl rfl rfl rfl rfl rfl rfl rfl hQ.s0 rfl ?_
        refine f_109 hQ i44_1 (hB.fr (fun A i a b => hF_44 A i (by unfold pCh; omega))) (fun m5 hF6 => ?_)
        have r4I := ChtOK.fr2 i44_1 (fun A i q => hF6 A i (by unfold pLi; omega))
        have hF6n : Frm (pCh Q) mem m5 := hF_44.tr (hF6.mono (fun A i q => by unfold pLi at q; unfold pCh; omega))
        refine Tx.aload_n hC te_106_122 rfl ?_
        refine Tx.aload_n hC te_106_123 rfl ?_
        refine Tx.virtV hC te_106_124 mt_110 (args := [.inr Q, .inr 1]) (rest := []) (c' := 0) (s' := 0) rfl rfl rfl rfl rfl rfl rfl rfl hQ.s0 rfl ?_
        refine f_110 hQ r4I (hB.fr (fun A i a b => hF6n A i (by unfold pCh; omega))) (fun m8 hF9 => ?_)
        have r7I := ChtOK.fr2 r4I (fun A i q => hF9 A i (by unfold pNm; omega))
        have hF9n : Frm (pCh Q) mem m8 := hF6n.tr (hF9.mono (fun A i q => by unfold pNm at q; unfold pCh; omega))
        exact Tx.vret hC te_106_127 rfl (show K m8 from H _ hF9n r7I (i44_2.fin (by omega) (fun A i a b c e => (hF9 A i (by unfold pNm; omega)).trans (hF6 A i (by unfold pLi; omega)))) ((hF9 Q 1 (by unfold pNm; omega)).trans ((hF6 Q 1 (by unfold pLi; omega)).trans i44_3)))
      · replace q3 : ¬ (v1 ≤ (x5 : Int)) := q3
        refine Tx.aload_n hC te_106_53 rfl ?_
        refine Tx.getR hC te_106_54 hQ.s0 rfl rfl ?_
        refine Tx.iload hC te_106_57 rfl ?_
        refine Tx.aload_n hC te_106_59 rfl ?_
        refine Tx.getR hC te_106_60 hQ.s0 rfl rfl ?_
        refine Tx.iload hC te_106_63 rfl ?_
        refine Tx.iald hC te_106_65 hQ.s2 (by omega) (fun v10 v10e v10i => ?_)
        unfold InI at v10i
        have f11 := i44_1.2 (Int.toNat x5) (by omega)
        refine Tx.aload_n hC te_106_66 rfl ?_
        refine Tx.iload hC te_106_67 rfl ?_
        refine Tx.virtI hC te_106_69 mt_19 (args := [.inr 1, .inl x5]) (rest := [.inl v10, .inl x5, .inr (Q + 3)]) (c' := 0) (s' := 0) rfl rfl rfl rfl rfl rfl rfl rfl rfl rfl ?_
        refine CWI.q hC (f_19e (hB.fr (fun A i a b => hF_44 A i (by unfold pCh; omega))) (by omega) (fun r12a r12b r12i => ?_))
        have la : cLa2 m_44 (Int.toNat x5) = cLa mem x5.toNat := by
          unfold cLa2 cLa
          rw [hF_44 2 _ (by unfold pCh; omega), hF_44 6 _ (by unfold pCh; omega)]
        refine Tx.iaddW hC te_106_72 (fun z15 z15i z15e => ?_)
        unfold InI at z15i z15e
        first | replace z15e := z15e (by omega) | clear z15e
        refine Tx.iast hC te_106_73 hQ.s3 (by omega) ?_
        have hF17 : Frm (pCh Q) mem (upm m_44 (Q + 3) (Int.toNat x5) z15) := Frm.up hF_44 (by unfold pCh; omega)
        have hI18 : ChtOK (upm m_44 (Q + 3) (Int.toNat x5) z15) Q := ChtOK.up3 i44_1 (by omega)
        have m16e : (upm m_44 (Q + 3) (Int.toNat x5) z15) (Q + 3) (Int.toNat x5) = z15 := upm_eq
        have m16n : ∀ B j, ¬ (B = (Q + 3) ∧ j = (Int.toNat x5)) → (upm m_44 (Q + 3) (Int.toNat x5) z15) B j = m_44 B j := fun B j q => upm_ne q
        generalize upm m_44 (Q + 3) (Int.toNat x5) z15 = m16 at hF17 hI18 m16e m16n ⊢
        refine Tx.aload_n hC te_106_74 rfl ?_
        refine Tx.aload_n hC te_106_75 rfl ?_
        refine Tx.getI hC te_106_76 hQ.s0 rfl rfl (fun v19 v19e v19i => ?_)
        unfold InI at v19i
        refine Tx.aload_n hC te_106_79 rfl ?_
        refine Tx.getR hC te_106_80 hQ.s0 rfl rfl ?_
        refine Tx.iload hC te_106_83 rfl ?_
        refine Tx.iald hC te_106_85 hQ.s3 (by omega) (fun v20 v20e v20i => ?_)
        unfold InI at v20i
        refine Tx.statI hC te_106_86 (by decide) mt_40 (args := [.inl v19, .inl v20]) (rest := [.inr Q]) (c' := 0) (s' := 0) rfl rfl rfl rfl rfl rfl rfl ?_
        refine f_40q (fun r21 r21a r21b r21c r21i => ?_)
        unfold InI at r21i
        refine Tx.putI hC te_106_89 hQ.s0 rfl rfl rfl ?_
        have hF25 : Frm (pCh Q) mem (upm m16 Q 4 r21) := Frm.up hF17 (by unfold pCh; omega)
        have hI26 : ChtOK (upm m16 Q 4 r21) Q := ChtOK.fr2 hI18 (fun A i q => upm_ne (by omega))
        have m24e : (upm m16 Q 4 r21) Q 4 = r21 := upm_eq
        have m24n : ∀ B j, ¬ (B = Q ∧ j = 4) → (upm m16 Q 4 r21) B j = m16 B j := fun B j q => upm_ne q
        generalize upm m16 Q 4 r21 = m24 at hF25 hI26 m24e m24n ⊢
        refine Tx.aload_n hC te_106_92 rfl ?_
        refine Tx.aload_n hC te_106_93 rfl ?_
        refine Tx.getI hC te_106_94 hQ.s0 rfl rfl (fun v27 v27e v27i => ?_)
        unfold InI at v27i
        refine Tx.aload_n hC te_106_97 rfl ?_
        refine Tx.iload hC te_106_98 rfl ?_
        refine Tx.virtI hC te_106_100 mt_108 (args := [.inr Q, .inl x5]) (rest := [.inl v27, .inr Q]) (c' := 0) (s' := 0) rfl rfl rfl rfl rfl rfl rfl rfl hQ.s0 rfl ?_
        have q3 : m24 Q 3 = d := by rw [m24n Q 3 (by omega), m16n Q 3 (by omega)]; exact dw.2
        refine f_108e hQ hI26 (by omega) (by omega) (fun r28 r28e r28a r28b r28i => ?_)
        unfold InI at r28i
        refine Tx.iconst hC te_106_103 rfl ?_
        refine Tx.iaddW hC te_106_104 (fun z31 z31i z31e => ?_)
        unfold InI at z31i z31e
        first | replace z31e := z31e (by omega) | clear z31e
        refine Tx.statI hC te_106_105 (by decide) mt_40 (args := [.inl v27, .inl z31]) (rest := [.inr Q]) (c' := 0) (s' := 0) rfl rfl rfl rfl rfl rfl rfl ?_
        refine f_40q (fun r32 r32a r32b r32c r32i => ?_)
        unfold InI at r32i
        refine Tx.putI hC te_106_108 hQ.s0 rfl rfl rfl ?_
        have hF36 : Frm (pCh Q) mem (upm m24 Q 5 r32) := Frm.up hF25 (by unfold pCh; omega)
        have hI37 : ChtOK (upm m24 Q 5 r32) Q := ChtOK.fr2 hI26 (fun A i q => upm_ne (by omega))
        have m35e : (upm m24 Q 5 r32) Q 5 = r32 := upm_eq
        have m35n : ∀ B j, ¬ (B = Q ∧ j = 5) → (upm m24 Q 5 r32) B j = m24 B j := fun B j q => upm_ne q
        generalize upm m24 Q 5 r32 = m35 at hF36 hI37 m35e m35n ⊢
        have w3 : m35 (Q + 3) x5.toNat = m_44 (Q + 2) x5.toNat + cLa mem x5.toNat := by
          rw [m35n _ _ (by omega), m24n _ _ (by omega), m16e]
          omega
        have w4 : m35 Q 4 = max (m_44 Q 4) (m_44 (Q + 2) x5.toNat + cLa mem x5.toNat) := by
          rw [m35n Q 4 (by omega), m24e]
          have a : v19 = m_44 Q 4 := by rw [v19e, m16n Q 4 (by omega)]
          have b : v20 = z15 := by rw [v20e, m16e]
          omega
        have w5 : m35 Q 5 = max (m_44 Q 5) (m_44 (Q + 2) x5.toNat / d + 1) := by
          rw [m35e]
          have a : v27 = m_44 Q 5 := by rw [v27e, m24n Q 5 (by omega), m16n Q 5 (by omega)]
          have b : r28 = m_44 (Q + 2) x5.toNat / d := by rw [r28e, q3, m24n (Q + 2) _ (by omega), m16n (Q + 2) _ (by omega)]
          rw [← b]
          omega
        have en : ∀ B j, ¬ (B = Q + 3 ∧ j = x5.toNat) → ¬ (B = Q ∧ j = 4) → ¬ (B = Q ∧ j = 5) → m35 B j = m_44 B j := fun B j a b c => by rw [m35n B j (by omega), m24n B j (by omega), m16n B j (by omega)]
        refine Tx.iincW hC te_106_111 rfl rfl (fun z38 z38i z38e => ?_)
        unfold InI at z38i z38e
        first | replace z38e := z38e (by omega) | clear z38e
        refine Tx.goto hC (t := 44) te_106_114 (by decide) ?_
        exact ih_44 z38 m35 (by omega) (hI37) (by first | exact gw | exact i44_2.nxt (by omega) (by omega) en w3 w4 w5) (by first | exact g1q | exact (en Q 1 (by omega) (by omega) (by omega)).trans i44_3) (by omega) hF36
  refine Tx.aload_n hC te_106_0 rfl ?_
  refine Tx.aload_n hC te_106_1 rfl ?_
  refine Tx.getI hC te_106_2 rfl rfl rfl (fun v39 v39e v39i => ?_)
  unfold InI at v39i
  refine Tx.putI hC te_106_5 hQ.s0 rfl rfl rfl ?_
  have hF41 : Frm (pCh Q) mem (upm mem Q 2 v39) := Frm.up Frm.rf (by unfold pCh; omega)
  refine Tx.aload_n hC te_106_8 rfl ?_
  refine Tx.iload hC te_106_9 rfl ?_
  refine Tx.putI hC te_106_11 hQ.s0 rfl rfl rfl ?_
  have hF43 : Frm (pCh Q) mem (upm (upm mem Q 2 v39) Q 3 d) := Frm.up hF41 (by unfold pCh; omega)
  refine Tx.aload_n hC te_106_14 rfl ?_
  refine Tx.iconst hC te_106_15 rfl ?_
  refine Tx.aload_n hC te_106_16 rfl ?_
  refine Tx.getR hC te_106_17 hQ.s0 rfl rfl ?_
  refine Tx.iconst hC te_106_20 rfl ?_
  refine Tx.bipush hC te_106_21 rfl rfl ?_
  refine Tx.copy hC te_106_23 rfl hQ.s1 (by omega) rfl (fun m44 m44a m44b => ?_)
  have hD1 := dr_start hQ hO hB hSl (by assumption) hd m44a m44b
  refine Tx.aload_n hC te_106_26 rfl ?_
  refine Tx.aload_n hC te_106_27 rfl ?_
  refine Tx.virtV hC te_106_28 mt_107 (args := [.inr Q, .inr 9]) (rest := []) (c' := 0) (s' := 0) rfl rfl rfl rfl rfl rfl rfl rfl hQ.s0 rfl ?_
  have e1 : m44 (Q + 1) = fun i => if i < 8 then mem 22 i else m44 (Q + 1) i := funext fun i => by
    by_cases q : i < 8
    · rw [if_pos q, m44b i, if_pos (by omega), upm_ne (by omega), upm_ne (by omega)]
      congr 1
      omega
    · rw [if_neg q]
  have e3 : m44 Q 3 = d := by rw [m44a Q 3 (by omega), upm_eq]
  have ec : CPb m44 d = CPb mem d := CPb.cg (fun A i q => hD1.2.2 A i (by unfold pCh; omega))
  have n8 := hB.1
  have hL2 : LstP (CPb mem d) (m44 (Q + 1)) := hL.cgv hP (fun o ho => by
    have w : o < (mem 1 0).toNat := ho
    rw [e1]
    exact (if_pos (by omega)).symm)
  refine f_107e hQ (by rw [hD1.2.1, hD1.2.2 1 0 (by unfold pCh; omega)]) (by rw [hD1.2.2 1 0 (by unfold pCh; omega)]; exact hB.1) hD1.1.1.2.1 (fun o ho => (hD1.1.2 o ho).1) (fun o ho => ⟨(hD1.1.2 o ho).2.1, fun z => by omega⟩) (hW9.fr (fun A i a b => hD1.2.2 A i (by unfold pCh; omega))) (hWS.fr (fun A i a => hD1.2.2 A i (by unfold pCh; omega))) (by rw [e3, ec]; exact hP) (by rw [e3, ec]; exact hL2.1.2.2) (fun m47 hF48 r46D r46T => ?_)
  have r46I := dr_times hD1.1 hF48 r46D
  rw [e3, ec] at r46T
  have k1 : m47 (Q + 1) = m44 (Q + 1) := funext fun i => hF48 (Q + 1) i (by unfold pTm; omega)
  have k2 : m47 Q 2 = mem 1 0 := (hF48 Q 2 (by unfold pTm; omega)).trans hD1.2.1
  have k4 : m47 Q 1 = mem Q 1 := (hF48 Q 1 (by unfold pTm; omega)).trans (by rw [m44a Q 1 (by omega), upm_ne (by omega), upm_ne (by omega)])
  have k3 : m47 Q 3 = d := (hF48 Q 3 (by unfold pTm; omega)).trans e3
  rw [← k1] at hL2 r46T
  have tk := r46T
  have hF48n : Frm (pCh Q) mem m47 := hD1.2.2.tr (hF48.mono (fun A i q => by unfold pTm at q; unfold pCh; omega))
  refine Tx.aload_n hC te_106_31 rfl ?_
  refine Tx.iconst hC te_106_32 rfl ?_
  refine Tx.putI hC te_106_33 hQ.s0 rfl rfl rfl ?_
  have hF50 : Frm (pCh Q) mem (upm m47 Q 4 0) := Frm.up hF48n (by unfold pCh; omega)
  have hI51 : ChtOK (upm m47 Q 4 0) Q := ChtOK.fr2 r46I (fun A i q => upm_ne (by omega))
  have m49e : (upm m47 Q 4 0) Q 4 = 0 := upm_eq
  have m49n : ∀ B j, ¬ (B = Q ∧ j = 4) → (upm m47 Q 4 0) B j = m47 B j := fun B j q => upm_ne q
  generalize upm m47 Q 4 0 = m49 at hF50 hI51 m49e m49n ⊢
  refine Tx.aload_n hC te_106_36 rfl ?_
  refine Tx.iconst hC te_106_37 rfl ?_
  refine Tx.putI hC te_106_38 hQ.s0 rfl rfl rfl ?_
  have hF53 : Frm (pCh Q) mem (upm m49 Q 5 1) := Frm.up hF50 (by unfold pCh; omega)
  have hI54 : ChtOK (upm m49 Q 5 1) Q := ChtOK.fr2 hI51 (fun A i q => upm_ne (by omega))
  have m52e : (upm m49 Q 5 1) Q 5 = 1 := upm_eq
  have m52n : ∀ B j, ¬ (B = Q ∧ j = 5) → (upm m49 Q 5 1) B j = m49 B j := fun B j q => upm_ne q
  generalize upm m49 Q 5 1 = m52 at hF53 hI54 m52e m52n ⊢
  have g1 : m52 (Q + 1) = m47 (Q + 1) := funext fun i => by rw [m52n _ _ (by omega), m49n _ _ (by omega)]
  have g2 : m52 (Q + 2) = m47 (Q + 2) := funext fun i => by rw [m52n _ _ (by omega), m49n _ _ (by omega)]
  have g1q : m52 Q 1 = mem Q 1 := by rw [m52n Q 1 (by omega), m49n Q 1 (by omega)]; exact k4
  have gw : DwI mem m52 d Q 0 := DwI.ini ⟨by rw [m52n Q 2 (by omega), m49n Q 2 (by omega)]; exact k2, by rw [m52n Q 3 (by omega), m49n Q 3 (by omega)]; exact k3⟩ (by rw [g1]; exact hL2) (by rw [g1, g2]; exact tk) (by rw [m52n Q 4 (by omega), m49e]) m52e
  refine Tx.iconst hC te_106_41 rfl ?_
  refine Tx.istore hC te_106_42 rfl ?_
  exact l_44 _ 0 m52 (by omega) (hI54) (by first | exact gw | exact i44_2.nxt (by omega) (by omega) en w3 w4 w5) (by first | exact g1q | exact (en Q 1 (by omega) (by omega) (by omega)).trans i44_3) (Nat.lt_succ_self _) hF53
end
section
/-! the class between its calls: what holds, and what each part of it leaves -/
theorem ChtOK.fr3 {m m' : MM} {Q : Nat} (h : ChtOK m Q) (e : ∀ A i, (A = Q ∧ 0 < i ∧ i < 4) ∨ (Q < A ∧ A ≤ Q + 3) → m' A i = m A i) : ChtOK m' Q := by
  refine ⟨?_, fun o ho => ?_⟩
  · rw [e Q 1 (by omega), e Q 2 (by omega), e Q 3 (by omega)]; exact h.1
  · rw [e (Q + 1) o (by omega), e (Q + 2) o (by omega), e (Q + 3) o (by omega)]; exact h.2 o ho
theorem HsOK.fr {m m' : MM} (h : HsOK m) (e : ∀ A i, 129 ≤ A → A ≤ 133 → m' A i = m A i) : HsOK m' := by
  obtain ⟨h1, h2, h3, h4⟩ := h
  refine ⟨fun o ho => ?_, ?_, ?_, ?_⟩
  · rw [e 130 o (by omega) (by omega), e 131 o (by omega) (by omega)]; exact h1 o ho
  · rw [e 129 0 (by omega) (by omega)]; exact h2
  · rw [e 129 1 (by omega) (by omega)]; exact h3
  · rw [e 129 2 (by omega) (by omega)]; exact h4
theorem ChSh.ap {Q Q' : Nat} (h : ChSh Q) (h' : ChSh Q') : Q = Q' ∨ Q + 7 ≤ Q' ∨ Q' + 7 ≤ Q := by
  obtain ⟨⟨k, h1, h2⟩, -⟩ := h
  obtain ⟨⟨k', h1', h2'⟩, -⟩ := h'
  omega
def CJ (m : MM) : Prop := BodyOK m ∧ WbOK m 9 ∧ WbOK m 14 ∧ (0 ≤ m 19 0 ∧ m 19 0 ≤ 8) ∧ HsOK m ∧ (∀ o, o < 8 → (0 ≤ m 24 o ∧ m 24 o ≤ 2) ∧ 0 ≤ m 22 o ∧ m 22 o ≤ 11) ∧ (∀ Q, ChSh Q → ChtOK m Q) ∧ (0 ≤ m 0 10 ∧ m 0 10 ≤ 1) ∧ 0 ≤ m 0 11 ∧ m 0 11 ≤ 1
theorem CJ.b {m : MM} (h : CJ m) : BodyOK m := h.1
theorem CJ.w {m : MM} (h : CJ m) : WbOK m 9 := h.2.1
theorem CJ.w2 {m : MM} (h : CJ m) : WbOK m 14 := h.2.2.1
theorem CJ.r {m : MM} (h : CJ m) : 0 ≤ m 19 0 ∧ m 19 0 ≤ 8 := h.2.2.2.1
theorem CJ.hs {m : MM} (h : CJ m) : HsOK m := h.2.2.2.2.1
theorem CJ.us {m : MM} (h : CJ m) : ∀ o, o < 8 → (0 ≤ m 24 o ∧ m 24 o ≤ 2) ∧ 0 ≤ m 22 o ∧ m 22 o ≤ 11 := h.2.2.2.2.2.1
theorem CJ.ch {m : MM} (h : CJ m) : ∀ Q, ChSh Q → ChtOK m Q := h.2.2.2.2.2.2.1
theorem CJ.so {m : MM} (h : CJ m) : 0 ≤ m 0 10 ∧ m 0 10 ≤ 1 := h.2.2.2.2.2.2.2.1
theorem CJ.st {m : MM} (h : CJ m) : 0 ≤ m 0 11 ∧ m 0 11 ≤ 1 := h.2.2.2.2.2.2.2.2
def ClS (m : MM) : Prop := CJ m ∧ (m 0 11 = 0 → m 0 10 = 1 → WbX m ∧ CcX m) ∧ (m 0 11 = 0 → (m 0 10 = 1 ↔ SndX m))
def RfC (m : MM) : Prop := CJ m ∧ m 0 11 = 0 ∧ (m 0 10 = 1 → WbX m) ∧ (m 0 10 = 1 ↔ SndX m)
def RfD (m : MM) : Prop := RfC m ∧ (m 0 10 = 1 → CcX m)
def Rdy (m : MM) : Prop := CJ m ∧ (m 0 11 = 0 ∧ CcX m) ∧ m 0 10 = 1 ∧ WbX m ∧ SndX m
def RdC (m : MM) : Prop := CJ m ∧ (m 0 11 = 0 ∧ RchX m) ∧ m 0 10 = 1 ∧ WbX m ∧ SndX m
theorem Rdy.c {m : MM} (h : Rdy m) : RdC m := ⟨h.1, ⟨h.2.1.1, h.2.1.2.1⟩, h.2.2⟩
theorem RdC.y {m : MM} (h : RdC m) (g : ChtX m) : Rdy m := ⟨h.1, ⟨h.2.1.1, h.2.1.2, g⟩, h.2.2⟩
theorem RfD.cs {m : MM} (h : RfD m) : ClS m := ⟨h.1.1, fun _ q => ⟨h.1.2.2.1 q, h.2 q⟩, fun _ => h.1.2.2.2⟩
theorem RfD.rdy {m : MM} (h : RfD m) (q : m 0 10 = 1) : Rdy m := ⟨h.1.1, ⟨h.1.2.1, h.2 q⟩, q, h.1.2.2.1 q, h.1.2.2.2.mp q⟩
theorem Rdy.cs {m : MM} (h : Rdy m) : ClS m := ⟨h.1, fun _ _ => ⟨h.2.2.2.1, h.2.1.2⟩, fun _ => ⟨fun _ => h.2.2.2.2, fun _ => h.2.2.1⟩⟩
theorem NdC.up {m : MM} {q : Int} {x : Q4} (hB : BodyOK m) (hs : SndX m) (h : NdC m q x) : 0 ≤ x.2.2.1 ∧ (x.2.2.1 = 0 → x.1 < x.2.1) := by
  have h8 := hB.1
  rcases h with ⟨o, k, h1, h2, h3, h4⟩ | ⟨s, o, h1, h2, h3, h4, h5, h6⟩
  · subst h4
    have c := hs o k h1 h2
    have so := hB.src (o := o) (k := k) (by omega) h2
    unfold SrcC at c
    unfold srcOK at so
    show 0 ≤ m 3 (4 * o + 2 * k + 1) ∧ (m 3 (4 * o + 2 * k + 1) = 0 → m 3 (4 * o + 2 * k) < (o : Int))
    omega
  · rcases h6 with ⟨g1, g2, g3⟩ | ⟨g1, g2, g3⟩ | ⟨g1, g2, g3⟩
    · subst g3
      show 0 ≤ plcB m s - plcB m o ∧ (plcB m s - plcB m o = 0 → (s : Int) < (o : Int))
      omega
    · subst g3
      show 0 ≤ plcB m o - plcB m s ∧ (plcB m o - plcB m s = 0 → (o : Int) < (s : Int))
      omega
    · subst g3
      show 0 ≤ plcB m s - plcB m o ∧ (plcB m s - plcB m o = 0 → (s : Int) < (o : Int))
      omega
theorem Rdy.edv {m : MM} (h : Rdy m) : EdV (cwq m 9) (m 9 0).toNat (m 1 0).toNat := by
  intro j hj
  have w := h.2.2.2.1.1 j (by omega)
  have g : Rg (m 10 j) (m 11 j) (m 12 j) (m 13 j) := h.1.2.1.1 j (by have := h.1.2.1.2; omega)
  unfold Rg at g
  have u := NdC.up h.1.1 h.2.2.2.2 (h.2.2.2.1.2.1.2.1 j hj)
  refine ⟨⟨(m 10 j).toNat, (m 11 j).toNat, ?_, ?_, by omega, by omega⟩, u.1, u.2⟩
  · show m 10 j = _; omega
  · show m 11 j = _; omega
theorem Rdy.noup {m : MM} {d : Int} (h : Rdy m) (hd : 0 ≤ d) (q : upV (m 9 5) (m 9 6) ≤ d) : NoUp (EdQ (cwq m 9) (m 9 0).toNat d) := by
  have h8 := h.1.1.1
  obtain ⟨⟨t1, t2⟩, t3, t4⟩ := h.2.2.2.1.2.2.1
  exact (RtL.noup (by omega) h.edv h.2.2.2.1.2.2.2 hd).mpr ((upV_le t1 (by omega) hd).mp q)
theorem RdC.edv {m : MM} (h : RdC m) : EdV (cwq m 9) (m 9 0).toNat (m 1 0).toNat := by
  intro j hj
  have w := h.2.2.2.1.1 j (by omega)
  have g : Rg (m 10 j) (m 11 j) (m 12 j) (m 13 j) := h.1.2.1.1 j (by have := h.1.2.1.2; omega)
  unfold Rg at g
  have u := NdC.up h.1.1 h.2.2.2.2 (h.2.2.2.1.2.1.2.1 j hj)
  refine ⟨⟨(m 10 j).toNat, (m 11 j).toNat, ?_, ?_, by omega, by omega⟩, u.1, u.2⟩
  · show m 10 j = _; omega
  · show m 11 j = _; omega
theorem RdC.noup {m : MM} {d : Int} (h : RdC m) (hd : 0 ≤ d) (q : upV (m 9 5) (m 9 6) ≤ d) : NoUp (EdQ (cwq m 9) (m 9 0).toNat d) := by
  have h8 := h.1.1.1
  obtain ⟨⟨t1, t2⟩, t3, t4⟩ := h.2.2.2.1.2.2.1
  exact (RtL.noup (by omega) h.edv h.2.2.2.1.2.2.2 hd).mpr ((upV_le t1 (by omega) hd).mp q)
def pCl (A _i : Nat) : Prop := A < 143
def pNb (A _i : Nat) : Prop := A < 143 ∧ ¬ (0 < A ∧ A < 9)
def pHs (A _i : Nat) : Prop := 129 ≤ A ∧ A ≤ 133
def pW9c (A i : Nat) : Prop := A = 9 ∧ (i = 5 ∨ i = 6 ∨ i = 7)
def pW14c (A i : Nat) : Prop := A = 14 ∧ (i = 5 ∨ i = 6 ∨ i = 7)
def p11 (A i : Nat) : Prop := A = 0 ∧ i = 11
def p10 (A i : Nat) : Prop := A = 0 ∧ i = 10
def p191 (A i : Nat) : Prop := A = 19 ∧ i = 1
def p129 (A i : Nat) : Prop := A = 129 ∧ i = 0
def pQ0 (Q A i : Nat) : Prop := A = Q ∧ i = 0
def pQ1 (Q A i : Nat) : Prop := A = Q ∧ i = 1
def pBd (A i : Nat) : Prop := (0 < A ∧ A < 9) ∨ (A = 0 ∧ i = 11)
def p4f (A _i : Nat) : Prop := A = 4
theorem CJ.e_span {m m' : MM} (h : CJ m) (hF : Frm pRe m m') (hz : 0 ≤ m' 19 0 ∧ m' 19 0 ≤ 8) (hx : RchX m') : CJ m' := by
  exact ⟨h.b.fr (fun A i a b => hF A i (by unfold pRe; omega)), h.w.fr (fun A i a b => hF A i (by unfold pRe; omega)), h.w2.fr (fun A i a b => hF A i (by unfold pRe; omega)), hz, h.hs.fr (fun A i a b => hF A i (by unfold pRe; omega)), fun o ho => by rw [hF 24 o (by unfold pRe; omega), hF 22 o (by unfold pRe; omega)]; exact h.us o ho, fun Q' hQ' => (h.ch Q' hQ').fr3 (fun A i q => hF A i (by have := hQ'.rg; unfold pRe; omega)), by rw [hF 0 10 (by unfold pRe; omega)]; exact h.so, by rw [hF 0 11 (by unfold pRe; omega)]; exact h.st⟩
theorem RdC.e_span {m m' : MM} (h : RdC m) (hF : Frm pRe m m') (hz : 0 ≤ m' 19 0 ∧ m' 19 0 ≤ 8) (hx : RchX m') : RdC m' := by
  exact ⟨CJ.e_span h.1 hF hz hx, ⟨by rw [hF 0 11 (by unfold pRe; omega)]; exact h.2.1.1, hx⟩, by rw [hF 0 10 (by unfold pRe; omega)]; exact h.2.2.1, h.2.2.2.1.fr (fun A i q => hF A i (by unfold pRe; omega)), h.2.2.2.2.fr (fun A i a b => hF A i (by unfold pRe; omega))⟩
theorem Rdy.e_span {m m' : MM} (h : Rdy m) (hF : Frm pRe m m') (hz : 0 ≤ m' 19 0 ∧ m' 19 0 ≤ 8) (hx : RchX m') : Rdy m' := by
  exact ⟨CJ.e_span h.1 hF hz hx, ⟨by rw [hF 0 11 (by unfold pRe; omega)]; exact h.2.1.1, ⟨hx, h.2.1.2.2.fr (fun A i q => hF A i (by unfold pRe; omega))⟩⟩, by rw [hF 0 10 (by unfold pRe; omega)]; exact h.2.2.1, h.2.2.2.1.fr (fun A i q => hF A i (by unfold pRe; omega)), h.2.2.2.2.fr (fun A i a b => hF A i (by unfold pRe; omega))⟩
theorem RfC.e_span {m m' : MM} (h : RfC m) (hF : Frm pRe m m') (hz : 0 ≤ m' 19 0 ∧ m' 19 0 ≤ 8) (hx : RchX m') : RfC m' := by
  exact ⟨CJ.e_span h.1 hF hz hx, by rw [hF 0 11 (by unfold pRe; omega)]; exact h.2.1, fun z => by
    rw [hF 0 10 (by unfold pRe; omega)] at z
    exact (h.2.2.1 z).fr (fun A i q => hF A i (by unfold pRe; omega)), SX.fr h.2.2.2 (hF 0 10 (by unfold pRe; omega)) (fun A i a b => hF A i (by unfold pRe; omega))⟩
theorem CJ.e_seek {m m' : MM} (h : CJ m) (hF : Frm pHs m m') (hz : HsOK m') : CJ m' := by
  exact ⟨h.b.fr (fun A i a b => hF A i (by unfold pHs; omega)), h.w.fr (fun A i a b => hF A i (by unfold pHs; omega)), h.w2.fr (fun A i a b => hF A i (by unfold pHs; omega)), by rw [hF 19 0 (by unfold pHs; omega)]; exact h.r, hz, fun o ho => by rw [hF 24 o (by unfold pHs; omega), hF 22 o (by unfold pHs; omega)]; exact h.us o ho, fun Q' hQ' => (h.ch Q' hQ').fr3 (fun A i q => hF A i (by have := hQ'.rg; unfold pHs; omega)), by rw [hF 0 10 (by unfold pHs; omega)]; exact h.so, by rw [hF 0 11 (by unfold pHs; omega)]; exact h.st⟩
theorem Rdy.e_seek {m m' : MM} (h : Rdy m) (hF : Frm pHs m m') (hz : HsOK m') : Rdy m' := by
  exact ⟨CJ.e_seek h.1 hF hz, ⟨by rw [hF 0 11 (by unfold pHs; omega)]; exact h.2.1.1, h.2.1.2.fr (fun A i q => hF A i (by unfold pHs; omega))⟩, by rw [hF 0 10 (by unfold pHs; omega)]; exact h.2.2.1, h.2.2.2.1.fr (fun A i q => hF A i (by unfold pHs; omega)), h.2.2.2.2.fr (fun A i a b => hF A i (by unfold pHs; omega))⟩
theorem RfC.e_seek {m m' : MM} (h : RfC m) (hF : Frm pHs m m') (hz : HsOK m') : RfC m' := by
  exact ⟨CJ.e_seek h.1 hF hz, by rw [hF 0 11 (by unfold pHs; omega)]; exact h.2.1, fun z => by
    rw [hF 0 10 (by unfold pHs; omega)] at z
    exact (h.2.2.1 z).fr (fun A i q => hF A i (by unfold pHs; omega)), SX.fr h.2.2.2 (hF 0 10 (by unfold pHs; omega)) (fun A i a b => hF A i (by unfold pHs; omega))⟩
theorem CJ.e_hold {m m' : MM} (h : CJ m) (hF : Frm pT6 m m') (hu : ∀ o, o < 8 → 0 ≤ m' 24 o ∧ m' 24 o ≤ 2) (hz : ∀ o, m' 22 o = m 22 o ∨ (0 ≤ m' 22 o ∧ m' 22 o ≤ 11)) : CJ m' := by
  exact ⟨h.b.fr (fun A i a b => hF A i (by unfold pT6; omega)), h.w.fr (fun A i a b => hF A i (by unfold pT6; omega)), h.w2.fr (fun A i a b => hF A i (by unfold pT6; omega)), by rw [hF 19 0 (by unfold pT6; omega)]; exact h.r, h.hs.fr (fun A i a b => hF A i (by unfold pT6; omega)), fun o ho => ⟨hu o ho, by have := hz o; have := (h.us o ho).2; omega⟩, fun Q' hQ' => (h.ch Q' hQ').fr3 (fun A i q => hF A i (by have := hQ'.rg; unfold pT6; omega)), by rw [hF 0 10 (by unfold pT6; omega)]; exact h.so, by rw [hF 0 11 (by unfold pT6; omega)]; exact h.st⟩
theorem RdC.e_hold {m m' : MM} (h : RdC m) (hF : Frm pT6 m m') (hu : ∀ o, o < 8 → 0 ≤ m' 24 o ∧ m' 24 o ≤ 2) (hz : ∀ o, m' 22 o = m 22 o ∨ (0 ≤ m' 22 o ∧ m' 22 o ≤ 11)) : RdC m' := by
  exact ⟨CJ.e_hold h.1 hF hu hz, ⟨by rw [hF 0 11 (by unfold pT6; omega)]; exact h.2.1.1, h.2.1.2.fr (fun A i q => hF A i (by unfold pT6; omega))⟩, by rw [hF 0 10 (by unfold pT6; omega)]; exact h.2.2.1, h.2.2.2.1.fr (fun A i q => hF A i (by unfold pT6; omega)), h.2.2.2.2.fr (fun A i a b => hF A i (by unfold pT6; omega))⟩
theorem Rdy.e_hold {m m' : MM} (h : Rdy m) (hF : Frm pT6 m m') (hu : ∀ o, o < 8 → 0 ≤ m' 24 o ∧ m' 24 o ≤ 2) (hz : ∀ o, m' 22 o = m 22 o ∨ (0 ≤ m' 22 o ∧ m' 22 o ≤ 11)) : Rdy m' := by
  exact ⟨CJ.e_hold h.1 hF hu hz, ⟨by rw [hF 0 11 (by unfold pT6; omega)]; exact h.2.1.1, h.2.1.2.fr (fun A i q => hF A i (by unfold pT6; omega))⟩, by rw [hF 0 10 (by unfold pT6; omega)]; exact h.2.2.1, h.2.2.2.1.fr (fun A i q => hF A i (by unfold pT6; omega)), h.2.2.2.2.fr (fun A i a b => hF A i (by unfold pT6; omega))⟩
theorem RfC.e_hold {m m' : MM} (h : RfC m) (hF : Frm pT6 m m') (hu : ∀ o, o < 8 → 0 ≤ m' 24 o ∧ m' 24 o ≤ 2) (hz : ∀ o, m' 22 o = m 22 o ∨ (0 ≤ m' 22 o ∧ m' 22 o ≤ 11)) : RfC m' := by
  exact ⟨CJ.e_hold h.1 hF hu hz, by rw [hF 0 11 (by unfold pT6; omega)]; exact h.2.1, fun z => by
    rw [hF 0 10 (by unfold pT6; omega)] at z
    exact (h.2.2.1 z).fr (fun A i q => hF A i (by unfold pT6; omega)), SX.fr h.2.2.2 (hF 0 10 (by unfold pT6; omega)) (fun A i a b => hF A i (by unfold pT6; omega))⟩
theorem CJ.e_find {m m' : MM} (h : CJ m) (hF : Frm pSk m m') (hz : ∀ o, m' 22 o = m 22 o ∨ (0 ≤ m' 22 o ∧ m' 22 o ≤ 11)) : CJ m' := by
  exact ⟨h.b.fr (fun A i a b => hF A i (by unfold pSk; omega)), h.w.fr (fun A i a b => hF A i (by unfold pSk; omega)), h.w2.fr (fun A i a b => hF A i (by unfold pSk; omega)), by rw [hF 19 0 (by unfold pSk; omega)]; exact h.r, h.hs.fr (fun A i a b => hF A i (by unfold pSk; omega)), fun o ho => ⟨by rw [hF 24 o (by unfold pSk; omega)]; exact (h.us o ho).1, by have := hz o; have := (h.us o ho).2; omega⟩, fun Q' hQ' => (h.ch Q' hQ').fr3 (fun A i q => hF A i (by have := hQ'.rg; unfold pSk; omega)), by rw [hF 0 10 (by unfold pSk; omega)]; exact h.so, by rw [hF 0 11 (by unfold pSk; omega)]; exact h.st⟩
theorem RdC.e_find {m m' : MM} (h : RdC m) (hF : Frm pSk m m') (hz : ∀ o, m' 22 o = m 22 o ∨ (0 ≤ m' 22 o ∧ m' 22 o ≤ 11)) : RdC m' := by
  exact ⟨CJ.e_find h.1 hF hz, ⟨by rw [hF 0 11 (by unfold pSk; omega)]; exact h.2.1.1, h.2.1.2.fr (fun A i q => hF A i (by unfold pSk; omega))⟩, by rw [hF 0 10 (by unfold pSk; omega)]; exact h.2.2.1, h.2.2.2.1.fr (fun A i q => hF A i (by unfold pSk; omega)), h.2.2.2.2.fr (fun A i a b => hF A i (by unfold pSk; omega))⟩
theorem Rdy.e_find {m m' : MM} (h : Rdy m) (hF : Frm pSk m m') (hz : ∀ o, m' 22 o = m 22 o ∨ (0 ≤ m' 22 o ∧ m' 22 o ≤ 11)) : Rdy m' := by
  exact ⟨CJ.e_find h.1 hF hz, ⟨by rw [hF 0 11 (by unfold pSk; omega)]; exact h.2.1.1, h.2.1.2.fr (fun A i q => hF A i (by unfold pSk; omega))⟩, by rw [hF 0 10 (by unfold pSk; omega)]; exact h.2.2.1, h.2.2.2.1.fr (fun A i q => hF A i (by unfold pSk; omega)), h.2.2.2.2.fr (fun A i a b => hF A i (by unfold pSk; omega))⟩
theorem RfC.e_find {m m' : MM} (h : RfC m) (hF : Frm pSk m m') (hz : ∀ o, m' 22 o = m 22 o ∨ (0 ≤ m' 22 o ∧ m' 22 o ≤ 11)) : RfC m' := by
  exact ⟨CJ.e_find h.1 hF hz, by rw [hF 0 11 (by unfold pSk; omega)]; exact h.2.1, fun z => by
    rw [hF 0 10 (by unfold pSk; omega)] at z
    exact (h.2.2.1 z).fr (fun A i q => hF A i (by unfold pSk; omega)), SX.fr h.2.2.2 (hF 0 10 (by unfold pSk; omega)) (fun A i a b => hF A i (by unfold pSk; omega))⟩
theorem CJ.e_draw {Q : Nat} (hQ : ChSh Q) {m m' : MM} (h : CJ m) (hF : Frm (pCh Q) m m') (hz : ChtOK m' Q) : CJ m' := by
  have hq := hQ.rg
  exact ⟨h.b.fr (fun A i a b => hF A i (by unfold pCh; omega)), h.w.fr (fun A i a b => hF A i (by unfold pCh; omega)), h.w2.fr (fun A i a b => hF A i (by unfold pCh; omega)), by rw [hF 19 0 (by unfold pCh; omega)]; exact h.r, h.hs.fr (fun A i a b => hF A i (by unfold pCh; omega)), fun o ho => by rw [hF 24 o (by unfold pCh; omega), hF 22 o (by unfold pCh; omega)]; exact h.us o ho, fun Q' hQ' => by
    have := hQ'.rg
    rcases ChSh.ap hQ hQ' with e | e
    · subst e; exact hz
    · exact (h.ch Q' hQ').fr3 (fun A i q => hF A i (by unfold pCh; omega)), by rw [hF 0 10 (by unfold pCh; omega)]; exact h.so, by rw [hF 0 11 (by unfold pCh; omega)]; exact h.st⟩
theorem RdC.e_draw {Q : Nat} (hQ : ChSh Q) {m m' : MM} (h : RdC m) (hF : Frm (pCh Q) m m') (hz : ChtOK m' Q) : RdC m' := by
  have hq := hQ.rg
  exact ⟨CJ.e_draw hQ h.1 hF hz, ⟨by rw [hF 0 11 (by unfold pCh; omega)]; exact h.2.1.1, h.2.1.2.fr (fun A i q => hF A i (by unfold pCh; omega))⟩, by rw [hF 0 10 (by unfold pCh; omega)]; exact h.2.2.1, h.2.2.2.1.fr (fun A i q => hF A i (by unfold pCh; omega)), h.2.2.2.2.fr (fun A i a b => hF A i (by unfold pCh; omega))⟩
theorem RfC.e_draw {Q : Nat} (hQ : ChSh Q) {m m' : MM} (h : RfC m) (hF : Frm (pCh Q) m m') (hz : ChtOK m' Q) : RfC m' := by
  have hq := hQ.rg
  exact ⟨CJ.e_draw hQ h.1 hF hz, by rw [hF 0 11 (by unfold pCh; omega)]; exact h.2.1, fun z => by
    rw [hF 0 10 (by unfold pCh; omega)] at z
    exact (h.2.2.1 z).fr (fun A i q => hF A i (by unfold pCh; omega)), SX.fr h.2.2.2 (hF 0 10 (by unfold pCh; omega)) (fun A i a b => hF A i (by unfold pCh; omega))⟩
theorem CJ.e_fit {Q : Nat} (hQ : ChSh Q) {m m' : MM} (h : CJ m) (hF : Frm (pQ1 Q) m m') (hz : ChtOK m' Q) : CJ m' := by
  have hq := hQ.rg
  exact ⟨h.b.fr (fun A i a b => hF A i (by unfold pQ1; omega)), h.w.fr (fun A i a b => hF A i (by unfold pQ1; omega)), h.w2.fr (fun A i a b => hF A i (by unfold pQ1; omega)), by rw [hF 19 0 (by unfold pQ1; omega)]; exact h.r, h.hs.fr (fun A i a b => hF A i (by unfold pQ1; omega)), fun o ho => by rw [hF 24 o (by unfold pQ1; omega), hF 22 o (by unfold pQ1; omega)]; exact h.us o ho, fun Q' hQ' => by
    have := hQ'.rg
    rcases ChSh.ap hQ hQ' with e | e
    · subst e; exact hz
    · exact (h.ch Q' hQ').fr3 (fun A i q => hF A i (by unfold pQ1; omega)), by rw [hF 0 10 (by unfold pQ1; omega)]; exact h.so, by rw [hF 0 11 (by unfold pQ1; omega)]; exact h.st⟩
theorem RdC.e_fit {Q : Nat} (hQ : ChSh Q) {m m' : MM} (h : RdC m) (hF : Frm (pQ1 Q) m m') (hz : ChtOK m' Q) : RdC m' := by
  have hq := hQ.rg
  exact ⟨CJ.e_fit hQ h.1 hF hz, ⟨by rw [hF 0 11 (by unfold pQ1; omega)]; exact h.2.1.1, h.2.1.2.fr (fun A i q => hF A i (by unfold pQ1; omega))⟩, by rw [hF 0 10 (by unfold pQ1; omega)]; exact h.2.2.1, h.2.2.2.1.fr (fun A i q => hF A i (by unfold pQ1; omega)), h.2.2.2.2.fr (fun A i a b => hF A i (by unfold pQ1; omega))⟩
theorem RfC.e_fit {Q : Nat} (hQ : ChSh Q) {m m' : MM} (h : RfC m) (hF : Frm (pQ1 Q) m m') (hz : ChtOK m' Q) : RfC m' := by
  have hq := hQ.rg
  exact ⟨CJ.e_fit hQ h.1 hF hz, by rw [hF 0 11 (by unfold pQ1; omega)]; exact h.2.1, fun z => by
    rw [hF 0 10 (by unfold pQ1; omega)] at z
    exact (h.2.2.1 z).fr (fun A i q => hF A i (by unfold pQ1; omega)), SX.fr h.2.2.2 (hF 0 10 (by unfold pQ1; omega)) (fun A i a b => hF A i (by unfold pQ1; omega))⟩
theorem CJ.e_try {Q : Nat} (hQ : ChSh Q) {m m' : MM} (h : CJ m) (hF : Frm (pQ0 Q) m m') : CJ m' := by
  have hq := hQ.rg
  exact ⟨h.b.fr (fun A i a b => hF A i (by unfold pQ0; omega)), h.w.fr (fun A i a b => hF A i (by unfold pQ0; omega)), h.w2.fr (fun A i a b => hF A i (by unfold pQ0; omega)), by rw [hF 19 0 (by unfold pQ0; omega)]; exact h.r, h.hs.fr (fun A i a b => hF A i (by unfold pQ0; omega)), fun o ho => by rw [hF 24 o (by unfold pQ0; omega), hF 22 o (by unfold pQ0; omega)]; exact h.us o ho, fun Q' hQ' => by
    have := hQ'.rg
    rcases ChSh.ap hQ hQ' with e | e
    · subst e; exact (h.ch Q hQ).fr3 (fun A i q => hF A i (by unfold pQ0; omega))
    · exact (h.ch Q' hQ').fr3 (fun A i q => hF A i (by unfold pQ0; omega)), by rw [hF 0 10 (by unfold pQ0; omega)]; exact h.so, by rw [hF 0 11 (by unfold pQ0; omega)]; exact h.st⟩
theorem RdC.e_try {Q : Nat} (hQ : ChSh Q) {m m' : MM} (h : RdC m) (hF : Frm (pQ0 Q) m m') : RdC m' := by
  have hq := hQ.rg
  exact ⟨CJ.e_try hQ h.1 hF , ⟨by rw [hF 0 11 (by unfold pQ0; omega)]; exact h.2.1.1, h.2.1.2.fr (fun A i q => hF A i (by unfold pQ0; omega))⟩, by rw [hF 0 10 (by unfold pQ0; omega)]; exact h.2.2.1, h.2.2.2.1.fr (fun A i q => hF A i (by unfold pQ0; omega)), h.2.2.2.2.fr (fun A i a b => hF A i (by unfold pQ0; omega))⟩
theorem RfC.e_try {Q : Nat} (hQ : ChSh Q) {m m' : MM} (h : RfC m) (hF : Frm (pQ0 Q) m m') : RfC m' := by
  have hq := hQ.rg
  exact ⟨CJ.e_try hQ h.1 hF , by rw [hF 0 11 (by unfold pQ0; omega)]; exact h.2.1, fun z => by
    rw [hF 0 10 (by unfold pQ0; omega)] at z
    exact (h.2.2.1 z).fr (fun A i q => hF A i (by unfold pQ0; omega)), SX.fr h.2.2.2 (hF 0 10 (by unfold pQ0; omega)) (fun A i a b => hF A i (by unfold pQ0; omega))⟩
theorem CJ.e_play {m m' : MM} (h : CJ m) (hF : Frm pPl m m') : CJ m' := by
  exact ⟨h.b.fr (fun A i a b => hF A i (by unfold pPl; omega)), h.w.fr (fun A i a b => hF A i (by unfold pPl; omega)), h.w2.fr (fun A i a b => hF A i (by unfold pPl; omega)), by rw [hF 19 0 (by unfold pPl; omega)]; exact h.r, h.hs.fr (fun A i a b => hF A i (by unfold pPl; omega)), fun o ho => by rw [hF 24 o (by unfold pPl; omega), hF 22 o (by unfold pPl; omega)]; exact h.us o ho, fun Q' hQ' => (h.ch Q' hQ').fr3 (fun A i q => hF A i (by have := hQ'.rg; unfold pPl; omega)), by rw [hF 0 10 (by unfold pPl; omega)]; exact h.so, by rw [hF 0 11 (by unfold pPl; omega)]; exact h.st⟩
theorem Rdy.e_play {m m' : MM} (h : Rdy m) (hF : Frm pPl m m') : Rdy m' := by
  exact ⟨CJ.e_play h.1 hF , ⟨by rw [hF 0 11 (by unfold pPl; omega)]; exact h.2.1.1, h.2.1.2.fr (fun A i q => hF A i (by unfold pPl; omega))⟩, by rw [hF 0 10 (by unfold pPl; omega)]; exact h.2.2.1, h.2.2.2.1.fr (fun A i q => hF A i (by unfold pPl; omega)), h.2.2.2.2.fr (fun A i a b => hF A i (by unfold pPl; omega))⟩
theorem RfC.e_play {m m' : MM} (h : RfC m) (hF : Frm pPl m m') : RfC m' := by
  exact ⟨CJ.e_play h.1 hF , by rw [hF 0 11 (by unfold pPl; omega)]; exact h.2.1, fun z => by
    rw [hF 0 10 (by unfold pPl; omega)] at z
    exact (h.2.2.1 z).fr (fun A i q => hF A i (by unfold pPl; omega)), SX.fr h.2.2.2 (hF 0 10 (by unfold pPl; omega)) (fun A i a b => hF A i (by unfold pPl; omega))⟩
theorem CJ.e_whl {m m' : MM} (h : CJ m) (hF : Frm p140 m m') : CJ m' := by
  exact ⟨h.b.fr (fun A i a b => hF A i (by unfold p140; omega)), h.w.fr (fun A i a b => hF A i (by unfold p140; omega)), h.w2.fr (fun A i a b => hF A i (by unfold p140; omega)), by rw [hF 19 0 (by unfold p140; omega)]; exact h.r, h.hs.fr (fun A i a b => hF A i (by unfold p140; omega)), fun o ho => by rw [hF 24 o (by unfold p140; omega), hF 22 o (by unfold p140; omega)]; exact h.us o ho, fun Q' hQ' => (h.ch Q' hQ').fr3 (fun A i q => hF A i (by have := hQ'.rg; unfold p140; omega)), by rw [hF 0 10 (by unfold p140; omega)]; exact h.so, by rw [hF 0 11 (by unfold p140; omega)]; exact h.st⟩
theorem Rdy.e_whl {m m' : MM} (h : Rdy m) (hF : Frm p140 m m') : Rdy m' := by
  exact ⟨CJ.e_whl h.1 hF , ⟨by rw [hF 0 11 (by unfold p140; omega)]; exact h.2.1.1, h.2.1.2.fr (fun A i q => hF A i (by unfold p140; omega))⟩, by rw [hF 0 10 (by unfold p140; omega)]; exact h.2.2.1, h.2.2.2.1.fr (fun A i q => hF A i (by unfold p140; omega)), h.2.2.2.2.fr (fun A i a b => hF A i (by unfold p140; omega))⟩
theorem RfC.e_whl {m m' : MM} (h : RfC m) (hF : Frm p140 m m') : RfC m' := by
  exact ⟨CJ.e_whl h.1 hF , by rw [hF 0 11 (by unfold p140; omega)]; exact h.2.1, fun z => by
    rw [hF 0 10 (by unfold p140; omega)] at z
    exact (h.2.2.1 z).fr (fun A i q => hF A i (by unfold p140; omega)), SX.fr h.2.2.2 (hF 0 10 (by unfold p140; omega)) (fun A i a b => hF A i (by unfold p140; omega))⟩
theorem CJ.e_pat {m m' : MM} (h : CJ m) (hF : Frm pPa m m') : CJ m' := by
  exact ⟨h.b.fr (fun A i a b => hF A i (by unfold pPa; omega)), h.w.fr (fun A i a b => hF A i (by unfold pPa; omega)), h.w2.fr (fun A i a b => hF A i (by unfold pPa; omega)), by rw [hF 19 0 (by unfold pPa; omega)]; exact h.r, h.hs.fr (fun A i a b => hF A i (by unfold pPa; omega)), fun o ho => by rw [hF 24 o (by unfold pPa; omega), hF 22 o (by unfold pPa; omega)]; exact h.us o ho, fun Q' hQ' => (h.ch Q' hQ').fr3 (fun A i q => hF A i (by have := hQ'.rg; unfold pPa; omega)), by rw [hF 0 10 (by unfold pPa; omega)]; exact h.so, by rw [hF 0 11 (by unfold pPa; omega)]; exact h.st⟩
theorem Rdy.e_pat {m m' : MM} (h : Rdy m) (hF : Frm pPa m m') : Rdy m' := by
  exact ⟨CJ.e_pat h.1 hF , ⟨by rw [hF 0 11 (by unfold pPa; omega)]; exact h.2.1.1, h.2.1.2.fr (fun A i q => hF A i (by unfold pPa; omega))⟩, by rw [hF 0 10 (by unfold pPa; omega)]; exact h.2.2.1, h.2.2.2.1.fr (fun A i q => hF A i (by unfold pPa; omega)), h.2.2.2.2.fr (fun A i a b => hF A i (by unfold pPa; omega))⟩
theorem RfC.e_pat {m m' : MM} (h : RfC m) (hF : Frm pPa m m') : RfC m' := by
  exact ⟨CJ.e_pat h.1 hF , by rw [hF 0 11 (by unfold pPa; omega)]; exact h.2.1, fun z => by
    rw [hF 0 10 (by unfold pPa; omega)] at z
    exact (h.2.2.1 z).fr (fun A i q => hF A i (by unfold pPa; omega)), SX.fr h.2.2.2 (hF 0 10 (by unfold pPa; omega)) (fun A i a b => hF A i (by unfold pPa; omega))⟩
theorem CJ.e_sp1 {m m' : MM} (h : CJ m) (hF : Frm p14 m m') (hz : WbOK m' 14) : CJ m' := by
  exact ⟨h.b.fr (fun A i a b => hF A i (by unfold p14; omega)), h.w.fr (fun A i a b => hF A i (by unfold p14; omega)), hz, by rw [hF 19 0 (by unfold p14; omega)]; exact h.r, h.hs.fr (fun A i a b => hF A i (by unfold p14; omega)), fun o ho => by rw [hF 24 o (by unfold p14; omega), hF 22 o (by unfold p14; omega)]; exact h.us o ho, fun Q' hQ' => (h.ch Q' hQ').fr3 (fun A i q => hF A i (by have := hQ'.rg; unfold p14; omega)), by rw [hF 0 10 (by unfold p14; omega)]; exact h.so, by rw [hF 0 11 (by unfold p14; omega)]; exact h.st⟩
theorem Rdy.e_sp1 {m m' : MM} (h : Rdy m) (hF : Frm p14 m m') (hz : WbOK m' 14) : Rdy m' := by
  exact ⟨CJ.e_sp1 h.1 hF hz, ⟨by rw [hF 0 11 (by unfold p14; omega)]; exact h.2.1.1, h.2.1.2.fr (fun A i q => hF A i (by unfold p14; omega))⟩, by rw [hF 0 10 (by unfold p14; omega)]; exact h.2.2.1, h.2.2.2.1.fr (fun A i q => hF A i (by unfold p14; omega)), h.2.2.2.2.fr (fun A i a b => hF A i (by unfold p14; omega))⟩
theorem RfC.e_sp1 {m m' : MM} (h : RfC m) (hF : Frm p14 m m') (hz : WbOK m' 14) : RfC m' := by
  exact ⟨CJ.e_sp1 h.1 hF hz, by rw [hF 0 11 (by unfold p14; omega)]; exact h.2.1, fun z => by
    rw [hF 0 10 (by unfold p14; omega)] at z
    exact (h.2.2.1 z).fr (fun A i q => hF A i (by unfold p14; omega)), SX.fr h.2.2.2 (hF 0 10 (by unfold p14; omega)) (fun A i a b => hF A i (by unfold p14; omega))⟩
theorem CJ.e_sp2 {m m' : MM} (h : CJ m) (hF : Frm pW14c m m') : CJ m' := by
  exact ⟨h.b.fr (fun A i a b => hF A i (by unfold pW14c; omega)), h.w.fr (fun A i a b => hF A i (by unfold pW14c; omega)), ⟨fun j hj => by
    rw [hF _ _ (by unfold pW14c; omega), hF _ _ (by unfold pW14c; omega), hF _ _ (by unfold pW14c; omega), hF _ _ (by unfold pW14c; omega)]; exact h.w2.1 j hj, by rw [hF 14 0 (by unfold pW14c; omega)]; exact h.w2.2⟩, by rw [hF 19 0 (by unfold pW14c; omega)]; exact h.r, h.hs.fr (fun A i a b => hF A i (by unfold pW14c; omega)), fun o ho => by rw [hF 24 o (by unfold pW14c; omega), hF 22 o (by unfold pW14c; omega)]; exact h.us o ho, fun Q' hQ' => (h.ch Q' hQ').fr3 (fun A i q => hF A i (by have := hQ'.rg; unfold pW14c; omega)), by rw [hF 0 10 (by unfold pW14c; omega)]; exact h.so, by rw [hF 0 11 (by unfold pW14c; omega)]; exact h.st⟩
theorem Rdy.e_sp2 {m m' : MM} (h : Rdy m) (hF : Frm pW14c m m') : Rdy m' := by
  exact ⟨CJ.e_sp2 h.1 hF , ⟨by rw [hF 0 11 (by unfold pW14c; omega)]; exact h.2.1.1, h.2.1.2.fr (fun A i q => hF A i (by unfold pW14c; omega))⟩, by rw [hF 0 10 (by unfold pW14c; omega)]; exact h.2.2.1, h.2.2.2.1.fr (fun A i q => hF A i (by unfold pW14c; omega)), h.2.2.2.2.fr (fun A i a b => hF A i (by unfold pW14c; omega))⟩
theorem RfC.e_sp2 {m m' : MM} (h : RfC m) (hF : Frm pW14c m m') : RfC m' := by
  exact ⟨CJ.e_sp2 h.1 hF , by rw [hF 0 11 (by unfold pW14c; omega)]; exact h.2.1, fun z => by
    rw [hF 0 10 (by unfold pW14c; omega)] at z
    exact (h.2.2.1 z).fr (fun A i q => hF A i (by unfold pW14c; omega)), SX.fr h.2.2.2 (hF 0 10 (by unfold pW14c; omega)) (fun A i a b => hF A i (by unfold pW14c; omega))⟩
theorem CJ.e_wv {m m' : MM} (h : CJ m) (hF : Frm p9w m m') (hz : WbOK m' 9) : CJ m' := by
  exact ⟨h.b.fr (fun A i a b => hF A i (by unfold p9w; omega)), hz, h.w2.fr (fun A i a b => hF A i (by unfold p9w; omega)), by rw [hF 19 0 (by unfold p9w; omega)]; exact h.r, h.hs.fr (fun A i a b => hF A i (by unfold p9w; omega)), fun o ho => by rw [hF 24 o (by unfold p9w; omega), hF 22 o (by unfold p9w; omega)]; exact h.us o ho, fun Q' hQ' => (h.ch Q' hQ').fr3 (fun A i q => hF A i (by have := hQ'.rg; unfold p9w; omega)), by rw [hF 0 10 (by unfold p9w; omega)]; exact h.so, by rw [hF 0 11 (by unfold p9w; omega)]; exact h.st⟩
theorem CJ.e_wg {m m' : MM} (h : CJ m) (hF : Frm pW9c m m') : CJ m' := by
  exact ⟨h.b.fr (fun A i a b => hF A i (by unfold pW9c; omega)), ⟨fun j hj => by
    rw [hF _ _ (by unfold pW9c; omega), hF _ _ (by unfold pW9c; omega), hF _ _ (by unfold pW9c; omega), hF _ _ (by unfold pW9c; omega)]; exact h.w.1 j hj, by rw [hF 9 0 (by unfold pW9c; omega)]; exact h.w.2⟩, h.w2.fr (fun A i a b => hF A i (by unfold pW9c; omega)), by rw [hF 19 0 (by unfold pW9c; omega)]; exact h.r, h.hs.fr (fun A i a b => hF A i (by unfold pW9c; omega)), fun o ho => by rw [hF 24 o (by unfold pW9c; omega), hF 22 o (by unfold pW9c; omega)]; exact h.us o ho, fun Q' hQ' => (h.ch Q' hQ').fr3 (fun A i q => hF A i (by have := hQ'.rg; unfold pW9c; omega)), by rw [hF 0 10 (by unfold pW9c; omega)]; exact h.so, by rw [hF 0 11 (by unfold pW9c; omega)]; exact h.st⟩
theorem CJ.e_st {m m' : MM} (h : CJ m) (hF : Frm p11 m m') (hz : 0 ≤ m' 0 11 ∧ m' 0 11 ≤ 1) : CJ m' := by
  exact ⟨h.b.fr (fun A i a b => hF A i (by unfold p11; omega)), h.w.fr (fun A i a b => hF A i (by unfold p11; omega)), h.w2.fr (fun A i a b => hF A i (by unfold p11; omega)), by rw [hF 19 0 (by unfold p11; omega)]; exact h.r, h.hs.fr (fun A i a b => hF A i (by unfold p11; omega)), fun o ho => by rw [hF 24 o (by unfold p11; omega), hF 22 o (by unfold p11; omega)]; exact h.us o ho, fun Q' hQ' => (h.ch Q' hQ').fr3 (fun A i q => hF A i (by have := hQ'.rg; unfold p11; omega)), by rw [hF 0 10 (by unfold p11; omega)]; exact h.so, hz⟩
theorem CJ.e_so {m m' : MM} (h : CJ m) (hF : Frm p10 m m') (hz : 0 ≤ m' 0 10 ∧ m' 0 10 ≤ 1) : CJ m' := by
  exact ⟨h.b.fr (fun A i a b => hF A i (by unfold p10; omega)), h.w.fr (fun A i a b => hF A i (by unfold p10; omega)), h.w2.fr (fun A i a b => hF A i (by unfold p10; omega)), by rw [hF 19 0 (by unfold p10; omega)]; exact h.r, h.hs.fr (fun A i a b => hF A i (by unfold p10; omega)), fun o ho => by rw [hF 24 o (by unfold p10; omega), hF 22 o (by unfold p10; omega)]; exact h.us o ho, fun Q' hQ' => (h.ch Q' hQ').fr3 (fun A i q => hF A i (by have := hQ'.rg; unfold p10; omega)), hz, by rw [hF 0 11 (by unfold p10; omega)]; exact h.st⟩
theorem CJ.e_rs {m m' : MM} (h : CJ m) (hF : Frm p191 m m') : CJ m' := by
  exact ⟨h.b.fr (fun A i a b => hF A i (by unfold p191; omega)), h.w.fr (fun A i a b => hF A i (by unfold p191; omega)), h.w2.fr (fun A i a b => hF A i (by unfold p191; omega)), by rw [hF 19 0 (by unfold p191; omega)]; exact h.r, h.hs.fr (fun A i a b => hF A i (by unfold p191; omega)), fun o ho => by rw [hF 24 o (by unfold p191; omega), hF 22 o (by unfold p191; omega)]; exact h.us o ho, fun Q' hQ' => (h.ch Q' hQ').fr3 (fun A i q => hF A i (by have := hQ'.rg; unfold p191; omega)), by rw [hF 0 10 (by unfold p191; omega)]; exact h.so, by rw [hF 0 11 (by unfold p191; omega)]; exact h.st⟩
theorem RfC.e_rs {m m' : MM} (h : RfC m) (hF : Frm p191 m m') : RfC m' := by
  exact ⟨CJ.e_rs h.1 hF , by rw [hF 0 11 (by unfold p191; omega)]; exact h.2.1, fun z => by
    rw [hF 0 10 (by unfold p191; omega)] at z
    exact (h.2.2.1 z).fr (fun A i q => hF A i (by unfold p191; omega)), SX.fr h.2.2.2 (hF 0 10 (by unfold p191; omega)) (fun A i a b => hF A i (by unfold p191; omega))⟩
theorem CJ.e_h0 {m m' : MM} (h : CJ m) (hF : Frm p129 m m') (hz : 0 ≤ m' 129 0 ∧ m' 129 0 ≤ 12) : CJ m' := by
  exact ⟨h.b.fr (fun A i a b => hF A i (by unfold p129; omega)), h.w.fr (fun A i a b => hF A i (by unfold p129; omega)), h.w2.fr (fun A i a b => hF A i (by unfold p129; omega)), by rw [hF 19 0 (by unfold p129; omega)]; exact h.r, ⟨fun o ho => by rw [hF 130 o (by unfold p129; omega), hF 131 o (by unfold p129; omega)]; exact h.hs.1 o ho, hz, by rw [hF 129 1 (by unfold p129; omega)]; exact h.hs.2.2.1, by rw [hF 129 2 (by unfold p129; omega)]; exact h.hs.2.2.2⟩, fun o ho => by rw [hF 24 o (by unfold p129; omega), hF 22 o (by unfold p129; omega)]; exact h.us o ho, fun Q' hQ' => (h.ch Q' hQ').fr3 (fun A i q => hF A i (by have := hQ'.rg; unfold p129; omega)), by rw [hF 0 10 (by unfold p129; omega)]; exact h.so, by rw [hF 0 11 (by unfold p129; omega)]; exact h.st⟩
theorem Rdy.e_h0 {m m' : MM} (h : Rdy m) (hF : Frm p129 m m') (hz : 0 ≤ m' 129 0 ∧ m' 129 0 ≤ 12) : Rdy m' := by
  exact ⟨CJ.e_h0 h.1 hF hz, ⟨by rw [hF 0 11 (by unfold p129; omega)]; exact h.2.1.1, h.2.1.2.fr (fun A i q => hF A i (by unfold p129; omega))⟩, by rw [hF 0 10 (by unfold p129; omega)]; exact h.2.2.1, h.2.2.2.1.fr (fun A i q => hF A i (by unfold p129; omega)), h.2.2.2.2.fr (fun A i a b => hF A i (by unfold p129; omega))⟩
theorem RfC.e_h0 {m m' : MM} (h : RfC m) (hF : Frm p129 m m') (hz : 0 ≤ m' 129 0 ∧ m' 129 0 ≤ 12) : RfC m' := by
  exact ⟨CJ.e_h0 h.1 hF hz, by rw [hF 0 11 (by unfold p129; omega)]; exact h.2.1, fun z => by
    rw [hF 0 10 (by unfold p129; omega)] at z
    exact (h.2.2.1 z).fr (fun A i q => hF A i (by unfold p129; omega)), SX.fr h.2.2.2 (hF 0 10 (by unfold p129; omega)) (fun A i a b => hF A i (by unfold p129; omega))⟩
theorem CJ.e_bd {m m' : MM} (h : CJ m) (hF : Frm pBd m m') (hz : BodyOK m') (ht : 0 ≤ m' 0 11 ∧ m' 0 11 ≤ 1) : CJ m' := by
  exact ⟨hz, h.w.fr (fun A i a b => hF A i (by unfold pBd; omega)), h.w2.fr (fun A i a b => hF A i (by unfold pBd; omega)), by rw [hF 19 0 (by unfold pBd; omega)]; exact h.r, h.hs.fr (fun A i a b => hF A i (by unfold pBd; omega)), fun o ho => by rw [hF 24 o (by unfold pBd; omega), hF 22 o (by unfold pBd; omega)]; exact h.us o ho, fun Q' hQ' => (h.ch Q' hQ').fr3 (fun A i q => hF A i (by have := hQ'.rg; unfold pBd; omega)), by rw [hF 0 10 (by unfold pBd; omega)]; exact h.so, ht⟩
theorem up1F {P : Nat → Nat → Prop} {m : MM} {A i : Nat} {x : Int} (q : P A i) : Frm P m (upm m A i x) := Frm.up Frm.rf q
theorem ClS.bd {m m' : MM} (h : ClS m) (hF : Frm pBd m m') (hz : BodyOK m') (ht : m' 0 11 = 1) : ClS m' := ⟨CJ.e_bd h.1 hF hz (by omega), fun q => by omega, fun q => by omega⟩
theorem ClS.fi {m m' : MM} (h : ClS m) (hF : Frm p4f m m') : ClS m' := by
  have hB : BodyOK m' := by
    obtain ⟨h1, h2, h3, h4, h5, h6⟩ := h.1.b
    refine ⟨by rw [hF 1 0 (by unfold p4f; omega)]; exact h1, fun o ho => ?_, fun k hk => by rw [hF 5 k (by unfold p4f; omega)]; exact h3 k hk, fun k hk => by rw [hF 6 k (by unfold p4f; omega)]; exact h4 k hk, fun k hk => by rw [hF 7 k (by unfold p4f; omega)]; exact h5 k hk, fun k hk => by rw [hF 8 k (by unfold p4f; omega)]; exact h6 k hk⟩
    unfold BOp
    rw [hF 2 o (by unfold p4f; omega), hF 3 (4 * o) (by unfold p4f; omega), hF 3 (4 * o + 1) (by unfold p4f; omega), hF 3 (4 * o + 2) (by unfold p4f; omega), hF 3 (4 * o + 3) (by unfold p4f; omega)]
    exact h2 o ho
  refine ⟨CJ.e_bd h.1 (hF.mono (fun A i q => by unfold p4f at q; unfold pBd; omega)) hB (by rw [hF 0 11 (by unfold p4f; omega)]; exact h.1.st), fun a b => ?_, fun a => SX.fr (h.2.2 (by rw [hF 0 11 (by unfold p4f; omega)] at a; exact a)) (hF 0 10 (by unfold p4f; omega)) (fun A i a b => hF A i (by unfold p4f; omega))⟩
  rw [hF 0 11 (by unfold p4f; omega)] at a
  rw [hF 0 10 (by unfold p4f; omega)] at b
  exact ⟨(h.2.1 a b).1.fr (fun A i q => hF A i (by unfold p4f; omega)), (h.2.1 a b).2.fr (fun A i q => hF A i (by unfold p4f; omega))⟩
end
section
/-! laid by wip/hand/tg.py: rounds and ways of the class -/
theorem f_76e {S : Nat × (Nat → Int32)} {n : Nat} {mem : MM} {K : MM → Prop} {Z zn : Nat} (hZ : shA Z = some (.inl zn)) (hz : zn ≤ 100000) {x : Int} (H : ∀ m', Fr1 Z mem m' → (∀ i, i < zn → m' Z i = x) → K m') : CWV (Ex S (n + 1)) 76 [.inr Z, .inl x] mem K := by
  have key : ∀ (N : Nat) (i : Nat) (m : MM), i ≤ zn → zn - i < N → Fr1 Z mem m → (∀ j, j < i → m Z j = x) → Wx (Ex S n) S M_76 (fun r m => r = none ∧ K m) 5 [some (.inr Z), some (.inl x), some (.inl (i : Int)), some (.inl (zn : Int))] [] m := by
    intro N
    induction N with
    | zero => intros; omega
    | succ N ih =>
      intro i m hi hN hF hA
      refine w_76_5 (Ex.mono S n) hZ ⟨fun q => ⟨rfl, H m hF (fun j hj => hA j (by omega))⟩, fun q => ⟨⟨by omega, by omega⟩, by unfold InI; omega, ?_⟩⟩
      rw [Int.toNat_natCast]
      refine ih (i + 1) _ (by omega) (by omega) (hF.tr Fr1.up) (fun j hj => ?_)
      by_cases e : j = i
      · subst e; exact upm_eq
      · rw [upm_ne (fun z => e z.2)]; exact hA j (by omega)
  exact CW.of (k := 2) mt_76 rfl rfl (w_76_0 (Ex.mono S n) hZ ⟨by unfold InI; omega, key _ 0 mem (by omega) (Nat.lt_succ_self _) Fr1.rf (fun j hj => by omega)⟩)
theorem dmul12 {d x : Int} (hd : 0 ≤ d ∧ d ≤ 12) (hx : 0 ≤ x ∧ x ≤ 7) : 0 ≤ d * x ∧ d * x ≤ 84 := by
  have h1 := Int.mul_nonneg hd.1 hx.1
  have h2 := Int.mul_le_mul hd.2 hx.2 hx.1 (by omega)
  omega
theorem RchX.of {mem m' : MM} {d : Int} (hE : FwH (EdQ (cwq mem 9) (mem 9 0).toNat d) (mem 1 0).toNat) (hF : Frm pRe mem m') (z : m' 19 0 = mem 1 0) (y : m' 19 1 = d) (I : FwC (EdQ (cwq mem 9) (mem 9 0).toNat d) (mem 1 0).toNat 20 (-100000) m' (mem 1 0).toNat 0 0) : RchX m' := by
  have e : ∀ A i, (A = 9 ∧ i = 0) ∨ (10 ≤ A ∧ A ≤ 13) ∨ (A = 1 ∧ i = 0) → m' A i = mem A i := fun A i q => hF A i (by unfold pRe; omega)
  have ec : cwq m' 9 = cwq mem 9 := funext fun i => by
    unfold cwq
    rw [e (9 + 1) i (by omega), e (9 + 2) i (by omega), e (9 + 3) i (by omega), e (9 + 4) i (by omega)]
  refine Or.inr ⟨by rw [z, e 1 0 (by omega)], fun a b ha hb => ?_⟩
  rw [e 1 0 (by omega)] at ha hb
  rw [ec, e 9 0 (by omega), y]
  exact I.fin hE (by omega) (by omega) (by omega)
theorem f_33x {S : Nat × (Nat → Int32)} {n : Nat} {mem : MM} {K : Int → MM → Prop} {E : Nat → MM → Prop} {a b : Int} (ha : 0 ≤ a) (hb : 0 < b) (H : ∀ r, r = upV a b → K r mem) : CQI (Ex S (n + 2)) 33 [.inl a, .inl b] mem K E := by
  refine CY.of (k := 0) mt_33 rfl rfl (fun hv => ?_)
  have hC := Ex.mono S (n + 1)
  have ii_a : InI a := hv (.inl a) (by simp)
  unfold InI at ii_a
  have ii_b : InI b := hv (.inl b) (by simp)
  unfold InI at ii_b
  clear hv
  show Tx (Ex S (n + 1)) S M_33 (kI K E) 0 0 0 [some (.inl a), some (.inl b)] [] mem
  refine Tx.iload_n hC te_33_0 rfl ?_
  refine Tx.ifc hC (t := 8) te_33_1 (by decide) (fun q1 => ?_) (fun q1 => ?_)
  · replace q1 : 0 < (b : Int) := q1
    refine Tx.iload_n hC te_33_8 rfl ?_
    refine Tx.inegW hC te_33_9 (fun z2 z2i z2e => ?_)
    unfold InI at z2i z2e
    refine Tx.iload_n hC te_33_10 rfl ?_
    refine Tx.statI hC te_33_11 (by decide) mt_34 (args := [.inl z2, .inl b]) (rest := []) (c' := 0) (s' := 0) rfl rfl rfl rfl rfl rfl rfl ?_
    refine f_34 (by omega) (fun r3 r3a r3b r3i => ?_)
    unfold InI at r3i
    refine Tx.inegW hC te_33_14 (fun z6 z6i z6e => ?_)
    unfold InI at z6i z6e
    exact Tx.ireturn hC te_33_15 rfl (fun hr => show K z6 mem from H z6 (ru_fin0 (by omega) ha (z2e (by omega)) (by have := z2e (by omega); omega) r3a r3b (by omega) (by omega) z6e))
  · replace q1 : ¬ (0 < (b : Int)) := q1
    refine Tx.iconst hC te_33_4 rfl ?_
    refine Tx.goto hC (t := 15) te_33_5 (by decide) ?_
    exact Tx.ireturn hC te_33_15 rfl (fun hr => show K 0 mem from H 0 (by omega))
theorem f_32x {S : Nat × (Nat → Int32)} {n : Nat} {mem : MM} {K : Int → MM → Prop} {E : Nat → MM → Prop} {W : Nat} (hW : WebSh W) (hT : WtOK mem W) (H : ∀ r, r = upV (mem W 5) (mem W 6) → 0 ≤ r → r ≤ 80 → K r mem) : CQI (Ex S (n + 3)) 32 [.inr W] mem K E := by
  refine CY.of (k := 0) mt_32 rfl rfl (fun hv => ?_)
  have hC := Ex.mono S (n + 2)
  clear hv
  have hT1 := hT.1
  have hT2 := hT.2
  show Tx (Ex S (n + 2)) S M_32 (kI K E) 0 0 0 [some (.inr W)] [] mem
  refine Tx.aload_n hC te_32_0 rfl ?_
  refine Tx.getI hC te_32_1 hW.1 rfl rfl (fun v1 v1e v1i => ?_)
  unfold InI at v1i
  refine Tx.aload_n hC te_32_4 rfl ?_
  refine Tx.getI hC te_32_5 hW.1 rfl rfl (fun v2 v2e v2i => ?_)
  unfold InI at v2i
  refine Tx.statI hC te_32_8 (by decide) mt_33 (args := [.inl v1, .inl v2]) (rest := []) (c' := 0) (s' := 0) rfl rfl rfl rfl rfl rfl rfl ?_
  refine f_33x (by omega) (by omega) (fun r3 r3e r3i => ?_)
  have r3g := upV_rg (a := v1) (b := v2) (by omega) (by omega)
  have r3u : upV (mem W 5) (mem W 6) = r3 := by rw [r3e, v1e, v2e]
  unfold InI at r3i
  exact Tx.ireturn hC te_32_11 rfl (fun hr => show K r3 mem from H _ (by omega) (by omega) (by omega))
theorem f_77x {S : Nat × (Nat → Int32)} {n : Nat} {mem : MM} {K : MM → Prop} {E : Nat → MM → Prop} {E0 : Nat → Nat → Int → Prop} (hE : FwH E0 (mem 19 0).toNat) {f o : Int} (hf : 0 ≤ f ∧ f < mem 19 0) (ho : 0 ≤ o ∧ o < mem 19 0) (hI : FwC E0 (mem 19 0).toNat 20 (-100000) mem o.toNat f.toNat 0) (hne : ¬ WM mem 20 f.toNat o.toNat = -100000) (H : ∀ m', Frm p20 mem m' → FwC E0 (mem 19 0).toNat 20 (-100000) m' o.toNat (f.toNat + 1) 0 → K m') : CQV (Ex S (n + 2)) 77 [.inr 19, .inl f, .inl o] mem K E := by
  refine CY.of (k := 4) mt_77 rfl rfl (fun hv => ?_)
  have hC := Ex.mono S (n + 1)
  have ii_f : InI f := hv (.inl f) (by simp)
  unfold InI at ii_f
  have ii_o : InI o := hv (.inl o) (by simp)
  unfold InI at ii_o
  clear hv
  have h8 := hE.1
  obtain ⟨ha1, ha2⟩ := hI.ahd (by omega) (show f.toNat < (mem 19 0).toNat by omega)
  have hrg := hI.rg hE (a' := f.toNat) (b' := o.toNat) (by omega) (by omega)
  have hap := ha1.resolve_left hne
  show Tx (Ex S (n + 1)) S M_77 (kV K E) 0 0 0 [some (.inr 19), some (.inl f), some (.inl o), none, none, none, none] [] mem
  have l_15 : ∀ (N : Nat) (x3 x4 : Int) (m_15 : MM), (0 ≤ x4 ∧ x4 ≤ mem 19 0) → (FwC E0 (mem 19 0).toNat 20 (-100000) m_15 o.toNat f.toNat x4.toNat) → (x3 = WM mem 20 f.toNat o.toNat) → ((8 - x4).toNat) < N → Frm p20 mem m_15 → Tx (Ex S (n + 1)) S M_77 (kV K E) 0 0 15 [some (.inr 19), some (.inl f), some (.inl o), some (.inl x3), some (.inl x4), none, none] [] m_15 := by
    intro N
    induction N with
    | zero => intros; omega
    | succ N ih_15 =>
      intro x3 x4 m_15 i15_0 i15_1 i15_2 hN_15 hF_15
      refine Tx.iload hC te_77_15 rfl ?_
      refine Tx.aload_n hC te_77_17 rfl ?_
      refine Tx.getI hC te_77_18 rfl rfl rfl (fun v1 v1e v1i => ?_)
      unfold InI at v1i
      rw [hF_15 19 _ (by unfold p20; omega)] at v1e
      refine Tx.icmp hC (t := 81) te_77_21 (by decide) (fun q2 => ?_) (fun q2 => ?_)
      · replace q2 : v1 ≤ (x4 : Int) := q2
        exact Tx.vret hC te_77_81 rfl (show K m_15 from H _ hF_15 (by have w := i15_1; rw [show x4.toNat = (mem 19 0).toNat by omega] at w; exact w.nextA))
      · replace q2 : ¬ (v1 ≤ (x4 : Int)) := q2
        refine Tx.aload_n hC te_77_24 rfl ?_
        refine Tx.getR hC te_77_25 rfl rfl rfl ?_
        refine Tx.iload_n hC te_77_28 rfl ?_
        refine Tx.bipush hC te_77_29 rfl rfl ?_
        refine Tx.imulW hC te_77_31 (fun z3 z3i z3e => ?_)
        unfold InI at z3i z3e
        first | replace z3e := z3e (by omega) | clear z3e
        refine Tx.iload hC te_77_32 rfl ?_
        refine Tx.iaddW hC te_77_34 (fun z4 z4i z4e => ?_)
        unfold InI at z4i z4e
        first | replace z4e := z4e (by omega) | clear z4e
        refine Tx.iald hC te_77_35 rfl (by omega) (fun v5 v5e v5i => ?_)
        unfold InI at v5i
        have vb : v5 = WM m_15 20 o.toNat x4.toNat := by rw [v5e]; unfold WM; congr 1; omega
        have rb := i15_1.rg hE (a' := o.toNat) (b' := x4.toNat) (by omega) (by omega)
        have rc := i15_1.rg hE (a' := f.toNat) (b' := x4.toNat) (by omega) (by omega)
        refine Tx.istore hC te_77_36 rfl ?_
        refine Tx.iload hC te_77_38 rfl ?_
        refine Tx.ldc hC (z := (-100000)) te_77_40 rfl rfl rfl rfl ?_
        refine Tx.icmp hC (t := 75) te_77_42 (by decide) (fun q6 => ?_) (fun q6 => ?_)
        · replace q6 : (v5 : Int) = (-100000) := q6
          refine Tx.iincW hC te_77_75 rfl rfl (fun z7 z7i z7e => ?_)
          unfold InI at z7i z7e
          first | replace z7e := z7e (by omega) | clear z7e
          refine Tx.goto hC (t := 15) te_77_78 (by decide) ?_
          exact Tx.weak (by repeat' (first | exact trivial | exact rfl | constructor)) (ih_15 x3 z7 m_15 (by omega) (by rw [show (z7).toNat = x4.toNat + 1 by omega]; exact FwC.skip i15_1 hE (by omega) (by omega) (by omega) (by omega) ha1 ha2 (Or.inr (by omega))) (by omega) (by omega) hF_15)
        · replace q6 : ¬ ((v5 : Int) = (-100000)) := q6
          refine Tx.iload_n hC te_77_45 rfl ?_
          refine Tx.bipush hC te_77_46 rfl rfl ?_
          refine Tx.imulW hC te_77_48 (fun z8 z8i z8e => ?_)
          unfold InI at z8i z8e
          first | replace z8e := z8e (by omega) | clear z8e
          refine Tx.iload hC te_77_49 rfl ?_
          refine Tx.iaddW hC te_77_51 (fun z9 z9i z9e => ?_)
          unfold InI at z9i z9e
          first | replace z9e := z9e (by omega) | clear z9e
          refine Tx.istore hC te_77_52 rfl ?_
          refine Tx.aload_n hC te_77_54 rfl ?_
          refine Tx.getR hC te_77_55 rfl rfl rfl ?_
          refine Tx.iload hC te_77_58 rfl ?_
          refine Tx.aload_n hC te_77_60 rfl ?_
          refine Tx.getR hC te_77_61 rfl rfl rfl ?_
          refine Tx.iload hC te_77_64 rfl ?_
          refine Tx.iald hC te_77_66 rfl (by omega) (fun v10 v10e v10i => ?_)
          unfold InI at v10i
          have vc : v10 = WM m_15 20 f.toNat x4.toNat := by rw [v10e]; unfold WM; congr 1; omega
          refine Tx.iload_n hC te_77_67 rfl ?_
          refine Tx.iload hC te_77_68 rfl ?_
          refine Tx.iaddW hC te_77_70 (fun z11 z11i z11e => ?_)
          unfold InI at z11i z11e
          first | replace z11e := z11e (by omega) | clear z11e
          refine Tx.statI hC te_77_71 (by decide) mt_40 (args := [.inl v10, .inl z11]) (rest := [.inl z9, .inr 20]) (c' := 0) (s' := 0) rfl rfl rfl rfl rfl rfl rfl ?_
          refine f_40q (fun r12 r12a r12b r12c r12i => ?_)
          unfold InI at r12i
          refine Tx.iast hC te_77_74 rfl (by omega) ?_
          have hF16 : Frm p20 mem (upm m_15 20 (Int.toNat z9) r12) := Frm.up hF_15 (by unfold p20; omega)
          have hI17 : FwC E0 (mem 19 0).toNat 20 (-100000) (upm m_15 20 (Int.toNat z9) r12) o.toNat f.toNat (x4.toNat + 1) := FwC.upd i15_1 hE (by omega) (by omega) (by omega) (by omega) hap ha2 (by omega) (by omega) (by omega) (by omega)
          generalize upm m_15 20 (Int.toNat z9) r12 = m15 at hF16 hI17 ⊢
          refine Tx.iincW hC te_77_75 rfl rfl (fun z18 z18i z18e => ?_)
          unfold InI at z18i z18e
          first | replace z18e := z18e (by omega) | clear z18e
          refine Tx.goto hC (t := 15) te_77_78 (by decide) ?_
          exact Tx.weak (by repeat' (first | exact trivial | exact rfl | constructor)) (ih_15 x3 z18 m15 (by omega) (by rw [show (z18).toNat = x4.toNat + 1 by omega]; exact hI17) (by omega) (by omega) hF16)
  refine Tx.aload_n hC te_77_0 rfl ?_
  refine Tx.getR hC te_77_1 rfl rfl rfl ?_
  refine Tx.iload_n hC te_77_4 rfl ?_
  refine Tx.bipush hC te_77_5 rfl rfl ?_
  refine Tx.imulW hC te_77_7 (fun z19 z19i z19e => ?_)
  unfold InI at z19i z19e
  first | replace z19e := z19e (by omega) | clear z19e
  refine Tx.iload_n hC te_77_8 rfl ?_
  refine Tx.iaddW hC te_77_9 (fun z20 z20i z20e => ?_)
  unfold InI at z20i z20e
  first | replace z20e := z20e (by omega) | clear z20e
  refine Tx.iald hC te_77_10 rfl (by omega) (fun v21 v21e v21i => ?_)
  unfold InI at v21i
  have va : v21 = WM mem 20 f.toNat o.toNat := by rw [v21e]; unfold WM; congr 1; omega
  refine Tx.istore_n hC te_77_11 rfl ?_
  refine Tx.iconst hC te_77_12 rfl ?_
  refine Tx.istore hC te_77_13 rfl ?_
  exact l_15 _ v21 0 mem (by omega) (hI) (by omega) (Nat.lt_succ_self _) Frm.rf
theorem f_75x {S : Nat × (Nat → Int32)} {n : Nat} {mem : MM} {K : MM → Prop} {E : Nat → MM → Prop} (hB : BodyOK mem) (hW9 : WbOK mem 9) (hS : WbS mem) {d : Int} (hV : EdV (cwq mem 9) (mem 9 0).toNat (mem 1 0).toNat) (hN : NoUp (EdQ (cwq mem 9) (mem 9 0).toNat d)) (hX : RchX mem) (hd : 1 ≤ d ∧ d ≤ 12) (H : ∀ m', Frm pRe mem m' → RchX m' → m' 19 0 = mem 1 0 → m' 19 1 = d → K m') : CQV (Ex S (n + 3)) 75 [.inr 19, .inr 1, .inr 9, .inl d] mem K E := by
  refine CY.of (k := 2) mt_75 rfl rfl (fun hv => ?_)
  have hC := Ex.mono S (n + 2)
  have ii_d : InI d := hv (.inl d) (by simp)
  unfold InI at ii_d
  clear hv
  have h8 := hB.1
  have hw := hW9.2
  have hE := EdQ.fwh (by omega) (by omega) hV (fun j hj => by
    have g : Rg (mem 10 j) (mem 11 j) (mem 12 j) (mem 13 j) := hW9.1 j (by omega)
    unfold Rg at g
    exact ⟨g.2.2.1.2, g.2.2.2.1, g.2.2.2.2⟩) hN
  show Tx (Ex S (n + 2)) S M_75 (kV K E) 0 0 0 [some (.inr 19), some (.inr 1), some (.inr 9), some (.inl d), none, none] [] mem
  have l_106 : ∀ (N : Nat) (x4 : Int) (m_106 : MM), (0 ≤ x4 ∧ x4 ≤ mem 1 0) → (m_106 19 0 = mem 1 0) → (m_106 19 1 = d) → (FwC (EdQ (cwq mem 9) (mem 9 0).toNat d) (mem 1 0).toNat 20 (-100000) m_106 x4.toNat 0 0) → ((8 - x4).toNat) < N → Frm pRe mem m_106 → Tx (Ex S (n + 2)) S M_75 (kV K E) 0 0 106 [some (.inr 19), some (.inr 1), some (.inr 9), some (.inl d), some (.inl x4), none] [] m_106 := by
    intro N
    induction N with
    | zero => intros; omega
    | succ N ih_106 =>
      intro x4 m_106 i106_0 i106_1 i106_2 i106_3 hN_106 hF_106
      have l_118 : ∀ (N : Nat) (x5 : Int) (m_118 : MM), (0 ≤ x5 ∧ x5 ≤ mem 1 0) → (m_118 19 0 = mem 1 0) → (m_118 19 1 = d) → (0 ≤ x4 ∧ x4 < mem 1 0) → (FwC (EdQ (cwq mem 9) (mem 9 0).toNat d) (mem 1 0).toNat 20 (-100000) m_118 x4.toNat x5.toNat 0) → ((8 - x5).toNat) < N → Frm pRe mem m_118 → Tx (Ex S (n + 2)) S M_75 (kV K E) 0 0 118 [some (.inr 19), some (.inr 1), some (.inr 9), some (.inl d), some (.inl x4), some (.inl x5)] [] m_118 := by
        intro N
        induction N with
        | zero => intros; omega
        | succ N ih_118 =>
          intro x5 m_118 i118_0 i118_1 i118_2 i118_3 i118_4 hN_118 hF_118
          refine Tx.iload hC te_75_118 rfl ?_
          refine Tx.aload_n hC te_75_120 rfl ?_
          refine Tx.getI hC te_75_121 rfl rfl rfl (fun v1 v1e v1i => ?_)
          unfold InI at v1i
          have f2 := i118_1
          refine Tx.icmp hC (t := 159) te_75_124 (by decide) (fun q3 => ?_) (fun q3 => ?_)
          · replace q3 : v1 ≤ (x5 : Int) := q3
            refine Tx.iincW hC te_75_159 rfl rfl (fun z4 z4i z4e => ?_)
            unfold InI at z4i z4e
            first | replace z4e := z4e (by omega) | clear z4e
            refine Tx.goto hC (t := 106) te_75_162 (by decide) ?_
            exact Tx.weak (by repeat' (first | exact trivial | exact rfl | constructor)) (ih_106 z4 m_118 (by omega) (i118_1) (i118_2) (by have w := i118_4; rw [show x5.toNat = (mem 1 0).toNat by omega] at w; rw [show (z4).toNat = x4.toNat + 1 by omega]; exact w.nextM) (by omega) hF_118)
          · replace q3 : ¬ (v1 ≤ (x5 : Int)) := q3
            refine Tx.aload_n hC te_75_127 rfl ?_
            refine Tx.getR hC te_75_128 rfl rfl rfl ?_
            refine Tx.iload hC te_75_131 rfl ?_
            refine Tx.bipush hC te_75_133 rfl rfl ?_
            refine Tx.imulW hC te_75_135 (fun z5 z5i z5e => ?_)
            unfold InI at z5i z5e
            first | replace z5e := z5e (by omega) | clear z5e
            refine Tx.iload hC te_75_136 rfl ?_
            refine Tx.iaddW hC te_75_138 (fun z6 z6i z6e => ?_)
            unfold InI at z6i z6e
            first | replace z6e := z6e (by omega) | clear z6e
            refine Tx.iald hC te_75_139 rfl (by omega) (fun v7 v7e v7i => ?_)
            unfold InI at v7i
            have vr : v7 = WM m_118 20 x5.toNat x4.toNat := by rw [v7e]; unfold WM; congr 1; omega
            refine Tx.ldc hC (z := (-100000)) te_75_140 rfl rfl rfl rfl ?_
            refine Tx.icmp hC (t := 153) te_75_142 (by decide) (fun q8 => ?_) (fun q8 => ?_)
            · replace q8 : (v7 : Int) = (-100000) := q8
              refine Tx.iincW hC te_75_153 rfl rfl (fun z9 z9i z9e => ?_)
              unfold InI at z9i z9e
              first | replace z9e := z9e (by omega) | clear z9e
              refine Tx.goto hC (t := 118) te_75_156 (by decide) ?_
              exact ih_118 z9 m_118 (by omega) (i118_1) (i118_2) (by omega) (by rw [show (z9).toNat = x5.toNat + 1 by omega]; exact FwC.row i118_4 hE (by omega) (by omega) (by omega) (by omega)) (by omega) hF_118
            · replace q8 : ¬ ((v7 : Int) = (-100000)) := q8
              refine Tx.aload_n hC te_75_145 rfl ?_
              refine Tx.iload hC te_75_146 rfl ?_
              refine Tx.iload hC te_75_148 rfl ?_
              refine Tx.virtV hC te_75_150 mt_77 (args := [.inr 19, .inl x5, .inl x4]) (rest := []) (c' := 0) (s' := 0) rfl rfl rfl rfl rfl rfl rfl rfl rfl rfl ?_
              refine f_77x (E0 := (EdQ (cwq mem 9) (mem 9 0).toNat d)) (by rw [i118_1]; exact hE) (by omega) (by omega) (by rw [i118_1]; exact i118_4) (by omega) (fun m11 hF12 r10c => ?_)
              rw [i118_1] at r10c
              have m11Z : m11 19 0 = mem 1 0 := by rw [hF12 19 0 (by unfold p20; omega)]; exact i118_1
              have m11Y : m11 19 1 = d := by rw [hF12 19 1 (by unfold p20; omega)]; exact i118_2
              have hF12n : Frm pRe mem m11 := hF_118.tr (hF12.mono (fun A i q => by unfold p20 at q; unfold pRe; omega))
              refine Tx.iincW hC te_75_153 rfl rfl (fun z13 z13i z13e => ?_)
              unfold InI at z13i z13e
              first | replace z13e := z13e (by omega) | clear z13e
              refine Tx.goto hC (t := 118) te_75_156 (by decide) ?_
              exact ih_118 z13 m11 (by omega) (m11Z) (m11Y) (by omega) (by rw [show (z13).toNat = x5.toNat + 1 by omega]; exact r10c) (by omega) hF12n
      refine Tx.iload hC te_75_106 rfl ?_
      refine Tx.aload_n hC te_75_108 rfl ?_
      refine Tx.getI hC te_75_109 rfl rfl rfl (fun v14 v14e v14i => ?_)
      unfold InI at v14i
      have f15 := i106_1
      refine Tx.icmp hC (t := 165) te_75_112 (by decide) (fun q16 => ?_) (fun q16 => ?_)
      · replace q16 : v14 ≤ (x4 : Int) := q16
        exact Tx.vret hC te_75_165 rfl (show K m_106 from H _ hF_106 (RchX.of hE hF_106 i106_1 i106_2 (by have w := i106_3; rw [show x4.toNat = (mem 1 0).toNat by omega] at w; exact w)) i106_1 i106_2)
      · replace q16 : ¬ (v14 ≤ (x4 : Int)) := q16
        refine Tx.iconst hC te_75_115 rfl ?_
        refine Tx.istore hC te_75_116 rfl ?_
        exact l_118 _ 0 m_106 (by omega) (i106_1) (i106_2) (by omega) (i106_3) (Nat.lt_succ_self _) hF_106
  have l_34 : ∀ (N : Nat) (x4 : Int) (m_34 : MM), (0 ≤ x4 ∧ x4 ≤ mem 9 0) → (m_34 19 0 = mem 1 0) → (m_34 19 1 = d) → (FwE (cwq mem 9) d (mem 1 0).toNat 20 (-100000) m_34 x4.toNat) → ((64 - x4).toNat) < N → Frm pRe mem m_34 → Tx (Ex S (n + 2)) S M_75 (kV K E) 0 0 34 [some (.inr 19), some (.inr 1), some (.inr 9), some (.inl d), some (.inl x4), none] [] m_34 := by
    intro N
    induction N with
    | zero => intros; omega
    | succ N ih_34 =>
      intro x4 m_34 i34_0 i34_1 i34_2 i34_3 hN_34 hF_34
      refine Tx.iload hC te_75_34 rfl ?_
      refine Tx.aload_n hC te_75_36 rfl ?_
      refine Tx.getI hC te_75_37 rfl rfl rfl (fun v17 v17e v17i => ?_)
      unfold InI at v17i
      rw [hF_34 9 _ (by unfold pRe; omega)] at v17e
      refine Tx.icmp hC (t := 103) te_75_40 (by decide) (fun q18 => ?_) (fun q18 => ?_)
      · replace q18 : v17 ≤ (x4 : Int) := q18
        refine Tx.iconst hC te_75_103 rfl ?_
        refine Tx.istore hC te_75_104 rfl ?_
        exact l_106 _ 0 m_34 (by omega) (i34_1) (i34_2) (by have w := FwE.fwc i34_3; rw [show x4.toNat = (mem 9 0).toNat by omega] at w; exact w) (Nat.lt_succ_self _) hF_34
      · replace q18 : ¬ (v17 ≤ (x4 : Int)) := q18
        refine Tx.aload_n hC te_75_43 rfl ?_
        refine Tx.getR hC te_75_44 rfl rfl rfl ?_
        refine Tx.iload hC te_75_47 rfl ?_
        refine Tx.iald hC te_75_49 rfl (by omega) (fun v19 v19e v19i => ?_)
        unfold InI at v19i
        rw [hF_34 10 _ (by unfold pRe; omega)] at v19e
        have f20 : Rg (mem 10 (Int.toNat x4)) (mem 11 (Int.toNat x4)) (mem 12 (Int.toNat x4)) (mem 13 (Int.toNat x4)) := hW9.1 (Int.toNat x4) (by omega)
        unfold Rg at f20
        have f20s := hS (Int.toNat x4) (by omega)
        refine Tx.bipush hC te_75_50 rfl rfl ?_
        refine Tx.imulW hC te_75_52 (fun z21 z21i z21e => ?_)
        unfold InI at z21i z21e
        first | replace z21e := z21e (by omega) | clear z21e
        refine Tx.aload_n hC te_75_53 rfl ?_
        refine Tx.getR hC te_75_54 rfl rfl rfl ?_
        refine Tx.iload hC te_75_57 rfl ?_
        refine Tx.iald hC te_75_59 rfl (by omega) (fun v22 v22e v22i => ?_)
        unfold InI at v22i
        rw [hF_34 11 _ (by unfold pRe; omega)] at v22e
        refine Tx.iaddW hC te_75_60 (fun z23 z23i z23e => ?_)
        unfold InI at z23i z23e
        first | replace z23e := z23e (by omega) | clear z23e
        refine Tx.istore hC te_75_61 rfl ?_
        refine Tx.aload_n hC te_75_63 rfl ?_
        refine Tx.getR hC te_75_64 rfl rfl rfl ?_
        refine Tx.iload hC te_75_67 rfl ?_
        refine Tx.aload_n hC te_75_69 rfl ?_
        refine Tx.getR hC te_75_70 rfl rfl rfl ?_
        refine Tx.iload hC te_75_73 rfl ?_
        refine Tx.iald hC te_75_75 rfl (by omega) (fun v24 v24e v24i => ?_)
        unfold InI at v24i
        have vb : v24 = WM m_34 20 (mem 10 x4.toNat).toNat (mem 11 x4.toNat).toNat := by rw [v24e]; unfold WM; congr 1; omega
        refine Tx.aload_n hC te_75_76 rfl ?_
        refine Tx.getR hC te_75_77 rfl rfl rfl ?_
        refine Tx.iload hC te_75_80 rfl ?_
        refine Tx.iald hC te_75_82 rfl (by omega) (fun v25 v25e v25i => ?_)
        unfold InI at v25i
        rw [hF_34 13 _ (by unfold pRe; omega)] at v25e
        refine Tx.iload_n hC te_75_83 rfl ?_
        refine Tx.aload_n hC te_75_84 rfl ?_
        refine Tx.getR hC te_75_85 rfl rfl rfl ?_
        refine Tx.iload hC te_75_88 rfl ?_
        refine Tx.iald hC te_75_90 rfl (by omega) (fun v26 v26e v26i => ?_)
        unfold InI at v26i
        rw [hF_34 12 _ (by unfold pRe; omega)] at v26e
        have pm := dmul12 (d := d) (x := v26) (by omega) (by omega)
        have pe : d * mem 12 (Int.toNat x4) = d * v26 := by rw [v26e]
        refine Tx.imulW hC te_75_91 (fun z27 z27i z27e => ?_)
        unfold InI at z27i z27e
        first | replace z27e := z27e (by omega) | clear z27e
        refine Tx.isubW hC te_75_92 (fun z28 z28i z28e => ?_)
        unfold InI at z28i z28e
        first | replace z28e := z28e (by omega) | clear z28e
        refine Tx.statI hC te_75_93 (by decide) mt_40 (args := [.inl v24, .inl z28]) (rest := [.inl z23, .inr 20]) (c' := 0) (s' := 0) rfl rfl rfl rfl rfl rfl rfl ?_
        refine f_40q (fun r29 r29a r29b r29c r29i => ?_)
        unfold InI at r29i
        have c1 : (cwq mem 9 x4.toNat).1 = ((mem 10 x4.toNat).toNat : Int) := by show mem 10 x4.toNat = _; omega
        have c2 : (cwq mem 9 x4.toNat).2.1 = ((mem 11 x4.toNat).toNat : Int) := by show mem 11 x4.toNat = _; omega
        have c4 : (cwq mem 9 x4.toNat).2.2.2 - d * (cwq mem 9 x4.toNat).2.2.1 = mem 13 x4.toNat - d * mem 12 x4.toNat := rfl
        refine Tx.iast hC te_75_96 rfl (by omega) ?_
        have hF33 : Frm pRe mem (upm m_34 20 (Int.toNat z23) r29) := Frm.up hF_34 (by unfold pRe; omega)
        have hY35 : (upm m_34 20 (Int.toNat z23) r29) 19 1 = d := by rw [upm_ne (by omega)]; exact i34_2
        have hZ34 : (upm m_34 20 (Int.toNat z23) r29) 19 0 = mem 1 0 := by rw [upm_ne (by omega)]; exact i34_1
        have hI36 : FwE (cwq mem 9) d (mem 1 0).toNat 20 (-100000) (upm m_34 20 (Int.toNat z23) r29) (x4.toNat + 1) := FwE.step i34_3 (by omega) c1 c2 (by omega) (by omega) (by rw [c4]; omega) (by rw [c4]; omega)
        generalize upm m_34 20 (Int.toNat z23) r29 = m32 at hF33 hZ34 hY35 hI36 ⊢
        refine Tx.iincW hC te_75_97 rfl rfl (fun z37 z37i z37e => ?_)
        unfold InI at z37i z37e
        first | replace z37e := z37e (by omega) | clear z37e
        refine Tx.goto hC (t := 34) te_75_100 (by decide) ?_
        exact Tx.weak (by repeat' (first | exact trivial | exact rfl | constructor)) (ih_34 z37 m32 (by omega) (hZ34) (hY35) (by rw [show (z37).toNat = x4.toNat + 1 by omega]; exact hI36) (by omega) hF33)
  refine Tx.aload_n hC te_75_0 rfl ?_
  refine Tx.getI hC te_75_1 rfl rfl rfl (fun v38 v38e v38i => ?_)
  unfold InI at v38i
  refine Tx.iload_n hC te_75_4 rfl ?_
  refine Tx.icmp hC (t := 9) te_75_5 (by decide) (fun q39 => ?_) (fun q39 => ?_)
  · replace q39 : ¬ (v38 : Int) = d := q39
    refine Tx.aload_n hC te_75_9 rfl ?_
    refine Tx.iload_n hC te_75_10 rfl ?_
    refine Tx.putI hC te_75_11 rfl rfl rfl rfl ?_
    have hF41 : Frm pRe mem (upm mem 19 1 d) := Frm.up Frm.rf (by unfold pRe; omega)
    have hY43 : (upm mem 19 1 d) 19 1 = d := upm_eq
    generalize upm mem 19 1 d = m40 at hF41 hY43 ⊢
    refine Tx.aload_n hC te_75_14 rfl ?_
    refine Tx.aload_n hC te_75_15 rfl ?_
    refine Tx.getI hC te_75_16 rfl rfl rfl (fun v44 v44e v44i => ?_)
    unfold InI at v44i
    rw [hF41 1 _ (by unfold pRe; omega)] at v44e
    refine Tx.putI hC te_75_19 rfl rfl rfl rfl ?_
    have hF46 : Frm pRe mem (upm m40 19 0 v44) := Frm.up hF41 (by unfold pRe; omega)
    have hY48 : (upm m40 19 0 v44) 19 1 = d := by rw [upm_ne (by omega)]; exact hY43
    have hZ47 : (upm m40 19 0 v44) 19 0 = mem 1 0 := by rw [upm_eq]; omega
    generalize upm m40 19 0 v44 = m45 at hF46 hZ47 hY48 ⊢
    refine Tx.aload_n hC te_75_22 rfl ?_
    refine Tx.getR hC te_75_23 rfl rfl rfl ?_
    refine Tx.ldc hC (z := (-100000)) te_75_26 rfl rfl rfl rfl ?_
    refine Tx.statV hC te_75_28 (by decide) mt_76 (args := [.inr 20, .inl (-100000)]) (rest := []) (c' := 0) (s' := 0) rfl rfl rfl rfl rfl rfl rfl ?_
    refine CWV.q hC (f_76e (Z := 20) (zn := 64) rfl (by omega) (fun m50 hF51 r49a => ?_))
    have m50Z : m50 19 0 = mem 1 0 := by rw [hF51 19 0 (by omega)]; exact hZ47
    have m50Y : m50 19 1 = d := by rw [hF51 19 1 (by omega)]; exact hY48
    have m50I : FwE (cwq mem 9) d (mem 1 0).toNat 20 (-100000) m50 0 := FwE.ini (by omega) r49a
    have hF51n : Frm pRe mem m50 := Frm.cp hF46 hF51 (fun i => by unfold pRe; omega)
    refine Tx.iconst hC te_75_31 rfl ?_
    refine Tx.istore hC te_75_32 rfl ?_
    exact l_34 _ 0 m50 (by omega) (m50Z) (m50Y) (m50I) (Nat.lt_succ_self _) hF51n
  · replace q39 : ¬ (¬ (v38 : Int) = d) := q39
    exact Tx.vret hC te_75_8 rfl (show K mem from H _ Frm.rf hX (hX.resolve_left (by omega)).1 (by omega))
end
section
/-! laid by wip/hand/tg.py: the class refreshes -/
theorem ChtOK.up1 {m : MM} {Q : Nat} {x : Int} (h : ChtOK m Q) (hx : 0 ≤ x ∧ x ≤ 1) : ChtOK (upm m Q 1 x) Q := by
  refine ⟨⟨?_, ?_, ?_⟩, fun o ho => ?_⟩
  · rw [upm_ne (by omega)]; exact h.1.1
  · rw [upm_ne (by omega)]; exact h.1.2.1
  · rw [upm_eq]; exact hx
  · rw [upm_ne (by omega), upm_ne (by omega), upm_ne (by omega)]; exact h.2 o ho
def p85 (Q A _i : Nat) : Prop := (Q ≤ A ∧ A ≤ Q + 6) ∨ (19 ≤ A ∧ A ≤ 36)
theorem RdC.done {mem m : MM} {d : Int} {Q : Nat} (hR : Rdy mem) (h : RdC m) (hF : Frm (p85 Q) mem m) (eQ : Q = 38 + 7 * d.toNat) (hd : 1 ≤ d ∧ d ≤ 12) (dx : DrX m d Q) : Rdy m := h.y (ChtX.but (k := d.toNat) hR.2.1.2.2 (fun A i q => hF A i (by unfold p85; omega)) (by
  rw [← eQ, show ((d.toNat : Nat) : Int) = d by omega]
  exact dx))
theorem RdC.fws {m : MM} {d : Int} (h : RdC m) (hd : 1 ≤ d ∧ d ≤ 12) (q : upV (m 9 5) (m 9 6) ≤ d) (y : m 19 1 = d) : WyC (CPb m d) (WM m 20) (-100000) ∧ PrW (CPb m d) ∧ FwH (CPb m d).E (m 1 0).toNat := by
  have h8 := h.1.1.1
  have hN := h.noup (show 0 ≤ d by omega) q
  obtain ⟨z, w⟩ := h.2.1.2.resolve_left (by omega)
  rw [y] at w
  have hE : FwH (CPb m d).E (m 1 0).toNat := EdQ.fwh (by omega) (by omega) h.edv (fun j hj => by
    have g : Rg (m 10 j) (m 11 j) (m 12 j) (m 13 j) := h.1.2.1.1 j (by have := h.1.2.1.2; omega)
    unfold Rg at g
    exact ⟨g.2.2.1.2, g.2.2.2.1, g.2.2.2.2⟩) hN
  have pn : (CPb m d).n = (m 1 0).toNat := rfl
  refine ⟨fun a b ha hb => w a b (by omega) (by omega), ⟨(show 0 < d by omega), fun a b x g => ?_, fun u hu => ?_, hE.2.1⟩, hE⟩
  · have k := hE.2.2 a b x g
    exact ⟨k.1, k.2.2⟩
  · have := h.1.1.cn (o := u) hu
    show 0 ≤ m 8 u
    omega
set_option maxRecDepth 100000 in
theorem mt_10 : MT[10]? = some M_10 := rfl
set_option maxRecDepth 100000 in
theorem mt_11 : MT[11]? = some M_11 := rfl
set_option maxRecDepth 100000 in
theorem mt_69 : MT[69]? = some M_69 := rfl
set_option maxRecDepth 100000 in
theorem mt_73 : MT[73]? = some M_73 := rfl
set_option maxRecDepth 100000 in
theorem mt_85 : MT[85]? = some M_85 := rfl
set_option maxRecDepth 100000 in
theorem mt_115 : MT[115]? = some M_115 := rfl
theorem te_10_0 : (pT M_10).find? (fun e => e.1 == 0) = some (0, .aload_n 0, 0, 0) := rfl
theorem te_10_1 : (pT M_10).find? (fun e => e.1 == 1) = some (1, .invokevirtual 152, 11, 0) := rfl
theorem te_10_4 : (pT M_10).find? (fun e => e.1 == 4) = some (4, .aload_n 0, 0, 0) := rfl
theorem te_10_5 : (pT M_10).find? (fun e => e.1 == 5) = some (5, .getfield 155, 9, 10) := rfl
theorem te_10_8 : (pT M_10).find? (fun e => e.1 == 8) = some (8, .ireturn, 0, 0) := rfl
theorem te_11_0 : (pT M_11).find? (fun e => e.1 == 0) = some (0, .aload_n 0, 0, 0) := rfl
theorem te_11_1 : (pT M_11).find? (fun e => e.1 == 1) = some (1, .getfield 75, 9, 11) := rfl
theorem te_11_4 : (pT M_11).find? (fun e => e.1 == 4) = some (4, .ifCond .ne 4, 0, 0) := rfl
theorem te_11_7 : (pT M_11).find? (fun e => e.1 == 7) = some (7, .return_, 0, 0) := rfl
theorem te_11_8 : (pT M_11).find? (fun e => e.1 == 8) = some (8, .aload_n 0, 0, 0) := rfl
theorem te_11_9 : (pT M_11).find? (fun e => e.1 == 9) = some (9, .iconst 0, 0, 0) := rfl
theorem te_11_10 : (pT M_11).find? (fun e => e.1 == 10) = some (10, .putfield 75, 9, 11) := rfl
theorem te_11_13 : (pT M_11).find? (fun e => e.1 == 13) = some (13, .aload_n 0, 0, 0) := rfl
theorem te_11_14 : (pT M_11).find? (fun e => e.1 == 14) = some (14, .aload_n 0, 0, 0) := rfl
theorem te_11_15 : (pT M_11).find? (fun e => e.1 == 15) = some (15, .getfield 12, 9, 0) := rfl
theorem te_11_18 : (pT M_11).find? (fun e => e.1 == 18) = some (18, .invokevirtual 396, 12, 1) := rfl
theorem te_11_21 : (pT M_11).find? (fun e => e.1 == 21) = some (21, .putfield 155, 9, 10) := rfl
theorem te_11_24 : (pT M_11).find? (fun e => e.1 == 24) = some (24, .aload_n 0, 0, 0) := rfl
theorem te_11_25 : (pT M_11).find? (fun e => e.1 == 25) = some (25, .getfield 155, 9, 10) := rfl
theorem te_11_28 : (pT M_11).find? (fun e => e.1 == 28) = some (28, .ifCond .eq 29, 0, 0) := rfl
theorem te_11_31 : (pT M_11).find? (fun e => e.1 == 31) = some (31, .aload_n 0, 0, 0) := rfl
theorem te_11_32 : (pT M_11).find? (fun e => e.1 == 32) = some (32, .getfield 19, 9, 1) := rfl
theorem te_11_35 : (pT M_11).find? (fun e => e.1 == 35) = some (35, .aload_n 0, 0, 0) := rfl
theorem te_11_36 : (pT M_11).find? (fun e => e.1 == 36) = some (36, .getfield 12, 9, 0) := rfl
theorem te_11_39 : (pT M_11).find? (fun e => e.1 == 39) = some (39, .iconst (-1), 0, 0) := rfl
theorem te_11_40 : (pT M_11).find? (fun e => e.1 == 40) = some (40, .invokevirtual 352, 17, 1) := rfl
theorem te_11_43 : (pT M_11).find? (fun e => e.1 == 43) = some (43, .aload_n 0, 0, 0) := rfl
theorem te_11_44 : (pT M_11).find? (fun e => e.1 == 44) = some (44, .getfield 19, 9, 1) := rfl
theorem te_11_47 : (pT M_11).find? (fun e => e.1 == 47) = some (47, .aload_n 0, 0, 0) := rfl
theorem te_11_48 : (pT M_11).find? (fun e => e.1 == 48) = some (48, .getfield 12, 9, 0) := rfl
theorem te_11_51 : (pT M_11).find? (fun e => e.1 == 51) = some (51, .getfield 101, 0, 0) := rfl
theorem te_11_54 : (pT M_11).find? (fun e => e.1 == 54) = some (54, .invokevirtual 355, 26, 1) := rfl
theorem te_11_57 : (pT M_11).find? (fun e => e.1 == 57) = some (57, .aload_n 0, 0, 0) := rfl
theorem te_11_58 : (pT M_11).find? (fun e => e.1 == 58) = some (58, .getfield 29, 9, 3) := rfl
theorem te_11_61 : (pT M_11).find? (fun e => e.1 == 61) = some (61, .iconst 0, 0, 0) := rfl
theorem te_11_62 : (pT M_11).find? (fun e => e.1 == 62) = some (62, .putfield 400, 5, 1) := rfl
theorem te_11_65 : (pT M_11).find? (fun e => e.1 == 65) = some (65, .aload_n 0, 0, 0) := rfl
theorem te_11_66 : (pT M_11).find? (fun e => e.1 == 66) = some (66, .getfield 50, 9, 6) := rfl
theorem te_11_69 : (pT M_11).find? (fun e => e.1 == 69) = some (69, .iconst 0, 0, 0) := rfl
theorem te_11_70 : (pT M_11).find? (fun e => e.1 == 70) = some (70, .putfield 403, 2, 0) := rfl
theorem te_11_73 : (pT M_11).find? (fun e => e.1 == 73) = some (73, .iconst 0, 0, 0) := rfl
theorem te_11_74 : (pT M_11).find? (fun e => e.1 == 74) = some (74, .istore_n 1, 0, 0) := rfl
theorem te_11_75 : (pT M_11).find? (fun e => e.1 == 75) = some (75, .iload_n 1, 0, 0) := rfl
theorem te_11_76 : (pT M_11).find? (fun e => e.1 == 76) = some (76, .bipush 12, 0, 0) := rfl
theorem te_11_78 : (pT M_11).find? (fun e => e.1 == 78) = some (78, .if_icmp .gt 19, 0, 0) := rfl
theorem te_11_81 : (pT M_11).find? (fun e => e.1 == 81) = some (81, .aload_n 0, 0, 0) := rfl
theorem te_11_82 : (pT M_11).find? (fun e => e.1 == 82) = some (82, .getfield 42, 9, 5) := rfl
theorem te_11_85 : (pT M_11).find? (fun e => e.1 == 85) = some (85, .iload_n 1, 0, 0) := rfl
theorem te_11_86 : (pT M_11).find? (fun e => e.1 == 86) = some (86, .aaload, 0, 0) := rfl
theorem te_11_87 : (pT M_11).find? (fun e => e.1 == 87) = some (87, .iconst 0, 0, 0) := rfl
theorem te_11_88 : (pT M_11).find? (fun e => e.1 == 88) = some (88, .putfield 404, 1, 0) := rfl
theorem te_11_91 : (pT M_11).find? (fun e => e.1 == 91) = some (91, .iinc 1 1, 0, 0) := rfl
theorem te_11_94 : (pT M_11).find? (fun e => e.1 == 94) = some (94, .goto (-19), 0, 0) := rfl
theorem te_11_97 : (pT M_11).find? (fun e => e.1 == 97) = some (97, .return_, 0, 0) := rfl
theorem te_69_0 : (pT M_69).find? (fun e => e.1 == 0) = some (0, .aload_n 0, 0, 0) := rfl
theorem te_69_1 : (pT M_69).find? (fun e => e.1 == 1) = some (1, .invokevirtual 152, 11, 0) := rfl
theorem te_69_4 : (pT M_69).find? (fun e => e.1 == 4) = some (4, .aload_n 0, 0, 0) := rfl
theorem te_69_5 : (pT M_69).find? (fun e => e.1 == 5) = some (5, .getfield 155, 9, 10) := rfl
theorem te_69_8 : (pT M_69).find? (fun e => e.1 == 8) = some (8, .ifCond .ne 14, 0, 0) := rfl
theorem te_69_11 : (pT M_69).find? (fun e => e.1 == 11) = some (11, .new 105, 21, 1) := rfl
theorem te_69_22 : (pT M_69).find? (fun e => e.1 == 22) = some (22, .return_, 0, 0) := rfl
theorem te_73_0 : (pT M_73).find? (fun e => e.1 == 0) = some (0, .iload_n 1, 0, 0) := rfl
theorem te_73_1 : (pT M_73).find? (fun e => e.1 == 1) = some (1, .invokestatic 190, 74, 2) := rfl
theorem te_73_4 : (pT M_73).find? (fun e => e.1 == 4) = some (4, .aload_n 0, 0, 0) := rfl
theorem te_73_5 : (pT M_73).find? (fun e => e.1 == 5) = some (5, .invokevirtual 158, 69, 0) := rfl
theorem te_73_8 : (pT M_73).find? (fun e => e.1 == 8) = some (8, .iload_n 1, 0, 0) := rfl
theorem te_73_9 : (pT M_73).find? (fun e => e.1 == 9) = some (9, .aload_n 0, 0, 0) := rfl
theorem te_73_10 : (pT M_73).find? (fun e => e.1 == 10) = some (10, .getfield 19, 9, 1) := rfl
theorem te_73_13 : (pT M_73).find? (fun e => e.1 == 13) = some (13, .invokevirtual 224, 32, 1) := rfl
theorem te_73_16 : (pT M_73).find? (fun e => e.1 == 16) = some (16, .if_icmp .ge 14, 0, 0) := rfl
theorem te_73_19 : (pT M_73).find? (fun e => e.1 == 19) = some (19, .new 105, 22, 1) := rfl
theorem te_73_30 : (pT M_73).find? (fun e => e.1 == 30) = some (30, .aload_n 0, 0, 0) := rfl
theorem te_73_31 : (pT M_73).find? (fun e => e.1 == 31) = some (31, .getfield 29, 9, 3) := rfl
theorem te_73_34 : (pT M_73).find? (fun e => e.1 == 34) = some (34, .aload_n 0, 0, 0) := rfl
theorem te_73_35 : (pT M_73).find? (fun e => e.1 == 35) = some (35, .getfield 12, 9, 0) := rfl
theorem te_73_38 : (pT M_73).find? (fun e => e.1 == 38) = some (38, .aload_n 0, 0, 0) := rfl
theorem te_73_39 : (pT M_73).find? (fun e => e.1 == 39) = some (39, .getfield 19, 9, 1) := rfl
theorem te_73_42 : (pT M_73).find? (fun e => e.1 == 42) = some (42, .iload_n 1, 0, 0) := rfl
theorem te_73_43 : (pT M_73).find? (fun e => e.1 == 43) = some (43, .invokevirtual 234, 75, 1) := rfl
theorem te_73_46 : (pT M_73).find? (fun e => e.1 == 46) = some (46, .return_, 0, 0) := rfl
theorem te_85_0 : (pT M_85).find? (fun e => e.1 == 0) = some (0, .aload_n 0, 0, 0) := rfl
theorem te_85_1 : (pT M_85).find? (fun e => e.1 == 1) = some (1, .getfield 42, 9, 5) := rfl
theorem te_85_4 : (pT M_85).find? (fun e => e.1 == 4) = some (4, .iload_n 1, 0, 0) := rfl
theorem te_85_5 : (pT M_85).find? (fun e => e.1 == 5) = some (5, .aaload, 0, 0) := rfl
theorem te_85_6 : (pT M_85).find? (fun e => e.1 == 6) = some (6, .astore_n 2, 0, 0) := rfl
theorem te_85_7 : (pT M_85).find? (fun e => e.1 == 7) = some (7, .aload_n 2, 0, 0) := rfl
theorem te_85_8 : (pT M_85).find? (fun e => e.1 == 8) = some (8, .getfield 404, 1, 0) := rfl
theorem te_85_11 : (pT M_85).find? (fun e => e.1 == 11) = some (11, .ifCond .ne 108, 0, 0) := rfl
theorem te_85_14 : (pT M_85).find? (fun e => e.1 == 14) = some (14, .aload_n 2, 0, 0) := rfl
theorem te_85_15 : (pT M_85).find? (fun e => e.1 == 15) = some (15, .iconst 1, 0, 0) := rfl
theorem te_85_16 : (pT M_85).find? (fun e => e.1 == 16) = some (16, .putfield 404, 1, 0) := rfl
theorem te_85_19 : (pT M_85).find? (fun e => e.1 == 19) = some (19, .aload_n 2, 0, 0) := rfl
theorem te_85_20 : (pT M_85).find? (fun e => e.1 == 20) = some (20, .iconst 0, 0, 0) := rfl
theorem te_85_21 : (pT M_85).find? (fun e => e.1 == 21) = some (21, .putfield 197, 1, 1) := rfl
theorem te_85_24 : (pT M_85).find? (fun e => e.1 == 24) = some (24, .iload_n 1, 0, 0) := rfl
theorem te_85_25 : (pT M_85).find? (fun e => e.1 == 25) = some (25, .aload_n 0, 0, 0) := rfl
theorem te_85_26 : (pT M_85).find? (fun e => e.1 == 26) = some (26, .getfield 19, 9, 1) := rfl
theorem te_85_29 : (pT M_85).find? (fun e => e.1 == 29) = some (29, .invokevirtual 224, 32, 1) := rfl
theorem te_85_32 : (pT M_85).find? (fun e => e.1 == 32) = some (32, .if_icmp .lt 60, 0, 0) := rfl
theorem te_85_35 : (pT M_85).find? (fun e => e.1 == 35) = some (35, .aload_n 0, 0, 0) := rfl
theorem te_85_36 : (pT M_85).find? (fun e => e.1 == 36) = some (36, .getfield 29, 9, 3) := rfl
theorem te_85_39 : (pT M_85).find? (fun e => e.1 == 39) = some (39, .aload_n 0, 0, 0) := rfl
theorem te_85_40 : (pT M_85).find? (fun e => e.1 == 40) = some (40, .getfield 12, 9, 0) := rfl
theorem te_85_43 : (pT M_85).find? (fun e => e.1 == 43) = some (43, .aload_n 0, 0, 0) := rfl
theorem te_85_44 : (pT M_85).find? (fun e => e.1 == 44) = some (44, .getfield 19, 9, 1) := rfl
theorem te_85_47 : (pT M_85).find? (fun e => e.1 == 47) = some (47, .iload_n 1, 0, 0) := rfl
theorem te_85_48 : (pT M_85).find? (fun e => e.1 == 48) = some (48, .invokevirtual 234, 75, 1) := rfl
theorem te_85_51 : (pT M_85).find? (fun e => e.1 == 51) = some (51, .aload_n 2, 0, 0) := rfl
theorem te_85_52 : (pT M_85).find? (fun e => e.1 == 52) = some (52, .aload_n 0, 0, 0) := rfl
theorem te_85_53 : (pT M_85).find? (fun e => e.1 == 53) = some (53, .getfield 36, 9, 4) := rfl
theorem te_85_56 : (pT M_85).find? (fun e => e.1 == 56) = some (56, .aload_n 0, 0, 0) := rfl
theorem te_85_57 : (pT M_85).find? (fun e => e.1 == 57) = some (57, .getfield 12, 9, 0) := rfl
theorem te_85_60 : (pT M_85).find? (fun e => e.1 == 60) = some (60, .iload_n 1, 0, 0) := rfl
theorem te_85_61 : (pT M_85).find? (fun e => e.1 == 61) = some (61, .invokevirtual 407, 86, 1) := rfl
theorem te_85_64 : (pT M_85).find? (fun e => e.1 == 64) = some (64, .ifCond .eq 24, 0, 0) := rfl
theorem te_85_67 : (pT M_85).find? (fun e => e.1 == 67) = some (67, .aload_n 0, 0, 0) := rfl
theorem te_85_68 : (pT M_85).find? (fun e => e.1 == 68) = some (68, .getfield 36, 9, 4) := rfl
theorem te_85_71 : (pT M_85).find? (fun e => e.1 == 71) = some (71, .aload_n 0, 0, 0) := rfl
theorem te_85_72 : (pT M_85).find? (fun e => e.1 == 72) = some (72, .getfield 29, 9, 3) := rfl
theorem te_85_75 : (pT M_85).find? (fun e => e.1 == 75) = some (75, .getfield 179, 5, 2) := rfl
theorem te_85_78 : (pT M_85).find? (fun e => e.1 == 78) = some (78, .invokevirtual 411, 103, 1) := rfl
theorem te_85_81 : (pT M_85).find? (fun e => e.1 == 81) = some (81, .ifCond .eq 7, 0, 0) := rfl
theorem te_85_84 : (pT M_85).find? (fun e => e.1 == 84) = some (84, .iconst 1, 0, 0) := rfl
theorem te_85_85 : (pT M_85).find? (fun e => e.1 == 85) = some (85, .goto 4, 0, 0) := rfl
theorem te_85_88 : (pT M_85).find? (fun e => e.1 == 88) = some (88, .iconst 0, 0, 0) := rfl
theorem te_85_89 : (pT M_85).find? (fun e => e.1 == 89) = some (89, .putfield 197, 1, 1) := rfl
theorem te_85_92 : (pT M_85).find? (fun e => e.1 == 92) = some (92, .aload_n 2, 0, 0) := rfl
theorem te_85_93 : (pT M_85).find? (fun e => e.1 == 93) = some (93, .getfield 197, 1, 1) := rfl
theorem te_85_96 : (pT M_85).find? (fun e => e.1 == 96) = some (96, .ifCond .eq 23, 0, 0) := rfl
theorem te_85_99 : (pT M_85).find? (fun e => e.1 == 99) = some (99, .aload_n 2, 0, 0) := rfl
theorem te_85_100 : (pT M_85).find? (fun e => e.1 == 100) = some (100, .aload_n 0, 0, 0) := rfl
theorem te_85_101 : (pT M_85).find? (fun e => e.1 == 101) = some (101, .getfield 12, 9, 0) := rfl
theorem te_85_104 : (pT M_85).find? (fun e => e.1 == 104) = some (104, .aload_n 0, 0, 0) := rfl
theorem te_85_105 : (pT M_85).find? (fun e => e.1 == 105) = some (105, .getfield 19, 9, 1) := rfl
theorem te_85_108 : (pT M_85).find? (fun e => e.1 == 108) = some (108, .aload_n 0, 0, 0) := rfl
theorem te_85_109 : (pT M_85).find? (fun e => e.1 == 109) = some (109, .getfield 36, 9, 4) := rfl
theorem te_85_112 : (pT M_85).find? (fun e => e.1 == 112) = some (112, .getfield 415, 6, 5) := rfl
theorem te_85_115 : (pT M_85).find? (fun e => e.1 == 115) = some (115, .iload_n 1, 0, 0) := rfl
theorem te_85_116 : (pT M_85).find? (fun e => e.1 == 116) = some (116, .invokevirtual 416, 106, 1) := rfl
theorem te_85_119 : (pT M_85).find? (fun e => e.1 == 119) = some (119, .aload_n 2, 0, 0) := rfl
theorem te_85_120 : (pT M_85).find? (fun e => e.1 == 120) = some (120, .areturn, 0, 0) := rfl
theorem te_115_0 : (pT M_115).find? (fun e => e.1 == 0) = some (0, .iload_n 1, 0, 0) := rfl
theorem te_115_1 : (pT M_115).find? (fun e => e.1 == 1) = some (1, .invokestatic 190, 74, 2) := rfl
theorem te_115_4 : (pT M_115).find? (fun e => e.1 == 4) = some (4, .aload_n 0, 0, 0) := rfl
theorem te_115_5 : (pT M_115).find? (fun e => e.1 == 5) = some (5, .invokevirtual 158, 69, 0) := rfl
theorem te_115_8 : (pT M_115).find? (fun e => e.1 == 8) = some (8, .aload_n 0, 0, 0) := rfl
theorem te_115_9 : (pT M_115).find? (fun e => e.1 == 9) = some (9, .iload_n 1, 0, 0) := rfl
theorem te_115_10 : (pT M_115).find? (fun e => e.1 == 10) = some (10, .invokevirtual 193, 85, 0) := rfl
theorem te_115_13 : (pT M_115).find? (fun e => e.1 == 13) = some (13, .astore_n 2, 0, 0) := rfl
theorem te_115_14 : (pT M_115).find? (fun e => e.1 == 14) = some (14, .aload_n 2, 0, 0) := rfl
theorem te_115_15 : (pT M_115).find? (fun e => e.1 == 15) = some (15, .getfield 197, 1, 1) := rfl
theorem te_115_18 : (pT M_115).find? (fun e => e.1 == 18) = some (18, .ifCond .ne 14, 0, 0) := rfl
theorem te_115_21 : (pT M_115).find? (fun e => e.1 == 21) = some (21, .new 105, 20, 1) := rfl
theorem te_115_32 : (pT M_115).find? (fun e => e.1 == 32) = some (32, .aload_n 2, 0, 0) := rfl
theorem te_115_33 : (pT M_115).find? (fun e => e.1 == 33) = some (33, .areturn, 0, 0) := rfl
theorem f_11 {S : Nat × (Nat → Int32)} {n : Nat} {mem : MM} {K : MM → Prop} {E : Nat → MM → Prop} (hI : ClS mem) (H : ∀ m', RfD m' → Frm pNb mem m' → K m') : CQV (Ex S (n + 13)) 11 [.inr 0] mem K E := by
  refine CY.of (k := 1) mt_11 rfl rfl (fun hv => ?_)
  have hC := Ex.mono S (n + 12)
  clear hv
  have h8 := hI.1.b.1
  have hst := hI.1.st
  show Tx (Ex S (n + 12)) S M_11 (kV K E) 0 0 0 [some (.inr 0), none] [] mem
  have l_75 : ∀ (N : Nat) (x1 : Int) (m_75 : MM), (0 ≤ x1) → (RfC m_75) → (m_75 19 1 = 0) → (∀ k : Nat, (k : Int) < x1 → m_75 (38 + 7 * k) 0 = 0) → ((13 - x1).toNat) < N → Frm pNb mem m_75 → Tx (Ex S (n + 12)) S M_11 (kV K E) 0 0 75 [some (.inr 0), some (.inl x1)] [] m_75 := by
    intro N
    induction N with
    | zero => intros; omega
    | succ N ih_75 =>
      intro x1 m_75 i75_0 i75_1 i75_2 i75_3 hN_75 hF_75
      refine Tx.iload_n hC te_11_75 rfl ?_
      refine Tx.bipush hC te_11_76 rfl rfl ?_
      refine Tx.icmp hC (t := 97) te_11_78 (by decide) (fun q1 => ?_) (fun q1 => ?_)
      · replace q1 : 12 < (x1 : Int) := q1
        exact Tx.vret hC te_11_97 rfl (show K m_75 from H _ ⟨i75_1, fun _ => ⟨Or.inl i75_2, fun k k1 k2 z => absurd (i75_3 k (by omega)) z⟩⟩ hF_75)
      · replace q1 : ¬ (12 < (x1 : Int)) := q1
        refine Tx.aload_n hC te_11_81 rfl ?_
        refine Tx.getR hC te_11_82 rfl rfl rfl ?_
        refine Tx.iload_n hC te_11_85 rfl ?_
        refine Tx.aaldC hC te_11_86 (by omega) (fun Q eQ => ?_)
        have hQ : ChSh Q := ChSh.mk eQ (by omega)
        have hq8 := hQ.rg
        refine Tx.iconst hC te_11_87 rfl ?_
        refine Tx.putB hC te_11_88 hQ.s0 rfl rfl rfl (by omega) ?_
        have m2e : (upm m_75 Q 0 0) Q 0 = 0 := upm_eq
        have m2n : ∀ B j, ¬ (B = Q ∧ j = 0) → (upm m_75 Q 0 0) B j = m_75 B j := fun B j q => upm_ne q
        have hF3 : Frm pNb mem (upm m_75 Q 0 0) := Frm.up hF_75 (by unfold pNb; omega)
        have hI4 := RfC.e_try (m' := upm m_75 Q 0 0) hQ i75_1 (up1F (by unfold pQ0; omega))
        have hZ5 : (upm m_75 Q 0 0) 19 1 = 0 := by rw [upm_ne (by omega)]; exact i75_2
        generalize upm m_75 Q 0 0 = m2 at hF3 hI4 hZ5 m2e m2n ⊢
        refine Tx.iincW hC te_11_91 rfl rfl (fun z6 z6i z6e => ?_)
        unfold InI at z6i z6e
        first | replace z6e := z6e (by omega) | clear z6e
        refine Tx.goto hC (t := 75) te_11_94 (by decide) ?_
        exact ih_75 z6 m2 (by omega) (hI4) (hZ5) (by
          intro k hk
          first
          | (exfalso; omega)
          | (by_cases q : (k : Int) < x1
             · rw [m2n _ _ (by omega)]; exact i75_3 k q
             · rw [show 38 + 7 * k = Q by omega]; exact m2e)) (by omega) hF3
  refine Tx.aload_n hC te_11_0 rfl ?_
  refine Tx.getI hC te_11_1 rfl rfl rfl (fun v7 v7e v7i => ?_)
  unfold InI at v7i
  refine Tx.ifc hC (t := 8) te_11_4 (by decide) (fun q8 => ?_) (fun q8 => ?_)
  · replace q8 : ¬ (v7 : Int) = 0 := q8
    refine Tx.aload_n hC te_11_8 rfl ?_
    refine Tx.iconst hC te_11_9 rfl ?_
    refine Tx.putB hC te_11_10 rfl rfl rfl rfl (by omega) ?_
    have hF10 : Frm pNb mem (upm mem 0 11 0) := Frm.up Frm.rf (by unfold pNb; omega)
    have hJ11 := CJ.e_st (m' := upm mem 0 11 0) hI.1 (up1F (by unfold p11; omega)) (by rw [upm_eq]; omega)
    have hZ12 : (upm mem 0 11 0) 0 11 = 0 := upm_eq
    generalize upm mem 0 11 0 = m9 at hF10 hJ11 hZ12 ⊢
    refine Tx.aload_n hC te_11_13 rfl ?_
    refine Tx.aload_n hC te_11_14 rfl ?_
    refine Tx.getR hC te_11_15 rfl rfl rfl ?_
    refine Tx.virtI hC te_11_18 mt_12 (args := [.inr 1]) (rest := [.inr 0]) (c' := 0) (s' := 0) rfl rfl rfl rfl rfl rfl rfl rfl rfl rfl ?_
    refine f_12x hJ11.b (fun r14 r14b r14s r14i => ?_)
    have r14n : r14 = 1 → Snd mem := fun q => (r14s.mp q).snd.fr (fun A i a b => (hF10 A i (by unfold pNb; omega)).symm)
    unfold InI at r14i
    refine Tx.putB hC te_11_21 rfl rfl rfl rfl (by omega) ?_
    have hF18 : Frm pNb mem (upm m9 0 10 r14) := Frm.up hF10 (by unfold pNb; omega)
    have hJ19 := CJ.e_so (m' := upm m9 0 10 r14) hJ11 (up1F (by unfold p10; omega)) (by rw [upm_eq]; omega)
    have hZ20 : (upm m9 0 10 r14) 0 11 = 0 := by rw [upm_ne (by omega)]; exact hZ12
    have hT21 : (upm m9 0 10 r14) 0 10 = r14 := upm_eq
    have hX22 : (upm m9 0 10 r14) 0 10 = 1 ↔ SndX (upm m9 0 10 r14) := by rw [hT21]; exact r14s.trans (SndX.iff (fun A i a b => upm_ne (by omega)))
    generalize upm m9 0 10 r14 = m17 at hF18 hJ19 hZ20 hT21 hX22 ⊢
    refine Tx.aload_n hC te_11_24 rfl ?_
    refine Tx.getI hC te_11_25 rfl rfl rfl (fun v23 v23e v23i => ?_)
    unfold InI at v23i
    have f24 := hT21
    refine Tx.ifc hC (t := 57) te_11_28 (by decide) (fun q25 => ?_) (fun q25 => ?_)
    · replace q25 : (v23 : Int) = 0 := q25
      refine Tx.aload_n hC te_11_57 rfl ?_
      refine Tx.getR hC te_11_58 rfl rfl rfl ?_
      refine Tx.iconst hC te_11_61 rfl ?_
      refine Tx.putI hC te_11_62 rfl rfl rfl rfl ?_
      have hF27 : Frm pNb mem (upm m17 19 1 0) := Frm.up hF18 (by unfold pNb; omega)
      have hI28 : RfC m17 := ⟨hJ19, hZ20, (fun z => absurd z (by omega)), hX22⟩
      have hI29 := RfC.e_rs (m' := upm m17 19 1 0) hI28 (up1F (by unfold p191; omega))
      have hZ30 : (upm m17 19 1 0) 19 1 = 0 := upm_eq
      generalize upm m17 19 1 0 = m26 at hF27 hI29 hZ30 ⊢
      refine Tx.aload_n hC te_11_65 rfl ?_
      refine Tx.getR hC te_11_66 rfl rfl rfl ?_
      refine Tx.iconst hC te_11_69 rfl ?_
      refine Tx.putI hC te_11_70 rfl rfl rfl rfl ?_
      have hF32 : Frm pNb mem (upm m26 129 0 0) := Frm.up hF27 (by unfold pNb; omega)
      have hI33 := RfC.e_h0 (m' := upm m26 129 0 0) hI29 (up1F (by unfold p129; omega)) (by rw [upm_eq]; omega)
      have hZ34 : (upm m26 129 0 0) 19 1 = 0 := by rw [upm_ne (by omega)]; exact hZ30
      generalize upm m26 129 0 0 = m31 at hF32 hI33 hZ34 ⊢
      refine Tx.iconst hC te_11_73 rfl ?_
      refine Tx.istore_n hC te_11_74 rfl ?_
      exact l_75 _ 0 m31 (by omega) (hI33) (hZ34) (by
        intro k hk
        first
        | (exfalso; omega)
        | (by_cases q : (k : Int) < x1
           · rw [m31n _ _ (by omega)]; exact i75_3 k q
           · rw [show 38 + 7 * k = Q by omega]; exact m31e)) (Nat.lt_succ_self _) hF32
    · replace q25 : ¬ ((v23 : Int) = 0) := q25
      refine Tx.aload_n hC te_11_31 rfl ?_
      refine Tx.getR hC te_11_32 rfl rfl rfl ?_
      refine Tx.aload_n hC te_11_35 rfl ?_
      refine Tx.getR hC te_11_36 rfl rfl rfl ?_
      refine Tx.iconst hC te_11_39 rfl ?_
      refine Tx.virtV hC te_11_40 mt_17 (args := [.inr 9, .inr 1, .inl (-1)]) (rest := []) (c' := 0) (s' := 0) rfl rfl rfl rfl rfl rfl rfl rfl rfl rfl ?_
      refine CWV.q hC (f_17e (W := 9) ⟨rfl, rfl, rfl, rfl, rfl⟩ (Or.inl rfl) hJ19.b hJ19.w.1 (fun m36 hF37w r35O r35q r35E => ?_))
      have hF37 : Frm p9w m17 m36 := fun A i q => hF37w A i (by unfold p9w at q; omega) (by unfold p9w at q; omega)
      have r35J := CJ.e_wv hJ19 hF37 r35O
      have r35Z : m36 0 11 = 0 := by rw [hF37 0 11 (by unfold p9w; omega)]; exact hZ20
      have r35n : Snd m17 := (r14n (by omega)).fr (fun A i a b => hF18 A i (by unfold pNb; omega))
      have r35V : WbY m36 := ⟨fun j hj => by have := NdC.lt r35n (r35E.2.1 j (by omega)); rw [hF37 1 0 (by unfold p9w; omega)]; exact this, r35E.cg rfl (fun _ _ => rfl) (fun x => (NdC.fr (fun A i a b c => hF37 A i (by unfold p9w; omega))).symm)⟩
      have r35X := SX.fr hX22 (hF37 0 10 (by unfold p9w; omega)) (fun A i a b => hF37 A i (by unfold p9w; omega))
      have hF37n : Frm pNb mem m36 := hF18.tr (hF37.mono (fun A i q => by unfold p9w at q; unfold pNb; omega))
      refine Tx.aload_n hC te_11_43 rfl ?_
      refine Tx.getR hC te_11_44 rfl rfl rfl ?_
      refine Tx.aload_n hC te_11_47 rfl ?_
      refine Tx.getR hC te_11_48 rfl rfl rfl ?_
      refine Tx.getI hC te_11_51 rfl rfl rfl (fun v38 v38e v38i => ?_)
      unfold InI at v38i
      rw [hF37n 1 _ (by unfold pNb; omega)] at v38e
      refine Tx.virtV hC te_11_54 mt_26 (args := [.inr 9, .inl v38]) (rest := []) (c' := 0) (s' := 0) rfl rfl rfl rfl rfl rfl rfl rfl rfl rfl ?_
      refine CWV.q hC (f_26e (W := 9) ⟨rfl, rfl, rfl, rfl, rfl⟩ r35J.w (by omega) (fun m40 hF41 r39t r39w => ?_))
      have r39J := CJ.e_wg r35J hF41
      have r39Z : m40 0 11 = 0 := by rw [hF41 0 11 (by omega)]; exact r35Z
      have r39y := WbY.fr r35V (fun A i q => hF41 A i (by omega))
      have r39c : cwq m40 9 = cwq m36 9 := funext (fun i => by unfold cwq; rw [hF41 (9 + 1) i (by omega), hF41 (9 + 2) i (by omega), hF41 (9 + 3) i (by omega), hF41 (9 + 4) i (by omega)])
      have r39x : RtX m40 := by
        refine ⟨r39t, ?_⟩
        rw [r39c, hF41 9 0 (by omega), hF41 1 0 (by omega), hF37n 1 0 (by unfold pNb; omega), show mem 1 0 = v38 by omega]
        exact r39w
      have r39V : m40 0 10 = 1 → WbX m40 := fun _ => ⟨r39y.1, r39y.2, r39x⟩
      have r39X := SX.fr r35X (hF41 0 10 (by omega)) (fun A i a b => hF41 A i (by omega))
      have hF41n : Frm pNb mem m40 := hF37n.tr (Frm.mono (P := pW9c) hF41 (fun A i q => by unfold pW9c at q; unfold pNb; omega))
      refine Tx.aload_n hC te_11_57 rfl ?_
      refine Tx.getR hC te_11_58 rfl rfl rfl ?_
      refine Tx.iconst hC te_11_61 rfl ?_
      refine Tx.putI hC te_11_62 rfl rfl rfl rfl ?_
      have hF43 : Frm pNb mem (upm m40 19 1 0) := Frm.up hF41n (by unfold pNb; omega)
      have hI44 : RfC m40 := ⟨r39J, r39Z, r39V, r39X⟩
      have hI45 := RfC.e_rs (m' := upm m40 19 1 0) hI44 (up1F (by unfold p191; omega))
      have hZ46 : (upm m40 19 1 0) 19 1 = 0 := upm_eq
      generalize upm m40 19 1 0 = m42 at hF43 hI45 hZ46 ⊢
      refine Tx.aload_n hC te_11_65 rfl ?_
      refine Tx.getR hC te_11_66 rfl rfl rfl ?_
      refine Tx.iconst hC te_11_69 rfl ?_
      refine Tx.putI hC te_11_70 rfl rfl rfl rfl ?_
      have hF48 : Frm pNb mem (upm m42 129 0 0) := Frm.up hF43 (by unfold pNb; omega)
      have hI49 := RfC.e_h0 (m' := upm m42 129 0 0) hI45 (up1F (by unfold p129; omega)) (by rw [upm_eq]; omega)
      have hZ50 : (upm m42 129 0 0) 19 1 = 0 := by rw [upm_ne (by omega)]; exact hZ46
      generalize upm m42 129 0 0 = m47 at hF48 hI49 hZ50 ⊢
      refine Tx.iconst hC te_11_73 rfl ?_
      refine Tx.istore_n hC te_11_74 rfl ?_
      exact l_75 _ 0 m47 (by omega) (hI49) (hZ50) (by
        intro k hk
        first
        | (exfalso; omega)
        | (by_cases q : (k : Int) < x1
           · rw [m47n _ _ (by omega)]; exact i75_3 k q
           · rw [show 38 + 7 * k = Q by omega]; exact m47e)) (Nat.lt_succ_self _) hF48
  · replace q8 : ¬ (¬ (v7 : Int) = 0) := q8
    exact Tx.vret hC te_11_7 rfl (show K mem from H _ ⟨⟨hI.1, by omega, fun q => (hI.2.1 (by omega) q).1, hI.2.2 (by omega)⟩, fun q => (hI.2.1 (by omega) q).2⟩ Frm.rf)
theorem f_69 {S : Nat × (Nat → Int32)} {n : Nat} {mem : MM} {K : MM → Prop} {E : Nat → MM → Prop} (hI : ClS mem) (H : ∀ m', Rdy m' → Frm pNb mem m' → K m') (HE : ∀ m', ClS m' → Frm pNb mem m' → E 1 m') : CQV (Ex S (n + 14)) 69 [.inr 0] mem K E := by
  refine CY.of (k := 0) mt_69 rfl rfl (fun hv => ?_)
  have hC := Ex.mono S (n + 13)
  clear hv
  show Tx (Ex S (n + 13)) S M_69 (kV K E) 0 0 0 [some (.inr 0)] [] mem
  refine Tx.aload_n hC te_69_0 rfl ?_
  refine Tx.virtV hC te_69_1 mt_11 (args := [.inr 0]) (rest := []) (c' := 0) (s' := 0) rfl rfl rfl rfl rfl rfl rfl rfl rfl rfl ?_
  refine f_11 hI (fun m2 r1I hF3 => ?_)
  have hF3n : Frm pNb mem m2 := Frm.rf.tr hF3
  refine Tx.aload_n hC te_69_4 rfl ?_
  refine Tx.getI hC te_69_5 rfl rfl rfl (fun v4 v4e v4i => ?_)
  unfold InI at v4i
  have f5 := r1I.1.1.so
  refine Tx.ifc hC (t := 22) te_69_8 (by decide) (fun q6 => ?_) (fun q6 => ?_)
  · replace q6 : ¬ (v4 : Int) = 0 := q6
    exact Tx.vret hC te_69_22 rfl (show K m2 from H _ (r1I.rdy (by omega)) hF3n)
  · replace q6 : ¬ (¬ (v4 : Int) = 0) := q6
    exact Tx.thr hC te_69_11 rfl rfl rfl rfl rfl (show E 1 m2 from HE _ r1I.cs hF3n)
theorem f_10 {S : Nat × (Nat → Int32)} {n : Nat} {mem : MM} {K : Int → MM → Prop} {E : Nat → MM → Prop} (hI : ClS mem) (H : ∀ r m', ClS m' → Frm pNb mem m' → K r m') : CQI (Ex S (n + 14)) 10 [.inr 0] mem K E := by
  refine CY.of (k := 0) mt_10 rfl rfl (fun hv => ?_)
  have hC := Ex.mono S (n + 13)
  clear hv
  show Tx (Ex S (n + 13)) S M_10 (kI K E) 0 0 0 [some (.inr 0)] [] mem
  refine Tx.aload_n hC te_10_0 rfl ?_
  refine Tx.virtV hC te_10_1 mt_11 (args := [.inr 0]) (rest := []) (c' := 0) (s' := 0) rfl rfl rfl rfl rfl rfl rfl rfl rfl rfl ?_
  refine f_11 hI (fun m2 r1I hF3 => ?_)
  have hF3n : Frm pNb mem m2 := Frm.rf.tr hF3
  refine Tx.aload_n hC te_10_4 rfl ?_
  refine Tx.getI hC te_10_5 rfl rfl rfl (fun v4 v4e v4i => ?_)
  unfold InI at v4i
  have f5 := r1I.1.1.so
  exact Tx.bret hC te_10_8 rfl (by omega) (show K v4 m2 from H _ _ r1I.cs hF3n)
set_option maxHeartbeats 1000000 in
theorem f_85 {S : Nat × (Nat → Int32)} {n : Nat} {mem : MM} {K : Nat → MM → Prop} {E : Nat → MM → Prop} (hR : Rdy mem) {d : Int} (hd : 1 ≤ d ∧ d ≤ 12) (H : ∀ Q m', ChSh Q → Q = 38 + 7 * d.toNat → Rdy m' → Frm pNb mem m' → Frm (p85 Q) mem m' → DrX m' d Q → K Q m') : CQR (Ex S (n + 15)) 85 [.inr 0, .inl d] mem K E := by
  refine CY.of (k := 1) mt_85 rfl rfl (fun hv => ?_)
  have hC := Ex.mono S (n + 14)
  have ii_d : InI d := hv (.inl d) (by simp)
  unfold InI at ii_d
  clear hv
  show Tx (Ex S (n + 14)) S M_85 (kR K E) 0 0 0 [some (.inr 0), some (.inl d), none] [] mem
  refine Tx.aload_n hC te_85_0 rfl ?_
  refine Tx.getR hC te_85_1 rfl rfl rfl ?_
  refine Tx.iload_n hC te_85_4 rfl ?_
  refine Tx.aaldC hC te_85_5 (by omega) (fun Q eQ => ?_)
  have hQ : ChSh Q := ChSh.mk eQ (by omega)
  have hq8 := hQ.rg
  refine Tx.astore_n hC te_85_6 rfl ?_
  refine Tx.aload_n hC te_85_7 rfl ?_
  refine Tx.getI hC te_85_8 hQ.s0 rfl rfl (fun v1 v1e v1i => ?_)
  unfold InI at v1i
  refine Tx.ifc hC (t := 119) te_85_11 (by decide) (fun q2 => ?_) (fun q2 => ?_)
  · replace q2 : ¬ (v1 : Int) = 0 := q2
    refine Tx.aload_n hC te_85_119 rfl ?_
    exact Tx.aret hC te_85_120 rfl (show K Q mem from (by
      have w := hR.2.1.2.2 d.toNat (by omega) (by omega) (by rw [← eQ]; omega)
      rw [← eQ, show ((d.toNat : Nat) : Int) = d by omega] at w
      exact H _ _ hQ eQ hR Frm.rf Frm.rf w))
  · replace q2 : ¬ (¬ (v1 : Int) = 0) := q2
    refine Tx.aload_n hC te_85_14 rfl ?_
    refine Tx.iconst hC te_85_15 rfl ?_
    refine Tx.putB hC te_85_16 hQ.s0 rfl rfl rfl (by omega) ?_
    have hF4 : Frm (p85 Q) mem (upm mem Q 0 1) := Frm.up Frm.rf (by unfold p85; omega)
    have hR5 := RdC.e_try (m' := upm mem Q 0 1) hQ hR.c (up1F (by unfold pQ0; omega))
    refine Tx.aload_n hC te_85_19 rfl ?_
    refine Tx.iconst hC te_85_20 rfl ?_
    refine Tx.putB hC te_85_21 hQ.s0 rfl rfl rfl (by omega) ?_
    have hF7 : Frm (p85 Q) mem (upm (upm mem Q 0 1) Q 1 0) := Frm.up hF4 (by unfold p85; omega)
    have hR8 := RdC.e_fit (m' := upm (upm mem Q 0 1) Q 1 0) hQ hR5 (up1F (by unfold pQ1; omega)) (ChtOK.up1 (hR5.1.ch Q hQ) (by omega))
    refine Tx.iload_n hC te_85_24 rfl ?_
    refine Tx.aload_n hC te_85_25 rfl ?_
    refine Tx.getR hC te_85_26 rfl rfl rfl ?_
    refine Tx.virtI hC te_85_29 mt_32 (args := [.inr 9]) (rest := [.inl d]) (c' := 0) (s' := 0) rfl rfl rfl rfl rfl rfl rfl rfl rfl rfl ?_
    refine f_32x (W := 9) ⟨rfl, rfl, rfl, rfl, rfl⟩ hR8.2.2.2.1.2.2.1 (fun r9 r9e r9a r9b r9i => ?_)
    have ru : r9 = upV (mem 9 5) (mem 9 6) := by rw [r9e, hF7 9 5 (by unfold p85; omega), hF7 9 6 (by unfold p85; omega)]
    unfold InI at r9i
    refine Tx.icmp hC (t := 92) te_85_32 (by decide) (fun q12 => ?_) (fun q12 => ?_)
    · replace q12 : (d : Int) < r9 := q12
      refine Tx.aload_n hC te_85_92 rfl ?_
      refine Tx.getI hC te_85_93 hQ.s0 rfl rfl (fun v13 v13e v13i => ?_)
      rw [upm_eq] at v13e
      subst v13e
      clear v13i
      refine Tx.ifc hC (t := 119) te_85_96 (by decide) (fun q => ?_) (fun q => absurd (show (0 : Int) = 0 by decide) q)
      refine Tx.aload_n hC te_85_119 rfl ?_
      exact Tx.aret hC te_85_120 rfl (show K Q (upm (upm mem Q 0 1) Q 1 0) from (by
        have dx : DrX (upm (upm mem Q 0 1) Q 1 0) d Q := Or.inl ⟨upm_eq, Or.inl (by omega)⟩
        exact H _ _ hQ eQ (RdC.done hR hR8 hF7 eQ hd dx) (hF7.mono (fun A i q => by unfold p85 at q; unfold pNb; omega)) hF7 dx))
    · replace q12 : ¬ ((d : Int) < r9) := q12
      refine Tx.aload_n hC te_85_35 rfl ?_
      refine Tx.getR hC te_85_36 rfl rfl rfl ?_
      refine Tx.aload_n hC te_85_39 rfl ?_
      refine Tx.getR hC te_85_40 rfl rfl rfl ?_
      refine Tx.aload_n hC te_85_43 rfl ?_
      refine Tx.getR hC te_85_44 rfl rfl rfl ?_
      refine Tx.iload_n hC te_85_47 rfl ?_
      refine Tx.virtV hC te_85_48 mt_75 (args := [.inr 19, .inr 1, .inr 9, .inl d]) (rest := []) (c' := 0) (s' := 0) rfl rfl rfl rfl rfl rfl rfl rfl rfl rfl ?_
      refine f_75x hR8.1.b hR8.1.w hR8.2.2.2.1.1 hR8.edv (RdC.noup hR8 (by omega) (by omega)) hR8.2.1.2 (by omega) (fun m15 hF16 r14x r14z r14y => ?_)
      have r14R := RdC.e_span hR8 hF16 (by have := hR8.1.b.1; omega) r14x
      have sy := r14y
      have hF16n : Frm (p85 Q) mem m15 := hF7.tr (hF16.mono (fun A i q => by unfold pRe at q; unfold p85; omega))
      refine Tx.aload_n hC te_85_51 rfl ?_
      refine Tx.aload_n hC te_85_52 rfl ?_
      refine Tx.getR hC te_85_53 rfl rfl rfl ?_
      refine Tx.aload_n hC te_85_56 rfl ?_
      refine Tx.getR hC te_85_57 rfl rfl rfl ?_
      refine Tx.iload_n hC te_85_60 rfl ?_
      refine Tx.virtI hC te_85_61 mt_86 (args := [.inr 21, .inr 1, .inl d]) (rest := [.inr Q]) (c' := 0) (s' := 0) rfl rfl rfl rfl rfl rfl rfl rfl rfl rfl ?_
      have ec : CPb m15 d = CPb mem d := (CPb.cg (fun A i q => hF16n A i (by unfold p85; omega)))
      have fw := RdC.fws r14R hd (by rw [hF16n 9 5 (by unfold p85; omega), hF16n 9 6 (by unfold p85; omega)]; omega) sy
      refine f_86e r14R.1.b hd (fun o ho => (r14R.1.us o ho).1) (fun m18 m18F m18P r17i => ?_) (fun m18 m18F m18N r17i => ?_)
      · skip
        have r17R := RdC.e_hold r14R m18F.1 m18F.2.2 m18F.2.1
        have hF19n : Frm (p85 Q) mem m18 := hF16n.tr (m18F.1.mono (fun A i q => by unfold pT6 at q; unfold p85; omega))
        refine Tx.ifc hC (t := 88) te_85_64 (by decide) (fun q => absurd q (show ¬ ((1 : Int) = 0) by decide)) (fun q => ?_)
        refine Tx.aload_n hC te_85_67 rfl ?_
        refine Tx.getR hC te_85_68 rfl rfl rfl ?_
        refine Tx.aload_n hC te_85_71 rfl ?_
        refine Tx.getR hC te_85_72 rfl rfl rfl ?_
        refine Tx.getR hC te_85_75 rfl rfl rfl ?_
        refine Tx.virtI hC te_85_78 mt_103 (args := [.inr 21, .inr 20]) (rest := [.inr Q]) (c' := 0) (s' := 0) rfl rfl rfl rfl rfl rfl rfl rfl rfl rfl ?_
        refine f_103e fw.2.1 fw.1 m18P (TiW.of rfl fw.2.2 fw.1 (fun i => m18F.1 20 i (by unfold pT6; omega))) (fun m21 m21F m21L r20i => ?_) (fun m21 m21F m21N r20i => ?_)
        · skip
          have r20R := RdC.e_find r17R m21F.1 m21F.2
          rw [ec] at m21L
          have hF22n : Frm (p85 Q) mem m21 := hF19n.tr (m21F.1.mono (fun A i q => by unfold pSk at q; unfold p85; omega))
          refine Tx.ifc hC (t := 88) te_85_81 (by decide) (fun q => absurd q (show ¬ ((1 : Int) = 0) by decide)) (fun q => ?_)
          refine Tx.iconst hC te_85_84 rfl ?_
          refine Tx.goto hC (t := 89) te_85_85 (by decide) ?_
          refine Tx.putB hC te_85_89 hQ.s0 rfl rfl rfl (by omega) ?_
          have hF24 : Frm (p85 Q) mem (upm m21 Q 1 1) := Frm.up hF22n (by unfold p85; omega)
          have hR25 := RdC.e_fit (m' := upm m21 Q 1 1) hQ r20R (up1F (by unfold pQ1; omega)) (ChtOK.up1 (r20R.1.ch Q hQ) (by omega))
          refine Tx.aload_n hC te_85_92 rfl ?_
          refine Tx.getI hC te_85_93 hQ.s0 rfl rfl (fun v26 v26e v26i => ?_)
          rw [upm_eq] at v26e
          subst v26e
          clear v26i
          refine Tx.ifc hC (t := 119) te_85_96 (by decide) (fun q => absurd q (show ¬ ((1 : Int) = 0) by decide)) (fun q => ?_)
          refine Tx.aload_n hC te_85_99 rfl ?_
          refine Tx.aload_n hC te_85_100 rfl ?_
          refine Tx.getR hC te_85_101 rfl rfl rfl ?_
          refine Tx.aload_n hC te_85_104 rfl ?_
          refine Tx.getR hC te_85_105 rfl rfl rfl ?_
          refine Tx.aload_n hC te_85_108 rfl ?_
          refine Tx.getR hC te_85_109 rfl rfl rfl ?_
          refine Tx.getR hC te_85_112 rfl rfl rfl ?_
          refine Tx.iload_n hC te_85_115 rfl ?_
          refine Tx.virtV hC te_85_116 mt_106 (args := [.inr Q, .inr 1, .inr 9, .inr 22, .inl d]) (rest := []) (c' := 0) (s' := 0) rfl rfl rfl rfl rfl rfl rfl rfl hQ.s0 rfl ?_
          refine f_106e hQ (hR25.1.ch Q hQ) hR25.1.b hR25.1.w hR25.2.2.2.1.1 (fun o ho => (hR25.1.us o ho).2) hd (by rw [CPb.cg (fun A i q => hF24 A i (by unfold p85; omega)), ← ec]; exact fw.2.1) (by
            rw [CPb.cg (fun A i q => hF24 A i (by unfold p85; omega)), show (upm m21 Q 1 1) 22 = m21 22 from funext fun i => upm_ne (by omega)]
            exact m21L) (fun m28 hF29 r27c r27w r27q => ?_)
          have r27R := RdC.e_draw hQ hR25 hF29 r27c
          have hF29n : Frm (p85 Q) mem m28 := hF24.tr (hF29.mono (fun A i q => by unfold pCh at q; unfold p85; omega))
          refine Tx.aload_n hC te_85_119 rfl ?_
          exact Tx.aret hC te_85_120 rfl (show K Q m28 from (by
            have dx : DrX m28 d Q := Or.inr ⟨r27q.trans upm_eq, (by rw [hF29n 9 5 (by unfold p85; omega), hF29n 9 6 (by unfold p85; omega)]; omega), DwI.chx r27w (fun A i q => hF29 A i (by unfold pCh; omega))⟩
            exact H _ _ hQ eQ (RdC.done hR r27R hF29n eQ hd dx) (hF29n.mono (fun A i q => by unfold p85 at q; unfold pNb; omega)) hF29n dx))
        · skip
          have r20R := RdC.e_find r17R m21F.1 m21F.2
          rw [ec] at m21N
          have hF22n : Frm (p85 Q) mem m21 := hF19n.tr (m21F.1.mono (fun A i q => by unfold pSk at q; unfold p85; omega))
          refine Tx.ifc hC (t := 88) te_85_81 (by decide) (fun q => ?_) (fun q => absurd (show (0 : Int) = 0 by decide) q)
          refine Tx.iconst hC te_85_88 rfl ?_
          refine Tx.putB hC te_85_89 hQ.s0 rfl rfl rfl (by omega) ?_
          have hF31 : Frm (p85 Q) mem (upm m21 Q 1 0) := Frm.up hF22n (by unfold p85; omega)
          have hR32 := RdC.e_fit (m' := upm m21 Q 1 0) hQ r20R (up1F (by unfold pQ1; omega)) (ChtOK.up1 (r20R.1.ch Q hQ) (by omega))
          refine Tx.aload_n hC te_85_92 rfl ?_
          refine Tx.getI hC te_85_93 hQ.s0 rfl rfl (fun v33 v33e v33i => ?_)
          rw [upm_eq] at v33e
          subst v33e
          clear v33i
          refine Tx.ifc hC (t := 119) te_85_96 (by decide) (fun q => ?_) (fun q => absurd (show (0 : Int) = 0 by decide) q)
          refine Tx.aload_n hC te_85_119 rfl ?_
          exact Tx.aret hC te_85_120 rfl (show K Q (upm m21 Q 1 0) from (by
            have dx : DrX (upm m21 Q 1 0) d Q := Or.inl ⟨upm_eq, Or.inr (by rw [CPb.cg (fun A i q => hF31 A i (by unfold p85; omega))]; exact m21N)⟩
            exact H _ _ hQ eQ (RdC.done hR hR32 hF31 eQ hd dx) (hF31.mono (fun A i q => by unfold p85 at q; unfold pNb; omega)) hF31 dx))
      · skip
        have r17R := RdC.e_hold r14R m18F.1 m18F.2.2 m18F.2.1
        rw [ec] at m18N
        have hF19n : Frm (p85 Q) mem m18 := hF16n.tr (m18F.1.mono (fun A i q => by unfold pT6 at q; unfold p85; omega))
        refine Tx.ifc hC (t := 88) te_85_64 (by decide) (fun q => ?_) (fun q => absurd (show (0 : Int) = 0 by decide) q)
        refine Tx.iconst hC te_85_88 rfl ?_
        refine Tx.putB hC te_85_89 hQ.s0 rfl rfl rfl (by omega) ?_
        have hF35 : Frm (p85 Q) mem (upm m18 Q 1 0) := Frm.up hF19n (by unfold p85; omega)
        have hR36 := RdC.e_fit (m' := upm m18 Q 1 0) hQ r17R (up1F (by unfold pQ1; omega)) (ChtOK.up1 (r17R.1.ch Q hQ) (by omega))
        refine Tx.aload_n hC te_85_92 rfl ?_
        refine Tx.getI hC te_85_93 hQ.s0 rfl rfl (fun v37 v37e v37i => ?_)
        rw [upm_eq] at v37e
        subst v37e
        clear v37i
        refine Tx.ifc hC (t := 119) te_85_96 (by decide) (fun q => ?_) (fun q => absurd (show (0 : Int) = 0 by decide) q)
        refine Tx.aload_n hC te_85_119 rfl ?_
        exact Tx.aret hC te_85_120 rfl (show K Q (upm m18 Q 1 0) from (by
          have dx : DrX (upm m18 Q 1 0) d Q := Or.inl ⟨upm_eq, Or.inr (by rw [CPb.cg (fun A i q => hF35 A i (by unfold p85; omega))]; exact m18N)⟩
          exact H _ _ hQ eQ (RdC.done hR hR36 hF35 eQ hd dx) (hF35.mono (fun A i q => by unfold p85 at q; unfold pNb; omega)) hF35 dx))
theorem f_115 {S : Nat × (Nat → Int32)} {n : Nat} {mem : MM} {K : Nat → MM → Prop} {E : Nat → MM → Prop} (hI : ClS mem) {d : Int} (H : ∀ Q m', ChSh Q → Rdy m' → Frm pNb mem m' → 1 ≤ d → d ≤ 12 → K Q m') (HE : ∀ e m', (e = 0 ∨ e = 1) → ClS m' → Frm pNb mem m' → E e m') : CQR (Ex S (n + 16)) 115 [.inr 0, .inl d] mem K E := by
  refine CY.of (k := 1) mt_115 rfl rfl (fun hv => ?_)
  have hC := Ex.mono S (n + 15)
  have ii_d : InI d := hv (.inl d) (by simp)
  unfold InI at ii_d
  clear hv
  show Tx (Ex S (n + 15)) S M_115 (kR K E) 0 0 0 [some (.inr 0), some (.inl d), none] [] mem
  refine Tx.iload_n hC te_115_0 rfl ?_
  refine Tx.statV hC te_115_1 (by decide) mt_74 (args := [.inl d]) (rest := []) (c' := 1) (s' := 6) rfl rfl rfl rfl rfl rfl rfl ?_
  refine f_74 (fun r1a r1b => ?_) (HE 0 _ (by omega) hI Frm.rf)
  refine Tx.aload_n hC te_115_4 rfl ?_
  refine Tx.virtV hC te_115_5 mt_69 (args := [.inr 0]) (rest := []) (c' := 2) (s' := 12) rfl rfl rfl rfl rfl rfl rfl rfl rfl rfl ?_
  refine f_69 hI (fun m5 r4R hF6 => ?_) (fun m5 r4C hF6 => HE 1 _ (by omega) r4C (Frm.rf.tr hF6))
  have r4w := r4R.1.w.2
  have hF6n : Frm pNb mem m5 := Frm.rf.tr hF6
  refine Tx.aload_n hC te_115_8 rfl ?_
  refine Tx.iload_n hC te_115_9 rfl ?_
  refine Tx.virtR hC te_115_10 mt_85 (args := [.inr 0, .inl d]) (rest := []) (c' := 2) (s' := 12) rfl rfl rfl rfl rfl rfl rfl rfl rfl rfl ?_
  refine f_85 r4R (by omega) (fun Q m8 hQ r7q r7R hF9 r7F r7X => ?_)
  have hq8 := hQ.rg
  have r7o := (r7R.1.ch Q hQ).1
  have hF9n : Frm pNb mem m8 := hF6n.tr hF9
  refine Tx.astore_n hC te_115_13 rfl ?_
  refine Tx.aload_n hC te_115_14 rfl ?_
  refine Tx.getI hC te_115_15 hQ.s0 rfl rfl (fun v10 v10e v10i => ?_)
  unfold InI at v10i
  refine Tx.ifc hC (t := 32) te_115_18 (by decide) (fun q11 => ?_) (fun q11 => ?_)
  · replace q11 : ¬ (v10 : Int) = 0 := q11
    refine Tx.aload_n hC te_115_32 rfl ?_
    exact Tx.aret hC te_115_33 rfl (show K Q m8 from H _ _ hQ r7R hF9n (by omega) (by omega))
  · replace q11 : ¬ (¬ (v10 : Int) = 0) := q11
    exact Tx.thr hC te_115_21 rfl rfl rfl rfl rfl (show E 1 m8 from HE _ _ (by omega) r7R.cs hF9n)
theorem f_73 {S : Nat × (Nat → Int32)} {n : Nat} {mem : MM} {K : MM → Prop} {E : Nat → MM → Prop} (hI : ClS mem) {d : Int} (H : ∀ m', Rdy m' → Frm pNb mem m' → 1 ≤ d → d ≤ 12 → K m') (HE : ∀ e m', (e = 0 ∨ e = 1) → ClS m' → Frm pNb mem m' → E e m') : CQV (Ex S (n + 15)) 73 [.inr 0, .inl d] mem K E := by
  refine CY.of (k := 0) mt_73 rfl rfl (fun hv => ?_)
  have hC := Ex.mono S (n + 14)
  have ii_d : InI d := hv (.inl d) (by simp)
  unfold InI at ii_d
  clear hv
  show Tx (Ex S (n + 14)) S M_73 (kV K E) 0 0 0 [some (.inr 0), some (.inl d)] [] mem
  refine Tx.iload_n hC te_73_0 rfl ?_
  refine Tx.statV hC te_73_1 (by decide) mt_74 (args := [.inl d]) (rest := []) (c' := 1) (s' := 6) rfl rfl rfl rfl rfl rfl rfl ?_
  refine f_74 (fun r1a r1b => ?_) (HE 0 _ (by omega) hI Frm.rf)
  refine Tx.aload_n hC te_73_4 rfl ?_
  refine Tx.virtV hC te_73_5 mt_69 (args := [.inr 0]) (rest := []) (c' := 2) (s' := 12) rfl rfl rfl rfl rfl rfl rfl rfl rfl rfl ?_
  refine f_69 hI (fun m5 r4R hF6 => ?_) (fun m5 r4C hF6 => HE 1 _ (by omega) r4C (Frm.rf.tr hF6))
  have r4w := r4R.1.w.2
  have hF6n : Frm pNb mem m5 := Frm.rf.tr hF6
  refine Tx.iload_n hC te_73_8 rfl ?_
  refine Tx.aload_n hC te_73_9 rfl ?_
  refine Tx.getR hC te_73_10 rfl rfl rfl ?_
  refine Tx.virtI hC te_73_13 mt_32 (args := [.inr 9]) (rest := [.inl d]) (c' := 2) (s' := 12) rfl rfl rfl rfl rfl rfl rfl rfl rfl rfl ?_
  refine f_32x (W := 9) ⟨rfl, rfl, rfl, rfl, rfl⟩ r4R.2.2.2.1.2.2.1 (fun r7 r7e r7a r7b r7i => ?_)
  unfold InI at r7i
  refine Tx.icmp hC (t := 30) te_73_16 (by decide) (fun q10 => ?_) (fun q10 => ?_)
  · replace q10 : r7 ≤ (d : Int) := q10
    refine Tx.aload_n hC te_73_30 rfl ?_
    refine Tx.getR hC te_73_31 rfl rfl rfl ?_
    refine Tx.aload_n hC te_73_34 rfl ?_
    refine Tx.getR hC te_73_35 rfl rfl rfl ?_
    refine Tx.aload_n hC te_73_38 rfl ?_
    refine Tx.getR hC te_73_39 rfl rfl rfl ?_
    refine Tx.iload_n hC te_73_42 rfl ?_
    refine Tx.virtV hC te_73_43 mt_75 (args := [.inr 19, .inr 1, .inr 9, .inl d]) (rest := []) (c' := 2) (s' := 12) rfl rfl rfl rfl rfl rfl rfl rfl rfl rfl ?_
    refine f_75x r4R.1.b r4R.1.w r4R.2.2.2.1.1 r4R.edv (Rdy.noup r4R (by omega) (by omega)) r4R.2.1.2.1 (by omega) (fun m12 hF13 r11x r11z r11y => ?_)
    have r11R := Rdy.e_span r4R hF13 (by have := r4R.1.b.1; omega) r11x
    have r11u : upV (m12 9 5) (m12 9 6) = upV (m5 9 5) (m5 9 6) := by rw [hF13 9 5 (by unfold pRe; omega), hF13 9 6 (by unfold pRe; omega)]
    have hF13n : Frm pNb mem m12 := hF6n.tr (hF13.mono (fun A i q => by unfold pRe at q; unfold pNb; omega))
    exact Tx.vret hC te_73_46 rfl (show K m12 from H _ r11R hF13n (by omega) (by omega))
  · replace q10 : ¬ (r7 ≤ (d : Int)) := q10
    exact Tx.thr hC te_73_19 rfl rfl rfl rfl rfl (show E 1 m5 from HE _ _ (by omega) r4R.cs hF6n)
end
