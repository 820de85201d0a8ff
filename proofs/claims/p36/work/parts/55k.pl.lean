/-! laid by wip/hand/tg.py: a loop turn by turn -/
def pPx (A _i : Nat) : Prop := 136 ≤ A ∧ A ≤ 138
theorem dn_ne {N t o : Nat} : ¬ dn N t o o t := fun h => by unfold dn at h; omega
theorem dn_next {N t o o' t' : Nat} (h : dn N t (o + 1) o' t') : dn N t o o' t' ∨ (o' = o ∧ t' = t) := by unfold dn at *; omega
theorem dn_turn {N t o' t' : Nat} (h : dn N (t + 1) 0 o' t') : dn N t N o' t' := by unfold dn at *; omega
/-- frames: what the model reads of the class stays -/
theorem acsC_fr {m m' : MM} (e : ∀ A i, 0 < A → A < 9 → m' A i = m A i) : acsC m' = acsC m := by
  have h := bd_fr (q := 0) (fun A i a b _ => e A i a b)
  unfold acsC
  rw [h.2.1, h.2.2.1, show m' 2 = m 2 from funext fun i => e 2 i (by omega) (by omega), show m' 4 = m 4 from funext fun i => e 4 i (by omega) (by omega), show m' 3 = m 3 from funext fun i => e 3 i (by omega) (by omega)]
theorem PlC.ac {m m0 : MM} {N t o : Nat} {s : PSt} (h : PlC m s N t o) (hB : BodyOK m0) (hs : SndX m0) (e : ∀ A i, 0 < A → A < 9 → m A i = m0 A i) (hN : N = (m0 1 0).toNat) (ho : o < N) (ht : t < 40) : acC m o t = acM (acsC m0) s o t := by
  have h8 := hB.1
  have hop := hB.2.1 o (by omega)
  unfold acC
  rw [acsC_fr e]
  unfold BOp at hop
  have sk : ∀ k : Nat, (k : Int) < csN m0 o → SrcK (acsC m0) N o k := fun k hk => by
    have q := hs o k (by omega) hk
    have w := hB.src (o := o) (k := k) (by omega) hk
    unfold SrcC at q
    unfold srcOK at w
    unfold SrcK acsC
    simp only
    omega
  refine acM.eq ho (fun k4 => ⟨sk 0 ?_, fun k5 => sk 1 ?_⟩) (fun k4 => ⟨?_, fun k5 => ?_⟩) (fun k4 => ?_) (fun o' t' hd => h.2 o' t' hd)
  · have k4 : ¬ m0 2 o = 4 := k4
    unfold csN; rw [if_neg k4]; split <;> omega
  · have k4 : ¬ m0 2 o = 4 := k4
    have k5 : ¬ m0 2 o = 5 := k5
    unfold csN; rw [if_neg k4, if_neg k5]; omega
  · have k4 : ¬ m0 2 o = 4 := k4
    show -2 ≤ m0 3 (4 * o)
    unfold srcOK at hop
    omega
  · have k4 : ¬ m0 2 o = 4 := k4
    have k5 : ¬ m0 2 o = 5 := k5
    show -2 ≤ m0 3 (4 * o + 2)
    unfold srcOK at hop
    omega
  · have k4 : m0 2 o = 4 := k4
    have w := hop.2.2.1 k4
    have er : rowB m0 o = m0 3 (4 * o) := by unfold rowB; rw [if_neg (by omega)]
    have ep : plcB m0 o = m0 3 (4 * o + 1) := by unfold plcB; rw [if_neg (by omega)]
    exact h.1 (rowB m0 o).toNat ((t : Int) + plcB m0 o).toNat (by omega) (by omega)
/-- one op of one turn, in the class -/
theorem PlC.step {m m0 : MM} {N t o : Nat} {s : PSt} (h : PlC m s N t o) (hB : BodyOK m0) (hs : SndX m0) (e : ∀ A i, 0 < A → A < 9 → m A i = m0 A i) (hN : N = (m0 1 0).toNat) (ho : o < N) (ht : t < 40) {m2 : MM} (h2 : m2 = upm (if m 2 o = 5 then upm m (136 + (rowB m o).toNat) ((t : Int) + plcB m o).toNat (acC m o t) else m) 138 (40 * o + t) (acC m o t)) : PlC m2 (stM (acsC m0) s o t) N t (o + 1) := by
  have h8 := hB.1
  have hop := hB.2.1 o (by omega)
  have ea := h.ac hB hs e hN ho ht
  have ek := e 2 o (by omega) (by omega)
  have eb := bd_fr (q := 0) (fun A i a b _ => e A i a b)
  unfold BOp at hop
  rw [ea, ek, eb.2.1, eb.2.2.1] at h2
  generalize acM (acsC m0) s o t = v at h2 ea ⊢
  have hv : stM (acsC m0) s o t = (if m0 2 o = 5 then up2 s.1 (rowB m0 o).toNat ((t : Int) + plcB m0 o).toNat v else s.1, up2 s.2 o t v) := by
    have ea2 := h.ac hB hs e hN ho ht
    unfold stM
    rw [← ea2, ea]
    rfl
  rw [hv]
  refine ⟨fun r p hr hp => ?_, fun o' t' hd => ?_⟩
  · rw [h2, upm_ne (by omega)]
    by_cases k5 : m0 2 o = 5
    · rw [if_pos k5]
      show _ = (if m0 2 o = 5 then up2 s.1 (rowB m0 o).toNat ((t : Int) + plcB m0 o).toNat v else s.1) r p
      rw [if_pos k5]
      unfold up2
      by_cases w : r = (rowB m0 o).toNat ∧ p = ((t : Int) + plcB m0 o).toNat
      · rw [if_pos w, w.1, w.2]; exact upm_eq
      · rw [if_neg w, upm_ne (by omega)]; exact h.1 r p hr hp
    · rw [if_neg k5]
      show _ = (if m0 2 o = 5 then up2 s.1 (rowB m0 o).toNat ((t : Int) + plcB m0 o).toNat v else s.1) r p
      rw [if_neg k5]; exact h.1 r p hr hp
  · rw [h2]
    show _ = up2 s.2 o t v o' t'
    unfold up2
    have hd' := hd
    unfold dn at hd'
    by_cases w : o' = o ∧ t' = t
    · rw [if_pos w, w.1, w.2]; exact upm_eq
    · rw [if_neg w, upm_ne (by omega)]
      have hd2 := (dn_next hd).resolve_right w
      by_cases k5 : m0 2 o = 5
      · rw [if_pos k5]
        have q := hop.2.2.2 k5
        have er : rowB m0 o = m0 3 (4 * o + 2) := by unfold rowB; rw [if_pos k5]
        rw [upm_ne (by omega)]; exact h.2 o' t' hd2
      · rw [if_neg k5]; exact h.2 o' t' hd2
theorem lkC_eq {m : MM} {o k : Nat} {t : Int} : lkC m o k t = if m 3 (4 * o + 2 * k) = -1 then t else if m 3 (4 * o + 2 * k) = -2 then m 3 (4 * o + 2 * k + 1) else if t - m 3 (4 * o + 2 * k + 1) < 0 then m 4 (m 3 (4 * o + 2 * k)).toNat else m 138 (40 * (m 3 (4 * o + 2 * k)).toNat + (t - m 3 (4 * o + 2 * k + 1)).toNat) := rfl
theorem acC_eq {m : MM} {o t : Nat} : acC m o t = if m 2 o = 4 then m (136 + (rowB m o).toNat) ((t : Int) + plcB m o).toNat else if m 2 o = 5 then lkC m o 0 t else opM (m 2 o) (lkC m o 0 t) (lkC m o 1 t) := rfl
theorem PlC.turn {m : MM} {s : PSt} {N t : Nat} (h : PlC m s N t N) : PlC m s N (t + 1) 0 := ⟨h.1, fun o' t' hd => h.2 o' t' (dn_turn hd)⟩
theorem PlC.of_fill {m : MM} {A : Acc} {N : Nat} (h : ∀ j : Nat, (j : Int) < 64 → m 136 j = 3 * (j : Int) + 1 ∧ m 137 j = 7 * (j : Int) - 5) : PlC m (trM A N 0) N 0 0 := by
  refine ⟨fun r p hr hp => ?_, fun o' t' hd => ?_⟩
  · have a : r = 0 ∨ r = 1 := by omega
    rcases a with rfl | rfl
    · exact (h p (by omega)).1
    · exact (h p (by omega)).2
  · unfold dn at hd; omega
theorem PlC.eqN {m : MM} {A : Acc} {s : PSt} {N t o : Nat} (h : PlC m (opsM A s t o) N t o) (e : o = N) : PlC m (opsM A s t N) N t N := by rw [e] at h; exact h
theorem lkR_eq {m : MM} {o k : Nat} {t : Int} : lkR m o k t = if srcA m o k = -1 then t else if srcA m o k = -2 then srcB m o k else if t - srcB m o k < 0 then m 149 (srcA m o k).toNat else m 167 (41 * (srcA m o k).toNat + (t - srcB m o k).toNat) := rfl
theorem acR_eq {m : MM} {o t : Nat} : acR m o t = if m 144 o = 4 then m 165 (64 * (rowF m o).toNat + ((t : Int) + plcF m o).toNat) else if m 144 o = 5 then lkR m o 0 t else opM (m 144 o) (lkR m o 0 t) (lkR m o 1 t) := rfl
def pPr (A _i : Nat) : Prop := A = 165 ∨ A = 167
section QQ
variable {S : Nat × (Nat → Int32)} {n : Nat} {mem : MM} {K : Int → MM → Prop} {E : Nat → MM → Prop}
theorem f_242q {o k : Int} (h : 0 ≤ o ∧ o < 8) (H : ∀ r, r = srcA mem o.toNat k → K r mem) : CQI (Ex S (n + 1)) 242 [.inr 143, .inl o, .inl k] mem K E := CWI.q (Ex.mono S (n + 1)) (f_242 h (H _ rfl))
theorem f_243q {o k : Int} (h : 0 ≤ o ∧ o < 8) (H : ∀ r, r = srcB mem o.toNat k → K r mem) : CQI (Ex S (n + 1)) 243 [.inr 143, .inl o, .inl k] mem K E := CWI.q (Ex.mono S (n + 1)) (f_243 h (H _ rfl))
theorem f_250q {o : Int} (h : 0 ≤ o ∧ o < 8) (H : ∀ r, r = rowF mem o.toNat → K r mem) : CQI (Ex S (n + 1)) 250 [.inr 143, .inl o] mem K E := CWI.q (Ex.mono S (n + 1)) (f_250 h (H _ rfl))
theorem f_251q {o : Int} (h : 0 ≤ o ∧ o < 8) (H : ∀ r, r = plcF mem o.toNat → K r mem) : CQI (Ex S (n + 1)) 251 [.inr 143, .inl o] mem K E := CWI.q (Ex.mono S (n + 1)) (f_251 h (H _ rfl))
end QQ
/-- places and rows of ops that have them -/
theorem RefOK.rw {m : MM} (h : RefOK m) {o : Nat} (ho : o < 8) (hk : m 144 o = 4 ∨ m 144 o = 5) : (0 ≤ rowF m o ∧ rowF m o ≤ 1) ∧ 0 ≤ plcF m o ∧ plcF m o ≤ 7 := by
  have q := h.ops.2.1 o ho
  unfold OpOK at q
  unfold rowF plcF
  rcases hk with k | k
  · have := q.2.2.2.1 k
    rw [if_pos k, if_pos k]; omega
  · have := q.2.2.2.2 k
    rw [if_neg (by omega), if_neg (by omega)]; omega
theorem acsR_fr {m m' : MM} (e : ∀ A i, 143 < A → A < 154 → m' A i = m A i) : acsR m' = acsR m := by
  unfold acsR rowF plcF srcA srcB
  rw [show m' 144 = m 144 from funext fun i => e 144 i (by omega) (by omega), show m' 145 = m 145 from funext fun i => e 145 i (by omega) (by omega), show m' 146 = m 146 from funext fun i => e 146 i (by omega) (by omega), show m' 147 = m 147 from funext fun i => e 147 i (by omega) (by omega), show m' 148 = m 148 from funext fun i => e 148 i (by omega) (by omega), show m' 149 = m 149 from funext fun i => e 149 i (by omega) (by omega)]
theorem PlR.ac {m m0 : MM} {N t o : Nat} {s : PSt} (h : PlR m s N t o) (hr : RefOK m0) (hs : SoundM m0) (e : ∀ A i, 143 < A → A < 154 → m A i = m0 A i) (hN : N = (m0 143 1).toNat) (ho : o < N) (ht : t < 40) : acR m o t = acM (acsR m0) s o t := by
  have h8 := hr.ops.1
  have hop := hr.ops.2.1 o (by omega)
  have hab := hr.ab o (by omega)
  unfold acR
  rw [acsR_fr e]
  unfold OpOK at hop
  have sk : ∀ k : Nat, (k : Int) < srcN m0 o → SrcK (acsR m0) N o k := fun k hk => by
    have q := hs o (by omega) k (by omega) hk
    have w := hr.ops.src (o := o) (by omega) (k := (k : Int)) (by omega) hk
    unfold SrcS at q
    unfold srcOK at w
    unfold SrcK acsR
    simp only
    omega
  refine acM.eq ho (fun k4 => ⟨sk 0 ?_, fun k5 => sk 1 ?_⟩) (fun _ => ⟨hab.1.1, fun _ => hab.2.1⟩) (fun k4 => ?_) (fun o' t' hd => h.2 o' t' hd)
  · have k4 : ¬ m0 144 o = 4 := k4
    unfold srcN; rw [if_neg k4]; split <;> omega
  · have k4 : ¬ m0 144 o = 4 := k4
    have k5 : ¬ m0 144 o = 5 := k5
    unfold srcN; rw [if_neg k4, if_neg k5]; omega
  · have k4 : m0 144 o = 4 := k4
    have w := hr.rw (o := o) (by omega) (Or.inl k4)
    exact h.1 (rowF m0 o).toNat ((t : Int) + plcF m0 o).toNat (by omega) (by omega)
/-- one op of one turn, in the reference -/
theorem PlR.step {m m0 : MM} {N t o : Nat} {s : PSt} (h : PlR m s N t o) (hr : RefOK m0) (hs : SoundM m0) (e : ∀ A i, 143 < A → A < 154 → m A i = m0 A i) (hN : N = (m0 143 1).toNat) (ho : o < N) (ht : t < 40) {m2 : MM} (h2 : m2 = if m 144 o = 5 then upm (upm m 167 (41 * o + t) (acR m o t)) 165 (64 * (rowF m o).toNat + ((t : Int) + plcF m o).toNat) (acR m o t) else upm m 167 (41 * o + t) (acR m o t)) : PlR m2 (stM (acsR m0) s o t) N t (o + 1) := by
  have h8 := hr.ops.1
  have ea := h.ac hr hs e hN ho ht
  have ek := e 144 o (by omega) (by omega)
  have eb : rowF m o = rowF m0 o ∧ plcF m o = plcF m0 o := by
    have q := acsR_fr e
    exact ⟨congrFun (congrArg (fun A : Acc => A.2.1) q) o, congrFun (congrArg (fun A : Acc => A.2.2.1) q) o⟩
  rw [ea, ek, eb.1, eb.2] at h2
  generalize hvv : acM (acsR m0) s o t = v at h2 ea
  have hv : stM (acsR m0) s o t = (if m0 144 o = 5 then up2 s.1 (rowF m0 o).toNat ((t : Int) + plcF m0 o).toNat v else s.1, up2 s.2 o t v) := by
    unfold stM
    rw [hvv]
    rfl
  rw [hv]
  have hw : m0 144 o = 5 → (0 ≤ rowF m0 o ∧ rowF m0 o ≤ 1) ∧ 0 ≤ plcF m0 o ∧ plcF m0 o ≤ 7 := fun k5 => hr.rw (o := o) (by omega) (Or.inr k5)
  refine ⟨fun r p hr2 hp => ?_, fun o' t' hd => ?_⟩
  · by_cases k5 : m0 144 o = 5
    · have q := hw k5
      rw [h2, if_pos k5]
      show _ = (if m0 144 o = 5 then up2 s.1 (rowF m0 o).toNat ((t : Int) + plcF m0 o).toNat v else s.1) r p
      rw [if_pos k5]
      unfold up2
      by_cases w : r = (rowF m0 o).toNat ∧ p = ((t : Int) + plcF m0 o).toNat
      · rw [if_pos w, w.1, w.2]; exact upm_eq
      · rw [if_neg w, upm_ne (by omega), upm_ne (by omega)]; exact h.1 r p hr2 hp
    · rw [h2, if_neg k5, upm_ne (by omega)]
      show _ = (if m0 144 o = 5 then up2 s.1 (rowF m0 o).toNat ((t : Int) + plcF m0 o).toNat v else s.1) r p
      rw [if_neg k5]; exact h.1 r p hr2 hp
  · show _ = up2 s.2 o t v o' t'
    unfold up2
    have hd' := hd
    unfold dn at hd'
    have eA : m2 167 (41 * o' + t') = upm m 167 (41 * o + t) v 167 (41 * o' + t') := by
      by_cases k5 : m0 144 o = 5
      · rw [h2, if_pos k5, upm_ne (by omega)]
      · rw [h2, if_neg k5]
    rw [eA]
    by_cases w : o' = o ∧ t' = t
    · rw [if_pos w, w.1, w.2]; exact upm_eq
    · rw [if_neg w, upm_ne (by omega)]; exact h.2 o' t' ((dn_next hd).resolve_right w)
theorem PlR.turn {m : MM} {s : PSt} {N t : Nat} (h : PlR m s N t N) : PlR m s N (t + 1) 0 := ⟨h.1, fun o' t' hd => h.2 o' t' (dn_turn hd)⟩
theorem PlR.of_fill {m : MM} {A : Acc} {N : Nat} (h : ∀ j : Nat, (j : Int) < 64 → m 165 j = 3 * (j : Int) + 1 ∧ m 165 (64 + j) = 7 * (j : Int) - 5) : PlR m (trM A N 0) N 0 0 := by
  refine ⟨fun r p hr hp => ?_, fun o' t' hd => ?_⟩
  · have a : r = 0 ∨ r = 1 := by omega
    rcases a with rfl | rfl
    · have q := (h p (by omega)).1
      rw [show 64 * 0 + p = p by omega]; exact q
    · exact (h p (by omega)).2
  · unfold dn at hd; omega
theorem PlR.eqN {m : MM} {A : Acc} {s : PSt} {N t o : Nat} (h : PlR m (opsM A s t o) N t o) (e : o = N) : PlR m (opsM A s t N) N t N := by rw [e] at h; exact h
theorem f_258q {S : Nat × (Nat → Int32)} {n : Nat} {mem : MM} {K : Int → MM → Prop} {E : Nat → MM → Prop} {a b : Int} (H : ∀ r, r = min a b → K r mem) : CQI (Ex S (n + 1)) 258 [.inl a, .inl b] mem K E := fun hv => CWI.q (Ex.mono S (n + 1)) (f_258 (fun _ => H _ rfl)) hv
/-- rows of runs aside, it stays in order -/
theorem RefOK.fr0 {m m' : MM} (h : RefOK m) (hF : Frm pPr m m') : RefOK m' := Kp.rest (fun A i q => hF A i (by unfold pPr; omega)) h (fun o ho => by rw [hF 160 o (by unfold pPr; omega)]; exact h.sl o ho) (fun j hj => by rw [hF _ _ (by unfold pPr; omega), hF _ _ (by unfold pPr; omega), hF _ _ (by unfold pPr; omega), hF _ _ (by unfold pPr; omega)]; exact h.r48 j hj) (by rw [hF 143 12 (by unfold pPr; omega)]; exact h.nd)
theorem rp_fr {m m' : MM} (e : ∀ A i, 143 < A → A < 154 → m' A i = m A i) {o : Nat} : rowF m' o = rowF m o ∧ plcF m' o = plcF m o := by
  have q := acsR_fr e
  exact ⟨congrFun (congrArg (fun A : Acc => A.2.1) q) o, congrFun (congrArg (fun A : Acc => A.2.2.1) q) o⟩
theorem f_164x {S : Nat × (Nat → Int32)} {n : Nat} {mem : MM} {K : Int → MM → Prop} {E : Nat → MM → Prop} {o t : Int} (ho : 0 ≤ o ∧ o < 8) (ht : t ≤ 39) (H : ∀ r, r = (if t < 0 then mem 4 o.toNat else mem 138 (40 * o.toNat + t.toNat)) → K r mem) : CQI (Ex S (n + 1)) 164 [.inr 134, .inr 1, .inl o, .inl t] mem K E := by
  refine CY.of (k := 0) mt_164 rfl rfl (fun hv => ?_)
  have hC := Ex.mono S n
  have ii_o : InI o := hv (.inl o) (by simp)
  unfold InI at ii_o
  have ii_t : InI t := hv (.inl t) (by simp)
  unfold InI at ii_t
  clear hv
  show Tx (Ex S n) S M_164 (kI K E) 0 0 0 [some (.inr 134), some (.inr 1), some (.inl o), some (.inl t)] [] mem
  refine Tx.iload_n hC te_164_0 rfl ?_
  refine Tx.ifc hC (t := 13) te_164_1 (by decide) (fun q1 => ?_) (fun q1 => ?_)
  · replace q1 : 0 ≤ (t : Int) := q1
    refine Tx.aload_n hC te_164_13 rfl ?_
    refine Tx.getR hC te_164_14 rfl rfl rfl ?_
    refine Tx.iload_n hC te_164_17 rfl ?_
    refine Tx.bipush hC te_164_18 rfl rfl ?_
    refine Tx.imulW hC te_164_20 (fun z2 z2i z2e => ?_)
    unfold InI at z2i z2e
    first | replace z2e := z2e (by omega) | clear z2e
    refine Tx.iload_n hC te_164_21 rfl ?_
    refine Tx.iaddW hC te_164_22 (fun z3 z3i z3e => ?_)
    unfold InI at z3i z3e
    first | replace z3e := z3e (by omega) | clear z3e
    refine Tx.iald hC te_164_23 rfl (by omega) (fun v4 v4e v4i => ?_)
    unfold InI at v4i
    exact Tx.ireturn hC te_164_24 rfl (fun hr => show K v4 mem from H _ (by first | (rw [if_pos (by omega)]; assumption) | (rw [if_neg (by omega), v4e]; congr 1; omega)))
  · replace q1 : ¬ (0 ≤ (t : Int)) := q1
    refine Tx.aload_n hC te_164_4 rfl ?_
    refine Tx.getR hC te_164_5 rfl rfl rfl ?_
    refine Tx.iload_n hC te_164_8 rfl ?_
    refine Tx.iald hC te_164_9 rfl (by omega) (fun v5 v5e v5i => ?_)
    unfold InI at v5i
    refine Tx.goto hC (t := 24) te_164_10 (by decide) ?_
    exact Tx.ireturn hC te_164_24 rfl (fun hr => show K v5 mem from H _ (by first | (rw [if_pos (by omega)]; assumption) | (rw [if_neg (by omega), v5e]; congr 1; omega)))
theorem f_163x {S : Nat × (Nat → Int32)} {n : Nat} {mem : MM} {K : Int → MM → Prop} {E : Nat → MM → Prop} (hB : BodyOK mem) {o w t : Int} (ho : 0 ≤ o ∧ o < 8) (hw : 0 ≤ w ∧ w < csN mem o.toNat) (ht : 0 ≤ t ∧ t ≤ 39) (H : ∀ r, r = lkC mem o.toNat w.toNat t → K r mem) : CQI (Ex S (n + 2)) 163 [.inr 134, .inr 1, .inl o, .inl w, .inl t] mem K E := by
  refine CY.of (k := 2) mt_163 rfl rfl (fun hv => ?_)
  have hC := Ex.mono S (n + 1)
  have ii_o : InI o := hv (.inl o) (by simp)
  unfold InI at ii_o
  have ii_w : InI w := hv (.inl w) (by simp)
  unfold InI at ii_w
  have ii_t : InI t := hv (.inl t) (by simp)
  unfold InI at ii_t
  clear hv
  have hcs := csN_le mem o.toNat
  have hsr := hB.src (o := o.toNat) (k := w.toNat) (by omega) (by omega)
  unfold srcOK at hsr
  show Tx (Ex S (n + 1)) S M_163 (kI K E) 0 0 0 [some (.inr 134), some (.inr 1), some (.inl o), some (.inl w), some (.inl t), none, none] [] mem
  refine Tx.aload_n hC te_163_0 rfl ?_
  refine Tx.iload_n hC te_163_1 rfl ?_
  refine Tx.iload_n hC te_163_2 rfl ?_
  refine Tx.virtI hC te_163_3 mt_14 (args := [.inr 1, .inl o, .inl w]) (rest := []) (c' := 0) (s' := 0) rfl rfl rfl rfl rfl rfl rfl rfl rfl rfl ?_
  refine f_14s hB (by omega) (by omega) (fun r1 r1e r1a r1b r1i => ?_)
  unfold InI at r1i
  refine Tx.istore hC te_163_6 rfl ?_
  refine Tx.aload_n hC te_163_8 rfl ?_
  refine Tx.iload_n hC te_163_9 rfl ?_
  refine Tx.iload_n hC te_163_10 rfl ?_
  refine Tx.virtI hC te_163_11 mt_15 (args := [.inr 1, .inl o, .inl w]) (rest := []) (c' := 0) (s' := 0) rfl rfl rfl rfl rfl rfl rfl rfl rfl rfl ?_
  refine f_15q (by omega) (by omega) (fun r4 r4e r4i => ?_)
  unfold InI at r4i
  refine Tx.istore hC te_163_14 rfl ?_
  refine Tx.iload hC te_163_16 rfl ?_
  refine Tx.iconst hC te_163_18 rfl ?_
  refine Tx.icmp hC (t := 25) te_163_19 (by decide) (fun q7 => ?_) (fun q7 => ?_)
  · replace q7 : ¬ (r1 : Int) = (-1) := q7
    refine Tx.iload hC te_163_25 rfl ?_
    refine Tx.bipush hC te_163_27 rfl rfl ?_
    refine Tx.icmp hC (t := 35) te_163_29 (by decide) (fun q8 => ?_) (fun q8 => ?_)
    · replace q8 : ¬ (r1 : Int) = (-2) := q8
      refine Tx.aload_n hC te_163_35 rfl ?_
      refine Tx.aload_n hC te_163_36 rfl ?_
      refine Tx.iload hC te_163_37 rfl ?_
      refine Tx.iload hC te_163_39 rfl ?_
      refine Tx.iload hC te_163_41 rfl ?_
      refine Tx.isubW hC te_163_43 (fun z9 z9i z9e => ?_)
      unfold InI at z9i z9e
      first | replace z9e := z9e (by omega) | clear z9e
      refine Tx.virtI hC te_163_44 mt_164 (args := [.inr 134, .inr 1, .inl r1, .inl z9]) (rest := []) (c' := 0) (s' := 0) rfl rfl rfl rfl rfl rfl rfl rfl rfl rfl ?_
      refine f_164x (by omega) (by omega) (fun r10 r10e r10i => ?_)
      rw [show z9 = t - r4 by omega] at r10e
      unfold InI at r10i
      exact Tx.ireturn hC te_163_47 rfl (fun hr => show K r10 mem from H _ (by rw [lkC_eq, ← r1e, ← r4e]; first | (rw [if_pos (by omega)]; done) | (rw [if_neg (by omega), if_pos (by omega)]; done) | (rw [if_neg (by omega), if_neg (by omega)]; assumption)))
    · replace q8 : ¬ (¬ (r1 : Int) = (-2)) := q8
      refine Tx.iload hC te_163_32 rfl ?_
      exact Tx.ireturn hC te_163_34 rfl (fun hr => show K r4 mem from H _ (by rw [lkC_eq, ← r1e, ← r4e]; first | (rw [if_pos (by omega)]; done) | (rw [if_neg (by omega), if_pos (by omega)]; done) | (rw [if_neg (by omega), if_neg (by omega)]; assumption)))
  · replace q7 : ¬ (¬ (r1 : Int) = (-1)) := q7
    refine Tx.iload hC te_163_22 rfl ?_
    exact Tx.ireturn hC te_163_24 rfl (fun hr => show K t mem from H _ (by rw [lkC_eq, ← r1e, ← r4e]; first | (rw [if_pos (by omega)]; done) | (rw [if_neg (by omega), if_pos (by omega)]; done) | (rw [if_neg (by omega), if_neg (by omega)]; assumption)))
theorem f_162x {S : Nat × (Nat → Int32)} {n : Nat} {mem : MM} {K : Int → MM → Prop} {E : Nat → MM → Prop} (hB : BodyOK mem) {o t : Int} (ho : 0 ≤ o ∧ o < 8) (ht : 0 ≤ t ∧ t ≤ 39) (H : ∀ r m', r = acC mem o.toNat t.toNat → m' = (if mem 2 o.toNat = 5 then upm mem (136 + (rowB mem o.toNat).toNat) (t + plcB mem o.toNat).toNat r else mem) → Frm pPx mem m' → K r m') : CQI (Ex S (n + 3)) 162 [.inr 134, .inr 1, .inl o, .inl t] mem K E := by
  refine CY.of (k := 3) mt_162 rfl rfl (fun hv => ?_)
  have hC := Ex.mono S (n + 2)
  have ii_o : InI o := hv (.inl o) (by simp)
  unfold InI at ii_o
  have ii_t : InI t := hv (.inl t) (by simp)
  unfold InI at ii_t
  clear hv
  have et : ((t.toNat : Nat) : Int) = t := by omega
  have hkd := hB.kd (o := o.toNat) (by omega)
  have hcs : ¬ mem 2 o.toNat = 4 → 1 ≤ csN mem o.toNat ∧ (¬ mem 2 o.toNat = 5 → csN mem o.toNat = 2) := fun k4 => by
    unfold csN
    rw [if_neg k4]
    refine ⟨by split <;> omega, fun k5 => if_neg k5⟩
  have hrw : 4 ≤ mem 2 o.toNat → (0 ≤ rowB mem o.toNat ∧ rowB mem o.toNat ≤ 1) ∧ 0 ≤ plcB mem o.toNat ∧ plcB mem o.toNat ≤ 7 := fun k => by
    have := hB.row (o := o.toNat) (by omega) k
    omega
  show Tx (Ex S (n + 2)) S M_162 (kI K E) 0 0 0 [some (.inr 134), some (.inr 1), some (.inl o), some (.inl t), none, none, none] [] mem
  refine Tx.aload_n hC te_162_0 rfl ?_
  refine Tx.getR hC te_162_1 rfl rfl rfl ?_
  refine Tx.iload_n hC te_162_4 rfl ?_
  refine Tx.iald hC te_162_5 rfl (by omega) (fun v1 v1e v1i => ?_)
  unfold InI at v1i
  refine Tx.istore hC te_162_6 rfl ?_
  refine Tx.iload hC te_162_8 rfl ?_
  refine Tx.iconst hC te_162_10 rfl ?_
  refine Tx.icmp hC (t := 33) te_162_11 (by decide) (fun q2 => ?_) (fun q2 => ?_)
  · replace q2 : ¬ (v1 : Int) = 4 := q2
    refine Tx.aload_n hC te_162_33 rfl ?_
    refine Tx.aload_n hC te_162_34 rfl ?_
    refine Tx.iload_n hC te_162_35 rfl ?_
    refine Tx.iconst hC te_162_36 rfl ?_
    refine Tx.iload_n hC te_162_37 rfl ?_
    refine Tx.virtI hC te_162_38 mt_163 (args := [.inr 134, .inr 1, .inl o, .inl 0, .inl t]) (rest := []) (c' := 0) (s' := 0) rfl rfl rfl rfl rfl rfl rfl rfl rfl rfl ?_
    refine f_163x hB (by omega) (by omega) (by omega) (fun r3 r3e r3i => ?_)
    change r3 = lkC mem o.toNat 0 t at r3e
    unfold InI at r3i
    refine Tx.istore hC te_162_41 rfl ?_
    refine Tx.iload hC te_162_43 rfl ?_
    refine Tx.iconst hC te_162_45 rfl ?_
    refine Tx.icmp hC (t := 72) te_162_46 (by decide) (fun q6 => ?_) (fun q6 => ?_)
    · replace q6 : ¬ (v1 : Int) = 5 := q6
      refine Tx.aload_n hC te_162_72 rfl ?_
      refine Tx.aload_n hC te_162_73 rfl ?_
      refine Tx.iload_n hC te_162_74 rfl ?_
      refine Tx.iconst hC te_162_75 rfl ?_
      refine Tx.iload_n hC te_162_76 rfl ?_
      refine Tx.virtI hC te_162_77 mt_163 (args := [.inr 134, .inr 1, .inl o, .inl 1, .inl t]) (rest := []) (c' := 0) (s' := 0) rfl rfl rfl rfl rfl rfl rfl rfl rfl rfl ?_
      refine f_163x hB (by omega) (by omega) (by omega) (fun r7 r7e r7i => ?_)
      change r7 = lkC mem o.toNat 1 t at r7e
      unfold InI at r7i
      refine Tx.istore hC te_162_80 rfl ?_
      refine Tx.iload hC te_162_82 rfl ?_
      refine Tx.tsw hC (t := 130) (ts := [112, 118, 124]) te_162_84 rfl (by decide) rfl (fun q10 => ?_) (fun i t e q10 => ?_)
      · skip
        refine Tx.iload hC te_162_130 rfl ?_
        refine Tx.iload hC te_162_132 rfl ?_
        refine Tx.statI hC te_162_134 (by decide) mt_29 (args := [.inl r3, .inl r7]) (rest := []) (c' := 0) (s' := 0) rfl rfl rfl rfl rfl rfl rfl ?_
        refine f_29q (fun r11 r11a r11b r11c r11i => ?_)
        unfold InI at r11i
        exact Tx.ireturn hC te_162_137 rfl (fun hr => show K r11 mem from H _ _ (by { rw [acC_eq, et]; first | (rw [if_pos (by omega), r11e, eR, ← hh, ← hh]; congr 1; omega) | (rw [if_neg (by omega), if_pos (by omega)]; assumption) | (rw [if_neg (by omega), if_neg (by omega), ← r3e, ← r7e]; unfold opM; first | (rw [if_pos (by omega)]; assumption) | (rw [if_neg (by omega), if_pos (by omega)]; assumption) | (rw [if_neg (by omega), if_neg (by omega), if_pos (by omega)]; assumption) | (rw [if_neg (by omega), if_neg (by omega), if_neg (by omega)]; omega)) }) (by rw [if_neg (by omega)]) (Frm.rf))
      · have hi : i = 0 ∨ i = 1 ∨ i = 2 := by
          have := (List.getElem?_eq_some_iff.mp e).1
          simp only [List.length_cons, List.length_nil] at this
          omega
        rcases hi with hi | hi | hi
        · subst hi
          cases (show some 112 = some t from e)
          refine Tx.iload hC te_162_112 rfl ?_
          refine Tx.iload hC te_162_114 rfl ?_
          refine Tx.iaddX hC te_162_116 (fun z14 z14i z14e => ?_)
          unfold InI at z14i
          exact Tx.ireturn hC te_162_117 rfl (fun hr => show K z14 mem from H _ _ (by { rw [acC_eq, et]; first | (rw [if_pos (by omega), z14e, eR, ← hh, ← hh]; congr 1; omega) | (rw [if_neg (by omega), if_pos (by omega)]; assumption) | (rw [if_neg (by omega), if_neg (by omega), ← r3e, ← r7e]; unfold opM; first | (rw [if_pos (by omega)]; assumption) | (rw [if_neg (by omega), if_pos (by omega)]; assumption) | (rw [if_neg (by omega), if_neg (by omega), if_pos (by omega)]; assumption) | (rw [if_neg (by omega), if_neg (by omega), if_neg (by omega)]; omega)) }) (by rw [if_neg (by omega)]) (Frm.rf))
        · subst hi
          cases (show some 118 = some t from e)
          refine Tx.iload hC te_162_118 rfl ?_
          refine Tx.iload hC te_162_120 rfl ?_
          refine Tx.isubX hC te_162_122 (fun z15 z15i z15e => ?_)
          unfold InI at z15i
          exact Tx.ireturn hC te_162_123 rfl (fun hr => show K z15 mem from H _ _ (by { rw [acC_eq, et]; first | (rw [if_pos (by omega), z15e, eR, ← hh, ← hh]; congr 1; omega) | (rw [if_neg (by omega), if_pos (by omega)]; assumption) | (rw [if_neg (by omega), if_neg (by omega), ← r3e, ← r7e]; unfold opM; first | (rw [if_pos (by omega)]; assumption) | (rw [if_neg (by omega), if_pos (by omega)]; assumption) | (rw [if_neg (by omega), if_neg (by omega), if_pos (by omega)]; assumption) | (rw [if_neg (by omega), if_neg (by omega), if_neg (by omega)]; omega)) }) (by rw [if_neg (by omega)]) (Frm.rf))
        · subst hi
          cases (show some 124 = some t from e)
          refine Tx.iload hC te_162_124 rfl ?_
          refine Tx.iload hC te_162_126 rfl ?_
          refine Tx.imulX hC te_162_128 (fun z16 z16i z16e => ?_)
          unfold InI at z16i
          exact Tx.ireturn hC te_162_129 rfl (fun hr => show K z16 mem from H _ _ (by { rw [acC_eq, et]; first | (rw [if_pos (by omega), z16e, eR, ← hh, ← hh]; congr 1; omega) | (rw [if_neg (by omega), if_pos (by omega)]; assumption) | (rw [if_neg (by omega), if_neg (by omega), ← r3e, ← r7e]; unfold opM; first | (rw [if_pos (by omega)]; assumption) | (rw [if_neg (by omega), if_pos (by omega)]; assumption) | (rw [if_neg (by omega), if_neg (by omega), if_pos (by omega)]; assumption) | (rw [if_neg (by omega), if_neg (by omega), if_neg (by omega)]; omega)) }) (by rw [if_neg (by omega)]) (Frm.rf))
    · replace q6 : ¬ (¬ (v1 : Int) = 5) := q6
      refine Tx.aload_n hC te_162_49 rfl ?_
      refine Tx.getR hC te_162_50 rfl rfl rfl ?_
      refine Tx.aload_n hC te_162_53 rfl ?_
      refine Tx.iload_n hC te_162_54 rfl ?_
      refine Tx.virtI hC te_162_55 mt_24 (args := [.inr 1, .inl o]) (rest := [.inr 135]) (c' := 0) (s' := 0) rfl rfl rfl rfl rfl rfl rfl rfl rfl rfl ?_
      refine f_24q (by omega) (fun r17 r17e r17i => ?_)
      unfold InI at r17i
      refine Tx.aaldP hC te_162_58 (by omega) (fun R eR => ?_)
      have hR : shA R = some (.inl 64) := rowP eR (by omega)
      refine Tx.iload_n hC te_162_59 rfl ?_
      refine Tx.aload_n hC te_162_60 rfl ?_
      refine Tx.iload_n hC te_162_61 rfl ?_
      refine Tx.virtI hC te_162_62 mt_25 (args := [.inr 1, .inl o]) (rest := [.inl t, .inr R]) (c' := 0) (s' := 0) rfl rfl rfl rfl rfl rfl rfl rfl rfl rfl ?_
      refine f_25q (by omega) (fun r20 r20e r20i => ?_)
      unfold InI at r20i
      refine Tx.iaddW hC te_162_65 (fun z23 z23i z23e => ?_)
      unfold InI at z23i z23e
      first | replace z23e := z23e (by omega) | clear z23e
      refine Tx.iload hC te_162_66 rfl ?_
      refine Tx.iast hC te_162_68 hR (by omega) ?_
      refine Tx.iload hC te_162_69 rfl ?_
      exact Tx.ireturn hC te_162_71 rfl (fun hr => show K r3 (upm mem R (Int.toNat z23) r3) from H _ _ (by { rw [acC_eq, et]; first | (rw [if_pos (by omega), r3e, eR, ← r17e, ← r20e]; congr 1; omega) | (rw [if_neg (by omega), if_pos (by omega)]; assumption) | (rw [if_neg (by omega), if_neg (by omega), ← r3e, ← hh]; unfold opM; first | (rw [if_pos (by omega)]; assumption) | (rw [if_neg (by omega), if_pos (by omega)]; assumption) | (rw [if_neg (by omega), if_neg (by omega), if_pos (by omega)]; assumption) | (rw [if_neg (by omega), if_neg (by omega), if_neg (by omega)]; omega)) }) (by { rw [if_pos (by omega), eR, ← r17e, ← r20e]; congr 1; omega }) (Frm.up Frm.rf (by unfold pPx; omega)))
  · replace q2 : ¬ (¬ (v1 : Int) = 4) := q2
    refine Tx.aload_n hC te_162_14 rfl ?_
    refine Tx.getR hC te_162_15 rfl rfl rfl ?_
    refine Tx.aload_n hC te_162_18 rfl ?_
    refine Tx.iload_n hC te_162_19 rfl ?_
    refine Tx.virtI hC te_162_20 mt_24 (args := [.inr 1, .inl o]) (rest := [.inr 135]) (c' := 0) (s' := 0) rfl rfl rfl rfl rfl rfl rfl rfl rfl rfl ?_
    refine f_24q (by omega) (fun r25 r25e r25i => ?_)
    unfold InI at r25i
    refine Tx.aaldP hC te_162_23 (by omega) (fun R eR => ?_)
    have hR : shA R = some (.inl 64) := rowP eR (by omega)
    refine Tx.iload_n hC te_162_24 rfl ?_
    refine Tx.aload_n hC te_162_25 rfl ?_
    refine Tx.iload_n hC te_162_26 rfl ?_
    refine Tx.virtI hC te_162_27 mt_25 (args := [.inr 1, .inl o]) (rest := [.inl t, .inr R]) (c' := 0) (s' := 0) rfl rfl rfl rfl rfl rfl rfl rfl rfl rfl ?_
    refine f_25q (by omega) (fun r28 r28e r28i => ?_)
    unfold InI at r28i
    refine Tx.iaddW hC te_162_30 (fun z31 z31i z31e => ?_)
    unfold InI at z31i z31e
    first | replace z31e := z31e (by omega) | clear z31e
    refine Tx.iald hC te_162_31 hR (by omega) (fun v32 v32e v32i => ?_)
    unfold InI at v32i
    exact Tx.ireturn hC te_162_32 rfl (fun hr => show K v32 mem from H _ _ (by { rw [acC_eq, et]; first | (rw [if_pos (by omega), v32e, eR, ← r25e, ← r28e]; congr 1; omega) | (rw [if_neg (by omega), if_pos (by omega)]; assumption) | (rw [if_neg (by omega), if_neg (by omega), ← hh, ← hh]; unfold opM; first | (rw [if_pos (by omega)]; assumption) | (rw [if_neg (by omega), if_pos (by omega)]; assumption) | (rw [if_neg (by omega), if_neg (by omega), if_pos (by omega)]; assumption) | (rw [if_neg (by omega), if_neg (by omega), if_neg (by omega)]; omega)) }) (by rw [if_neg (by omega)]) (Frm.rf))
theorem f_161x {S : Nat × (Nat → Int32)} {n : Nat} {mem : MM} {K : MM → Prop} {E : Nat → MM → Prop} (hB : BodyOK mem) (hS : SndX mem) {t : Int} (ht : 0 ≤ t ∧ t ≤ 40) (H : ∀ m', Frm pPx mem m' → PlC m' (trM (acsC mem) (mem 1 0).toNat t.toNat) (mem 1 0).toNat t.toNat 0 → K m') : CQV (Ex S (n + 4)) 161 [.inr 134, .inr 1, .inl t] mem K E := by
  refine CY.of (k := 2) mt_161 rfl rfl (fun hv => ?_)
  have hC := Ex.mono S (n + 3)
  have ii_t : InI t := hv (.inl t) (by simp)
  unfold InI at ii_t
  clear hv
  have h8 := hB.1
  show Tx (Ex S (n + 3)) S M_161 (kV K E) 0 0 0 [some (.inr 134), some (.inr 1), some (.inl t), none, none] [] mem
  have l_43 : ∀ (N : Nat) (x3 : Int) (m_43 : MM), (0 ≤ x3 ∧ x3 ≤ t) → (PlC m_43 (trM (acsC mem) (mem 1 0).toNat (Int.toNat x3)) (mem 1 0).toNat (Int.toNat x3) 0) → ((40 - x3).toNat) < N → Frm pPx mem m_43 → Tx (Ex S (n + 3)) S M_161 (kV K E) 0 0 43 [some (.inr 134), some (.inr 1), some (.inl t), some (.inl x3), none] [] m_43 := by
    intro N
    induction N with
    | zero => intros; omega
    | succ N ih_43 =>
      intro x3 m_43 i43_0 i43_1 hN_43 hF_43
      have l_51 : ∀ (N : Nat) (x4 : Int) (m_51 : MM), (0 ≤ x4 ∧ x4 ≤ mem 1 0) → (0 ≤ x3 ∧ x3 < t) → (PlC m_51 (opsM (acsC mem) (trM (acsC mem) (mem 1 0).toNat (Int.toNat x3)) (Int.toNat x3) (Int.toNat x4)) (mem 1 0).toNat (Int.toNat x3) (Int.toNat x4)) → ((8 - x4).toNat) < N → Frm pPx mem m_51 → Tx (Ex S (n + 3)) S M_161 (kV K E) 0 0 51 [some (.inr 134), some (.inr 1), some (.inl t), some (.inl x3), some (.inl x4)] [] m_51 := by
        intro N
        induction N with
        | zero => intros; omega
        | succ N ih_51 =>
          intro x4 m_51 i51_0 i51_1 i51_2 hN_51 hF_51
          refine Tx.iload hC te_161_51 rfl ?_
          refine Tx.aload_n hC te_161_53 rfl ?_
          refine Tx.getI hC te_161_54 rfl rfl rfl (fun v1 v1e v1i => ?_)
          unfold InI at v1i
          rw [hF_51 1 _ (by unfold pPx; omega)] at v1e
          refine Tx.icmp hC (t := 86) te_161_57 (by decide) (fun q2 => ?_) (fun q2 => ?_)
          · replace q2 : v1 ≤ (x4 : Int) := q2
            refine Tx.iincW hC te_161_86 rfl rfl (fun z3 z3i z3e => ?_)
            unfold InI at z3i z3e
            first | replace z3e := z3e (by omega) | clear z3e
            refine Tx.goto hC (t := 43) te_161_89 (by decide) ?_
            exact Tx.weak (by repeat' (first | exact trivial | exact rfl | constructor)) (ih_43 z3 m_51 (by omega) (by { have q := PlC.turn (i51_2.eqN (show Int.toNat x4 = (mem 1 0).toNat by omega)); rw [show Int.toNat z3 = Int.toNat x3 + 1 by omega]; exact q }) (by omega) hF_51)
          · replace q2 : ¬ (v1 ≤ (x4 : Int)) := q2
            refine Tx.aload_n hC te_161_60 rfl ?_
            refine Tx.getR hC te_161_61 rfl rfl rfl ?_
            refine Tx.iload hC te_161_64 rfl ?_
            refine Tx.bipush hC te_161_66 rfl rfl ?_
            refine Tx.imulW hC te_161_68 (fun z4 z4i z4e => ?_)
            unfold InI at z4i z4e
            first | replace z4e := z4e (by omega) | clear z4e
            refine Tx.iload_n hC te_161_69 rfl ?_
            refine Tx.iaddW hC te_161_70 (fun z5 z5i z5e => ?_)
            unfold InI at z5i z5e
            first | replace z5e := z5e (by omega) | clear z5e
            refine Tx.aload_n hC te_161_71 rfl ?_
            refine Tx.aload_n hC te_161_72 rfl ?_
            refine Tx.iload hC te_161_73 rfl ?_
            refine Tx.iload_n hC te_161_75 rfl ?_
            refine Tx.virtI hC te_161_76 mt_162 (args := [.inr 134, .inr 1, .inl x4, .inl x3]) (rest := [.inl z5, .inr 138]) (c' := 0) (s' := 0) rfl rfl rfl rfl rfl rfl rfl rfl rfl rfl ?_
            refine f_162x (hB.fr (fun A i a b => hF_51 A i (by unfold pPx; omega))) (by omega) (by omega) (fun r6 m7 r6v r6m r6f r6i => ?_)
            have hF8n : Frm pPx mem m7 := hF_51.tr r6f
            unfold InI at r6i
            refine Tx.iast hC te_161_79 rfl (by omega) ?_
            obtain ⟨m9, hm9⟩ : ∃ m' : MM, m' = upm m7 138 (Int.toNat z5) r6 := ⟨_, rfl⟩
            rw [← hm9]
            have hF10 : Frm pPx mem m9 := by { rw [hm9]; exact Frm.up (hF8n) (by unfold pPx; omega) }
            refine Tx.iincW hC te_161_80 rfl rfl (fun z11 z11i z11e => ?_)
            unfold InI at z11i z11e
            first | replace z11e := z11e (by omega) | clear z11e
            refine Tx.goto hC (t := 51) te_161_83 (by decide) ?_
            exact ih_51 z11 m9 (by omega) (by omega) (by { have q := i51_2.step (m2 := m9) hB hS (fun A i a b => hF_51 A i (by unfold pPx; omega)) rfl (by omega) (by omega) (by { rw [hm9, r6m, show Int.toNat z5 = 40 * Int.toNat x4 + Int.toNat x3 by omega, r6v, show ((Int.toNat x3 : Nat) : Int) = x3 by omega] }); rw [show Int.toNat z11 = Int.toNat x4 + 1 by omega]; exact q }) (by omega) hF10
      refine Tx.iload_n hC te_161_43 rfl ?_
      refine Tx.iload_n hC te_161_44 rfl ?_
      refine Tx.icmp hC (t := 92) te_161_45 (by decide) (fun q12 => ?_) (fun q12 => ?_)
      · replace q12 : t ≤ (x3 : Int) := q12
        exact Tx.vret hC te_161_92 rfl (show K m_43 from H _ hF_43 (by { have e : Int.toNat x3 = Int.toNat t := by { omega }; rw [← e]; exact i43_1 }))
      · replace q12 : ¬ (t ≤ (x3 : Int)) := q12
        refine Tx.iconst hC te_161_48 rfl ?_
        refine Tx.istore hC te_161_49 rfl ?_
        exact l_51 _ 0 m_43 (by omega) (by omega) (i43_1) (Nat.lt_succ_self _) hF_43
  have l_2 : ∀ (N : Nat) (x3 : Int) (m_2 : MM), (0 ≤ x3) → (∀ j : Nat, (j : Int) < x3 → m_2 136 j = 3 * (j : Int) + 1 ∧ m_2 137 j = 7 * (j : Int) - 5) → ((64 - x3).toNat) < N → Frm pPx mem m_2 → Tx (Ex S (n + 3)) S M_161 (kV K E) 0 0 2 [some (.inr 134), some (.inr 1), some (.inl t), some (.inl x3), none] [] m_2 := by
    intro N
    induction N with
    | zero => intros; omega
    | succ N ih_2 =>
      intro x3 m_2 i2_0 i2_1 hN_2 hF_2
      refine Tx.iload_n hC te_161_2 rfl ?_
      refine Tx.bipush hC te_161_3 rfl rfl ?_
      refine Tx.icmp hC (t := 41) te_161_5 (by decide) (fun q13 => ?_) (fun q13 => ?_)
      · replace q13 : 64 ≤ (x3 : Int) := q13
        refine Tx.iconst hC te_161_41 rfl ?_
        refine Tx.istore_n hC te_161_42 rfl ?_
        exact l_43 _ 0 m_2 (by omega) (PlC.of_fill (fun j hj => i2_1 j (by omega))) (Nat.lt_succ_self _) hF_2
      · replace q13 : ¬ (64 ≤ (x3 : Int)) := q13
        refine Tx.aload_n hC te_161_8 rfl ?_
        refine Tx.getR hC te_161_9 rfl rfl rfl ?_
        refine Tx.iconst hC te_161_12 rfl ?_
        refine Tx.aaldP hC te_161_13 (by omega) (fun R eR => ?_)
        have hR : shA R = some (.inl 64) := rowP eR (by omega)
        refine Tx.iload_n hC te_161_14 rfl ?_
        refine Tx.iconst hC te_161_15 rfl ?_
        refine Tx.iload_n hC te_161_16 rfl ?_
        refine Tx.imulW hC te_161_17 (fun z14 z14i z14e => ?_)
        unfold InI at z14i z14e
        first | replace z14e := z14e (by omega) | clear z14e
        refine Tx.iconst hC te_161_18 rfl ?_
        refine Tx.iaddW hC te_161_19 (fun z15 z15i z15e => ?_)
        unfold InI at z15i z15e
        first | replace z15e := z15e (by omega) | clear z15e
        refine Tx.iast hC te_161_20 hR (by omega) ?_
        obtain ⟨m16, hm16⟩ : ∃ m' : MM, m' = upm m_2 R (Int.toNat x3) z15 := ⟨_, rfl⟩
        rw [← hm16]
        have hF17 : Frm pPx mem m16 := by { rw [hm16]; exact Frm.up (hF_2) (by unfold pPx; omega) }
        rw [show R = 136 by omega] at hm16
        refine Tx.aload_n hC te_161_21 rfl ?_
        refine Tx.getR hC te_161_22 rfl rfl rfl ?_
        refine Tx.iconst hC te_161_25 rfl ?_
        refine Tx.aaldP hC te_161_26 (by omega) (fun R eR => ?_)
        have hR : shA R = some (.inl 64) := rowP eR (by omega)
        refine Tx.iload_n hC te_161_27 rfl ?_
        refine Tx.bipush hC te_161_28 rfl rfl ?_
        refine Tx.iload_n hC te_161_30 rfl ?_
        refine Tx.imulW hC te_161_31 (fun z18 z18i z18e => ?_)
        unfold InI at z18i z18e
        first | replace z18e := z18e (by omega) | clear z18e
        refine Tx.iconst hC te_161_32 rfl ?_
        refine Tx.isubW hC te_161_33 (fun z19 z19i z19e => ?_)
        unfold InI at z19i z19e
        first | replace z19e := z19e (by omega) | clear z19e
        refine Tx.iast hC te_161_34 hR (by omega) ?_
        obtain ⟨m20, hm20⟩ : ∃ m' : MM, m' = upm m16 R (Int.toNat x3) z19 := ⟨_, rfl⟩
        rw [← hm20]
        have hF21 : Frm pPx mem m20 := by { rw [hm20]; exact Frm.up (hF17) (by unfold pPx; omega) }
        rw [show R = 137 by omega] at hm20
        refine Tx.iincW hC te_161_35 rfl rfl (fun z22 z22i z22e => ?_)
        unfold InI at z22i z22e
        first | replace z22e := z22e (by omega) | clear z22e
        refine Tx.goto hC (t := 2) te_161_38 (by decide) ?_
        exact ih_2 z22 m20 (by omega) (fun j hj => by
              rw [hm20, hm16]
              by_cases w : j = Int.toNat x3
              · subst w
                refine ⟨?_, ?_⟩
                · rw [upm_ne (by omega), upm_eq]; omega
                · rw [upm_eq]; omega
              · rw [upm_ne (by omega), upm_ne (by omega), upm_ne (by omega), upm_ne (by omega)]; exact i2_1 j (by omega)) (by omega) hF21
  refine Tx.iconst hC te_161_0 rfl ?_
  refine Tx.istore_n hC te_161_1 rfl ?_
  exact l_2 _ 0 mem (by omega) (fun j hj => absurd hj (by omega)) (Nat.lt_succ_self _) Frm.rf
theorem f_324x {S : Nat × (Nat → Int32)} {n : Nat} {mem : MM} {K : Int → MM → Prop} {E : Nat → MM → Prop} {k a b : Int} (H : ∀ r, r = opM k a b → K r mem) : CQI (Ex S (n + 2)) 324 [.inl k, .inl a, .inl b] mem K E := by
  refine CY.of (k := 0) mt_324 rfl rfl (fun hv => ?_)
  have hC := Ex.mono S (n + 1)
  have ii_k : InI k := hv (.inl k) (by simp)
  unfold InI at ii_k
  have ii_a : InI a := hv (.inl a) (by simp)
  unfold InI at ii_a
  have ii_b : InI b := hv (.inl b) (by simp)
  unfold InI at ii_b
  clear hv
  show Tx (Ex S (n + 1)) S M_324 (kI K E) 0 0 0 [some (.inl k), some (.inl a), some (.inl b)] [] mem
  refine Tx.iload_n hC te_324_0 rfl ?_
  refine Tx.ifc hC (t := 10) te_324_1 (by decide) (fun q1 => ?_) (fun q1 => ?_)
  · replace q1 : ¬ (k : Int) = 0 := q1
    refine Tx.iload_n hC te_324_10 rfl ?_
    refine Tx.iconst hC te_324_11 rfl ?_
    refine Tx.icmp hC (t := 21) te_324_12 (by decide) (fun q2 => ?_) (fun q2 => ?_)
    · replace q2 : ¬ (k : Int) = 1 := q2
      refine Tx.iload_n hC te_324_21 rfl ?_
      refine Tx.iconst hC te_324_22 rfl ?_
      refine Tx.icmp hC (t := 32) te_324_23 (by decide) (fun q3 => ?_) (fun q3 => ?_)
      · replace q3 : ¬ (k : Int) = 2 := q3
        refine Tx.iload_n hC te_324_32 rfl ?_
        refine Tx.iload_n hC te_324_33 rfl ?_
        refine Tx.statI hC te_324_34 (by decide) mt_258 (args := [.inl a, .inl b]) (rest := []) (c' := 0) (s' := 0) rfl rfl rfl rfl rfl rfl rfl ?_
        refine f_258q (fun r4 r4e r4i => ?_)
        unfold InI at r4i
        exact Tx.ireturn hC te_324_37 rfl (fun hr => show K r4 mem from H _ (by unfold opM; first | (rw [if_pos (by omega)]; assumption) | (rw [if_neg (by omega), if_pos (by omega)]; assumption) | (rw [if_neg (by omega), if_neg (by omega), if_pos (by omega)]; assumption) | (rw [if_neg (by omega), if_neg (by omega), if_neg (by omega)]; assumption)))
      · replace q3 : ¬ (¬ (k : Int) = 2) := q3
        refine Tx.iload_n hC te_324_26 rfl ?_
        refine Tx.iload_n hC te_324_27 rfl ?_
        refine Tx.imulX hC te_324_28 (fun z7 z7i z7e => ?_)
        unfold InI at z7i
        refine Tx.goto hC (t := 37) te_324_29 (by decide) ?_
        exact Tx.ireturn hC te_324_37 rfl (fun hr => show K z7 mem from H _ (by unfold opM; first | (rw [if_pos (by omega)]; assumption) | (rw [if_neg (by omega), if_pos (by omega)]; assumption) | (rw [if_neg (by omega), if_neg (by omega), if_pos (by omega)]; assumption) | (rw [if_neg (by omega), if_neg (by omega), if_neg (by omega)]; assumption)))
    · replace q2 : ¬ (¬ (k : Int) = 1) := q2
      refine Tx.iload_n hC te_324_15 rfl ?_
      refine Tx.iload_n hC te_324_16 rfl ?_
      refine Tx.isubX hC te_324_17 (fun z8 z8i z8e => ?_)
      unfold InI at z8i
      refine Tx.goto hC (t := 37) te_324_18 (by decide) ?_
      exact Tx.ireturn hC te_324_37 rfl (fun hr => show K z8 mem from H _ (by unfold opM; first | (rw [if_pos (by omega)]; assumption) | (rw [if_neg (by omega), if_pos (by omega)]; assumption) | (rw [if_neg (by omega), if_neg (by omega), if_pos (by omega)]; assumption) | (rw [if_neg (by omega), if_neg (by omega), if_neg (by omega)]; assumption)))
  · replace q1 : ¬ (¬ (k : Int) = 0) := q1
    refine Tx.iload_n hC te_324_4 rfl ?_
    refine Tx.iload_n hC te_324_5 rfl ?_
    refine Tx.iaddX hC te_324_6 (fun z9 z9i z9e => ?_)
    unfold InI at z9i
    refine Tx.goto hC (t := 37) te_324_7 (by decide) ?_
    exact Tx.ireturn hC te_324_37 rfl (fun hr => show K z9 mem from H _ (by unfold opM; first | (rw [if_pos (by omega)]; assumption) | (rw [if_neg (by omega), if_pos (by omega)]; assumption) | (rw [if_neg (by omega), if_neg (by omega), if_pos (by omega)]; assumption) | (rw [if_neg (by omega), if_neg (by omega), if_neg (by omega)]; assumption)))
theorem f_330x {S : Nat × (Nat → Int32)} {n : Nat} {mem : MM} {K : Int → MM → Prop} {E : Nat → MM → Prop} (h : RefOK mem) {o k t : Int} (ho : 0 ≤ o ∧ o < 8) (hk : 0 ≤ k ∧ k < srcN mem o.toNat) (ht : 0 ≤ t ∧ t ≤ 39) (H : ∀ r, r = lkR mem o.toNat k.toNat t → K r mem) : CQI (Ex S (n + 2)) 330 [.inr 143, .inl o, .inl k, .inl t] mem K E := by
  refine CY.of (k := 2) mt_330 rfl rfl (fun hv => ?_)
  have hC := Ex.mono S (n + 1)
  have ii_o : InI o := hv (.inl o) (by simp)
  unfold InI at ii_o
  have ii_k : InI k := hv (.inl k) (by simp)
  unfold InI at ii_k
  have ii_t : InI t := hv (.inl t) (by simp)
  unfold InI at ii_t
  clear hv
  have hsr := h.ops.src (o := o.toNat) (by omega) hk.1 hk.2
  have ek : ((k.toNat : Nat) : Int) = k := by omega
  unfold srcOK at hsr
  show Tx (Ex S (n + 1)) S M_330 (kI K E) 0 0 0 [some (.inr 143), some (.inl o), some (.inl k), some (.inl t), none, none] [] mem
  refine Tx.aload_n hC te_330_0 rfl ?_
  refine Tx.iload_n hC te_330_1 rfl ?_
  refine Tx.iload_n hC te_330_2 rfl ?_
  refine Tx.virtI hC te_330_3 mt_242 (args := [.inr 143, .inl o, .inl k]) (rest := []) (c' := 0) (s' := 0) rfl rfl rfl rfl rfl rfl rfl rfl rfl rfl ?_
  refine f_242q (by omega) (fun r1 r1e r1i => ?_)
  unfold InI at r1i
  refine Tx.istore hC te_330_6 rfl ?_
  refine Tx.iload hC te_330_8 rfl ?_
  refine Tx.iconst hC te_330_10 rfl ?_
  refine Tx.icmp hC (t := 16) te_330_11 (by decide) (fun q4 => ?_) (fun q4 => ?_)
  · replace q4 : ¬ (r1 : Int) = (-1) := q4
    refine Tx.iload hC te_330_16 rfl ?_
    refine Tx.bipush hC te_330_18 rfl rfl ?_
    refine Tx.icmp hC (t := 30) te_330_20 (by decide) (fun q5 => ?_) (fun q5 => ?_)
    · replace q5 : ¬ (r1 : Int) = (-2) := q5
      refine Tx.iload_n hC te_330_30 rfl ?_
      refine Tx.aload_n hC te_330_31 rfl ?_
      refine Tx.iload_n hC te_330_32 rfl ?_
      refine Tx.iload_n hC te_330_33 rfl ?_
      refine Tx.virtI hC te_330_34 mt_243 (args := [.inr 143, .inl o, .inl k]) (rest := [.inl t]) (c' := 0) (s' := 0) rfl rfl rfl rfl rfl rfl rfl rfl rfl rfl ?_
      refine f_243q (by omega) (fun r6 r6e r6i => ?_)
      unfold InI at r6i
      refine Tx.isubW hC te_330_37 (fun z9 z9i z9e => ?_)
      unfold InI at z9i z9e
      first | replace z9e := z9e (by omega) | clear z9e
      refine Tx.istore hC te_330_38 rfl ?_
      refine Tx.iload hC te_330_40 rfl ?_
      refine Tx.ifc hC (t := 55) te_330_42 (by decide) (fun q10 => ?_) (fun q10 => ?_)
      · replace q10 : 0 ≤ (z9 : Int) := q10
        refine Tx.aload_n hC te_330_55 rfl ?_
        refine Tx.getR hC te_330_56 rfl rfl rfl ?_
        refine Tx.bipush hC te_330_59 rfl rfl ?_
        refine Tx.iload hC te_330_61 rfl ?_
        refine Tx.imulW hC te_330_63 (fun z11 z11i z11e => ?_)
        unfold InI at z11i z11e
        first | replace z11e := z11e (by omega) | clear z11e
        refine Tx.iload hC te_330_64 rfl ?_
        refine Tx.iaddW hC te_330_66 (fun z12 z12i z12e => ?_)
        unfold InI at z12i z12e
        first | replace z12e := z12e (by omega) | clear z12e
        refine Tx.iald hC te_330_67 rfl (by omega) (fun v13 v13e v13i => ?_)
        unfold InI at v13i
        exact Tx.ireturn hC te_330_68 rfl (fun hr => show K v13 mem from H _ (by rw [lkR_eq, ek, ← r1e, ← r6e]; first | (rw [if_pos (by omega)]; done) | (rw [if_neg (by omega), if_pos (by omega)]; done) | (rw [if_neg (by omega), if_neg (by omega), if_pos (by omega)]; assumption) | (rw [if_neg (by omega), if_neg (by omega), if_neg (by omega), v13e]; congr 1; omega)))
      · replace q10 : ¬ (0 ≤ (z9 : Int)) := q10
        refine Tx.aload_n hC te_330_45 rfl ?_
        refine Tx.getR hC te_330_46 rfl rfl rfl ?_
        refine Tx.iload hC te_330_49 rfl ?_
        refine Tx.iald hC te_330_51 rfl (by omega) (fun v14 v14e v14i => ?_)
        unfold InI at v14i
        refine Tx.goto hC (t := 68) te_330_52 (by decide) ?_
        exact Tx.ireturn hC te_330_68 rfl (fun hr => show K v14 mem from H _ (by rw [lkR_eq, ek, ← r1e, ← r6e]; first | (rw [if_pos (by omega)]; done) | (rw [if_neg (by omega), if_pos (by omega)]; done) | (rw [if_neg (by omega), if_neg (by omega), if_pos (by omega)]; assumption) | (rw [if_neg (by omega), if_neg (by omega), if_neg (by omega), v14e]; congr 1; omega)))
    · replace q5 : ¬ (¬ (r1 : Int) = (-2)) := q5
      refine Tx.aload_n hC te_330_23 rfl ?_
      refine Tx.iload_n hC te_330_24 rfl ?_
      refine Tx.iload_n hC te_330_25 rfl ?_
      refine Tx.virtI hC te_330_26 mt_243 (args := [.inr 143, .inl o, .inl k]) (rest := []) (c' := 0) (s' := 0) rfl rfl rfl rfl rfl rfl rfl rfl rfl rfl ?_
      refine f_243q (by omega) (fun r15 r15e r15i => ?_)
      unfold InI at r15i
      exact Tx.ireturn hC te_330_29 rfl (fun hr => show K r15 mem from H _ (by rw [lkR_eq, ek, ← r1e, ← r15e]; first | (rw [if_pos (by omega)]; done) | (rw [if_neg (by omega), if_pos (by omega)]; done) | (rw [if_neg (by omega), if_neg (by omega), if_pos (by omega)]; assumption) | (rw [if_neg (by omega), if_neg (by omega), if_neg (by omega), r15e]; congr 1; omega)))
  · replace q4 : ¬ (¬ (r1 : Int) = (-1)) := q4
    refine Tx.iload_n hC te_330_14 rfl ?_
    exact Tx.ireturn hC te_330_15 rfl (fun hr => show K t mem from H _ (by rw [lkR_eq, ek, ← r1e]; first | (rw [if_pos (by omega)]; done) | (rw [if_neg (by omega), if_pos (by omega)]; done) | (rw [if_neg (by omega), if_neg (by omega), if_pos (by omega)]; assumption) | (rw [if_neg (by omega), if_neg (by omega), if_neg (by omega), te]; congr 1; omega)))
theorem f_329x {S : Nat × (Nat → Int32)} {n : Nat} {mem : MM} {K : Int → MM → Prop} {E : Nat → MM → Prop} (h : RefOK mem) {o t : Int} (ho : 0 ≤ o ∧ o < 8) (ht : 0 ≤ t ∧ t ≤ 39) (H : ∀ r, r = acR mem o.toNat t.toNat → K r mem) : CQI (Ex S (n + 3)) 329 [.inr 143, .inl o, .inl t] mem K E := by
  refine CY.of (k := 0) mt_329 rfl rfl (fun hv => ?_)
  have hC := Ex.mono S (n + 2)
  have ii_o : InI o := hv (.inl o) (by simp)
  unfold InI at ii_o
  have ii_t : InI t := hv (.inl t) (by simp)
  unfold InI at ii_t
  clear hv
  have et : ((t.toNat : Nat) : Int) = t := by omega
  have hkd := h.ops.2.1 o.toNat (by omega)
  unfold OpOK at hkd
  have hcs : ¬ mem 144 o.toNat = 4 → 1 ≤ srcN mem o.toNat ∧ (¬ mem 144 o.toNat = 5 → srcN mem o.toNat = 2) := fun k4 => by
    unfold srcN
    rw [if_neg k4]
    refine ⟨by split <;> omega, fun k5 => if_neg k5⟩
  have hrw : mem 144 o.toNat = 4 ∨ mem 144 o.toNat = 5 → (0 ≤ rowF mem o.toNat ∧ rowF mem o.toNat ≤ 1) ∧ 0 ≤ plcF mem o.toNat ∧ plcF mem o.toNat ≤ 7 := fun k => h.rw (o := o.toNat) (by omega) k
  show Tx (Ex S (n + 2)) S M_329 (kI K E) 0 0 0 [some (.inr 143), some (.inl o), some (.inl t)] [] mem
  refine Tx.aload_n hC te_329_0 rfl ?_
  refine Tx.getR hC te_329_1 rfl rfl rfl ?_
  refine Tx.iload_n hC te_329_4 rfl ?_
  refine Tx.iald hC te_329_5 rfl (by omega) (fun v1 v1e v1i => ?_)
  unfold InI at v1i
  refine Tx.iconst hC te_329_6 rfl ?_
  refine Tx.icmp hC (t := 32) te_329_7 (by decide) (fun q2 => ?_) (fun q2 => ?_)
  · replace q2 : ¬ (v1 : Int) = 4 := q2
    refine Tx.aload_n hC te_329_32 rfl ?_
    refine Tx.getR hC te_329_33 rfl rfl rfl ?_
    refine Tx.iload_n hC te_329_36 rfl ?_
    refine Tx.iald hC te_329_37 rfl (by omega) (fun v3 v3e v3i => ?_)
    unfold InI at v3i
    refine Tx.iconst hC te_329_38 rfl ?_
    refine Tx.icmp hC (t := 52) te_329_39 (by decide) (fun q4 => ?_) (fun q4 => ?_)
    · replace q4 : ¬ (v3 : Int) = 5 := q4
      refine Tx.aload_n hC te_329_52 rfl ?_
      refine Tx.getR hC te_329_53 rfl rfl rfl ?_
      refine Tx.iload_n hC te_329_56 rfl ?_
      refine Tx.iald hC te_329_57 rfl (by omega) (fun v5 v5e v5i => ?_)
      unfold InI at v5i
      refine Tx.aload_n hC te_329_58 rfl ?_
      refine Tx.iload_n hC te_329_59 rfl ?_
      refine Tx.iconst hC te_329_60 rfl ?_
      refine Tx.iload_n hC te_329_61 rfl ?_
      refine Tx.virtI hC te_329_62 mt_330 (args := [.inr 143, .inl o, .inl 0, .inl t]) (rest := [.inl v5]) (c' := 0) (s' := 0) rfl rfl rfl rfl rfl rfl rfl rfl rfl rfl ?_
      refine f_330x h (by omega) (by omega) (by omega) (fun r6 r6e r6i => ?_)
      change r6 = lkR mem o.toNat 0 t at r6e
      unfold InI at r6i
      refine Tx.aload_n hC te_329_65 rfl ?_
      refine Tx.iload_n hC te_329_66 rfl ?_
      refine Tx.iconst hC te_329_67 rfl ?_
      refine Tx.iload_n hC te_329_68 rfl ?_
      refine Tx.virtI hC te_329_69 mt_330 (args := [.inr 143, .inl o, .inl 1, .inl t]) (rest := [.inl r6, .inl v5]) (c' := 0) (s' := 0) rfl rfl rfl rfl rfl rfl rfl rfl rfl rfl ?_
      refine f_330x h (by omega) (by omega) (by omega) (fun r9 r9e r9i => ?_)
      change r9 = lkR mem o.toNat 1 t at r9e
      unfold InI at r9i
      refine Tx.statI hC te_329_72 (by decide) mt_324 (args := [.inl v5, .inl r6, .inl r9]) (rest := []) (c' := 0) (s' := 0) rfl rfl rfl rfl rfl rfl rfl ?_
      refine f_324x (fun r12 r12e r12i => ?_)
      have hkk : v5 = mem 144 o.toNat := by assumption
      rw [hkk] at r12e
      unfold InI at r12i
      exact Tx.ireturn hC te_329_75 rfl (fun hr => show K r12 mem from H _ (by rw [acR_eq, et]; first | (rw [if_pos (by omega), r12e, ← hh, ← hh]; congr 1; omega) | (rw [if_neg (by omega), if_pos (by omega)]; assumption) | (rw [if_neg (by omega), if_neg (by omega), ← r6e, ← r9e]; assumption)))
    · replace q4 : ¬ (¬ (v3 : Int) = 5) := q4
      refine Tx.aload_n hC te_329_42 rfl ?_
      refine Tx.iload_n hC te_329_43 rfl ?_
      refine Tx.iconst hC te_329_44 rfl ?_
      refine Tx.iload_n hC te_329_45 rfl ?_
      refine Tx.virtI hC te_329_46 mt_330 (args := [.inr 143, .inl o, .inl 0, .inl t]) (rest := []) (c' := 0) (s' := 0) rfl rfl rfl rfl rfl rfl rfl rfl rfl rfl ?_
      refine f_330x h (by omega) (by omega) (by omega) (fun r15 r15e r15i => ?_)
      change r15 = lkR mem o.toNat 0 t at r15e
      unfold InI at r15i
      refine Tx.goto hC (t := 75) te_329_49 (by decide) ?_
      exact Tx.ireturn hC te_329_75 rfl (fun hr => show K r15 mem from H _ (by rw [acR_eq, et]; first | (rw [if_pos (by omega), r15e, ← hh, ← hh]; congr 1; omega) | (rw [if_neg (by omega), if_pos (by omega)]; assumption) | (rw [if_neg (by omega), if_neg (by omega), ← r15e, ← hh]; assumption)))
  · replace q2 : ¬ (¬ (v1 : Int) = 4) := q2
    refine Tx.aload_n hC te_329_10 rfl ?_
    refine Tx.getR hC te_329_11 rfl rfl rfl ?_
    refine Tx.bipush hC te_329_14 rfl rfl ?_
    refine Tx.aload_n hC te_329_16 rfl ?_
    refine Tx.iload_n hC te_329_17 rfl ?_
    refine Tx.virtI hC te_329_18 mt_250 (args := [.inr 143, .inl o]) (rest := [.inl 64, .inr 165]) (c' := 0) (s' := 0) rfl rfl rfl rfl rfl rfl rfl rfl rfl rfl ?_
    refine f_250q (by omega) (fun r18 r18e r18i => ?_)
    unfold InI at r18i
    refine Tx.imulW hC te_329_21 (fun z21 z21i z21e => ?_)
    unfold InI at z21i z21e
    first | replace z21e := z21e (by omega) | clear z21e
    refine Tx.iload_n hC te_329_22 rfl ?_
    refine Tx.iaddW hC te_329_23 (fun z22 z22i z22e => ?_)
    unfold InI at z22i z22e
    first | replace z22e := z22e (by omega) | clear z22e
    refine Tx.aload_n hC te_329_24 rfl ?_
    refine Tx.iload_n hC te_329_25 rfl ?_
    refine Tx.virtI hC te_329_26 mt_251 (args := [.inr 143, .inl o]) (rest := [.inl z22, .inr 165]) (c' := 0) (s' := 0) rfl rfl rfl rfl rfl rfl rfl rfl rfl rfl ?_
    refine f_251q (by omega) (fun r23 r23e r23i => ?_)
    unfold InI at r23i
    refine Tx.iaddW hC te_329_29 (fun z26 z26i z26e => ?_)
    unfold InI at z26i z26e
    first | replace z26e := z26e (by omega) | clear z26e
    refine Tx.iald hC te_329_30 rfl (by omega) (fun v27 v27e v27i => ?_)
    unfold InI at v27i
    exact Tx.ireturn hC te_329_31 rfl (fun hr => show K v27 mem from H _ (by rw [acR_eq, et]; first | (rw [if_pos (by omega), v27e, ← r18e, ← r23e]; congr 1; omega) | (rw [if_neg (by omega), if_pos (by omega)]; assumption) | (rw [if_neg (by omega), if_neg (by omega), ← hh, ← hh]; assumption)))
theorem f_318x {S : Nat × (Nat → Int32)} {n : Nat} {mem : MM} {K : MM → Prop} {E : Nat → MM → Prop} (H : ∀ m', Frm pPr mem m' → (∀ j : Nat, (j : Int) < 64 → m' 165 j = 3 * (j : Int) + 1 ∧ m' 165 (64 + j) = 7 * (j : Int) - 5) → K m') : CQV (Ex S (n + 1)) 318 [.inr 143] mem K E := by
  refine CY.of (k := 1) mt_318 rfl rfl (fun hv => ?_)
  have hC := Ex.mono S n
  clear hv
  show Tx (Ex S n) S M_318 (kV K E) 0 0 0 [some (.inr 143), none] [] mem
  have l_2 : ∀ (N : Nat) (x1 : Int) (m_2 : MM), (0 ≤ x1 ∧ x1 ≤ 64) → (∀ j : Nat, (j : Int) < x1 → m_2 165 j = 3 * (j : Int) + 1 ∧ m_2 165 (64 + j) = 7 * (j : Int) - 5) → ((64 - x1).toNat) < N → Frm pPr mem m_2 → Tx (Ex S n) S M_318 (kV K E) 0 0 2 [some (.inr 143), some (.inl x1)] [] m_2 := by
    intro N
    induction N with
    | zero => intros; omega
    | succ N ih_2 =>
      intro x1 m_2 i2_0 i2_1 hN_2 hF_2
      refine Tx.iload_n hC te_318_2 rfl ?_
      refine Tx.bipush hC te_318_3 rfl rfl ?_
      refine Tx.icmp hC (t := 40) te_318_5 (by decide) (fun q1 => ?_) (fun q1 => ?_)
      · replace q1 : 64 ≤ (x1 : Int) := q1
        exact Tx.vret hC te_318_40 rfl (show K m_2 from H _ hF_2 (fun j hj => i2_1 j (by omega)))
      · replace q1 : ¬ (64 ≤ (x1 : Int)) := q1
        refine Tx.aload_n hC te_318_8 rfl ?_
        refine Tx.getR hC te_318_9 rfl rfl rfl ?_
        refine Tx.iload_n hC te_318_12 rfl ?_
        refine Tx.iconst hC te_318_13 rfl ?_
        refine Tx.iload_n hC te_318_14 rfl ?_
        refine Tx.imulW hC te_318_15 (fun z2 z2i z2e => ?_)
        unfold InI at z2i z2e
        first | replace z2e := z2e (by omega) | clear z2e
        refine Tx.iconst hC te_318_16 rfl ?_
        refine Tx.iaddW hC te_318_17 (fun z3 z3i z3e => ?_)
        unfold InI at z3i z3e
        first | replace z3e := z3e (by omega) | clear z3e
        refine Tx.iast hC te_318_18 rfl (by omega) ?_
        obtain ⟨m4, hm4⟩ : ∃ m' : MM, m' = upm m_2 165 (Int.toNat x1) z3 := ⟨_, rfl⟩
        rw [← hm4]
        have hF5 : Frm pPr mem m4 := by { rw [hm4]; exact Frm.up (hF_2) (by unfold pPr; omega) }
        refine Tx.aload_n hC te_318_19 rfl ?_
        refine Tx.getR hC te_318_20 rfl rfl rfl ?_
        refine Tx.bipush hC te_318_23 rfl rfl ?_
        refine Tx.iload_n hC te_318_25 rfl ?_
        refine Tx.iaddW hC te_318_26 (fun z6 z6i z6e => ?_)
        unfold InI at z6i z6e
        first | replace z6e := z6e (by omega) | clear z6e
        refine Tx.bipush hC te_318_27 rfl rfl ?_
        refine Tx.iload_n hC te_318_29 rfl ?_
        refine Tx.imulW hC te_318_30 (fun z7 z7i z7e => ?_)
        unfold InI at z7i z7e
        first | replace z7e := z7e (by omega) | clear z7e
        refine Tx.iconst hC te_318_31 rfl ?_
        refine Tx.isubW hC te_318_32 (fun z8 z8i z8e => ?_)
        unfold InI at z8i z8e
        first | replace z8e := z8e (by omega) | clear z8e
        refine Tx.iast hC te_318_33 rfl (by omega) ?_
        obtain ⟨m9, hm9⟩ : ∃ m' : MM, m' = upm m4 165 (Int.toNat z6) z8 := ⟨_, rfl⟩
        rw [← hm9]
        have hF10 : Frm pPr mem m9 := by { rw [hm9]; exact Frm.up (hF5) (by unfold pPr; omega) }
        refine Tx.iincW hC te_318_34 rfl rfl (fun z11 z11i z11e => ?_)
        unfold InI at z11i z11e
        first | replace z11e := z11e (by omega) | clear z11e
        refine Tx.goto hC (t := 2) te_318_37 (by decide) ?_
        exact ih_2 z11 m9 (by omega) (fun j hj => by
              rw [hm9, hm4, show (Int.toNat z6) = 64 + Int.toNat x1 by omega]
              by_cases w : j = Int.toNat x1
              · subst w
                refine ⟨?_, ?_⟩
                · rw [upm_ne (by omega), upm_eq]; omega
                · rw [upm_eq]; omega
              · rw [upm_ne (by omega), upm_ne (by omega), upm_ne (by omega), upm_ne (by omega)]; exact i2_1 j (by omega)) (by omega) hF10
  refine Tx.iconst hC te_318_0 rfl ?_
  refine Tx.istore_n hC te_318_1 rfl ?_
  exact l_2 _ 0 mem (by omega) (fun j hj => absurd hj (by omega)) (Nat.lt_succ_self _) Frm.rf
theorem f_328x {S : Nat × (Nat → Int32)} {n : Nat} {mem : MM} {K : MM → Prop} {E : Nat → MM → Prop} (h : RefOK mem) (hS : SoundM mem) {t : Int} (ht : 0 ≤ t ∧ t ≤ 40) (H : ∀ m', Frm pPr mem m' → PlR m' (trM (acsR mem) (mem 143 1).toNat t.toNat) (mem 143 1).toNat t.toNat 0 → K m') : CQV (Ex S (n + 4)) 328 [.inr 143, .inl t] mem K E := by
  refine CY.of (k := 3) mt_328 rfl rfl (fun hv => ?_)
  have hC := Ex.mono S (n + 3)
  have ii_t : InI t := hv (.inl t) (by simp)
  unfold InI at ii_t
  clear hv
  have h8 := h.ops.1
  show Tx (Ex S (n + 3)) S M_328 (kV K E) 0 0 0 [some (.inr 143), some (.inl t), none, none, none] [] mem
  have l_6 : ∀ (N : Nat) (x2 : Int) (m_6 : MM), (0 ≤ x2 ∧ x2 ≤ t) → (PlR m_6 (trM (acsR mem) (mem 143 1).toNat (Int.toNat x2)) (mem 143 1).toNat (Int.toNat x2) 0) → ((40 - x2).toNat) < N → Frm pPr mem m_6 → Tx (Ex S (n + 3)) S M_328 (kV K E) 0 0 6 [some (.inr 143), some (.inl t), some (.inl x2), none, none] [] m_6 := by
    intro N
    induction N with
    | zero => intros; omega
    | succ N ih_6 =>
      intro x2 m_6 i6_0 i6_1 hN_6 hF_6
      have l_13 : ∀ (N : Nat) (x3 : Int) (m_13 : MM), (0 ≤ x3 ∧ x3 ≤ mem 143 1) → (0 ≤ x2 ∧ x2 < t) → (PlR m_13 (opsM (acsR mem) (trM (acsR mem) (mem 143 1).toNat (Int.toNat x2)) (Int.toNat x2) (Int.toNat x3)) (mem 143 1).toNat (Int.toNat x2) (Int.toNat x3)) → ((8 - x3).toNat) < N → Frm pPr mem m_13 → Tx (Ex S (n + 3)) S M_328 (kV K E) 0 0 13 [some (.inr 143), some (.inl t), some (.inl x2), some (.inl x3), none] [] m_13 := by
        intro N
        induction N with
        | zero => intros; omega
        | succ N ih_13 =>
          intro x3 m_13 i13_0 i13_1 i13_2 hN_13 hF_13
          refine Tx.iload_n hC te_328_13 rfl ?_
          refine Tx.aload_n hC te_328_14 rfl ?_
          refine Tx.getI hC te_328_15 rfl rfl rfl (fun v1 v1e v1i => ?_)
          unfold InI at v1i
          rw [hF_13 143 _ (by unfold pPr; omega)] at v1e
          refine Tx.icmp hC (t := 81) te_328_18 (by decide) (fun q2 => ?_) (fun q2 => ?_)
          · replace q2 : v1 ≤ (x3 : Int) := q2
            refine Tx.iincW hC te_328_81 rfl rfl (fun z3 z3i z3e => ?_)
            unfold InI at z3i z3e
            first | replace z3e := z3e (by omega) | clear z3e
            refine Tx.goto hC (t := 6) te_328_84 (by decide) ?_
            exact Tx.weak (by repeat' (first | exact trivial | exact rfl | constructor)) (ih_6 z3 m_13 (by omega) (by { have q := PlR.turn (i13_2.eqN (show Int.toNat x3 = (mem 143 1).toNat by omega)); rw [show Int.toNat z3 = Int.toNat x2 + 1 by omega]; exact q }) (by omega) hF_13)
          · replace q2 : ¬ (v1 ≤ (x3 : Int)) := q2
            refine Tx.aload_n hC te_328_21 rfl ?_
            refine Tx.iload_n hC te_328_22 rfl ?_
            refine Tx.iload_n hC te_328_23 rfl ?_
            refine Tx.virtI hC te_328_24 mt_329 (args := [.inr 143, .inl x3, .inl x2]) (rest := []) (c' := 0) (s' := 0) rfl rfl rfl rfl rfl rfl rfl rfl rfl rfl ?_
            have r4o : RefOK m_13 := h.fr0 hF_13
            refine f_329x r4o (by omega) (by omega) (fun r4 r4v r4i => ?_)
            unfold InI at r4i
            refine Tx.istore hC te_328_27 rfl ?_
            refine Tx.aload_n hC te_328_29 rfl ?_
            refine Tx.getR hC te_328_30 rfl rfl rfl ?_
            refine Tx.bipush hC te_328_33 rfl rfl ?_
            refine Tx.iload_n hC te_328_35 rfl ?_
            refine Tx.imulW hC te_328_36 (fun z7 z7i z7e => ?_)
            unfold InI at z7i z7e
            first | replace z7e := z7e (by omega) | clear z7e
            refine Tx.iload_n hC te_328_37 rfl ?_
            refine Tx.iaddW hC te_328_38 (fun z8 z8i z8e => ?_)
            unfold InI at z8i z8e
            first | replace z8e := z8e (by omega) | clear z8e
            refine Tx.iload hC te_328_39 rfl ?_
            refine Tx.iast hC te_328_41 rfl (by omega) ?_
            obtain ⟨m9, hm9⟩ : ∃ m' : MM, m' = upm m_13 167 (Int.toNat z8) r4 := ⟨_, rfl⟩
            rw [← hm9]
            have hF10 : Frm pPr mem m9 := by { rw [hm9]; exact Frm.up (hF_13) (by unfold pPr; omega) }
            refine Tx.aload_n hC te_328_42 rfl ?_
            refine Tx.getR hC te_328_43 rfl rfl rfl ?_
            refine Tx.iload_n hC te_328_46 rfl ?_
            refine Tx.iald hC te_328_47 rfl (by omega) (fun v11 v11e v11i => ?_)
            unfold InI at v11i
            rw [hF10 144 _ (by unfold pPr; omega)] at v11e
            refine Tx.iconst hC te_328_48 rfl ?_
            refine Tx.icmp hC (t := 75) te_328_49 (by decide) (fun q12 => ?_) (fun q12 => ?_)
            · replace q12 : ¬ (v11 : Int) = 5 := q12
              refine Tx.iincW hC te_328_75 rfl rfl (fun z13 z13i z13e => ?_)
              unfold InI at z13i z13e
              first | replace z13e := z13e (by omega) | clear z13e
              refine Tx.goto hC (t := 13) te_328_78 (by decide) ?_
              exact Tx.weak (by repeat' (first | exact trivial | exact rfl | constructor)) (ih_13 z13 m9 (by omega) (by omega) (by { have q := i13_2.step (m2 := m9) h hS (fun A i a b => hF_13 A i (by unfold pPr; omega)) rfl (by omega) (by omega) (by { rw [hm9, show (Int.toNat z8) = 41 * Int.toNat x3 + Int.toNat x2 by omega, r4v]; first | rw [if_neg (by rw [hF_13 144 _ (by unfold pPr; omega)]; omega)] | skip }); rw [show Int.toNat z13 = Int.toNat x3 + 1 by omega]; exact q }) (by omega) hF10)
            · replace q12 : ¬ (¬ (v11 : Int) = 5) := q12
              refine Tx.aload_n hC te_328_52 rfl ?_
              refine Tx.getR hC te_328_53 rfl rfl rfl ?_
              refine Tx.bipush hC te_328_56 rfl rfl ?_
              refine Tx.aload_n hC te_328_58 rfl ?_
              refine Tx.iload_n hC te_328_59 rfl ?_
              refine Tx.virtI hC te_328_60 mt_250 (args := [.inr 143, .inl x3]) (rest := [.inl 64, .inr 165]) (c' := 0) (s' := 0) rfl rfl rfl rfl rfl rfl rfl rfl rfl rfl ?_
              refine f_250q (by omega) (fun r14 r14e r14i => ?_)
              have r14g := rp_fr (m := m_13) (m' := m9) (fun A i a b => by { rw [hm9]; exact upm_ne (by omega) }) (o := Int.toNat x3)
              have r14w := (r4o).rw (o := Int.toNat x3) (by omega) (by rw [hF_13 144 _ (by unfold pPr; omega)]; omega)
              unfold InI at r14i
              refine Tx.imulW hC te_328_63 (fun z17 z17i z17e => ?_)
              unfold InI at z17i z17e
              first | replace z17e := z17e (by omega) | clear z17e
              refine Tx.iload_n hC te_328_64 rfl ?_
              refine Tx.iaddW hC te_328_65 (fun z18 z18i z18e => ?_)
              unfold InI at z18i z18e
              first | replace z18e := z18e (by omega) | clear z18e
              refine Tx.aload_n hC te_328_66 rfl ?_
              refine Tx.iload_n hC te_328_67 rfl ?_
              refine Tx.virtI hC te_328_68 mt_251 (args := [.inr 143, .inl x3]) (rest := [.inl z18, .inr 165]) (c' := 0) (s' := 0) rfl rfl rfl rfl rfl rfl rfl rfl rfl rfl ?_
              refine f_251q (by omega) (fun r19 r19e r19i => ?_)
              have r19g := rp_fr (m := m_13) (m' := m9) (fun A i a b => by { rw [hm9]; exact upm_ne (by omega) }) (o := Int.toNat x3)
              have r19w := (r4o).rw (o := Int.toNat x3) (by omega) (by rw [hF_13 144 _ (by unfold pPr; omega)]; omega)
              unfold InI at r19i
              refine Tx.iaddW hC te_328_71 (fun z22 z22i z22e => ?_)
              unfold InI at z22i z22e
              first | replace z22e := z22e (by omega) | clear z22e
              refine Tx.iload hC te_328_72 rfl ?_
              refine Tx.iast hC te_328_74 rfl (by omega) ?_
              obtain ⟨m23, hm23⟩ : ∃ m' : MM, m' = upm m9 165 (Int.toNat z22) r4 := ⟨_, rfl⟩
              rw [← hm23]
              have hF24 : Frm pPr mem m23 := by { rw [hm23]; exact Frm.up (hF10) (by unfold pPr; omega) }
              refine Tx.iincW hC te_328_75 rfl rfl (fun z25 z25i z25e => ?_)
              unfold InI at z25i z25e
              first | replace z25e := z25e (by omega) | clear z25e
              refine Tx.goto hC (t := 13) te_328_78 (by decide) ?_
              exact Tx.weak (by repeat' (first | exact trivial | exact rfl | constructor)) (ih_13 z25 m23 (by omega) (by omega) (by { have q := i13_2.step (m2 := m23) h hS (fun A i a b => hF_13 A i (by unfold pPr; omega)) rfl (by omega) (by omega) (by { rw [hm23, hm9, show (Int.toNat z8) = 41 * Int.toNat x3 + Int.toNat x2 by omega, r4v, if_pos (by rw [hF_13 144 _ (by unfold pPr; omega)]; omega)]; rw [show (Int.toNat z22) = 64 * (rowF m_13 (Int.toNat x3)).toNat + (((Int.toNat x2 : Nat) : Int) + plcF m_13 (Int.toNat x3)).toNat by omega] }); rw [show Int.toNat z25 = Int.toNat x3 + 1 by omega]; exact q }) (by omega) hF24)
      refine Tx.iload_n hC te_328_6 rfl ?_
      refine Tx.iload_n hC te_328_7 rfl ?_
      refine Tx.icmp hC (t := 87) te_328_8 (by decide) (fun q26 => ?_) (fun q26 => ?_)
      · replace q26 : t ≤ (x2 : Int) := q26
        exact Tx.vret hC te_328_87 rfl (show K m_6 from H _ hF_6 (by { have e : Int.toNat x2 = Int.toNat t := by { omega }; rw [← e]; exact i6_1 }))
      · replace q26 : ¬ (t ≤ (x2 : Int)) := q26
        refine Tx.iconst hC te_328_11 rfl ?_
        refine Tx.istore_n hC te_328_12 rfl ?_
        exact l_13 _ 0 m_6 (by omega) (by omega) (i6_1) (Nat.lt_succ_self _) hF_6
  refine Tx.aload_n hC te_328_0 rfl ?_
  refine Tx.virtV hC te_328_1 mt_318 (args := [.inr 143]) (rest := []) (c' := 0) (s' := 0) rfl rfl rfl rfl rfl rfl rfl rfl rfl rfl ?_
  refine f_318x (fun m28 hF29 r27l => ?_)
  have hF29n : Frm pPr mem m28 := hF29
  refine Tx.iconst hC te_328_4 rfl ?_
  refine Tx.istore_n hC te_328_5 rfl ?_
  exact l_6 _ 0 m28 (by omega) (PlR.of_fill r27l) (Nat.lt_succ_self _) hF29n
theorem f_309x {S : Nat × (Nat → Int32)} {n : Nat} {mem : MM} {K : Int → MM → Prop} {E : Nat → MM → Prop} {x : Int} (H1 : 0 ≤ x ∧ x ≤ 40 → K 1 mem) (H0 : ¬ (0 ≤ x ∧ x ≤ 40) → K 0 mem) : CQI (Ex S (n + 2)) 309 [.inl x] mem K E := by
  refine CY.of (k := 0) mt_309 rfl rfl (fun hv => ?_)
  have hC := Ex.mono S (n + 1)
  have ii_x : InI x := hv (.inl x) (by simp)
  unfold InI at ii_x
  clear hv
  show Tx (Ex S (n + 1)) S M_309 (kI K E) 0 0 0 [some (.inl x)] [] mem
  refine Tx.iload_n hC te_309_0 rfl ?_
  refine Tx.iconst hC te_309_1 rfl ?_
  refine Tx.bipush hC te_309_2 rfl rfl ?_
  refine Tx.statI hC te_309_4 (by decide) mt_227 (args := [.inl x, .inl 0, .inl 40]) (rest := []) (c' := 0) (s' := 0) rfl rfl rfl rfl rfl rfl rfl ?_
  refine CWI.q hC (f_227 (fun r1a r1b r1i => ?_) (fun r1q r1i => ?_))
  · skip
    exact Tx.bret hC te_309_7 rfl (by omega) (show K 1 mem from H1 (by omega))
  · skip
    exact Tx.bret hC te_309_7 rfl (by omega) (show K 0 mem from H0 (by omega))
theorem f_316x {S : Nat × (Nat → Int32)} {n : Nat} {mem : MM} {K : Int → MM → Prop} {E : Nat → MM → Prop} {a b : Int} (H1 : (0 ≤ a ∧ a ≤ 1) ∧ 0 ≤ b ∧ b ≤ 63 → K 1 mem) (H0 : ¬ ((0 ≤ a ∧ a ≤ 1) ∧ 0 ≤ b ∧ b ≤ 63) → K 0 mem) : CQI (Ex S (n + 2)) 316 [.inl a, .inl b] mem K E := by
  refine CY.of (k := 0) mt_316 rfl rfl (fun hv => ?_)
  have hC := Ex.mono S (n + 1)
  have ii_a : InI a := hv (.inl a) (by simp)
  unfold InI at ii_a
  have ii_b : InI b := hv (.inl b) (by simp)
  unfold InI at ii_b
  clear hv
  show Tx (Ex S (n + 1)) S M_316 (kI K E) 0 0 0 [some (.inl a), some (.inl b)] [] mem
  refine Tx.iload_n hC te_316_0 rfl ?_
  refine Tx.iconst hC te_316_1 rfl ?_
  refine Tx.iconst hC te_316_2 rfl ?_
  refine Tx.statI hC te_316_3 (by decide) mt_227 (args := [.inl a, .inl 0, .inl 1]) (rest := []) (c' := 0) (s' := 0) rfl rfl rfl rfl rfl rfl rfl ?_
  refine CWI.q hC (f_227 (fun r1a r1b r1i => ?_) (fun r1q r1i => ?_))
  · skip
    refine Tx.ifc hC (t := 23) te_316_6 (by decide) (fun q => absurd q (show ¬ ((1 : Int) = 0) by decide)) (fun q => ?_)
    refine Tx.iload_n hC te_316_9 rfl ?_
    refine Tx.iconst hC te_316_10 rfl ?_
    refine Tx.bipush hC te_316_11 rfl rfl ?_
    refine Tx.statI hC te_316_13 (by decide) mt_227 (args := [.inl b, .inl 0, .inl 63]) (rest := []) (c' := 0) (s' := 0) rfl rfl rfl rfl rfl rfl rfl ?_
    refine CWI.q hC (f_227 (fun r4a r4b r4i => ?_) (fun r4q r4i => ?_))
    · skip
      refine Tx.ifc hC (t := 23) te_316_16 (by decide) (fun q => absurd q (show ¬ ((1 : Int) = 0) by decide)) (fun q => ?_)
      refine Tx.iconst hC te_316_19 rfl ?_
      refine Tx.goto hC (t := 24) te_316_20 (by decide) ?_
      exact Tx.bret hC te_316_24 rfl (by omega) (show K 1 mem from H1 (by omega))
    · skip
      refine Tx.ifc hC (t := 23) te_316_16 (by decide) (fun q => ?_) (fun q => absurd (show (0 : Int) = 0 by decide) q)
      refine Tx.iconst hC te_316_23 rfl ?_
      exact Tx.bret hC te_316_24 rfl (by omega) (show K 0 mem from H0 (by omega))
  · skip
    refine Tx.ifc hC (t := 23) te_316_6 (by decide) (fun q => ?_) (fun q => absurd (show (0 : Int) = 0 by decide) q)
    refine Tx.iconst hC te_316_23 rfl ?_
    exact Tx.bret hC te_316_24 rfl (by omega) (show K 0 mem from H0 (by omega))
theorem f_327x {S : Nat × (Nat → Int32)} {n : Nat} {mem : MM} {K : Int → MM → Prop} {E : Nat → MM → Prop} (h : RefOK mem) {p0 p1 p2 : Int} (H0 : ((0 ≤ p0 ∧ p0 ≤ 1) ∧ 0 ≤ p1 ∧ p1 ≤ 63) ∧ 0 ≤ p2 ∧ p2 ≤ 40 → SoundM mem → ∀ m', Frm pPr (upm mem 143 0 0) m' → PlR m' (trM (acsR mem) (mem 143 1).toNat p2.toNat) (mem 143 1).toNat p2.toNat 0 → ∀ r, r = m' 165 (64 * p0.toNat + p1.toNat) → K r m') (H1 : ¬ (((0 ≤ p0 ∧ p0 ≤ 1) ∧ 0 ≤ p1 ∧ p1 ≤ 63) ∧ 0 ≤ p2 ∧ p2 ≤ 40) → K 0 (upm mem 143 0 1)) (H2 : ((0 ≤ p0 ∧ p0 ≤ 1) ∧ 0 ≤ p1 ∧ p1 ≤ 63) ∧ 0 ≤ p2 ∧ p2 ≤ 40 → ¬ SoundM mem → K 0 (upm mem 143 0 2)) : CQI (Ex S (n + 5)) 327 [.inr 143, .inl p0, .inl p1, .inl p2] mem K E := by
  refine CY.of (k := 0) mt_327 rfl rfl (fun hv => ?_)
  have hC := Ex.mono S (n + 4)
  have ii_p0 : InI p0 := hv (.inl p0) (by simp)
  unfold InI at ii_p0
  have ii_p1 : InI p1 := hv (.inl p1) (by simp)
  unfold InI at ii_p1
  have ii_p2 : InI p2 := hv (.inl p2) (by simp)
  unfold InI at ii_p2
  clear hv
  show Tx (Ex S (n + 4)) S M_327 (kI K E) 0 0 0 [some (.inr 143), some (.inl p0), some (.inl p1), some (.inl p2)] [] mem
  refine Tx.aload_n hC te_327_0 rfl ?_
  refine Tx.iload_n hC te_327_1 rfl ?_
  refine Tx.iload_n hC te_327_2 rfl ?_
  refine Tx.statI hC te_327_3 (by decide) mt_316 (args := [.inl p0, .inl p1]) (rest := [.inr 143]) (c' := 0) (s' := 0) rfl rfl rfl rfl rfl rfl rfl ?_
  refine f_316x (fun r1s r1i => ?_) (fun r1s r1i => ?_)
  · skip
    refine Tx.ifc hC (t := 16) te_327_6 (by decide) (fun q => absurd q (show ¬ ((1 : Int) = 0) by decide)) (fun q => ?_)
    refine Tx.iload_n hC te_327_9 rfl ?_
    refine Tx.statI hC te_327_10 (by decide) mt_309 (args := [.inl p2]) (rest := [.inr 143]) (c' := 0) (s' := 0) rfl rfl rfl rfl rfl rfl rfl ?_
    refine f_309x (fun r4s r4i => ?_) (fun r4s r4i => ?_)
    · skip
      refine Tx.ifc hC (t := 20) te_327_13 (by decide) (fun q => ?_) (fun q => absurd (show ¬ (1 : Int) = 0 by decide) q)
      refine Tx.aload_n hC te_327_20 rfl ?_
      refine Tx.virtI hC te_327_21 mt_240 (args := [.inr 143]) (rest := [.inr 143]) (c' := 0) (s' := 0) rfl rfl rfl rfl rfl rfl rfl rfl rfl rfl ?_
      refine CWI.q hC (f_240 h.ops (fun r7s r7i => ?_) (fun r7s r7i => ?_))
      · skip
        refine Tx.ifc hC (t := 31) te_327_24 (by decide) (fun q => ?_) (fun q => absurd (show ¬ (1 : Int) = 0 by decide) q)
        refine Tx.iconst hC te_327_31 rfl ?_
        refine Tx.putI hC te_327_32 rfl rfl rfl rfl ?_
        refine Tx.aload_n hC te_327_35 rfl ?_
        refine Tx.getI hC te_327_36 rfl rfl rfl (fun v11 v11e v11i => ?_)
        rw [upm_eq] at v11e
        subst v11e
        clear v11i
        refine Tx.ifc hC (t := 44) te_327_39 (by decide) (fun q => ?_) (fun q => absurd (show (0 : Int) ≤ 0 by decide) q)
        refine Tx.aload_n hC te_327_44 rfl ?_
        refine Tx.iload_n hC te_327_45 rfl ?_
        refine Tx.virtV hC te_327_46 mt_328 (args := [.inr 143, .inl p2]) (rest := []) (c' := 0) (s' := 0) rfl rfl rfl rfl rfl rfl rfl rfl rfl rfl ?_
        refine f_328x (h.th' (by omega)) (SoundM.th r7s) (by omega) (fun m13 hF14 r12p => ?_)
        refine Tx.aload_n hC te_327_49 rfl ?_
        refine Tx.getR hC te_327_50 rfl rfl rfl ?_
        refine Tx.bipush hC te_327_53 rfl rfl ?_
        refine Tx.iload_n hC te_327_55 rfl ?_
        refine Tx.imulW hC te_327_56 (fun z15 z15i z15e => ?_)
        unfold InI at z15i z15e
        first | replace z15e := z15e (by omega) | clear z15e
        refine Tx.iload_n hC te_327_57 rfl ?_
        refine Tx.iaddW hC te_327_58 (fun z16 z16i z16e => ?_)
        unfold InI at z16i z16e
        first | replace z16e := z16e (by omega) | clear z16e
        refine Tx.iald hC te_327_59 rfl (by omega) (fun v17 v17e v17i => ?_)
        unfold InI at v17i
        exact Tx.ireturn hC te_327_60 rfl (fun hr => show K v17 m13 from H0 (by omega) r7s _ hF14 r12p _ (by rw [v17e]; congr 1; omega))
      · skip
        refine Tx.ifc hC (t := 31) te_327_24 (by decide) (fun q => absurd q (show ¬ (¬ (0 : Int) = 0) by decide)) (fun q => ?_)
        refine Tx.iconst hC te_327_27 rfl ?_
        refine Tx.goto hC (t := 32) te_327_28 (by decide) ?_
        refine Tx.putI hC te_327_32 rfl rfl rfl rfl ?_
        refine Tx.aload_n hC te_327_35 rfl ?_
        refine Tx.getI hC te_327_36 rfl rfl rfl (fun v19 v19e v19i => ?_)
        rw [upm_eq] at v19e
        subst v19e
        clear v19i
        refine Tx.ifc hC (t := 44) te_327_39 (by decide) (fun q => absurd q (show ¬ ((2 : Int) ≤ 0) by decide)) (fun q => ?_)
        refine Tx.iconst hC te_327_42 rfl ?_
        exact Tx.ireturn hC te_327_43 rfl (fun hr => show K 0 (upm mem 143 0 2) from H2 (by omega) r7s)
    · skip
      refine Tx.ifc hC (t := 20) te_327_13 (by decide) (fun q => absurd q (show ¬ (¬ (0 : Int) = 0) by decide)) (fun q => ?_)
      refine Tx.iconst hC te_327_16 rfl ?_
      refine Tx.goto hC (t := 32) te_327_17 (by decide) ?_
      refine Tx.putI hC te_327_32 rfl rfl rfl rfl ?_
      refine Tx.aload_n hC te_327_35 rfl ?_
      refine Tx.getI hC te_327_36 rfl rfl rfl (fun v21 v21e v21i => ?_)
      rw [upm_eq] at v21e
      subst v21e
      clear v21i
      refine Tx.ifc hC (t := 44) te_327_39 (by decide) (fun q => absurd q (show ¬ ((1 : Int) ≤ 0) by decide)) (fun q => ?_)
      refine Tx.iconst hC te_327_42 rfl ?_
      exact Tx.ireturn hC te_327_43 rfl (fun hr => show K 0 (upm mem 143 0 1) from H1 (by omega))
  · skip
    refine Tx.ifc hC (t := 16) te_327_6 (by decide) (fun q => ?_) (fun q => absurd (show (0 : Int) = 0 by decide) q)
    refine Tx.iconst hC te_327_16 rfl ?_
    refine Tx.goto hC (t := 32) te_327_17 (by decide) ?_
    refine Tx.putI hC te_327_32 rfl rfl rfl rfl ?_
    refine Tx.aload_n hC te_327_35 rfl ?_
    refine Tx.getI hC te_327_36 rfl rfl rfl (fun v23 v23e v23i => ?_)
    rw [upm_eq] at v23e
    subst v23e
    clear v23i
    refine Tx.ifc hC (t := 44) te_327_39 (by decide) (fun q => absurd q (show ¬ ((1 : Int) ≤ 0) by decide)) (fun q => ?_)
    refine Tx.iconst hC te_327_42 rfl ?_
    exact Tx.ireturn hC te_327_43 rfl (fun hr => show K 0 (upm mem 143 0 1) from H1 (by omega))
