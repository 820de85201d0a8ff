/-! one instruction -/
section STP
variable {p : Program} {l : Launch} {e : Env} {R : Room} {s : State} {m : MethodId} {args : Array Value} {below : List Frame} {meth : Method} {c : Code} {D : va_G} {cy : Nat → ClassId} {A : Nat → Prop} {b : Option Nat} {S : Nat × (Nat → Int32)} {M : PM} {ws0 : va_W} {Z : State → Prop} {n : Nat}
/-- at a return -/
def retOK (i : Instr) (M : PM) (v : Option Value) : Prop := match i, v with
  | .ireturn, some (.int x) => ∃ t, pR M = some t ∧ narrow t (.int x) = .int x
  | .lreturn, some (.long _) => pR M = some .long
  | .areturn, some (.ref _) => ∃ t, pR M = some (.object t)
  | .return_, none => pR M = none
  | _, _ => False
def HRt (p : Program) (l : Launch) (e : Env) (R : Room) (s : State) (m : MethodId) (args : Array Value) (below : List Frame) (meth : Method) (c : Code) (D : va_G) (cy : Nat → ClassId) (A : Nat → Prop) (b : Option Nat) (M : PM) (ws0 : va_W) (Z : State → Prop) (Q : Rs → PH → Prop) : Prop :=
  ∀ (i : Instr) (pc : Nat) (ls : Array Slot) (v v' : Option Value) (h : PH) (ws : va_W) (H : Heap) (locs : List Loc) (cells slots : Nat), decode (pB M) pc = .ok (i, 1) → retOK i M v → Q (.inl v) h → rO (ws.map Prod.fst) b v v' → INV D cy A b s ws0 h ws H locs → cells ≤ pC M → slots ≤ pS M → W p l e R s m args below meth c H locs cells slots Z (F0 m pc ls v'.toList)
def HXt (p : Program) (l : Launch) (e : Env) (R : Room) (s : State) (m : MethodId) (args : Array Value) (below : List Frame) (meth : Method) (c : Code) (D : va_G) (cy : Nat → ClassId) (A : Nat → Prop) (b : Option Nat) (M : PM) (ws0 : va_W) (Z : State → Prop) (hd : List (Nat × Nat × Nat × Int)) (Q : Rs → PH → Prop) : Prop :=
  ∀ (E : String) (ce : Cell) (q9 : Addr) (x pc : Nat) (ls : Array Slot) (rest : List Value) (lv' : LV) (h : PH) (ws : va_W) (H : Heap) (locs : List Loc) (cells slots : Nat), xnm[x]? = some E → (∀ z, p_catch hd pc x = some z → Q (.inl (some (.int (Int32.ofInt z)))) h) → (p_catch hd pc x = none → Q (.inr x) h) → lv_has ls (pL M) lv' → INV D cy A b s ws0 h ws H locs → H[q9]? = some ce → ce.vm = .none → s.vm.findClass E = some ce.cls → cells ≤ pC M → slots ≤ pS M →
    vx_W p l e R s m args below meth c H locs cells slots Z (F0 m pc ls rest) q9
def HNt (p : Program) (l : Launch) (e : Env) (R : Room) (s : State) (m : MethodId) (args : Array Value) (below : List Frame) (meth : Method) (c : Code) (D : va_G) (cy : Nat → ClassId) (A : Nat → Prop) (b : Option Nat) (M : PM) (ws0 : va_W) (Z : State → Prop) (hd : List (Nat × Nat × Nat × Int)) (Q : Rs → PH → Prop) : Prop :=
  ∀ (i a pc : Nat) (x : Nat × Nat × Nat × Nat × Nat × Nat) (ls : Array Slot) (rest : List Value) (lv' : LV) (h : PH) (ws : va_W) (H : Heap) (locs : List Loc) (cells slots : Nat), decode (pB M) pc = .ok (.new i, 3) → xok (pO M) (pB M) pc i a = true → XLs[a]? = some x → hd = [] → Q (.inr x.2.2.1) h → (rest.map fun v => v.category).sum ≤ 8 → lv_has ls (pL M) lv' → INV D cy A b s ws0 h ws H locs → cells + 1 ≤ pC M → slots + 6 ≤ pS M → W p l e R s m args below meth c H locs cells slots Z (F0 m pc ls rest)
theorem jmp_i {pc : Nat} {off : Int} {f : Nat → Prop} (h : jmp pc off f) : ∃ t : Nat, (pc : Int) + off = (t : Int) ∧ f t := ⟨((pc : Int) + off).toNat, (Int.toNat_of_nonneg h.1).symm, h.2⟩
/-- a call of any kind -/
theorem call_i {C : Nat → List Value → PH → (Rs → PH → Prop) → Prop} {hd : List (Nat × Nat × Nat × Int)} {Q : Rs → PH → Prop} {K : Kt} (hc : CX p l R s m args meth c D cy A b S M n) (hC : ∀ (μ : Nat) (N : PM) (av : List Value) (h : PH) (Q' : Rs → PH → Prop), MT[μ]? = some N → ¬ pK N = 4 → C μ av h Q' → CT l D cy b S n μ N av h Q')
    (hX : HXt p l e R s m args below meth c D cy A b M ws0 Z hd Q) (ih : ∀ pc lv st h cl sl, K pc lv st h cl sl → GD p l e R s m args below meth c D cy A b M ws0 Z pc lv st h cl sl)
    {pc i μ kd : Nat} {virt : Bool} {ins : Instr} (hml : (pO M, i, μ, kd) ∈ MLs) (hkd : (ins = .invokevirtual i ∧ virt = true ∧ (kd = 0 ∨ kd = 1)) ∨ (ins = .invokestatic i ∧ virt = false ∧ (kd = 2 ∨ kd = 3 ∨ kd = 8)) ∨ (ins = .invokespecial i ∧ virt = true ∧ (kd = 4 ∨ kd = 5)))
    (hdg : decode (pB M) pc = .ok (ins, 3)) {lv : LV} {st : List Value} {h : PH} {cl sl : Nat} (H : p_call C M hd Q K pc μ virt lv st h cl sl) : GD p l e R s m args below meth c D cy A b M ws0 Z pc lv st h cl sl := by
  obtain ⟨N, hN, hlen, hcat, hcl2, hsl2, hvirt, hcall⟩ := p_call_i H
  obtain ⟨hx, hb, hmax, hown, hts, hXK, hA, hini, hRc, hRs, hRf, hRl, htr⟩ := id hc
  have hw := MT_w hN
  have hinfo := MT_info N (List.mem_of_getElem? hN)
  have hk := List.all_eq_true.mp MLk_ok _ hml
  have hMl := ML_ok _ hml
  intro ls lv' st' ws Hp locs hl hlv hst hI hcl hsl
  obtain ⟨hex, hrE, hP, hD, hS⟩ := id hI
  have hA1 : ∀ q, va_A ws Hp.size q → A q := fun q hq => by
    rcases hq with ⟨k, e', hk'⟩ | hq
    · exact hD.2 k _ hk'
    · exact hA q (Nat.le_trans hS.1 hq)
  have hk4 : ¬ pK N = 4 := by
    intro h4
    simp only [mkK] at hk
    rw [hN] at hk
    rcases hkd with ⟨-, -, rfl | rfl⟩ | ⟨-, -, rfl | rfl | rfl⟩ | ⟨-, -, rfl | rfl⟩ <;> simp [h4] at hk
  have hCT := hC μ N _ h _ hN hk4 hcall ((st'.take (pN N)).reverse) ws Hp.size (A2.rev (A2.take _ hst)) hrE
  have hPre : ∀ U : State, U.heap = Hp → s.WarmedH U.vm → va_Pc ((st'.take (pN N)).reverse) (PcP D cy b S ws Hp.size) ((st'.take (pN N)).reverse).toArray U := fun U hU hW =>
    ⟨rfl, by rw [hU], by rw [hU]; exact hP, hD.weaken (fun _ _ _ _ => trivial), by rw [hU]; exact hXK.go hW hS.1 hS.2.1 hA1⟩
  have hsum : 2 * (F0 m pc ls st').monitorRoom + ((st'.drop (pN N)).map fun v => v.category).sum ≤ 8 := by
    rw [A2.cats (A2.drop _ hst)]
    show 2 * 0 + _ ≤ 8
    omega
  have hfit : cl + pC N ≤ R.cells ∧ sl + pS N ≤ R.slots := ⟨Nat.le_trans hcl2 hRc, Nat.le_trans hsl2 hRs⟩
  have hgo : vx_Run p l e R s m args below meth c Hp locs cl sl (pC N) (pS N) (F0 m pc ls st') (st'.drop (pN N)) (QcP D cy b ws Hp.size (p_back M hd Q K pc lv (st.drop (pN N)) (cl + pC N) (sl + pS N)) ((st'.take (pN N)).reverse).toArray) (XcP D cy b ws Hp.size (p_back M hd Q K pc lv (st.drop (pN N)) (cl + pC N) (sl + pS N))) (va_A ws Hp.size) → W p l e R s m args below meth c Hp locs cl sl Z (F0 m pc ls st') := by
    intro hr
    refine px_run (A := A) hr hS hA1 ?_ ?_
    · intro E ce q9 x h' ws' H1 locs1 hxe hq hpo hS1 hce hcv hcf
      obtain ⟨g1, g2, g3, g4⟩ := hpo
      refine hX E ce q9 x pc ls _ lv' h' ws' H1 locs1 _ _ hxe (fun z hz => ?_) (fun hz => ?_) hl ⟨fun i a ha => g1 i a (hex i a ha), g2, g3, g4.weaken (fun _ _ _ hq => hA1 _ hq), hS1⟩ hce hcv hcf hcl2 hsl2
      · simpa [p_back, hz] using hq
      · simpa [p_back, hz] using hq
    · intro v v' h' ws' H1 locs1 hq hro hpo hS1
      obtain ⟨g1, g2, g3, g4⟩ := hpo
      have hq' : K (pc + 3) lv (v.toList ++ st.drop (pN N)) h' (cl + pC N) (sl + pS N) := hq
      exact ih _ _ _ _ _ _ hq' ls lv' _ ws' H1 locs1 hl (hlv.mono (fun q q' hqq => ⟨hqq.1, rv.mono g1 _ _ hqq.2⟩)) (A2.app (A2.mono (rv.mono g1) (A2.drop _ hst)) hro) ⟨fun i a ha => g1 i a (hex i a ha), g2, g3, g4.weaken (fun _ _ _ hq => hA1 _ hq), hS1⟩ hcl2 hsl2
  refine hgo ?_
  have hini2 : (Cond.initialized (pY N).cls).before args s = true := hts _ (TBL_of (IN_ok _ (List.mem_of_getElem? hw.1)))
  simp only [mInf, Bool.and_eq_true, decide_eq_true_eq] at hinfo
  obtain ⟨⟨⟨hdesc, hpl⟩, hL21⟩, hO15⟩ := hinfo
  have hroom : (rmN n N).frames + 1 ≤ R.frames ∧ 8 + (pL N + 11) + (rmN n N).locals ≤ R.locals := ⟨by show n + 8 + 1 ≤ _; omega, by show 8 + (pL N + 11) + (40 * n + 200) ≤ _; omega⟩
  have hne : (pY N).cls ≠ "java/lang/invoke/MethodHandle" ∧ (pY N).cls ≠ "java/lang/invoke/VarHandle" := by
    have h15 : ∀ C ∈ cnm, C ≠ "java/lang/invoke/MethodHandle" ∧ C ≠ "java/lang/invoke/VarHandle" := by decide +kernel
    exact h15 _ (List.mem_of_getElem? hw.1)
  have hlen' : (st'.take (pN N)).length = pN N := by rw [List.length_take, hst.len]; omega
  have hsplit : st' = st'.take (pN N) ++ st'.drop (pN N) := (List.take_append_drop _ _).symm
  have hgood : ∀ k, pK N = k → (k = 3 → False) → (codeOf N ∈ lw_tbl ∧ goodWord (codeOf N) = true) → GoodIn TBL (wsN μ N) ∧ wsN μ N = codeOf N :: TBL := by
    intro k hkk h3 hcw
    have hne3 : ¬ pK N = 3 := fun q => h3 (hkk ▸ q)
    have e : wsN μ N = codeOf N :: TBL := by unfold wsN; rw [if_neg hne3]
    refine ⟨?_, e⟩
    rw [e]
    intro w hw'
    rcases List.mem_cons.mp hw' with rfl | hw'
    · exact ⟨TBL_of hcw, good_of_word hcw.2⟩
    · exact ⟨hw', good_of_word (List.mem_filter.mp hw').2⟩
  have hpar : ∀ q : Nat, (if pK N = 0 ∨ pK N = 2 then 1 else 0) = q → (parseMethodDescriptor (pY N).desc).map (fun d => d.parameters.length) = some (pN N - q) := by
    intro q hq
    cases hpd : parseMethodDescriptor (pY N).desc with
    | none => rw [hpd] at hdesc; cases hdesc
    | some d =>
      rw [hpd] at hdesc
      have h9 := eq_of_beq hdesc
      rw [hq] at h9
      show some d.parameters.length = _
      rw [← h9, Nat.add_sub_cancel]
  obtain ⟨ar, hrev⟩ : ∃ ar, (st'.take (pN N)).reverse = ar := ⟨_, rfl⟩
  have htk : st'.take (pN N) = ar.reverse := by rw [← hrev, List.reverse_reverse]
  have hSfix : CallFix p m c (pB M) (pL M) s args TBL (cnm.getD (pO M) "") := ⟨hx, hb, hmax, hown, hts⟩
  rw [hrev] at hCT hPre ⊢
  have harl : ar.length = pN N := by rw [← hrev, List.length_reverse]; exact hlen'
  have hvrt : virt = true → ∃ (q0 : Nat) (fs' : List Value) (i0 a0 : Nat) (tl : List Value), ar = .ref a0 :: tl ∧ ws[i0]? = some (a0, .inr (pO N, fs')) := by
    intro hv
    obtain ⟨i0, fs, hla, hh⟩ := hvirt hv
    have hA2 := A2.rev (A2.take (pN N) hst)
    rw [hrev] at hA2
    have hhead : (st.take (pN N)).reverse = .ref i0 :: ((st.take (pN N)).reverse).tail := by
      have h1 : (st.take (pN N)).reverse.head? = some (.ref i0) := by rw [List.head?_reverse]; exact hla
      cases hz : (st.take (pN N)).reverse with
      | nil => rw [hz] at h1; cases h1
      | cons z zs => rw [hz] at h1; cases h1; rfl
    rw [hhead] at hA2
    obtain ⟨a0, tl, hρ, he, -⟩ := a_r hA2
    obtain ⟨y, hy, ⟨fs', rfl, -⟩⟩ := hI.at hρ hh
    exact ⟨0, fs', i0, a0, tl, he, hy⟩
  rcases hkd with ⟨rfl, rfl, hkd⟩ | ⟨rfl, rfl, hkd⟩ | ⟨rfl, rfl, hkd⟩
  · -- of an object
    obtain ⟨-, fs', i0, a0, tl, rfl, hwi⟩ := hvrt rfl
    have hK0 : pK N = 0 := by
      rcases hkd with rfl | rfl <;> (simp only [mkK] at hk; rw [hN] at hk; simpa using hk)
    obtain ⟨hwc, hw2⟩ := hw
    rw [hK0] at hw2
    obtain ⟨hcode, hinst, hsel⟩ := hw2
    obtain ⟨hG, heq⟩ := hgood 0 hK0 (by decide) hcode
    have hrecv : ∃ cellB : Cell, Hp[a0]? = some cellB ∧ cellB.vm.isStatics = false ∧ s.vm.findClass (pY N).cls = some cellB.cls := by
      obtain ⟨r, hr, h9⟩ := hP i0 _ hwi
      have hr' := owX_ok (ci := pO N) hr
      have hcc : r.1 = (pY N).cls := by
        rw [← hr'.1]
        have h8 := hwc
        simp only [List.getD, h8, Option.getD_some]
      have h7 := va_recv hXK.1 hP hr hwi
      rw [hcc] at h7
      exact h7
    have hnn : tl.length = pN N - 1 := by
      have := harl; simp at this; omega
    have hstk : st' = tl.reverse ++ .ref a0 :: st'.drop (pN N) := by
      conv => lhs; rw [hsplit, htk]
      simp
    rcases hkd with rfl | rfl
    · have hlink : (Cond.methodLink (cnm.getD (pO M) "") i (pY N)).before args s = true := by
        have e : mlW (pO M, i, μ, 0) = Cond.methodLink (cnm.getD (pO M) "") i (pY N) := by simp [mlW, yM, hN]
        rw [e] at hMl
        exact hts _ (TBL_of ⟨hMl.1, rfl⟩)
      refine vx_runV (C := (pY N).cls) (n := pN N - 1) (As := tl) (bytes := pB N) (maxL := pL N) (ret := pR N) hSfix hCT ⟨callB_of (pN N - 1) hts hG heq rfl rfl hini2 hlink ⟨hne.1, hne.2, hpar 1 (by simp [hK0])⟩ hroom, hts _ (TBL_of hinst), hts _ (TBL_of hsel)⟩ ⟨PcP.blind, hrecv, hPre⟩ rfl hnn hl.1 hstk hsum hdg hfit
    · have hlink : va_Nw (Cond.methodLinkNest (cnm.getD (pO M) "") i (pY N) "OverlapMill") s := by
        have e : mlW (pO M, i, μ, 1) = Cond.methodLinkNest (cnm.getD (pO M) "") i (pY N) "OverlapMill" := by simp [mlW, yM, hN]
        rw [e] at hMl
        exact hXK.2.1 _ hMl.1 rfl
      refine vx_runVN (C := (pY N).cls) (host := "OverlapMill") (n := pN N - 1) (As := tl) (bytes := pB N) (maxL := pL N) (ret := pR N) hSfix hCT ⟨va_cnB (pN N - 1) hts hG heq rfl rfl hlink hini2 ⟨hne.1, hne.2, hpar 1 (by simp [hK0])⟩ hroom, hts _ (TBL_of hinst), hts _ (TBL_of hsel)⟩ ⟨PcP.blind, hrecv, hPre⟩ rfl hnn hl.1 hstk hsum hdg hfit
  · -- static
    have hstk : st' = ar.reverse ++ st'.drop (pN N) := by
      conv => lhs; rw [hsplit, htk]
    rcases hkd with rfl | rfl | rfl
    · have hK0 : pK N = 1 := by simp only [mkK] at hk; rw [hN] at hk; simpa using hk
      obtain ⟨hwc, hw2⟩ := hw
      rw [hK0] at hw2
      obtain ⟨hcode, hstat⟩ := hw2
      obtain ⟨hG, heq⟩ := hgood 1 hK0 (by decide) hcode
      have hlink : (Cond.methodLink (cnm.getD (pO M) "") i (pY N)).before args s = true := by
        have e : mlW (pO M, i, μ, 2) = Cond.methodLink (cnm.getD (pO M) "") i (pY N) := by simp [mlW, yM, hN]
        rw [e] at hMl
        exact hts _ (TBL_of ⟨hMl.1, rfl⟩)
      exact vx_runS (n := pN N) (As := ar) (bytes := pB N) (maxL := pL N) (ret := pR N) hSfix hCT ⟨callB_of (pN N) hts hG heq rfl rfl hini2 hlink ⟨hne.1, hne.2, hpar 0 (by simp [hK0])⟩ hroom, hts _ (TBL_of hstat)⟩ ⟨PcP.blind, hPre⟩ rfl harl hl.1 hstk hsum hdg hfit
    · have hK0 : pK N = 1 := by simp only [mkK] at hk; rw [hN] at hk; simpa using hk
      obtain ⟨hwc, hw2⟩ := hw
      rw [hK0] at hw2
      obtain ⟨hcode, hstat⟩ := hw2
      obtain ⟨hG, heq⟩ := hgood 1 hK0 (by decide) hcode
      have hlink : va_Nw (Cond.methodLinkNest (cnm.getD (pO M) "") i (pY N) "OverlapMill") s := by
        have e : mlW (pO M, i, μ, 3) = Cond.methodLinkNest (cnm.getD (pO M) "") i (pY N) "OverlapMill" := by simp [mlW, yM, hN]
        rw [e] at hMl
        exact hXK.2.1 _ hMl.1 rfl
      exact vx_runSN (host := "OverlapMill") (n := pN N) (As := ar) (bytes := pB N) (maxL := pL N) (ret := pR N) hSfix hCT ⟨va_cnB (pN N) hts hG heq rfl rfl hlink hini2 ⟨hne.1, hne.2, hpar 0 (by simp [hK0])⟩ hroom, hts _ (TBL_of hstat), trivial⟩ ⟨PcP.blind, hPre⟩ rfl harl hl.1 hstk hsum hdg hfit
    · have hK0 : pK N = 3 := by simp only [mkK] at hk; rw [hN] at hk; simpa using hk
      obtain ⟨hwc, hw2⟩ := hw
      rw [hK0] at hw2
      obtain ⟨hcode, hstat⟩ := hw2
      have heq : wsN μ N = Cond.codeWith (pY N) (pB N) (pL N) (pR N) (hhOf μ) :: TBL := by unfold wsN; rw [if_pos hK0]
      have hlink : Cond.methodLink (cnm.getD (pO M) "") i (pY N) ∈ TBL := by
        have e : mlW (pO M, i, μ, 8) = Cond.methodLink (cnm.getD (pO M) "") i (pY N) := by simp [mlW, yM, hN]
        rw [e] at hMl
        exact TBL_of ⟨hMl.1, rfl⟩
      have hG : GoodIn TBL (va_wsS (cnm.getD (pO M) "") i (pY N) (wsN μ N)) := by
        intro w hw'
        have h8 : w ∈ TBL := by
          unfold va_wsS at hw'
          rw [heq] at hw'
          simp only [List.mem_append, List.mem_cons, List.not_mem_nil, or_false] at hw'
          rcases hw' with (rfl | rfl | rfl) | rfl | hw'
          · exact hlink
          · exact TBL_of hstat
          · exact TBL_of (IN_ok _ (List.mem_of_getElem? hwc))
          · exact TBL_of ⟨hcode, rfl⟩
          · exact hw'
        exact ⟨h8, good_of_word (List.mem_filter.mp h8).2⟩
      exact vx_runSX (hh := hhOf μ) (n := pN N) (As := ar) (bytes := pB N) (maxL := pL N) (ret := pR N) hSfix hCT (vx_cwSW (pN N) hts hG heq rfl rfl ⟨hne.1, hne.2, hpar 0 (by simp [hK0])⟩ hroom) ⟨PcP.blind, hPre⟩ rfl harl hl.1 hstk hsum hdg hfit
  · -- a constructor
    obtain ⟨-, fs', i0, a0, tl, rfl, hwi⟩ := hvrt rfl
    have hK0 : pK N = 2 := by
      rcases hkd with rfl | rfl <;> (simp only [mkK] at hk; rw [hN] at hk; simpa using hk)
    obtain ⟨hwc, hw2⟩ := hw
    rw [hK0] at hw2
    obtain ⟨hcode, hinst, hnm, hret⟩ := hw2
    obtain ⟨hG, heq⟩ := hgood 2 hK0 (by decide) hcode
    have hnn : tl.length = pN N - 1 := by
      have := harl; simp at this; omega
    have hstk : st' = tl.reverse ++ .ref a0 :: st'.drop (pN N) := by
      conv => lhs; rw [hsplit, htk]
      simp
    rcases hkd with rfl | rfl
    · have hlink : (Cond.methodLink (cnm.getD (pO M) "") i (pY N)).before args s = true := by
        have e : mlW (pO M, i, μ, 4) = Cond.methodLink (cnm.getD (pO M) "") i (pY N) := by simp [mlW, yM, hN]
        rw [e] at hMl
        exact hts _ (TBL_of ⟨hMl.1, rfl⟩)
      exact vx_runI (n := pN N - 1) (As := tl) (bytes := pB N) (maxL := pL N) hSfix hCT ⟨callB_of (pN N - 1) hts hG (by rw [heq, codeOf, hret]) rfl rfl hini2 hlink ⟨hne.1, hne.2, hpar 1 (by simp [hK0])⟩ hroom, hnm, hts _ (TBL_of hinst)⟩ ⟨PcP.blind, hPre⟩ rfl hnn hl.1 hstk hsum hdg hfit
    · have hlink : va_Nw (Cond.methodLinkNest (cnm.getD (pO M) "") i (pY N) "OverlapMill") s := by
        have e : mlW (pO M, i, μ, 5) = Cond.methodLinkNest (cnm.getD (pO M) "") i (pY N) "OverlapMill" := by simp [mlW, yM, hN]
        rw [e] at hMl
        exact hXK.2.1 _ hMl.1 rfl
      exact vx_runIN (host := "OverlapMill") (n := pN N - 1) (As := tl) (bytes := pB N) (maxL := pL N) hSfix hCT ⟨va_cnB (pN N - 1) hts hG (by rw [heq, codeOf, hret]) rfl rfl hlink hini2 ⟨hne.1, hne.2, hpar 1 (by simp [hK0])⟩ hroom, hnm, hts _ (TBL_of hinst)⟩ ⟨PcP.blind, hPre⟩ rfl hnn hl.1 hstk hsum hdg hfit
end STP
