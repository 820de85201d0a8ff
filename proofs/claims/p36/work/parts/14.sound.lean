/-! every method, by the number of calls that may be open -/
theorem hd_rows (μ : Nat) : ∃ rows, hdOf μ = rows.map Prod.fst ∧ tableOf (hhOf μ) = rows.map ent ∧ (rows = [] ∨ ∀ N, MT[μ]? = some N → (∀ r ∈ rows, hkOK (pB N) (pL N) r = true) ∧ pR N = some .int ∧ pO N = 11) := by
  cases hf : HDq.find? (fun q => q.1 == μ) with
  | none => exact ⟨[], by simp [hdOf, hf], by simp [hhOf, hf, tableOf], Or.inl rfl⟩
  | some q =>
    refine ⟨q.2, by simp [hdOf, hf], by simp [hhOf, hf, tableOf, ent], Or.inr fun N hN => ?_⟩
    have h1 := List.all_eq_true.mp HDq_ok q (List.mem_of_find?_eq_some hf)
    have h2 : q.1 = μ := by have h3 := List.find?_some hf; simpa using h3
    simp only [hqOK, h2, hN, Bool.and_eq_true, decide_eq_true_eq, List.all_eq_true] at h1
    exact ⟨h1.1.1, h1.1.2, h1.2⟩
theorem HD_wr : ∀ (μ : Nat) (N : PM), MT[μ]? = some N → pK N = 3 → pR N = some .int ∧ pO N = 11 := by
  intro μ N hN hk
  have h1 : MT.all (fun N => !(pK N == 3) || (decide (pR N = some .int) && decide (pO N = 11))) = true := by decide +kernel
  have h2 := List.all_eq_true.mp h1 N (List.mem_of_getElem? hN)
  simp only [hk, beq_self_eq_true, Bool.not_true, Bool.false_or, Bool.and_eq_true, decide_eq_true_eq] at h2
  exact h2
set_option maxHeartbeats 1000000 in
theorem sound_n {l : Launch} (htr : l.stackTraces = false) (D : va_G) (cy : Nat → ClassId) (b : Option Nat) (S : Nat × (Nat → Int32)) : ∀ (n μ : Nat) (N : PM) (av : List Value) (h : PH) (Q : Rs → PH → Prop), MT[μ]? = some N → ¬ pK N = 4 → Ex S n μ av h Q → CT l D cy b S n μ N av h Q
  | 0, _, _, _, _, _, _, _, H => H.elim
  | n + 1, μ, N, av, h, Q, hN, hk4, H => by
    obtain ⟨M', hM', hcat, HB⟩ := H
    cases Option.some.inj (hN.symm.trans hM')
    have hw := MT_w hN
    have hmem := List.mem_of_getElem? hN
    have hokn : mOK N = true := (MT_ok N hmem).resolve_left hk4
    have hpl := plain_all N hmem
    intro av' ws sz hav hrE
    have hcl : (cnm.getD (pO N) "") = (pY N).cls := by rw [List.getD, hw.1]; rfl
    have hlen : (lg_sl av').length ≤ pL N := by
      rw [sl_len]
      have h9 := A2.cats hav
      rw [show av'.map Value.category = av.map Value.category from h9]
      exact hcat
    refine px_of (cc := pB N) (maxL := pL N) (ret := pR N) hpl ?_ ?_
    · intro args s m hpre hnm
      have hat := atoms_spec (ws := wsN μ N) hpre
      by_cases hk3 : pK N = 3
      · have hcw := hat (Cond.codeWith (pY N) (pB N) (pL N) (pR N) (hhOf μ)) (by unfold wsN; rw [if_pos hk3]; exact List.mem_cons_self)
        obtain ⟨m9, meth, c, hn9, h1, h2, h3, h4, -, h5, h6, -⟩ := Cond.codeWith_spec hcw
        cases hnm.symm.trans hn9
        exact ⟨meth, c, h1, h2, h3, h4, h5, h6⟩
      · have hcw := hat (codeOf N) (by unfold wsN; rw [if_neg hk3]; exact List.mem_cons_self)
        obtain ⟨meth, c, h1, h2, h3, h4, h5, h6, -, -⟩ := Cond.code_spec hnm hcw
        exact ⟨meth, c, h1, h2, h3, h4, h5, h6⟩
    · intro p e s m args below meth c s₁ B hml hv
      obtain ⟨rfl, hsz, hP, hD0, hXK⟩ := hv
      subst hsz
      have hts0 := atoms_spec (ws := wsN μ N) B.pre
      have hts : ∀ w ∈ TBL, w.before av'.toArray s = true := fun w hw => hts0 w (List.mem_cons_of_mem _ hw)
      have hown : s.vm.findClass (cnm.getD (pO N) "") = some m.cls := by rw [hcl]; exact findClass_of_methodNamed B.named
      have hini : pK N = 2 → meth.name = "<init>" := fun hk2 => by
        have h1 := (name_of_methodNamed B.named B.method).1
        have h2 := hw.2
        rw [hk2] at h2
        rw [h1]
        exact h2.2.2.1
      have hc : CX p l (headSpec (wsN μ N) (rmN (n + 1) N)).room s m av'.toArray meth c D cy (va_A ws s.heap.size) b S N n := ⟨B.exec, B.bytes, hml, hown, hts, hXK, fun q hq => Or.inr hq, hini, Nat.le_refl _, Nat.le_refl _, (by show n + 9 ≤ n + 1 + 8; omega), (by show 40 * n + 240 ≤ 40 * (n + 1) + 200; omega), htr⟩
      have hR := hr_of (e := e) (below := below) (Q := Q) hc B.returns B.notSynchronized
      have hl := lv_entry av' (n := pL N) hlen
      have hrL := rl_args 0 hav
      have hI : INV D cy (va_A ws s.heap.size) b s ws h ws s.heap [] := ⟨fun _ _ q => q, hrE, hP, hD0.self, va_S.rf⟩
      rw [lg_entry_eq]
      by_cases hk3 : pK N = 3
      · have hcw := hts0 (Cond.codeWith (pY N) (pB N) (pL N) (pR N) (hhOf μ)) (by unfold wsN; rw [if_pos hk3]; exact List.mem_cons_self)
        have htab := vx_table (x := pY N) B hcw
        obtain ⟨rows, hr1, hr2, hr3⟩ := hd_rows μ
        rw [hr2] at htab
        rw [if_pos hk3, hr1] at HB
        obtain ⟨hri, hO⟩ := HD_wr μ N hN hk3
        have hrows : ∀ r ∈ rows, hkOK (pB N) (pL N) r = true := by
          rcases hr3 with rfl | h9
          · intro r hr; cases hr
          · exact (h9 N hN).1
        exact body hc (fun μ' N' av h Q' h1 h2 h3 => sound_n htr D cy b S n μ' N' av h Q' h1 h2 h3) hR (hx_wrap hc B.notSynchronized B.returns hO hri hrows htab) (hn_of hc B.notSynchronized (fun h9 => absurd (hO.symm.trans h9) (by decide))) hokn HB _ _ _ ws s.heap [] hl hrL rfl hI (Nat.zero_le _) (Nat.zero_le _)
      · have hcw := hts0 (codeOf N) (by unfold wsN; rw [if_neg hk3]; exact List.mem_cons_self)
        have ht : ∀ x ∈ c.exceptionTable.toList, False := by
          obtain ⟨meth9, c9, h1, h2, -, -, -, -, h7, -⟩ := Cond.code_spec B.named hcw
          cases Option.some.inj (h1.symm.trans B.method)
          cases Option.some.inj (h2.symm.trans (Stand.of_body B).code)
          intro x hx
          rw [Array.isEmpty_iff.mp h7] at hx
          cases hx
        rw [if_neg hk3] at HB
        exact body hc (fun μ' N' av h Q' h1 h2 h3 => sound_n htr D cy b S n μ' N' av h Q' h1 h2 h3) hR (hx_plain B.notSynchronized ht) (hn_of hc B.notSynchronized (fun _ => ht)) hokn HB _ _ _ ws s.heap [] hl hrL rfl hI (Nat.zero_le _) (Nat.zero_le _)
