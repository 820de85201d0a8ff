/-! every instruction -/
section INS
variable {p : Program} {l : Launch} {e : Env} {R : Room} {s : State} {m : MethodId} {args : Array Value} {below : List Frame} {meth : Method} {c : Code} {D : va_G} {cy : Nat → ClassId} {A : Nat → Prop} {b : Option Nat} {S : Nat × (Nat → Int32)} {M : PM} {ws0 : va_W} {Z : State → Prop} {n : Nat}
theorem teK_i {o : Nat} {cc : ByteArray} {ini : Bool} {te : TE} (h : teK o cc ini te = true) : decode cc te.1 = .ok (te.2.1, ilen te) ∧ lkOK o cc ini te = true := by
  simp only [teK, Bool.and_eq_true, dcd, decide_eq_true_eq] at h
  exact h
theorem arr_int {U : State} {cA : ClassId} (hK : va_K D vwCl (pTy cy ++ [(cA, .int)]) U) : cA = cy 0 := by
  have h1 : va_RA U cA .int := (hK.2 4 (cA, .int) rfl).2
  have h2 : va_RA U (cy 0) .int := (hK.2 0 (cy 0, .int) rfl).2
  exact Option.some.inj (Eq.trans (Eq.symm h1) h2)
theorem arr_long {U : State} {cA : ClassId} (hK : va_K D vwCl (pTy cy ++ [(cA, .long)]) U) : cA = cy 1 := by
  have h1 : va_RA U cA .long := (hK.2 4 (cA, .long) rfl).2
  have h2 : va_RA U (cy 1) .long := (hK.2 1 (cy 1, .long) rfl).2
  exact Option.some.inj (Eq.trans (Eq.symm h1) h2)
theorem arr_chart {U : State} {cA : ClassId} (hK : va_K D vwCl (pTy cy ++ [(cA, .object "OverlapMill$Chart")]) U) : cA = cy 2 := by
  obtain ⟨-, -, -, -, -, h1⟩ := (hK.2 4 (cA, .object "OverlapMill$Chart") rfl).2
  obtain ⟨-, -, -, -, -, h2⟩ := (hK.2 2 (cy 2, .object "OverlapMill$Chart") rfl).2
  exact Option.some.inj (Eq.trans (Eq.symm h1) h2)
theorem arr_rows {U : State} {cA : ClassId} (hK : va_K D vwCl (pTy cy ++ [(cA, .array .int)]) U) : cA = cy 3 := by
  have h1 : va_RA U cA (.array .int) := (hK.2 4 (cA, .array .int) rfl).2
  have h2 : va_RA U (cy 3) (.array .int) := (hK.2 3 (cy 3, .array .int) rfl).2
  exact Option.some.inj (Eq.trans (Eq.symm h1) h2)
abbrev w2 (ws : va_W) (cy : Nat → ClassId) (q N k : Nat) (r : Nat → Nat) (g : Nat → Int32) : va_W := (ws ++ [(q, .inl (cy 3, N, .inr (.inr (.inr (.inr (fun i => if i < N then some (r i) else none))))))]) ++ (List.range N).map (fun i => (r i, (.inl (cy 0, k, .inl g) : va_E)))
theorem INV.push2 {h : PH} {ws : va_W} {H H1 : Heap} {locs : List Loc} (hI : INV D cy A b s ws0 h ws H locs) {q N k : Nat} {r : Nat → Nat} {g : Nat → Int32}
    (h1 : va_P D vwCl (w2 ws cy q N k r g) H1) (h2 : va_D A (w2 ws cy q N k r g)) (h3 : va_S A s.heap H1 locs) :
    INV D cy A b s ws0 ((h ++ [.inl (3, N, .inr (.inr (.inr (.inr (fun i => if i < N then some (h.length + 1 + i) else none)))))]) ++ List.replicate N (.inl (0, k, .inl g))) (w2 ws cy q N k r g) H1 locs
    ∧ ext (ws.map Prod.fst) ((w2 ws cy q N k r g).map Prod.fst) ∧ ((w2 ws cy q N k r g).map Prod.fst)[h.length]? = some q := by
  have hl : ws.length = h.length := by have h9 := hI.2.1.len; rwa [List.length_map] at h9
  have hfst : (w2 ws cy q N k r g).map Prod.fst = ws.map Prod.fst ++ (q :: (List.range N).map r) := by
    rw [List.map_append, List.map_append, List.map_map, List.append_assoc]
    rfl
  have hx : ext (ws.map Prod.fst) (ws.map Prod.fst ++ (q :: (List.range N).map r)) := ext_app _ _
  rw [INV, hfst]
  refine ⟨⟨fun i a ha => hx i a (hI.1 i a ha), ?_, h1, h2, h3⟩, hx, ?_⟩
  · rw [List.map_append (f := Prod.snd), List.map_append (f := Prod.snd), List.map_map]
    refine A2.app ?_ (A2.app (A2.one ⟨_, rfl, fun j => ?_⟩) (hI.2.1.mono (rE.mono hx)))
    · have e : (List.range N).map (Prod.snd ∘ fun i => (r i, (.inl (cy 0, k, .inl g) : va_E))) = List.replicate N (.inl (cy 0, k, .inl g) : va_E) := by
        apply List.ext_getElem?
        intro i
        by_cases hi : i < N <;> simp [hi]
      rw [e]
      exact A2.rep (show rE cy _ b (.inl (0, k, .inl g)) (.inl (cy 0, k, .inl g)) from rfl) N
    · by_cases hj : j < N
      · simp only [if_pos hj]
        refine ⟨r j, ?_, rfl⟩
        rw [List.getElem?_append_right (by simp; omega)]
        simp only [List.length_map, hl]
        rw [show h.length + 1 + j - h.length = j + 1 by omega]
        simp [hj]
      · simp only [if_neg hj]
  · rw [List.getElem?_append_right (by simp [hl])]
    simp [hl]
set_option maxHeartbeats 4000000 in
set_option maxRecDepth 10000 in
theorem stepI {C : Nat → List Value → PH → (Rs → PH → Prop) → Prop} {hd : List (Nat × Nat × Nat × Int)} {Q : Rs → PH → Prop} {K : Kt} (hc : CX p l R s m args meth c D cy A b S M n) (hC : ∀ (μ : Nat) (N : PM) (av : List Value) (h : PH) (Q' : Rs → PH → Prop), MT[μ]? = some N → ¬ pK N = 4 → C μ av h Q' → CT l D cy b S n μ N av h Q')
    (hR : HRt p l e R s m args below meth c D cy A b M ws0 Z Q) (hX : HXt p l e R s m args below meth c D cy A b M ws0 Z hd Q) (hNw : HNt p l e R s m args below meth c D cy A b M ws0 Z hd Q) (ih : ∀ pc lv st h cl sl, K pc lv st h cl sl → GD p l e R s m args below meth c D cy A b M ws0 Z pc lv st h cl sl)
    {te : TE} (hte : teK (pO M) (pB M) (pK M == 2) te = true) {lv : LV} {st : List Value} {h : PH} {cl sl : Nat} (H : pmI C S M hd Q K te lv st h cl sl) : GD p l e R s m args below meth c D cy A b M ws0 Z te.1 lv st h cl sl := by
  obtain ⟨hdg, hlk⟩ := teK_i hte
  obtain ⟨hx, hb, hmax, hown, hts, hXK, hA, hini, hRc, hRs, hRf, hRl, htr⟩ := id hc
  obtain ⟨pc, ins, ta, tb⟩ := te
  have hcall : ∀ {i μ kd : Nat} {virt : Bool} {ins : Instr}, (pO M, i, μ, kd) ∈ MLs → ((ins = .invokevirtual i ∧ virt = true ∧ (kd = 0 ∨ kd = 1)) ∨ (ins = .invokestatic i ∧ virt = false ∧ (kd = 2 ∨ kd = 3 ∨ kd = 8)) ∨ (ins = .invokespecial i ∧ virt = true ∧ (kd = 4 ∨ kd = 5))) → decode (pB M) pc = .ok (ins, 3) → p_call C M hd Q K pc μ virt lv st h cl sl → GD p l e R s m args below meth c D cy A b M ws0 Z pc lv st h cl sl := fun h1 h2 h3 h4 => call_i hc hC hX ih h1 h2 h3 h4
  intro ls lv' st' ws Hp locs hl hlv hst hI hcl hsl
  obtain ⟨hex, hrE, hP, hD, hS⟩ := id hI
  have go : ∀ {pc2 : Nat} {lv2 : LV} {st2 : List Value} {lv2' : LV} {ls2 : Array Slot} {st2' : List Value}, K pc2 lv2 st2 h cl sl → lv_has ls2 (pL M) lv2' → A2 (rL (ws.map Prod.fst) b) lv2 lv2' → A2 (rv (ws.map Prod.fst) b) st2 st2' → W p l e R s m args below meth c Hp locs cl sl Z (F0 m pc2 ls2 st2') := fun h1 h2 h3 h4 => ih _ _ _ _ _ _ h1 _ _ _ ws Hp locs h2 h3 h4 hI hcl hsl
  cases ins
  case iconst z =>
    have H : K (pc + 1) lv (.int (Int32.ofInt z) :: st) h cl sl := H
    exact lv_iconst hx hb hdg rfl (go H hl hlv (a_i _ hst))
  case bipush z =>
    have H : K (pc + 2) lv (.int (Int8.ofInt z).toInt32 :: st) h cl sl := H
    exact lv_bipush hx hb hdg rfl (go H hl hlv (a_i _ hst))
  case sipush z =>
    have H : K (pc + 3) lv (.int (Int16.ofInt z).toInt32 :: st) h cl sl := H
    exact lv_sipush hx hb hdg rfl (go H hl hlv (a_i _ hst))
  case lconst z =>
    have H : K (pc + 1) lv (.long (Int64.ofNat z) :: st) h cl sl := H
    exact lv_lconst hx hb hdg rfl (go H hl hlv (a_L _ hst))
  case ldc i =>
    obtain ⟨q, hq, h0, H⟩ : ∃ q, KLs[ta]? = some q ∧ tb = 0 ∧ K (pc + 2) lv (.int q.2.2 :: st) h cl sl := H
    subst h0
    simp only [lkOK, hq] at hlk
    have hlk2 : q.1 = pO M ∧ q.2.1 = i := by simpa using hlk
    have hw := kl_in hq
    rw [hlk2.1, hlk2.2] at hw
    exact lv_ldc hx hb hown (hts _ hw) hdg (go H hl hlv (a_i _ hst))
  case ldc_w i =>
    obtain ⟨q, hq, h0, H⟩ : ∃ q, KLs[ta]? = some q ∧ tb = 0 ∧ K (pc + 3) lv (.int q.2.2 :: st) h cl sl := H
    subst h0
    simp only [lkOK, hq] at hlk
    have hlk2 : q.1 = pO M ∧ q.2.1 = i := by simpa using hlk
    have hw := kl_in hq
    rw [hlk2.1, hlk2.2] at hw
    exact lv_ldcw hx hb hown (hts _ hw) hdg (go H hl hlv (a_i _ hst))
  case iload i =>
    obtain ⟨x, h1, H⟩ : ∃ x, px_g lv i = some (.int x) ∧ K (pc + 2) lv (.int x :: st) h cl sl := H
    obtain ⟨k, w, h2, h3⟩ := rl_g hlv h1
    cases (show w = .int x from h3)
    exact lv_iload hx hb hdg (lv_at hl k h2) (go H hl hlv (a_i _ hst))
  case iload_n i =>
    obtain ⟨x, h1, H⟩ : ∃ x, px_g lv i = some (.int x) ∧ K (pc + 1) lv (.int x :: st) h cl sl := H
    obtain ⟨k, w, h2, h3⟩ := rl_g hlv h1
    cases (show w = .int x from h3)
    exact lv_iload_n hx hb hdg rfl (lv_at hl k h2) (go H hl hlv (a_i _ hst))
  case lload i =>
    obtain ⟨x, h1, H⟩ : ∃ x, px_g lv i = some (.long x) ∧ K (pc + 2) lv (.long x :: st) h cl sl := H
    obtain ⟨k, w, h2, h3⟩ := rl_g hlv h1
    cases (show w = .long x from h3)
    exact lv_lload hx hb hdg (lv_at hl k h2) (go H hl hlv (a_L _ hst))
  case aload i =>
    obtain ⟨v, h1, hv, H⟩ : ∃ v, px_g lv i = some v ∧ (∃ a, v = .ref a ∨ v = .retAddr a) ∧ K (pc + 2) lv (v :: st) h cl sl := H
    obtain ⟨k, w, h2, h3⟩ := rl_g hlv h1
    obtain ⟨a, rfl⟩ : ∃ a, w = .ref a := by
      obtain ⟨a0, rfl | rfl⟩ := hv
      · obtain ⟨a, -, e⟩ := h3; exact ⟨a, e⟩
      · obtain ⟨a, -, e⟩ := h3; exact ⟨a, e⟩
    exact lv_aload hx hb hdg (lv_at hl k h2) (go H hl hlv ⟨_, _, rfl, h3, hst⟩)
  case aload_n i =>
    obtain ⟨v, h1, hv, H⟩ : ∃ v, px_g lv i = some v ∧ (∃ a, v = .ref a ∨ v = .retAddr a) ∧ K (pc + 1) lv (v :: st) h cl sl := H
    obtain ⟨k, w, h2, h3⟩ := rl_g hlv h1
    obtain ⟨a, rfl⟩ : ∃ a, w = .ref a := by
      obtain ⟨a0, rfl | rfl⟩ := hv
      · obtain ⟨a, -, e⟩ := h3; exact ⟨a, e⟩
      · obtain ⟨a, -, e⟩ := h3; exact ⟨a, e⟩
    exact lv_aload_n hx hb hdg rfl (lv_at hl k h2) (go H hl hlv ⟨_, _, rfl, h3, hst⟩)
  case istore i =>
    obtain ⟨hi, H⟩ : i < pL M ∧ on1 st fun x r => K (pc + 2) (px_s1 lv i (.int x)) r h cl sl := H
    obtain ⟨x, r, rfl, H⟩ := on1_i H
    obtain ⟨r', rfl, hr⟩ := a_1 hst
    exact lv_istore hx hb hdg hl hi rfl (fun ls2 hl2 => go H hl2 (rl_s1 hlv i rfl) hr)
  case istore_n i =>
    obtain ⟨hi, H⟩ : (i : Nat) < pL M ∧ on1 st fun x r => K (pc + 1) (px_s1 lv i (.int x)) r h cl sl := H
    obtain ⟨x, r, rfl, H⟩ := on1_i H
    obtain ⟨r', rfl, hr⟩ := a_1 hst
    exact lv_istore_n hx hb hdg rfl hl hi rfl (fun ls2 hl2 => go H hl2 (rl_s1 hlv i rfl) hr)
  case lstore i =>
    obtain ⟨hi, x, r, rfl, H⟩ : i + 1 < pL M ∧ ∃ x r, st = .long x :: r ∧ K (pc + 2) (px_s2 lv i (.long x)) r h cl sl := H
    obtain ⟨r', rfl, hr⟩ := a_l hst
    exact lv_lstore hx hb hdg hl hi rfl (fun ls2 hl2 => go H hl2 (rl_s2 hlv i rfl) hr)
  case astore i =>
    obtain ⟨hi, H⟩ : i < pL M ∧ onR st fun x r => K (pc + 2) (px_s1 lv i (.ref x)) r h cl sl := H
    obtain ⟨x, r, rfl, H⟩ := onR_i H
    obtain ⟨a, r', hρ, rfl, hr⟩ := a_r hst
    exact lv_astore hx hb hdg hl hi rfl (fun ls2 hl2 => go H hl2 (rl_s1 hlv i ⟨a, hρ, rfl⟩) hr)
  case astore_n i =>
    obtain ⟨hi, H⟩ : (i : Nat) < pL M ∧ onR st fun x r => K (pc + 1) (px_s1 lv i (.ref x)) r h cl sl := H
    obtain ⟨x, r, rfl, H⟩ := onR_i H
    obtain ⟨a, r', hρ, rfl, hr⟩ := a_r hst
    exact lv_astore_n hx hb hdg rfl hl hi rfl (fun ls2 hl2 => go H hl2 (rl_s1 hlv i ⟨a, hρ, rfl⟩) hr)
  case iinc i z =>
    obtain ⟨hi, x, h1, H⟩ : i < pL M ∧ ∃ x, px_g lv i = some (.int x) ∧ K (pc + 3) (px_s1 lv i (.int (x + Int32.ofInt z))) st h cl sl := H
    obtain ⟨k, w, h2, h3⟩ := rl_g hlv h1
    cases (show w = .int x from h3)
    exact lv_iinc hx hb hdg hl h2 rfl hi rfl (fun ls2 hl2 => go H hl2 (rl_s1 hlv i rfl) hst)
  case iadd =>
    obtain ⟨x, y, r, rfl, H⟩ := on2_i (show on2 st fun x y r => K (pc + 1) lv (.int (x + y) :: r) h cl sl from H)
    obtain ⟨r', rfl, hr⟩ := a_2 hst
    exact lv_iadd hx hb hdg (go H hl hlv (a_i _ hr))
  case isub =>
    obtain ⟨x, y, r, rfl, H⟩ := on2_i (show on2 st fun x y r => K (pc + 1) lv (.int (x - y) :: r) h cl sl from H)
    obtain ⟨r', rfl, hr⟩ := a_2 hst
    exact lv_isub hx hb hdg (go H hl hlv (a_i _ hr))
  case imul =>
    obtain ⟨x, y, r, rfl, H⟩ := on2_i (show on2 st fun x y r => K (pc + 1) lv (.int (x * y) :: r) h cl sl from H)
    obtain ⟨r', rfl, hr⟩ := a_2 hst
    exact lv_imul hx hb hdg (go H hl hlv (a_i _ hr))
  case idiv =>
    obtain ⟨x, y, r, rfl, hne, H⟩ := on2_i (show on2 st fun x y r => ¬ y = 0 ∧ K (pc + 1) lv (.int (x / y) :: r) h cl sl from H)
    obtain ⟨r', rfl, hr⟩ := a_2 hst
    exact lv_idiv hx hb hdg hne (go H hl hlv (a_i _ hr))
  case irem =>
    obtain ⟨x, y, r, rfl, hne, H⟩ := on2_i (show on2 st fun x y r => ¬ y = 0 ∧ K (pc + 1) lv (.int (x - x / y * y) :: r) h cl sl from H)
    obtain ⟨r', rfl, hr⟩ := a_2 hst
    exact lv_irem hx hb hdg hne (go H hl hlv (a_i _ hr))
  case ineg =>
    obtain ⟨x, r, rfl, H⟩ := on1_i (show on1 st fun x r => K (pc + 1) lv (.int (-x) :: r) h cl sl from H)
    obtain ⟨r', rfl, hr⟩ := a_1 hst
    exact lv_ineg hx hb hdg (go H hl hlv (a_i _ hr))
  case ishl =>
    obtain ⟨x, y, r, rfl, H⟩ := on2_i (show on2 st fun x y r => K (pc + 1) lv (.int (x <<< (y &&& 31)) :: r) h cl sl from H)
    obtain ⟨r', rfl, hr⟩ := a_2 hst
    exact lv_ishl hx hb hdg (go H hl hlv (a_i _ hr))
  case ishr =>
    obtain ⟨x, y, r, rfl, H⟩ := on2_i (show on2 st fun x y r => K (pc + 1) lv (.int (x >>> (y &&& 31)) :: r) h cl sl from H)
    obtain ⟨r', rfl, hr⟩ := a_2 hst
    exact lv_ishr hx hb hdg (go H hl hlv (a_i _ hr))
  case iushr =>
    obtain ⟨x, y, r, rfl, H⟩ := on2_i (show on2 st fun x y r => K (pc + 1) lv (.int (x.toUInt32 >>> (y.toUInt32 &&& Int32.toUInt32 31)).toInt32 :: r) h cl sl from H)
    obtain ⟨r', rfl, hr⟩ := a_2 hst
    exact lv_iushr hx hb hdg rfl (go H hl hlv (a_i _ hr))
  case iand =>
    obtain ⟨x, y, r, rfl, H⟩ := on2_i (show on2 st fun x y r => K (pc + 1) lv (.int (x &&& y) :: r) h cl sl from H)
    obtain ⟨r', rfl, hr⟩ := a_2 hst
    exact lv_iand hx hb hdg (go H hl hlv (a_i _ hr))
  case ior =>
    obtain ⟨x, y, r, rfl, H⟩ := on2_i (show on2 st fun x y r => K (pc + 1) lv (.int (x ||| y) :: r) h cl sl from H)
    obtain ⟨r', rfl, hr⟩ := a_2 hst
    exact lv_ior hx hb hdg (go H hl hlv (a_i _ hr))
  case ixor =>
    obtain ⟨x, y, r, rfl, H⟩ := on2_i (show on2 st fun x y r => K (pc + 1) lv (.int (x ^^^ y) :: r) h cl sl from H)
    obtain ⟨r', rfl, hr⟩ := a_2 hst
    exact lv_ixor hx hb hdg (go H hl hlv (a_i _ hr))
  case i2l =>
    obtain ⟨x, r, rfl, H⟩ := on1_i (show on1 st fun x r => K (pc + 1) lv (.long x.toInt64 :: r) h cl sl from H)
    obtain ⟨r', rfl, hr⟩ := a_1 hst
    exact lv_i2l hx hb hdg rfl (go H hl hlv (a_L _ hr))
  case lcmp =>
    obtain ⟨x, y, r, rfl, H⟩ := onL2_i (show onL2 st fun x y r => K (pc + 1) lv (.int (lg_cmp x y) :: r) h cl sl from H)
    obtain ⟨r1, rfl, h1⟩ := a_l hst
    obtain ⟨r', rfl, hr⟩ := a_l h1
    exact W.lcmp hx hb hdg (go H hl hlv (a_i _ hr))
  case lshl =>
    obtain ⟨x, y, r, rfl, H⟩ := onLI_i (show onLI st fun x y r => K (pc + 1) lv (.long (x <<< (y.toInt64 &&& 63)) :: r) h cl sl from H)
    obtain ⟨r1, rfl, h1⟩ := a_1 hst
    obtain ⟨r', rfl, hr⟩ := a_l h1
    exact lv_lshl hx hb hdg rfl (go H hl hlv (a_L _ hr))
  case lor =>
    obtain ⟨x, y, r, rfl, H⟩ := onL2_i (show onL2 st fun x y r => K (pc + 1) lv (.long (x ||| y) :: r) h cl sl from H)
    obtain ⟨r1, rfl, h1⟩ := a_l hst
    obtain ⟨r', rfl, hr⟩ := a_l h1
    exact lv_lor hx hb hdg (go H hl hlv (a_L _ hr))
  case land =>
    obtain ⟨x, y, r, rfl, H⟩ := onL2_i (show onL2 st fun x y r => K (pc + 1) lv (.long (x &&& y) :: r) h cl sl from H)
    obtain ⟨r1, rfl, h1⟩ := a_l hst
    obtain ⟨r', rfl, hr⟩ := a_l h1
    exact lv_land hx hb hdg (go H hl hlv (a_L _ hr))
  case dup =>
    obtain ⟨v, r, rfl, hv, H⟩ : ∃ v r, st = v :: r ∧ v.category = 1 ∧ K (pc + 1) lv (v :: v :: r) h cl sl := H
    obtain ⟨w, r', rfl, hw, hr⟩ := a_c hst
    exact lv_dup hx hb hdg (hw.cat.trans hv) (go H hl hlv ⟨_, _, rfl, hw, _, _, rfl, hw, hr⟩)
  case dup2 =>
    obtain ⟨v, v2, r, rfl, hv, hv2, H⟩ : ∃ v w r, st = v :: w :: r ∧ v.category = 1 ∧ w.category = 1 ∧ K (pc + 1) lv (v :: w :: v :: w :: r) h cl sl := H
    obtain ⟨w, r1, rfl, hw, hr1⟩ := a_c hst
    obtain ⟨w2, r', rfl, hw2, hr⟩ := a_c hr1
    exact lv_dup2_11 hx hb hdg (hw.cat.trans hv) (hw2.cat.trans hv2) (go H hl hlv ⟨_, _, rfl, hw, _, _, rfl, hw2, _, _, rfl, hw, _, _, rfl, hw2, hr⟩)
  case pop =>
    obtain ⟨v, r, rfl, hv, H⟩ : ∃ v r, st = v :: r ∧ v.category = 1 ∧ K (pc + 1) lv r h cl sl := H
    obtain ⟨w, r', rfl, hw, hr⟩ := a_c hst
    exact lv_pop hx hb hdg (hw.cat.trans hv) (go H hl hlv hr)
  case goto z =>
    obtain ⟨t, ht, H⟩ := jmp_i (show jmp pc z fun t => K t lv st h cl sl from H)
    exact lv_goto hx hb hdg ht (go H hl hlv hst)
  case ifCond cc z =>
    obtain ⟨x, r, rfl, HH⟩ := on1_i (show on1 st fun x r => jmp pc z fun t => brn (ccI cc x 0) (K t lv r h cl sl) (K (pc + 3) lv r h cl sl) from H)
    obtain ⟨r', rfl, hr⟩ := a_1 hst
    obtain ⟨t, ht, H1, H2⟩ := jmp_i HH
    cases cc
    · exact lv_if_eq hx hb hdg ht (fun q => go (H1 q) hl hlv hr) (fun q => go (H2 q) hl hlv hr)
    · exact lv_if_ne hx hb hdg ht (fun q => go (H1 q) hl hlv hr) (fun q => go (H2 (fun q2 => q2 q)) hl hlv hr)
    · exact lv_if_lt hx hb hdg ht (fun q => go (H1 q) hl hlv hr) (fun q => go (H2 q) hl hlv hr)
    · exact lv_if_ge hx hb hdg ht (fun q => go (H1 q) hl hlv hr) (fun q => go (H2 q) hl hlv hr)
    · exact lv_if_gt hx hb hdg ht (fun q => go (H1 q) hl hlv hr) (fun q => go (H2 q) hl hlv hr)
    · exact lv_if_le hx hb hdg ht (fun q => go (H1 q) hl hlv hr) (fun q => go (H2 q) hl hlv hr)
  case if_icmp cc z =>
    obtain ⟨x, y, r, rfl, HH⟩ := on2_i (show on2 st fun x y r => jmp pc z fun t => brn (ccI cc x y) (K t lv r h cl sl) (K (pc + 3) lv r h cl sl) from H)
    obtain ⟨r', rfl, hr⟩ := a_2 hst
    obtain ⟨t, ht, H1, H2⟩ := jmp_i HH
    cases cc
    · exact lv_icmp_eq hx hb hdg ht (fun q => go (H1 q) hl hlv hr) (fun q => go (H2 q) hl hlv hr)
    · exact lv_icmp_ne hx hb hdg ht (fun q => go (H1 q) hl hlv hr) (fun q => go (H2 (fun q2 => q2 q)) hl hlv hr)
    · exact lv_icmp_lt hx hb hdg ht (fun q => go (H1 q) hl hlv hr) (fun q => go (H2 q) hl hlv hr)
    · exact lv_icmp_ge hx hb hdg ht (fun q => go (H1 q) hl hlv hr) (fun q => go (H2 q) hl hlv hr)
    · exact lv_icmp_gt hx hb hdg ht (fun q => go (H1 q) hl hlv hr) (fun q => go (H2 q) hl hlv hr)
    · exact lv_icmp_le hx hb hdg ht (fun q => go (H1 q) hl hlv hr) (fun q => go (H2 q) hl hlv hr)
  case tableswitch d lo hi offs =>
    obtain ⟨x, r, rfl, H1, H2⟩ := on1_i (show on1 st fun x r => (x.toInt < lo ∨ hi < x.toInt → jmp pc d fun t => K t lv r h cl sl) ∧ (¬ x.toInt < lo → ¬ hi < x.toInt → ∃ off, offs[(x.toInt - lo).toNat]? = some off ∧ jmp pc off fun t => K t lv r h cl sl) from H)
    obtain ⟨r', rfl, hr⟩ := a_1 hst
    by_cases q1 : x.toInt < lo
    · obtain ⟨t, ht, H⟩ := jmp_i (H1 (Or.inl q1))
      exact lv_tableOut hx hb hdg (Or.inl q1) ht (go H hl hlv hr)
    · by_cases q2 : hi < x.toInt
      · obtain ⟨t, ht, H⟩ := jmp_i (H1 (Or.inr q2))
        exact lv_tableOut hx hb hdg (Or.inr q2) ht (go H hl hlv hr)
      · obtain ⟨off, ho, H⟩ := H2 q1 q2
        obtain ⟨t, ht, H⟩ := jmp_i H
        exact lv_tableIn hx hb hdg q1 q2 ho ht (go H hl hlv hr)
  case iaload =>
    rcases p_iald_i (show p_iald S h st fun st => K (pc + 1) lv st h cl sl from H) with ⟨i, q, r, n0, g, rfl, hq, hin, H⟩ | ⟨i, q, r, rfl, hin, H⟩
    · obtain ⟨r1, rfl, h1⟩ := a_1 hst
      obtain ⟨a, r', hρ, rfl, hr⟩ := a_r h1
      obtain ⟨y, hy, hye⟩ := hI.at hρ hq
      rw [show y = .inl (cy 0, n0, .inl g) from hye] at hy
      exact va_iald hx hb hXK.1 hP q 0 hy rfl hin hdg (go H hl hlv (a_i _ hr))
    · obtain ⟨r1, rfl, h1⟩ := a_1 hst
      obtain ⟨w, r', rfl, ⟨a, ha, rfl⟩, hr⟩ := a_c h1
      obtain ⟨g1, g2, g3⟩ := hXK.2.2.2.2.2.2.1 a ha
      exact va_sld hx hb g1 g2 g3 hS hin hdg (go H hl hlv (a_i _ hr))
  case iastore =>
    obtain ⟨x, i, q, r, n0, g, rfl, hq, hin, H⟩ := p_iast_i (show p_iast h st fun st h => K (pc + 1) lv st h cl sl from H)
    obtain ⟨r1, rfl, h1⟩ := a_2 hst
    obtain ⟨a, r', hρ, rfl, hr⟩ := a_r h1
    obtain ⟨y, hy, hye⟩ := hI.at hρ hq
    rw [show y = .inl (cy 0, n0, .inl g) from hye] at hy
    refine va_iast hx hb hXK.1 hP hD hS q 0 hy rfl hin hdg (fun H1 locs1 g1 g2 g3 => ?_)
    have hI2 := hI.set hy (x' := .inl (0, n0, .inl (upd g i.toNatClampNeg x))) (show rE cy _ b (.inl (0, n0, .inl (upd g i.toNatClampNeg x))) _ from rfl) g1 g2 g3
    have hf := fst_set (y' := .inl (cy 0, n0, .inl (upd g i.toNatClampNeg x))) hy
    exact ih _ _ _ _ _ _ H ls lv' r' _ H1 locs1 hl (by rw [hf]; exact hlv) (by rw [hf]; exact hr) hI2 hcl hsl
  case laload =>
    obtain ⟨i, q, r, n0, g, rfl, hq, hin, H⟩ := p_lald_i (show p_lald h st fun st => K (pc + 1) lv st h cl sl from H)
    obtain ⟨r1, rfl, h1⟩ := a_1 hst
    obtain ⟨a, r', hρ, rfl, hr⟩ := a_r h1
    obtain ⟨y, hy, hye⟩ := hI.at hρ hq
    rw [show y = .inl (cy 1, n0, .inr (.inl g)) from hye] at hy
    exact va_lald hx hb hXK.1 hP q 1 hy rfl hin hdg (go H hl hlv (a_L _ hr))
  case lastore =>
    obtain ⟨x, i, q, r, n0, g, rfl, hq, hin, H⟩ := p_last_i (show p_last h st fun st h => K (pc + 1) lv st h cl sl from H)
    obtain ⟨r0, rfl, h0⟩ := a_l hst
    obtain ⟨r1, rfl, h1⟩ := a_1 h0
    obtain ⟨a, r', hρ, rfl, hr⟩ := a_r h1
    obtain ⟨y, hy, hye⟩ := hI.at hρ hq
    rw [show y = .inl (cy 1, n0, .inr (.inl g)) from hye] at hy
    refine va_last hx hb hXK.1 hP hD hS q 1 hy rfl hin hdg (fun H1 locs1 g1 g2 g3 => ?_)
    have hI2 := hI.set hy (x' := .inl (1, n0, .inr (.inl (vp_updL g i.toNatClampNeg x)))) (show rE cy _ b (.inl (1, n0, .inr (.inl (vp_updL g i.toNatClampNeg x)))) _ from rfl) g1 g2 g3
    have hf := fst_set (y' := .inl (cy 1, n0, .inr (.inl (vp_updL g i.toNatClampNeg x)))) hy
    exact ih _ _ _ _ _ _ H ls lv' r' _ H1 locs1 hl (by rw [hf]; exact hlv) (by rw [hf]; exact hr) hI2 hcl hsl
  case aaload =>
    obtain ⟨i, q, r, t, n0, g, q2, rfl, hq, ht, hin, hg, H⟩ := p_aald_i (show p_aald h st fun st => K (pc + 1) lv st h cl sl from H)
    obtain ⟨r1, rfl, h1⟩ := a_1 hst
    obtain ⟨a, r', hρ, rfl, hr⟩ := a_r h1
    obtain ⟨y, hy, f', rfl, hf'⟩ := hI.at hρ hq
    have hj := hf' i.toNatClampNeg
    rw [hg] at hj
    obtain ⟨a2, h2, h3⟩ := hj
    have hk : W p l e R s m args below meth c Hp locs cl sl Z (F0 m (pc + 1) ls (va_rf (f' i.toNatClampNeg) :: r')) := by
      rw [h3]
      exact go H hl hlv ⟨_, _, rfl, ⟨a2, h2, rfl⟩, hr⟩
    rcases ht with rfl | rfl
    · exact va_aldq (C := "OverlapMill$Chart") hx hb hXK.1 hP q 2 hy rfl hin hdg hk
    · have hlt : i.toNatClampNeg < n0 := Nat.not_le.mp fun q => hin (Or.inr q)
      exact W.aald (v := va_rf (f' i.toNatClampNeg)) (ty := .array .int) hx hb (hP q _ hy) ((hXK.1.2 3 _ rfl).1 n0 (fun j => va_rf (f' j))) rfl (fun q => by cases q) (by show ¬ (i < 0 ∨ (arrV _ _ _).slots.size ≤ _); rw [arrV_size]; exact hin) (by show (arrV _ _ _).slots[_]? = _; rw [arrV_read _ _ hlt]) rfl rfl hdg hk
  case aastore =>
    obtain ⟨v, i, q, r, n0, g, fs, rfl, hq, hv, hin, H⟩ := p_aast_i (show p_aast h st fun st h => K (pc + 1) lv st h cl sl from H)
    obtain ⟨av, r0, hρv, rfl, h0⟩ := a_r hst
    obtain ⟨r1, rfl, h1⟩ := a_1 h0
    obtain ⟨a, r', hρ, rfl, hr⟩ := a_r h1
    obtain ⟨y, hy, f', rfl, hf'⟩ := hI.at hρ hq
    obtain ⟨yv, hyv, fs', rfl, hfs'⟩ := hI.at hρv hv
    refine va_astq hx hb hXK.1 hP hD hS q 2 v 1 (r := (RX1, TX1, 14)) hy rfl hyv rfl hin hdg (fun H1 locs1 g1 g2 g3 => ?_)
    have hr2 : rE cy (ws.map Prod.fst) b (.inl (2, n0, .inr (.inr (.inr (.inr (va_up g i.toNatClampNeg (some v))))))) (.inl (cy 2, n0, .inr (.inr (.inr (.inr (va_up f' i.toNatClampNeg (some av))))))) := by
      refine ⟨_, rfl, fun j => ?_⟩
      by_cases hj : j = i.toNatClampNeg
      · simp only [va_up, if_pos hj]
        exact ⟨av, hρv, rfl⟩
      · simp only [va_up, if_neg hj]
        exact hf' j
    have hI2 := hI.set hy hr2 g1 g2 g3
    have hf := fst_set (y' := .inl (cy 2, n0, .inr (.inr (.inr (.inr (va_up f' i.toNatClampNeg (some av))))))) hy
    exact ih _ _ _ _ _ _ H ls lv' r' _ H1 locs1 hl (by rw [hf]; exact hlv) (by rw [hf]; exact hr) hI2 hcl hsl
  case arraylength =>
    rcases p_alen_i (show p_alen S h st fun st => K (pc + 1) lv st h cl sl from H) with ⟨q, r, t, x, rfl, hq, ht, H⟩ | ⟨q, r, rfl, H⟩
    · obtain ⟨a, r', hρ, rfl, hr⟩ := a_r hst
      obtain ⟨y, hy, hye⟩ := hI.at hρ hq
      have hty : ∃ ty, (pTy cy)[t]? = some (cy t, ty) := by
        rcases (show t = 0 ∨ t = 1 ∨ t = 2 ∨ t = 3 by omega) with rfl | rfl | rfl | rfl
        · exact ⟨_, rfl⟩
        · exact ⟨_, rfl⟩
        · exact ⟨_, rfl⟩
        · exact ⟨_, rfl⟩
      obtain ⟨ty, hty⟩ := hty
      obtain ⟨n0, f | f | f | f | f⟩ := x
      · rw [show y = .inl (cy t, n0, .inl f) from hye] at hy
        exact va_alen hx hb hXK.1 hP q t hy hty rfl hdg (go H hl hlv (a_i _ hr))
      · rw [show y = .inl (cy t, n0, .inr (.inl f)) from hye] at hy
        exact va_alen hx hb hXK.1 hP q t hy hty rfl hdg (go H hl hlv (a_i _ hr))
      · exact (show False from hye).elim
      · exact (show False from hye).elim
      · obtain ⟨f', rfl, -⟩ := hye
        exact va_alen hx hb hXK.1 hP q t hy hty rfl hdg (go H hl hlv (a_i _ hr))
    · obtain ⟨w, r', rfl, ⟨a, ha, rfl⟩, hr⟩ := a_c hst
      obtain ⟨g1, g2, g3⟩ := hXK.2.2.2.2.2.2.1 a ha
      exact va_slen hx hb g1 g2 g3 hS hdg (go H hl hlv (a_i _ hr))
  case getfield i =>
    obtain ⟨q, r, fs, v, rfl, hq, hf, hv, H⟩ := p_get_i (show p_get h ta tb st fun st => K (pc + 3) lv st h cl sl from H)
    obtain ⟨a, r', hρ, rfl, hr⟩ := a_r hst
    obtain ⟨y, hy, fs', rfl, hfs⟩ := hI.at hρ hq
    obtain ⟨v', hv', hvv⟩ := hfs.get hv
    simp only [lkOK, Bool.and_eq_true, Bool.or_eq_true, decide_eq_true_eq] at hlk
    obtain ⟨⟨C0, T0, N0⟩, hcl0⟩ := cl_lt hlk.1
    rw [fnum_eq hcl0] at hf
    rcases hlk.2 with hm | hm
    · exact va_get hx hb hts (LY_in hcl0) hown hXK.1 hP q hy hcl0 tb hf (hts _ (fl_0 hcl0 hm)) (fun _ h => h) hv' hdg (go H hl hlv ⟨_, _, rfl, hvv, hr⟩)
    · exact va_getN hx hb hts (LY_in hcl0) hown hXK.1 hP q hy hcl0 tb hf (va_Nw.use rfl (hXK.2.1 _ (fl_1 hcl0 hm) rfl)) (fun _ h => h) hv' hdg (go H hl hlv ⟨_, _, rfl, hvv, hr⟩)
  case putfield i =>
    obtain ⟨v, q, r, fs, rfl, hq, hf, hfl, hnar, hfit, H⟩ := p_put_i (show p_put h ta tb st fun st h => K (pc + 3) lv st h cl sl from H)
    obtain ⟨v', r0, rfl, hvv, h0⟩ := a_c hst
    obtain ⟨a, r', hρ, rfl, hr⟩ := a_r h0
    obtain ⟨y, hy, fs', rfl, hfs⟩ := hI.at hρ hq
    simp only [lkOK, Bool.and_eq_true, decide_eq_true_eq] at hlk
    obtain ⟨r9, hcl0⟩ := cl_lt hlk.1
    rw [fnum_eq hcl0] at hf
    obtain ⟨hn2, hf2⟩ := nf_of hvv hnar hfit
    have hl2 : tb < fs'.length := by rw [hfs.len]; exact hfl
    have hkk : ∀ (H1 : Heap) (locs1 : List Loc), va_P D vwCl (ws.set q (a, .inr (ta, fs'.set tb v'))) H1 → va_D A (ws.set q (a, .inr (ta, fs'.set tb v'))) → va_S A s.heap H1 locs1 → W p l e R s m args below meth c H1 locs1 cl sl Z (F0 m (pc + 3) ls r') := fun H1 locs1 g1 g2 g3 => by
      have hI2 := hI.set hy (x' := .inr (ta, fs.set tb v)) ⟨_, rfl, hfs.set hvv⟩ g1 g2 g3
      have hff := fst_set (y' := .inr (ta, fs'.set tb v')) hy
      exact ih _ _ _ _ _ _ H ls lv' r' _ H1 locs1 hl (by rw [hff]; exact hlv) (by rw [hff]; exact hr) hI2 hcl hsl
    have hfe : fin? ta tb = (r9.2.1 tb).2.2.2 := by unfold fin?; rw [hcl0]
    have hlk2 := hlk.2
    by_cases hfin : (r9.2.1 tb).2.2.2 = true
    · rw [hfe, if_pos hfin] at hlk2
      simp only [Bool.and_eq_true, decide_eq_true_eq, beq_iff_eq] at hlk2
      obtain ⟨⟨hi2, hm⟩, heq⟩ := hlk2
      have how := owX_ok hcl0
      exact va_putF hx hb hts (LY_in hcl0) (ftyX ta) (ftyX_ok hcl0) (nmX_ok hcl0) hown hXK.1 hP hD hS q hy (show vwCl[ta]? = some (r9.1, r9.2.1, r9.2.2) from hcl0) tb hf (hts _ (fl_0 hcl0 hm)) (fun _ h => h) hfin (hini hi2) (by rw [how.2 tb hf, ← how.1, heq]) (ftyX_ok hcl0 tb hf) hn2 hf2 hl2 hdg hkk
    · rw [hfe, if_neg hfin] at hlk2
      simp only [Bool.or_eq_true, decide_eq_true_eq] at hlk2
      have hfin2 : (r9.2.1 tb).2.2.2 = false := by simpa using hfin
      rcases hlk2 with hm | hm
      · exact va_put hx hb hts (LY_in hcl0) (ftyX ta) (ftyX_ok hcl0) (nmX_ok hcl0) hown hXK.1 hP hD hS q hy (show vwCl[ta]? = some (r9.1, r9.2.1, r9.2.2) from hcl0) tb hf (hts _ (fl_0 hcl0 hm)) (fun _ h => h) hfin2 (ftyX_ok hcl0 tb hf) hn2 hf2 hl2 hdg hkk
      · exact va_putN hx hb hts (LY_in hcl0) (ftyX ta) (ftyX_ok hcl0) (nmX_ok hcl0) hown hXK.1 hP hD hS q hy (show vwCl[ta]? = some (r9.1, r9.2.1, r9.2.2) from hcl0) tb hf (va_Nw.use rfl (hXK.2.1 _ (fl_1 hcl0 hm) rfl)) (fun _ h => h) hfin2 (ftyX_ok hcl0 tb hf) hn2 hf2 hl2 hdg hkk
  case newarray t =>
    obtain ⟨x, r, rfl, h0, hN, hc1, hs1, HH⟩ := on1_i (show on1 st fun x r => ¬ x < 0 ∧ x.toNatClampNeg ≤ 10000 ∧ cl + 1 ≤ pC M ∧ sl + x.toNatClampNeg ≤ pS M ∧ ((t = .int ∧ K (pc + 2) lv (.ref h.length :: r) (h ++ [.inl (0, x.toNatClampNeg, .inl (fun _ => 0))]) (cl + 1) (sl + x.toNatClampNeg)) ∨ (t = .long ∧ K (pc + 2) lv (.ref h.length :: r) (h ++ [.inl (1, x.toNatClampNeg, .inr (.inl (fun _ => 0)))]) (cl + 1) (sl + x.toNatClampNeg))) from H)
    obtain ⟨r', rfl, hr⟩ := a_1 hst
    rcases HH with ⟨rfl, HH⟩ | ⟨rfl, HH⟩
    · refine va_newa (atype := .int) (a0 := (x.toNatClampNeg, .inl (fun _ => 0))) hx hb (hts _ (TBL_of ⟨AC_int, rfl⟩)) rfl hXK.1 hP hD hS hA (fun _ => rfl) h0 rfl (by show _ * 4 ≤ _; omega) (Nat.le_trans hc1 hRc) (Nat.le_trans hs1 hRs) hdg (fun q cA H1 gK g1 g2 g3 => ?_)
      rw [arr_int gK] at g1 g2
      obtain ⟨hI2, hx2, hq2⟩ := hI.push (x := .inl (0, x.toNatClampNeg, .inl (fun _ => 0))) rfl g1 g2 g3
      exact ih _ _ _ _ _ _ HH ls lv' _ _ H1 locs hl (hlv.mono (fun q q' hqq => ⟨hqq.1, rv.mono hx2 _ _ hqq.2⟩)) ⟨_, _, rfl, ⟨q, hq2, rfl⟩, hr.mono (rv.mono hx2)⟩ hI2 hc1 hs1
    · refine va_newa (atype := .long) (a0 := (x.toNatClampNeg, .inr (.inl (fun _ => 0)))) hx hb (hts _ (TBL_of ⟨AC_long, rfl⟩)) rfl hXK.1 hP hD hS hA (fun _ => rfl) h0 rfl (by show _ * 8 ≤ _; omega) (Nat.le_trans hc1 hRc) (Nat.le_trans hs1 hRs) hdg (fun q cA H1 gK g1 g2 g3 => ?_)
      rw [arr_long gK] at g1 g2
      obtain ⟨hI2, hx2, hq2⟩ := hI.push (x := .inl (1, x.toNatClampNeg, .inr (.inl (fun _ => 0)))) rfl g1 g2 g3
      exact ih _ _ _ _ _ _ HH ls lv' _ _ H1 locs hl (hlv.mono (fun q q' hqq => ⟨hqq.1, rv.mono hx2 _ _ hqq.2⟩)) ⟨_, _, rfl, ⟨q, hq2, rfl⟩, hr.mono (rv.mono hx2)⟩ hI2 hc1 hs1
  case anewarray i =>
    obtain ⟨x, r, rfl, h0, hN, hc1, hs1, HH⟩ := on1_i (show on1 st fun x r => ¬ x < 0 ∧ x.toNatClampNeg ≤ 10000 ∧ cl + 1 ≤ pC M ∧ sl + x.toNatClampNeg ≤ pS M ∧ K (pc + 3) lv (.ref h.length :: r) (h ++ [.inl (2, x.toNatClampNeg, .inr (.inr (.inr (.inr (fun _ => none)))))]) (cl + 1) (sl + x.toNatClampNeg) from H)
    obtain ⟨r', rfl, hr⟩ := a_1 hst
    simp only [lkOK, decide_eq_true_eq] at hlk
    have hw := CL_ok _ hlk
    refine va_newq (C := "OverlapMill$Chart") hx hb hown (hts _ (TBL_of hw)) hXK.2.2.1 hXK.1 hP hD hS hA h0 rfl (by omega) (Nat.le_trans hc1 hRc) (Nat.le_trans hs1 hRs) hdg (fun q cA H1 gK g1 g2 g3 => ?_)
    rw [arr_chart gK] at g1 g2
    obtain ⟨hI2, hx2, hq2⟩ := hI.push (x := .inl (2, x.toNatClampNeg, .inr (.inr (.inr (.inr (fun _ => none)))))) ⟨_, rfl, fun j => rfl⟩ g1 g2 g3
    exact ih _ _ _ _ _ _ HH ls lv' _ _ H1 locs hl (hlv.mono (fun q q' hqq => ⟨hqq.1, rv.mono hx2 _ _ hqq.2⟩)) ⟨_, _, rfl, ⟨q, hq2, rfl⟩, hr.mono (rv.mono hx2)⟩ hI2 hc1 hs1
  case multianewarray i d =>
    obtain ⟨k0, n0, r, rfl, hn0, hk0, hN, hK0, hc1, hs1, HH⟩ := p_new2_i (show p_new2 h st fun st h dc ds => cl + dc ≤ pC M ∧ sl + ds ≤ pS M ∧ K (pc + 4) lv st h (cl + dc) (sl + ds) from H)
    obtain ⟨r', rfl, hr⟩ := a_2 hst
    simp only [lkOK, Bool.and_eq_true, decide_eq_true_eq, beq_iff_eq] at hlk
    obtain ⟨hlk1, rfl⟩ := hlk
    have hw := CL_ok _ hlk1
    have hPP : va_P D vwCl (ws ++ va_pl [] (fun _ => .inl (cy 0, 0, .inl (fun _ => 0)))) Hp := by rw [show va_pl [] (fun _ => (.inl (cy 0, 0, .inl (fun _ => 0)) : va_E)) = [] from rfl, List.append_nil]; exact hP
    have hDD : va_D A (ws ++ va_pl [] (fun _ => .inl (cy 0, 0, .inl (fun _ => 0)))) := by rw [show va_pl [] (fun _ => (.inl (cy 0, 0, .inl (fun _ => 0)) : va_E)) = [] from rfl, List.append_nil]; exact hD
    have hmul : n0.toNatClampNeg * k0.toNatClampNeg ≤ 1000 * 1000 := Nat.mul_le_mul hN hK0
    refine va_mna (X := ws) (L := []) (ty := .int) (cy := cy 0) (z := (k0.toNatClampNeg, .inl (fun _ => 0))) hx hb hown (hts _ (TBL_of hw)) hXK.2.2.2.1 (hts _ (TBL_of ⟨AC_int, rfl⟩)) (hXK.1.2 0 _ rfl).2 hXK.1 hPP hDD hS hA hn0 hk0 rfl rfl (by omega) (by show _ * 4 ≤ _; omega) (by omega) rfl rfl (Nat.le_trans hc1 hRc) (Nat.le_trans hs1 hRs) (fun c9 => ?_) hdg (fun q r0 cA H1 hinj hnot gK g1 g2 g3 => ?_)
    · rw [vp_cell_i]
      exact arrV_new _ _ _
    · have e : va_pl ([] ++ (List.range n0.toNatClampNeg).map r0) (vr_up (fun _ => (.inl (cy 0, 0, .inl (fun _ => 0)) : va_E)) ((List.range n0.toNatClampNeg).map r0) (.inl (cy 0, (k0.toNatClampNeg, .inl (fun _ => 0))))) = (List.range n0.toNatClampNeg).map (fun i => (r0 i, (.inl (cy 0, k0.toNatClampNeg, .inl (fun _ => 0)) : va_E))) := by
        unfold va_pl
        rw [List.nil_append, List.map_map]
        apply List.map_congr_left
        intro i hi
        simp only [Function.comp]
        rw [vr_up_in (List.mem_map_of_mem hi)]
      rw [arr_rows gK, e] at g1 g2
      obtain ⟨hI2, hx2, hq2⟩ := hI.push2 g1 g2 g3
      rw [Nat.add_assoc cl, Nat.add_assoc sl]
      exact ih _ _ _ _ _ _ HH ls lv' _ _ H1 locs hl (hlv.mono (fun q q' hqq => ⟨hqq.1, rv.mono hx2 _ _ hqq.2⟩)) ⟨_, _, rfl, ⟨q, hq2, rfl⟩, hr.mono (rv.mono hx2)⟩ hI2 hc1 hs1
  case new i =>
    rcases (show (tb = 0 ∧ cl + 1 ≤ pC M ∧ sl + fnum ta ≤ pS M ∧ K (pc + 3) lv (.ref h.length :: st) (h ++ [.inr (ta, dflt ta)]) (cl + 1) (sl + fnum ta)) ∨ (tb = 1 ∧ hd = [] ∧ cl + 1 ≤ pC M ∧ sl + 6 ≤ pS M ∧ (st.map Value.category).sum ≤ 8 ∧ ∃ x, XLs[ta]? = some x ∧ Q (.inr x.2.2.1) h) from H) with ⟨rfl, hc1, hs1, H⟩ | ⟨rfl, h0, hc1, hs1, hsum, x, hxl, H⟩
    · have hlk2 : (pO M, i, ta) ∈ CLs ∧ ta < 11 := by simpa [lkOK] using hlk
      obtain ⟨r9, hcl0⟩ := cl_lt hlk2.2
      have how := owX_ok hcl0
      have hw := cl_in hlk2.2 hlk2.1
      rw [how.1] at hw
      have hfn := fnum_eq hcl0
      refine va_new (ci := ta) (fs := dflt ta) hx hb hts (LY_in hcl0) (ftyX ta) (ftyX_ok hcl0) hown (hts _ hw) (hts _ (TBL_of (IS_ok r9 (List.mem_of_getElem? hcl0)))) (hts _ (TBL_of (IN_ok _ (by rw [← how.1]; exact List.mem_of_getElem? (i := ta) (by rw [List.getD]; rw [List.getElem?_eq_getElem (show ta < cnm.length from Nat.lt_of_lt_of_le hlk2.2 (by decide))]; rfl))))) hXK.1 hP hD hS hA (show vwCl[ta]? = some (r9.1, r9.2.1, r9.2.2) from hcl0) (fun j hj => dflt_V ta (by rw [hfn]; exact hj)) (Nat.le_trans hc1 hRc) (by rw [← hfn]; exact Nat.le_trans hs1 hRs) hdg (fun q H1 g1 g2 g3 => ?_)
      rw [← hfn]
      obtain ⟨hI2, hx2, hq2⟩ := hI.push (x := .inr (ta, dflt ta)) ⟨_, rfl, dflt_rv ta⟩ g1 g2 g3
      exact ih _ _ _ _ _ _ H ls lv' _ _ H1 locs hl (hlv.mono (fun q q' hqq => ⟨hqq.1, rv.mono hx2 _ _ hqq.2⟩)) ⟨_, _, rfl, ⟨q, hq2, rfl⟩, hst.mono (rv.mono hx2)⟩ hI2 hc1 hs1
    · have hlk2 : xok (pO M) (pB M) pc i ta = true := by simpa [lkOK] using hlk
      exact hNw i ta pc x ls st' lv' h ws Hp locs cl sl hdg hlk2 hxl h0 H (by rw [A2.cats hst]; exact hsum) hl hI hc1 hs1
  case invokevirtual i =>
    have H : p_call C M hd Q K pc ta true lv st h cl sl := H
    simp only [lkOK, Bool.and_eq_true, Bool.or_eq_true, decide_eq_true_eq, beq_iff_eq] at hlk
    exact hcall hlk.1 (Or.inl ⟨rfl, rfl, hlk.2⟩) hdg H ls lv' st' ws Hp locs hl hlv hst hI hcl hsl
  case invokestatic i =>
    rcases (show (tb = 7 ∧ p_copy h st fun st h => (st.map Value.category).sum ≤ 8 ∧ K (pc + 3) lv st h cl sl) ∨ (tb ≠ 7 ∧ p_call C M hd Q K pc ta false lv st h cl sl) from H) with ⟨rfl, HH⟩ | ⟨htb, HH⟩
    · obtain ⟨n9, dp, q1, sp, q0, r, n0, f, n1, g, rfl, hq0, hq1, h1, h2, h3, h4, h5, hsum, HH⟩ := p_copy_i HH
      obtain ⟨s1, rfl, k1⟩ := a_2 hst
      obtain ⟨a1, s2, hρ1, rfl, k2⟩ := a_r k1
      obtain ⟨s3, rfl, k3⟩ := a_1 k2
      obtain ⟨a0, r', hρ0, rfl, hr⟩ := a_r k3
      obtain ⟨y0, hy0, e0⟩ := hI.at hρ0 hq0
      obtain ⟨y1, hy1, e1⟩ := hI.at hρ1 hq1
      rw [show y0 = .inl (cy 0, n0, .inl f) from e0] at hy0
      rw [show y1 = .inl (cy 0, n1, .inl g) from e1] at hy1
      have hlk2 : (pO M, i, ta, 7) ∈ MLs := by simpa [lkOK] using hlk
      have hw := ML_ok _ hlk2
      have e : mlW (pO M, i, ta, 7) = Cond.methodLink (cnm.getD (pO M) "") i arraycopyName := by simp [mlW]
      rw [e] at hw
      have hnf : nativeFrameWords "java/lang/System" "arraycopy" 5 ≤ 200 := by decide +kernel
      refine va_copyi hx hb (hmax.trans hl.1.symm) hown (hts _ (TBL_of ⟨hw.1, rfl⟩)) (hts _ N_an) (hts _ N_as) (hts _ N_ai) hXK.1 hP hD hS q0 q1 0 0 hy0 hy1 rfl rfl rfl h1 h2 h3 h4 h5 (fun _ _ => rfl) (by omega) (by rw [A2.cats hr]; omega) hdg (fun H1 locs1 g1 g2 g3 => ?_)
      have hI2 := hI.set hy1 (x' := .inl (0, n1, .inl (va_cpy f g sp.toNatClampNeg dp.toNatClampNeg n9.toNatClampNeg))) (show rE cy _ b (.inl (0, n1, .inl (va_cpy f g sp.toNatClampNeg dp.toNatClampNeg n9.toNatClampNeg))) _ from rfl) g1 g2 g3
      have hf := fst_set (y' := .inl (cy 0, n1, .inl (va_cpy f g sp.toNatClampNeg dp.toNatClampNeg n9.toNatClampNeg))) hy1
      exact ih _ _ _ _ _ _ HH ls lv' r' _ H1 locs1 hl (by rw [hf]; exact hlv) (by rw [hf]; exact hr) hI2 hcl hsl
    · simp only [lkOK, Bool.and_eq_true, Bool.or_eq_true, decide_eq_true_eq, beq_iff_eq] at hlk
      refine hcall hlk.1 (Or.inr (Or.inl ⟨rfl, rfl, ?_⟩)) hdg HH ls lv' st' ws Hp locs hl hlv hst hI hcl hsl
      rcases hlk.2 with ((q | q) | q) | q
      · exact absurd q htb
      · exact Or.inl q
      · exact Or.inr (Or.inl q)
      · exact Or.inr (Or.inr q)
  case invokespecial i =>
    rcases (show (tb = 6 ∧ onR st fun _ r => (r.map Value.category).sum ≤ 8 ∧ K (pc + 3) lv r h cl sl) ∨ ((tb = 4 ∨ tb = 5) ∧ p_call C M hd Q K pc ta true lv st h cl sl) from H) with ⟨rfl, HH⟩ | ⟨htb, HH⟩
    · obtain ⟨q, r, rfl, hsum, HH⟩ := onR_i HH
      obtain ⟨a, r', hρ, rfl, hr⟩ := a_r hst
      have hlk2 : (pO M, i, ta, 6) ∈ MLs := by simpa [lkOK] using hlk
      have hw := ML_ok _ hlk2
      have e : mlW (pO M, i, ta, 6) = Cond.methodLink (cnm.getD (pO M) "") i objectInit := by simp [mlW]
      rw [e] at hw
      exact W.objInit hx hb hown (hts _ (TBL_of ⟨hw.1, rfl⟩)) (hts _ N_oi) (hts _ N_oc) rfl (hl.1.trans hmax.symm) rfl hdg (by omega) (by rw [A2.cats hr]; show 2 * 0 + _ + 12 ≤ _; omega) (go HH hl hlv hr)
    · have hlk2 : (pO M, i, ta, tb) ∈ MLs := by
        rcases htb with rfl | rfl <;> simpa [lkOK] using hlk
      exact hcall hlk2 (Or.inr (Or.inr ⟨rfl, rfl, htb⟩)) hdg HH ls lv' st' ws Hp locs hl hlv hst hI hcl hsl
  case ireturn =>
    obtain ⟨x, rfl, ht, H⟩ : ∃ x, st = [.int x] ∧ (∃ t, pR M = some t ∧ narrow t (.int x) = .int x) ∧ Q (.inl (some (.int x))) h := H
    obtain ⟨r', rfl, hr⟩ := a_1 hst
    cases (show r' = [] from hr)
    exact hR _ pc ls (some (.int x)) (some (.int x)) h ws Hp locs cl sl hdg ht H hst hI hcl hsl
  case lreturn =>
    obtain ⟨x, rfl, ht, H⟩ : ∃ x, st = [.long x] ∧ pR M = some .long ∧ Q (.inl (some (.long x))) h := H
    obtain ⟨r', rfl, hr⟩ := a_l hst
    cases (show r' = [] from hr)
    exact hR _ pc ls (some (.long x)) (some (.long x)) h ws Hp locs cl sl hdg ht H hst hI hcl hsl
  case areturn =>
    obtain ⟨q, rfl, ht, H⟩ : ∃ a, st = [.ref a] ∧ (∃ t, pR M = some (.object t)) ∧ Q (.inl (some (.ref a))) h := H
    obtain ⟨a, r', hρ, rfl, hr⟩ := a_r hst
    cases (show r' = [] from hr)
    exact hR _ pc ls (some (.ref q)) (some (.ref a)) h ws Hp locs cl sl hdg ht H hst hI hcl hsl
  case return_ =>
    obtain ⟨rfl, ht, H⟩ : st = [] ∧ pR M = none ∧ Q (.inl none) h := H
    cases (show st' = [] from hst)
    exact hR _ pc ls none none h ws Hp locs cl sl hdg ht H hst hI hcl hsl
  all_goals exact (show False from H).elim
end INS
