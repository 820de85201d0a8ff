/-! the careful evaluator: the run, whole -/
theorem p_call.shift {C : Nat → List Value → PH → (Rs → PH → Prop) → Prop} (hC : Cmono C) {M : PM} {hd : List (Nat × Nat × Nat × Int)} {Q : Rs → PH → Prop} {K K' : Kt} {D E : Nat} (hK : ∀ pc lv st h c s, K pc lv st h (c + D) (s + E) → K' pc lv st h c s) {pc μ : Nat} {virt : Bool} {lv : LV} {st : List Value} {h : PH} {c s : Nat} (H : p_call C M hd Q K pc μ virt lv st h (c + D) (s + E)) : p_call C M hd Q K' pc μ virt lv st h c s := by
  unfold p_call at H ⊢
  split at H
  · exact H.elim
  · rename_i N hN
    obtain ⟨h1, h2, h3, h4, h5, h6⟩ := H
    refine ⟨h1, h2, by omega, by omega, h5, hC _ _ _ _ _ (fun r h q => ?_) h6⟩
    unfold p_back at q ⊢
    cases r with
    | inl v => exact hK _ _ _ _ _ _ (by rw [show c + pC N + D = c + D + pC N by omega, show s + pS N + E = s + E + pS N by omega]; exact q)
    | inr e => exact q
set_option maxHeartbeats 1000000 in
theorem pmI.shift {C : Nat → List Value → PH → (Rs → PH → Prop) → Prop} (hC : Cmono C) {S : Nat × (Nat → Int32)} {M : PM} {hd : List (Nat × Nat × Nat × Int)} {Q : Rs → PH → Prop} {K K' : Kt} {D E : Nat} (hK : ∀ pc lv st h c s, K pc lv st h (c + D) (s + E) → K' pc lv st h c s) {te : TE} {lv : LV} {st : List Value} {h : PH} {c s : Nat} (H : pmI C S M hd Q K te lv st h (c + D) (s + E)) : pmI C S M hd Q K' te lv st h c s := by
  obtain ⟨pc, ins, ta, tb⟩ := te
  cases ins
  case ldc i => obtain ⟨q, h1, h2, H⟩ := H; exact ⟨q, h1, h2, hK _ _ _ _ _ _ H⟩
  case ldc_w i => obtain ⟨q, h1, h2, H⟩ := H; exact ⟨q, h1, h2, hK _ _ _ _ _ _ H⟩
  case iload i => obtain ⟨q, h1, H⟩ := H; exact ⟨q, h1, hK _ _ _ _ _ _ H⟩
  case iload_n i => obtain ⟨q, h1, H⟩ := H; exact ⟨q, h1, hK _ _ _ _ _ _ H⟩
  case lload i => obtain ⟨q, h1, H⟩ := H; exact ⟨q, h1, hK _ _ _ _ _ _ H⟩
  case aload i => obtain ⟨q, h1, h2, H⟩ := H; exact ⟨q, h1, h2, hK _ _ _ _ _ _ H⟩
  case aload_n i => obtain ⟨q, h1, h2, H⟩ := H; exact ⟨q, h1, h2, hK _ _ _ _ _ _ H⟩
  case istore i => exact ⟨H.1, on1.mono (fun _ _ => hK _ _ _ _ _ _) H.2⟩
  case istore_n i => exact ⟨H.1, on1.mono (fun _ _ => hK _ _ _ _ _ _) H.2⟩
  case lstore i => obtain ⟨h1, x, r, h2, H⟩ := H; exact ⟨h1, x, r, h2, hK _ _ _ _ _ _ H⟩
  case astore i => exact ⟨H.1, onR.mono (fun _ _ => hK _ _ _ _ _ _) H.2⟩
  case astore_n i => exact ⟨H.1, onR.mono (fun _ _ => hK _ _ _ _ _ _) H.2⟩
  case iinc i z => obtain ⟨h1, x, h2, H⟩ := H; exact ⟨h1, x, h2, hK _ _ _ _ _ _ H⟩
  case idiv => exact on2.mono (fun _ _ _ q => ⟨q.1, hK _ _ _ _ _ _ q.2⟩) H
  case irem => exact on2.mono (fun _ _ _ q => ⟨q.1, hK _ _ _ _ _ _ q.2⟩) H
  case dup => obtain ⟨v, r, h1, h2, H⟩ := H; exact ⟨v, r, h1, h2, hK _ _ _ _ _ _ H⟩
  case dup2 => obtain ⟨v, w, r, h1, h2, h3, H⟩ := H; exact ⟨v, w, r, h1, h2, h3, hK _ _ _ _ _ _ H⟩
  case pop => obtain ⟨v, r, h1, h2, H⟩ := H; exact ⟨v, r, h1, h2, hK _ _ _ _ _ _ H⟩
  case goto z => exact jmp.mono (fun _ => hK _ _ _ _ _ _) H
  case ifCond cc z => exact on1.mono (fun _ _ q => jmp.mono (fun _ => brn.mono (hK _ _ _ _ _ _) (hK _ _ _ _ _ _)) q) H
  case if_icmp cc z => exact on2.mono (fun _ _ _ q => jmp.mono (fun _ => brn.mono (hK _ _ _ _ _ _) (hK _ _ _ _ _ _)) q) H
  case tableswitch d lo hi offs => exact on1.mono (fun _ _ q => ⟨fun a => jmp.mono (fun _ => hK _ _ _ _ _ _) (q.1 a), fun a b => by obtain ⟨off, h1, h2⟩ := q.2 a b; exact ⟨off, h1, jmp.mono (fun _ => hK _ _ _ _ _ _) h2⟩⟩) H
  case iaload => exact p_iald.mono (f := fun st => K (pc + 1) lv st h (c + D) (s + E)) (g := fun st => K' (pc + 1) lv st h c s) (fun _ => hK _ _ _ _ _ _) H
  case iastore => exact p_iast.mono (f := fun st h => K (pc + 1) lv st h (c + D) (s + E)) (g := fun st h => K' (pc + 1) lv st h c s) (fun _ _ => hK _ _ _ _ _ _) H
  case laload => exact p_lald.mono (f := fun st => K (pc + 1) lv st h (c + D) (s + E)) (g := fun st => K' (pc + 1) lv st h c s) (fun _ => hK _ _ _ _ _ _) H
  case lastore => exact p_last.mono (f := fun st h => K (pc + 1) lv st h (c + D) (s + E)) (g := fun st h => K' (pc + 1) lv st h c s) (fun _ _ => hK _ _ _ _ _ _) H
  case aaload => exact p_aald.mono (f := fun st => K (pc + 1) lv st h (c + D) (s + E)) (g := fun st => K' (pc + 1) lv st h c s) (fun _ => hK _ _ _ _ _ _) H
  case aastore => exact p_aast.mono (f := fun st h => K (pc + 1) lv st h (c + D) (s + E)) (g := fun st h => K' (pc + 1) lv st h c s) (fun _ _ => hK _ _ _ _ _ _) H
  case arraylength => exact p_alen.mono (f := fun st => K (pc + 1) lv st h (c + D) (s + E)) (g := fun st => K' (pc + 1) lv st h c s) (fun _ => hK _ _ _ _ _ _) H
  case getfield i => exact p_get.mono (f := fun st => K (pc + 3) lv st h (c + D) (s + E)) (g := fun st => K' (pc + 3) lv st h c s) (fun _ => hK _ _ _ _ _ _) H
  case putfield i => exact p_put.mono (f := fun st h => K (pc + 3) lv st h (c + D) (s + E)) (g := fun st h => K' (pc + 3) lv st h c s) (fun _ _ => hK _ _ _ _ _ _) H
  case newarray t => exact on1.mono (fun x _ q => ⟨q.1, q.2.1, by have := q.2.2.1; omega, by have := q.2.2.2.1; omega, q.2.2.2.2.imp (fun w => ⟨w.1, hK _ _ _ _ _ _ (by rw [show c + 1 + D = c + D + 1 by omega, show s + x.toNatClampNeg + E = s + E + x.toNatClampNeg by omega]; exact w.2)⟩) (fun w => ⟨w.1, hK _ _ _ _ _ _ (by rw [show c + 1 + D = c + D + 1 by omega, show s + x.toNatClampNeg + E = s + E + x.toNatClampNeg by omega]; exact w.2)⟩)⟩) H
  case anewarray i => exact on1.mono (fun x _ q => ⟨q.1, q.2.1, by have := q.2.2.1; omega, by have := q.2.2.2.1; omega, hK _ _ _ _ _ _ (by rw [show c + 1 + D = c + D + 1 by omega, show s + x.toNatClampNeg + E = s + E + x.toNatClampNeg by omega]; exact q.2.2.2.2)⟩) H
  case multianewarray i d => exact p_new2.mono (f := fun st h dc ds => c + D + dc ≤ pC M ∧ s + E + ds ≤ pS M ∧ K (pc + 4) lv st h (c + D + dc) (s + E + ds)) (g := fun st h dc ds => c + dc ≤ pC M ∧ s + ds ≤ pS M ∧ K' (pc + 4) lv st h (c + dc) (s + ds)) (fun _ _ dc ds q => ⟨by have := q.1; omega, by have := q.2.1; omega, hK _ _ _ _ _ _ (by rw [show c + dc + D = c + D + dc by omega, show s + ds + E = s + E + ds by omega]; exact q.2.2)⟩) H
  case new i =>
    rcases H with ⟨h1, h2, h3, H⟩ | ⟨h1, h2, h3, h4, h5, x, h6, H⟩
    · refine Or.inl ⟨h1, by omega, ?_, hK _ _ _ _ _ _ ?_⟩
      · have h3 : s + E + fnum ta ≤ pS M := h3
        show s + fnum ta ≤ pS M
        omega
      · rw [show c + 1 + D = c + D + 1 by omega]
        show K _ _ _ _ _ (s + fnum ta + E)
        rw [show s + fnum ta + E = s + E + fnum ta by omega]; exact H
    · exact Or.inr ⟨h1, h2, by omega, by omega, h5, x, h6, H⟩
  case invokevirtual i => exact p_call.shift hC hK H
  case invokestatic i =>
    rcases H with ⟨h1, H⟩ | ⟨h1, H⟩
    · exact Or.inl ⟨h1, p_copy.mono (fun _ _ q => ⟨q.1, hK _ _ _ _ _ _ q.2⟩) H⟩
    · exact Or.inr ⟨h1, p_call.shift hC hK H⟩
  case invokespecial i =>
    rcases H with ⟨h1, H⟩ | ⟨h1, H⟩
    · exact Or.inl ⟨h1, onR.mono (fun _ _ q => ⟨q.1, hK _ _ _ _ _ _ q.2⟩) H⟩
    · exact Or.inr ⟨h1, p_call.shift hC hK H⟩
  case ireturn => exact H
  case lreturn => exact H
  case areturn => exact H
  case return_ => exact H
  all_goals first | exact hK _ _ _ _ _ _ H | exact on1.mono (fun _ _ => hK _ _ _ _ _ _) H | exact on2.mono (fun _ _ _ => hK _ _ _ _ _ _) H | exact onL2.mono (fun _ _ _ => hK _ _ _ _ _ _) H | exact onLI.mono (fun _ _ _ => hK _ _ _ _ _ _) H | exact (show False from H).elim
/-- what comes back is told to ret -/
def RG (n0 : Nat) (θ0 : Nat → Int32) (rs : RS) (wr : WL) (h0 : PH) (ret : GR) (Q : Rs → PH → Prop) : Prop := ∀ env q m, ret env q m = true → ∀ (θ : Nat → Int32) (h' : PH) (r : Rs), (∀ t, t < n0 → θ t = θ0 t) → n0 ≤ env.1 → eG θ env → mG rs θ env.1 m h' → HW rs wr h0 h' → resG rs θ env.1 q r → Q r h'
section GRUN
variable {n0 : Nat} {θ0 : Nat → Int32} {C : Nat → List Value → PH → (Rs → PH → Prop) → Prop} {S : Nat × (Nat → Int32)} {M : PM} {hd : HD4} {rs : RS} {wr : WL} {h0 : PH} {Q : Rs → PH → Prop} {K : Kt} {cs : List (Nat × GC)} {ret : GR}
theorem gDo_ok {Iv : PH → Prop} (hiv : ∀ h', HW rs wr h0 h' → Iv h') (hC : Cmono C) {G : GC} {μ pc : Nat} {virt : Bool} {env : EW} {st : LW} {m : MW} {c s : Nat} {go : EW → LW → MW → Nat → Nat → Bool} {θ : Nat → Int32} {lv' : LV} {st' : List Value} {h' : PH} (hct : CtOK Iv rs C μ G) (hret : RG n0 θ0 rs wr h0 ret Q) (hag : ∀ t, t < n0 → θ t = θ0 t) (hn : n0 ≤ env.1) (he : eG θ env) (hst : A2 (vG rs θ env.1) st st') (hm : mG rs θ env.1 m h') (hh : HW rs wr h0 h')
    (hgo : ∀ env2 st2 m2 c2 s2, go env2 st2 m2 c2 s2 = true → ∀ θ2 st2' h2', Ext θ env.1 θ2 env2.1 → eG θ2 env2 → A2 (vG rs θ2 env2.1) st2 st2' → mG rs θ2 env2.1 m2 h2' → HW rs wr h0 h2' → K (pc + 3) lv' st2' h2' c2 s2)
    (H1 : gFit (M, hd, rs, wr) G env st m c s virt = true) (H2 : gDo (M, hd, rs, wr) G ret pc env st m c s go = true) : p_call C M hd Q K pc μ virt lv' st' h' c s := by
  unfold gFit at H1
  obtain ⟨g1, g2, g3⟩ := tkr_ok H1
  split at g3
  · rename_i hb
    rw [Bool.and_eq_true, Bool.and_eq_true, Bool.and_eq_true, Bool.and_eq_true, Bool.and_eq_true, Nat.ble_eq, Nat.ble_eq, Nat.ble_eq] at hb
    obtain ⟨⟨b0, b1⟩, ⟨b2, b3⟩, b4, b5⟩ := hb
    rw [List.append_nil] at b0 b5 g3
    have hA := (hst.take (pN G.1)).rev
    have hw : ∀ x ∈ (st.take (pN G.1)).reverse, w1 x = true := fun x hx => g2 x (List.mem_reverse.mp hx)
    have hlv := lG_args hA hw b0
    obtain ⟨σ, θ0, -, -, k1, k2, k3⟩ := sgA_ok he hlv hm g3
    obtain ⟨hM, hcall⟩ := hct
    have hc1 : ∀ v ∈ (st'.take (pN G.1)).reverse, v.category = 1 := by
      intro v hv
      obtain ⟨i, hi⟩ := List.mem_iff_getElem?.mp hv
      have hl : i < ((st.take (pN G.1)).reverse).length := by rw [← hA.len]; exact (List.getElem?_eq_some_iff.mp hi).1
      obtain ⟨w, e1, e2⟩ := hA.get (List.getElem?_eq_getElem hl)
      rw [e1] at hi
      cases hi
      exact g1_ok (hw _ (List.getElem_mem hl)) e2
    unfold p_call
    rw [hM]
    refine ⟨by rw [hst.len]; exact g1, by rw [gcats_ok (hst.drop (pN G.1))]; exact b1, b2, b3, ?_, ?_⟩
    · intro hv
      subst hv
      unfold gRecv at b5
      simp only at b5
      split at b5
      · rename_i e r hargs
        split at b5
        · rename_i q0 cj fs hk
          rw [beq_iff] at b5
          subst b5
          rw [hargs] at hA
          obtain ⟨w, ws, e3, ⟨A, e4, rfl⟩, -⟩ := hA
          obtain ⟨i, y, e5, e6, gs, rfl, -⟩ := e4.cell hh.1 hk
          refine ⟨A, gs, ?_, e6⟩
          rw [List.getLast?_eq_head?_reverse, e3]
          rfl
        · cases b5
      · cases b5
    · refine hC _ _ _ _ _ ?_ (hcall θ0 _ h' k1 k2 ?_ k3 hh.1 (hiv h' hh))
      · intro r h2 ⟨hw2, hr⟩
        unfold gDo at H2
        obtain ⟨-, -, H3⟩ := tkr_ok H2
        obtain ⟨m2, H3, hm2⟩ := mkeep_ok H3
        have hm3 := hm.kept hm2 hw2.2
        have hh2 := HW.tr b4 hh hw2
        split at H3
        · rename_i hex
          unfold p_back
          cases r with
          | inl v =>
            obtain ⟨hrx, hpo⟩ := hr
            have H3 := natF_ok (natF_ok H3)
            obtain ⟨env2, m4, θ2, H3, x2, he2, hm4⟩ := gPost_ok he hm3 hpo H3
            obtain ⟨env3, st3, θ3, H3, x3, he3, hst3⟩ := gRes_ok he2 ((hst.drop (pN G.1)).gext x2) hrx H3
            exact hgo _ _ _ _ _ H3 θ3 _ _ ⟨Nat.le_trans x2.1 x3.1, fun t ht => (x3.2 t (Nat.lt_of_lt_of_le ht x2.1)).trans (x2.2 t ht)⟩ he3 hst3 (hm4.ext x3) hh2
          | inr e =>
            have hr : e ∈ G.2.2.2.1 := hr
            have H4 := List.all_eq_true.mp hex e hr
            have H4 : ret env (wBack hd pc e) m2 = true := H4
            unfold wBack at H4
            simp only
            split at H4
            · rename_i z hz
              try rw [hz]
              exact hret _ _ _ H4 θ h2 _ hag hn he hm3 hh2 (A2.one ⟨_, rfl, rfl⟩)
            · rename_i hz
              try rw [hz]
              exact hret _ _ _ H4 θ h2 _ hag hn he hm3 hh2 rfl
        · cases H3
      · rw [sum1 hc1, List.length_reverse, List.length_take, hst.len]; omega
  · cases g3
theorem gCall_ok {Iv : PH → Prop} (hiv : ∀ h', HW rs wr h0 h' → Iv h') (hC : Cmono C) {μ pc : Nat} {virt : Bool} {env : EW} {st : LW} {m : MW} {c s : Nat} {go : EW → LW → MW → Nat → Nat → Bool} {θ : Nat → Int32} {lv' : LV} {st' : List Value} {h' : PH} (hret : RG n0 θ0 rs wr h0 ret Q) (hag : ∀ t, t < n0 → θ t = θ0 t) (hn : n0 ≤ env.1) (he : eG θ env) (hst : A2 (vG rs θ env.1) st st') (hm : mG rs θ env.1 m h') (hh : HW rs wr h0 h')
    (hgo : ∀ env2 st2 m2 c2 s2, go env2 st2 m2 c2 s2 = true → ∀ θ2 st2' h2', Ext θ env.1 θ2 env2.1 → eG θ2 env2 → A2 (vG rs θ2 env2.1) st2 st2' → mG rs θ2 env2.1 m2 h2' → HW rs wr h0 h2' → K (pc + 3) lv' st2' h2' c2 s2) : ∀ {cs : List (Nat × GC)}, (∀ x ∈ cs, CtOK Iv rs C x.1 x.2) → gCall (M, hd, rs, wr) cs ret pc env st m c s μ virt go = true → p_call C M hd Q K pc μ virt lv' st' h' c s
  | [], _, H => by cases (show false = true from H)
  | G :: cs, hcs, H => by
    have H : (match Nat.beq G.1 μ && gFit (M, hd, rs, wr) G.2 env st m c s virt with | true => gDo (M, hd, rs, wr) G.2 ret pc env st m c s go | false => gCall (M, hd, rs, wr) cs ret pc env st m c s μ virt go) = true := H
    split at H
    · rename_i q
      rw [Bool.and_eq_true, beq_iff] at q
      have := hcs G List.mem_cons_self
      rw [q.1] at this
      exact gDo_ok hiv hC this hret hag hn he hst hm hh hgo q.2 H
    · exact gCall_ok hiv hC hret hag hn he hst hm hh hgo (fun x hx => hcs x (List.mem_cons_of_mem _ hx)) H
end GRUN
/-- a way to make calls -/
abbrev CALF : Type := GX → GR → Nat → EW → LW → MW → Nat → Nat → Nat → Bool → (EW → LW → MW → Nat → Nat → Bool) → Bool
def CFOK (rs : RS) (wr : WL) (h0 : PH) (C : Nat → List Value → PH → (Rs → PH → Prop) → Prop) (cf : CALF) : Prop :=
  ∀ (M : PM) (hd : HD4) (Q : Rs → PH → Prop) (K : Kt) (ret : GR) (n0 : Nat) (θ0 : Nat → Int32) (pc : Nat) (env : EW) (st : LW) (m : MW) (c s μ : Nat) (virt : Bool) (go : EW → LW → MW → Nat → Nat → Bool) (θ : Nat → Int32) (lv' : LV) (st' : List Value) (h' : PH),
    cf (M, hd, rs, wr) ret pc env st m c s μ virt go = true → (∀ t, t < n0 → θ t = θ0 t) → n0 ≤ env.1 → RG n0 θ0 rs wr h0 ret Q → eG θ env → A2 (vG rs θ env.1) st st' → mG rs θ env.1 m h' → HW rs wr h0 h' →
    (∀ env2 st2 m2 c2 s2, go env2 st2 m2 c2 s2 = true → ∀ θ2 st2' h2', Ext θ env.1 θ2 env2.1 → eG θ2 env2 → A2 (vG rs θ2 env2.1) st2 st2' → mG rs θ2 env2.1 m2 h2' → HW rs wr h0 h2' → K (pc + 3) lv' st2' h2' c2 s2) → p_call C M hd Q K pc μ virt lv' st' h' c s
/-- a row of instructions: what it does, or what holds there -/
abbrev GT : Type := List (Nat × (GPF ⊕ List GA))
noncomputable def gfnd (pc : Nat) (l : GT) (k : GPF ⊕ List GA → GT → Bool) (no : Bool) : Bool := List.rec no (fun e r ih => Bool.rec ih (k e.2 r) (Nat.beq e.1 pc)) l
noncomputable def gfch (pc : Nat) (T rest : GT) (k : GPF ⊕ List GA → GT → Bool) : Bool := gfnd pc rest k (gfnd pc T k false)
noncomputable def gB (X : GX) (T : GT) (cf : CALF) (arr : GA → EW → LW → LW → MW → Nat → Nat → Bool) (ret : GR) : Nat → Nat → GT → EW → LW → LW → MW → Nat → Nat → Bool := fun k => Nat.rec (fun _ _ _ _ _ _ _ _ => false) (fun _ ih pc rest env lv st m c s =>
  gfch pc T rest fun f r => match f with
    | .inl f => f X env lv st m c s (fun pc env lv st m c s => ih pc r env lv st m c s) (fun μ virt => cf X ret pc env st m c s μ virt fun env st m c s => ih (pc + 3) r env lv st m c s) (fun q => ret env q m)
    | .inr l => l.any fun A => arr A env lv st m c s) k
/-- the instruction f at pc, and on -/
noncomputable def gStep (X : GX) (T : GT) (cf : CALF) (arr : GA → EW → LW → LW → MW → Nat → Nat → Bool) (ret : GR) (k : Nat) (f : GPF) (pc : Nat) (r : GT) (env : EW) (lv st : LW) (m : MW) (c s : Nat) : Bool := f X env lv st m c s (fun pc env lv st m c s => gB X T cf arr ret k pc r env lv st m c s) (fun μ virt => cf X ret pc env st m c s μ virt fun env st m c s => gB X T cf arr ret k (pc + 3) r env lv st m c s) (fun q => ret env q m)
theorem gfnd_ok {pc : Nat} {k : GPF ⊕ List GA → GT → Bool} {no : Bool} : ∀ {l : GT}, gfnd pc l k no = true → (∃ f r, (pc, f) ∈ l ∧ (∀ x ∈ r, x ∈ l) ∧ k f r = true) ∨ no = true
  | [], h => Or.inr h
  | e :: l, h => by
    have h1 : (Bool.rec (gfnd pc l k no) (k e.2 l) (Nat.beq e.1 pc) : Bool) = true := h
    cases hb : Nat.beq e.1 pc with
    | true =>
      rw [hb] at h1
      refine Or.inl ⟨e.2, l, ?_, fun x hx => List.mem_cons_of_mem _ hx, h1⟩
      rw [← beq_iff.mp hb]; exact List.mem_cons_self
    | false =>
      rw [hb] at h1
      rcases gfnd_ok (show gfnd pc l k no = true from h1) with ⟨f, r, q1, q2, q3⟩ | q
      · exact Or.inl ⟨f, r, List.mem_cons_of_mem _ q1, fun x hx => List.mem_cons_of_mem _ (q2 x hx), q3⟩
      · exact Or.inr q
theorem gB_succ (X : GX) (T : GT) (cf : CALF) (arr : GA → EW → LW → LW → MW → Nat → Nat → Bool) (ret : GR) (k pc : Nat) (rest : GT) (env : EW) (lv st : LW) (m : MW) (c s : Nat) : gB X T cf arr ret (k + 1) pc rest env lv st m c s = gfch pc T rest fun f r => match f with
    | .inl f => gStep X T cf arr ret k f pc r env lv st m c s
    | .inr l => l.any fun A => arr A env lv st m c s := rfl
section GRUN2
variable {n0 : Nat} {θ0 : Nat → Int32} {C : Nat → List Value → PH → (Rs → PH → Prop) → Prop} {S : Nat × (Nat → Int32)} {M : PM} {hd : HD4} {rs : RS} {wr : WL} {h0 : PH} {Q : Rs → PH → Prop} {K : Kt} {cf : CALF} {ret : GR} {T : GT} {arr : GA → EW → LW → LW → MW → Nat → Nat → Bool}
def TOK (M : PM) (T : GT) : Prop := ∀ e ∈ T, ∀ f, e.2 = .inl f → ∃ te, te.1 = e.1 ∧ (pT M).find? (fun x => x.1 == te.1) = some te ∧ f = mkG te
def ARR (n0 : Nat) (θ0 : Nat → Int32) (rs : RS) (wr : WL) (h0 : PH) (T : GT) (K : Kt) (arr : GA → EW → LW → LW → MW → Nat → Nat → Bool) : Prop := ∀ pc l, (pc, .inr l) ∈ T → ∀ A ∈ l, ∀ env lv st m c s, arr A env lv st m c s = true → ∀ (θ : Nat → Int32) lv' st' h', (∀ t, t < n0 → θ t = θ0 t) → n0 ≤ env.1 → eG θ env → lG rs θ env.1 lv lv' → A2 (vG rs θ env.1) st st' → mG rs θ env.1 m h' → HW rs wr h0 h' → K pc lv' st' h' c s
def KST (C : Nat → List Value → PH → (Rs → PH → Prop) → Prop) (S : Nat × (Nat → Int32)) (M : PM) (hd : HD4) (Q : Rs → PH → Prop) (K : Kt) : Prop := ∀ te, (pT M).find? (fun x => x.1 == te.1) = some te → ∀ lv st h c s, pmI C S M hd Q K te lv st h c s → K te.1 lv st h c s
theorem gB_ok (hdj : DJ rs) (hC : Cmono C) (hT : TOK M T) (hcf : CFOK rs wr h0 C cf) (hret : RG n0 θ0 rs wr h0 ret Q) (harr : ARR n0 θ0 rs wr h0 T K arr) (hK : KST C S M hd Q K) : ∀ (k pc : Nat) (rest : GT) (env : EW) (lv st : LW) (m : MW) (c s : Nat), gB (M, hd, rs, wr) T cf arr ret k pc rest env lv st m c s = true → (∀ e ∈ rest, e ∈ T) → ∀ (θ : Nat → Int32) (lv' : LV) (st' : List Value) (h' : PH), (∀ t, t < n0 → θ t = θ0 t) → n0 ≤ env.1 → eG θ env → lG rs θ env.1 lv lv' → A2 (vG rs θ env.1) st st' → mG rs θ env.1 m h' → HW rs wr h0 h' → K pc lv' st' h' c s := by
  intro k
  induction k with
  | zero => intro pc rest env lv st m c s H; cases (show false = true from H)
  | succ k ih =>
    intro pc rest env lv st m c s H hrest θ lv' st' h' hag hn he hlv hst hm hh
    rw [gB_succ] at H
    have key : ∃ f r, (pc, f) ∈ T ∧ (∀ e ∈ r, e ∈ T) ∧ (match f with | .inl f => gStep (M, hd, rs, wr) T cf arr ret k f pc r env lv st m c s | .inr l => l.any fun A => arr A env lv st m c s) = true := by
      unfold gfch at H
      rcases gfnd_ok H with ⟨f, r, q1, q2, q3⟩ | q
      · refine ⟨f, r, hrest _ q1, fun e he => hrest e (q2 e he), ?_⟩
        cases f <;> exact q3
      · rcases gfnd_ok q with ⟨f, r, q1, q2, q3⟩ | q
        · refine ⟨f, r, q1, q2, ?_⟩
          cases f <;> exact q3
        · cases q
    obtain ⟨f, r, hf, hr, H⟩ := key
    cases f with
    | inr l =>
      obtain ⟨A, hA, H⟩ := List.any_eq_true.mp H
      exact harr pc l hf A hA env lv st m c s H θ lv' st' h' hag hn he hlv hst hm hh
    | inl f =>
      obtain ⟨te, e1, e2, rfl⟩ := hT _ hf f rfl
      have e1 : te.1 = pc := e1
      subst e1
      refine hK te e2 lv' st' h' c s (mkG_ok (n0 := n0) (θ0 := θ0) hdj te env lv st m c s _ _ _ θ lv' st' h' hag hn he hlv hst hm hh ?_ ?_ ?_ H)
      · intro pc2 env2 lv2 st2 m2 c2 s2 H2 θ2 lv2' st2' h2' a1 a2 a3 a4 a5 a6 a7
        exact ih pc2 r env2 lv2 st2 m2 c2 s2 H2 hr θ2 lv2' st2' h2' a1 a2 a3 a4 a5 a6 a7
      · intro μ virt H2
        refine hcf M hd Q K ret n0 θ0 te.1 env st m c s μ virt _ θ lv' st' h' H2 hag hn hret he hst hm hh ?_
        intro env2 st2 m2 c2 s2 H3 θ2 st2' h2' x2 he2 hst2 hm2 hh2
        obtain ⟨a1, a2⟩ := ag_ext hag hn x2
        exact ih _ r env2 lv st2 m2 c2 s2 H3 hr θ2 lv' st2' h2' a1 a2 he2 (hlv.ext x2) hst2 hm2 hh2
      · intro q H2 r2 hres
        exact hret _ _ _ H2 θ h' r2 hag hn he hm hh hres
/-- a method that is gone through at its call: its row, rows of exceptions, empty places, its instructions -/
abbrev GI : Type := PM × HD4 × LW × GT
noncomputable def ifnd (μ : Nat) (l : List (Nat × GI)) (k : GI → Bool) (no : Bool) : Bool := List.rec no (fun e _ ih => Bool.rec ih (k e.2) (Nat.beq e.1 μ)) l
noncomputable def gInl (fuel : Nat) (cf : CALF) (N : GI) : CALF := fun X ret pc env st m c s _ virt go => tkr (pN N.1) st N.2.2.1 fun args rst => match (args.all plain1 && Nat.ble (cats rst) 8) && ((Nat.ble (c + pC N.1) (pC X.1) && Nat.ble (s + pS N.1) (pS X.1)) && gRecv X.2.2.1 virt (pO N.1) args) with
  | true => natF (c + pC N.1) fun c1 => natF (s + pS N.1) fun s1 => gB (N.1, N.2.1, X.2.2.1, X.2.2.2) N.2.2.2 cf (fun _ _ _ _ _ _ _ => false) (fun env q m => match q with
      | .inl (some x) => go env (x :: rst) m c1 s1
      | .inl none => go env rst m c1 s1
      | .inr e => ret env (wBack X.2.1 pc e) m) fuel 0 N.2.2.2 env args [] m 0 0
  | false => false
/-- calls: d deep gone through where the table says so, else by what is kept -/
noncomputable def gCl (fuel : Nat) (cs : List (Nat × GC)) (IT : List (Nat × GI)) : Nat → CALF := fun d => Nat.rec (fun X ret pc env st m c s μ virt go => gCall X cs ret pc env st m c s μ virt go) (fun _ ih X ret pc env st m c s μ virt go => ifnd μ IT (fun N => gInl fuel ih N X ret pc env st m c s μ virt go) (gCall X cs ret pc env st m c s μ virt go)) d
theorem gCl_succ (fuel : Nat) (cs : List (Nat × GC)) (IT : List (Nat × GI)) (d : Nat) (X : GX) (ret : GR) (pc : Nat) (env : EW) (st : LW) (m : MW) (c s μ : Nat) (virt : Bool) (go : EW → LW → MW → Nat → Nat → Bool) : gCl fuel cs IT (d + 1) X ret pc env st m c s μ virt go = ifnd μ IT (fun N => gInl fuel (gCl fuel cs IT d) N X ret pc env st m c s μ virt go) (gCall X cs ret pc env st m c s μ virt go) := rfl
theorem ifnd_ok {μ : Nat} {k : GI → Bool} {no : Bool} : ∀ {l : List (Nat × GI)}, ifnd μ l k no = true → (∃ N, (μ, N) ∈ l ∧ k N = true) ∨ no = true
  | [], h => Or.inr h
  | e :: l, h => by
    have h1 : (Bool.rec (ifnd μ l k no) (k e.2) (Nat.beq e.1 μ) : Bool) = true := h
    cases hb : Nat.beq e.1 μ with
    | true =>
      rw [hb] at h1
      refine Or.inl ⟨e.2, ?_, h1⟩
      rw [← beq_iff.mp hb]; exact List.mem_cons_self
    | false =>
      rw [hb] at h1
      rcases ifnd_ok (show ifnd μ l k no = true from h1) with ⟨N, q1, q2⟩ | q
      · exact Or.inl ⟨N, List.mem_cons_of_mem _ q1, q2⟩
      · exact Or.inr q
def ITOK (IT : List (Nat × GI)) : Prop := ∀ x ∈ IT, MT[x.1]? = some x.2.1 ∧ x.2.2.1 = (if pK x.2.1 = 3 then hdOf x.1 else []) ∧ (∀ v ∈ x.2.2.2.1, v = aU) ∧ pN x.2.1 ≤ pL x.2.1 ∧ TOK x.2.1 x.2.2.2.2 ∧ ∀ pc l, ¬ (pc, .inr l) ∈ x.2.2.2.2
theorem gCf_ok {Iv : PH → Prop} (hiv : ∀ h', HW rs wr h0 h' → Iv h') (hC : Cmono C) {cs : List (Nat × GC)} (hcs : ∀ x ∈ cs, CtOK Iv rs C x.1 x.2) : CFOK rs wr h0 C (fun X ret pc env st m c s μ virt go => gCall X cs ret pc env st m c s μ virt go) := by
  intro M hd Q K ret n0 θ0 pc env st m c s μ virt go θ lv' st' h' H hag hn hret he hst hm hh hgo
  exact gCall_ok hiv hC hret hag hn he hst hm hh hgo hcs H
theorem gInl_ok (hdj : DJ rs) {fuel n μ : Nat} {cf : CALF} {N : GI} (hcf : CFOK rs wr h0 (Ex S n) cf) (hN : MT[μ]? = some N.1 ∧ N.2.1 = (if pK N.1 = 3 then hdOf μ else []) ∧ (∀ v ∈ N.2.2.1, v = aU) ∧ pN N.1 ≤ pL N.1 ∧ TOK N.1 N.2.2.2 ∧ ∀ pc l, ¬ (pc, .inr l) ∈ N.2.2.2)
    {M : PM} {hd : HD4} {Q : Rs → PH → Prop} {K : Kt} {ret : GR} {n0 : Nat} {θ0 : Nat → Int32} {pc : Nat} {env : EW} {st : LW} {m : MW} {c s : Nat} {virt : Bool} {go : EW → LW → MW → Nat → Nat → Bool} {θ : Nat → Int32} {lv' : LV} {st' : List Value} {h' : PH}
    (H : gInl fuel cf N (M, hd, rs, wr) ret pc env st m c s μ virt go = true) (hag : ∀ t, t < n0 → θ t = θ0 t) (hn : n0 ≤ env.1) (hret : RG n0 θ0 rs wr h0 ret Q) (he : eG θ env) (hst : A2 (vG rs θ env.1) st st') (hm : mG rs θ env.1 m h') (hh : HW rs wr h0 h')
    (hgo : ∀ env2 st2 m2 c2 s2, go env2 st2 m2 c2 s2 = true → ∀ θ2 st2' h2', Ext θ env.1 θ2 env2.1 → eG θ2 env2 → A2 (vG rs θ2 env2.1) st2 st2' → mG rs θ2 env2.1 m2 h2' → HW rs wr h0 h2' → K (pc + 3) lv' st2' h2' c2 s2) : p_call (Ex S (n + 1)) M hd Q K pc μ virt lv' st' h' c s := by
  obtain ⟨hM, hhd, hpad, hL, hT, hno⟩ := hN
  unfold gInl at H
  obtain ⟨g1, g2, g3⟩ := tkr_ok H
  split at g3
  · rename_i hb
    rw [Bool.and_eq_true, Bool.and_eq_true, Bool.and_eq_true, Bool.and_eq_true, Nat.ble_eq, Nat.ble_eq, Nat.ble_eq] at hb
    obtain ⟨⟨b0, b1⟩, ⟨b2, b3⟩, b5⟩ := hb
    have H3 := natF_ok (natF_ok g3)
    have hA := (hst.take (pN N.1)).rev
    have hw : ∀ x ∈ (st.take (pN N.1)).reverse, w1 x = true := fun x hx => g2 x (List.mem_reverse.mp hx)
    have b0' : ((st.take (pN N.1)).reverse).all plain1 = true := by
      rw [List.all_append, Bool.and_eq_true] at b0
      exact b0.1
    have hlv0 := lG_args hA hw b0'
    have hlv : lG rs θ env.1 ((st.take (pN N.1)).reverse ++ N.2.2.1) (lv_args 0 (st'.take (pN N.1)).reverse) := by
      intro i v hv
      rw [List.getElem?_append] at hv
      split at hv
      · exact hlv0 i v hv
      · have := hpad v (List.mem_of_getElem? hv)
        subst this
        exact ⟨rfl, Or.inl rfl⟩
    have hc1 : ∀ v ∈ (st'.take (pN N.1)).reverse, v.category = 1 := by
      intro v hv
      obtain ⟨i, hi⟩ := List.mem_iff_getElem?.mp hv
      have hl : i < ((st.take (pN N.1)).reverse).length := by rw [← hA.len]; exact (List.getElem?_eq_some_iff.mp hi).1
      obtain ⟨w, e1, e2⟩ := hA.get (List.getElem?_eq_getElem hl)
      rw [e1] at hi
      cases hi
      exact g1_ok (hw _ (List.getElem_mem hl)) e2
    unfold p_call
    rw [hM]
    refine ⟨by rw [hst.len]; exact g1, by rw [gcats_ok (hst.drop (pN N.1))]; exact b1, b2, b3, ?_, ?_⟩
    · intro hv
      subst hv
      unfold gRecv at b5
      simp only at b5
      split at b5
      · rename_i e r hargs
        split at b5
        · rename_i q0 cj fs hk
          rw [beq_iff] at b5
          subst b5
          cases hrev : (st.take (pN N.1)).reverse with
          | nil =>
            rw [hrev, List.nil_append] at hargs
            have := hpad _ (by rw [hargs]; exact List.mem_cons_self)
            cases this
          | cons x xs =>
            rw [hrev] at hargs hA
            cases hargs
            obtain ⟨w, ws, e3, ⟨A, e4, rfl⟩, -⟩ := hA
            obtain ⟨i, y, e5, e6, gs, rfl, -⟩ := e4.cell hh.1 hk
            refine ⟨A, gs, ?_, e6⟩
            rw [List.getLast?_eq_head?_reverse, e3]
            rfl
        · cases b5
      · cases b5
    · refine ⟨N.1, hM, ?_, ?_⟩
      · rw [sum1 hc1, List.length_reverse, List.length_take, hst.len]; omega
      · rw [← hhd]
        refine gB_ok (n0 := env.1) (θ0 := θ) hdj (Ex.mono S n) hT hcf ?_ (fun pc l hl => absurd hl (hno pc l)) (fun te h1 lv st h c s H => Vx.go (Ex.mono S n) h1 H) _ _ _ _ _ _ _ _ _ H3 (fun e he => he) θ _ _ _ (fun _ _ => rfl) (Nat.le_refl _) he hlv rfl hm hh
        intro env2 q m2 H4 θ2 h2 r hag2 hn2 he2 hm2 hh2 hres
        have hx : Ext θ env.1 θ2 env2.1 := ⟨hn2, hag2⟩
        unfold p_back
        rcases q with (_ | x) | e
        · rcases r with w | e2
          · have hnil : w.toList = [] := hres
            cases w with
            | some w => cases hnil
            | none => exact hgo _ _ _ _ _ H4 θ2 _ _ hx he2 ((hst.drop (pN N.1)).gext hx) hm2 hh2
          · exact hres.elim
        · rcases r with w | e2
          · exact hgo _ _ _ _ _ H4 θ2 _ _ hx he2 (A2.app ((hst.drop (pN N.1)).gext hx) hres) hm2 hh2
          · exact hres.elim
        · rcases r with w | e2
          · exact hres.elim
          · obtain rfl : e2 = e := hres
            obtain ⟨a1, a2⟩ := ag_ext hag hn hx
            have H5 : ret env2 (wBack hd pc e2) m2 = true := H4
            unfold wBack at H5
            simp only
            split at H5
            · rename_i z hz
              try rw [hz]
              exact hret _ _ _ H5 θ2 h2 _ a1 a2 he2 hm2 hh2 (A2.one ⟨_, rfl, rfl⟩)
            · rename_i hz
              try rw [hz]
              exact hret _ _ _ H5 θ2 h2 _ a1 a2 he2 hm2 hh2 rfl
  · cases g3
theorem gCl_ok {Iv : PH → Prop} (hiv : ∀ h', HW rs wr h0 h' → Iv h') (hdj : DJ rs) {fuel k0 : Nat} {cs : List (Nat × GC)} {IT : List (Nat × GI)} (hIT : ITOK IT) (hcs : ∀ n, ∀ x ∈ cs, CtOK Iv rs (Ex S (n + k0)) x.1 x.2) : ∀ d n, CFOK rs wr h0 (Ex S (n + k0 + d)) (gCl fuel cs IT d)
  | 0, n => gCf_ok hiv (Ex.mono S _) (hcs n)
  | d + 1, n => by
    intro M hd Q K ret n0 θ0 pc env st m c s μ virt go θ lv' st' h' H hag hn hret he hst hm hh hgo
    rw [gCl_succ] at H
    rcases ifnd_ok H with ⟨N, hN, H⟩ | H
    · exact gInl_ok hdj (gCl_ok hiv hdj hIT hcs d n) (hIT _ hN) H hag hn hret he hst hm hh hgo
    · have := hcs (n + d + 1)
      rw [show n + d + 1 + k0 = n + k0 + (d + 1) by omega] at this
      exact gCall_ok hiv (Ex.mono S _) hret hag hn he hst hm hh hgo this H
end GRUN2
