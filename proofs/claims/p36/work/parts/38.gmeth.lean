/-! the careful evaluator: a method keeps what is said of it -/
/-- cells and slots at heads at most, less a number a step of the measure -/
noncomputable def gArr (hp : Nat × Nat × Nat × Nat) (lb : Int) (ma : Int × List (Nat × Int)) : GA → EW → LW → LW → MW → Nat → Nat → Bool := fun B env lv st m c s => match st with
  | [] => sgB ma B env lv m fun y => bLe lb y && (bLe (.ofNat c - .ofNat hp.1) (.ofNat hp.2.2.1 * y) && bLe (.ofNat s - .ofNat hp.2.1) (.ofNat hp.2.2.2 * y))
  | _ => false
noncomputable def gPo (rs : RS) (env : EW) (m : MW) (l : List (Nat × Nat × Int × Int)) : Bool := List.rec true (fun x _ ih => match kspec rs x.1 with
  | some q => (match (isOne q.1 && Nat.beq (Nat.mod x.1 65536) 65535) && Nat.blt x.2.1 65536 with
    | true => mfind m x.1 (.inl (.ofNat x.2.1)) (fun v => gSub2 env v x.2.2.1 x.2.2.2 ih) false
    | false => false)
  | none => false) l
noncomputable def gRx (x : Nat × Int × Int) (env : EW) (v : Option AV) : Bool := match x.1 with
  | 0 => (match v with
    | none => true
    | some _ => false)
  | 1 => (match v with
    | some v => gSub2 env v x.2.1 x.2.2 true
    | none => false)
  | 2 => (match v with
    | some (.inr (.inr (.retAddr e))) => Nat.beq (Nat.div e 65536) x.2.1.toNat
    | _ => false)
  | _ => (match v with
    | some v => isL v
    | none => false)
noncomputable def gRet (rs : RS) (G : GC) : GR := fun env q m => match q with
  | .inl v => (match gRx G.2.2.1 env v with
    | true => gPo rs env m G.2.2.2.2.2
    | false => false)
  | .inr e => G.2.2.2.1.any fun x => Nat.beq x e
section GMETH
variable {rs : RS} {θ : Nat → Int32} {env : EW}
theorem gPo_ok {m : MW} {h : PH} (he : eG θ env) (hm : mG rs θ env.1 m h) (hh : HOK rs h) : ∀ {l : List (Nat × Nat × Int × Int)}, gPo rs env m l = true → PoOK rs l h
  | [], _ => fun x hx => by cases hx
  | y :: l, H => by
    have H : (match kspec rs y.1 with | some q => (match (isOne q.1 && Nat.beq (Nat.mod y.1 65536) 65535) && Nat.blt y.2.1 65536 with | true => mfind m y.1 (.inl (.ofNat y.2.1)) (fun v => gSub2 env v y.2.2.1 y.2.2.2 (gPo rs env m l)) false | false => false) | none => false) = true := H
    split at H
    · rename_i q hq
      split at H
      · rename_i hb
        rw [Bool.and_eq_true, Bool.and_eq_true, blt_iff] at hb
        rcases mfind_ok H with p | ⟨f, hf, e1, e2, H⟩
        · cases p
        · obtain ⟨A, j, w, g1, g2, g3, g4, g5⟩ := hm f hf
          obtain ⟨H, z, rfl, z1, z2⟩ := gSub2_ok he g5 H
          rw [aEq_ok e2] at g2
          obtain ⟨j2, e3, e4⟩ := g2
          cases e3
          have e4 : j.toInt = (y.2.1 : Int) := e4
          rw [e1] at g1
          intro x hx
          rcases List.mem_cons.mp hx with rfl | hx
          · have hk : rs[x.1 / 65536]? = some q := by
              unfold kspec at hq
              rw [lget_eq] at hq
              exact hq
            obtain ⟨q2, k1, k2⟩ := g1
            rw [hk] at k1
            cases k1
            refine ⟨q, A, z, hk, hb.1.1, ?_, hb.2, ?_, z1, z2⟩
            · rcases k2 with k2 | k2
              · exact k2.2
              · rw [hb.1.1] at k2; cases k2.1
            · rw [e4] at g4
              exact g4
          · exact gPo_ok he hm hh H x hx
      · cases H
    · cases H
theorem gRx_ok {x : Nat × Int × Int} {v : Option AV} {w : Option Value} (he : eG θ env) (hv : A2 (vG rs θ env.1) v.toList w.toList) (H : gRx x env v = true) : RxOK rs x w := by
  unfold gRx at H
  unfold RxOK
  split at H
  · rename_i e; try rw [e]
    split at H
    · cases w with
      | none => rfl
      | some w => cases (show [w] = [] from hv)
    · cases H
  · rename_i e; try rw [e]
    split at H
    · obtain ⟨u, us, e1, e2, e3⟩ := hv
      cases w with
      | none => cases e1
      | some w =>
        cases e1
        obtain ⟨-, y, rfl, h1, h2⟩ := gSub2_ok he e2 H
        exact ⟨y, rfl, h1, h2⟩
    · cases H
  · rename_i e; try rw [e]
    split at H
    · rename_i e5
      obtain ⟨u, us, e1, ⟨A, e2, rfl⟩, e3⟩ := hv
      cases w with
      | none => cases e1
      | some w =>
        cases e1
        obtain ⟨q, i, a1, a2, -⟩ := e2.get
        have H : e5 / 65536 = x.2.1.toNat := beq_iff.mp H
        exact ⟨q, i, A, by rw [← H]; exact a1, a2, rfl⟩
    · cases H
  · rename_i e1 e2 e3
    have key : ∃ y, w = some (.long y) := by
      split at H
      · obtain ⟨u, us, a1, a2, a3⟩ := hv
        cases w with
        | none => cases a1
        | some w =>
          cases a1
          unfold isL at H
          split at H
          · obtain ⟨y, rfl⟩ := a2
            exact ⟨y, rfl⟩
          · cases H
      · cases H
    first
      | exact key
      | (split
         · rename_i e; exact absurd e e1
         · rename_i e; exact absurd e e2
         · rename_i e; exact absurd e e3
         · exact key)
theorem gRet_ok {G : GC} {h0 : PH} {n0 : Nat} {θ0 : Nat → Int32} : RG n0 θ0 rs G.2.2.2.2.1 h0 (gRet rs G) (CQ rs G h0) := by
  intro env q m H θ h' r _ _ he hm hh hres
  refine ⟨hh, ?_⟩
  unfold gRet at H
  split at H
  · rename_i v
    split at H
    · rename_i hx
      cases r with
      | inl w => exact ⟨gRx_ok he hres hx, gPo_ok he hm hh.1 H⟩
      | inr e => exact hres.elim
    · cases H
  · rename_i e
    cases r with
    | inl w => exact hres.elim
    | inr e2 =>
      have hres : e2 = e := hres
      subst hres
      rw [List.any_eq_true] at H
      obtain ⟨x, h1, h2⟩ := H
      rw [beq_iff] at h2
      subst h2
      exact h1
end GMETH
/-- what must come out true of a method: from its start, from each head, and no measure below 0 -/
noncomputable def gMeth (rs : RS) (cf : CALF) (G : GC) (hd : HD4) (hp : Nat × Nat × Nat × Nat) (T : GT) (HL : List (Nat × GA × GPF)) (fuel : Nat) : Bool :=
  match gB (G.1, hd, rs, G.2.2.2.2.1) T cf (gArr hp (-1000000000000) (0, [])) (gRet rs G) fuel 0 T G.2.1.1 G.2.1.2.1 [] G.2.1.2.2.1 0 0 with
  | true => HL.all fun x => (match lmin x.2.1.1 x.2.1.2.2.2.2.2 x.2.1.2.2.2.2.1 (bLe 0) with
    | true => gStep (G.1, hd, rs, G.2.2.2.2.1) T cf (gArr hp 1 x.2.1.2.2.2.2) (gRet rs G) fuel x.2.2 x.1 T x.2.1.1 x.2.1.2.1 [] x.2.1.2.2.1 hp.1 hp.2.1
    | false => false)
  | false => false
section GMETH2
variable {C : Nat → List Value → PH → (Rs → PH → Prop) → Prop} {S : Nat × (Nat → Int32)} {M : PM} {hd : HD4} {rs : RS} {wr : WL} {h0 : PH} {Q : Rs → PH → Prop} {cf : CALF} {ret : GR} {T : GT}
theorem KST.vx (hC : Cmono C) : KST C S M hd Q (Vx C S M hd Q) := fun te h1 lv st h c s H => Vx.go hC h1 H
theorem KST.sh (hC : Cmono C) (D E : Nat) : KST C S M hd Q (fun pc lv st h c s => ∀ c' s', c' + D = c → s' + E = s → Vx C S M hd Q pc lv st h c' s') := by
  intro te h1 lv st h c s H c' s' e1 e2
  subst e1
  subst e2
  exact Vx.go hC h1 (pmI.shift hC (fun pc lv st h c s q => q c s rfl rfl) H)
def HLOK (M : PM) (T : GT) (HL : List (Nat × GA × GPF)) : Prop := (∀ pc l, (pc, .inr l) ∈ T → ∀ A ∈ l, ∃ f, (pc, A, f) ∈ HL) ∧ ∀ x ∈ HL, ∃ te, te.1 = x.1 ∧ (pT M).find? (fun y => y.1 == te.1) = some te ∧ x.2.2 = mkG te
theorem heads_ok (hdj : DJ rs) (hC : Cmono C) (hT : TOK M T) (hcf : CFOK rs wr h0 C cf) (hret : ∀ n0 θ0, RG n0 θ0 rs wr h0 ret Q) {hp : Nat × Nat × Nat × Nat} {HL : List (Nat × GA × GPF)} {fuel : Nat} (hHL : HLOK M T HL)
    (hall : ∀ x ∈ HL, lmin x.2.1.1 x.2.1.2.2.2.2.2 x.2.1.2.2.2.2.1 (bLe 0) = true ∧ gStep (M, hd, rs, wr) T cf (gArr hp 1 x.2.1.2.2.2.2) ret fuel x.2.2 x.1 T x.2.1.1 x.2.1.2.1 [] x.2.1.2.2.1 hp.1 hp.2.1 = true) :
    ∀ (N : Nat), ∀ x ∈ HL, ∀ (θ : Nat → Int32) (lv' : LV) (h' : PH) (c s : Nat), eG θ x.2.1.1 → lG rs θ x.2.1.1.1 x.2.1.2.1 lv' → mG rs θ x.2.1.1.1 x.2.1.2.2.1 h' → HW rs wr h0 h' → gms x.2.1 θ < N → (c : Int) + hp.2.2.1 * gms x.2.1 θ ≤ hp.1 → (s : Int) + hp.2.2.2 * gms x.2.1 θ ≤ hp.2.1 → Vx C S M hd Q x.1 lv' [] h' c s := by
  intro N
  induction N with
  | zero =>
    intro x hx θ lv' h' c s he hlv hm hh hN hc hs
    obtain ⟨-, y, h1, h2⟩ := lmin_ok he (hall x hx).1
    rw [bLe_iff] at h2
    unfold gms at hN
    omega
  | succ N ih =>
    intro x hx θ lv' h' c s he hlv hm hh hN hc hs
    obtain ⟨hsy, y0, h1, h2⟩ := lmin_ok he (hall x hx).1
    rw [bLe_iff] at h2
    have hg0 : 0 ≤ gms x.2.1 θ := by unfold gms; omega
    have hc0 : (0 : Int) ≤ hp.2.2.1 * gms x.2.1 θ := Int.mul_nonneg (by omega) hg0
    have hs0 : (0 : Int) ≤ hp.2.2.2 * gms x.2.1 θ := Int.mul_nonneg (by omega) hg0
    obtain ⟨D, hD⟩ : ∃ D, c + D = hp.1 := ⟨hp.1 - c, by omega⟩
    obtain ⟨E, hE⟩ : ∃ E, s + E = hp.2.1 := ⟨hp.2.1 - s, by omega⟩
    have H := (hall x hx).2
    obtain ⟨te, e1, e2, e3⟩ := hHL.2 x hx
    have harr : ARR x.2.1.1.1 θ rs wr h0 T (fun pc lv st h c s => ∀ c' s', c' + D = c → s' + E = s → Vx C S M hd Q pc lv st h c' s') (gArr hp 1 x.2.1.2.2.2.2) := by
      intro pc l hl B hB env lv st m c2 s2 HA θ2 lv2' st2' h2' hag hn he2 hlv2 hst2 hm2 hh2 c' s' ec es
      unfold gArr at HA
      split at HA
      · have : st2' = [] := hst2
        subst this
        obtain ⟨θB, y, k1, k2, k3, k4, k5⟩ := sgB_ok he2 hlv2 hm2 HA
        rw [Bool.and_eq_true, Bool.and_eq_true, bLe_iff, bLe_iff, bLe_iff] at k5
        obtain ⟨k5, k6, k7⟩ := k5
        have k6 : (c2 : Int) - (hp.1 : Int) ≤ (hp.2.2.1 : Int) * y := k6
        have k7 : (s2 : Int) - (hp.2.1 : Int) ≤ (hp.2.2.2 : Int) * y := k7
        have e5 : lval θ2 x.2.1.2.2.2.2.2 = lval θ x.2.1.2.2.2.2.2 := lval_ag (fun z hz => hag _ (hsy z hz))
        have k8 : y ≤ gms x.2.1 θ - gms B θB := by unfold gms at k4 ⊢; omega
        obtain ⟨f, hf⟩ := hHL.1 pc l hl B hB
        have m1 : (hp.2.2.1 : Int) * y ≤ hp.2.2.1 * (gms x.2.1 θ - gms B θB) := Int.mul_le_mul_of_nonneg_left k8 (by omega)
        have m2 : (hp.2.2.2 : Int) * y ≤ hp.2.2.2 * (gms x.2.1 θ - gms B θB) := Int.mul_le_mul_of_nonneg_left k8 (by omega)
        rw [Int.mul_sub] at m1 m2
        exact ih (pc, B, f) hf θB lv2' h2' c' s' k1 k2 k3 hh2 (by show gms B θB < _; omega) (by show _ + _ * gms B θB ≤ _; omega) (by show _ + _ * gms B θB ≤ _; omega)
      · cases HA
    have hKS := KST.sh (S := S) (M := M) (hd := hd) (Q := Q) hC D E
    have h3 : pmI C S M hd Q (fun pc lv st h c s => ∀ c' s', c' + D = c → s' + E = s → Vx C S M hd Q pc lv st h c' s') te lv' [] h' hp.1 hp.2.1 := by
      unfold gStep at H
      rw [e3] at H
      refine mkG_ok (n0 := x.2.1.1.1) (θ0 := θ) hdj te _ _ _ _ _ _ _ _ _ θ lv' [] h' (fun _ _ => rfl) (Nat.le_refl _) he hlv (show A2 (vG rs θ x.2.1.1.1) [] [] from rfl) hm hh ?_ ?_ ?_ H
      · intro pc2 env2 lv2 st2 m2 c2 s2 H2 θ2 lv2' st2' h2' a1 a2 a3 a4 a5 a6 a7
        exact gB_ok hdj hC hT hcf (hret _ _) harr hKS _ _ _ _ _ _ _ _ _ H2 (fun e he => he) θ2 lv2' st2' h2' a1 a2 a3 a4 a5 a6 a7
      · intro μ virt H2
        rw [← e1] at H2
        refine hcf M hd Q _ ret x.2.1.1.1 θ te.1 _ _ _ _ _ μ virt _ θ lv' [] h' H2 (fun _ _ => rfl) (Nat.le_refl _) (hret _ _) he (show A2 (vG rs θ x.2.1.1.1) [] [] from rfl) hm hh ?_
        intro env2 st2 m2 c2 s2 H3 θ2 st2' h2' x2 he2 hst2 hm2 hh2
        exact gB_ok hdj hC hT hcf (hret _ _) harr hKS _ _ _ _ _ _ _ _ _ H3 (fun e he => he) θ2 lv' st2' h2' x2.2 x2.1 he2 (hlv.ext x2) hst2 hm2 hh2
      · intro q H2 r2 hres
        exact hret x.2.1.1.1 θ _ _ _ H2 θ h' r2 (fun _ _ => rfl) (Nat.le_refl _) he hm hh hres
    have h4 := hKS te e2 lv' [] h' hp.1 hp.2.1 h3 c s hD hE
    rw [e1] at h4
    exact h4
theorem meth_ok {Iv : PH → Prop} (hdj : DJ rs) {μ n : Nat} {G : GC} {hp : Nat × Nat × Nat × Nat} {HL : List (Nat × GA × GPF)} {fuel : Nat} (hM : MT[μ]? = some G.1) (hL : pN G.1 ≤ pL G.1) (hhd : hd = (if pK G.1 = 3 then hdOf μ else [])) (hT : TOK G.1 T) (hHL : HLOK G.1 T HL) (hcf : ∀ h0, Iv h0 → CFOK rs G.2.2.2.2.1 h0 (Ex S n) cf) (H : gMeth rs cf G hd hp T HL fuel = true) : CtOK Iv rs (Ex S (n + 1)) μ G := by
  refine ⟨hM, fun θ args h he hlv hsum hm hh hI => ⟨G.1, hM, by rw [hsum]; exact hL, ?_⟩⟩
  rw [← hhd]
  unfold gMeth at H
  split at H
  · rename_i H1
    have hh0 : HW rs G.2.2.2.2.1 h h := ⟨hh, fun k q i A h1 h2 f w hw hc => hc⟩
    have hhead := heads_ok (S := S) (h0 := h) (Q := CQ rs G h) (hd := hd) (fuel := fuel) (hp := hp) hdj (Ex.mono S n) hT (hcf h hI) (fun _ _ => gRet_ok) hHL (fun x hx => by
      have h1 := List.all_eq_true.mp H x hx
      split at h1
      · rename_i q; exact ⟨q, h1⟩
      · cases h1)
    refine gB_ok (n0 := 0) (θ0 := θ) hdj (Ex.mono S n) hT (hcf h hI) gRet_ok ?_ (KST.vx (Ex.mono S n)) _ _ _ _ _ _ _ _ _ H1 (fun e he => he) θ _ _ _ (fun _ _ => rfl) (Nat.zero_le _) he hlv rfl hm hh0
    intro pc l hl B hB env lv st m c2 s2 HA θ2 lv2' st2' h2' hag hn he2 hlv2 hst2 hm2 hh2
    unfold gArr at HA
    split at HA
    · have : st2' = [] := hst2
      subst this
      obtain ⟨θB, y, k1, k2, k3, k4, k5⟩ := sgB_ok he2 hlv2 hm2 HA
      rw [Bool.and_eq_true, Bool.and_eq_true, bLe_iff, bLe_iff, bLe_iff] at k5
      obtain ⟨k5, k6, k7⟩ := k5
      have k6 : (c2 : Int) - (hp.1 : Int) ≤ (hp.2.2.1 : Int) * y := k6
      have k7 : (s2 : Int) - (hp.2.1 : Int) ≤ (hp.2.2.2 : Int) * y := k7
      have k8 : y ≤ - gms B θB := by simp only [lval] at k4; omega
      obtain ⟨f, hf⟩ := hHL.1 pc l hl B hB
      have m1 : (hp.2.2.1 : Int) * y ≤ hp.2.2.1 * (- gms B θB) := Int.mul_le_mul_of_nonneg_left k8 (by omega)
      have m2 : (hp.2.2.2 : Int) * y ≤ hp.2.2.2 * (- gms B θB) := Int.mul_le_mul_of_nonneg_left k8 (by omega)
      rw [Int.mul_neg] at m1 m2
      exact hhead ((gms B θB).toNat + 1) (pc, B, f) hf θB lv2' h2' c2 s2 k1 k2 k3 hh2 (by show gms B θB < _; omega) (by show _ + _ * gms B θB ≤ _; omega) (by show _ + _ * gms B θB ≤ _; omega)
    · cases HA
  · cases H
end GMETH2
