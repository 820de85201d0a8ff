/-! fold and bestFold of the reference, exactly -/
theorem foV_cg {f g f' g' : Nat → Int} {k U L : Int} : ∀ u, (∀ i, i < u → f i = f' i ∧ g i = g' i) → foV f g k U L u = foV f' g' k U L u
  | 0, _ => rfl
  | u + 1, h => by unfold foV; rw [foV_cg u (fun i hi => h i (by omega)), (h u (by omega)).1, (h u (by omega)).2]
section FR
variable {S : Nat × (Nat → Int32)} {n : Nat} {mem : MM} {K : Int → MM → Prop}
theorem f_266e {x : Int} (h : 0 ≤ x ∧ x ≤ 15) (H : K (popI x) mem) : CWI (Ex S (n + 1)) 266 [.inl x] mem K := by
  have px := popI_rg (x := x)
  have key : ∀ (N : Nat) (c s : Int), 0 ≤ c → 0 ≤ s → s ≤ 15 → c + popI s = popI x → s.toNat < N → Wx (Ex S n) S M_266 (fun r m => ∃ y, r = some y ∧ K y m) 4 [some (.inl x), some (.inl c), some (.inl s)] [] mem := by
    intro N
    induction N with
    | zero => intros; omega
    | succ N ih =>
      intro c s hc hs h15 he hN
      have ps := popI_rg (x := s)
      refine w_266_4 (Ex.mono S n) ⟨fun q _ => ⟨_, rfl, ?_⟩, fun q => ⟨by unfold InI; omega, by unfold InI; omega, fun b e _ => ?_⟩⟩
      · have z : popI s = 0 := by subst q; rfl
        rw [show c = popI x by omega]; exact H
      · obtain ⟨a1, a2, a3⟩ := and1 s (s - 1) ⟨hs, h15⟩ rfl b e (by omega)
        exact ih (c + 1) b (by omega) a2 (by omega) (by omega) (by omega)
  exact CW.of (k := 2) mt_266 rfl rfl (w_266_0 (Ex.mono S n) (key 16 0 x (by omega) h.1 h.2 (by omega) (by omega)))
theorem f_265e (hh : OpsOK mem) {o : Int} (h : 0 ≤ o ∧ o < 8) (H : K (rBu mem o.toNat) mem) : CWI (Ex S (n + 1)) 265 [.inr 143, .inl o] mem K := by
  obtain ⟨h1, h2, -⟩ := hh.2.1 o.toNat (by omega)
  refine CW.of (k := 0) mt_265 rfl rfl (w_265_0 (Ex.mono S n) ⟨h, fun v e _ => ⟨by omega, fun v2 e2 _ _ => ⟨_, rfl, ?_⟩⟩⟩)
  rw [e2, e]; exact H
theorem f_264e (hh : OpsOK mem) {o : Int} (h : 0 ≤ o ∧ o < 8) (H : K (rUn mem o.toNat) mem) : CWI (Ex S (n + 1)) 264 [.inr 143, .inl o] mem K := by
  obtain ⟨h1, h2, -⟩ := hh.2.1 o.toNat (by omega)
  refine CW.of (k := 0) mt_264 rfl rfl (w_264_0 (Ex.mono S n) ⟨h, fun v e _ => ⟨by omega, fun v2 e2 _ _ => ⟨_, rfl, ?_⟩⟩⟩)
  rw [e2, e]; exact H
theorem f_263e (hh : OpsOK mem) (hz : ∀ k, k < 6 → 1 ≤ mem 152 k ∧ mem 152 k ≤ 15) {x : Int} (H : K (usR mem x) mem) : CWI (Ex S (n + 2)) 263 [.inr 143, .inl x] mem K := by
  have h8 := hh.1
  have key : ∀ (N : Nat) (c : Int) (o : Int), 0 ≤ o → o ≤ mem 143 1 → c = usN (rUn mem) (rBu mem) x o.toNat → (mem 143 1 - o).toNat < N → Wx (Ex S (n + 1)) S M_263 (fun r m => ∃ y, r = some y ∧ K y m) 4 [some (.inr 143), some (.inl x), some (.inl c), some (.inl o)] [] mem := by
    intro N
    induction N with
    | zero => intros; omega
    | succ N ih =>
      intro c o ho ho2 hc hN
      have us := usN_rg (f := rUn mem) (g := rBu mem) (u := x) o.toNat
      have st := usN_st (f := rUn mem) (g := rBu mem) (u := x) ho
      refine w_263_4 (Ex.mono S (n + 1)) (fun v1 e1 _ => ⟨fun q _ => ⟨_, rfl, ?_⟩, fun q => f_264e hh ⟨ho, by omega⟩ (fun _ => ⟨fun z => ⟨by unfold InI; omega, by unfold InI; omega, ih (c + 0) (o + 1) (by omega) (by omega) (by rw [st, if_neg z]; omega) (by omega)⟩, fun z => ?_⟩)⟩)
      · have e : c = usR mem x := by
          unfold usR
          rw [hc, show (mem 143 1).toNat = o.toNat by omega]
        rw [e]; exact H
      · obtain ⟨h1, h2, -⟩ := hh.2.1 o.toNat (by omega)
        have hb : 1 ≤ rBu mem o.toNat ∧ rBu mem o.toNat ≤ 15 := hz (mem 144 o.toNat).toNat (by omega)
        have pr := popI_rg (x := rBu mem o.toNat)
        refine f_265e hh ⟨ho, by omega⟩ (fun _ => f_266e ⟨by omega, hb.2⟩ (fun _ => ⟨by unfold InI; omega, by unfold InI; omega, ih (c + popI (rBu mem o.toNat)) (o + 1) (by omega) (by omega) (by rw [st, if_pos (Classical.not_not.mp z)]; omega) (by omega)⟩))
  exact CW.of (k := 2) mt_263 rfl rfl (w_263_0 (Ex.mono S (n + 1)) (key 9 0 0 (by omega) h8.1 rfl (by omega)))
theorem foV_rg {f g : Nat → Int} {k U L : Int} (hk : 1 ≤ k ∧ k ≤ 4) (hU : 0 ≤ U ∧ U ≤ 100) (hL : 0 < L) : ∀ u, (∀ i, i < u → 0 ≤ f i ∧ f i ≤ 32 ∧ 0 < g i) → 0 ≤ foV f g k U L u ∧ foV f g k U L u ≤ 400
  | 0, _ => by
    have a := mulK (k := k) (r := U) (c := 100) hk (by omega)
    have b := upV_rg (a := k * U) (b := L) hL a.1
    unfold foV; omega
  | u + 1, h => by
    have i := foV_rg (f := f) (g := g) hk hU hL u (fun i hi => h i (by omega))
    have w := h u (by omega)
    have a := mulK (k := k) (r := f u) (c := 32) hk (by omega)
    have b := upV_rg (a := k * f u) (b := g u) w.2.2 a.1
    unfold foV; omega
theorem usR_rg {u : Int} (h : 0 ≤ mem 143 1 ∧ mem 143 1 ≤ 8) : 0 ≤ usR mem u ∧ usR mem u ≤ 32 := by
  have := usN_rg (f := rUn mem) (g := rBu mem) (u := u) (mem 143 1).toNat
  unfold usR; omega
theorem fbR_rg (h : RefOK mem) (hR : RtOK mem) {x : Int} (hx : 1 ≤ x ∧ x ≤ 4) : 0 ≤ fbR mem x ∧ fbR mem x ≤ 400 := by
  obtain ⟨q1, q2, q3, q4⟩ := hR
  exact foV_rg hx ⟨q1, q2⟩ (by omega) 3 (fun i hi => ⟨(usR_rg h.ops.1).1, (usR_rg h.ops.1).2, by have := h.cn i hi; omega⟩)
theorem f_350e (h : RefOK mem) (hR : RtOK mem) {x : Int} (hx : 1 ≤ x ∧ x ≤ 4) (H : K (fbR mem x) mem) : CWI (Ex S (n + 3)) 350 [.inr 143, .inl x] mem K := by
  obtain ⟨q1, q2, q3, q4⟩ := hR
  have gs : ∀ i, i < 3 → 0 ≤ usR mem (i : Nat) ∧ usR mem (i : Nat) ≤ 32 ∧ 0 < mem 153 i := fun i hi => ⟨(usR_rg h.ops.1).1, (usR_rg h.ops.1).2, by have := h.cn i hi; omega⟩
  have key : ∀ (N : Nat) (c : Int) (o : Nat), o ≤ 3 → c = foV (fun u => usR mem (u : Int)) (mem 153) x (mem 143 31) (mem 143 32) o → 3 - o < N → Wx (Ex S (n + 2)) S M_350 (fun r m => ∃ y, r = some y ∧ K y m) 20 [some (.inr 143), some (.inl x), some (.inl c), some (.inl (o : Int))] [] mem := by
    intro N
    induction N with
    | zero => intros; omega
    | succ N ih =>
      intro c o ho hc hN
      refine w_350_20 (Ex.mono S (n + 2)) ⟨fun q _ => ⟨_, rfl, ?_⟩, fun q => f_263e h.ops h.bz (fun _ => ?_)⟩
      · have e : c = fbR mem x := by
          rw [hc, show o = 3 by omega]; rfl
        rw [e]; exact H
      have g := gs o (by omega)
      have p := mulK (k := x) (r := usR mem (o : Int)) (c := 32) hx ⟨g.1, g.2.1⟩
      refine ⟨by unfold InI; omega, ⟨by omega, by omega⟩, fun v3 e3 _ => ?_⟩
      simp only [Int.toNat_natCast] at e3
      refine f_275 ⟨by omega, by have := h.cn o (by omega); omega⟩ ⟨by omega, by omega⟩ (fun u u1 u2 _ => ?_)
      have ue := upV_of (by omega) u1 u2
      exact f_257 (fun _ _ => ⟨by unfold InI; omega, ih _ (o + 1) (by omega) (by
        show max c u = max (foV (fun u => usR mem (u : Int)) (mem 153) x (mem 143 31) (mem 143 32) o) (upV (x * usR mem (o : Int)) (mem 153 o))
        rw [ue, e3, hc]) (by omega)⟩)
  refine CW.of (k := 2) mt_350 rfl rfl (w_350_0 (Ex.mono S (n + 2)) (fun v1 e1 _ => ?_))
  have p := mulK (k := x) (r := v1) (c := 100) hx ⟨by omega, by omega⟩
  refine ⟨by unfold InI; omega, fun v2 e2 _ => f_275 ⟨by omega, by omega⟩ ⟨by omega, by omega⟩ (fun u u1 u2 _ => ?_)⟩
  have ue := upV_of (by omega) u1 u2
  exact f_257 (fun _ _ => key 4 _ 0 (by omega) (by
    show max 1 u = max 1 (upV (x * mem 143 31) (mem 143 32))
    rw [ue, e1, e2]) (by omega))
end FR
