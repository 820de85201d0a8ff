/-! bounds and counts of the reference, exactly -/
theorem usR.fr {m m' : MM} (e : ∀ A i, (A = 143 ∧ i = 1) ∨ A = 144 ∨ A = 150 ∨ A = 152 ∨ A = 153 → m' A i = m A i) : usR m' = usR m := funext fun u => by
  unfold usR
  rw [e 143 1 (by omega)]
  exact usN_eq _ (fun o _ => ⟨by unfold rUn; rw [e 144 o (by omega), e 150 _ (by omega)], by unfold rBu; rw [e 144 o (by omega), e 152 _ (by omega)]⟩)
def byR (m : MM) : Int := buV (fun u => usR m (u : Int)) (m 153) 1 3
theorem byR.fr {m m' : MM} (e : ∀ A i, (A = 143 ∧ i = 1) ∨ A = 144 ∨ A = 150 ∨ A = 152 ∨ A = 153 → m' A i = m A i) : byR m' = byR m := by
  unfold byR
  rw [usR.fr e, show m' 153 = m 153 from funext fun i => e 153 i (by omega)]
theorem byR.fo {m m' : MM} (e : ∀ A i, (A = 143 ∧ i = 1) ∨ (143 < A ∧ A < 154) → m' A i = m A i) : byR m' = byR m := byR.fr (fun A i q => e A i (by omega))
def laR (m : MM) : Int := laN (latF m) (m 143 1).toNat
theorem FrW.ob {m m' : MM} (h : FrW m m') : ∀ A i, (A = 143 ∧ i = 1) ∨ (143 < A ∧ A < 154) → m' A i = m A i := fun A i q => h A i (by omega) (by omega) (by omega) (by omega) (by omega) (by omega)
section RB
variable {S : Nat × (Nat → Int32)} {n : Nat} {mem : MM} {K : Int → MM → Prop}
theorem f_354e (hO : OpsOK mem) (hB : ∀ k, k < 6 → 1 ≤ mem 152 k ∧ mem 152 k ≤ 15) (hC : ∀ k, k < 3 → 1 ≤ mem 153 k ∧ mem 153 k ≤ 9) (H : K (byR mem) mem) : CWI (Ex S (n + 3)) 354 [.inr 143] mem K := by
  have key : ∀ (N : Nat) (c : Int) (o : Nat), o ≤ 3 → c = buV (fun u => usR mem (u : Int)) (mem 153) 1 o → 3 - o < N → Wx (Ex S (n + 2)) S M_354 (fun r m => ∃ y, r = some y ∧ K y m) 4 [some (.inr 143), some (.inl c), some (.inl (o : Int))] [] mem := by
    intro N
    induction N with
    | zero => intros; omega
    | succ N ih =>
      intro c o ho hc hN
      refine w_354_4 (Ex.mono S (n + 2)) ⟨fun q _ => ⟨_, rfl, ?_⟩, fun q => f_263e hO hB (fun _ => ⟨⟨by omega, by omega⟩, fun v3 e3 _ => ?_⟩)⟩
      · have e : c = byR mem := by
          rw [hc, show o = 3 by omega]; rfl
        rw [e]; exact H
      simp only [Int.toNat_natCast] at e3
      have hc3 := hC o (by omega)
      have g := usR_rg (mem := mem) (u := (o : Int)) hO.1
      refine f_275 ⟨by omega, by omega⟩ ⟨by omega, by omega⟩ (fun u u1 u2 _ => ?_)
      have ue := upV_of (by omega) u1 u2
      exact f_257 (fun _ _ => ⟨by unfold InI; omega, ih _ (o + 1) (by omega) (by
        show max c u = max (buV (fun u => usR mem (u : Int)) (mem 153) 1 o) (upV (1 * usR mem (o : Int)) (mem 153 o))
        rw [ue, e3, hc, Int.one_mul]) (by omega)⟩)
  exact CW.of (k := 2) mt_354 rfl rfl (w_354_0 (Ex.mono S (n + 2)) (key 4 0 0 (by omega) rfl (by omega)))
theorem f_335e (hO : OpsOK mem) (H : K (laR mem) mem) : CWI (Ex S (n + 2)) 335 [.inr 143] mem K := by
  have h8 := hO.1
  have key : ∀ (N : Nat) (c : Int) (o : Int), 0 ≤ o → 0 ≤ c → c ≤ 6 * o → o ≤ mem 143 1 → c = laN (latF mem) o.toNat → (mem 143 1 - o).toNat < N → Wx (Ex S (n + 1)) S M_335 (fun r m => ∃ y, r = some y ∧ K y m) 4 [some (.inr 143), some (.inl c), some (.inl o)] [] mem := by
    intro N
    induction N with
    | zero => intros; omega
    | succ N ih =>
      intro c o ho hc hc2 ho2 he hN
      refine w_335_4 (Ex.mono S (n + 1)) (fun v1 e1 _ => ⟨fun q _ => ⟨_, rfl, ?_⟩, fun q => f_246 hO ⟨ho, by omega⟩ (fun _ => ?_)⟩)
      · have e : c = laR mem := by
          unfold laR
          rw [he, show (mem 143 1).toNat = o.toNat by omega]
        rw [e]; exact H
      · have := hO.lat (o := o.toNat) (by omega)
        have st := laN_st (f := latF mem) ho
        exact ⟨by unfold InI; omega, by unfold InI; omega, ih _ (o + 1) (by omega) (by omega) (by omega) (by omega) (by rw [st, he]) (by omega)⟩
  exact CW.of (k := 2) mt_335 rfl rfl (w_335_0 (Ex.mono S (n + 1)) (key 9 0 0 (by omega) (by omega) (by omega) h8.1 rfl (by omega)))
/-- the needs and what they leave, in m'; ops as in m -/
def NdRd (m m' : MM) (r : Int) : Prop := NdsOK m' ∧ Enum (rq m') (m' 143 12).toNat (NdF m) ∧ 0 ≤ r ∧ RdsM (NdE m') r
theorem f_353e (hO : OpsOK mem) (hS : SoundM mem) (hB : ∀ k, k < 6 → 1 ≤ mem 152 k ∧ mem 152 k ≤ 15) (hC : ∀ k, k < 3 → 1 ≤ mem 153 k ∧ mem 153 k ≤ 9) (H : ∀ r m', FrW mem m' → RN mem m' → NdRd mem m' r → K (max 1 (max r (byR mem))) m') : CWI (Ex S (n + 4)) 353 [.inr 143] mem K := by
  refine CW.of (k := 0) mt_353 rfl rfl (w_353_0 (Ex.mono S (n + 3)) (f_245e hO hS (fun m1 g1 g5 g2 g3 g4 gE => ?_)))
  have hN := NdsOK.of hO g1 g2 g3 g4
  have hRN : RN mem m1 := ⟨g5, fun _ => ⟨g2, g3⟩⟩
  refine f_255e hN (fun r m2 r1 r2 k1 kR _ => ?_)
  have kW := g1.w.tr k1.w
  have e := kW.ob
  have e12 : m2 143 12 = m1 143 12 := k1 143 12 (by omega)
  have eq : rq m2 = rq m1 := funext fun i => by
    unfold rq
    rw [k1 154 i (by omega), k1 155 i (by omega), k1 156 i (by omega), k1 157 i (by omega)]
  have eR : RdsM (NdE m2) r := by
    have : NdE m2 = NdE m1 := funext fun d => NdE.fr k1 d
    rw [this]; exact kR
  refine f_354e (kW.ops hO) (fun k hk => by rw [e _ _ (by omega)]; exact hB k hk) (fun k hk => by rw [e _ _ (by omega)]; exact hC k hk) (fun _ => f_257 (fun _ _ => f_257 (fun _ _ _ => ⟨_, rfl, ?_⟩)))
  rw [byR.fo e]
  exact H r m2 kW (hRN.tr (k1.rn (by omega))) ⟨hN.fr k1, by rw [eq, e12]; exact gE, r1, eR⟩
def OfN (m m' : MM) (x r : Int) : Prop := (¬ SoundM m ∧ r = -1) ∨ (SoundM m ∧ ∃ R, NdRd m m' R ∧ (x = 1 → r = m' 143 12) ∧ (x = 2 → r = R) ∧ (x = 3 → r = byR m) ∧ (x = 4 → r = max 1 (max R (byR m))))
theorem f_367e {x : Int} (h : RefOK mem) (hx : 1 ≤ x ∧ x ≤ 4) (H : ∀ r m', RefOK m' → FrQ mem m' → m' 143 0 = mem 143 0 → OfN mem m' x r → K r m') : CWI (Ex S (n + 5)) 367 [.inr 143, .inl x] mem K := by
  refine CW.of (k := 1) mt_367 rfl rfl (w_367_0 (Ex.mono S (n + 4)) (f_240 h.ops (fun hS _ => ⟨fun _ => ?_, fun z => absurd (by decide) z⟩) (fun hS _ => ⟨fun z => absurd rfl z, fun _ _ => ⟨_, rfl, H _ _ h FrQ.rf rfl (Or.inl ⟨hS, rfl⟩)⟩⟩)))
  refine f_353e h.ops hS h.bz h.cn9 (fun r m' k1 k2 k3 _ => ?_)
  have h' := k1.rest k2 h
  have hq := k1.f.q
  have h0 : m' 143 0 = mem 143 0 := k1 143 0 (by omega) (by omega) (by omega) (by omega) (by omega) (by omega)
  have fin : ∀ z, ((x = 1 → z = m' 143 12) ∧ (x = 2 → z = r) ∧ (x = 3 → z = byR mem) ∧ (x = 4 → z = max 1 (max r (byR mem)))) → ∃ y, some z = some y ∧ K y m' := fun z q => ⟨_, rfl, H z m' h' hq h0 (Or.inr ⟨hS, r, k3, q⟩)⟩
  refine ⟨fun a1 => ⟨fun a2 => ⟨fun a3 _ => fin _ ⟨fun z => by omega, fun z => by omega, fun z => by omega, fun _ => rfl⟩, fun a3 => f_354e h'.ops h'.bz h'.cn9 (fun _ _ => ?_)⟩, fun a2 => f_255e k3.1 (fun u m'' u1 u2 q qR _ _ => ?_)⟩, fun a1 v e _ _ => fin _ ⟨fun _ => e, fun z => by omega, fun z => by omega, fun z => by omega⟩⟩
  · rw [byR.fo k1.ob]
    exact fin _ ⟨fun z => by omega, fun z => by omega, fun _ => rfl, fun z => by omega⟩
  · have eu : u = r := by
      have a1 := k3.2.2.2
      by_cases w : u < r
      · exact absurd qR.1 (a1.2 u u1 w)
      · by_cases w2 : r < u
        · exact absurd a1.1 (qR.2 r k3.2.2.1 w2)
        · omega
    have e12 : m'' 143 12 = m' 143 12 := q 143 12 (by omega)
    have eq : rq m'' = rq m' := funext fun i => by
      unfold rq
      rw [q 154 i (by omega), q 155 i (by omega), q 156 i (by omega), q 157 i (by omega)]
    have eR : RdsM (NdE m'') r := by
      have : NdE m'' = NdE m' := funext fun d => NdE.fr q d
      rw [this]; exact k3.2.2.2
    exact ⟨_, rfl, H u m'' (q.w.rest (q.rn (by omega)) h') (hq.tr q.w.f.q) ((q 143 0 (by omega)).trans h0) (Or.inr ⟨hS, r, ⟨k3.1.fr q, by rw [eq, e12]; exact k3.2.1, k3.2.2.1, eR⟩, fun z => by omega, fun _ => eu, fun z => by omega, fun z => by omega⟩)⟩
def CntR (m m' : MM) (x r : Int) : Prop := (x = 0 → r = m 143 1) ∧ (1 ≤ x ∧ x ≤ 4 → OfN m m' x r) ∧ (x = 5 → r = laR m) ∧ (6 ≤ x ∧ x ≤ 8 → r = m 153 (x - 6).toNat) ∧ (¬ (0 ≤ x ∧ x ≤ 8) → r = -1)
theorem NdRd.th {m m' : MM} {z r : Int} (h : NdRd (upm m 143 0 z) m' r) : NdRd m m' r := h
theorem OfN.th {m m' : MM} {z x r : Int} (h : OfN (upm m 143 0 z) m' x r) : OfN m m' x r := by
  have eb : byR (upm m 143 0 z) = byR m := byR.fr (fun A i q => upm_ne (by omega))
  unfold OfN at h
  rw [eb] at h
  exact h
theorem f_366e {x : Int} (h : RefOK mem) (H : ∀ r m', RefOK m' → FrQ mem m' → m' 143 0 = 0 → CntR mem m' x r → K r m') : CWI (Ex S (n + 6)) 366 [.inr 143, .inl x] mem K := by
  have h' := h.th' (z := 0) (by omega)
  have fin : ∀ z, CntR mem (upm mem 143 0 0) x z → ∃ y, some z = some y ∧ K y (upm mem 143 0 0) := fun z q => ⟨_, rfl, H z _ h' FrQ.th upm_eq q⟩
  refine CW.of (k := 0) mt_366 rfl rfl (w_366_0 (Ex.mono S (n + 5)) ⟨fun a0 => f_227 (fun b1 b2 _ => ⟨fun z => absurd z (by decide), fun _ => f_367e h' ⟨b1, b2⟩ (fun r m' h1 h2 h3 h4 _ _ => ⟨_, rfl, H r m' h1 (FrQ.th.tr h2) (h3.trans upm_eq) ⟨fun z => by omega, fun _ => h4.th, fun z => by omega, fun z => by omega, fun z => by omega⟩⟩)⟩) (fun b1 _ => ⟨fun _ => ⟨fun a5 => f_227 (fun a b _ => ⟨fun z => absurd z (by decide), fun _ => ⟨by unfold InI; omega, by omega, fun v e _ _ => fin _ ⟨fun z => by omega, fun z => by omega, fun z => by omega, fun z => ?_, fun z => by omega⟩⟩⟩) (fun a _ => ⟨fun _ _ => fin _ ⟨fun z => by omega, fun z => by omega, fun z => by omega, fun z => by omega, fun _ => rfl⟩, fun z => absurd rfl z⟩), fun a5 => f_335e h'.ops (fun _ _ => ?_)⟩, fun z => absurd rfl z⟩), fun a0 v e _ _ => fin _ ⟨fun _ => ?_, fun z => by omega, fun z => by omega, fun z => by omega, fun z => by omega⟩⟩)
  · rw [e, upm_ne (by omega)]
  · have el : laR (upm mem 143 0 0) = laR mem := by
      unfold laR
      rw [upm_ne (by omega)]
      exact laN_eq _ (fun o _ => by unfold latF; rw [upm_ne (by omega), upm_ne (by omega)])
    rw [el]
    exact fin _ ⟨fun z => by omega, fun z => by omega, fun _ => rfl, fun z => by omega, fun z => by omega⟩
  · rw [e, upm_ne (by omega)]
end RB
