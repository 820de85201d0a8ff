section
/-! far, height, bare of the reference, exactly -/
theorem NoUp.mono {c : Nat → Q4} {n o : Nat} {r d : Int} (ho : o ≤ 8) (hV : EdV c n o) (h : NoUp (EdQ c n r)) (hr : r ≤ d) : NoUp (EdQ c n d) := by
  refine (rings_noup ho hV).mp (fun x hx => ?_)
  have w := (rings_noup ho hV).mpr h x hx
  have q := ring_dist hV hx
  have := Int.mul_le_mul_of_nonneg_right hr (show 0 ≤ x.2.1 by omega)
  omega
def NoM (m m' : MM) (d : Int) : Prop := ¬ SoundM m ∨ (SoundM m ∧ ∃ r, NdRd m m' r ∧ d < r)
def abR (m : MM) (o : Nat) : Int := mxW (fun b => WM m 158 o b) (m 143 1).toNat
section RFW
variable {S : Nat × (Nat → Int32)} {n : Nat} {mem : MM} {K : Int → MM → Prop} {d : Int}
theorem f_253e {x : Int} (H1 : 1 ≤ x → x ≤ 12 → K 1 mem) (H0 : ¬ (1 ≤ x ∧ x ≤ 12) → K 0 mem) : CWI (Ex S (n + 2)) 253 [.inl x] mem K :=
  CW.of (k := 0) mt_253 rfl rfl (w_253_0 (Ex.mono S (n + 1)) (f_227 (fun a b _ => ⟨Or.inr rfl, _, rfl, H1 a b⟩) (fun b _ => ⟨Or.inl rfl, _, rfl, H0 (by omega)⟩)))
theorem f_254q (h : RefOK mem) (H1 : ∀ m', RefOK m' → FrQ mem m' → NoM mem m' d → K 1 m') (H0 : ∀ m', RefOK m' → FrQ mem m' → SoundM mem → (∃ r, NdRd mem m' r ∧ r ≤ d) → K 0 m') : CWI (Ex S (n + 4)) 254 [.inr 143, .inl d] mem K :=
  f_254e h.ops (fun m' k1 k2 q => H1 m' (k1.rest k2 h) k1.f.q (by
    by_cases s : SoundM mem
    · obtain ⟨a, -, b, r, r0, c, e⟩ := q s
      exact Or.inr ⟨s, r, ⟨a, b, r0, c⟩, e⟩
    · exact Or.inl s)) (fun m' k1 k2 s a _ b ⟨r, r0, c, e⟩ => H0 m' (k1.rest k2 h) k1.f.q s ⟨r, ⟨a, b, r0, c⟩, e⟩)
theorem NdRd.fr1 {m m1 m2 : MM} {r : Int} (h : NdRd m m1 r) (k : Fr1 158 m1 m2) : NdRd m m2 r := by
  obtain ⟨a, b, r0, c⟩ := h
  have eq : rq m2 = rq m1 := funext fun i => by
    unfold rq
    rw [k 154 i (by omega), k 155 i (by omega), k 156 i (by omega), k 157 i (by omega)]
  refine ⟨a.fr k, by rw [eq, k 143 12 (by omega)]; exact b, r0, ?_⟩
  have : NdE m2 = NdE m1 := funext fun d => NdE.fr k d
  rw [this]; exact c
theorem f_256q {m1 : MM} {K : MM → Prop} {r : Int} (hd : 1 ≤ d ∧ d ≤ 12) (h1 : RefOK m1) (hw : NdRd mem m1 r) (hr : r ≤ d) (H : ∀ m2, RefOK m2 → Fr1 158 m1 m2 → NdRd mem m2 r → WyA m2 d → K m2) : CWV (Ex S (n + 2)) 256 [.inr 143, .inl d] m1 K := by
  have hN := hw.1
  refine f_256x hN h1.lo hd ?_ (fun m2 k2 hW => H m2 (k2.rest158 h1).1 k2 (hw.fr1 k2) hW)
  have c := hw.2.2.2.1
  rw [NdE.q h1.lo hN.2.1.1] at c ⊢
  exact NoUp.mono (by have := hN.1; omega) hN.v c hr
theorem f_261e (h8 : 0 ≤ mem 143 1 ∧ mem 143 1 ≤ 8) {o : Int} (ho : 0 ≤ o ∧ o < 8) (H : K (abR mem o.toNat) mem) : CWI (Ex S (n + 2)) 261 [.inr 143, .inl o] mem K := by
  have key : ∀ (N : Nat) (i : Int), 0 ≤ i → i ≤ mem 143 1 → (8 - i).toNat < N → Wx (Ex S (n + 1)) S M_261 (fun r m => ∃ y, r = some y ∧ K y m) 4 [some (.inr 143), some (.inl o), some (.inl (mxW (fun b => WM mem 158 o.toNat b) i.toNat)), some (.inl i)] [] mem := by
    intro N
    induction N with
    | zero => intros; omega
    | succ N ih =>
      intro i hi hi2 hN
      refine w_261_4 (Ex.mono S (n + 1)) (fun v1 e1 _ => ⟨fun q _ => ⟨_, rfl, ?_⟩, fun q => ⟨by unfold InI; omega, by unfold InI; omega, by omega, fun v2 e2 _ => f_257 (fun _ _ => ⟨by unfold InI; omega, ?_⟩)⟩⟩)
      · rw [show i.toNat = (mem 143 1).toNat by omega]; exact H
      · have w := ih (i + 1) (by omega) (by omega) (by omega)
        rw [mxW_st hi] at w
        have e : v2 = WM mem 158 o.toNat i.toNat := by
          rw [e2]; unfold WM; congr 1; omega
        rw [e]
        exact w
  exact CW.of (k := 2) mt_261 rfl rfl (w_261_0 (Ex.mono S (n + 1)) (key 9 0 (by omega) h8.1 (by omega)))
theorem NoM.th {m m' : MM} {z : Int} (h : NoM m m' d) : NoM m (upm m' 143 0 z) d := h
end RFW
end
section
/-! slots of the reference, exactly -/
def RPb (m : MM) (d : Int) : Prb := ((m 143 1).toNat, rUn m, rBu m, fun u => m 153 u, d, EdQ (rq m) (m 143 12).toNat d)
theorem RPb.cg {m m' : MM} {d : Int} (h : ∀ A i, (A = 143 ∧ ¬ i = 0) ∨ (144 ≤ A ∧ A ≤ 157) → m' A i = m A i) : RPb m' d = RPb m d := by
  have e1 : rUn m' = rUn m := funext fun o => by
    unfold rUn
    rw [h 144 o (by omega), h 150 _ (by omega)]
  have e2 : rBu m' = rBu m := funext fun o => by
    unfold rBu
    rw [h 144 o (by omega), h 152 _ (by omega)]
  have e3 : (fun u => m' 153 u) = fun u => m 153 u := funext fun u => h 153 u (by omega)
  have e4 : rq m' = rq m := funext fun i => by
    unfold rq
    rw [h 154 i (by omega), h 155 i (by omega), h 156 i (by omega), h 157 i (by omega)]
  unfold RPb
  rw [e1, e2, e3, e4, h 143 1 (by omega), h 143 12 (by omega)]
def WaT (W : Nat → Nat → Int) (nn : Int) (s : Nat → Int) (d : Int) (k : Nat) (t : Nat → Int) : Prop := ∀ a b, a < k → b < k → ¬ W a b = nn → s a + d * t a + W a b ≤ s b + d * t b
theorem WaT.cg {W : Nat → Nat → Int} {nn : Int} {s s' : Nat → Int} {d : Int} {k : Nat} {t : Nat → Int} (h : WaT W nn s d k t) (e : ∀ o, o < k → s o = s' o) : WaT W nn s' d k t := fun a b ha hb w => by
  rw [← e a ha, ← e b hb]; exact h a b ha hb w
def HgW (W : Nat → Nat → Int) (nn : Int) (k : Nat) : Prop := ∃ φ : Nat → Int, (∀ b, 0 ≤ φ b ∧ φ b ≤ 42) ∧ ∀ a b, a < k → b < k → ¬ W a b = nn → φ a + W a b ≤ φ b
def WyW (m : MM) (d : Int) : Prop := (∀ a b, a < (m 143 1).toNat → b < (m 143 1).toNat → -5000 ≤ WM m 158 a b ∧ WM m 158 a b ≤ 5000) ∧ HgW (WM m 158) (-1000) (m 143 1).toNat ∧ (∀ a b x, (RPb m d).E a b x → (a < (m 143 1).toNat ∧ b < (m 143 1).toNat) ∧ ¬ WM m 158 a b = -1000 ∧ x ≤ WM m 158 a b) ∧ ∀ s t, TuP (RPb m d) s t → WaT (WM m 158) (-1000) s d (m 143 1).toNat t
theorem us_cg {p : Prb} {s s' : Nat → Int} {u k : Int} {j : Nat} (h : ∀ o, o < j → s o = s' o) : p.us s u k j = p.us s' u k j := usM_cg j (fun o ho _ => ⟨Iff.rfl, fun _ => h o ho⟩)
section RSL
variable {S : Nat × (Nat → Int32)} {n : Nat} {mem : MM} {d : Int}
theorem f_272e {K : Int → MM → Prop} {a b : Int} (hb : 0 < b ∧ b ≤ 1000000) (H : K (a % b) mem) : CWI (Ex S (n + 1)) 272 [.inl a, .inl b] mem K := by
  have h1 := tm_rng a hb.1
  have h2 : 0 ≤ a.tmod b + b := by omega
  have h3 := Int.tmod_nonneg b h2
  have h4 := Int.tmod_lt_of_pos (a.tmod b + b) hb.1
  have e : (a.tmod b + b).tmod b = a % b := by
    rw [Int.tmod_eq_emod_of_nonneg h2, Int.add_emod_right]
    have q := Int.tmod_add_mul_tdiv a b
    have q2 : (a.tmod b + b * a.tdiv b) % b = a.tmod b % b := Int.add_mul_emod_self_left _ _ _
    rw [q] at q2
    exact q2.symm
  exact CW.of (k := 0) mt_272 rfl rfl (w_272_0 (Ex.mono S n) ⟨hb.1, by unfold InI; omega, hb.1, fun _ => ⟨_, rfl, by rw [e]; exact H⟩⟩)
theorem f_264z {K : Int → MM → Prop} (hO : OpsOK mem) (hU : UnOK mem) {o : Nat} (h : o < 8) (H : 0 ≤ rUn mem o → rUn mem o ≤ 2 → K (rUn mem o) mem) : CWI (Ex S (n + 1)) 264 [.inr 143, .inl (o : Int)] mem K := by
  obtain ⟨h1, h2, -⟩ := hO.2.1 o h
  refine CW.of (k := 0) mt_264 rfl rfl (w_264_0 (Ex.mono S n) ⟨by omega, fun v e _ => ⟨?_, fun v2 e2 _ _ => ⟨_, rfl, ?_⟩⟩⟩)
  · rw [e, Int.toNat_natCast]; omega
  · rw [Int.toNat_natCast] at e
    have g := hU (mem 144 o).toNat (by omega)
    have e3 : v2 = rUn mem o := by
      rw [e2, e]; rfl
    rw [e3]
    exact H g.1 g.2
theorem f_265z {K : Int → MM → Prop} (hO : OpsOK mem) {o : Nat} (h : o < 8) (H : K (rBu mem o) mem) : CWI (Ex S (n + 1)) 265 [.inr 143, .inl (o : Int)] mem K := by
  obtain ⟨h1, h2, -⟩ := hO.2.1 o h
  refine CW.of (k := 0) mt_265 rfl rfl (w_265_0 (Ex.mono S n) ⟨by omega, fun v e _ => ⟨?_, fun v2 e2 _ _ => ⟨_, rfl, ?_⟩⟩⟩)
  · rw [e, Int.toNat_natCast]; omega
  · rw [Int.toNat_natCast] at e
    have e3 : v2 = rBu mem o := by
      rw [e2, e]; rfl
    rw [e3]
    exact H
theorem f_271e {K : MM → Prop} (hO : OpsOK mem) (hU : UnOK mem) {o : Nat} {t by_ : Int} (ho : o < 8) (ht : 0 ≤ t ∧ t ≤ 1000000) (hd : 1 ≤ d ∧ d ≤ 12) (hb : by_ = 1 ∨ by_ = -1) (hbu : 0 ≤ rBu mem o ∧ rBu mem o ≤ 15) (hR : ∀ u k : Nat, u < 3 → k < 12 → -100 ≤ mem 159 (12 * u + k) ∧ mem 159 (12 * u + k) ≤ 100) (H : ∀ m', Fr1 159 mem m' → (∀ u k : Nat, u < 3 → k < 12 → m' 159 (12 * u + k) = mem 159 (12 * u + k) + by_ * cIf (rUn mem o = (u : Int)) (us1 d t (rBu mem o) k) 0) → K m') : CWV (Ex S (n + 2)) 271 [.inr 143, .inl (o : Int), .inl t, .inl d, .inl by_] mem K := by
  refine CW.of (k := 1) mt_271 rfl rfl (w_271_0 (Ex.mono S (n + 1)) ?_)
  have key : ∀ (N : Nat) (k : Nat) (m : MM), k ≤ 4 → 4 - k < N → Fr1 159 mem m → (∀ u j : Nat, u < 3 → j < 12 → m 159 (12 * u + j) = mem 159 (12 * u + j) + by_ * cIf (rUn mem o = (u : Int)) (uzR d t (rBu mem o) j k) 0) → Wx (Ex S (n + 1)) S M_271 (fun r m => r = none ∧ K m) 3 [some (.inr 143), some (.inl (o : Int)), some (.inl t), some (.inl d), some (.inl by_), some (.inl (k : Int))] [] m := by
    intro N
    induction N with
    | zero => intros; omega
    | succ N ih =>
      intro k m hk hN hF hC
      have hO2 := hF.f59.ops hO
      have hU2 := hF.f59.un hU
      have eU : rUn m o = rUn mem o := by unfold rUn; rw [hF 144 o (by omega), hF 150 _ (by omega)]
      have eB : rBu m o = rBu mem o := by unfold rBu; rw [hF 144 o (by omega), hF 152 _ (by omega)]
      refine w_271_3 (Ex.mono S (n + 1)) ⟨fun q => ⟨rfl, H m hF (fun u j hu hj => ?_)⟩, fun q => f_265z hO2 ho (fun _ b3 e3 _ b4 e4 _ => ?_)⟩
      · rw [hC u j hu hj, show k = 4 by omega, uzR4]
      · rw [eB] at e3
        have bt := bitr hbu ⟨by omega, by omega⟩ e3 e4
        rw [Int.toNat_natCast] at bt
        refine ⟨fun q2 => ⟨by unfold InI; omega, ih (k + 1) m (by omega) (by omega) hF (fun u j hu hj => ?_)⟩, fun q2 => f_264z hO2 hU2 ho (fun u1 u2 _ => ⟨by unfold InI; omega, by unfold InI; omega, f_272e ⟨by omega, by omega⟩ (fun _ => ?_)⟩)⟩
        · have e : uzR d t (rBu mem o) j (k + 1) = uzR d t (rBu mem o) j k := by
            show uzR d t (rBu mem o) j k + (if _ then 1 else 0) = _
            rw [if_neg (fun z => q2 (bt.mpr z.1)), Int.add_zero]
          rw [hC u j hu hj, e]
        · have r1 := Int.emod_nonneg (t + (k : Int)) (show d ≠ 0 by omega)
          have r2 := Int.emod_lt_of_pos (t + (k : Int)) (show 0 < d by omega)
          have ix : ((12 * rUn m o + (t + (k : Int)) % d).toNat : Nat) = 12 * (rUn m o).toNat + ((t + (k : Int)) % d).toNat := by omega
          refine ⟨by unfold InI; omega, by omega, fun v9 e9 _ z _ hz => ⟨by omega, by unfold InI; omega, ih (k + 1) _ (by omega) (by omega) (hF.tr Fr1.up) (fun u j hu hj => ?_)⟩⟩
          have st : uzR d t (rBu mem o) j (k + 1) = uzR d t (rBu mem o) j k + (if (t + (k : Int)) % d = (j : Int) then 1 else 0) := by
            show uzR d t (rBu mem o) j k + (if _ ∧ _ then 1 else 0) = _
            by_cases w : (t + (k : Int)) % d = (j : Int)
            · rw [if_pos w, if_pos ⟨bt.mp (Classical.not_not.mp q2), w⟩]
            · rw [if_neg w, if_neg (fun z => w z.2)]
          have hm : ∀ x : Int, by_ * (x + 1) = by_ * x + by_ := fun x => by rw [Int.mul_add, Int.mul_one]
          rw [ix] at e9 ⊢
          have c9 := hC (rUn m o).toNat ((t + (k : Int)) % d).toNat (by omega) (by omega)
          have g9 := hR (rUn m o).toNat ((t + (k : Int)) % d).toNat (by omega) (by omega)
          rw [cIf.y (show rUn mem o = (((rUn m o).toNat : Nat) : Int) by omega)] at c9
          have z9 : z = v9 + by_ := hz (by
            have := uzR_rg (d := d) (s := t) (bu := rBu mem o) (k := ((((t + (k : Int)) % d).toNat : Nat) : Int)) k
            unfold InI
            rcases hb with e | e
            · rw [e] at c9 ⊢; omega
            · rw [e] at c9 ⊢; omega)
          by_cases w : u = (rUn m o).toNat ∧ j = ((t + (k : Int)) % d).toNat
          · rw [← w.1, ← w.2] at e9 c9
            rw [← w.1, ← w.2, upm_eq, z9, e9, c9, cIf.y (show rUn mem o = (u : Int) by omega), st, if_pos (show (t + (k : Int)) % d = (j : Int) by omega), hm]
            omega
          · rw [upm_ne (fun z => w (by omega)), hC u j hu hj]
            by_cases w2 : rUn mem o = (u : Int)
            · rw [cIf.y w2, cIf.y w2, st, if_neg (fun z => w ⟨by omega, by omega⟩), Int.add_zero]
            · rw [cIf.n w2, cIf.n w2]
  refine key 5 0 mem (by omega) (by omega) Fr1.rf (fun u j _ _ => ?_)
  have e : cIf (rUn mem o = (u : Int)) (uzR d t (rBu mem o) j 0) 0 = 0 := by
    by_cases w : rUn mem o = (u : Int)
    · rw [cIf.y w]; rfl
    · exact cIf.n w
  rw [e, Int.mul_zero, Int.add_zero]
theorem f_273e {K : Int → MM → Prop} {u : Int} (hu : 0 ≤ u ∧ u ≤ 2) (hd : 1 ≤ d ∧ d ≤ 12) (H1 : (∃ k : Nat, (k : Int) < d ∧ mem 153 u.toNat < mem 159 (12 * u.toNat + k)) → K 1 mem) (H0 : (∀ k : Nat, (k : Int) < d → mem 159 (12 * u.toNat + k) ≤ mem 153 u.toNat) → K 0 mem) : CWI (Ex S (n + 1)) 273 [.inr 143, .inl u, .inl d] mem K := by
  refine CW.of (k := 1) mt_273 rfl rfl (w_273_0 (Ex.mono S n) ?_)
  have key : ∀ (N : Nat) (k : Nat), (k : Int) ≤ d → d - k < N → (∀ j : Nat, j < k → mem 159 (12 * u.toNat + j) ≤ mem 153 u.toNat) → Wx (Ex S n) S M_273 (fun r m => ∃ y, r = some y ∧ K y m) 2 [some (.inr 143), some (.inl u), some (.inl d), some (.inl (k : Int))] [] mem := by
    intro N
    induction N with
    | zero => intros; omega
    | succ N ih =>
      intro k hk hN hA
      have ix : ((12 * u + (k : Int)).toNat : Nat) = 12 * u.toNat + k := by omega
      refine w_273_2 (Ex.mono S n) ⟨fun q => ⟨_, rfl, H0 (fun j hj => hA j (by omega))⟩, fun q => ⟨by unfold InI; omega, by unfold InI; omega, by omega, fun v1 e1 _ => ⟨by omega, fun v2 e2 _ => ⟨fun q2 => ⟨by unfold InI; omega, ih (k + 1) (by omega) (by omega) (fun j hj => ?_)⟩, fun q2 => ⟨_, rfl, H1 ⟨k, by omega, ?_⟩⟩⟩⟩⟩⟩
      · rw [ix] at e1
        by_cases e : j = k
        · subst e; omega
        · exact hA j (by omega)
      · rw [ix] at e1
        omega
  exact key 13 0 (by omega) (by omega) (fun j hj => by omega)
def UsI (p : Prb) (m : MM) (j : Nat) : Prop := ∀ u k : Nat, u < 3 → k < 12 → m 159 (12 * u + k) = p.us (m 160) u k j
def FitI (p : Prb) (m : MM) (j : Nat) : Prop := ∀ u k : Int, 0 ≤ u → u < 3 → 0 ≤ k → k < p.d → p.us (m 160) u k j ≤ p.ct u.toNat
def LexI (p : Prb) (m : MM) (j : Nat) : Prop := ∀ v, Fsb p v → ∀ i, i < j → (∀ l, l < i → v l = m 160 l) → m 160 i ≤ v i
theorem UsI.cg {p : Prb} {m m' : MM} {j : Nat} (h : UsI p m j) (e1 : ∀ i, m' 159 i = m 159 i) (e2 : ∀ o, o < j → m' 160 o = m 160 o) : UsI p m' j := fun u k hu hk => by
  rw [e1, h u k hu hk]
  exact (us_cg e2).symm
theorem FitI.cg {p : Prb} {m m' : MM} {j : Nat} (h : FitI p m j) (e2 : ∀ o, o < j → m' 160 o = m 160 o) : FitI p m' j := fun u k a b c e => by
  rw [us_cg e2]; exact h u k a b c e
theorem LexI.cg {p : Prb} {m m' : MM} {j : Nat} (h : LexI p m j) (e2 : ∀ o, o < j → m' 160 o = m 160 o) : LexI p m' j := fun v hv i hi hl => by
  rw [e2 i hi]
  exact h v hv i hi (fun l h2 => by rw [← e2 l (by omega)]; exact hl l h2)
end RSL
end
section
/-! findsSlots, laysTimes, fitsBy of the reference, exactly -/
section RFT
variable {S : Nat × (Nat → Int32)} {n : Nat} {mem : MM} {d : Int}
theorem f_270e {K : MM → Prop} (H : ∀ m', Fr1 159 mem m' → (∀ i, i < 36 → m' 159 i = 0) → K m') : CWV (Ex S (n + 1)) 270 [.inr 143] mem K := by
  refine CW.of (k := 1) mt_270 rfl rfl (w_270_0 (Ex.mono S n) ?_)
  have key : ∀ (N : Nat) (k : Nat) (m : MM), k ≤ 36 → 36 - k < N → Fr1 159 mem m → (∀ i, i < k → m 159 i = 0) → Wx (Ex S n) S M_270 (fun r m => r = none ∧ K m) 2 [some (.inr 143), some (.inl (k : Int))] [] m := by
    intro N
    induction N with
    | zero => intros; omega
    | succ N ih =>
      intro k m hk hN hF hA
      refine w_270_2 (Ex.mono S n) ⟨fun q => ⟨rfl, H m hF (fun i hi => hA i (by omega))⟩, fun q => ⟨by omega, by unfold InI; omega, ih (k + 1) _ (by omega) (by omega) (hF.tr Fr1.up) (fun i hi => ?_)⟩⟩
      rw [Int.toNat_natCast]
      by_cases e : i = k
      · subst e; exact upm_eq
      · rw [upm_ne (fun z => e z.2)]; exact hA i (by omega)
  exact key 37 0 mem (by omega) (by omega) Fr1.rf (fun i hi => by omega)
theorem NdRd.nup {m m1 : MM} {r : Int} (hw : NdRd m m1 r) (h1 : RefOK m1) (hr : r ≤ d) : NoUp (EdQ (rq m1) (m1 143 12).toNat d) := by
  have hN := hw.1
  have c := hw.2.2.2.1
  rw [NdE.q h1.lo hN.2.1.1] at c
  exact NoUp.mono (by have := hN.1; omega) hN.v c hr
theorem Fr1.rp {m m' : MM} (h : Fr1 161 m m') : RPb m' d = RPb m d := RPb.cg (fun A i q => h A i (by omega))
def FitR (m m' : MM) (d : Int) : Prop := SoundM m ∧ (∃ r, NdRd m m' r ∧ r ≤ d) ∧ WyW m' d ∧ LstP (RPb m' d) (m' 160) ∧ TmL (RPb m' d) (m' 160) (m' 161) ∧ (∀ o : Nat, (o : Int) < m' 143 1 → 0 ≤ m' 161 o ∧ m' 161 o ≤ 42 + 9 * (d - 1)) ∧ UsI (RPb m' d) m' (m' 143 1).toNat
theorem WyW.cg {m m' : MM} (h : WyW m d) (e : ∀ A i, (A = 143 ∧ ¬ i = 0) ∨ (144 ≤ A ∧ A ≤ 158) → m' A i = m A i) : WyW m' d := by
  have e1 : RPb m' d = RPb m d := RPb.cg (fun A i q => e A i (by omega))
  have e2 : WM m' 158 = WM m 158 := funext fun a => funext fun b => e 158 _ (by omega)
  unfold WyW
  rw [e1, e2, e 143 1 (by omega)]
  exact h
end RFT
end
section
/-! laid by wip/hand/tg.py: fits, least, time, ring of the class, exactly -/
def NoD (m : MM) (d : Int) : Prop := d < upV (m 9 5) (m 9 6) ∨ ∀ v, ¬ Fsb (CPb m d) v
def YsC (m : MM) (d : Int) : Prop := upV (m 9 5) (m 9 6) ≤ d ∧ ∃ v, Fsb (CPb m d) v
def FiT (m : MM) (d : Int) (s T : Nat → Int) : Prop := SndX m ∧ WbX m ∧ upV (m 9 5) (m 9 6) ≤ d ∧ LstP (CPb m d) s ∧ TmL (CPb m d) s T
def FiC (m : MM) (d : Int) (Q : Nat) : Prop := SndX m ∧ WbX m ∧ upV (m 9 5) (m 9 6) ≤ d ∧ ChX m d Q
theorem DrX.y {m : MM} {d : Int} {Q : Nat} (h : DrX m d Q) (q : ¬ m Q 1 = 0) : upV (m 9 5) (m 9 6) ≤ d ∧ ChX m d Q := by
  rcases h with h | h
  · exact absurd h.1 q
  · exact h.2
theorem DrX.n {m : MM} {d : Int} {Q : Nat} (h : DrX m d Q) (q : m Q 1 = 0) : NoD m d := by
  rcases h with h | h
  · exact h.2
  · have := h.1; omega
theorem DrX.r {m : MM} {d : Int} {Q : Nat} (h : DrX m d Q) : (m Q 1 = 1 ∧ YsC m d) ∨ (m Q 1 = 0 ∧ NoD m d) := by
  rcases h with h | h
  · exact Or.inr h
  · exact Or.inl ⟨h.1, h.2.1, _, h.2.2.2.1.1⟩
theorem FiC.t {m : MM} {d : Int} {Q : Nat} (h : FiC m d Q) : FiT m d (m (Q + 1)) (m (Q + 2)) := ⟨h.1, h.2.1, h.2.2.1, h.2.2.2.2.1, h.2.2.2.2.2.1⟩
theorem NoD.fr {m m' : MM} {d : Int} {Q : Nat} (h : NoD m d) (hF : Frm (p85 Q) m m') (hq : 38 ≤ Q) : NoD m' d := by
  unfold NoD
  rw [CPb.cg (fun A i q => hF A i (by unfold p85; omega)), hF 9 5 (by unfold p85; omega), hF 9 6 (by unfold p85; omega)]
  exact h
end
section
/-! laid by wip/hand/tg.py: plan, life, alive, code, idle of the class, exactly -/
theorem smF_rg {f : Nat → Int} {c : Int} : ∀ n : Nat, (∀ i, i < n → 0 ≤ f i ∧ f i ≤ c) → 0 ≤ smF f n ∧ smF f n ≤ c * n
  | 0, _ => by
    show (0 : Int) ≤ 0 ∧ (0 : Int) ≤ c * ((0 : Nat) : Int)
    omega
  | n + 1, h => by
    have g := smF_rg n (fun i hi => h i (by omega))
    have k := h n (by omega)
    show 0 ≤ smF f n + f n ∧ smF f n + f n ≤ c * ((n + 1 : Nat) : Int)
    rw [show ((n + 1 : Nat) : Int) = (n : Int) + 1 by omega, Int.mul_add, Int.mul_one]
    omega
theorem ChX.rg {m : MM} {d : Int} {Q : Nat} (h : ChX m d Q) (hO : ChtOK m Q) (hB : BodyOK m) (hd : 1 ≤ d ∧ d ≤ 12) : (∀ o : Nat, (o : Int) < m 1 0 → (0 ≤ m (Q + 4) o ∧ m (Q + 4) o ≤ 12000) ∧ (0 ≤ m (Q + 5) o ∧ m (Q + 5) o ≤ 12000) ∧ (0 ≤ m (Q + 6) o ∧ m (Q + 6) o ≤ 12000)) ∧ (1 ≤ m Q 7 ∧ m Q 7 ≤ 12000) ∧ (0 ≤ m Q 6 ∧ m Q 6 ≤ 96000) ∧ (1 ≤ m Q 5 ∧ m Q 5 ≤ 11001) ∧ 0 ≤ m Q 4 ∧ m Q 4 ≤ 11010 := by
  obtain ⟨-, -, -, h3, h4, h5, hv, ⟨n1, n2, n3⟩, hp⟩ := h
  have h8 := hB.1
  have lv := hv.rg hO hB hd (by omega)
  have cp : ∀ o : Nat, (o : Int) < m 1 0 → 0 ≤ m (Q + 5) o ∧ m (Q + 5) o ≤ 12000 := fun o ho => by
    rw [n1 o ho]
    have l := lv o ho
    have u := upV_rg (a := m (Q + 4) o) (b := d) (by omega) l.1
    unfold cpF
    split <;> omega
  have mx := mxW_rg (f := m (Q + 5)) (c := 12000) (by omega) (m 1 0).toNat (fun i hi => (cp i (by omega)).2)
  have sm := smF_rg (f := m (Q + 5)) (c := 12000) (m 1 0).toNat (fun i hi => cp i (by omega))
  have s5 := mxW_rg (f := fun o => m (Q + 2) o / d) (c := 11000) (by omega) (m 1 0).toNat (fun i hi => by
    have t := (hO.2 i (by omega)).2.1
    have k : m (Q + 2) i / d ≤ m (Q + 2) i := Int.ediv_le_self _ t.1
    show m (Q + 2) i / d ≤ 11000
    omega)
  have s4 := mxW_rg (f := fun o => m (Q + 2) o + cLa m o) (c := 11010) (by omega) (m 1 0).toNat (fun i hi => by
    have t := (hO.2 i (by omega)).2.2
    have k := h3 i (by omega)
    show m (Q + 2) i + cLa m i ≤ 11010
    omega)
  refine ⟨fun o ho => ⟨lv o ho, cp o ho, ?_⟩, by omega, by omega, by omega, by omega⟩
  have c := cp o ho
  rcases hp o ho with w | w
  · omega
  · omega
end
section
/-! laid by wip/hand/tg.py: quick, moves, quickest of the class, exactly -/
theorem Rdy.qk {m : MM} {d : Int} (h : Rdy m) (hd : 1 ≤ d ∧ d ≤ 12) (q : upV (m 9 5) (m 9 6) ≤ d) (y : m 19 1 = d) : m 19 0 = m 1 0 ∧ (∀ a b x, (CPb m d).E a b x → a < (m 1 0).toNat ∧ b < (m 1 0).toNat) ∧ (∀ a b : Nat, (a : Int) < m 1 0 → (b : Int) < m 1 0 → WyV (CPb m d).E (-100000) a b (WM m 20 a b)) ∧ (m 129 0 = d → HstR m) := by
  obtain ⟨f1, f2, f3⟩ := h.c.fws hd q y
  obtain ⟨z, w⟩ := h.2.1.2.1.1.resolve_left (by omega)
  exact ⟨z, fun a b x e => f3.v a b x e, fun a b ha hb => f1 a b (show a < (m 1 0).toNat by omega) (show b < (m 1 0).toNat by omega), fun e => h.2.1.2.1.2.resolve_left (by omega)⟩
def YqF (m : MM) (d : Int) : Prop := ∃ h c T, (∀ o : Nat, (o : Int) < m 1 0 → HgQ (CPb m d).E o (h o)) ∧ QkX (CPb m d) h 1 c T
def NqF (m : MM) (d : Int) : Prop := ∃ h c T, (∀ o : Nat, (o : Int) < m 1 0 → HgQ (CPb m d).E o (h o)) ∧ QkX (CPb m d) h 0 c T
theorem YqF.fr {m m' : MM} {d : Int} (h : YqF m d) (e : ∀ A i, (0 < A ∧ A < 9 ∧ ¬ A = 4) ∨ (A = 9 ∧ (i = 0 ∨ i = 5 ∨ i = 6)) ∨ (10 ≤ A ∧ A ≤ 13) → m' A i = m A i) : YqF m' d := by
  unfold YqF
  rw [CPb.cg (fun A i q => e A i (by omega)), e 1 0 (by omega)]
  exact h
theorem NqF.fr {m m' : MM} {d : Int} (h : NqF m d) (e : ∀ A i, (0 < A ∧ A < 9 ∧ ¬ A = 4) ∨ (A = 9 ∧ (i = 0 ∨ i = 5 ∨ i = 6)) ∨ (10 ≤ A ∧ A ≤ 13) → m' A i = m A i) : NqF m' d := by
  unfold NqF
  rw [CPb.cg (fun A i q => e A i (by omega)), e 1 0 (by omega)]
  exact h
theorem HstR.y {m : MM} {d : Int} (h : HstR m) (e : m 129 0 = d) (f : m 129 1 = 1) : YqF m d := by
  obtain ⟨g, h1, h2⟩ := h
  rw [e] at h1 h2
  rw [f] at h2
  exact ⟨g, _, _, h1, h2⟩
theorem HstR.n {m : MM} {d : Int} (h : HstR m) (e : m 129 0 = d) (f : m 129 1 = 0) : NqF m d := by
  obtain ⟨g, h1, h2⟩ := h
  rw [e] at h1 h2
  rw [f] at h2
  exact ⟨g, _, _, h1, h2⟩
def QdF (m : MM) (d : Int) : Prop := SndX m ∧ WbX m ∧ upV (m 9 5) (m 9 6) ≤ d ∧ m 129 0 = d ∧ HstR m ∧ 0 ≤ m 129 1 ∧ m 129 1 ≤ 1
def QqX (m : MM) (r : Int) : Prop := (1 ≤ r ∧ r ≤ 12 ∧ upV (m 9 5) (m 9 6) ≤ r ∧ YqF m r ∧ ∀ k : Int, 1 ≤ k → upV (m 9 5) (m 9 6) ≤ k → k < r → NqF m k) ∨ (r = -1 ∧ ∀ k : Int, 1 ≤ k → upV (m 9 5) (m 9 6) ≤ k → k ≤ 12 → NqF m k)
set_option maxRecDepth 100000 in
theorem mt_122 : MT[122]? = some M_122 := rfl
set_option maxRecDepth 100000 in
theorem mt_136 : MT[136]? = some M_136 := rfl
set_option maxRecDepth 100000 in
theorem mt_138 : MT[138]? = some M_138 := rfl
theorem te_122_0 : (pT M_122).find? (fun e => e.1 == 0) = some (0, .aload_n 0, 0, 0) := rfl
theorem te_122_1 : (pT M_122).find? (fun e => e.1 == 1) = some (1, .iload_n 1, 0, 0) := rfl
theorem te_122_2 : (pT M_122).find? (fun e => e.1 == 2) = some (2, .invokevirtual 110, 57, 0) := rfl
theorem te_122_5 : (pT M_122).find? (fun e => e.1 == 5) = some (5, .aload_n 0, 0, 0) := rfl
theorem te_122_6 : (pT M_122).find? (fun e => e.1 == 6) = some (6, .iload_n 2, 0, 0) := rfl
theorem te_122_7 : (pT M_122).find? (fun e => e.1 == 7) = some (7, .invokevirtual 176, 73, 0) := rfl
theorem te_122_10 : (pT M_122).find? (fun e => e.1 == 10) = some (10, .aload_n 0, 0, 0) := rfl
theorem te_122_11 : (pT M_122).find? (fun e => e.1 == 11) = some (11, .getfield 50, 9, 6) := rfl
theorem te_122_14 : (pT M_122).find? (fun e => e.1 == 14) = some (14, .aload_n 0, 0, 0) := rfl
theorem te_122_15 : (pT M_122).find? (fun e => e.1 == 15) = some (15, .getfield 12, 9, 0) := rfl
theorem te_122_18 : (pT M_122).find? (fun e => e.1 == 18) = some (18, .aload_n 0, 0, 0) := rfl
theorem te_122_19 : (pT M_122).find? (fun e => e.1 == 19) = some (19, .getfield 19, 9, 1) := rfl
theorem te_122_22 : (pT M_122).find? (fun e => e.1 == 22) = some (22, .aload_n 0, 0, 0) := rfl
theorem te_122_23 : (pT M_122).find? (fun e => e.1 == 23) = some (23, .getfield 29, 9, 3) := rfl
theorem te_122_26 : (pT M_122).find? (fun e => e.1 == 26) = some (26, .iload_n 2, 0, 0) := rfl
theorem te_122_27 : (pT M_122).find? (fun e => e.1 == 27) = some (27, .invokevirtual 213, 123, 1) := rfl
theorem te_122_30 : (pT M_122).find? (fun e => e.1 == 30) = some (30, .aload_n 0, 0, 0) := rfl
theorem te_122_31 : (pT M_122).find? (fun e => e.1 == 31) = some (31, .getfield 50, 9, 6) := rfl
theorem te_122_34 : (pT M_122).find? (fun e => e.1 == 34) = some (34, .getfield 217, 2, 1) := rfl
theorem te_122_37 : (pT M_122).find? (fun e => e.1 == 37) = some (37, .ifCond .eq 15, 0, 0) := rfl
theorem te_122_40 : (pT M_122).find? (fun e => e.1 == 40) = some (40, .aload_n 0, 0, 0) := rfl
theorem te_122_41 : (pT M_122).find? (fun e => e.1 == 41) = some (41, .getfield 50, 9, 6) := rfl
theorem te_122_44 : (pT M_122).find? (fun e => e.1 == 44) = some (44, .getfield 220, 2, 4) := rfl
theorem te_122_47 : (pT M_122).find? (fun e => e.1 == 47) = some (47, .iload_n 1, 0, 0) := rfl
theorem te_122_48 : (pT M_122).find? (fun e => e.1 == 48) = some (48, .iaload, 0, 0) := rfl
theorem te_122_49 : (pT M_122).find? (fun e => e.1 == 49) = some (49, .goto 4, 0, 0) := rfl
theorem te_122_52 : (pT M_122).find? (fun e => e.1 == 52) = some (52, .iconst (-1), 0, 0) := rfl
theorem te_122_53 : (pT M_122).find? (fun e => e.1 == 53) = some (53, .ireturn, 0, 0) := rfl
theorem te_136_0 : (pT M_136).find? (fun e => e.1 == 0) = some (0, .aload_n 0, 0, 0) := rfl
theorem te_136_1 : (pT M_136).find? (fun e => e.1 == 1) = some (1, .iload_n 1, 0, 0) := rfl
theorem te_136_2 : (pT M_136).find? (fun e => e.1 == 2) = some (2, .invokevirtual 176, 73, 0) := rfl
theorem te_136_5 : (pT M_136).find? (fun e => e.1 == 5) = some (5, .aload_n 0, 0, 0) := rfl
theorem te_136_6 : (pT M_136).find? (fun e => e.1 == 6) = some (6, .getfield 50, 9, 6) := rfl
theorem te_136_9 : (pT M_136).find? (fun e => e.1 == 9) = some (9, .aload_n 0, 0, 0) := rfl
theorem te_136_10 : (pT M_136).find? (fun e => e.1 == 10) = some (10, .getfield 12, 9, 0) := rfl
theorem te_136_13 : (pT M_136).find? (fun e => e.1 == 13) = some (13, .aload_n 0, 0, 0) := rfl
theorem te_136_14 : (pT M_136).find? (fun e => e.1 == 14) = some (14, .getfield 19, 9, 1) := rfl
theorem te_136_17 : (pT M_136).find? (fun e => e.1 == 17) = some (17, .aload_n 0, 0, 0) := rfl
theorem te_136_18 : (pT M_136).find? (fun e => e.1 == 18) = some (18, .getfield 29, 9, 3) := rfl
theorem te_136_21 : (pT M_136).find? (fun e => e.1 == 21) = some (21, .iload_n 1, 0, 0) := rfl
theorem te_136_22 : (pT M_136).find? (fun e => e.1 == 22) = some (22, .invokevirtual 213, 123, 1) := rfl
theorem te_136_25 : (pT M_136).find? (fun e => e.1 == 25) = some (25, .aload_n 0, 0, 0) := rfl
theorem te_136_26 : (pT M_136).find? (fun e => e.1 == 26) = some (26, .getfield 50, 9, 6) := rfl
theorem te_136_29 : (pT M_136).find? (fun e => e.1 == 29) = some (29, .getfield 217, 2, 1) := rfl
theorem te_136_32 : (pT M_136).find? (fun e => e.1 == 32) = some (32, .ifCond .eq 13, 0, 0) := rfl
theorem te_136_35 : (pT M_136).find? (fun e => e.1 == 35) = some (35, .aload_n 0, 0, 0) := rfl
theorem te_136_36 : (pT M_136).find? (fun e => e.1 == 36) = some (36, .getfield 50, 9, 6) := rfl
theorem te_136_39 : (pT M_136).find? (fun e => e.1 == 39) = some (39, .getfield 221, 2, 2) := rfl
theorem te_136_42 : (pT M_136).find? (fun e => e.1 == 42) = some (42, .goto 4, 0, 0) := rfl
theorem te_136_45 : (pT M_136).find? (fun e => e.1 == 45) = some (45, .iconst (-1), 0, 0) := rfl
theorem te_136_46 : (pT M_136).find? (fun e => e.1 == 46) = some (46, .ireturn, 0, 0) := rfl
theorem te_138_0 : (pT M_138).find? (fun e => e.1 == 0) = some (0, .aload_n 0, 0, 0) := rfl
theorem te_138_1 : (pT M_138).find? (fun e => e.1 == 1) = some (1, .invokevirtual 158, 69, 0) := rfl
theorem te_138_4 : (pT M_138).find? (fun e => e.1 == 4) = some (4, .iconst 1, 0, 0) := rfl
theorem te_138_5 : (pT M_138).find? (fun e => e.1 == 5) = some (5, .aload_n 0, 0, 0) := rfl
theorem te_138_6 : (pT M_138).find? (fun e => e.1 == 6) = some (6, .getfield 19, 9, 1) := rfl
theorem te_138_9 : (pT M_138).find? (fun e => e.1 == 9) = some (9, .invokevirtual 224, 32, 1) := rfl
theorem te_138_12 : (pT M_138).find? (fun e => e.1 == 12) = some (12, .invokestatic 228, 40, 2) := rfl
theorem te_138_15 : (pT M_138).find? (fun e => e.1 == 15) = some (15, .istore_n 1, 0, 0) := rfl
theorem te_138_16 : (pT M_138).find? (fun e => e.1 == 16) = some (16, .iload_n 1, 0, 0) := rfl
theorem te_138_17 : (pT M_138).find? (fun e => e.1 == 17) = some (17, .bipush 12, 0, 0) := rfl
theorem te_138_19 : (pT M_138).find? (fun e => e.1 == 19) = some (19, .if_icmp .gt 57, 0, 0) := rfl
theorem te_138_22 : (pT M_138).find? (fun e => e.1 == 22) = some (22, .aload_n 0, 0, 0) := rfl
theorem te_138_23 : (pT M_138).find? (fun e => e.1 == 23) = some (23, .getfield 29, 9, 3) := rfl
theorem te_138_26 : (pT M_138).find? (fun e => e.1 == 26) = some (26, .aload_n 0, 0, 0) := rfl
theorem te_138_27 : (pT M_138).find? (fun e => e.1 == 27) = some (27, .getfield 12, 9, 0) := rfl
theorem te_138_30 : (pT M_138).find? (fun e => e.1 == 30) = some (30, .aload_n 0, 0, 0) := rfl
theorem te_138_31 : (pT M_138).find? (fun e => e.1 == 31) = some (31, .getfield 19, 9, 1) := rfl
theorem te_138_34 : (pT M_138).find? (fun e => e.1 == 34) = some (34, .iload_n 1, 0, 0) := rfl
theorem te_138_35 : (pT M_138).find? (fun e => e.1 == 35) = some (35, .invokevirtual 234, 75, 1) := rfl
theorem te_138_38 : (pT M_138).find? (fun e => e.1 == 38) = some (38, .aload_n 0, 0, 0) := rfl
theorem te_138_39 : (pT M_138).find? (fun e => e.1 == 39) = some (39, .getfield 50, 9, 6) := rfl
theorem te_138_42 : (pT M_138).find? (fun e => e.1 == 42) = some (42, .aload_n 0, 0, 0) := rfl
theorem te_138_43 : (pT M_138).find? (fun e => e.1 == 43) = some (43, .getfield 12, 9, 0) := rfl
theorem te_138_46 : (pT M_138).find? (fun e => e.1 == 46) = some (46, .aload_n 0, 0, 0) := rfl
theorem te_138_47 : (pT M_138).find? (fun e => e.1 == 47) = some (47, .getfield 19, 9, 1) := rfl
theorem te_138_50 : (pT M_138).find? (fun e => e.1 == 50) = some (50, .aload_n 0, 0, 0) := rfl
theorem te_138_51 : (pT M_138).find? (fun e => e.1 == 51) = some (51, .getfield 29, 9, 3) := rfl
theorem te_138_54 : (pT M_138).find? (fun e => e.1 == 54) = some (54, .iload_n 1, 0, 0) := rfl
theorem te_138_55 : (pT M_138).find? (fun e => e.1 == 55) = some (55, .invokevirtual 213, 123, 1) := rfl
theorem te_138_58 : (pT M_138).find? (fun e => e.1 == 58) = some (58, .aload_n 0, 0, 0) := rfl
theorem te_138_59 : (pT M_138).find? (fun e => e.1 == 59) = some (59, .getfield 50, 9, 6) := rfl
theorem te_138_62 : (pT M_138).find? (fun e => e.1 == 62) = some (62, .getfield 217, 2, 1) := rfl
theorem te_138_65 : (pT M_138).find? (fun e => e.1 == 65) = some (65, .ifCond .eq 5, 0, 0) := rfl
theorem te_138_68 : (pT M_138).find? (fun e => e.1 == 68) = some (68, .iload_n 1, 0, 0) := rfl
theorem te_138_69 : (pT M_138).find? (fun e => e.1 == 69) = some (69, .ireturn, 0, 0) := rfl
theorem te_138_70 : (pT M_138).find? (fun e => e.1 == 70) = some (70, .iinc 1 1, 0, 0) := rfl
theorem te_138_73 : (pT M_138).find? (fun e => e.1 == 73) = some (73, .goto (-57), 0, 0) := rfl
theorem te_138_76 : (pT M_138).find? (fun e => e.1 == 76) = some (76, .iconst (-1), 0, 0) := rfl
theorem te_138_77 : (pT M_138).find? (fun e => e.1 == 77) = some (77, .ireturn, 0, 0) := rfl
theorem f_122x {S : Nat × (Nat → Int32)} {n : Nat} {mem : MM} {K : Int → MM → Prop} {E : Nat → MM → Prop} (hI : ClS mem) {p0 p1 : Int} (H : 0 ≤ p0 ∧ p0 < mem 1 0 → 1 ≤ p1 ∧ p1 ≤ 12 → ∀ m', ClS m' → Frm pNb mem m' → QdF m' p1 → ∀ r, r = (if m' 129 1 = 0 then -1 else m' 130 p0.toNat) → K r m') (HE2 : ¬ (0 ≤ p0 ∧ p0 < mem 1 0) → E 2 mem) (HE0 : 0 ≤ p0 ∧ p0 < mem 1 0 → ¬ (1 ≤ p1 ∧ p1 ≤ 12) → E 0 mem) (HE1 : 0 ≤ p0 ∧ p0 < mem 1 0 → 1 ≤ p1 ∧ p1 ≤ 12 → ∀ m', ClS m' → Frm pNb mem m' → NoR m' p1 → E 1 m') : CQI (Ex S (n + 17)) 122 [.inr 0, .inl p0, .inl p1] mem K E := by
  refine CY.of (k := 0) mt_122 rfl rfl (fun hv => ?_)
  have hC := Ex.mono S (n + 16)
  have ii_p0 : InI p0 := hv (.inl p0) (by simp)
  unfold InI at ii_p0
  have ii_p1 : InI p1 := hv (.inl p1) (by simp)
  unfold InI at ii_p1
  clear hv
  have h8 := hI.1.b.1
  show Tx (Ex S (n + 16)) S M_122 (kI K E) 0 0 0 [some (.inr 0), some (.inl p0), some (.inl p1)] [] mem
  refine Tx.aload_n hC te_122_0 rfl ?_
  refine Tx.iload_n hC te_122_1 rfl ?_
  refine Tx.virtV hC te_122_2 mt_57 (args := [.inr 0, .inl p0]) (rest := []) (c' := 1) (s' := 6) rfl rfl rfl rfl rfl rfl rfl rfl rfl rfl ?_
  refine f_57n (fun r1a => ?_) (fun r1n => HE2 (by omega))
  refine Tx.aload_n hC te_122_5 rfl ?_
  refine Tx.iload_n hC te_122_6 rfl ?_
  refine Tx.virtV hC te_122_7 mt_73 (args := [.inr 0, .inl p1]) (rest := []) (c' := 4) (s' := 24) rfl rfl rfl rfl rfl rfl rfl rfl rfl rfl ?_
  refine f_73x hI (fun r4d m5 r4R hF6 r4q r4y => ?_) (fun r4n => HE0 (by omega) r4n) (fun r4d m5 r4C hF6 r4n => HE1 (by omega) r4d _ r4C hF6 r4n)
  have hF6n : Frm pNb mem m5 := hF6
  refine Tx.aload_n hC te_122_10 rfl ?_
  refine Tx.getR hC te_122_11 rfl rfl rfl ?_
  refine Tx.aload_n hC te_122_14 rfl ?_
  refine Tx.getR hC te_122_15 rfl rfl rfl ?_
  refine Tx.aload_n hC te_122_18 rfl ?_
  refine Tx.getR hC te_122_19 rfl rfl rfl ?_
  refine Tx.aload_n hC te_122_22 rfl ?_
  refine Tx.getR hC te_122_23 rfl rfl rfl ?_
  refine Tx.iload_n hC te_122_26 rfl ?_
  refine Tx.virtV hC te_122_27 mt_123 (args := [.inr 129, .inr 1, .inr 9, .inr 19, .inl p1]) (rest := []) (c' := 4) (s' := 24) rfl rfl rfl rfl rfl rfl rfl rfl rfl rfl ?_
  have r7k := Rdy.qk r4R r4d r4q r4y
  refine CWV.q hC (f_123e r4R.1.b r4R.1.w r7k.1 r4R.1.hs r4d r7k.2.1 r7k.2.2.1 r7k.2.2.2 (fun m8 hF9 r7h r70 r7x => ?_))
  have r7R := Rdy.e_seek r4R hF9 r7h (Or.inr r7x)
  have r7u : upV (m8 9 5) (m8 9 6) = upV (m5 9 5) (m5 9 6) := by rw [hF9 9 5 (by omega), hF9 9 6 (by omega)]
  have r7f := r7h.2.2.1
  have r7g : ∀ A i, (0 < A ∧ A < 9 ∧ ¬ A = 4) ∨ (A = 9 ∧ (i = 0 ∨ i = 5 ∨ i = 6)) ∨ (10 ≤ A ∧ A ≤ 13) → m8 A i = m5 A i := fun A i z => hF9 A i (by omega)
  have hF9n : Frm pNb mem m8 := hF6n.tr (Frm.mono (P := pHs) hF9 (fun A i q => by unfold pHs at q; unfold pNb; omega))
  refine Tx.aload_n hC te_122_30 rfl ?_
  refine Tx.getR hC te_122_31 rfl rfl rfl ?_
  refine Tx.getI hC te_122_34 rfl rfl rfl (fun v10 v10e v10i => ?_)
  unfold InI at v10i
  refine Tx.ifc hC (t := 52) te_122_37 (by decide) (fun q11 => ?_) (fun q11 => ?_)
  · replace q11 : (v10 : Int) = 0 := q11
    refine Tx.iconst hC te_122_52 rfl ?_
    exact Tx.ireturn hC te_122_53 rfl (fun hr => show K (-1) m8 from H (by omega) r4d _ r7R.cs hF9n ⟨r7R.2.2.2.2, r7R.2.2.2.1, (by rw [r7u]; exact r4q), r70, r7x, r7R.1.hs.2.2.1.1, r7R.1.hs.2.2.1.2⟩ _ (by first | (rw [if_pos (by omega)]) | (rw [if_neg (by omega)]; assumption)))
  · replace q11 : ¬ ((v10 : Int) = 0) := q11
    refine Tx.aload_n hC te_122_40 rfl ?_
    refine Tx.getR hC te_122_41 rfl rfl rfl ?_
    refine Tx.getR hC te_122_44 rfl rfl rfl ?_
    refine Tx.iload_n hC te_122_47 rfl ?_
    refine Tx.iald hC te_122_48 rfl (by omega) (fun v12 v12e v12i => ?_)
    unfold InI at v12i
    refine Tx.goto hC (t := 53) te_122_49 (by decide) ?_
    exact Tx.ireturn hC te_122_53 rfl (fun hr => show K v12 m8 from H (by omega) r4d _ r7R.cs hF9n ⟨r7R.2.2.2.2, r7R.2.2.2.1, (by rw [r7u]; exact r4q), r70, r7x, r7R.1.hs.2.2.1.1, r7R.1.hs.2.2.1.2⟩ _ (by first | (rw [if_pos (by omega)]) | (rw [if_neg (by omega)]; assumption)))
theorem f_136x {S : Nat × (Nat → Int32)} {n : Nat} {mem : MM} {K : Int → MM → Prop} {E : Nat → MM → Prop} (hI : ClS mem) {p0 : Int} (H : 1 ≤ p0 ∧ p0 ≤ 12 → ∀ m', ClS m' → Frm pNb mem m' → QdF m' p0 → ∀ r, r = (if m' 129 1 = 0 then -1 else m' 129 2) → K r m') (HE0 : ¬ (1 ≤ p0 ∧ p0 ≤ 12) → E 0 mem) (HE1 : 1 ≤ p0 ∧ p0 ≤ 12 → ∀ m', ClS m' → Frm pNb mem m' → NoR m' p0 → E 1 m') : CQI (Ex S (n + 17)) 136 [.inr 0, .inl p0] mem K E := by
  refine CY.of (k := 0) mt_136 rfl rfl (fun hv => ?_)
  have hC := Ex.mono S (n + 16)
  have ii_p0 : InI p0 := hv (.inl p0) (by simp)
  unfold InI at ii_p0
  clear hv
  show Tx (Ex S (n + 16)) S M_136 (kI K E) 0 0 0 [some (.inr 0), some (.inl p0)] [] mem
  refine Tx.aload_n hC te_136_0 rfl ?_
  refine Tx.iload_n hC te_136_1 rfl ?_
  refine Tx.virtV hC te_136_2 mt_73 (args := [.inr 0, .inl p0]) (rest := []) (c' := 3) (s' := 18) rfl rfl rfl rfl rfl rfl rfl rfl rfl rfl ?_
  refine f_73x hI (fun r1d m2 r1R hF3 r1q r1y => ?_) (fun r1n => HE0 r1n) (fun r1d m2 r1C hF3 r1n => HE1 r1d _ r1C hF3 r1n)
  have hF3n : Frm pNb mem m2 := hF3
  refine Tx.aload_n hC te_136_5 rfl ?_
  refine Tx.getR hC te_136_6 rfl rfl rfl ?_
  refine Tx.aload_n hC te_136_9 rfl ?_
  refine Tx.getR hC te_136_10 rfl rfl rfl ?_
  refine Tx.aload_n hC te_136_13 rfl ?_
  refine Tx.getR hC te_136_14 rfl rfl rfl ?_
  refine Tx.aload_n hC te_136_17 rfl ?_
  refine Tx.getR hC te_136_18 rfl rfl rfl ?_
  refine Tx.iload_n hC te_136_21 rfl ?_
  refine Tx.virtV hC te_136_22 mt_123 (args := [.inr 129, .inr 1, .inr 9, .inr 19, .inl p0]) (rest := []) (c' := 3) (s' := 18) rfl rfl rfl rfl rfl rfl rfl rfl rfl rfl ?_
  have r4k := Rdy.qk r1R r1d r1q r1y
  refine CWV.q hC (f_123e r1R.1.b r1R.1.w r4k.1 r1R.1.hs r1d r4k.2.1 r4k.2.2.1 r4k.2.2.2 (fun m5 hF6 r4h r40 r4x => ?_))
  have r4R := Rdy.e_seek r1R hF6 r4h (Or.inr r4x)
  have r4u : upV (m5 9 5) (m5 9 6) = upV (m2 9 5) (m2 9 6) := by rw [hF6 9 5 (by omega), hF6 9 6 (by omega)]
  have r4f := r4h.2.2.1
  have r4g : ∀ A i, (0 < A ∧ A < 9 ∧ ¬ A = 4) ∨ (A = 9 ∧ (i = 0 ∨ i = 5 ∨ i = 6)) ∨ (10 ≤ A ∧ A ≤ 13) → m5 A i = m2 A i := fun A i z => hF6 A i (by omega)
  have hF6n : Frm pNb mem m5 := hF3n.tr (Frm.mono (P := pHs) hF6 (fun A i q => by unfold pHs at q; unfold pNb; omega))
  refine Tx.aload_n hC te_136_25 rfl ?_
  refine Tx.getR hC te_136_26 rfl rfl rfl ?_
  refine Tx.getI hC te_136_29 rfl rfl rfl (fun v7 v7e v7i => ?_)
  unfold InI at v7i
  refine Tx.ifc hC (t := 45) te_136_32 (by decide) (fun q8 => ?_) (fun q8 => ?_)
  · replace q8 : (v7 : Int) = 0 := q8
    refine Tx.iconst hC te_136_45 rfl ?_
    exact Tx.ireturn hC te_136_46 rfl (fun hr => show K (-1) m5 from H r1d _ r4R.cs hF6n ⟨r4R.2.2.2.2, r4R.2.2.2.1, (by rw [r4u]; exact r1q), r40, r4x, r4R.1.hs.2.2.1.1, r4R.1.hs.2.2.1.2⟩ _ (by first | (rw [if_pos (by omega)]) | (rw [if_neg (by omega)]; assumption)))
  · replace q8 : ¬ ((v7 : Int) = 0) := q8
    refine Tx.aload_n hC te_136_35 rfl ?_
    refine Tx.getR hC te_136_36 rfl rfl rfl ?_
    refine Tx.getI hC te_136_39 rfl rfl rfl (fun v9 v9e v9i => ?_)
    unfold InI at v9i
    refine Tx.goto hC (t := 46) te_136_42 (by decide) ?_
    exact Tx.ireturn hC te_136_46 rfl (fun hr => show K v9 m5 from H r1d _ r4R.cs hF6n ⟨r4R.2.2.2.2, r4R.2.2.2.1, (by rw [r4u]; exact r1q), r40, r4x, r4R.1.hs.2.2.1.1, r4R.1.hs.2.2.1.2⟩ _ (by first | (rw [if_pos (by omega)]) | (rw [if_neg (by omega)]; assumption)))
theorem f_138x {S : Nat × (Nat → Int32)} {n : Nat} {mem : MM} {K : Int → MM → Prop} {E : Nat → MM → Prop} (hI : ClS mem) (H : ∀ m' r, ClS m' → Frm pNb mem m' → SndX m' → WbX m' → QqX m' r → K r m') (HE1 : ∀ m', ClS m' → Frm pNb mem m' → ¬ SndX m' → E 1 m') : CQI (Ex S (n + 17)) 138 [.inr 0] mem K E := by
  refine CY.of (k := 1) mt_138 rfl rfl (fun hv => ?_)
  have hC := Ex.mono S (n + 16)
  clear hv
  show Tx (Ex S (n + 16)) S M_138 (kI K E) 0 0 0 [some (.inr 0), none] [] mem
  have l_16 : ∀ (N : Nat) (x1 : Int) (m_16 : MM), (1 ≤ x1) → (upV (m_16 9 5) (m_16 9 6) ≤ x1) → (Rdy m_16) → (∀ k : Int, 1 ≤ k → upV (m_16 9 5) (m_16 9 6) ≤ k → k < x1 → NqF m_16 k) → ((13 - x1).toNat) < N → Frm pNb mem m_16 → Tx (Ex S (n + 16)) S M_138 (kI K E) 1 6 16 [some (.inr 0), some (.inl x1)] [] m_16 := by
    intro N
    induction N with
    | zero => intros; omega
    | succ N ih_16 =>
      intro x1 m_16 i16_0 i16_1 i16_2 i16_3 hN_16 hF_16
      refine Tx.iload_n hC te_138_16 rfl ?_
      refine Tx.bipush hC te_138_17 rfl rfl ?_
      refine Tx.icmp hC (t := 76) te_138_19 (by decide) (fun q1 => ?_) (fun q1 => ?_)
      · replace q1 : 12 < (x1 : Int) := q1
        refine Tx.iconst hC te_138_76 rfl ?_
        exact Tx.ireturn hC te_138_77 rfl (fun hr => show K (-1) m_16 from H _ _ i16_2.cs hF_16 i16_2.2.2.2.2 i16_2.2.2.2.1 (Or.inr ⟨rfl, fun k a b c => i16_3 k a b (by omega)⟩))
      · replace q1 : ¬ (12 < (x1 : Int)) := q1
        refine Tx.aload_n hC te_138_22 rfl ?_
        refine Tx.getR hC te_138_23 rfl rfl rfl ?_
        refine Tx.aload_n hC te_138_26 rfl ?_
        refine Tx.getR hC te_138_27 rfl rfl rfl ?_
        refine Tx.aload_n hC te_138_30 rfl ?_
        refine Tx.getR hC te_138_31 rfl rfl rfl ?_
        refine Tx.iload_n hC te_138_34 rfl ?_
        refine Tx.virtV hC te_138_35 mt_75 (args := [.inr 19, .inr 1, .inr 9, .inl x1]) (rest := []) (c' := 1) (s' := 6) rfl rfl rfl rfl rfl rfl rfl rfl rfl rfl ?_
        refine f_75x i16_2.1.b i16_2.1.w i16_2.2.2.2.1.1 i16_2.edv (Rdy.noup i16_2 (by omega) (by omega)) i16_2.2.1.2.1 (by omega) (fun m3 hF4 r2x r2z r2y => ?_)
        have r2R := Rdy.e_span i16_2 hF4 (by have := i16_2.1.b.1; omega) r2x
        have r2u : upV (m3 9 5) (m3 9 6) = upV (m_16 9 5) (m_16 9 6) := by rw [hF4 9 5 (by unfold pRe; omega), hF4 9 6 (by unfold pRe; omega)]
        have r2f : ∀ A i, (0 < A ∧ A < 9 ∧ ¬ A = 4) ∨ (A = 9 ∧ (i = 0 ∨ i = 5 ∨ i = 6)) ∨ (10 ≤ A ∧ A ≤ 13) → m3 A i = m_16 A i := fun A i z => hF4 A i (by unfold pRe; omega)
        have hF4n : Frm pNb mem m3 := hF_16.tr (hF4.mono (fun A i q => by unfold pRe at q; unfold pNb; omega))
        refine Tx.aload_n hC te_138_38 rfl ?_
        refine Tx.getR hC te_138_39 rfl rfl rfl ?_
        refine Tx.aload_n hC te_138_42 rfl ?_
        refine Tx.getR hC te_138_43 rfl rfl rfl ?_
        refine Tx.aload_n hC te_138_46 rfl ?_
        refine Tx.getR hC te_138_47 rfl rfl rfl ?_
        refine Tx.aload_n hC te_138_50 rfl ?_
        refine Tx.getR hC te_138_51 rfl rfl rfl ?_
        refine Tx.iload_n hC te_138_54 rfl ?_
        refine Tx.virtV hC te_138_55 mt_123 (args := [.inr 129, .inr 1, .inr 9, .inr 19, .inl x1]) (rest := []) (c' := 1) (s' := 6) rfl rfl rfl rfl rfl rfl rfl rfl rfl rfl ?_
        have r5k := Rdy.qk r2R (show 1 ≤ x1 ∧ x1 ≤ 12 by omega) (by omega) r2y
        refine CWV.q hC (f_123e r2R.1.b r2R.1.w r5k.1 r2R.1.hs (show 1 ≤ x1 ∧ x1 ≤ 12 by omega) r5k.2.1 r5k.2.2.1 r5k.2.2.2 (fun m6 hF7 r5h r50 r5x => ?_))
        have r5R := Rdy.e_seek r2R hF7 r5h (Or.inr r5x)
        have r5u : upV (m6 9 5) (m6 9 6) = upV (m3 9 5) (m3 9 6) := by rw [hF7 9 5 (by omega), hF7 9 6 (by omega)]
        have r5f := r5h.2.2.1
        have r5g : ∀ A i, (0 < A ∧ A < 9 ∧ ¬ A = 4) ∨ (A = 9 ∧ (i = 0 ∨ i = 5 ∨ i = 6)) ∨ (10 ≤ A ∧ A ≤ 13) → m6 A i = m3 A i := fun A i z => hF7 A i (by omega)
        have hF7n : Frm pNb mem m6 := hF4n.tr (Frm.mono (P := pHs) hF7 (fun A i q => by unfold pHs at q; unfold pNb; omega))
        refine Tx.aload_n hC te_138_58 rfl ?_
        refine Tx.getR hC te_138_59 rfl rfl rfl ?_
        refine Tx.getI hC te_138_62 rfl rfl rfl (fun v8 v8e v8i => ?_)
        unfold InI at v8i
        refine Tx.ifc hC (t := 70) te_138_65 (by decide) (fun q9 => ?_) (fun q9 => ?_)
        · replace q9 : (v8 : Int) = 0 := q9
          refine Tx.iincW hC te_138_70 rfl rfl (fun z10 z10i z10e => ?_)
          unfold InI at z10i z10e
          first | replace z10e := z10e (by omega) | clear z10e
          refine Tx.goto hC (t := 16) te_138_73 (by decide) ?_
          exact ih_16 z10 m6 (by omega) (by omega) (r5R) (by
            intro k a b c
            first
            | (exfalso; omega)
            | (by_cases w : k < x1
               · exact (i16_3 k a (by omega) w).fr (fun A i z => (r5g A i z).trans (r2f A i z))
               · rw [show k = x1 by omega]; exact r5x.n r50 (by omega))) (by omega) hF7n
        · replace q9 : ¬ ((v8 : Int) = 0) := q9
          refine Tx.iload_n hC te_138_68 rfl ?_
          exact Tx.ireturn hC te_138_69 rfl (fun hr => show K x1 m6 from H _ _ r5R.cs hF7n r5R.2.2.2.2 r5R.2.2.2.1 (Or.inl ⟨by omega, by omega, by omega, r5x.y r50 (by omega), fun k a b c => (i16_3 k a (by omega) c).fr (fun A i z => (r5g A i z).trans (r2f A i z))⟩))
  refine Tx.aload_n hC te_138_0 rfl ?_
  refine Tx.virtV hC te_138_1 mt_69 (args := [.inr 0]) (rest := []) (c' := 1) (s' := 6) rfl rfl rfl rfl rfl rfl rfl rfl rfl rfl ?_
  refine f_69x hI (fun m12 r11R hF13 => ?_) (fun m12 r11C hF13 r11s => HE1 _ r11C (Frm.rf.tr hF13) r11s)
  have r11w := r11R.1.w.2
  have hF13n : Frm pNb mem m12 := Frm.rf.tr hF13
  refine Tx.iconst hC te_138_4 rfl ?_
  refine Tx.aload_n hC te_138_5 rfl ?_
  refine Tx.getR hC te_138_6 rfl rfl rfl ?_
  refine Tx.virtI hC te_138_9 mt_32 (args := [.inr 9]) (rest := [.inl 1]) (c' := 1) (s' := 6) rfl rfl rfl rfl rfl rfl rfl rfl rfl rfl ?_
  refine f_32x (W := 9) ⟨rfl, rfl, rfl, rfl, rfl⟩ r11R.2.2.2.1.2.2.1 (fun r14 r14e r14a r14b r14i => ?_)
  unfold InI at r14i
  refine Tx.statI hC te_138_12 (by decide) mt_40 (args := [.inl 1, .inl r14]) (rest := []) (c' := 1) (s' := 6) rfl rfl rfl rfl rfl rfl rfl ?_
  refine f_40q (fun r17 r17a r17b r17c r17i => ?_)
  unfold InI at r17i
  refine Tx.istore_n hC te_138_15 rfl ?_
  exact l_16 _ r17 m12 (by omega) (by omega) (r11R) (by
    intro k a b c
    first
    | (exfalso; omega)
    | (by_cases w : k < x1
       · exact (i16_3 k a (by omega) w).fr (fun A i z => (X A i z).trans (X A i z))
       · rw [show k = x1 by omega]; exact X.n X (by omega))) (Nat.lt_succ_self _) hF13n
end
section
/-! quick, moves, quickest of the class, as all other calls meet them -/
theorem f_122 {S : Nat × (Nat → Int32)} {n : Nat} {mem : MM} {K : Int → MM → Prop} {E : Nat → MM → Prop} (hI : ClS mem) {p0 p1 : Int} (H : ∀ r m', ClS m' → Frm pNb mem m' → K r m') (HE : ∀ e m', (e = 2 ∨ e = 0 ∨ e = 1) → ClS m' → Frm pNb mem m' → E e m') : CQI (Ex S (n + 17)) 122 [.inr 0, .inl p0, .inl p1] mem K E :=
  f_122x hI (fun _ _ m' c f _ r _ => H r m' c f) (fun _ => HE 2 _ (by omega) hI Frm.rf) (fun _ _ => HE 0 _ (by omega) hI Frm.rf) (fun _ _ m' c f _ => HE 1 m' (by omega) c f)
theorem f_138 {S : Nat × (Nat → Int32)} {n : Nat} {mem : MM} {K : Int → MM → Prop} {E : Nat → MM → Prop} (hI : ClS mem) (H : ∀ r m', ClS m' → Frm pNb mem m' → K r m') (HE : ∀ e m', (e = 1) → ClS m' → Frm pNb mem m' → E e m') : CQI (Ex S (n + 17)) 138 [.inr 0] mem K E :=
  f_138x hI (fun m' r c f _ _ _ => H r m' c f) (fun m' c f _ => HE 1 m' rfl c f)
end
section
/-! a loop turn by turn: the model, and sums that go round told exactly -/
def wr (t : Int) : Int := (Int32.ofInt t).toInt
abbrev Acc : Type := (Nat → Int) × (Nat → Int) × (Nat → Int) × (Nat → Int) × (Nat → Nat → Int) × (Nat → Nat → Int)
abbrev PSt : Type := (Nat → Nat → Int) × (Nat → Nat → Int)
def lkM (A : Acc) (cm : Nat → Nat → Int) (o k : Nat) (t : Int) : Int := if A.2.2.2.2.1 o k = -1 then t else if A.2.2.2.2.1 o k = -2 then A.2.2.2.2.2 o k else if t - A.2.2.2.2.2 o k < 0 then A.2.2.2.1 (A.2.2.2.2.1 o k).toNat else cm (A.2.2.2.2.1 o k).toNat (t - A.2.2.2.2.2 o k).toNat
def opM (k a b : Int) : Int := if k = 0 then wr (a + b) else if k = 1 then wr (a - b) else if k = 2 then wr (a * b) else min a b
def acM (A : Acc) (s : PSt) (o t : Nat) : Int := if A.1 o = 4 then s.1 (A.2.1 o).toNat (t + A.2.2.1 o).toNat else if A.1 o = 5 then lkM A s.2 o 0 t else opM (A.1 o) (lkM A s.2 o 0 t) (lkM A s.2 o 1 t)
def up2 (f : Nat → Nat → Int) (a b : Nat) (v : Int) : Nat → Nat → Int := fun i j => if i = a ∧ j = b then v else f i j
def stM (A : Acc) (s : PSt) (o t : Nat) : PSt := (if A.1 o = 5 then up2 s.1 (A.2.1 o).toNat (t + A.2.2.1 o).toNat (acM A s o t) else s.1, up2 s.2 o t (acM A s o t))
def opsM (A : Acc) (s : PSt) (t : Nat) : Nat → PSt
  | 0 => s
  | o + 1 => stM A (opsM A s t o) o t
def trM (A : Acc) (N : Nat) : Nat → PSt
  | 0 => (fun r p => if r = 0 then 3 * (p : Int) + 1 else 7 * (p : Int) - 5, fun _ _ => 0)
  | t + 1 => opsM A (trM A N t) t N
def dn (N t o o' t' : Nat) : Prop := o' < N ∧ (t' < t ∨ (t' = t ∧ o' < o))
theorem lkM.cg {A B : Acc} {cm : Nat → Nat → Int} {o k : Nat} {t : Int} (h1 : A.2.2.2.2.1 o k = B.2.2.2.2.1 o k) (h2 : A.2.2.2.2.2 o k = B.2.2.2.2.2 o k) (h3 : 0 ≤ A.2.2.2.2.1 o k → A.2.2.2.1 (A.2.2.2.2.1 o k).toNat = B.2.2.2.1 (A.2.2.2.2.1 o k).toNat) (h4 : -2 ≤ A.2.2.2.2.1 o k) : lkM A cm o k t = lkM B cm o k t := by
  unfold lkM
  rw [← h1, ← h2]
  by_cases a : A.2.2.2.2.1 o k = -1
  · rw [if_pos a, if_pos a]
  · rw [if_neg a, if_neg a]
    by_cases b : A.2.2.2.2.1 o k = -2
    · rw [if_pos b, if_pos b]
    · rw [if_neg b, if_neg b, h3 (by omega)]
def AgO (A B : Acc) (o : Nat) : Prop := A.1 o = B.1 o ∧ (A.1 o = 4 ∨ A.1 o = 5 → A.2.1 o = B.2.1 o ∧ A.2.2.1 o = B.2.2.1 o) ∧ ∀ k, k < 2 → A.2.2.2.2.1 o k = B.2.2.2.2.1 o k ∧ A.2.2.2.2.2 o k = B.2.2.2.2.2 o k ∧ (0 ≤ A.2.2.2.2.1 o k → A.2.2.2.1 (A.2.2.2.2.1 o k).toNat = B.2.2.2.1 (A.2.2.2.2.1 o k).toNat) ∧ -2 ≤ A.2.2.2.2.1 o k
theorem AgO.lk {A B : Acc} {o : Nat} (h : AgO A B o) {cm : Nat → Nat → Int} {k : Nat} (hk : k < 2) {t : Int} : lkM A cm o k t = lkM B cm o k t := by
  have q := h.2.2 k hk
  exact lkM.cg q.1 q.2.1 q.2.2.1 q.2.2.2
theorem AgO.ac {A B : Acc} {o : Nat} (h : AgO A B o) {s : PSt} {t : Nat} : acM A s o t = acM B s o t := by
  unfold acM
  rw [← h.1, h.lk (k := 0) (by omega), h.lk (k := 1) (by omega)]
  by_cases a : A.1 o = 4
  · rw [if_pos a, if_pos a, (h.2.1 (Or.inl a)).1, (h.2.1 (Or.inl a)).2]
  · rw [if_neg a, if_neg a]
theorem AgO.st {A B : Acc} {o : Nat} (h : AgO A B o) {s : PSt} {t : Nat} : stM A s o t = stM B s o t := by
  unfold stM
  rw [h.ac, ← h.1]
  by_cases a : A.1 o = 5
  · rw [if_pos a, if_pos a, (h.2.1 (Or.inr a)).1, (h.2.1 (Or.inr a)).2]
  · rw [if_neg a, if_neg a]
theorem opsM.cg {A B : Acc} {s : PSt} {t : Nat} : ∀ n, (∀ o, o < n → AgO A B o) → opsM A s t n = opsM B s t n
  | 0, _ => rfl
  | n + 1, h => by
    show stM A (opsM A s t n) n t = stM B (opsM B s t n) n t
    rw [opsM.cg n (fun o ho => h o (by omega)), (h n (by omega)).st]
theorem trM.cg {A B : Acc} {N : Nat} (h : ∀ o, o < N → AgO A B o) : ∀ t, trM A N t = trM B N t
  | 0 => rfl
  | t + 1 => by
    show opsM A (trM A N t) t N = opsM B (trM B N t) t N
    rw [trM.cg h t, opsM.cg N h]
def acsC (m : MM) : Acc := (m 2, rowB m, plcB m, m 4, fun o k => m 3 (4 * o + 2 * k), fun o k => m 3 (4 * o + 2 * k + 1))
def acsR (m : MM) : Acc := (m 144, rowF m, plcF m, m 149, fun o k => srcA m o k, fun o k => srcB m o k)
def SrcK (A : Acc) (N : Nat) (o k : Nat) : Prop := A.2.2.2.2.1 o k < 0 ∨ (A.2.2.2.2.1 o k < N ∧ (0 < A.2.2.2.2.2 o k ∨ A.2.2.2.2.1 o k < o) ∧ 0 ≤ A.2.2.2.2.2 o k)
theorem lkM.dnq {A : Acc} {N o k t : Nat} {cm cm2 : Nat → Nat → Int} (hs : SrcK A N o k) (h2 : -2 ≤ A.2.2.2.2.1 o k) (ho : o < N) (h : ∀ o' t', dn N t o o' t' → cm o' t' = cm2 o' t') : lkM A cm o k t = lkM A cm2 o k t := by
  unfold lkM SrcK at *
  by_cases a : A.2.2.2.2.1 o k = -1
  · rw [if_pos a, if_pos a]
  · rw [if_neg a, if_neg a]
    by_cases b : A.2.2.2.2.1 o k = -2
    · rw [if_pos b, if_pos b]
    · rw [if_neg b, if_neg b]
      by_cases c : (t : Int) - A.2.2.2.2.2 o k < 0
      · rw [if_pos c, if_pos c]
      · rw [if_neg c, if_neg c, h]
        unfold dn
        omega
def PlC (m : MM) (s : PSt) (N t o : Nat) : Prop := (∀ r p : Nat, r < 2 → p < 64 → m (136 + r) p = s.1 r p) ∧ ∀ o' t' : Nat, dn N t o o' t' → m 138 (40 * o' + t') = s.2 o' t'
def PlR (m : MM) (s : PSt) (N t o : Nat) : Prop := (∀ r p : Nat, r < 2 → p < 64 → m 165 (64 * r + p) = s.1 r p) ∧ ∀ o' t' : Nat, dn N t o o' t' → m 167 (41 * o' + t') = s.2 o' t'
def acC (m : MM) (o t : Nat) : Int := acM (acsC m) (fun r p => m (136 + r) p, fun o t => m 138 (40 * o + t)) o t
def acR (m : MM) (o t : Nat) : Int := acM (acsR m) (fun r p => m 165 (64 * r + p), fun o t => m 167 (41 * o + t)) o t
theorem acM.eq {A : Acc} {s s2 : PSt} {N t o : Nat} (ho : o < N) (hs : ¬ A.1 o = 4 → SrcK A N o 0 ∧ (¬ A.1 o = 5 → SrcK A N o 1)) (h2 : ¬ A.1 o = 4 → -2 ≤ A.2.2.2.2.1 o 0 ∧ (¬ A.1 o = 5 → -2 ≤ A.2.2.2.2.1 o 1)) (hr : A.1 o = 4 → s.1 (A.2.1 o).toNat (t + A.2.2.1 o).toNat = s2.1 (A.2.1 o).toNat (t + A.2.2.1 o).toNat) (h : ∀ o' t', dn N t o o' t' → s.2 o' t' = s2.2 o' t') : acM A s o t = acM A s2 o t := by
  unfold acM
  by_cases a : A.1 o = 4
  · rw [if_pos a, if_pos a, hr a]
  · rw [if_neg a, if_neg a]
    have q := hs a
    rw [lkM.dnq q.1 (h2 a).1 ho h]
    by_cases b : A.1 o = 5
    · rw [if_pos b, if_pos b]
    · rw [if_neg b, if_neg b, lkM.dnq (q.2 b) ((h2 a).2 b) ho h]
end
section
/-! laid by wip/hand/tg.py: a loop turn by turn -/
theorem dn_next {N t o o' t' : Nat} (h : dn N t (o + 1) o' t') : dn N t o o' t' ∨ (o' = o ∧ t' = t) := by unfold dn at *; omega
theorem acsC_fr {m m' : MM} (e : ∀ A i, 0 < A → A < 9 → m' A i = m A i) : acsC m' = acsC m := by
  have h := bd_fr (q := 0) (fun A i a b _ => e A i a b)
  unfold acsC
  rw [h.2.1, h.2.2.1, show m' 2 = m 2 from funext fun i => e 2 i (by omega) (by omega), show m' 4 = m 4 from funext fun i => e 4 i (by omega) (by omega), show m' 3 = m 3 from funext fun i => e 3 i (by omega) (by omega)]
theorem PlC.ac {m m0 : MM} {N t o : Nat} {s : PSt} (h : PlC m s N t o) (hB : BodyOK m0) (hs : SndX m0) (e : ∀ A i, 0 < A → A < 9 → m A i = m0 A i) (hN : N = (m0 1 0).toNat) (ho : o < N) (ht : t < 40) : acC m o t = acM (acsC m0) s o t := by
  have h8 := hB.1
  have hop := hB.2.1 o (by omega)
  unfold acC
  rw [acsC_fr e]
  unfold BOp at hop
  have sk : ∀ k : Nat, (k : Int) < csN m0 o → SrcK (acsC m0) N o k := fun k hk => by
    have q := hs o k (by omega) hk
    have w := hB.src (o := o) (k := k) (by omega) hk
    unfold SrcC at q
    unfold srcOK at w
    unfold SrcK acsC
    simp only
    omega
  refine acM.eq ho (fun k4 => ⟨sk 0 ?_, fun k5 => sk 1 ?_⟩) (fun k4 => ⟨?_, fun k5 => ?_⟩) (fun k4 => ?_) (fun o' t' hd => h.2 o' t' hd)
  · have k4 : ¬ m0 2 o = 4 := k4
    unfold csN; rw [if_neg k4]; split <;> omega
  · have k4 : ¬ m0 2 o = 4 := k4
    have k5 : ¬ m0 2 o = 5 := k5
    unfold csN; rw [if_neg k4, if_neg k5]; omega
  · have k4 : ¬ m0 2 o = 4 := k4
    show -2 ≤ m0 3 (4 * o)
    unfold srcOK at hop
    omega
  · have k4 : ¬ m0 2 o = 4 := k4
    have k5 : ¬ m0 2 o = 5 := k5
    show -2 ≤ m0 3 (4 * o + 2)
    unfold srcOK at hop
    omega
  · have k4 : m0 2 o = 4 := k4
    have w := hop.2.2.1 k4
    have er : rowB m0 o = m0 3 (4 * o) := by unfold rowB; rw [if_neg (by omega)]
    have ep : plcB m0 o = m0 3 (4 * o + 1) := by unfold plcB; rw [if_neg (by omega)]
    exact h.1 (rowB m0 o).toNat ((t : Int) + plcB m0 o).toNat (by omega) (by omega)
theorem PlC.step {m m0 : MM} {N t o : Nat} {s : PSt} (h : PlC m s N t o) (hB : BodyOK m0) (hs : SndX m0) (e : ∀ A i, 0 < A → A < 9 → m A i = m0 A i) (hN : N = (m0 1 0).toNat) (ho : o < N) (ht : t < 40) {m2 : MM} (h2 : m2 = upm (if m 2 o = 5 then upm m (136 + (rowB m o).toNat) ((t : Int) + plcB m o).toNat (acC m o t) else m) 138 (40 * o + t) (acC m o t)) : PlC m2 (stM (acsC m0) s o t) N t (o + 1) := by
  have h8 := hB.1
  have hop := hB.2.1 o (by omega)
  have ea := h.ac hB hs e hN ho ht
  have ek := e 2 o (by omega) (by omega)
  have eb := bd_fr (q := 0) (fun A i a b _ => e A i a b)
  unfold BOp at hop
  rw [ea, ek, eb.2.1, eb.2.2.1] at h2
  generalize acM (acsC m0) s o t = v at h2 ea ⊢
  have hv : stM (acsC m0) s o t = (if m0 2 o = 5 then up2 s.1 (rowB m0 o).toNat ((t : Int) + plcB m0 o).toNat v else s.1, up2 s.2 o t v) := by
    have ea2 := h.ac hB hs e hN ho ht
    unfold stM
    rw [← ea2, ea]
    rfl
  rw [hv]
  refine ⟨fun r p hr hp => ?_, fun o' t' hd => ?_⟩
  · rw [h2, upm_ne (by omega)]
    by_cases k5 : m0 2 o = 5
    · rw [if_pos k5]
      show _ = (if m0 2 o = 5 then up2 s.1 (rowB m0 o).toNat ((t : Int) + plcB m0 o).toNat v else s.1) r p
      rw [if_pos k5]
      unfold up2
      by_cases w : r = (rowB m0 o).toNat ∧ p = ((t : Int) + plcB m0 o).toNat
      · rw [if_pos w, w.1, w.2]; exact upm_eq
      · rw [if_neg w, upm_ne (by omega)]; exact h.1 r p hr hp
    · rw [if_neg k5]
      show _ = (if m0 2 o = 5 then up2 s.1 (rowB m0 o).toNat ((t : Int) + plcB m0 o).toNat v else s.1) r p
      rw [if_neg k5]; exact h.1 r p hr hp
  · rw [h2]
    show _ = up2 s.2 o t v o' t'
    unfold up2
    have hd' := hd
    unfold dn at hd'
    by_cases w : o' = o ∧ t' = t
    · rw [if_pos w, w.1, w.2]; exact upm_eq
    · rw [if_neg w, upm_ne (by omega)]
      have hd2 := (dn_next hd).resolve_right w
      by_cases k5 : m0 2 o = 5
      · rw [if_pos k5]
        have q := hop.2.2.2 k5
        have er : rowB m0 o = m0 3 (4 * o + 2) := by unfold rowB; rw [if_pos k5]
        rw [upm_ne (by omega)]; exact h.2 o' t' hd2
      · rw [if_neg k5]; exact h.2 o' t' hd2
theorem RefOK.rw {m : MM} (h : RefOK m) {o : Nat} (ho : o < 8) (hk : m 144 o = 4 ∨ m 144 o = 5) : (0 ≤ rowF m o ∧ rowF m o ≤ 1) ∧ 0 ≤ plcF m o ∧ plcF m o ≤ 7 := by
  have q := h.ops.2.1 o ho
  unfold OpOK at q
  unfold rowF plcF
  rcases hk with k | k
  · have := q.2.2.2.1 k
    rw [if_pos k, if_pos k]; omega
  · have := q.2.2.2.2 k
    rw [if_neg (by omega), if_neg (by omega)]; omega
theorem acsR_fr {m m' : MM} (e : ∀ A i, 143 < A → A < 154 → m' A i = m A i) : acsR m' = acsR m := by
  unfold acsR rowF plcF srcA srcB
  rw [show m' 144 = m 144 from funext fun i => e 144 i (by omega) (by omega), show m' 145 = m 145 from funext fun i => e 145 i (by omega) (by omega), show m' 146 = m 146 from funext fun i => e 146 i (by omega) (by omega), show m' 147 = m 147 from funext fun i => e 147 i (by omega) (by omega), show m' 148 = m 148 from funext fun i => e 148 i (by omega) (by omega), show m' 149 = m 149 from funext fun i => e 149 i (by omega) (by omega)]
theorem PlR.ac {m m0 : MM} {N t o : Nat} {s : PSt} (h : PlR m s N t o) (hr : RefOK m0) (hs : SoundM m0) (e : ∀ A i, 143 < A → A < 154 → m A i = m0 A i) (hN : N = (m0 143 1).toNat) (ho : o < N) (ht : t < 40) : acR m o t = acM (acsR m0) s o t := by
  have h8 := hr.ops.1
  have hop := hr.ops.2.1 o (by omega)
  have hab := hr.ab o (by omega)
  unfold acR
  rw [acsR_fr e]
  unfold OpOK at hop
  have sk : ∀ k : Nat, (k : Int) < srcN m0 o → SrcK (acsR m0) N o k := fun k hk => by
    have q := hs o (by omega) k (by omega) hk
    have w := hr.ops.src (o := o) (by omega) (k := (k : Int)) (by omega) hk
    unfold SrcS at q
    unfold srcOK at w
    unfold SrcK acsR
    simp only
    omega
  refine acM.eq ho (fun k4 => ⟨sk 0 ?_, fun k5 => sk 1 ?_⟩) (fun _ => ⟨hab.1.1, fun _ => hab.2.1⟩) (fun k4 => ?_) (fun o' t' hd => h.2 o' t' hd)
  · have k4 : ¬ m0 144 o = 4 := k4
    unfold srcN; rw [if_neg k4]; split <;> omega
  · have k4 : ¬ m0 144 o = 4 := k4
    have k5 : ¬ m0 144 o = 5 := k5
    unfold srcN; rw [if_neg k4, if_neg k5]; omega
  · have k4 : m0 144 o = 4 := k4
    have w := hr.rw (o := o) (by omega) (Or.inl k4)
    exact h.1 (rowF m0 o).toNat ((t : Int) + plcF m0 o).toNat (by omega) (by omega)
theorem PlR.step {m m0 : MM} {N t o : Nat} {s : PSt} (h : PlR m s N t o) (hr : RefOK m0) (hs : SoundM m0) (e : ∀ A i, 143 < A → A < 154 → m A i = m0 A i) (hN : N = (m0 143 1).toNat) (ho : o < N) (ht : t < 40) {m2 : MM} (h2 : m2 = if m 144 o = 5 then upm (upm m 167 (41 * o + t) (acR m o t)) 165 (64 * (rowF m o).toNat + ((t : Int) + plcF m o).toNat) (acR m o t) else upm m 167 (41 * o + t) (acR m o t)) : PlR m2 (stM (acsR m0) s o t) N t (o + 1) := by
  have h8 := hr.ops.1
  have ea := h.ac hr hs e hN ho ht
  have ek := e 144 o (by omega) (by omega)
  have eb : rowF m o = rowF m0 o ∧ plcF m o = plcF m0 o := by
    have q := acsR_fr e
    exact ⟨congrFun (congrArg (fun A : Acc => A.2.1) q) o, congrFun (congrArg (fun A : Acc => A.2.2.1) q) o⟩
  rw [ea, ek, eb.1, eb.2] at h2
  generalize hvv : acM (acsR m0) s o t = v at h2 ea
  have hv : stM (acsR m0) s o t = (if m0 144 o = 5 then up2 s.1 (rowF m0 o).toNat ((t : Int) + plcF m0 o).toNat v else s.1, up2 s.2 o t v) := by
    unfold stM
    rw [hvv]
    rfl
  rw [hv]
  have hw : m0 144 o = 5 → (0 ≤ rowF m0 o ∧ rowF m0 o ≤ 1) ∧ 0 ≤ plcF m0 o ∧ plcF m0 o ≤ 7 := fun k5 => hr.rw (o := o) (by omega) (Or.inr k5)
  refine ⟨fun r p hr2 hp => ?_, fun o' t' hd => ?_⟩
  · by_cases k5 : m0 144 o = 5
    · have q := hw k5
      rw [h2, if_pos k5]
      show _ = (if m0 144 o = 5 then up2 s.1 (rowF m0 o).toNat ((t : Int) + plcF m0 o).toNat v else s.1) r p
      rw [if_pos k5]
      unfold up2
      by_cases w : r = (rowF m0 o).toNat ∧ p = ((t : Int) + plcF m0 o).toNat
      · rw [if_pos w, w.1, w.2]; exact upm_eq
      · rw [if_neg w, upm_ne (by omega), upm_ne (by omega)]; exact h.1 r p hr2 hp
    · rw [h2, if_neg k5, upm_ne (by omega)]
      show _ = (if m0 144 o = 5 then up2 s.1 (rowF m0 o).toNat ((t : Int) + plcF m0 o).toNat v else s.1) r p
      rw [if_neg k5]; exact h.1 r p hr2 hp
  · show _ = up2 s.2 o t v o' t'
    unfold up2
    have hd' := hd
    unfold dn at hd'
    have eA : m2 167 (41 * o' + t') = upm m 167 (41 * o + t) v 167 (41 * o' + t') := by
      by_cases k5 : m0 144 o = 5
      · rw [h2, if_pos k5, upm_ne (by omega)]
      · rw [h2, if_neg k5]
    rw [eA]
    by_cases w : o' = o ∧ t' = t
    · rw [if_pos w, w.1, w.2]; exact upm_eq
    · rw [if_neg w, upm_ne (by omega)]; exact h.2 o' t' ((dn_next hd).resolve_right w)
end
section
/-! laid by wip/hand/tg.py: cycles, flat, peel, holes, who of the class, exactly -/
def cyN (d e t : Int) : Int := if 0 < t then d * (t - 1) + e else 0
def whB (un bu s : Nat → Int) (d u k x : Int) (n : Int) : Prop := InI x ∧ ∀ j : Nat, Bt x j ↔ (j : Int) < n ∧ un j = u ∧ 0 < us1 d (s j) (bu j) k
theorem whB.no {un bu s : Nat → Int} {d u k x n y : Int} (h : whB un bu s d u k x n) (e : y = n + 1) (h0 : 0 ≤ n) (q : ¬ (un n.toNat = u ∧ 0 < us1 d (s n.toNat) (bu n.toNat) k)) : whB un bu s d u k x y := ⟨h.1, fun j => by
  rw [h.2 j]
  constructor
  · exact fun w => ⟨by omega, w.2⟩
  · intro w
    refine ⟨?_, w.2⟩
    by_cases c : j = n.toNat
    · rw [c] at w; exact absurd w.2 q
    · omega⟩
end
section
/-! the reference's cycles, exactly -/
section RCY
variable {S : Nat × (Nat → Int32)} {n : Nat} {mem : MM} {K : Int → MM → Prop} {d : Int}
theorem usB_iff {s bu k : Int} : (∃ i : Nat, i < 4 ∧ bu / pw4 i % 2 = 1 ∧ (s + i) % d = k) ↔ 0 < us1 d s bu k := by
  have a0 : bu / pw4 0 = bu := Int.ediv_one bu
  have z0 : s + ((0 : Nat) : Int) = s := by omega
  constructor
  · rintro ⟨i, hi, h1, h2⟩
    have c : i = 0 ∨ i = 1 ∨ i = 2 ∨ i = 3 := by omega
    unfold us1
    rcases c with rfl | rfl | rfl | rfl
    · rw [a0] at h1
      rw [z0] at h2
      rw [if_pos (show bu % 2 = 1 ∧ s % d = k from ⟨h1, h2⟩)]
      split <;> split <;> split <;> omega
    · rw [if_pos (show bu / 2 % 2 = 1 ∧ (s + 1) % d = k from ⟨h1, h2⟩)]
      split <;> split <;> split <;> omega
    · rw [if_pos (show bu / 4 % 2 = 1 ∧ (s + 2) % d = k from ⟨h1, h2⟩)]
      split <;> split <;> split <;> omega
    · rw [if_pos (show bu / 8 % 2 = 1 ∧ (s + 3) % d = k from ⟨h1, h2⟩)]
      split <;> split <;> split <;> omega
  · intro h
    unfold us1 at h
    by_cases c0 : bu % 2 = 1 ∧ s % d = k
    · exact ⟨0, by omega, by rw [a0]; exact c0.1, by rw [z0]; exact c0.2⟩
    · by_cases c1 : bu / 2 % 2 = 1 ∧ (s + 1) % d = k
      · exact ⟨1, by omega, c1.1, c1.2⟩
      · by_cases c2 : bu / 4 % 2 = 1 ∧ (s + 2) % d = k
        · exact ⟨2, by omega, c2.1, c2.2⟩
        · by_cases c3 : bu / 8 % 2 = 1 ∧ (s + 3) % d = k
          · exact ⟨3, by omega, c3.1, c3.2⟩
          · rw [if_neg c0, if_neg c1, if_neg c2, if_neg c3] at h
            omega
def whI (un bu sl : Nat → Int) (d u k s : Int) (o r : Nat) : Prop := InI s ∧ ∀ j : Nat, Bt s j ↔ ((j < o ∧ un j = u ∧ 0 < us1 d (sl j) (bu j) k) ∨ (j = o ∧ un o = u ∧ ∃ i : Nat, i < r ∧ bu o / pw4 i % 2 = 1 ∧ (sl o + i) % d = k))
section WHI
variable {un bu sl : Nat → Int} {u k s b1 b2 : Int} {o r : Nat}
theorem whI.no (h : whI un bu sl d u k s o r) (q : ¬ (un o = u ∧ bu o / pw4 r % 2 = 1 ∧ (sl o + r) % d = k)) : whI un bu sl d u k s o (r + 1) := ⟨h.1, fun j => (h.2 j).trans ⟨fun w => w.imp id (fun ⟨e, w, i, hi, x⟩ => ⟨e, w, i, by omega, x⟩), fun w => w.imp id (fun ⟨e, w, i, hi, x⟩ => ⟨e, w, i, by
  by_cases c : i = r
  · rw [c] at x
    exact absurd ⟨w, x⟩ q
  · omega, x⟩)⟩⟩
theorem whI.out (h : whI un bu sl d u k s o 4) : whB un bu sl d u k s ((o + 1 : Nat) : Int) := ⟨h.1, fun j => by
  rw [h.2 j]
  constructor
  · rintro (w | ⟨e, w, x⟩)
    · exact ⟨by omega, w.2⟩
    · subst e
      exact ⟨by omega, w, usB_iff.mp x⟩
  · rintro ⟨a, b, c⟩
    by_cases e : j = o
    · subst e
      exact Or.inr ⟨rfl, b, usB_iff.mpr c⟩
    · exact Or.inl ⟨by omega, b, c⟩⟩
theorem whB.eq {un' bu' sl' : Nat → Int} {x y z : Int} (h : whB un bu sl d u k x z) (g : whB un' bu' sl' d u k y z) (e : ∀ j : Nat, (j : Int) < z → un j = un' j ∧ bu j = bu' j ∧ sl j = sl' j) : x = y := Bt_ext h.1 g.1 (fun j _ => by
  rw [h.2 j, g.2 j]
  constructor
  · rintro ⟨a, b, c⟩
    obtain ⟨e1, e2, e3⟩ := e j a
    rw [e1] at b
    rw [e2, e3] at c
    exact ⟨a, b, c⟩
  · rintro ⟨a, b, c⟩
    obtain ⟨e1, e2, e3⟩ := e j a
    rw [← e1] at b
    rw [← e2, ← e3] at c
    exact ⟨a, b, c⟩)
end WHI
end RCY
end
section
/-! laid by wip/hand/tg.py: gate, pays, squeeze of the class, exactly -/
def PyX (d e l r : Int) : Prop := (1 ≤ r ∧ r ≤ 40 ∧ cyN d e r < r * l ∧ ∀ k : Int, 1 ≤ k → k < r → ¬ cyN d e k < k * l) ∨ (r = -1 ∧ ∀ k : Int, 1 ≤ k → k ≤ 40 → ¬ cyN d e k < k * l)
theorem PyX.eq {d e l r r' : Int} (h : PyX d e l r) (g : PyX d e l r') : r = r' := by
  rcases h with ⟨h1, h2, h3, h4⟩ | ⟨h1, h2⟩
  · rcases g with ⟨g1, g2, g3, g4⟩ | ⟨g1, g2⟩
    · by_cases q : r < r'
      · exact absurd h3 (g4 r h1 q)
      · by_cases q2 : r' < r
        · exact absurd g3 (h4 r' g1 q2)
        · omega
    · exact absurd h3 (g2 r h1 h2)
  · rcases g with ⟨g1, g2, g3, g4⟩ | ⟨g1, g2⟩
    · exact absurd g3 (h2 r' g1 g2)
    · omega
def NmF (m : MM) (d : Int) (T : Nat → Int) : Int := smF (fun o => cpF (m 2 o) (lvN (csN m) (sAC m) (sBC m) T d (T o + cLa m o) o (m 1 0).toNat) d) (m 1 0).toNat
theorem FiC.nm {m : MM} {d : Int} {Q : Nat} (h : FiC m d Q) : m Q 6 = NmF m d (m (Q + 2)) := by
  obtain ⟨-, -, -, -, -, -, x3, -, -, xl, ⟨n5, n6, n7⟩, -⟩ := h
  rw [n6]
  unfold NmF
  refine smF_cg _ (fun o ho => ?_)
  rw [n5 o (by omega), xl o (by omega), x3 o (by omega)]
theorem NmF.cg {m m' : MM} {d : Int} {T : Nat → Int} (e : ∀ A i, (0 < A ∧ A < 9 ∧ ¬ A = 4) → m' A i = m A i) : NmF m' d T = NmF m d T := by
  have c1 : csN m' = csN m := funext fun o => by unfold csN; rw [e 2 o (by omega)]
  have c2 : sAC m' = sAC m := funext fun u => funext fun k => e 3 _ (by omega)
  have c3 : sBC m' = sBC m := funext fun u => funext fun k => e 3 _ (by omega)
  have c4 : cLa m' = cLa m := cLa.cg e
  have k2 : m' 2 = m 2 := funext fun i => e 2 i (by omega)
  unfold NmF
  rw [c1, c2, c3, c4, k2, e 1 0 (by omega)]
def SqN (m : MM) (k z : Int) : Prop := NoD m k ∨ ∃ s T, FiT m k s T ∧ z < NmF m k T
def SqX (m : MM) (z r : Int) : Prop := (1 ≤ r ∧ r ≤ 12 ∧ (∃ s T, FiT m r s T ∧ NmF m r T ≤ z) ∧ ∀ k : Int, 1 ≤ k → k < r → SqN m k z) ∨ (r = -1 ∧ ∀ k : Int, 1 ≤ k → k ≤ 12 → SqN m k z)
theorem FiT.fr {m m' : MM} {d : Int} {s T : Nat → Int} {Q : Nat} (h : FiT m d s T) (hF : Frm (p85 Q) m m') (hq : 38 ≤ Q) : FiT m' d s T := by
  obtain ⟨h1, h2, h3⟩ := h
  refine ⟨h1.fr (fun A i a b => hF A i (by unfold p85; omega)), h2.fr (fun A i q => hF A i (by unfold p85; omega)), ?_⟩
  rw [CPb.cg (fun A i q => hF A i (by unfold p85; omega)), hF 9 5 (by unfold p85; omega), hF 9 6 (by unfold p85; omega)]
  exact h3
theorem SqN.fr {m m' : MM} {k z : Int} {Q : Nat} (h : SqN m k z) (hF : Frm (p85 Q) m m') (hq : 38 ≤ Q) : SqN m' k z := h.imp (fun w => w.fr hF hq) (fun ⟨s, T, w, x⟩ => ⟨s, T, w.fr hF hq, by rw [NmF.cg (fun A i q => hF A i (by unfold p85; omega))]; exact x⟩)
theorem SqN.of {m : MM} {d z : Int} {Q : Nat} (h : FiC m d Q) (e : z < m Q 6) : SqN m d z := Or.inr ⟨_, _, h.t, by rw [← h.nm]; exact e⟩
end
section
/-! waits for loads that come late: a model -/
def LtP : Type := (Nat → Int) × (Nat → Int) × (Nat → Int → Int) × (Nat → Int) × (Nat → Nat → Int) × (Nat → Nat → Int) × Int × Int × Nat
def LtP.T (p : LtP) : Nat → Int := p.1
def LtP.sl (p : LtP) : Nat → Int := p.2.1
def LtP.dl (p : LtP) : Nat → Int → Int := p.2.2.1
def LtP.cs (p : LtP) : Nat → Int := p.2.2.2.1
def LtP.sa (p : LtP) : Nat → Nat → Int := p.2.2.2.2.1
def LtP.sb (p : LtP) : Nat → Nat → Int := p.2.2.2.2.2.1
def LtP.d (p : LtP) : Int := p.2.2.2.2.2.2.1
def LtP.n (p : LtP) : Int := p.2.2.2.2.2.2.2.1
def LtP.N (p : LtP) : Nat := p.2.2.2.2.2.2.2.2
def LtP.Ok (p : LtP) : Prop := (1 ≤ p.d ∧ p.d ≤ 12) ∧ (∀ o, o < p.N → 0 ≤ p.T o ∧ p.T o % p.d = p.sl o) ∧ ∀ o k : Nat, o < p.N → (k : Int) < p.cs o → 0 ≤ p.sa o k → (p.sa o k).toNat < p.N ∧ 0 ≤ p.sb o k ∧ p.T (p.sa o k).toNat + 1 ≤ p.T o + p.d * p.sb o k ∧ ∀ t, 1 ≤ p.dl (p.sa o k).toNat t ∧ p.T (p.sa o k).toNat + p.dl (p.sa o k).toNat t ≤ p.T o + p.d * p.sb o k + 9
def dlC (m : MM) (M E : Int) (a : Nat) (t : Int) : Int := cLa m a + if m 2 a = 4 ∧ (t + plcB m a) % M = 0 then E else 0
def lyC (m : MM) (d : Int) (Q : Nat) (M E n : Int) : LtP := (m (Q + 2), m (Q + 1), dlC m M E, csN m, sAC m, sBC m, d, n, (m 1 0).toNat)
theorem FiC.lt {m : MM} {d : Int} {Q : Nat} {M E n : Int} (h : FiC m d Q) (hO : ChtOK m Q) (hB : BodyOK m) (hd : 1 ≤ d ∧ d ≤ 12) (hE : 1 ≤ E ∧ E ≤ 9) : (lyC m d Q M E n).Ok := by
  have h8 := hB.1
  obtain ⟨hS, hW, -, -, hL, hTL, -⟩ := h
  refine ⟨hd, fun o ho => ⟨(hO.2 o (by have q : o < (m 1 0).toNat := ho; omega)).2.1.1, ?_⟩, fun o k ho hk hs => ?_⟩
  · obtain ⟨s1, s2⟩ := hL.1.1 o ho
    obtain ⟨v2, v0, v1⟩ := hTL.1.1 o ho
    have v1' : m (Q + 2) o = m (Q + 1) o + d * v2 := v1
    have s2' : m (Q + 1) o < d := s2
    show m (Q + 2) o % d = m (Q + 1) o
    rw [v1', Int.add_mul_emod_self_left, Int.emod_eq_of_lt s1 s2']
  · have ho2 : o < (m 1 0).toNat := ho
    have ho3 : (o : Int) < m 1 0 := by omega
    have hk2 : (k : Int) < csN m o := hk
    have hs2 : 0 ≤ m 3 (4 * o + 2 * k) := hs
    have sx := hS o k ho3 hk2
    unfold SrcC at sx
    have so := hB.src (o := o) (k := k) (by omega) hk2
    unfold srcOK at so
    have a8 : (m 3 (4 * o + 2 * k)).toNat < (m 1 0).toNat := by omega
    obtain ⟨j, j1, j2⟩ := hW.2.1.2.2 (m 3 (4 * o + 2 * k), (o : Int), m 3 (4 * o + 2 * k + 1), laB m (-1) (m 3 (4 * o + 2 * k)).toNat) (Or.inl ⟨o, k, ho3, hk2, hs2, rfl⟩)
    have kd := hB.kd (o := (m 3 (4 * o + 2 * k)).toNat) (by omega)
    have la := hB.la (o := (m 2 (m 3 (4 * o + 2 * k)).toNat).toNat) (by omega)
    have eL : laB m (-1) (m 3 (4 * o + 2 * k)).toNat = m 6 (m 2 (m 3 (4 * o + 2 * k)).toNat).toNat := by
      unfold laB cLa2
      exact if_neg (by omega)
    have e1 : (cwq m 9 j).1 = (((m 3 (4 * o + 2 * k)).toNat : Nat) : Int) := (congrArg (fun x : Q4 => x.1) j2).trans (show m 3 (4 * o + 2 * k) = _ by omega)
    have e2 : (cwq m 9 j).2.1 = (o : Int) := congrArg (fun x : Q4 => x.2.1) j2
    have e3 : (cwq m 9 j).2.2.1 = m 3 (4 * o + 2 * k + 1) := congrArg (fun x : Q4 => x.2.2.1) j2
    have e4 : (cwq m 9 j).2.2.2 = m 6 (m 2 (m 3 (4 * o + 2 * k)).toNat).toNat := (congrArg (fun x : Q4 => x.2.2.2) j2).trans eL
    have ed : EdQ (cwq m 9) (m 9 0).toNat d (m 3 (4 * o + 2 * k)).toNat o (m 6 (m 2 (m 3 (4 * o + 2 * k)).toNat).toNat - d * m 3 (4 * o + 2 * k + 1)) := ⟨j, j1, e1, e2, by rw [e3, e4]⟩
    have g : m (Q + 2) (m 3 (4 * o + 2 * k)).toNat + (m 6 (m 2 (m 3 (4 * o + 2 * k)).toNat).toNat - d * m 3 (4 * o + 2 * k + 1)) ≤ m (Q + 2) o := hTL.1.2 _ _ _ ed
    refine ⟨a8, show 0 ≤ m 3 (4 * o + 2 * k + 1) by omega, show m (Q + 2) (m 3 (4 * o + 2 * k)).toNat + 1 ≤ m (Q + 2) o + d * m 3 (4 * o + 2 * k + 1) by omega, fun t => ?_⟩
    have dr : m 6 (m 2 (m 3 (4 * o + 2 * k)).toNat).toNat ≤ dlC m M E (m 3 (4 * o + 2 * k)).toNat t ∧ dlC m M E (m 3 (4 * o + 2 * k)).toNat t ≤ m 6 (m 2 (m 3 (4 * o + 2 * k)).toNat).toNat + 9 := by
      unfold dlC cLa
      split <;> omega
    show 1 ≤ dlC m M E (m 3 (4 * o + 2 * k)).toNat t ∧ m (Q + 2) (m 3 (4 * o + 2 * k)).toNat + dlC m M E (m 3 (4 * o + 2 * k)).toNat t ≤ m (Q + 2) o + d * m 3 (4 * o + 2 * k + 1) + 9
    omega
theorem lyC.fr {m m' : MM} {d M E n : Int} {Q : Nat} (fr : ∀ A i, ¬ A = 141 → ¬ A = 142 → m' A i = m A i) (hq : Q ≤ 122) : lyC m' d Q M E n = lyC m d Q M E n := by
  have r1 : m' (Q + 1) = m (Q + 1) := funext fun i => fr _ i (by omega) (by omega)
  have r2 : m' (Q + 2) = m (Q + 2) := funext fun i => fr _ i (by omega) (by omega)
  have c1 : csN m' = csN m := funext fun o => by unfold csN; rw [fr 2 o (by omega) (by omega)]
  have c2 : sAC m' = sAC m := funext fun u => funext fun k => fr 3 _ (by omega) (by omega)
  have c3 : sBC m' = sBC m := funext fun u => funext fun k => fr 3 _ (by omega) (by omega)
  have c4 : dlC m' M E = dlC m M E := funext fun a => funext fun t => by
    unfold dlC cLa plcB
    rw [fr 2 a (by omega) (by omega), fr 6 _ (by omega) (by omega), fr 3 _ (by omega) (by omega), fr 3 _ (by omega) (by omega)]
  unfold lyC
  rw [r1, r2, c1, c2, c3, c4, fr 1 0 (by omega) (by omega)]
end
section
/-! late of the reference, exactly -/
def LtE (p q : LtP) : Prop := p.N = q.N ∧ p.d = q.d ∧ p.n = q.n ∧ ∀ o, o < p.N → p.T o = q.T o ∧ p.sl o = q.sl o ∧ p.cs o = q.cs o ∧ p.cs o ≤ 2 ∧ (∀ t, p.dl o t = q.dl o t) ∧ ∀ k : Nat, k < 2 → p.sa o k = q.sa o k ∧ p.sb o k = q.sb o k
theorem LtE.ok {p q : LtP} (h : LtE p q) (hp : p.Ok) : q.Ok := by
  obtain ⟨hd, hT, hS⟩ := hp
  refine ⟨by rw [← h.2.1]; exact hd, fun o ho => ?_, fun o k ho hk hs => ?_⟩
  · have ho' : o < p.N := by rw [h.1]; exact ho
    have e := h.2.2.2 o ho'
    rw [← e.1, ← e.2.1, ← h.2.1]
    exact hT o ho'
  · have ho' : o < p.N := by rw [h.1]; exact ho
    have e := h.2.2.2 o ho'
    rw [← e.2.2.1] at hk
    have k2 : k < 2 := by have := e.2.2.2.1; omega
    have ek := e.2.2.2.2.2 k k2
    rw [← ek.1] at hs
    obtain ⟨a1, a2, a3, a4⟩ := hS o k ho' hk hs
    have ea := h.2.2.2 _ a1
    rw [← ek.1, ← ek.2, ← h.1, ← h.2.1, ← e.1, ← ea.1]
    exact ⟨a1, a2, a3, fun t => by rw [← ea.2.2.2.2.1]; exact a4 t⟩
end
section
/-! a file that turns: a model -/
def MtW (c l : Nat → Int) (d : Int) (a b : Nat) (t : Int) : Prop := c b + d * t ≤ c a + l a - 1 ∧ c a ≤ c b + d * t + l b - 1
def SbW (c l p : Nat → Int) (d r : Int) (a b : Nat) (x : Int) : Prop := ∃ t, MtW c l d a b t ∧ (x - p a - t) % r = 0
def ShW (c l p : Nat → Int) (d r : Int) (b : Nat) (x : Int) : Prop := ∃ a : Nat, a < b ∧ 0 < l a ∧ SbW c l p d r a b x
def PcW (c l p : Nat → Int) (d r : Int) (b : Nat) (y : Int) : Prop := (0 ≤ y ∧ y < r ∧ l b ≤ d * r ∧ ¬ ShW c l p d r b y ∧ ∀ x, 0 ≤ x → x < y → ShW c l p d r b x) ∨ (y = -1 ∧ (d * r < l b ∨ ∀ x, 0 ≤ x → x < r → ShW c l p d r b x))
def GoW (l p : Nat → Int) (n : Nat) : Prop := ∀ a : Nat, a < n → 0 < l a → ¬ p a = -1
def PlW (c l p : Nat → Int) (d r : Int) (n : Nat) : Prop := ∀ o : Nat, o < n → (GoW l p o ∧ 0 < l o → PcW c l p d r o (p o)) ∧ (¬ (GoW l p o ∧ 0 < l o) → p o = -1)
section WHM
variable {c l p p' c' l' : Nat → Int} {d r x y z v f t u : Int} {a b n o : Nat}
theorem SbW.cg (h : SbW c l p d r a b x) (e : p a = p' a) : SbW c l p' d r a b x := by
  obtain ⟨t, h1, h2⟩ := h
  exact ⟨t, h1, by rw [← e]; exact h2⟩
theorem ShW.cg (h : ShW c l p d r b x) (e : ∀ a : Nat, a < b → p a = p' a) : ShW c l p' d r b x := by
  obtain ⟨a, h1, h2, h3⟩ := h
  exact ⟨a, h1, h2, h3.cg (e a h1)⟩
theorem PcW.cg (h : PcW c l p d r b y) (e : ∀ a : Nat, a < b → p a = p' a) : PcW c l p' d r b y := by
  rcases h with ⟨h1, h2, h3, h4, h5⟩ | ⟨h1, h2⟩
  · exact Or.inl ⟨h1, h2, h3, fun z => h4 (z.cg (fun a q => (e a q).symm)), fun x q1 q2 => (h5 x q1 q2).cg e⟩
  · exact Or.inr ⟨h1, h2.imp id (fun w x q1 q2 => (w x q1 q2).cg e)⟩
theorem GoW.cg (h : GoW l p n) (e : ∀ a : Nat, a < n → p a = p' a) : GoW l p' n := fun a ha q => by
  rw [← e a ha]
  exact h a ha q
theorem PlW.nxt (h : PlW c l p d r n) (e : ∀ a : Nat, a < n → p a = p' a) (h1 : GoW l p n ∧ 0 < l n → PcW c l p d r n (p' n)) (h2 : ¬ (GoW l p n ∧ 0 < l n) → p' n = -1) : PlW c l p' d r (n + 1) := fun o ho => by
  by_cases q : o = n
  · subst q
    exact ⟨fun w => (h1 ⟨w.1.cg (fun a z => (e a z).symm), w.2⟩).cg e, fun w => h2 (fun z => w ⟨z.1.cg e, z.2⟩)⟩
  · have lt : o < n := by omega
    obtain ⟨g1, g2⟩ := h o lt
    refine ⟨fun w => ?_, fun w => ?_⟩
    · rw [← e o lt]
      exact (g1 ⟨w.1.cg (fun a z => (e a (by omega)).symm), w.2⟩).cg (fun a z => e a (by omega))
    · rw [← e o lt]
      exact g2 (fun z => w ⟨z.1.cg (fun a k => e a (by omega)), z.2⟩)
theorem GoW.nxt (h : GoW l p n) (e : ∀ a : Nat, a < n → p a = p' a) (q : 0 < l n → ¬ p' n = -1) : GoW l p' (n + 1) := fun a ha w => by
  by_cases z : a = n
  · subst z
    exact q w
  · rw [← e a (by omega)]
    exact h a (by omega) w
theorem GoW.lt (h : GoW l p n) (e : o ≤ n) : GoW l p o := fun a ha q => h a (by omega) q
theorem modq (hr : 0 < r) (h0 : 0 ≤ x) : x = y % r ↔ x < r ∧ (x - y) % r = 0 := by
  have e := Int.mul_ediv_add_emod y r
  have a := Int.emod_nonneg y (show r ≠ 0 by omega)
  have b := Int.emod_lt_of_pos y hr
  constructor
  · intro h
    refine ⟨by omega, ?_⟩
    rw [show x - y = r * (-(y / r)) by rw [Int.mul_neg]; omega]
    exact Int.mul_emod_right _ _
  · rintro ⟨h1, h2⟩
    have g := Int.mul_ediv_add_emod (x - y) r
    rw [h2] at g
    have s : x % r = y % r := by rw [show x = y + r * ((x - y) / r) by omega, Int.add_mul_emod_self_left]
    rw [← s]
    exact (Int.emod_eq_of_lt h0 h1).symm
def ShL (w : Int64) (x r f t : Int) : Prop := ∀ i : Nat, Bl w i ↔ (i : Int) < r ∧ ∃ u : Int, f ≤ u ∧ u < t ∧ ((i : Int) - x - u) % r = 0
theorem ShL.nxt {w w' k e : Int64} {t' y0 : Int} (h : ShL w x r f t) (hr : 1 ≤ r ∧ r ≤ 40) (hf : f ≤ t) (et : t' = t + 1) (e11 : w' = w ||| k) (e10 : k = e <<< ((Int32.ofInt (y0 % r)).toInt64 &&& 63)) (e4 : e = Int64.ofNat (1 : _root_.Fin 2).val) (ey : y0 = x + t) : ShL w' x r f t' := fun i => by
  have a := Int.emod_nonneg y0 (show r ≠ 0 by omega)
  have b := Int.emod_lt_of_pos y0 (show 0 < r by omega)
  have e1 : e = 1 := e4
  rw [e11, Bl_or, e10, e1, Bl_bit ⟨a, by omega⟩, modq (by omega) (by omega), h i, ey]
  constructor
  · rintro (⟨g1, u, g2, g3, g4⟩ | ⟨g1, g2⟩)
    · exact ⟨g1, u, g2, by omega, g4⟩
    · exact ⟨g1, t, hf, by omega, by rw [show (i : Int) - x - t = (i : Int) - (x + t) by omega]; exact g2⟩
  · rintro ⟨g1, u, g2, g3, g4⟩
    by_cases q : u = t
    · subst q
      exact Or.inr ⟨g1, by rw [show (i : Int) - (x + u) = (i : Int) - x - u by omega]; exact g4⟩
    · exact Or.inl ⟨g1, u, g2, by omega, g4⟩
theorem ShL.fin {w : Int64} {m : Int} (h : ShL w (p a) r f t) (hr : 0 < r) (q0 : t = f ∨ t ≤ m + 1) (q1 : m < t ∨ f + r ≤ t) (hm : ∀ t : Int, MtW c l d a b t ↔ f ≤ t ∧ t ≤ m) : ∀ i : Nat, Bl w i ↔ (i : Int) < r ∧ SbW c l p d r a b i := fun i => by
  rw [h i]
  constructor
  · rintro ⟨g1, u, g2, g3, g4⟩
    exact ⟨g1, u, (hm u).mpr ⟨g2, by omega⟩, g4⟩
  · rintro ⟨g1, u, g2, g3⟩
    obtain ⟨k1, k2⟩ := (hm u).mp g2
    refine ⟨g1, ?_⟩
    by_cases q : m < t
    · exact ⟨u, k1, by omega, g3⟩
    · have n1 := Int.emod_nonneg (u - f) (show r ≠ 0 by omega)
      have n2 := Int.emod_lt_of_pos (u - f) hr
      have e := Int.mul_ediv_add_emod (u - f) r
      refine ⟨f + (u - f) % r, by omega, by omega, ?_⟩
      rw [show (i : Int) - p a - (f + (u - f) % r) = ((i : Int) - p a - u) + r * ((u - f) / r) by omega, Int.add_mul_emod_self_left]
      exact g3
def ShO (c l p : Nat → Int) (d r : Int) (b : Nat) (w : Int64) (x : Int) : Prop := ∀ i : Nat, Bl w i ↔ (i : Int) < r ∧ ∃ a : Nat, (a : Int) < x ∧ 0 < l a ∧ SbW c l p d r a b i
theorem ShO.no {w : Int64} (h : ShO c l p d r b w x) (e : y = x + 1) (h0 : 0 ≤ x) (q : l x.toNat ≤ 0) : ShO c l p d r b w y := fun i => by
  rw [h i]
  constructor
  · rintro ⟨g1, a, g2, g3⟩
    exact ⟨g1, a, by omega, g3⟩
  · rintro ⟨g1, a, g2, g3, g4⟩
    refine ⟨g1, a, ?_, g3, g4⟩
    by_cases k : a = x.toNat
    · rw [k] at g3
      omega
    · omega
def StW (c l : Nat → Int) (d r : Int) (m : MM) (g x : Int) : Prop := PlW c l (m 140) d r x.toNat ∧ (g = 1 ↔ GoW l (m 140) x.toNat) ∧ ∀ a : Nat, (a : Int) < x → -1 ≤ m 140 a ∧ m 140 a ≤ 40
theorem PcW.rg (h : PcW c l p d r b y) (hr : r ≤ 40) : -1 ≤ y ∧ y ≤ 40 := by
  rcases h with ⟨h1, h2, -⟩ | ⟨h1, -⟩
  · omega
  · omega
theorem StW.no {m m' : MM} {g : Int} (h : StW c l d r m g x) (e : y = x + 1) (h0 : 0 ≤ x) (q : g = 0 ∨ l x.toNat ≤ 0) (hg : g = 0 ∨ g = 1) (em : m' 140 x.toNat = -1) (en : ∀ B j, ¬ (B = 140 ∧ j = x.toNat) → m' B j = m B j) : StW c l d r m' g y := by
  obtain ⟨h1, h2, h3⟩ := h
  have ea : ∀ a : Nat, a < x.toNat → m 140 a = m' 140 a := fun a ha => (en 140 a (by omega)).symm
  have nq : ¬ (GoW l (m 140) x.toNat ∧ 0 < l x.toNat) := fun w => by
    have := h2.mpr w.1
    have := w.2
    omega
  unfold StW
  rw [show y.toNat = x.toNat + 1 by omega]
  refine ⟨h1.nxt ea (fun w => absurd w nq) (fun _ => em), ?_, fun a ha => ?_⟩
  · constructor
    · intro g1
      exact (h2.mp g1).nxt ea (fun w => by omega)
    · intro w
      exact h2.mpr ((w.lt (by omega)).cg (fun a ha => (ea a ha).symm))
  · by_cases k : a = x.toNat
    · rw [k, em]
      omega
    · rw [← ea a (by omega)]
      exact h3 a (by omega)
end WHM
end
section
/-! QUICK in the reference, exactly -/
section RQK
variable {S : Nat × (Nat → Int32)} {n : Nat} {mem : MM} {K : Int → MM → Prop} {d c : Int}
theorem RPb.cgM {m m' : MM} (h : ∀ A i, (A = 143 ∧ (i = 1 ∨ i = 12)) ∨ (144 ≤ A ∧ A ≤ 157) → m' A i = m A i) : RPb m' d = RPb m d := by
  have e1 : rUn m' = rUn m := funext fun o => by unfold rUn; rw [h 144 o (by omega), h 150 _ (by omega)]
  have e2 : rBu m' = rBu m := funext fun o => by unfold rBu; rw [h 144 o (by omega), h 152 _ (by omega)]
  have e3 : (fun u => m' 153 u) = fun u => m 153 u := funext fun u => h 153 u (by omega)
  have e4 : rq m' = rq m := funext fun i => by unfold rq; rw [h 154 i (by omega), h 155 i (by omega), h 156 i (by omega), h 157 i (by omega)]
  unfold RPb
  rw [e1, e2, e3, e4, h 143 1 (by omega), h 143 12 (by omega)]
theorem FrK.rp {m m' : MM} (e : FrK m m') : RPb m' d = RPb m d := RPb.cgM (fun A i q => e A i (by omega) (by omega) (by omega))
theorem FrM.rp {m m' : MM} (e : FrM m m') : RPb m' d = RPb m d := RPb.cgM (fun A i q => e A i (by omega) (by omega) (by omega) (by omega))
theorem Fr1.rp9 {m m' : MM} (e : Fr1 159 m m') : RPb m' d = RPb m d := RPb.cgM (fun A i q => e A i (by omega))
theorem rBu_rg (h : RefOK mem) {o : Nat} (ho : (o : Int) < mem 143 1) : 1 ≤ rBu mem o ∧ rBu mem o ≤ 15 := by
  have h8 := h.ops.1
  have kd := h.ops.2.1 o (by omega)
  exact h.bz (mem 144 o).toNat (by unfold OpOK at kd; omega)
theorem rUn_rg (h : RefOK mem) {o : Nat} (ho : (o : Int) < mem 143 1) : 0 ≤ rUn mem o ∧ rUn mem o ≤ 2 := by
  have h8 := h.ops.1
  have kd := h.ops.2.1 o (by omega)
  exact h.un (mem 144 o).toNat (by unfold OpOK at kd; omega)
def UtR (m : MM) (d : Int) (T : Nat → Int) : Prop := ∀ u k : Nat, u < 3 → k < 12 → m 159 (12 * u + k) = UsQ (RPb m d) T u k
theorem UsR_rg {T : Nat → Int} {u k : Int} (h8 : 0 ≤ mem 143 1 ∧ mem 143 1 ≤ 8) : 0 ≤ UsQ (RPb mem d) T u k ∧ UsQ (RPb mem d) T u k ≤ 32 := by
  have g := usM_le (M := TiQ T) (un := rUn mem) (bu := rBu mem) (d := d) (s := T) (u := u) (k := k) (mem 143 1).toNat
  have g0 := usM_ge (M := TiQ T) (un := rUn mem) (bu := rBu mem) (d := d) (s := T) (u := u) (k := k) (mem 143 1).toNat
  exact ⟨g0, Int.le_trans g (by omega)⟩
theorem UtR.rg {T : Nat → Int} (h : UtR mem d T) (h8 : 0 ≤ mem 143 1 ∧ mem 143 1 ≤ 8) : ∀ u k : Nat, u < 3 → k < 12 → -100 ≤ mem 159 (12 * u + k) ∧ mem 159 (12 * u + k) ≤ 100 := fun u k hu hk => by
  rw [h u k hu hk]
  have := UsR_rg (d := d) (T := T) (u := (u : Int)) (k := (k : Int)) h8
  omega
theorem f_287e (h : RefOK mem) (hd : 1 ≤ d ∧ d ≤ 12) {o : Nat} {t : Int} {T : Nat → Int} (ho : (o : Int) < mem 143 1) (ht : 0 ≤ t ∧ t ≤ 1000000) (hU : UtR mem d T) (H1 : ∀ m', Fr1 159 mem m' → UtR m' d T → (∀ k : Int, 0 ≤ k → k < d → UsQ (RPb mem d) T (rUn mem o) k + us1 d t (rBu mem o) k ≤ mem 153 (rUn mem o).toNat) → K 1 m') (H0 : ∀ m', Fr1 159 mem m' → UtR m' d T → ¬ (∀ k : Int, 0 ≤ k → k < d → UsQ (RPb mem d) T (rUn mem o) k + us1 d t (rBu mem o) k ≤ mem 153 (rUn mem o).toNat) → K 0 m') : CWI (Ex S (n + 3)) 287 [.inr 143, .inl (o : Int), .inl t, .inl d] mem K := by
  have h8 := h.ops.1
  have o8 : o < 8 := by omega
  have bg := rBu_rg h ho
  have ug := rUn_rg h ho
  refine CW.of (k := 1) mt_287 rfl rfl (w_287_0 (Ex.mono S (n + 2)) (f_271e h.ops h.un o8 ht hd (Or.inl rfl) ⟨by omega, bg.2⟩ (hU.rg h8) (fun m1 k1 a1 => ?_)))
  have hm1 := k1.k59.rest h
  have un1 : rUn m1 o = rUn mem o := by unfold rUn; rw [k1 144 o (by omega), k1 150 _ (by omega)]
  have bu1 : rBu m1 o = rBu mem o := by unfold rBu; rw [k1 144 o (by omega), k1 152 _ (by omega)]
  refine f_264e hm1.ops ⟨by omega, by omega⟩ (fun _ => ?_)
  rw [Int.toNat_natCast, un1]
  have cell : ∀ k : Nat, k < 12 → m1 159 (12 * (rUn mem o).toNat + k) = UsQ (RPb mem d) T (rUn mem o) k + us1 d t (rBu mem o) k := fun k hk => by
    rw [a1 _ k (by omega) hk, hU _ k (by omega) hk, cIf.y (show rUn mem o = (((rUn mem o).toNat : Nat) : Int) by omega), Int.one_mul, show (((rUn mem o).toNat : Nat) : Int) = rUn mem o by omega]
  have rg1 : ∀ u k : Nat, u < 3 → k < 12 → -100 ≤ m1 159 (12 * u + k) ∧ m1 159 (12 * u + k) ≤ 100 := fun u k hu hk => by
    rw [a1 u k hu hk, hU u k hu hk, Int.one_mul]
    have a := UsR_rg (d := d) (T := T) (u := (u : Int)) (k := (k : Int)) h8
    have b := cIf.rg (c := rUn mem o = (u : Int)) (us1_rg (d := d) (s := t) (bu := rBu mem o) (k := (k : Int))) (show (0 : Int) ≤ 0 ∧ (0 : Int) ≤ 4 by omega)
    omega
  have back : ∀ m2, Fr1 159 m1 m2 → (∀ u k : Nat, u < 3 → k < 12 → m2 159 (12 * u + k) = m1 159 (12 * u + k) + -1 * cIf (rUn m1 o = (u : Int)) (us1 d t (rBu m1 o) k) 0) → UtR m2 d T := fun m2 k2 a2 u k hu hk => by
    rw [a2 u k hu hk, un1, bu1, a1 u k hu hk, hU u k hu hk, (k1.tr k2).rp9]
    omega
  refine f_273e ⟨by omega, by omega⟩ hd (fun ⟨k, q1, q2⟩ _ => ⟨fun _ => f_271e hm1.ops hm1.un o8 ht hd (Or.inr rfl) ⟨by omega, by omega⟩ rg1 (fun m2 k2 a2 => ⟨_, rfl, H0 m2 (k1.tr k2) (back m2 k2 a2) (fun w => ?_)⟩), fun z => absurd (by decide) z⟩) (fun all _ => ⟨fun z => absurd rfl z, fun _ => f_271e hm1.ops hm1.un o8 ht hd (Or.inr rfl) ⟨by omega, by omega⟩ rg1 (fun m2 k2 a2 => ⟨_, rfl, H1 m2 (k1.tr k2) (back m2 k2 a2) (fun k q1 q2 => ?_)⟩)⟩)
  · have := w k (by omega) q1
    rw [cell k (by omega), k1 153 _ (by omega)] at q2
    omega
  · have := all k.toNat (by omega)
    rw [cell k.toNat (by omega), k1 153 _ (by omega), show ((k.toNat : Nat) : Int) = k by omega] at this
    exact this
theorem f_289e (h : RefOK mem) (hd : 1 ≤ d ∧ d ≤ 12) {o : Nat} {s : Int} (ho : (o : Int) < mem 143 1) (ht : 0 ≤ mem 163 o ∧ mem 163 o ≤ 100000) (H1 : 0 < us1 d (mem 163 o) (rBu mem o) s → K 1 mem) (H0 : ¬ 0 < us1 d (mem 163 o) (rBu mem o) s → K 0 mem) : CWI (Ex S (n + 2)) 289 [.inr 143, .inl (o : Int), .inl s, .inl d] mem K := by
  have h8 := h.ops.1
  have bg := rBu_rg h ho
  have ho8 : 0 ≤ (o : Int) ∧ (o : Int) < 8 := by omega
  rw [us1_iff] at H1 H0
  have key : ∀ (N : Nat) (b : Nat), 4 - b < N → b ≤ 4 → (∀ r : Nat, r < b → ¬ (rBu mem o / pw4 r % 2 = 1 ∧ (mem 163 o + (r : Int)) % d = s)) → Wx (Ex S (n + 1)) S M_289 (fun r m => ∃ y, r = some y ∧ K y m) 3 [some (.inr 143), some (.inl (o : Int)), some (.inl s), some (.inl d), some (.inl (b : Int))] [] mem := by
    intro N
    induction N with
    | zero => intros; omega
    | succ N ih =>
      intro b hN hb hA
      have nx : ¬ 4 ≤ (b : Int) → ¬ (rBu mem o / pw4 b % 2 = 1 ∧ (mem 163 o + (b : Int)) % d = s) → InI ((b : Int) + 1) ∧ Wx (Ex S (n + 1)) S M_289 (fun r m => ∃ y, r = some y ∧ K y m) 3 [some (.inr 143), some (.inl (o : Int)), some (.inl s), some (.inl d), some (.inl ((b : Int) + 1))] [] mem := fun q w => ⟨by unfold InI; omega, ih (b + 1) (by omega) (by omega) (fun r hr => by
        by_cases e : r = b
        · rw [e]; exact w
        · exact hA r (by omega))⟩
      refine w_289_3 (Ex.mono S (n + 1)) ⟨fun q => ⟨_, rfl, H0 (fun ⟨r, r1, r2⟩ => hA r (by omega) r2)⟩, fun q => f_265e h.ops ho8 (fun _ b3 e3 _ b4 e4 _ => ?_)⟩
      rw [Int.toNat_natCast] at e3
      have bt := bitr (r := (b : Int)) ⟨by omega, bg.2⟩ ⟨by omega, by omega⟩ e3 e4
      rw [Int.toNat_natCast] at bt
      refine ⟨fun z => nx q (fun w => z (bt.mpr w.1)), fun z => ⟨ho8, fun v5 e5 _ => ?_⟩⟩
      rw [Int.toNat_natCast] at e5
      rw [e5]
      exact ⟨by unfold InI; omega, f_272e ⟨by omega, by omega⟩ (fun _ => ⟨fun w => nx q (fun x => w x.2), fun w => ⟨_, rfl, H1 ⟨b, by omega, bt.mp (Decidable.of_not_not z), Decidable.of_not_not w⟩⟩⟩)⟩
  exact CW.of (k := 1) mt_289 rfl rfl (w_289_0 (Ex.mono S (n + 1)) (key 5 0 (by omega) (by omega) (fun r hr => absurd hr (Nat.not_lt_zero _))))
theorem f_288e (h : RefOK mem) (hd : 1 ≤ d ∧ d ≤ 12) {o p : Nat} (ho : (o : Int) < mem 143 1) (hp : (p : Int) < mem 143 1) (to : 0 ≤ mem 163 o ∧ mem 163 o ≤ 100000) (tp : 0 ≤ mem 163 p ∧ mem 163 p ≤ 100000) (hU : UtR mem d (mem 163)) (H1 : rUn mem p = rUn mem o → CoQ (RPb mem d) (mem 163) o p → K 1 mem) (H0 : ¬ (rUn mem p = rUn mem o ∧ CoQ (RPb mem d) (mem 163) o p) → K 0 mem) : CWI (Ex S (n + 3)) 288 [.inr 143, .inl (o : Int), .inl (p : Int), .inl d] mem K := by
  have h8 := h.ops.1
  have ug := rUn_rg h ho
  have ho8 : 0 ≤ (o : Int) ∧ (o : Int) < 8 := by omega
  have hp8 : 0 ≤ (p : Int) ∧ (p : Int) < 8 := by omega
  have key : ∀ (N : Nat) (s : Nat), rUn mem p = rUn mem o → 12 - s < N → (s : Int) ≤ d → (∀ k : Nat, k < s → ¬ (mem 153 (rUn mem o).toNat < UsQ (RPb mem d) (mem 163) (rUn mem o) k ∧ 0 < us1 d (mem 163 o) (rBu mem o) k ∧ 0 < us1 d (mem 163 p) (rBu mem p) k)) → Wx (Ex S (n + 2)) S M_288 (fun r m => ∃ y, r = some y ∧ K y m) 18 [some (.inr 143), some (.inl (o : Int)), some (.inl (p : Int)), some (.inl d), some (.inl (s : Int))] [] mem := by
    intro N
    induction N with
    | zero => intros; omega
    | succ N ih =>
      intro s hun hN hs hA
      have nx : ¬ d ≤ (s : Int) → ¬ (mem 153 (rUn mem o).toNat < UsQ (RPb mem d) (mem 163) (rUn mem o) s ∧ 0 < us1 d (mem 163 o) (rBu mem o) s ∧ 0 < us1 d (mem 163 p) (rBu mem p) s) → InI ((s : Int) + 1) ∧ Wx (Ex S (n + 2)) S M_288 (fun r m => ∃ y, r = some y ∧ K y m) 18 [some (.inr 143), some (.inl (o : Int)), some (.inl (p : Int)), some (.inl d), some (.inl ((s : Int) + 1))] [] mem := fun q w => ⟨by unfold InI; omega, ih (s + 1) hun (by omega) (by omega) (fun k hk => by
        by_cases e : k = s
        · rw [e]; exact w
        · exact hA k (by omega))⟩
      refine w_288_18 (Ex.mono S (n + 2)) ⟨fun q => ⟨_, rfl, H0 (fun ⟨_, k, k1, k2, k3⟩ => ?_)⟩, fun q => f_264e h.ops ho8 (fun _ => ?_)⟩
      · have k2' : k < d := k2
        have w := hA k.toNat (by omega)
        rw [show ((k.toNat : Nat) : Int) = k by omega] at w
        exact w k3
      rw [Int.toNat_natCast]
      refine ⟨by unfold InI; omega, by unfold InI; omega, by omega, fun v3 e3 _ => f_264e h.ops ho8 (fun _ => ?_)⟩
      rw [Int.toNat_natCast]
      rw [show ((12 * rUn mem o + (s : Int)).toNat : Nat) = 12 * (rUn mem o).toNat + s by omega, hU _ s (by omega) (by omega), show (((rUn mem o).toNat : Nat) : Int) = rUn mem o by omega] at e3
      refine ⟨by omega, fun v6 e6 _ => ⟨fun w => nx q (fun x => by omega), fun w => f_289e h hd ho to (fun u1 _ => ⟨fun z => absurd z (by decide), fun _ => f_289e h hd hp tp (fun u2 _ => ⟨fun z => absurd z (by decide), fun _ => ⟨_, rfl, H1 hun ⟨s, by omega, show (s : Int) < d by omega, ?_, u1, u2⟩⟩⟩) (fun u2 _ => ⟨fun _ => nx q (fun x => u2 x.2.2), fun z => absurd rfl z⟩)⟩) (fun u1 _ => ⟨fun _ => nx q (fun x => u1 x.2.1), fun z => absurd rfl z⟩)⟩⟩
      show mem 153 (rUn mem o).toNat < UsQ (RPb mem d) (mem 163) (rUn mem o) s
      omega
  refine CW.of (k := 1) mt_288 rfl rfl (w_288_0 (Ex.mono S (n + 2)) (f_264e h.ops ho8 (fun _ => f_264e h.ops hp8 (fun _ => ?_))))
  rw [Int.toNat_natCast, Int.toNat_natCast]
  exact ⟨fun q => key 13 0 q.symm (by omega) (by omega) (fun k hk => absurd hk (Nat.not_lt_zero _)), fun q => ⟨_, rfl, H0 (fun w => q w.1.symm)⟩⟩
theorem UtR.fr {m m' : MM} {T T' : Nat → Int} (h : UtR m d T) (e : ∀ i, m' 159 i = m 159 i) (r : RPb m' d = RPb m d) (t : T' = T) : UtR m' d T' := fun u k hu hk => by
  rw [e, r, t]
  exact h u k hu hk
theorem f_290e {K : MM → Prop} (h : RefOK mem) (hd : 1 ≤ d ∧ d ≤ 12) (hQ : QT mem c) {p : Nat} (hp : (p : Int) < mem 143 1) (tp : 0 ≤ mem 163 p ∧ mem 163 p ≤ 100000) (hc : 0 ≤ c) (hU : UtR mem d (mem 163)) (H : ∀ m', FrK mem m' → QT m' c → m' 164 = mem 164 → (∀ j, m' 163 j = if j = p then -1 else mem 163 j) → UtR m' d (m' 163) → K m') : CWV (Ex S (n + 3)) 290 [.inr 143, .inl (p : Int), .inl d] mem K := by
  have h8 := h.ops.1
  have bg := rBu_rg h hp
  have ho8 : 0 ≤ (p : Int) ∧ (p : Int) < 8 := by omega
  refine CW.of (k := 0) mt_290 rfl rfl (w_290_0 (Ex.mono S (n + 2)) ⟨ho8, fun v1 e1 _ => ?_⟩)
  rw [Int.toNat_natCast] at e1 ⊢
  subst e1
  refine f_271e h.ops h.un (by omega) ⟨tp.1, by omega⟩ hd (Or.inr rfl) ⟨by omega, bg.2⟩ (hU.rg h8) (fun m2 k2 a2 => ⟨ho8, rfl, ?_⟩)
  have q3 : ∀ j, upm m2 163 p (-1) 163 j = if j = p then -1 else mem 163 j := fun j => by
    by_cases e : j = p
    · rw [if_pos e, e, upm_eq]
    · rw [if_neg e, upm_ne (fun z => e z.2), k2 163 j (by omega)]
  have fk : FrK mem (upm m2 163 p (-1)) := k2.k59.tr (FrK.up (by omega))
  refine H _ fk (fun u hu => ?_) (funext fun j => by rw [upm_ne (by omega), k2 164 j (by omega)]) q3 (fun u k hu hk => ?_)
  · have hu' := k2.qt hQ u (by rw [upm_ne (by omega)] at hu; exact hu)
    rw [upm_ne (A := 163) (B := 164) (by omega)]
    refine ⟨?_, hu'.2⟩
    by_cases e : u = p
    · subst e; rw [upm_eq]; omega
    · rw [upm_ne (fun z => e z.2)]; exact hu'.1
  · have up := usM_up (M := TiQ (upm m2 163 p (-1) 163)) (M' := TiQ (mem 163)) (un := rUn mem) (bu := rBu mem) (d := d) (s := upm m2 163 p (-1) 163) (s' := mem 163) (u := (u : Int)) (k := (k : Int)) (o := p) (fun j hj => by unfold TiQ; rw [q3 j, if_neg hj]; exact ⟨Iff.rfl, fun _ => rfl⟩) (fun w => w (by rw [q3 p, if_pos rfl])) (by unfold TiQ; omega) (mem 143 1).toNat
    rw [fk.rp, upm_ne (by omega), a2 u k hu hk, hU u k hu hk]
    show usM _ _ _ _ _ _ _ _ + _ = usM _ _ _ _ _ _ _ _
    by_cases w : rUn mem p = (u : Int)
    · rw [if_pos ⟨by omega, w⟩] at up
      rw [cIf.y w]
      show usM (TiQ (mem 163)) (rUn mem) (rBu mem) d (mem 163) u k (mem 143 1).toNat + _ = usM (TiQ (upm m2 163 p (-1) 163)) (rUn mem) (rBu mem) d (upm m2 163 p (-1) 163) u k (mem 143 1).toNat
      omega
    · rw [if_neg (fun z => w z.2)] at up
      rw [cIf.n w]
      show usM (TiQ (mem 163)) (rUn mem) (rBu mem) d (mem 163) u k (mem 143 1).toNat + _ = usM (TiQ (upm m2 163 p (-1) 163)) (rUn mem) (rBu mem) d (upm m2 163 p (-1) 163) u k (mem 143 1).toNat
      omega
theorem f_291e (hN : NdsOK mem) (hd : 1 ≤ d ∧ d ≤ 12) (hc : c ≤ 100000) (hQ : QT mem c) {k : Nat} (hk : (k : Int) < mem 143 12) (H1 : mem 163 (mem 154 k).toNat + (mem 157 k - d * mem 156 k) ≤ mem 163 (mem 155 k).toNat → K 1 mem) (H0 : mem 163 (mem 155 k).toNat < mem 163 (mem 154 k).toNat + (mem 157 k - d * mem 156 k) → K 0 mem) : CWI (Ex S (n + 1)) 291 [.inr 143, .inl (k : Int), .inl d] mem K := by
  have h8 := hN.1
  have h48 := hN.2.1
  have hk48 : 0 ≤ (k : Int) ∧ (k : Int) < 48 := by omega
  obtain ⟨p1, p2, p3, p4, p5, p6, p7, p8, p9⟩ := hN.2.2 k (by omega)
  have q1 := hQ (mem 154 k).toNat (by omega)
  refine CW.of (k := 0) mt_291 rfl rfl (w_291_0 (Ex.mono S n) ⟨hk48, fun v1 e1 _ => ⟨?_, fun v2 e2 _ => ⟨hk48, fun v3 e3 _ => ⟨?_, fun v4 e4 _ => ⟨hk48, fun v5 e5 _ => ?_⟩⟩⟩⟩⟩) <;> rw [Int.toNat_natCast] at *
  · omega
  · omega
  · have e4 : v4 = mem 163 (mem 154 k).toNat := by rw [e4, e3]
    have e2 : v2 = mem 163 (mem 155 k).toNat := by rw [e2, e1]
    refine ⟨by unfold InI; omega, hk48, fun v6 e6 _ => ?_⟩
    have := d7 (x := v6) hd (by omega)
    rw [e6] at this ⊢
    exact ⟨by unfold InI; omega, by unfold InI; omega, fun w => ⟨_, rfl, H0 (by omega)⟩, fun w => ⟨_, rfl, H1 (by omega)⟩⟩
theorem f_286e (hN : NdsOK mem) (hd : 1 ≤ d ∧ d ≤ 12) (hc : 0 ≤ c ∧ c ≤ 100000) (hQ : QT mem c) {o : Nat} (H : ∀ r, 0 ≤ r → r ≤ c + 6 → EaQ (RPb mem d) (mem 163) o r → K r mem) : CWI (Ex S (n + 2)) 286 [.inr 143, .inl (o : Int), .inl d] mem K := by
  have h8 := hN.1
  have h48 := hN.2.1
  have key : ∀ (N : Nat) (x : Int) (k : Nat), 0 ≤ x → x ≤ c + 6 → EaI (rq mem) (mem 163) d o k x → (k : Int) ≤ mem 143 12 → (mem 143 12 - k).toNat < N → Wx (Ex S (n + 1)) S M_286 (fun r m => ∃ y, r = some y ∧ K y m) 5 [some (.inr 143), some (.inl (o : Int)), some (.inl d), some (.inl x), some (.inl (k : Int))] [] mem := by
    intro N
    induction N with
    | zero => intros; omega
    | succ N ih =>
      intro x k hx hx2 hI hk hNN
      refine w_286_5 (Ex.mono S (n + 1)) (fun v1 e1 _ => ⟨fun q _ => ⟨_, rfl, H _ hx hx2 (hI.fin (by rw [show k = (mem 143 12).toNat by omega]; rfl))⟩, fun q => ?_⟩)
      have hk48 : 0 ≤ (k : Int) ∧ (k : Int) < 48 := by omega
      obtain ⟨p1, p2, p3, p4, p5, p6, p7, p8, p9⟩ := hN.2.2 k (by omega)
      have nx : ∀ x, 0 ≤ x → x ≤ c + 6 → EaI (rq mem) (mem 163) d o (k + 1) x → InI ((k : Int) + 1) ∧ Wx (Ex S (n + 1)) S M_286 (fun r m => ∃ y, r = some y ∧ K y m) 5 [some (.inr 143), some (.inl (o : Int)), some (.inl d), some (.inl x), some (.inl ((k : Int) + 1))] [] mem := fun x z1 z2 z3 => ⟨by unfold InI; omega, ih x (k + 1) z1 z2 z3 (by omega) (by omega)⟩
      rw [Int.toNat_natCast]
      obtain ⟨a, ea⟩ : ∃ a : Nat, mem 154 k = (a : Int) := ⟨(mem 154 k).toNat, by omega⟩
      have f1 : (rq mem k).1 = (a : Int) := ea
      have f2 : (rq mem k).2.1 = mem 155 k := rfl
      refine ⟨hk48, fun v2 e2 _ => ⟨fun z => nx _ hx hx2 (hI.no (fun b q1 q2 q3 => absurd (e2.trans (f2.symm.trans q2)) z)), fun z => ⟨hk48, fun v3 e3 _ => ⟨fun w => nx _ hx hx2 (hI.no (fun b q1 q2 q3 => absurd (show b = o by omega) q3)), fun w => ⟨hk48, fun v4 e4 _ => ⟨by omega, fun v5 e5 _ => ⟨fun y => nx _ hx hx2 (hI.no (fun b q1 q2 q3 => ?_)), fun y => ⟨hk48, fun v6 e6 _ => ⟨by omega, fun v7 e7 _ => ⟨hk48, fun v8 e8 _ => ?_⟩⟩⟩⟩⟩⟩⟩⟩⟩⟩
      · rw [e4, ea, Int.toNat_natCast] at e5
        rw [show b = a by omega]
        exact fun ti => ti (e5.symm.trans y)
      have hq := hQ a (by omega)
      rw [e6, ea, Int.toNat_natCast] at e7
      rw [e4, ea, Int.toNat_natCast] at e5
      refine ⟨by unfold InI; omega, hk48, fun v9 e9 _ => ?_⟩
      have := d7 (x := v9) hd (by omega)
      refine ⟨by unfold InI; omega, by unfold InI; omega, f_257 (fun _ _ => nx _ (by omega) (by omega) (hI.nxt a f1 (f2.trans (e2.symm.trans (Decidable.of_not_not z))) (fun u => w (by omega)) (fun u => y (e5.trans u)) ?_))⟩
      show max x (v7 + v8 - d * v9) = max x (mem 163 a + (mem 157 k - d * mem 156 k))
      rw [e9, e7, e8]
      omega
  exact CW.of (k := 2) mt_286 rfl rfl (w_286_0 (Ex.mono S (n + 1)) (key 49 0 0 (by omega) (by omega) ⟨Int.le_refl _, fun j hj => absurd hj (Nat.not_lt_zero _), Or.inl rfl⟩ (by omega) (by omega)))
theorem f_284e {h : Nat → Int} (h8 : 0 ≤ mem 143 1 ∧ mem 143 1 ≤ 8) (hh : ∀ o : Nat, (o : Int) < mem 143 1 → abR mem o = h o) (H : ∀ r, (r = -1 ∧ AlQ (RPb mem d) (mem 163)) ∨ (∃ o : Nat, r = (o : Int) ∧ HiQ (RPb mem d) h (mem 163) o) → K r mem) : CWI (Ex S (n + 3)) 284 [.inr 143] mem K := by
  have key : ∀ (N : Nat) (b : Int) (o : Nat), 8 - o < N → (o : Int) ≤ mem 143 1 → ((b = -1 ∧ ∀ j : Nat, j < o → TiQ (mem 163) j) ∨ (∃ b' : Nat, b = (b' : Int) ∧ b' < o ∧ ¬ TiQ (mem 163) b' ∧ (∀ j : Nat, j < o → ¬ TiQ (mem 163) j → h j ≤ h b') ∧ ∀ j : Nat, j < b' → ¬ TiQ (mem 163) j → h j < h b')) → Wx (Ex S (n + 2)) S M_284 (fun r m => ∃ y, r = some y ∧ K y m) 4 [some (.inr 143), some (.inl b), some (.inl (o : Int))] [] mem := by
    intro N
    induction N with
    | zero => intros; omega
    | succ N ih =>
      intro b o hN ho hb
      refine w_284_4 (Ex.mono S (n + 2)) (fun v1 e1 _ => ⟨fun q _ => ⟨_, rfl, H _ ?_⟩, fun q => ⟨by omega, fun v2 e2 _ => ?_⟩⟩)
      · rcases hb with ⟨a1, a2⟩ | ⟨b', a1, a2, a3, a4, a5⟩
        · exact Or.inl ⟨a1, fun j hj => a2 j (by have : j < (mem 143 1).toNat := hj; omega)⟩
        · exact Or.inr ⟨b', a1, show b' < (mem 143 1).toNat by omega, a3, fun j hj => a4 j (by have : j < (mem 143 1).toNat := hj; omega), a5⟩
      rw [Int.toNat_natCast] at e2
      have o8 : o < 8 := by clear hb; omega
      have f1 : 8 - (o + 1) < N := by clear hb; omega
      have f2 : ((o + 1 : Nat) : Int) ≤ mem 143 1 := by clear hb; omega
      have f3 : InI ((o : Int) + 1) := by
        clear hb
        unfold InI
        omega
      refine ⟨fun z => ⟨f3, ih b (o + 1) f1 f2 ?_⟩, fun z => ⟨fun w => ⟨f3, ih o (o + 1) f1 f2 ?_⟩, fun w => ?_⟩⟩
      · have t : TiQ (mem 163) o := fun x => z (e2.trans x)
        rcases hb with ⟨a1, a2⟩ | ⟨b', a1, a2, a3, a4, a5⟩
        · refine Or.inl ⟨a1, fun j hj => ?_⟩
          by_cases e : j = o
          · rw [e]; exact t
          · exact a2 j (by omega)
        · refine Or.inr ⟨b', a1, by omega, a3, fun j hj nt => ?_, a5⟩
          by_cases e : j = o
          · rw [e] at nt
            exact absurd t nt
          · exact a4 j (by omega) nt
      · have t : ¬ TiQ (mem 163) o := fun x => x (e2.symm.trans (Decidable.of_not_not z))
        rcases hb with ⟨a1, a2⟩ | ⟨b', a1, -⟩
        · refine Or.inr ⟨o, rfl, by omega, t, fun j hj nt => ?_, fun j hj nt => absurd (a2 j hj) nt⟩
          by_cases e : j = o
          · rw [e]
            exact Int.le_refl _
          · exact absurd (a2 j (by omega)) nt
        · omega
      · have t : ¬ TiQ (mem 163) o := fun x => x (e2.symm.trans (Decidable.of_not_not z))
        rcases hb with ⟨a1, -⟩ | ⟨b', a1, a2, a3, a4, a5⟩
        · exact absurd a1 w
        · subst a1
          refine f_261e h8 ⟨by omega, by omega⟩ (fun _ => f_261e h8 ⟨by omega, by omega⟩ (fun _ => ?_))
          rw [Int.toNat_natCast, Int.toNat_natCast, hh o (by omega), hh b' (by omega)]
          refine ⟨fun y => ⟨by unfold InI; omega, ih b' (o + 1) (by omega) (by omega) (Or.inr ⟨b', rfl, by omega, a3, fun j hj nt => ?_, a5⟩)⟩, fun y => ⟨by unfold InI; omega, ih o (o + 1) (by omega) (by omega) (Or.inr ⟨o, rfl, by omega, t, fun j hj nt => ?_, fun j hj nt => ?_⟩)⟩⟩
          · by_cases e : j = o
            · rw [e]
              exact y
            · exact a4 j (by omega) nt
          · by_cases e : j = o
            · rw [e]
              exact Int.le_refl _
            · have := a4 j (by omega) nt
              omega
          · have := a4 j (by omega) nt
            omega
  exact CW.of (k := 2) mt_284 rfl rfl (w_284_0 (Ex.mono S (n + 2)) (key 9 (-1) 0 (by omega) (by omega) (Or.inl ⟨rfl, fun j hj => absurd hj (Nat.not_lt_zero _)⟩)))
theorem cq_254e {m0 : MM} {X : Nat → Int} {o : Nat} {x3 x4 g : Int} (h : RefOK m0) (hd : 1 ≤ d ∧ d ≤ 12) (hc : 0 ≤ c ∧ c ≤ 100000) {B : Nat → Prop} (hB : ∀ j, B j → TiQ X j) (hg : ∀ j : Nat, j < 8 → (Bt g j ↔ B j)) (hg31 : ¬ Bt g 31) {Kk : WK} (H : ∀ m', FrK m0 m' → QT m' c → m' 164 = m0 164 → (∀ j : Nat, (j : Int) < m0 143 1 → m' 163 j = cIf (B j) (-1) (X j)) → UtR m' d (m' 163) → Kk none m') : ∀ (N : Nat) (p : Nat) (m : MM), (p : Int) ≤ m0 143 1 → (m0 143 1 - p).toNat < N → FrK m0 m → QT m c → m 164 = m0 164 → (∀ j : Nat, m 163 j = cIf (j < p ∧ B j) (-1) (X j)) → UtR m d (m 163) → Wx (Ex S (n + 3)) S M_285 Kk 254 [some (.inr 143), some (.inl (o : Int)), some (.inl d), some (.inl x3), some (.inl x4), some (.inl g), some (.inl (p : Int)), none] [] m := by
  have h8 := h.ops.1
  intro N
  induction N with
  | zero => intros; omega
  | succ N ih =>
    intro p m hp hN hF hQ hL hA hU
    have e1' : m 143 1 = m0 143 1 := hF _ _ (by omega) (by omega) (by omega)
    have hm := hF.rest h
    refine w_285_254 (Ex.mono S (n + 3)) (fun v1 e1 _ => ⟨fun q => H m hF hQ hL (fun j hj => by rw [hA j]; exact cIf.iff ⟨fun w => w.2, fun w => ⟨by omega, w⟩⟩ rfl) hU, fun q b2 e2 _ b3 e3 _ => ?_⟩)
    have p8 : p < 8 := by omega
    have tb : b3 = 1 ↔ B p := by
      rw [← hg p p8]
      have s := Bt_shr (i := 0) hg31 (y := (p : Int)) ⟨by omega, by omega⟩ e2
      rw [Int.toNat_natCast, Nat.zero_add] at s
      rw [← s]
      constructor
      · intro w
        have x := (Bt_and (i := 0) e3).mp (by rw [w]; exact Bt_1.mpr rfl)
        exact x.1
      · intro w
        have z : ∀ i : Nat, i < 32 → (Bt b3 i ↔ Bt 1 i) := fun i _ => by
          rw [Bt_and e3, Bt_1]
          exact ⟨fun x => x.2, fun x => by subst x; exact ⟨w, rfl⟩⟩
        exact Bt_ext (by rw [e3]; exact wiI _) (by unfold InI; omega) z
    have same : ¬ B p → ∀ j : Nat, m 163 j = cIf (j < p + 1 ∧ B j) (-1) (X j) := fun w j => by
      rw [hA j]
      refine cIf.iff ⟨fun x => ⟨by omega, x.2⟩, fun x => ⟨?_, x.2⟩⟩ rfl
      by_cases e : j = p
      · rw [e] at x
        exact absurd x.2 w
      · omega
    refine ⟨fun z => ⟨by unfold InI; omega, ih (p + 1) m (by omega) (by omega) hF hQ hL (same (fun w => z (tb.mpr w))) hU⟩, fun z => ?_⟩
    have bp := tb.mp (Decidable.of_not_not z)
    have ap : m 163 p = X p := (hA p).trans (cIf.n (fun w => absurd w.1 (Nat.lt_irrefl _)))
    have tp := hB p bp
    have qp := hQ p (by omega)
    unfold TiQ at tp
    refine f_290e hm hd hQ (by omega) ⟨by omega, by omega⟩ hc.1 hU (fun m' k1 k2 k3 k4 k5 => ⟨by unfold InI; omega, ih (p + 1) m' (by omega) (by omega) (hF.tr k1) k2 (k3.trans hL) (fun j => ?_) k5⟩)
    rw [k4 j]
    by_cases e : j = p
    · rw [if_pos e, cIf.y ⟨by omega, by rw [e]; exact bp⟩]
    · rw [if_neg e, hA j]
      exact cIf.iff ⟨fun x => ⟨by omega, x.2⟩, fun x => ⟨by omega, x.2⟩⟩ rfl
theorem cq_155e {m0 : MM} {o : Nat} {x3 x4 : Int} (h : RefOK m0) (hN : NdsOK m0) (hd : 1 ≤ d ∧ d ≤ 12) (hc : 0 ≤ c ∧ c ≤ 100000) (ho : (o : Int) < m0 143 1) (hQ : QT m0 c) (hU : UtR m0 d (m0 163)) {Kk : WK} (H : ∀ m', FrK m0 m' → QT m' c → m' 164 = m0 164 → (∀ j : Nat, (j : Int) < m0 143 1 → m' 163 j = brF (RPb m0 d) (m0 163) o j) → UtR m' d (m' 163) → Kk none m') : ∀ (N : Nat) (k : Nat) (g : Int), (k : Int) ≤ m0 143 12 → (m0 143 12 - k).toNat < N → (∀ j : Nat, Bt g j ↔ (j : Int) < m0 143 1 ∧ BkI (rq m0) d (m0 163) o k j) → Wx (Ex S (n + 3)) S M_285 Kk 155 [some (.inr 143), some (.inl (o : Int)), some (.inl d), some (.inl x3), some (.inl x4), some (.inl g), some (.inl (k : Int)), none] [] m0 := by
  have h8 := hN.1
  have h48 := hN.2.1
  intro N
  induction N with
  | zero => intros; omega
  | succ N ih =>
    intro k g hk hNN hg
    have nx : ∀ g', ¬ m0 143 12 ≤ (k : Int) → (∀ j : Nat, Bt g' j ↔ (j : Int) < m0 143 1 ∧ BkI (rq m0) d (m0 163) o (k + 1) j) → InI ((k : Int) + 1) ∧ Wx (Ex S (n + 3)) S M_285 Kk 155 [some (.inr 143), some (.inl (o : Int)), some (.inl d), some (.inl x3), some (.inl x4), some (.inl g'), some (.inl ((k : Int) + 1)), none] [] m0 := fun g' z w => ⟨by unfold InI; omega, ih (k + 1) g' (by omega) (by omega) w⟩
    refine w_285_155 (Ex.mono S (n + 3)) (fun v1 e1 _ => ⟨fun q => ?_, fun q => ?_⟩)
    · have fi : ∀ j, BkI (rq m0) d (m0 163) o k j ↔ BkQ (RPb m0 d) (m0 163) o j := fun j => BkI.fin (by rw [show k = (m0 143 12).toNat by omega]; rfl)
      refine cq_254e (X := m0 163) (B := fun j => (j : Int) < m0 143 1 ∧ BkI (rq m0) d (m0 163) o k j) h hd hc (fun j w => w.2.2.1) (fun j _ => hg j) (fun w => by have := (hg 31).mp w; omega) (fun m' k1 k2 k3 k4 k5 => H m' k1 k2 k3 (fun j hj => (k4 j hj).trans (cIf.iff ⟨fun w => (fi j).mp w.2, fun w => ⟨hj, (fi j).mpr w⟩⟩ rfl)) k5) 9 0 m0 (by omega) (by omega) FrK.rf hQ rfl (fun j => (cIf.n (fun w => absurd w.1 (Nat.not_lt_zero _))).symm) hU
    subst e1
    have hk48 : 0 ≤ (k : Int) ∧ (k : Int) < 48 := by omega
    obtain ⟨p1, p2, p3, p4, -⟩ := hN.2.2 k (by omega)
    have c1 : (rq m0 k).1 = m0 154 k := rfl
    have c2 : (rq m0 k).2.1 = m0 155 k := rfl
    have c3 : (rq m0 k).2.2.1 = m0 156 k := rfl
    have c4 : (rq m0 k).2.2.2 = m0 157 k := rfl
    have no : (∀ j : Nat, ¬ j = o → TiQ (m0 163) j → ¬ NkQ (rq m0) d (m0 163) o k j) → InI ((k : Int) + 1) ∧ Wx (Ex S (n + 3)) S M_285 Kk 155 [some (.inr 143), some (.inl (o : Int)), some (.inl d), some (.inl x3), some (.inl x4), some (.inl g), some (.inl ((k : Int) + 1)), none] [] m0 := fun w => nx g q (fun j => by
      rw [hg j, BkI.st]
      exact ⟨fun x => ⟨x.1, Or.inl x.2⟩, fun x => ⟨x.1, x.2.elim id (fun y => absurd y.2.2 (w j y.1 y.2.1))⟩⟩)
    have yes : ∀ (jo : Nat) (b7 b8 : Int), (jo : Int) < m0 143 1 → ¬ jo = o → TiQ (m0 163) jo → (∀ j : Nat, ¬ j = o → TiQ (m0 163) j → (NkQ (rq m0) d (m0 163) o k j ↔ j = jo)) → b7 = ((fun (x y : Int32) => x <<< (y &&& 31)) (Int32.ofInt 1) (Int32.ofInt (jo : Int))).toInt → b8 = ((fun (x y : Int32) => x ||| y) (Int32.ofInt g) (Int32.ofInt b7)).toInt → InI ((k : Int) + 1) ∧ Wx (Ex S (n + 3)) S M_285 Kk 155 [some (.inr 143), some (.inl (o : Int)), some (.inl d), some (.inl x3), some (.inl x4), some (.inl b8), some (.inl ((k : Int) + 1)), none] [] m0 := fun jo b7 b8 j1 j2 j3 jn f7 f8 => nx b8 q (fun j => by
      rw [Bt_or f8, Bt_bit ⟨by omega, by omega⟩ f7, hg j, BkI.st]
      constructor
      · rintro (x | x)
        · exact ⟨x.1, Or.inl x.2⟩
        · have e : j = jo := by omega
          subst e
          exact ⟨j1, Or.inr ⟨j2, j3, (jn j j2 j3).mpr rfl⟩⟩
      · rintro ⟨x, y | y⟩
        · exact Or.inl ⟨x, y⟩
        · have e := (jn j y.1 y.2.1).mp y.2.2
          exact Or.inr (by omega))
    -- the one op that a need with an end at o asks
    have one : ∀ jo : Nat, (jo : Int) < m0 143 1 → ¬ jo = o → ((m0 154 k = (o : Int) ∧ m0 155 k = (jo : Int)) ∨ (m0 154 k = (jo : Int) ∧ m0 155 k = (o : Int))) → TiQ (m0 163) jo → CWI (Ex S (n + 3)) 291 [.inr 143, .inl (k : Int), .inl d] m0 fun r6 m5 => InI r6 → ((¬ r6 = 0 → (InI ((k : Int) + 1)) ∧ (Wx (Ex S (n + 3)) S M_285 Kk 155 [some (.inr 143), some (.inl (o : Int)), some (.inl d), some (.inl x3), some (.inl x4), some (.inl g), some (.inl ((k : Int) + 1)), none] [] m5)) ∧ (¬ (¬ r6 = 0) → ∀ b7 : Int, b7 = ((fun (x y : Int32) => x <<< (y &&& 31)) (Int32.ofInt 1) (Int32.ofInt (jo : Int))).toInt → InI b7 → ∀ b8 : Int, b8 = ((fun (x y : Int32) => x ||| y) (Int32.ofInt g) (Int32.ofInt b7)).toInt → InI b8 → (InI ((k : Int) + 1)) ∧ (Wx (Ex S (n + 3)) S M_285 Kk 155 [some (.inr 143), some (.inl (o : Int)), some (.inl d), some (.inl x3), some (.inl x4), some (.inl b8), some (.inl ((k : Int) + 1)), none] [] m5))) := fun jo j1 j2 hv tj => by
      have nk : ∀ j : Nat, ¬ j = o → NkQ (rq m0) d (m0 163) o k j → j = jo := fun j jn w => by
        rcases w with ⟨a, b, -⟩ | ⟨a, b, -⟩
        · rw [c1] at a
          rw [c2] at b
          omega
        · rw [c1] at a
          rw [c2] at b
          omega
      refine f_291e hN hd hc.2 hQ (by omega) (fun w _ => ⟨fun _ => no (fun j jn tn w2 => ?_), fun z => absurd (by decide) z⟩) (fun w _ => ⟨fun z => absurd rfl z, fun _ b7 f7 _ b8 f8 _ => yes jo b7 b8 j1 j2 tj (fun j jn tn => ⟨fun w2 => nk j jn w2, fun e => ?_⟩) f7 f8⟩)
      · have ej := nk j jn w2
        subst ej
        rcases w2 with ⟨a, b, x⟩ | ⟨a, b, x⟩
        · rw [c1] at a
          rw [c2] at b
          rw [a, b, Int.toNat_natCast, Int.toNat_natCast] at w
          rw [c3, c4] at x
          omega
        · rw [c1] at a
          rw [c2] at b
          rw [a, b, Int.toNat_natCast, Int.toNat_natCast] at w
          rw [c3, c4] at x
          omega
      · subst e
        unfold NkQ
        rw [c1, c2, c3, c4]
        rcases hv with ⟨a, b⟩ | ⟨a, b⟩
        · rw [a, b, Int.toNat_natCast, Int.toNat_natCast] at w
          exact Or.inl ⟨a, b, by omega⟩
        · rw [a, b, Int.toNat_natCast, Int.toNat_natCast] at w
          exact Or.inr ⟨a, b, by omega⟩
    rw [Int.toNat_natCast]
    have vj : ∀ v : Int, 0 ≤ v → v < m0 143 1 → ∃ j : Nat, v = (j : Int) := fun v a b => ⟨v.toNat, by omega⟩
    refine ⟨hk48, fun v2 e2 _ => ⟨fun q2 => ⟨hk48, fun v3 e3 _ => ⟨fun q3 => ⟨fun _ => no (fun j jn tn w => ?_), fun z => absurd rfl z⟩, fun q3 => ⟨hk48, fun v9 e9 _ => ?_⟩⟩⟩, fun q2 => ⟨hk48, fun v15 e15 _ => ?_⟩⟩⟩
    · rcases w with ⟨a, -, -⟩ | ⟨-, a, -⟩
      · rw [c1] at a
        exact q2 (e2.trans a)
      · rw [c2] at a
        exact q3 (e3.trans a)
    · obtain ⟨jo, ej⟩ := vj v9 (by omega) (by omega)
      subst ej
      have jn0 : ¬ jo = o := fun z => q2 (by omega)
      have hv : (m0 154 k = (o : Int) ∧ m0 155 k = (jo : Int)) ∨ (m0 154 k = (jo : Int) ∧ m0 155 k = (o : Int)) := Or.inr ⟨e9.symm, e3.symm.trans (Decidable.of_not_not q3)⟩
      refine ⟨fun z => absurd z (fun z => jn0 (by omega)), fun _ => ⟨by omega, fun v10 e10 _ => ⟨fun z => no (fun j jn tn w => ?_), fun z => one jo (by omega) jn0 hv (fun x => ?_)⟩⟩⟩
      · rw [Int.toNat_natCast] at e10
        have : j = jo := by
          rcases w with ⟨a, b, -⟩ | ⟨a, b, -⟩
          · rw [c1] at a
            rw [c2] at b
            omega
          · rw [c1] at a
            rw [c2] at b
            omega
        rw [this] at tn
        exact tn (e10.symm.trans z)
      · rw [Int.toNat_natCast] at e10
        exact z (e10.trans x)
    · by_cases z0 : v15 = (o : Int)
      · refine ⟨fun _ => no (fun j jn tn w => ?_), fun z => absurd z0 z⟩
        have a2 := Decidable.of_not_not q2
        rcases w with ⟨-, b, -⟩ | ⟨a, -, -⟩
        · rw [c2] at b
          omega
        · rw [c1] at a
          omega
      · obtain ⟨jo, ej⟩ := vj v15 (by omega) (by omega)
        subst ej
        have jn0 : ¬ jo = o := fun z => z0 (by omega)
        have hv : (m0 154 k = (o : Int) ∧ m0 155 k = (jo : Int)) ∨ (m0 154 k = (jo : Int) ∧ m0 155 k = (o : Int)) := Or.inl ⟨e2.symm.trans (Decidable.of_not_not q2), e15.symm⟩
        refine ⟨fun z => absurd z z0, fun _ => ⟨by omega, fun v16 e16 _ => ⟨fun z => no (fun j jn tn w => ?_), fun z => one jo (by omega) jn0 hv (fun x => ?_)⟩⟩⟩
        · rw [Int.toNat_natCast] at e16
          have : j = jo := by
            rcases w with ⟨a, b, -⟩ | ⟨a, b, -⟩
            · rw [c1] at a
              rw [c2] at b
              omega
            · rw [c1] at a
              rw [c2] at b
              omega
          rw [this] at tn
          exact tn (e16.symm.trans z)
        · rw [Int.toNat_natCast] at e16
          exact z (e16.trans x)
theorem cq_99e {m0 : MM} {o : Nat} {x3 x4 : Int} (h : RefOK m0) (hN : NdsOK m0) (hd : 1 ≤ d ∧ d ≤ 12) (hc : 0 ≤ c ∧ c ≤ 100000) (ho : (o : Int) < m0 143 1) (hto : 0 ≤ m0 163 o) {Kk : WK} (H : ∀ m', FrK m0 m' → QT m' c → m' 164 = m0 164 → (∀ j : Nat, (j : Int) < m0 143 1 → m' 163 j = brF (RPb m0 d) (shF (RPb m0 d) (m0 163) o (m0 143 1).toNat) o j) → UtR m' d (m' 163) → Kk none m') : ∀ (N : Nat) (p : Nat) (m : MM), (p : Int) ≤ m0 143 1 → (m0 143 1 - p).toNat < N → FrK m0 m → QT m c → m 164 = m0 164 → m 163 = shF (RPb m0 d) (m0 163) o p → UtR m d (m 163) → Wx (Ex S (n + 3)) S M_285 Kk 99 [some (.inr 143), some (.inl (o : Int)), some (.inl d), some (.inl x3), some (.inl x4), some (.inl (p : Int)), none, none] [] m := by
  have h8 := h.ops.1
  have h48 := hN.2.1
  intro N
  induction N with
  | zero => intros; omega
  | succ N ih =>
    intro p m hp hNN hF hQ hL hX hU
    have e1' : m 143 1 = m0 143 1 := hF _ _ (by omega) (by omega) (by omega)
    have hm := hF.rest h
    have mo : m 163 o = m0 163 o := by rw [hX]; exact shF.self p
    have nx : ¬ m 143 1 ≤ (p : Int) → ¬ (¬ p = o ∧ TiQ (m 163) p ∧ (RPb m0 d).un p = (RPb m0 d).un o ∧ CoQ (RPb m0 d) (m 163) o p) → InI ((p : Int) + 1) ∧ Wx (Ex S (n + 3)) S M_285 Kk 99 [some (.inr 143), some (.inl (o : Int)), some (.inl d), some (.inl x3), some (.inl x4), some (.inl ((p : Int) + 1)), none, none] [] m := fun z w => by
      refine ⟨by unfold InI; omega, ih (p + 1) m (by omega) (by omega) hF hQ hL ?_ hU⟩
      rw [hX] at w
      rw [hX]
      exact funext fun j => (cIf.n (fun x => w x.2)).symm
    refine w_285_99 (Ex.mono S (n + 3)) (fun v1 e1 _ => ⟨fun q => ?_, fun q => ?_⟩)
    · have e12 : m 143 12 = m0 143 12 := hF _ _ (by omega) (by omega) (by omega)
      refine cq_155e (c := c) hm (hF.nds hN) hd hc (by omega) hQ hU (fun m' k1 k2 k3 k4 k5 => H m' (hF.tr k1) k2 (k3.trans hL) (fun j hj => ?_) k5) 49 0 0 (by omega) (by omega) (fun j => ⟨fun w => absurd w Bt_0, fun ⟨_, _, _, i, hi, _⟩ => absurd hi (Nat.not_lt_zero _)⟩)
      rw [k4 j (by omega), hF.rp, hX, show p = (m0 143 1).toNat by omega]
    subst e1
    have p8 : p < 8 := by omega
    refine ⟨fun z => nx q (fun w => w.1 (by omega)), fun z => ⟨by omega, fun v2 e2 _ => ?_⟩⟩
    rw [Int.toNat_natCast] at e2
    refine ⟨fun w => nx q (fun x => x.2.1 (e2.symm.trans w)), fun w => ?_⟩
    have tp : TiQ (m 163) p := fun x => w (e2.trans x)
    have qp := hQ p (by omega)
    have qo := hQ o (by omega)
    have np : 0 ≤ m 163 p := by
      unfold TiQ at tp
      omega
    have un : ∀ j, rUn m j = rUn m0 j := fun j => by unfold rUn; rw [hF 144 j (by omega) (by omega) (by omega), hF 150 _ (by omega) (by omega) (by omega)]
    refine f_288e hm hd (by omega) (by omega) ⟨by omega, by omega⟩ ⟨np, by omega⟩ hU (fun u1 u2 _ => ⟨fun x => absurd x (by decide), fun _ => f_290e hm hd hQ (by omega) ⟨np, by omega⟩ hc.1 hU (fun m' k1 k2 k3 k4 k5 => ⟨by unfold InI; omega, ih (p + 1) m' (by omega) (by omega) (hF.tr k1) k2 (k3.trans hL) ?_ k5⟩)⟩) (fun u _ => ⟨fun _ => nx q (fun x => u ⟨by rw [un, un]; exact x.2.2.1, by rw [hF.rp]; exact x.2.2.2⟩), fun x => absurd rfl x⟩)
    rw [hF.rp] at u2
    rw [un, un] at u1
    funext j
    rw [k4 j]
    show _ = cIf _ _ _
    by_cases e : j = p
    · rw [if_pos e, cIf.y ⟨e, fun x => z (by omega), by rw [← hX]; exact tp, u1, by rw [← hX]; exact u2⟩]
    · rw [if_neg e, cIf.n (fun x => e x.1), hX]
theorem f_285e {K : MM → Prop} (h : RefOK mem) (hN : NdsOK mem) (hd : 1 ≤ d ∧ d ≤ 12) (hc : 0 ≤ c ∧ c ≤ 10000) (hQ : QT mem c) {o : Nat} (ho : (o : Int) < mem 143 1) (hU : UtR mem d (mem 163)) (hNo : NoQ (RPb mem d) (mem 163)) (hn : ¬ TiQ (mem 163) o) (H : ∀ m' t, FrK mem m' → QT m' (c + 18) → UtR m' d (m' 163) → PlQ (RPb mem d) (mem 163) (mem 164) o t → (∀ j : Nat, (j : Int) < mem 143 1 → m' 164 j = if j = o then t else mem 164 j) → (∀ j : Nat, (j : Int) < mem 143 1 → m' 163 j = brF (RPb mem d) (shF (RPb mem d) (setF (mem 163) o t) o (mem 143 1).toNat) o j) → K m') : CWV (Ex S (n + 4)) 285 [.inr 143, .inl (o : Int), .inl d] mem K := by
  have h8 := h.ops.1
  have ho8 : 0 ≤ (o : Int) ∧ (o : Int) < 8 := by omega
  have ug := rUn_rg h ho
  have bg := rBu_rg h ho
  have qo := hQ o ho
  have op : o < (RPb mem d).n := show o < (mem 143 1).toNat by omega
  have alle : ∀ t : Int, (∀ k : Int, 0 ≤ k → k < d → UsQ (RPb mem d) (mem 163) (rUn mem o) k + us1 d t (rBu mem o) k ≤ mem 153 (rUn mem o).toNat) ↔ RmQ (RPb mem d) (mem 163) o t := fun t => (RmQ.all (p := RPb mem d) (o := o) (t := t) hNo (show 0 ≤ rUn mem o ∧ rUn mem o < 3 by omega)).symm
  refine CW.of (k := 5) mt_285 rfl rfl (w_285_0 (Ex.mono S (n + 3)) (f_286e hN hd ⟨hc.1, by omega⟩ hQ (fun r r1 r2 rE _ => ?_)))
  have at71 : ∀ (t : Int) (m : MM), 0 ≤ t → t ≤ c + 18 → Fr1 159 mem m → UtR m d (mem 163) → PlQ (RPb mem d) (mem 163) (mem 164) o t → Wx (Ex S (n + 3)) S M_285 (fun r m => r = none ∧ K m) 71 [some (.inr 143), some (.inl (o : Int)), some (.inl d), some (.inl r), some (.inl t), none, none, none] [] m := by
    intro t m t1 t2 k1 kU hP
    have hF : FrK mem (upm (upm m 163 o t) 164 o t) := (k1.k59.tr (FrK.up (Or.inl rfl))).tr (FrK.up (Or.inr rfl))
    have hm := hF.rest h
    refine w_285_71 (Ex.mono S (n + 3)) ⟨ho8, ho8, ?_⟩
    rw [Int.toNat_natCast]
    generalize hM : upm (upm m 163 o t) 164 o t = M at hF hm ⊢
    have M3 : M 163 = setF (mem 163) o t := funext fun j => by
      rw [← hM, upm_ne (by omega)]
      unfold setF
      by_cases e : j = o
      · rw [if_pos e, e, upm_eq]
      · rw [if_neg e, upm_ne (fun z => e z.2), k1 163 j (by omega)]
    have M4 : ∀ j, M 164 j = if j = o then t else mem 164 j := fun j => by
      rw [← hM]
      by_cases e : j = o
      · rw [if_pos e, e, upm_eq]
      · rw [if_neg e, upm_ne (fun z => e z.2), upm_ne (by omega), k1 164 j (by omega)]
    have M9 : ∀ i, M 159 i = m 159 i := fun i => by rw [← hM, upm_ne (by omega), upm_ne (by omega)]
    have un : rUn M o = rUn mem o := by unfold rUn; rw [hF 144 o (by omega) (by omega) (by omega), hF 150 _ (by omega) (by omega) (by omega)]
    have bu : rBu M o = rBu mem o := by unfold rBu; rw [hF 144 o (by omega) (by omega) (by omega), hF 152 _ (by omega) (by omega) (by omega)]
    have rgM : ∀ u k : Nat, u < 3 → k < 12 → -100 ≤ M 159 (12 * u + k) ∧ M 159 (12 * u + k) ≤ 100 := fun u k hu hk => by
      rw [M9]
      exact kU.rg (by rw [k1 143 1 (by omega)]; exact h8) u k hu hk
    have t9 : ¬ t = -1 := by omega
    refine f_271e hm.ops hm.un (by omega) ⟨t1, by omega⟩ hd (Or.inl rfl) ⟨by omega, by omega⟩ rgM (fun m' k2 a2 => ?_)
    have hF' : FrK mem m' := hF.tr k2.k59
    have m3 : m' 163 = setF (mem 163) o t := by rw [show m' 163 = M 163 from funext fun j => k2 163 j (by omega)]; exact M3
    have m4 : m' 164 = M 164 := funext fun j => k2 164 j (by omega)
    have e13 : m' 143 1 = mem 143 1 := hF' _ _ (by omega) (by omega) (by omega)
    have hQ' : QT m' (c + 18) := fun u hu => by
      rw [e13] at hu
      have hu' := hQ u hu
      rw [m3, m4, M4 u]
      unfold setF
      split
      · omega
      · omega
    have hU' : UtR m' d (m' 163) := fun u k hu hk => by
      rw [a2 u k hu hk, M9, kU u k hu hk, k1.rp9, un, bu, hF'.rp, m3, UsQ.set op hn t9, Int.one_mul]
      congr 1
      show cIf (rUn mem o = (u : Int)) (us1 d t (rBu mem o) k) 0 = if rUn mem o = (u : Int) then us1 d t (rBu mem o) k else 0
      by_cases w : rUn mem o = (u : Int)
      · rw [cIf.y w, if_pos w]
      · rw [cIf.n w, if_neg w]
    refine cq_99e (c := c + 18) (hF'.rest h) (hF'.nds hN) hd ⟨by omega, by omega⟩ (by omega) (by rw [m3]; unfold setF; rw [if_pos rfl]; exact t1) (fun m2 g1 g2 g3 g4 g5 => ⟨rfl, H m2 t (hF'.tr g1) g2 g5 hP (fun j hj => ?_) (fun j hj => ?_)⟩) 9 0 m' (by omega) (by omega) FrK.rf hQ' rfl rfl hU'
    · rw [g3, m4, M4 j]
    · rw [g4 j (by omega), hF'.rp, m3, e13]
  have at35 : ∀ (t : Int) (m : MM), r ≤ t → t ≤ r + d → Fr1 159 mem m → UtR m d (mem 163) → (∀ t', r ≤ t' → t' < t → ¬ RmQ (RPb mem d) (mem 163) o t') → (t = r + d ∨ RmQ (RPb mem d) (mem 163) o t) → Wx (Ex S (n + 3)) S M_285 (fun r m => r = none ∧ K m) 35 [some (.inr 143), some (.inl (o : Int)), some (.inl d), some (.inl r), some (.inl t), none, none, none] [] m := by
    intro t m t1 t2 k1 kU hno hend
    have e164 : m 164 o = mem 164 o := k1 164 o (by omega)
    have out : t = r + d → ∀ x, x = max r (mem 164 o + 1) → PlQ (RPb mem d) (mem 163) (mem 164) o x := fun e x hx => ⟨r, rE, Or.inr ⟨fun t' z1 z2 => hno t' z1 (Int.lt_of_lt_of_le (show t' < r + d from z2) (show r + d ≤ t by omega)), hx⟩⟩
    refine w_285_35 (Ex.mono S (n + 3)) ⟨by unfold InI; omega, fun q => at71 t m (by omega) (by omega) k1 kU ?_, fun q => ⟨ho8, fun v1 e1 _ => ⟨fun w => ⟨ho8, fun v2 e2 _ => ?_⟩, fun w => at71 r m r1 (by omega) k1 kU (out (by omega) r ?_)⟩⟩⟩
    · exact ⟨r, rE, Or.inl ⟨t1, show t < r + d by omega, hend.resolve_left q, hno⟩⟩
    · rw [Int.toNat_natCast] at e2
      exact ⟨by unfold InI; omega, f_257 (fun _ _ => at71 _ m (by omega) (by omega) k1 kU (out (by omega) _ (by rw [e2, e164])))⟩
    · rw [Int.toNat_natCast] at e1
      omega
  have key : ∀ (N : Nat) (t : Int) (m : MM), r ≤ t → t ≤ r + d → (r + d - t).toNat < N → Fr1 159 mem m → UtR m d (mem 163) → (∀ t', r ≤ t' → t' < t → ¬ RmQ (RPb mem d) (mem 163) o t') → Wx (Ex S (n + 3)) S M_285 (fun r m => r = none ∧ K m) 10 [some (.inr 143), some (.inl (o : Int)), some (.inl d), some (.inl r), some (.inl t), none, none, none] [] m := by
    intro N
    induction N with
    | zero => intros; omega
    | succ N ih =>
      intro t m t1 t2 hNN k1 kU hno
      have hm := k1.k59.rest h
      have un : rUn m o = rUn mem o := by unfold rUn; rw [k1 144 o (by omega), k1 150 _ (by omega)]
      have bu : rBu m o = rBu mem o := by unfold rBu; rw [k1 144 o (by omega), k1 152 _ (by omega)]
      have al := alle t
      refine w_285_10 (Ex.mono S (n + 3)) ⟨by unfold InI; omega, fun q => at35 t m t1 t2 k1 kU hno (Or.inl (by omega)), fun q => f_287e hm hd (by rw [k1 143 1 (by omega)]; exact ho) ⟨by omega, by omega⟩ kU (fun m' k2 kU2 hr _ => ⟨fun _ => at35 t m' t1 t2 (k1.tr k2) kU2 hno (Or.inr ?_), fun z => absurd (by decide) z⟩) (fun m' k2 kU2 hr _ => ⟨fun z => absurd rfl z, fun _ => ⟨by unfold InI; omega, ih (t + 1) m' (by omega) (by omega) (by omega) (k1.tr k2) kU2 (fun t' z1 z2 => ?_)⟩⟩)⟩
      · rw [un, bu, k1.rp9, k1 153 _ (by omega)] at hr
        exact al.mp hr
      · by_cases e : t' = t
        · rw [e]
          rw [un, bu, k1.rp9, k1 153 _ (by omega)] at hr
          exact fun w => hr (al.mpr w)
        · exact hno t' z1 (by omega)
  exact key _ r mem (by omega) (by omega) (Nat.lt_succ_self _) Fr1.rf hU (fun t' z1 z2 => absurd z2 (by omega))
theorem f_283e (h : RefOK mem) (hN : NdsOK mem) (hd : 1 ≤ d ∧ d ≤ 12) (hE : NoUp (RPb mem d).E) {o : Nat} (ho : (o : Int) < mem 143 1) (H1 : ∀ m', Fr1 159 mem m' → OnQ (RPb mem d) o → K 1 m') (H0 : ∀ m', Fr1 159 mem m' → ¬ OnQ (RPb mem d) o → K 0 m') : CWI (Ex S (n + 3)) 283 [.inr 143, .inl (o : Int), .inl d] mem K := by
  have h8 := h.ops.1
  have h48 := hN.2.1
  have ug := rUn_rg h ho
  have bg := rBu_rg h ho
  have key : ∀ (N : Nat) (k : Nat), (k : Int) ≤ mem 143 12 → (mem 143 12 - k).toNat < N → Wx (Ex S (n + 2)) S M_283 (fun r m => ∃ y, r = some y ∧ K y m) 2 [some (.inr 143), some (.inl (o : Int)), some (.inl d), some (.inl (k : Int))] [] mem := by
    intro N
    induction N with
    | zero => intros; omega
    | succ N ih =>
      intro k hk hNN
      refine w_283_2 (Ex.mono S (n + 2)) (fun v1 e1 _ => ⟨fun q => ?_, fun q => ?_⟩)
      · refine f_270e (fun m2 k2 z2 => ?_)
        have hm2 := k2.k59.rest h
        have un2 : rUn m2 o = rUn mem o := by unfold rUn; rw [k2 144 o (by omega), k2 150 _ (by omega)]
        have bu2 : rBu m2 o = rBu mem o := by unfold rBu; rw [k2 144 o (by omega), k2 152 _ (by omega)]
        refine f_271e hm2.ops hm2.un (by omega) ⟨by omega, by omega⟩ hd (Or.inl rfl) ⟨by omega, by omega⟩ (fun u k hu hk => by rw [z2 _ (by omega)]; omega) (fun m3 k3 a3 => ?_)
        have hm3 := (k2.tr k3).k59.rest h
        have un3 : rUn m3 o = rUn mem o := by unfold rUn; rw [(k2.tr k3) 144 o (by omega), (k2.tr k3) 150 _ (by omega)]
        have cell : ∀ k : Nat, k < 12 → m3 159 (12 * (rUn mem o).toNat + k) = us1 d 0 (rBu mem o) k := fun k hk => by
          rw [a3 _ k (by omega) hk, z2 _ (by omega), un2, bu2, cIf.y (show rUn mem o = (((rUn mem o).toNat : Nat) : Int) by omega), Int.one_mul, Int.zero_add]
        refine f_264e hm3.ops ⟨by omega, by omega⟩ (fun _ => ?_)
        rw [Int.toNat_natCast, un3]
        refine f_273e ⟨by omega, by omega⟩ hd (fun ⟨k, q1, q2⟩ _ => ⟨fun _ => ⟨_, rfl, H0 _ (k2.tr k3) (fun w => ?_)⟩, fun z => absurd (by decide) z⟩) (fun all _ => ⟨fun z => absurd rfl z, fun _ => ⟨_, rfl, H1 _ (k2.tr k3) (fun k q1 q2 => ?_)⟩⟩)
        · rw [cell k (by omega), (k2.tr k3) 153 _ (by omega)] at q2
          have : us1 d 0 (rBu mem o) k ≤ mem 153 (rUn mem o).toNat := w k (by omega) q1
          omega
        · have q2' : k < d := q2
          have w := all k.toNat (by omega)
          rw [cell k.toNat (by omega), (k2.tr k3) 153 _ (by omega), show ((k.toNat : Nat) : Int) = k by omega] at w
          exact w
      · have hk48 : 0 ≤ (k : Int) ∧ (k : Int) < 48 := by omega
        obtain ⟨p1, p2, p3, p4, p5, p6, p7, p8, p9⟩ := hN.2.2 k (by omega)
        have nx : InI ((k : Int) + 1) ∧ Wx (Ex S (n + 2)) S M_283 (fun r m => ∃ y, r = some y ∧ K y m) 2 [some (.inr 143), some (.inl (o : Int)), some (.inl d), some (.inl ((k : Int) + 1))] [] mem := ⟨by unfold InI; omega, ih (k + 1) (by omega) (by omega)⟩
        rw [Int.toNat_natCast]
        refine ⟨hk48, fun v8 e8 _ => ⟨fun _ => nx, fun z8 => ⟨hk48, fun v9 e9 _ => ⟨fun _ => nx, fun z9 => ⟨hk48, fun v10 e10 _ => ⟨hk48, fun v11 e11 _ => ?_⟩⟩⟩⟩⟩⟩
        have dd := d7 (x := v11) hd (by omega)
        refine ⟨by unfold InI; omega, fun _ => nx, fun w => ?_⟩
        have ed : (RPb mem d).E o o (mem 157 k - d * mem 156 k) := ⟨k, by omega, e8.symm.trans (Decidable.of_not_not z8), e9.symm.trans (Decidable.of_not_not z9), rfl⟩
        have := hE o [] _ List.nodup_nil ed
        rw [e11, e10] at w
        exact absurd (by omega) w
  exact CW.of (k := 1) mt_283 rfl rfl (w_283_0 (Ex.mono S (n + 2)) (key 49 0 (by omega) (by omega)))
theorem abR_h {m : MM} (h8 : 0 ≤ m 143 1 ∧ m 143 1 ≤ 8) (hV : ∀ a b x, (RPb m d).E a b x → a < (m 143 1).toNat ∧ b < (m 143 1).toNat) (hW : WyA m d) {o : Nat} (ho : (o : Int) < m 143 1) : HgQ (RPb m d).E o (abR m o) := by
  have key : ∀ i : Nat, (i : Int) ≤ m 143 1 → 0 ≤ mxW (fun b => WM m 158 o b) i ∧ (∀ b : Nat, b < i → ∀ l v, Wk (RPb m d).E o l b v → v ≤ mxW (fun b => WM m 158 o b) i) ∧ (mxW (fun b => WM m 158 o b) i = 0 ∨ ∃ b l, Wk (RPb m d).E o l b (mxW (fun b => WM m 158 o b) i)) := fun i => by
    induction i with
    | zero => intro _; exact ⟨Int.le_refl _, fun b hb => absurd hb (Nat.not_lt_zero _), Or.inl rfl⟩
    | succ i ih =>
      intro hi
      obtain ⟨a1, a2, a3⟩ := ih (by omega)
      have e : mxW (fun b => WM m 158 o b) (i + 1) = max (mxW (fun b => WM m 158 o b) i) (WM m 158 o i) := rfl
      rw [e]
      refine ⟨by omega, fun b hb l v w => ?_, ?_⟩
      · by_cases q : b = i
        · subst q
          rcases hW o b ho (by omega) with ⟨-, y⟩ | ⟨-, -, y⟩
          · exact absurd w (y l v)
          · have := y l v w
            omega
        · have := a2 b (by omega) l v w
          omega
      · by_cases q : mxW (fun b => WM m 158 o b) i < WM m 158 o i
        · rcases hW o i ho (by omega) with ⟨y, -⟩ | ⟨-, ⟨l, y⟩, -⟩
          · omega
          · exact Or.inr ⟨i, l, by rw [show max (mxW (fun b => WM m 158 o b) i) (WM m 158 o i) = WM m 158 o i by omega]; exact y⟩
        · rw [show max (mxW (fun b => WM m 158 o b) i) (WM m 158 o i) = mxW (fun b => WM m 158 o b) i by omega]
          exact a3
  obtain ⟨a1, a2, a3⟩ := key (m 143 1).toNat (by omega)
  exact ⟨a1, fun b l v w => a2 b (Wk.ends hV w).2.1 l v w, a3⟩
theorem f_282e {h0 : Nat → Int} (h : RefOK mem) (hN : NdsOK mem) (hd : 1 ≤ d ∧ d ≤ 12) (hE : NoUp (RPb mem d).E) (hV : ∀ a b x, (RPb mem d).E a b x → a < (RPb mem d).n ∧ b < (RPb mem d).n) (hh : ∀ o : Nat, (o : Int) < mem 143 1 → abR mem o = h0 o) (H : ∀ r m', r = 0 ∨ r = 1 → FrM mem m' → QkX (RPb mem d) h0 r (m' 143 25) (m' 163) → K r m') : CWI (Ex S (n + 5)) 282 [.inr 143, .inl d] mem K := by
  have h8 := h.ops.1
  have nP : (RPb mem d).n = (mem 143 1).toNat := rfl
  have ugP : ∀ j, j < (RPb mem d).n → 0 ≤ (RPb mem d).un j ∧ (RPb mem d).un j < 3 := fun j hj => by
    have := rUn_rg h (o := j) (by omega)
    show 0 ≤ rUn mem j ∧ rUn mem j < 3
    omega
  have abM : ∀ m, FrM mem m → ∀ o : Nat, (o : Int) < m 143 1 → abR m o = h0 o := fun m hF o ho => by
    have e : abR m o = abR mem o := by
      unfold abR
      rw [hF 143 1 (by omega) (by omega) (by omega) (by omega), show (fun b => WM m 158 o b) = fun b => WM mem 158 o b from funext fun b => hF 158 _ (by omega) (by omega) (by omega) (by omega)]
    rw [e]
    rw [hF 143 1 (by omega) (by omega) (by omega) (by omega)] at ho
    exact hh o ho
  have l71 : (∀ j, j < (RPb mem d).n → OnQ (RPb mem d) j) → ∀ (N : Nat) (r : Int) (i : Nat) (m : MM) (X Y : Nat → Nat → Int), ((r = -1 ∧ AlQ (RPb mem d) (m 163)) ∨ (∃ o : Nat, r = (o : Int) ∧ HiQ (RPb mem d) h0 (m 163) o)) → 48 - i < N → m 143 25 = (i : Int) → i ≤ 6 * (mem 143 1).toNat → FrM mem m → QT m (18 * m 143 25) → UtR m d (m 163) → NoQ (RPb mem d) (m 163) → RuQ (RPb mem d) h0 X Y i → (∀ j, j < (RPb mem d).n → X i j = m 163 j ∧ Y i j = m 164 j) → Wx (Ex S (n + 4)) S M_282 (fun r m => ∃ y, r = some y ∧ K y m) 71 [some (.inr 143), some (.inl d), some (.inl r)] [] m := by
    intro hOn N
    induction N with
    | zero => intros; omega
    | succ N ih =>
      intro r i m X Y hr hNN c0 c1 hF hQ hU hNo hRu hXY
      have e1' : m 143 1 = mem 143 1 := hF _ _ (by omega) (by omega) (by omega) (by omega)
      have Cm : RPb m d = RPb mem d := hF.rp
      have alX : AlQ (RPb mem d) (X i) ↔ AlQ (RPb mem d) (m 163) := ⟨fun w => w.cg (fun a ha => (hXY a ha).1), fun w => w.cg (fun a ha => (hXY a ha).1.symm)⟩
      have f1 : AlQ (RPb mem d) (m 163) → ∃ y, some (1 : Int) = some y ∧ K y m := fun al => ⟨_, rfl, H _ _ (Or.inr rfl) hF (Or.inr ⟨hOn, X, Y, i, c0, c1, hRu, Or.inl ⟨rfl, alX.mpr al, fun j hj => (hXY j hj).1.symm⟩⟩)⟩
      have f0 : ¬ AlQ (RPb mem d) (m 163) → i = 6 * (mem 143 1).toNat → ∃ y, some (0 : Int) = some y ∧ K y m := fun al e => ⟨_, rfl, H _ _ (Or.inl rfl) hF (Or.inr ⟨hOn, X, Y, i, c0, c1, hRu, Or.inr ⟨rfl, fun w => al (alX.mp w), e⟩⟩)⟩
      rcases hr with ⟨rfl, al⟩ | ⟨o, rfl, hi⟩
      · exact w_282_71 (Ex.mono S (n + 4)) ⟨fun _ => ⟨fun z => absurd rfl z, fun _ => f1 al⟩, fun z => absurd rfl z⟩
      have nal : ¬ AlQ (RPb mem d) (m 163) := fun w => hi.2.1 (w o hi.1)
      refine w_282_71 (Ex.mono S (n + 4)) ⟨fun z => by omega, fun q v1 e1 _ v2 e2 _ => ⟨by unfold InI; omega, fun z => ⟨fun _ => f0 nal (by omega), fun y => absurd q y⟩, fun q2 => ?_⟩⟩
      have oo : (o : Int) < m 143 1 := by
        have : o < (mem 143 1).toNat := hi.1
        omega
      refine f_285e (FrM.rest hF h).1 (hF.nds hN) hd (c := 18 * m 143 25) ⟨by omega, by omega⟩ hQ oo hU (by rw [Cm]; exact hNo) hi.2.1 (fun m3 t k1 k2 k3 kP kL kT v4 e4 _ => ?_)
      rw [Cm] at kP kT
      rw [e1'] at kT kL
      have e4' : v4 = (i : Int) := by rw [e4, k1 _ _ (by omega) (by omega) (by omega)]; exact c0
      have mv : MvQ (RPb mem d) h0 (m 163) (m 164) (m3 163) (m3 164) := ⟨o, t, hi, kP, fun j hj => kL j (by omega), fun j hj => kT j (by omega)⟩
      have hNo3 : NoQ (RPb mem d) (m3 163) := mv.no (show 0 < d by omega) hNo hOn ugP (fun j hj => (hQ j (by omega)).2.1)
      have e13 : m3 143 1 = mem 143 1 := by rw [k1 _ _ (by omega) (by omega) (by omega)]; exact e1'
      rw [show v4 + 1 = ((i + 1 : Nat) : Int) by omega]
      have qq : ∀ A k, ¬ (A = 143 ∧ k = 25) → upm m3 143 25 ((i + 1 : Nat) : Int) A k = m3 A k := fun A k z => upm_ne z
      have e25 : upm m3 143 25 ((i + 1 : Nat) : Int) 143 25 = ((i + 1 : Nat) : Int) := upm_eq
      have e21 : upm m3 143 25 ((i + 1 : Nat) : Int) 143 1 = mem 143 1 := by rw [qq 143 1 (by omega)]; exact e13
      have r3 : upm m3 143 25 ((i + 1 : Nat) : Int) 163 = m3 163 := funext fun j => qq 163 j (by omega)
      have r4 : upm m3 143 25 ((i + 1 : Nat) : Int) 164 = m3 164 := funext fun j => qq 164 j (by omega)
      have hF5 : FrM mem (upm m3 143 25 ((i + 1 : Nat) : Int)) := (hF.tr k1.m).tr FrM.mv
      refine ⟨by unfold InI; omega, f_284e (h := h0) (d := d) (by rw [e21]; exact h8) (fun o ho => abM _ hF5 o ho) (fun r' hr' _ => ih r' (i + 1) _ (fun k => if k ≤ i then X k else m3 163) (fun k => if k ≤ i then Y k else m3 164) ?_ (by omega) e25 (by omega) hF5 (fun u hu => ?_) (k3.fr (fun j => qq 159 j (by omega)) (RPb.cgM (fun A k z => qq A k (by omega))) r3) (by rw [r3]; exact hNo3) ⟨fun j hj => ?_, fun k hk => ?_⟩ (fun j hj => ?_))⟩
      · rw [hF5.rp] at hr'
        exact hr'
      · rw [e21] at hu
        have := k2 u (by rw [e13]; exact hu)
        rw [e25, r3, r4]
        omega
      · show (if 0 ≤ i then X 0 else m3 163) j = -1 ∧ (if 0 ≤ i then Y 0 else m3 164) j = -1
        rw [if_pos (Nat.zero_le i), if_pos (Nat.zero_le i)]
        exact hRu.1 j hj
      · show ¬ AlQ (RPb mem d) (if k ≤ i then X k else m3 163) ∧ MvQ (RPb mem d) h0 (if k ≤ i then X k else m3 163) (if k ≤ i then Y k else m3 164) (if k + 1 ≤ i then X (k + 1) else m3 163) (if k + 1 ≤ i then Y (k + 1) else m3 164)
        rw [if_pos (show k ≤ i by omega), if_pos (show k ≤ i by omega)]
        by_cases e : k + 1 ≤ i
        · rw [if_pos e, if_pos e]
          exact hRu.2 k (by omega)
        · have ek : k = i := by omega
          subst ek
          rw [if_neg e, if_neg e]
          exact ⟨fun w => nal (alX.mp w), mv.cg hV (fun a ha => (hXY a ha).1.symm) (fun a ha => (hXY a ha).2.symm)⟩
      · show (if i + 1 ≤ i then X (i + 1) else m3 163) j = _ ∧ (if i + 1 ≤ i then Y (i + 1) else m3 164) j = _
        rw [if_neg (by omega), if_neg (by omega), r3, r4]
        exact ⟨rfl, rfl⟩
  have l38 : (∀ j, j < (RPb mem d).n → OnQ (RPb mem d) j) → ∀ (N : Nat) (o : Nat) (m : MM), (o : Int) ≤ mem 143 1 → (mem 143 1 - o).toNat < N → m 143 25 = 0 → FrM mem m → (∀ i, i < 36 → m 159 i = 0) → (∀ u : Nat, u < o → m 163 u = -1 ∧ m 164 u = -1) → Wx (Ex S (n + 4)) S M_282 (fun r m => ∃ y, r = some y ∧ K y m) 38 [some (.inr 143), some (.inl d), some (.inl (o : Int))] [] m := by
    intro hOn N
    induction N with
    | zero => intros; omega
    | succ N ih =>
      intro o m ho hNN c0 hF hz hA
      have e1' : m 143 1 = mem 143 1 := hF _ _ (by omega) (by omega) (by omega) (by omega)
      refine w_282_38 (Ex.mono S (n + 4)) (fun v1 e1 _ => ⟨fun q => f_284e (h := h0) (d := d) (by rw [e1']; exact h8) (abM m hF) (fun r hr _ => ?_), fun q => ⟨by omega, by omega, by unfold InI; omega, ?_⟩⟩)
      · rw [hF.rp] at hr
        have none : ∀ j, j < (RPb mem d).n → ¬ TiQ (m 163) j := fun j hj w => w (hA j (by omega)).1
        refine l71 hOn 49 r 0 m (fun _ => m 163) (fun _ => m 164) hr (by omega) c0 (by omega) hF (fun u hu => ?_) (fun u k hu hk => ?_) (fun u k a b c e => ?_) ⟨fun j hj => hA j (by omega), fun i hi => absurd hi (Nat.not_lt_zero _)⟩ (fun j hj => ⟨rfl, rfl⟩)
        · have := hA u (by omega)
          omega
        · rw [hz _ (by omega), hF.rp, UsQ_none none]
        · rw [UsQ_none none]
          have := h.cn u.toNat (by omega)
          show 0 ≤ mem 153 u.toNat
          omega
      · rw [Int.toNat_natCast]
        refine ih (o + 1) _ (by omega) (by omega) (by rw [upm_ne (by omega), upm_ne (by omega)]; exact c0) (hF.tr (FrK.m ((FrK.up (Or.inl rfl)).tr (FrK.up (Or.inr rfl))))) (fun i hi => by rw [upm_ne (by omega), upm_ne (by omega)]; exact hz i hi) (fun u hu => ?_)
        rw [upm_ne (A := 164) (B := 163) (by omega)]
        by_cases e : u = o
        · subst e; rw [upm_eq, upm_eq]; exact ⟨rfl, rfl⟩
        · rw [upm_ne (fun z => e z.2), upm_ne (fun z => e z.2), upm_ne (by omega)]; exact hA u (by omega)
  have l2 : ∀ (N : Nat) (o : Nat) (m : MM), (o : Int) ≤ mem 143 1 → (mem 143 1 - o).toNat < N → Fr1 159 mem m → (∀ j : Nat, j < o → OnQ (RPb mem d) j) → Wx (Ex S (n + 4)) S M_282 (fun r m => ∃ y, r = some y ∧ K y m) 2 [some (.inr 143), some (.inl d), some (.inl (o : Int))] [] m := by
    intro N
    induction N with
    | zero => intros; omega
    | succ N ih =>
      intro o m ho hNN hF hO
      have e1' : m 143 1 = mem 143 1 := hF _ _ (by omega)
      have hm := hF.k59.rest h
      refine w_282_2 (Ex.mono S (n + 4)) (fun v1 e1 _ => ⟨fun q => f_270e (fun m2 k2 z2 => l38 (fun j hj => hO j (by omega)) 9 0 _ (by omega) (by omega) upm_eq ((hF.tr k2).k59.m.tr FrM.mv) (fun i hi => by rw [upm_ne (by omega)]; exact z2 i hi) (fun u hu => absurd hu (Nat.not_lt_zero _))), fun q => f_283e hm (hF.k59.nds hN) hd (by rw [hF.rp9]; exact hE) (by omega) (fun m' k on _ => ⟨fun _ => ⟨by unfold InI; omega, ih (o + 1) m' (by omega) (by omega) (hF.tr k) (fun j hj => ?_)⟩, fun z => absurd (by decide) z⟩) (fun m' k on _ => ⟨fun z => absurd rfl z, fun _ => ⟨_, rfl, H _ _ (Or.inl rfl) (hF.tr k).k59.m (Or.inl ⟨⟨o, show o < (mem 143 1).toNat by omega, ?_⟩, rfl⟩)⟩⟩)⟩)
      · by_cases e : j = o
        · rw [e]
          rw [hF.rp9] at on
          exact on
        · exact hO j (by omega)
      · rw [hF.rp9] at on
        exact on
  exact CW.of (k := 1) mt_282 rfl rfl (w_282_0 (Ex.mono S (n + 4)) (l2 9 0 mem (by omega) (by omega) Fr1.rf (fun j hj => absurd hj (Nat.not_lt_zero _))))
end RQK
end
