/-! findsSlots comes to an end; fitsBy -/
def UnOK (m : MM) : Prop := ∀ k, k < 6 → 0 ≤ m 150 k ∧ m 150 k ≤ 2
def SlOK (m : MM) : Prop := ∀ o, o < 8 → -1 ≤ m 160 o ∧ m 160 o ≤ 12
theorem smN_congr {f g : Nat → Nat} : ∀ k, (∀ i, i < k → f i = g i) → smN f k = smN g k
  | 0, _ => rfl
  | k + 1, h => by simp only [smN]; rw [smN_congr k (fun i hi => h i (by omega)), h k (by omega)]
theorem FwI.congr {R : Int} {E : Nat → Nat → Int → Prop} {A k m a b : Nat} {mem mem' : MM} (e : ∀ i, mem' A i = mem A i) (h : FwI R E A k mem m a b) : FwI R E A k mem' m a b := by
  have e2 : WM mem' A = WM mem A := by funext x y; exact e _
  unfold FwI
  rw [e2]
  exact h
def Fr3 (m m' : MM) : Prop := ∀ A i, ¬ A = 159 → ¬ A = 160 → ¬ A = 162 → m' A i = m A i
theorem Fr3.rf {m : MM} : Fr3 m m := fun _ _ _ _ _ => rfl
theorem Fr3.tr {a b c : MM} (h1 : Fr3 a b) (h2 : Fr3 b c) : Fr3 a c := fun A i e1 e2 e3 => (h2 A i e1 e2 e3).trans (h1 A i e1 e2 e3)
theorem Fr1.f59 {a b : MM} (h : Fr1 159 a b) : Fr3 a b := fun A i e1 _ _ => h A i e1
theorem Fr1.f60 {a b : MM} (h : Fr1 160 a b) : Fr3 a b := fun A i _ e2 _ => h A i e2
theorem Fr1.f62 {a b : MM} (h : Fr1 162 a b) : Fr3 a b := fun A i _ _ e3 => h A i e3
theorem Fr3.ops {m m' : MM} (h : Fr3 m m') (H : OpsOK m) : OpsOK m' := by
  refine ⟨by rw [h 143 1 (by omega) (by omega) (by omega)]; exact H.1, fun o ho => ?_, fun k hk => by rw [h 151 k (by omega) (by omega) (by omega)]; exact H.2.2 k hk⟩
  have := H.2.1 o ho
  unfold OpOK at this ⊢
  rw [h 144 o (by omega) (by omega) (by omega), h 145 o (by omega) (by omega) (by omega), h 146 o (by omega) (by omega) (by omega), h 147 o (by omega) (by omega) (by omega), h 148 o (by omega) (by omega) (by omega)]
  exact this
theorem Fr3.un {m m' : MM} (h : Fr3 m m') (H : UnOK m) : UnOK m' := fun k hk => by rw [h 150 k (by omega) (by omega) (by omega)]; exact H k hk
theorem Fr3.nds {m m' : MM} (h : Fr3 m m') (H : NdsOK m) : NdsOK m' := by
  have e : ∀ A i, (A = 143 ∨ A = 154 ∨ A = 155 ∨ A = 156 ∨ A = 157) → m' A i = m A i := fun A i q => h A i (by omega) (by omega) (by omega)
  refine ⟨by rw [e 143 1 (by omega)]; exact H.1, by rw [e 143 12 (by omega)]; exact H.2.1, fun j hj => ?_⟩
  rw [e 143 12 (by omega)] at hj
  rw [e 143 1 (by omega), e 154 j (by omega), e 155 j (by omega), e 156 j (by omega), e 157 j (by omega)]
  exact H.2.2 j hj
theorem Fr3.way {m m' : MM} (h : Fr3 m m') {d : Int} (H : WayOK m d) : WayOK m' d := by
  have e : ∀ A i, (A = 143 ∨ A = 154 ∨ A = 155 ∨ A = 156 ∨ A = 157) → m' A i = m A i := fun A i q => h A i (by omega) (by omega) (by omega)
  have eE : NdE m' d = NdE m d := by
    funext a b x
    unfold NdE
    simp only [e 143 _ (by omega), e 154 _ (by omega), e 155 _ (by omega), e 156 _ (by omega), e 157 _ (by omega)]
  unfold WayOK at H ⊢
  rw [eE, e 143 1 (by omega)]
  exact H.congr (fun i => h 158 i (by omega) (by omega) (by omega))
theorem can0 (m : MM) (d : Int) : CanOK m d 0 := ⟨⟨fun a b h => by omega, fun _ a b h => by omega, fun _ a b h => by omega, fun φ _ a b h => by omega, fun a b x h => by omega⟩, fun o h => by omega⟩
section SLOTS
variable {S : Nat × (Nat → Int32)} {n : Nat} {mem : MM}
theorem f_264 {K : Int → MM → Prop} (hO : OpsOK mem) (hU : UnOK mem) {o : Int} (h : 0 ≤ o ∧ o < 8) (H : ∀ u, 0 ≤ u → u ≤ 2 → K u mem) : CWI (Ex S (n + 1)) 264 [.inr 143, .inl o] mem K := by
  obtain ⟨h1, h2, -⟩ := hO.2.1 o.toNat (by omega)
  refine CW.of (k := 0) mt_264 rfl rfl (w_264_0 (Ex.mono S n) ⟨h, fun v e _ => ⟨by omega, fun v2 e2 _ _ => ⟨_, rfl, ?_⟩⟩⟩)
  have := hU v.toNat (by omega)
  exact H _ (by omega) (by omega)
theorem f_265 {K : Int → MM → Prop} (hO : OpsOK mem) {o : Int} (h : 0 ≤ o ∧ o < 8) (H : ∀ u, K u mem) : CWI (Ex S (n + 1)) 265 [.inr 143, .inl o] mem K := by
  obtain ⟨h1, h2, -⟩ := hO.2.1 o.toNat (by omega)
  exact CW.of (k := 0) mt_265 rfl rfl (w_265_0 (Ex.mono S n) ⟨h, fun v e _ => ⟨by omega, fun v2 e2 _ _ => ⟨_, rfl, H _⟩⟩⟩)
theorem f_270 {K : MM → Prop} (H : ∀ m', Fr1 159 mem m' → K m') : CWV (Ex S (n + 1)) 270 [.inr 143] mem K := by
  refine CW.of (k := 1) mt_270 rfl rfl (w_270_0 (Ex.mono S n) ?_)
  have key : ∀ (N : Nat) (k : Nat) (m : MM), k ≤ 36 → 36 - k < N → Fr1 159 mem m → Wx (Ex S n) S M_270 (fun r m => r = none ∧ K m) 2 [some (.inr 143), some (.inl (k : Int))] [] m := by
    intro N
    induction N with
    | zero => intros; omega
    | succ N ih =>
      intro k m hk hN hF
      exact w_270_2 (Ex.mono S n) ⟨fun q => ⟨rfl, H m hF⟩, fun q => ⟨by omega, by unfold InI; omega, ih (k + 1) _ (by omega) (by omega) (hF.tr Fr1.up)⟩⟩
  exact key 37 0 mem (by omega) (by omega) Fr1.rf
theorem f_271 {K : MM → Prop} (hO : OpsOK mem) (hU : UnOK mem) {o t d by_ : Int} (ho : 0 ≤ o ∧ o < 8) (ht : -1000000 ≤ t ∧ t ≤ 1000000) (hd : 1 ≤ d ∧ d ≤ 12) (H : ∀ m', Fr1 159 mem m' → K m') : CWV (Ex S (n + 2)) 271 [.inr 143, .inl o, .inl t, .inl d, .inl by_] mem K := by
  refine CW.of (k := 1) mt_271 rfl rfl (w_271_0 (Ex.mono S (n + 1)) ?_)
  have key : ∀ (N : Nat) (k : Nat) (m : MM), k ≤ 4 → 4 - k < N → Fr1 159 mem m → Wx (Ex S (n + 1)) S M_271 (fun r m => r = none ∧ K m) 3 [some (.inr 143), some (.inl o), some (.inl t), some (.inl d), some (.inl by_), some (.inl (k : Int))] [] m := by
    intro N
    induction N with
    | zero => intros; omega
    | succ N ih =>
      intro k m hk hN hF
      have hO2 := hF.f59.ops hO
      have hU2 := hF.f59.un hU
      refine w_271_3 (Ex.mono S (n + 1)) ⟨fun q => ⟨rfl, H m hF⟩, fun q => f_265 hO2 ho (fun r _ b3 _ _ b4 _ _ => ⟨fun _ => ⟨by unfold InI; omega, ih (k + 1) m (by omega) (by omega) hF⟩, fun _ => ?_⟩)⟩
      refine f_264 hO2 hU2 ho (fun u u1 u2 _ => ⟨by unfold InI; omega, by unfold InI; omega, f_272 ⟨by omega, by omega⟩ (fun r r1 r2 _ => ?_)⟩)
      exact ⟨by unfold InI; omega, by omega, fun v9 _ _ z _ _ => ⟨by omega, by unfold InI; omega, ih (k + 1) _ (by omega) (by omega) (hF.tr Fr1.up)⟩⟩
  exact key 5 0 mem (by omega) (by omega) Fr1.rf
theorem f_273 {K : Int → MM → Prop} {u d : Int} (hu : 0 ≤ u ∧ u ≤ 2) (hd : 1 ≤ d ∧ d ≤ 12) (H : ∀ r, r = 0 ∨ r = 1 → K r mem) : CWI (Ex S (n + 1)) 273 [.inr 143, .inl u, .inl d] mem K := by
  refine CW.of (k := 1) mt_273 rfl rfl (w_273_0 (Ex.mono S n) ?_)
  have key : ∀ (N : Nat) (k : Nat), (k : Int) ≤ d → d - k < N → Wx (Ex S n) S M_273 (fun r m => ∃ y, r = some y ∧ K y m) 2 [some (.inr 143), some (.inl u), some (.inl d), some (.inl (k : Int))] [] mem := by
    intro N
    induction N with
    | zero => intros; omega
    | succ N ih =>
      intro k hk hN
      exact w_273_2 (Ex.mono S n) ⟨fun q => ⟨_, rfl, H _ (Or.inl rfl)⟩, fun q => ⟨by unfold InI; omega, by unfold InI; omega, by omega, fun v1 _ _ => ⟨by omega, fun v2 _ _ => ⟨fun _ => ⟨by unfold InI; omega, ih (k + 1) (by omega) (by omega)⟩, fun _ => ⟨_, rfl, H _ (Or.inr rfl)⟩⟩⟩⟩⟩
  exact key 13 0 (by omega) (by omega)
def odo (m : MM) (d : Int) : Nat → Nat := smN (fun i => (d - m 160 i).toNat * 14 ^ (8 - i))
theorem odo_eq {m m' : MM} {d : Int} {k : Nat} (h : ∀ i, i < k → m' 160 i = m 160 i) : odo m' d k = odo m d k := smN_congr k (fun i hi => by rw [h i hi])
theorem fs_20 {m0 : MM} {d : Int} (hO : OpsOK m0) (hU : UnOK m0) (hN : NdsOK m0) (hd : 1 ≤ d ∧ d ≤ 12) (hW : WayOK m0 d) {Kk : WK} (H1 : ∀ m', Fr3 m0 m' → SlOK m' → CanOK m' d (m0 143 1).toNat → (∀ o : Nat, (o : Int) < m0 143 1 → 0 ≤ m' 160 o ∧ m' 160 o ≤ d - 1) → Kk (some 1) m') (H0 : ∀ m', Fr3 m0 m' → SlOK m' → Kk (some 0) m') : ∀ (N : Nat) (j : Nat) (mem : MM), (j : Int) < m0 143 1 → odo mem d (j + 1) < N → Fr3 m0 mem → SlOK mem → (∀ i, i < j → 0 ≤ mem 160 i ∧ mem 160 i ≤ d - 1) → -1 ≤ mem 160 j → mem 160 j ≤ d - 1 → Wx (Ex S (n + 2)) S M_269 Kk 20 [some (.inr 143), some (.inl d), some (.inl (j : Int))] [] mem := by
  intro N
  induction N with
  | zero => intros; omega
  | succ N ih =>
    intro j mem hj hNN hF hS hA hs1 hs2
    have h8 := hO.1
    have hj8 : 0 ≤ (j : Int) ∧ (j : Int) < 8 := by omega
    have pw : 1 ≤ 14 ^ (8 - j) := Nat.one_le_pow _ _ (by omega)
    -- behind what was taken away
    have at51 : ∀ m, Fr1 159 mem m → Wx (Ex S (n + 2)) S M_269 Kk 51 [some (.inr 143), some (.inl d), some (.inl (j : Int))] [] m := by
      intro m h59
      have hF2 := hF.tr h59.f59
      have e60 : ∀ i, m 160 i = mem 160 i := fun i => h59 _ _ (by omega)
      refine w_269_51 (Ex.mono S (n + 2)) ⟨hj8, fun v1 e1 _ => ?_⟩
      rw [Int.toNat_natCast, e60] at e1
      refine ⟨by unfold InI; omega, hj8, hj8, fun v2 e2 _ => ?_⟩
      rw [Int.toNat_natCast] at e2 ⊢
      rw [upm_eq] at e2
      have hF3 : Fr3 m0 (upm m 160 j (v1 + 1)) := hF2.tr Fr1.up.f60
      have q60 : ∀ i, upm m 160 j (v1 + 1) 160 i = if i = j then v1 + 1 else mem 160 i := fun i => by
        by_cases e : i = j
        · subst e; rw [upm_eq, if_pos rfl]
        · rw [upm_ne (fun z => e z.2), if_neg e, e60]
      have hS3 : SlOK (upm m 160 j (v1 + 1)) := fun o ho => by
        rw [q60]
        split
        · omega
        · exact hS o ho
      have hod : odo mem d (j + 1) = odo mem d j + (d - mem 160 j).toNat * 14 ^ (8 - j) := rfl
      have low : ∀ m', (∀ i, i < j → m' 160 i = mem 160 i) → odo m' d j = odo mem d j := fun m' h => odo_eq h
      refine ⟨fun q => ?_, fun q => ⟨fun q2 => ⟨by unfold InI; omega, ?_⟩, fun q2 => H0 _ hF3 hS3⟩⟩
      · refine ⟨hj8, fun v3 e3 _ => ?_⟩
        rw [upm_eq] at e3
        refine f_271 (hF3.ops hO) (hF3.un hU) hj8 ⟨by omega, by omega⟩ hd (fun m4 k59 => ?_)
        have hF4 := hF3.tr k59.f59
        have q604 : ∀ i, m4 160 i = if i = j then v1 + 1 else mem 160 i := fun i => by rw [k59 160 i (by omega), q60]
        have hS4 : SlOK m4 := fun o ho => by rw [k59 160 o (by omega)]; exact hS3 o ho
        -- again at the same op
        have stay : ∀ m5, Fr1 162 m4 m5 → Wx (Ex S (n + 2)) S M_269 Kk 20 [some (.inr 143), some (.inl d), some (.inl (j : Int))] [] m5 := by
          intro m5 k62
          have q605 : ∀ i, m5 160 i = if i = j then v1 + 1 else mem 160 i := fun i => by rw [k62 160 i (by omega), q604]
          refine ih j m5 hj ?_ (hF4.tr k62.f62) (fun o ho => by rw [k62 160 o (by omega)]; exact hS4 o ho) (fun i hi => by rw [q605, if_neg (by omega)]; exact hA i hi) (by rw [q605, if_pos rfl]; omega) (by rw [q605, if_pos rfl]; omega)
          have e5 : odo m5 d (j + 1) = odo m5 d j + (d - m5 160 j).toNat * 14 ^ (8 - j) := rfl
          have e6 := low m5 (fun i hi => by rw [q605, if_neg (by omega)])
          have e7 : (d - m5 160 j).toNat + 1 = (d - mem 160 j).toNat := by rw [q605, if_pos rfl]; omega
          rw [← e7, Nat.add_mul, Nat.one_mul] at hod
          omega
        refine f_264 (hF4.ops hO) (hF4.un hU) hj8 (fun u u1 u2 _ => f_273 ⟨u1, u2⟩ hd (fun r _ _ => ⟨fun _ => stay m4 Fr1.rf, fun _ => ⟨by unfold InI; omega, ?_⟩⟩))
        have hW4 := hF4.way hW
        have eo4 : m4 143 1 = m0 143 1 := hF4 _ _ (by omega) (by omega) (by omega)
        rw [show ((j : Int) + 1) = ((j + 1 : Nat) : Int) by omega]
        refine f_274 (k := j + 1) ⟨by omega, by omega⟩ hd (fun a b ha hb => hW4.1 a b (by omega) (by omega)) hS4 (fun m9 k62 hC _ => ⟨fun _ => ?_, fun z => absurd (by decide) z⟩) (fun m9 k62 _ => ⟨fun z => absurd rfl z, fun _ => stay m9 k62⟩)
        have hF9 := hF4.tr k62.f62
        have q609 : ∀ i, m9 160 i = if i = j then v1 + 1 else mem 160 i := fun i => by rw [k62 160 i (by omega), q604]
        have hS9 : SlOK m9 := fun o ho => by rw [k62 160 o (by omega)]; exact hS4 o ho
        have hA9 : ∀ i, i < j + 1 → 0 ≤ m9 160 i ∧ m9 160 i ≤ d - 1 := fun i hi => by
          rw [q609]
          split
          · omega
          · exact hA i (by omega)
        have eo9 : m9 143 1 = m0 143 1 := hF9 _ _ (by omega) (by omega) (by omega)
        refine ⟨by unfold InI; omega, fun v11 e11 _ => ⟨fun z => ?_, fun z => ⟨by omega, ?_⟩⟩⟩
        · have e11 : v11 = m0 143 1 := by rw [e11]; exact hF9 _ _ (by omega) (by omega) (by omega)
          refine w_269_20 (Ex.mono S (n + 2)) (fun v e _ => ⟨fun _ => H1 m9 hF9 hS9 ?_ (fun o ho => hA9 o (by omega)), fun z2 => ?_⟩)
          · rw [show (m0 143 1).toNat = j + 1 by omega]; exact hC
          · have e : v = m0 143 1 := by rw [e]; exact hF9 _ _ (by omega) (by omega) (by omega)
            omega
        · have e11 : v11 = m0 143 1 := by rw [e11]; exact hF9 _ _ (by omega) (by omega) (by omega)
          rw [Int.toNat_natCast]
          have q6 : ∀ i, upm m9 160 (j + 1) (-1) 160 i = if i = j + 1 then -1 else if i = j then v1 + 1 else mem 160 i := fun i => by
            by_cases e : i = j + 1
            · subst e; rw [upm_eq, if_pos rfl]
            · rw [upm_ne (fun z => e z.2), if_neg e, q609]
          refine ih (j + 1) _ (by omega) ?_ (hF9.tr Fr1.up.f60) (fun o ho => ?_) (fun i hi => ?_) (by rw [q6, if_pos rfl]; omega) (by rw [q6, if_pos rfl]; omega)
          · have e5 : odo (upm m9 160 (j + 1) (-1)) d (j + 1 + 1) = odo (upm m9 160 (j + 1) (-1)) d j + (d - upm m9 160 (j + 1) (-1) 160 j).toNat * 14 ^ (8 - j) + (d - upm m9 160 (j + 1) (-1) 160 (j + 1)).toNat * 14 ^ (8 - (j + 1)) := rfl
            have e6 := low (upm m9 160 (j + 1) (-1)) (fun i hi => by rw [q6, if_neg (by omega), if_neg (by omega)])
            have e7 : (d - upm m9 160 (j + 1) (-1) 160 j).toNat + 1 = (d - mem 160 j).toNat := by rw [q6, if_neg (by omega), if_pos rfl]; omega
            have e8 : (d - upm m9 160 (j + 1) (-1) 160 (j + 1)).toNat ≤ 13 := by rw [q6, if_pos rfl]; omega
            have e9 : 14 ^ (8 - j) = 14 ^ (8 - (j + 1)) * 14 := by rw [show 8 - j = (8 - (j + 1)) + 1 by omega, Nat.pow_succ]
            have e10 := Nat.mul_le_mul_right (14 ^ (8 - (j + 1))) e8
            have p2 : 1 ≤ 14 ^ (8 - (j + 1)) := Nat.one_le_pow _ _ (by omega)
            rw [← e7, Nat.add_mul, Nat.one_mul] at hod
            omega
          · rw [q6]
            split
            · omega
            · split
              · omega
              · exact hS o ho
          · rw [q6, if_neg (by omega)]
            split
            · omega
            · exact hA i (by omega)
      · rw [show (j : Int) + -1 = ((j - 1 : Nat) : Int) by omega]
        have hA1 := hA (j - 1) (by omega)
        refine ih (j - 1) _ (by omega) ?_ hF3 hS3 (fun i hi => by rw [q60, if_neg (by omega)]; exact hA i (by omega)) (by rw [q60, if_neg (by omega)]; omega) (by rw [q60, if_neg (by omega)]; omega)
        have e6 := low (upm m 160 j (v1 + 1)) (fun i hi => by rw [q60, if_neg (by omega)])
        rw [show j - 1 + 1 = j by omega, e6]
        have e7 : (d - mem 160 j).toNat = 1 := by omega
        rw [e7, Nat.one_mul] at hod
        omega
    refine w_269_20 (Ex.mono S (n + 2)) (fun v e _ => ⟨fun q => ?_, fun q => ⟨hj8, fun v2 e2 _ => ⟨fun q2 => at51 mem Fr1.rf, fun q2 => ⟨hj8, fun v3 e3 _ => ?_⟩⟩⟩⟩)
    · have e : v = m0 143 1 := by rw [e]; exact hF _ _ (by omega) (by omega) (by omega)
      omega
    · rw [Int.toNat_natCast] at e3
      exact f_271 (hF.ops hO) (hF.un hU) hj8 ⟨by omega, by omega⟩ hd (fun m4 k59 => at51 m4 k59)
theorem f_269 {K : Int → MM → Prop} {d : Int} (hO : OpsOK mem) (hU : UnOK mem) (hN : NdsOK mem) (hSl : SlOK mem) (hd : 1 ≤ d ∧ d ≤ 12) (hW : WayOK mem d) (H1 : ∀ m', Fr3 mem m' → SlOK m' → CanOK m' d (mem 143 1).toNat → (∀ o : Nat, (o : Int) < mem 143 1 → 0 ≤ m' 160 o ∧ m' 160 o ≤ d - 1) → K 1 m') (H0 : ∀ m', Fr3 mem m' → SlOK m' → K 0 m') : CWI (Ex S (n + 3)) 269 [.inr 143, .inl d] mem K := by
  refine CW.of (k := 1) mt_269 rfl rfl (w_269_0 (Ex.mono S (n + 2)) (f_270 (fun m1 k59 v2 e2 _ => ?_)))
  have h8 := hO.1
  have hF := k59.f59
  have e2 : v2 = mem 143 1 := by rw [e2]; exact k59 _ _ (by omega)
  have hS1 : SlOK m1 := fun o ho => by rw [k59 160 o (by omega)]; exact hSl o ho
  refine ⟨fun q => ?_, fun q => ⟨by omega, ?_⟩⟩
  · refine w_269_20 (Ex.mono S (n + 2)) (fun v e _ => ⟨fun _ => ⟨_, rfl, H1 m1 hF hS1 ?_ (fun o ho => by omega)⟩, fun z2 => ?_⟩)
    · rw [show (mem 143 1).toNat = 0 by omega]; exact can0 _ _
    · have e : v = mem 143 1 := by rw [e]; exact k59 _ _ (by omega)
      omega
  · refine fs_20 hO hU hN hd hW (fun m' a b c e => ⟨_, rfl, H1 m' a b c e⟩) (fun m' a b => ⟨_, rfl, H0 m' a b⟩) _ 0 _ (by omega) (Nat.lt_succ_self _) (hF.tr Fr1.up.f60) (fun o ho => ?_) (fun i hi => by omega) ?_ ?_
    · by_cases e : o = (0 : Int).toNat
      · rw [e, upm_eq]; omega
      · rw [upm_ne (fun z => e z.2)]; exact hS1 o ho
    · rw [show (0 : Int).toNat = 0 from rfl, upm_eq]; omega
    · rw [show (0 : Int).toNat = 0 from rfl, upm_eq]; omega
/-- all that fitsBy may write -/
def FrF (m m' : MM) : Prop := ∀ A i, ¬ A = 154 → ¬ A = 155 → ¬ A = 156 → ¬ A = 157 → ¬ A = 158 → ¬ A = 159 → ¬ A = 160 → ¬ A = 161 → ¬ A = 162 → ¬ (A = 143 ∧ i = 12) → m' A i = m A i
theorem FrW.f {a b : MM} (h : FrW a b) : FrF a b := fun A i e1 e2 e3 e4 e5 _ _ _ _ e6 => h A i e1 e2 e3 e4 e5 e6
theorem Fr3.f {a b : MM} (h : Fr3 a b) : FrF a b := fun A i _ _ _ _ _ e1 e2 _ e3 _ => h A i e1 e2 e3
theorem Fr1.t {a b : MM} (h : Fr1 161 a b) : FrF a b := fun A i _ _ _ _ _ _ _ e _ _ => h A i e
theorem FrF.tr {a b c : MM} (h1 : FrF a b) (h2 : FrF b c) : FrF a c := fun A i a1 a2 a3 a4 a5 a6 a7 a8 a9 a10 => (h2 A i a1 a2 a3 a4 a5 a6 a7 a8 a9 a10).trans (h1 A i a1 a2 a3 a4 a5 a6 a7 a8 a9 a10)
theorem FrW.ops {m m' : MM} (h : FrW m m') (H : OpsOK m) : OpsOK m' := by
  have e : ∀ A i, (A = 144 ∨ A = 145 ∨ A = 146 ∨ A = 147 ∨ A = 148 ∨ A = 151) → m' A i = m A i := fun A i q => h A i (by omega) (by omega) (by omega) (by omega) (by omega) (by omega)
  refine ⟨by rw [h 143 1 (by omega) (by omega) (by omega) (by omega) (by omega) (by omega)]; exact H.1, fun o ho => ?_, fun k hk => by rw [e 151 k (by omega)]; exact H.2.2 k hk⟩
  have := H.2.1 o ho
  unfold OpOK at this ⊢
  rw [e 144 o (by omega), e 145 o (by omega), e 146 o (by omega), e 147 o (by omega), e 148 o (by omega)]
  exact this
def TmOK (m : MM) (d : Int) : Prop := ∀ o : Nat, (o : Int) < m 143 1 → 0 ≤ m 161 o ∧ m 161 o ≤ 42 + 9 * (d - 1)
theorem f_268 {K : Int → MM → Prop} {d : Int} (hO : OpsOK mem) (hU : UnOK mem) (hSl : SlOK mem) (hL : mem 143 18 = -1) (hd : 1 ≤ d ∧ d ≤ 12) (H1 : ∀ m', FrF mem m' → RN mem m' → SlOK m' → SoundM mem → NdsOK m' → m' 143 12 ≤ 44 → TmOK m' d → K 1 m') (H0 : ∀ m', FrF mem m' → RN mem m' → SlOK m' → (∀ o, m' 161 o = mem 161 o) → K 0 m') : CWI (Ex S (n + 5)) 268 [.inr 143, .inl d] mem K := by
  refine CW.of (k := 0) mt_268 rfl rfl (w_268_0 (Ex.mono S (n + 4)) (f_254 hO (fun m1 k1 r1 _ => ⟨fun z => absurd z (by decide), fun _ => ⟨_, rfl, H0 m1 k1.f r1 (fun o ho => ?_) (fun o => k1 _ _ (by omega) (by omega) (by omega) (by omega) (by omega) (by omega))⟩⟩) (fun m1 k1 r1 hS hN h44 _ => ⟨fun _ => ?_, fun z => absurd rfl z⟩)))
  · rw [k1 160 o (by omega) (by omega) (by omega) (by omega) (by omega) (by omega)]; exact hSl o ho
  · refine f_256 hN ⟨by omega, by omega⟩ (fun m2 k2 hW => ?_)
    have kW := k1.tr k2.w
    have hO2 := kW.ops hO
    have hU2 : UnOK m2 := fun k hk => by rw [kW 150 k (by omega) (by omega) (by omega) (by omega) (by omega) (by omega)]; exact hU k hk
    have hS2 : SlOK m2 := fun o ho => by rw [kW 160 o (by omega) (by omega) (by omega) (by omega) (by omega) (by omega)]; exact hSl o ho
    have hN2 := hN.fr k2
    refine f_269 hO2 hU2 hN2 hS2 hd hW (fun m3 k3 s3 c3 t3 _ => ⟨fun _ => ?_, fun z => absurd (by decide) z⟩) (fun m3 k3 s3 _ => ⟨fun z => absurd rfl z, fun _ => ⟨_, rfl, H0 m3 (kW.f.tr k3.f) ((r1.tr (k2.rn (by omega))).tr (RN.same (fun B i e => k3 B i (by omega) (by omega) (by omega)) (k3 _ _ (by omega) (by omega) (by omega)))) s3 (fun o => ?_)⟩⟩)
    · have eo : m3 143 1 = m2 143 1 := k3 _ _ (by omega) (by omega) (by omega)
      refine f_276 (k3.nds hN2) hd ?_ (k3.way hW) (by rw [eo]; exact c3) (fun o ho => t3 o (by omega)) (fun m4 k4 b4 => ⟨_, rfl, H1 m4 ((kW.f.tr k3.f).tr k4.t) (((r1.tr (k2.rn (by omega))).tr (RN.same (fun B i e => k3 B i (by omega) (by omega) (by omega)) (k3 _ _ (by omega) (by omega) (by omega)))).tr (k4.rn (by omega))) (fun o ho => by rw [k4 160 o (by omega)]; exact s3 o ho) hS ?_ ?_ ?_⟩)
      · rw [k3 143 18 (by omega) (by omega) (by omega), kW 143 18 (by omega) (by omega) (by omega) (by omega) (by omega) (by omega)]; exact hL
      · have hN3 := k3.nds hN2
        have e : ∀ A i, ¬ A = 161 → m4 A i = m3 A i := fun A i q => k4 A i q
        refine ⟨by rw [e 143 1 (by omega)]; exact hN3.1, by rw [e 143 12 (by omega)]; exact hN3.2.1, fun j hj => ?_⟩
        rw [e 143 12 (by omega)] at hj
        rw [e 143 1 (by omega), e 154 j (by omega), e 155 j (by omega), e 156 j (by omega), e 157 j (by omega)]
        exact hN3.2.2 j hj
      · rw [k4 143 12 (by omega), k3 143 12 (by omega) (by omega) (by omega), k2 143 12 (by omega)]; exact h44
      · intro o ho
        rw [k4 143 1 (by omega)] at ho
        exact b4 o ho
    · rw [k3 161 o (by omega) (by omega) (by omega)]
      exact kW _ _ (by omega) (by omega) (by omega) (by omega) (by omega) (by omega)
end SLOTS
