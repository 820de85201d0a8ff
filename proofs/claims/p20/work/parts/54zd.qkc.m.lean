section
/-! QUICK in the class, exactly -/
noncomputable def qTc (m : MM) : Nat → Int := fun o => cIf (Bt (m 129 3) o) (m 130 o) (-1)
theorem qTc.y {m : MM} {o : Nat} (h : Bt (m 129 3) o) : qTc m o = m 130 o := cIf.y h
theorem qTc.ti {m : MM} (hT : HTm m) {o : Nat} (ho : o < 8) : TiQ (qTc m) o ↔ Bt (m 129 3) o := by
  have t := (hT o ho).1
  unfold TiQ
  by_cases q : Bt (m 129 3) o
  · rw [qTc.y q]
    exact ⟨fun _ => q, fun _ => by omega⟩
  · rw [show qTc m o = -1 from cIf.n q]
    exact ⟨fun z => absurd rfl z, fun z => absurd z q⟩
theorem tb_bt {t : Int} {o : Nat} (ho : o < 8) : tb t (o : Int) ↔ Bt t o := by
  have a := tb_of (t := t) (o := (o : Int)) rfl rfl
  have b := Bt_tst (t := t) (o := (o : Int)) ⟨by omega, by omega⟩ rfl rfl
  rw [Int.toNat_natCast] at b
  rw [← b, a]
  exact ⟨fun z w => w z, fun z => Classical.not_not.mp z⟩
theorem uzQ_rg {d s bu k : Int} : ∀ i : Nat, 0 ≤ uzR d s bu k i ∧ uzR d s bu k i ≤ i
  | 0 => by
    show (0 : Int) ≤ 0 ∧ (0 : Int) ≤ ((0 : Nat) : Int)
    omega
  | i + 1 => by
    have g := uzQ_rg (d := d) (s := s) (bu := bu) (k := k) i
    show 0 ≤ uzR d s bu k i + _ ∧ uzR d s bu k i + _ ≤ ((i + 1 : Nat) : Int)
    split <;> omega
theorem uzQ_iff {d s bu k : Int} : ∀ i : Nat, 0 < uzR d s bu k i ↔ ∃ r : Nat, r < i ∧ bu / pw4 r % 2 = 1 ∧ (s + (r : Int)) % d = k
  | 0 => ⟨fun z => absurd z (by show ¬ (0 : Int) < 0; omega), fun ⟨r, h, _⟩ => absurd h (Nat.not_lt_zero _)⟩
  | i + 1 => by
    have g := uzQ_rg (d := d) (s := s) (bu := bu) (k := k) i
    have ih := uzQ_iff (d := d) (s := s) (bu := bu) (k := k) i
    show 0 < uzR d s bu k i + _ ↔ _
    constructor
    · intro h
      by_cases q : bu / pw4 i % 2 = 1 ∧ (s + (i : Int)) % d = k
      · exact ⟨i, by omega, q⟩
      · rw [if_neg q] at h
        obtain ⟨r, a, b⟩ := ih.mp (by omega)
        exact ⟨r, by omega, b⟩
    · rintro ⟨r, a, b⟩
      by_cases q : r = i
      · subst q
        rw [if_pos b]
        omega
      · have := ih.mpr ⟨r, by omega, b⟩
        split <;> omega
theorem us1_iff {d s bu k : Int} : 0 < us1 d s bu k ↔ ∃ r : Nat, r < 4 ∧ bu / pw4 r % 2 = 1 ∧ (s + (r : Int)) % d = k := by
  rw [← uzR4]
  exact uzQ_iff 4
theorem usM_le {M : Nat → Prop} {un bu : Nat → Int} {d : Int} {s : Nat → Int} {u k : Int} : ∀ n : Nat, usM M un bu d s u k n ≤ 4 * n
  | 0 => Int.le_refl _
  | n + 1 => by
    have g := usM_le (M := M) (un := un) (bu := bu) (d := d) (s := s) (u := u) (k := k) n
    have r := us1_rg (d := d) (s := s n) (bu := bu n) (k := k)
    have c := cIf.rg (c := M n ∧ un n = u) r (show (0 : Int) ≤ 0 ∧ (0 : Int) ≤ 4 by omega)
    show usM M un bu d s u k n + cIf _ _ _ ≤ 4 * ((n + 1 : Nat) : Int)
    omega
theorem CPb.cgQ {m m' : MM} {d : Int} (e : FrH m m') : CPb m' d = CPb m d := CPb.cg (fun A i q => e A i (by omega) (by omega))
theorem qTc.fr {m m' : MM} (e : Fr1 132 m m') : qTc m' = qTc m := funext fun o => by
  unfold qTc
  rw [e 129 3 (by omega), e 130 o (by omega)]
section QKC
variable {S : Nat × (Nat → Int32)} {n : Nat} {mem : MM} {K : Int → MM → Prop} {d c : Int}
theorem f_76h {K : MM → Prop} {Z zn : Nat} (hZ : shA Z = some (.inl zn)) (hz : zn ≤ 100000) {x : Int} (H : ∀ m', Fr1 Z mem m' → (∀ j : Nat, j < zn → m' Z j = x) → K m') : CWV (Ex S (n + 1)) 76 [.inr Z, .inl x] mem K := by
  have key : ∀ (N : Nat) (i : Nat) (m : MM), ((zn : Int) - i).toNat < N → Fr1 Z mem m → (∀ j : Nat, j < i → m Z j = x) → Wx (Ex S n) S M_76 (fun r m => r = none ∧ K m) 5 [some (.inr Z), some (.inl x), some (.inl (i : Int)), some (.inl (zn : Int))] [] m := by
    intro N
    induction N with
    | zero => intros; omega
    | succ N ih =>
      intro i m hN hF hA
      refine w_76_5 (Ex.mono S n) hZ ⟨fun q => ⟨rfl, H m hF (fun j hj => hA j (by omega))⟩, fun q => ⟨⟨by omega, by omega⟩, by unfold InI; omega, ih (i + 1) _ (by omega) (hF.tr Fr1.up) (fun j hj => ?_)⟩⟩
      rw [Int.toNat_natCast]
      by_cases e : j = i
      · rw [e, upm_eq]
      · rw [upm_ne (fun z => e z.2)]
        exact hA j (by omega)
  exact CW.of (k := 2) mt_76 rfl rfl (w_76_0 (Ex.mono S n) hZ ⟨by unfold InI; omega, key _ 0 mem (Nat.lt_succ_self _) Fr1.rf (fun j hj => absurd hj (Nat.not_lt_zero _))⟩)
theorem f_125e {K : MM → Prop} (hs : mem 129 0 = d) (hd : 1 ≤ d ∧ d ≤ 12) {b t y : Int} (hb : 0 ≤ b ∧ b ≤ 15) (ht : 0 ≤ t ∧ t ≤ 100000) (hy : y = 1 ∨ y = -1) (hr : ∀ s : Nat, (s : Int) < d → -1000 ≤ mem 132 s ∧ mem 132 s ≤ 1000) (H : ∀ m', Fr1 132 mem m' → (∀ s : Nat, (s : Int) < d → m' 132 s = mem 132 s + y * us1 d t b s) → K m') : CWV (Ex S (n + 1)) 125 [.inr 129, .inl b, .inl t, .inl y] mem K := by
  have key : ∀ (N : Nat) (i : Nat) (m : MM), 4 - i < N → i ≤ 4 → Fr1 132 mem m → (∀ s : Nat, (s : Int) < d → m 132 s = mem 132 s + y * uzR d t b s i) → Wx (Ex S n) S M_125 (fun r m => r = none ∧ K m) 3 [some (.inr 129), some (.inl b), some (.inl t), some (.inl y), some (.inl (i : Int))] [] m := by
    intro N
    induction N with
    | zero => intros; omega
    | succ N ih =>
      intro i m hN hi hF hA
      have e0 : m 129 0 = d := by rw [hF 129 0 (by omega)]; exact hs
      refine w_125_3 (Ex.mono S n) ⟨fun q => ⟨rfl, H m hF (fun s hs' => ?_)⟩, fun q b1 e1 _ b2 e2 _ => ?_⟩
      · have e := hA s hs'
        rw [show i = 4 by omega, uzR4] at e
        exact e
      have ts := Bt_tst (t := b) (o := (i : Int)) ⟨by omega, by omega⟩ e1 e2
      rw [Int.toNat_natCast, Bt_4 hb (by omega)] at ts
      refine ⟨fun z => ⟨by unfold InI; omega, ih (i + 1) m (by omega) (by omega) hF (fun s hs' => ?_)⟩, fun z => ⟨by unfold InI; omega, fun v3 e3 _ => ?_⟩⟩
      · rw [hA s hs']
        show _ = mem 132 s + y * (uzR d t b s i + _)
        rw [if_neg (fun w => (ts.mpr w.1) z), Int.add_zero]
      have e3' : v3 = d := by omega
      subst e3'
      have bit := ts.mp z
      have a := Int.emod_nonneg (t + i) (show v3 ≠ 0 by omega)
      have a2 := Int.emod_lt_of_pos (t + i) (show 0 < v3 by omega)
      rw [Int.tmod_eq_emod_of_nonneg (by omega)]
      refine ⟨by omega, by omega, fun v4 e4 _ z5 _ z5e => ⟨by omega, by unfold InI; omega, ih (i + 1) _ (by omega) (by omega) (hF.tr Fr1.up) (fun s hs' => ?_)⟩⟩
      show _ = mem 132 s + y * (uzR v3 t b s i + _)
      by_cases w : (t + (i : Int)) % v3 = (s : Int)
      · have sn : ((t + (i : Int)) % v3).toNat = s := by omega
        rw [sn] at e4 ⊢
        have g := hA s hs'
        have u := uzQ_rg (d := v3) (s := t) (bu := b) (k := (s : Int)) i
        have r0 := hr s hs'
        rw [if_pos ⟨bit, w⟩, upm_eq, Int.mul_add, Int.mul_one]
        rcases hy with rfl | rfl
        · rw [z5e (by unfold InI; omega)]
          omega
        · rw [z5e (by unfold InI; omega)]
          omega
      · rw [if_neg (fun x => w x.2), upm_ne (by omega), Int.add_zero]
        exact hA s hs'
  exact CW.of (k := 1) mt_125 rfl rfl (w_125_0 (Ex.mono S n) (key 5 0 mem (by omega) (by omega) Fr1.rf (fun s _ => by
    show _ = mem 132 s + y * 0
    rw [Int.mul_zero, Int.add_zero])))
theorem f_127e (hs : mem 129 0 = d) (hd : 1 ≤ d ∧ d ≤ 12) {b t y : Int} (hb : 0 ≤ b ∧ b ≤ 15) (ht : 0 ≤ t ∧ t ≤ 100000) (H1 : ∀ s : Nat, (s : Int) < d → 0 < us1 d t b s → y < mem 132 s → K 1 mem) (H0 : (∀ s : Nat, (s : Int) < d → 0 < us1 d t b s → mem 132 s ≤ y) → K 0 mem) : CWI (Ex S (n + 1)) 127 [.inr 129, .inl b, .inl t, .inl y] mem K := by
  have key : ∀ (N : Nat) (i : Nat), 4 - i < N → i ≤ 4 → (∀ s : Nat, (s : Int) < d → 0 < uzR d t b s i → mem 132 s ≤ y) → Wx (Ex S n) S M_127 (fun r m => ∃ y, r = some y ∧ K y m) 3 [some (.inr 129), some (.inl b), some (.inl t), some (.inl y), some (.inl (i : Int))] [] mem := by
    intro N
    induction N with
    | zero => intros; omega
    | succ N ih =>
      intro i hN hi hA
      refine w_127_3 (Ex.mono S n) ⟨fun q => ⟨_, rfl, H0 (fun s hs' hu => hA s hs' (by rw [show i = 4 by omega, uzR4]; exact hu))⟩, fun q b1 e1 _ b2 e2 _ => ?_⟩
      have ts := Bt_tst (t := b) (o := (i : Int)) ⟨by omega, by omega⟩ e1 e2
      rw [Int.toNat_natCast, Bt_4 hb (by omega)] at ts
      refine ⟨fun z => ⟨by unfold InI; omega, ih (i + 1) (by omega) (by omega) (fun s hs' hu => hA s hs' ?_)⟩, fun z => ⟨by unfold InI; omega, fun v3 e3 _ => ?_⟩⟩
      · have hu : 0 < uzR d t b s i + (if b / pw4 i % 2 = 1 ∧ (t + (i : Int)) % d = (s : Int) then 1 else 0) := hu
        rw [if_neg (fun w => (ts.mpr w.1) z)] at hu
        omega
      have e3' : v3 = d := by omega
      subst e3'
      have bit := ts.mp z
      have a := Int.emod_nonneg (t + i) (show v3 ≠ 0 by omega)
      have a2 := Int.emod_lt_of_pos (t + i) (show 0 < v3 by omega)
      rw [Int.tmod_eq_emod_of_nonneg (by omega)]
      refine ⟨by omega, by omega, fun v4 e4 _ => ⟨fun w => ⟨by unfold InI; omega, ih (i + 1) (by omega) (by omega) (fun s hs' hu => ?_)⟩, fun w => ⟨_, rfl, H1 ((t + i) % v3).toNat (by omega) ?_ (by omega)⟩⟩⟩
      · by_cases x : (t + (i : Int)) % v3 = (s : Int)
        · have sn : ((t + (i : Int)) % v3).toNat = s := by omega
          rw [sn] at e4
          omega
        · have hu : 0 < uzR v3 t b s i + (if b / pw4 i % 2 = 1 ∧ (t + (i : Int)) % v3 = (s : Int) then 1 else 0) := hu
          rw [if_neg (fun k => x k.2)] at hu
          exact hA s hs' (by omega)
      · rw [us1_iff]
        exact ⟨i, by omega, bit, by omega⟩
  exact CW.of (k := 1) mt_127 rfl rfl (w_127_0 (Ex.mono S n) (key 5 0 (by omega) (by omega) (fun s _ hu => absurd hu (by show ¬ (0 : Int) < 0; omega))))
theorem f_37e (hB : BodyOK mem) {o : Nat} (h : o < 8) (H : K (cUn mem o) mem) : CWI (Ex S (n + 1)) 37 [.inr 1, .inl (o : Int)] mem K := by
  refine CW.of (k := 0) mt_37 rfl rfl (w_37_0 (Ex.mono S n) ⟨by omega, fun v1 e1 _ => ?_⟩)
  rw [Int.toNat_natCast] at e1
  have k := hB.kd h
  refine ⟨by omega, fun v2 e2 _ _ => ⟨_, rfl, ?_⟩⟩
  rw [e2, e1]
  exact H
theorem f_38e (hB : BodyOK mem) {o : Nat} (h : o < 8) (H : K (cBu mem o) mem) : CWI (Ex S (n + 1)) 38 [.inr 1, .inl (o : Int)] mem K := by
  refine CW.of (k := 0) mt_38 rfl rfl (w_38_0 (Ex.mono S n) ⟨by omega, fun v1 e1 _ => ?_⟩)
  rw [Int.toNat_natCast] at e1
  have k := hB.kd h
  refine ⟨by omega, fun v2 e2 _ _ => ⟨_, rfl, ?_⟩⟩
  rw [e2, e1]
  exact H
theorem cBu_rg (hB : BodyOK mem) {o : Nat} (h : o < 8) : 1 ≤ cBu mem o ∧ cBu mem o ≤ 15 := by
  have k := hB.kd h
  exact hB.bu (by omega)
theorem cUn_rg (hB : BodyOK mem) {o : Nat} (h : o < 8) : 0 ≤ cUn mem o ∧ cUn mem o ≤ 2 := by
  have k := hB.kd h
  exact hB.un (by omega)
theorem UsC_rg {T : Nat → Int} {u k : Int} (hB : BodyOK mem) : 0 ≤ UsQ (CPb mem d) T u k ∧ UsQ (CPb mem d) T u k ≤ 32 := by
  have g := usM_le (M := TiQ T) (un := cUn mem) (bu := cBu mem) (d := d) (s := T) (u := u) (k := k) (mem 1 0).toNat
  have g0 := usM_ge (M := TiQ T) (un := cUn mem) (bu := cBu mem) (d := d) (s := T) (u := u) (k := k) (mem 1 0).toNat
  have h8 := hB.1
  exact ⟨g0, Int.le_trans g (by omega)⟩
theorem f_124e {K : MM → Prop} (h : HsA mem d) (hT : HTm mem) {u : Int} (H : ∀ m', Fr1 132 mem m' → (∀ s : Nat, (s : Int) < d → m' 132 s = UsQ (CPb mem d) (qTc mem) u s) → K m') : CWV (Ex S (n + 2)) 124 [.inr 129, .inr 1, .inl u] mem K := by
  have h8 := h.1.1
  have hd := h.2.2.2.2
  have key : ∀ (N : Nat) (o : Nat) (m : MM), 8 - o < N → (o : Int) ≤ mem 1 0 → Fr1 132 mem m → (∀ s : Nat, (s : Int) < d → m 132 s = usM (TiQ (qTc mem)) (cUn mem) (cBu mem) d (qTc mem) u s o) → Wx (Ex S (n + 1)) S M_124 (fun r m => r = none ∧ K m) 10 [some (.inr 129), some (.inr 1), some (.inl u), some (.inl (o : Int))] [] m := by
    intro N
    induction N with
    | zero => intros; omega
    | succ N ih =>
      intro o m hN ho hF hA
      have hs := hF.h32.hs h
      have e10 : m 1 0 = mem 1 0 := hF _ _ (by omega)
      have un : cUn m o = cUn mem o := by unfold cUn; rw [hF 2 o (by omega), hF 5 _ (by omega)]
      have bu : cBu m o = cBu mem o := by unfold cBu; rw [hF 2 o (by omega), hF 7 _ (by omega)]
      have nx : ¬ (TiQ (qTc mem) o ∧ cUn mem o = u) → (o : Int) < mem 1 0 → InI ((o : Int) + 1) ∧ Wx (Ex S (n + 1)) S M_124 (fun r m => r = none ∧ K m) 10 [some (.inr 129), some (.inr 1), some (.inl u), some (.inl ((o : Int) + 1))] [] m := fun w q => ⟨by unfold InI; omega, ih (o + 1) m (by omega) (by omega) hF (fun s hs' => by
        rw [hA s hs']
        show _ = usM _ _ _ _ _ _ _ o + cIf _ _ _
        rw [cIf.n w, Int.add_zero])⟩
      refine w_124_10 (Ex.mono S (n + 1)) (fun v1 e1 _ => ⟨fun q => ⟨rfl, H m hF (fun s hs' => by
        rw [hA s hs', show o = (mem 1 0).toNat by omega]
        rfl)⟩, fun q v2 e2 _ b3 e3 _ b4 e4 _ => ?_⟩)
      have o8 : o < 8 := by omega
      have ts := Bt_tst (o := (o : Int)) ⟨by omega, by omega⟩ e3 e4
      rw [Int.toNat_natCast, e2, hF 129 3 (by omega), ← qTc.ti hT o8] at ts
      refine ⟨fun z => nx (fun w => (ts.mpr w.1) z) (by omega), fun z => f_37e hs.1 o8 (fun _ => ⟨fun w => nx (fun x => w (un.trans x.2)) (by omega), fun w => f_38e hs.1 o8 (fun _ => ⟨by omega, fun v9 e9 _ => ?_⟩)⟩)⟩
      rw [Int.toNat_natCast, hF 130 o (by omega)] at e9
      have ti := ts.mp z
      have tv : v9 = qTc mem o := e9.trans (qTc.y ((qTc.ti hT o8).mp ti)).symm
      have t9 := (hT o o8).1
      have bg := cBu_rg hs.1 o8
      refine f_125e hs.2.2.2.1 hd ⟨by omega, by omega⟩ ⟨by omega, by omega⟩ (Or.inl rfl) (fun s hs' => ?_) (fun m' k kA => ⟨by unfold InI; omega, ih (o + 1) m' (by omega) (by omega) (hF.tr k) (fun s hs' => ?_)⟩)
      · rw [hA s hs']
        have g := usM_le (M := TiQ (qTc mem)) (un := cUn mem) (bu := cBu mem) (d := d) (s := qTc mem) (u := u) (k := (s : Int)) o
        have g0 := usM_ge (M := TiQ (qTc mem)) (un := cUn mem) (bu := cBu mem) (d := d) (s := qTc mem) (u := u) (k := (s : Int)) o
        omega
      · rw [kA s hs', hA s hs', bu, tv, Int.one_mul]
        show _ = usM _ _ _ _ _ _ _ o + cIf _ _ _
        rw [cIf.y ⟨ti, un.symm.trans (Decidable.of_not_not w)⟩]
  exact CW.of (k := 1) mt_124 rfl rfl (w_124_0 (Ex.mono S (n + 1)) (f_76h (Z := 132) (zn := 12) rfl (by omega) (fun m1 k1 z1 => key 9 0 m1 (by omega) (by omega) k1 (fun s hs' => z1 s (by omega)))))
theorem f_126e (h : HsA mem d) {o : Nat} {t : Int} (ho : o < 8) (ht : 0 ≤ t ∧ t ≤ 100000) (hr : ∀ s : Nat, (s : Int) < d → 0 ≤ mem 132 s ∧ mem 132 s ≤ 32) (H1 : ∀ m', Fr1 132 mem m' → (∀ s : Nat, (s : Int) < d → m' 132 s = mem 132 s) → (∀ s : Nat, (s : Int) < d → 0 < us1 d t (cBu mem o) s → mem 132 s + us1 d t (cBu mem o) s ≤ mem 8 (cUn mem o).toNat) → K 1 m') (H0 : ∀ m', Fr1 132 mem m' → (∀ s : Nat, (s : Int) < d → m' 132 s = mem 132 s) → ¬ (∀ s : Nat, (s : Int) < d → 0 < us1 d t (cBu mem o) s → mem 132 s + us1 d t (cBu mem o) s ≤ mem 8 (cUn mem o).toNat) → K 0 m') : CWI (Ex S (n + 2)) 126 [.inr 129, .inr 1, .inl (o : Int), .inl t] mem K := by
  have hd := h.2.2.2.2
  have bg := cBu_rg h.1 ho
  have ug := cUn_rg h.1 ho
  have u4 := fun s : Nat => us1_rg (d := d) (s := t) (bu := cBu mem o) (k := (s : Int))
  refine CW.of (k := 2) mt_126 rfl rfl (w_126_0 (Ex.mono S (n + 1)) (f_38e h.1 ho (fun _ => f_125e h.2.2.2.1 hd ⟨by omega, by omega⟩ ht (Or.inl rfl) (fun s hs' => by have := hr s hs'; omega) (fun m1 k1 a1 => ?_))))
  have hs := k1.h32.hs h
  have un : cUn m1 o = cUn mem o := by unfold cUn; rw [k1 2 o (by omega), k1 5 _ (by omega)]
  refine f_37e hs.1 ho (fun _ => ?_)
  rw [un]
  have r1 : ∀ s : Nat, (s : Int) < d → 0 ≤ m1 132 s ∧ m1 132 s ≤ 36 := fun s hs' => by
    have := hr s hs'
    have := u4 s
    rw [a1 s hs', Int.one_mul]
    omega
  have back : ∀ (x : Int) (m2 : MM), Fr1 132 m1 m2 → (∀ s : Nat, (s : Int) < d → m2 132 s = m1 132 s + -1 * us1 d t (cBu mem o) s) → Fr1 132 mem m2 ∧ ∀ s : Nat, (s : Int) < d → m2 132 s = mem 132 s := fun x m2 k2 a2 => ⟨k1.tr k2, fun s hs' => by
    rw [a2 s hs', a1 s hs', Int.one_mul, Int.neg_mul, Int.one_mul]
    omega⟩
  refine ⟨by omega, fun v6 e6 _ => f_127e hs.2.2.2.1 hd ⟨by omega, by omega⟩ ht (fun s s1 s2 s3 _ => ⟨fun _ => f_125e hs.2.2.2.1 hd ⟨by omega, by omega⟩ ht (Or.inr rfl) (fun s hs' => by have := r1 s hs'; omega) (fun m2 k2 a2 => ⟨_, rfl, ?_⟩), fun z => absurd (by decide) z⟩) (fun all _ => ⟨fun z => absurd rfl z, fun _ => f_125e hs.2.2.2.1 hd ⟨by omega, by omega⟩ ht (Or.inr rfl) (fun s hs' => by have := r1 s hs'; omega) (fun m2 k2 a2 => ⟨_, rfl, ?_⟩)⟩)⟩
  · obtain ⟨b1, b2⟩ := back 0 m2 k2 a2
    refine H0 m2 b1 b2 (fun w => ?_)
    have := w s s1 s2
    rw [k1 8 _ (by omega)] at e6
    rw [a1 s s1, Int.one_mul] at s3
    omega
  · obtain ⟨b1, b2⟩ := back 0 m2 k2 a2
    refine H1 m2 b1 b2 (fun s s1 s2 => ?_)
    have := all s s1 s2
    rw [k1 8 _ (by omega)] at e6
    rw [a1 s s1, Int.one_mul] at this
    omega
theorem RmC {T : Nat → Int} {o : Nat} {t : Int} (hd : 1 ≤ d ∧ d ≤ 12) (hA : ∀ s : Nat, (s : Int) < d → mem 132 s = UsQ (CPb mem d) T (cUn mem o) s) : (∀ s : Nat, (s : Int) < d → 0 < us1 d t (cBu mem o) s → mem 132 s + us1 d t (cBu mem o) s ≤ mem 8 (cUn mem o).toNat) ↔ RmQ (CPb mem d) T o t := by
  constructor
  · intro h k a b q
    have b' : k < d := b
    have e := hA k.toNat (by omega)
    have w := h k.toNat (by omega) (by rw [show ((k.toNat : Nat) : Int) = k by omega]; exact q)
    rw [e, show ((k.toNat : Nat) : Int) = k by omega] at w
    exact w
  · intro h s a q
    rw [hA s a]
    exact h s (by omega) a q
theorem f_128e {h : Nat → Int} {s : Int} (hT : HTm mem) (hs : 0 ≤ s ∧ s ≤ 8) (hh : ∀ j : Nat, (j : Int) < s → mem 133 j = h j ∧ 0 ≤ h j) (hu : ∃ j : Nat, (j : Int) < s ∧ ¬ TiQ (qTc mem) j) (H : ∀ o : Nat, (o : Int) < s → ¬ TiQ (qTc mem) o → (∀ j : Nat, (j : Int) < s → ¬ TiQ (qTc mem) j → h j ≤ h o) → (∀ j : Nat, j < o → ¬ TiQ (qTc mem) j → h j < h o) → K o mem) : CWI (Ex S (n + 1)) 128 [.inr 129, .inl s] mem K := by
  have key : ∀ (N : Nat) (b o : Nat) (x : Int), 8 - o < N → (o : Int) ≤ s → ((x = -1 ∧ b = 0 ∧ ∀ j : Nat, j < o → TiQ (qTc mem) j) ∨ (b < o ∧ x = h b ∧ ¬ TiQ (qTc mem) b ∧ (∀ j : Nat, j < o → ¬ TiQ (qTc mem) j → h j ≤ h b) ∧ ∀ j : Nat, j < b → ¬ TiQ (qTc mem) j → h j < h b)) → Wx (Ex S n) S M_128 (fun r m => ∃ y, r = some y ∧ K y m) 7 [some (.inr 129), some (.inl s), some (.inl (b : Int)), some (.inl x), some (.inl (o : Int))] [] mem := by
    intro N
    induction N with
    | zero => intros; omega
    | succ N ih =>
      intro b o x hN ho hx
      refine w_128_7 (Ex.mono S n) ⟨fun q _ => ⟨_, rfl, ?_⟩, fun q v1 e1 _ b2 e2 _ b3 e3 _ => ?_⟩
      · rcases hx with ⟨-, -, a⟩ | ⟨a, -, b1, b2, b3⟩
        · obtain ⟨j, j1, j2⟩ := hu
          exact absurd (a j (by omega)) j2
        · exact H b (by omega) b1 (fun j hj => b2 j (by omega)) b3
      have o8 : o < 8 := by omega
      have ts := Bt_tst (o := (o : Int)) ⟨by omega, by omega⟩ e2 e3
      rw [Int.toNat_natCast, e1, ← qTc.ti hT o8] at ts
      obtain ⟨h1, h2⟩ := hh o (by omega)
      refine ⟨fun z => ⟨by unfold InI; omega, ih b (o + 1) x (by omega) (by omega) ?_⟩, fun z => ⟨by omega, fun v4 e4 _ => ⟨fun w => ⟨by unfold InI; omega, ih b (o + 1) x (by omega) (by omega) ?_⟩, fun w => ⟨by omega, fun v5 e5 _ => ⟨by unfold InI; omega, ih o (o + 1) v5 (by omega) (by omega) ?_⟩⟩⟩⟩⟩
      · have t := ts.mp z
        rcases hx with ⟨a1, a2, a3⟩ | ⟨a1, a2, a3, a4, a5⟩
        · refine Or.inl ⟨a1, a2, fun j hj => ?_⟩
          by_cases e : j = o
          · rw [e]; exact t
          · exact a3 j (by omega)
        · refine Or.inr ⟨by omega, a2, a3, fun j hj nt => ?_, a5⟩
          by_cases e : j = o
          · rw [e] at nt
            exact absurd t nt
          · exact a4 j (by omega) nt
      · rw [Int.toNat_natCast] at e4
        have t : ¬ TiQ (qTc mem) o := fun y => z (ts.mpr y)
        rcases hx with ⟨a1, a2, a3⟩ | ⟨a1, a2, a3, a4, a5⟩
        · omega
        · refine Or.inr ⟨by omega, a2, a3, fun j hj nt => ?_, a5⟩
          by_cases e : j = o
          · rw [e]
            omega
          · exact a4 j (by omega) nt
      · rw [Int.toNat_natCast] at e4 e5
        have t : ¬ TiQ (qTc mem) o := fun y => z (ts.mpr y)
        refine Or.inr ⟨by omega, by omega, t, fun j hj nt => ?_, fun j hj nt => ?_⟩
        · by_cases e : j = o
          · rw [e]
            omega
          · rcases hx with ⟨a1, a2, a3⟩ | ⟨a1, a2, a3, a4, a5⟩
            · exact absurd (a3 j (by omega)) nt
            · have := a4 j (by omega) nt
              omega
        · rcases hx with ⟨a1, a2, a3⟩ | ⟨a1, a2, a3, a4, a5⟩
          · exact absurd (a3 j (by omega)) nt
          · have := a4 j (by omega) nt
            omega
  exact CW.of (k := 3) mt_128 rfl rfl (w_128_0 (Ex.mono S n) (key 9 0 0 (-1) (by omega) (by omega) (Or.inl ⟨rfl, rfl, fun j hj => absurd hj (Nat.not_lt_zero _)⟩)))
def EaI (p : Nat → Q4) (T : Nat → Int) (d : Int) (o : Nat) (k : Nat) (e : Int) : Prop := 0 ≤ e ∧ (∀ j : Nat, j < k → ∀ a : Nat, (p j).1 = (a : Int) → (p j).2.1 = (o : Int) → ¬ a = o → TiQ T a → T a + ((p j).2.2.2 - d * (p j).2.2.1) ≤ e) ∧ (e = 0 ∨ ∃ j a : Nat, j < k ∧ (p j).1 = (a : Int) ∧ (p j).2.1 = (o : Int) ∧ ¬ a = o ∧ TiQ T a ∧ e = T a + ((p j).2.2.2 - d * (p j).2.2.1))
theorem EaI.nxt {p : Nat → Q4} {T : Nat → Int} {d : Int} {o k : Nat} {e e' : Int} (h : EaI p T d o k e) (a : Nat) (h1 : (p k).1 = (a : Int)) (h2 : (p k).2.1 = (o : Int)) (h3 : ¬ a = o) (h4 : TiQ T a) (he : e' = max e (T a + ((p k).2.2.2 - d * (p k).2.2.1))) : EaI p T d o (k + 1) e' := by
  obtain ⟨v, hv⟩ : ∃ v : Int, v = T a + ((p k).2.2.2 - d * (p k).2.2.1) := ⟨_, rfl⟩
  rw [← hv] at he
  have m1 : e ≤ e' ∧ v ≤ e' ∧ (e' = e ∨ e' = v) := by
    clear h hv
    omega
  clear he
  obtain ⟨m1, m2, m3⟩ := m1
  obtain ⟨g1, g2, g3⟩ := h
  refine ⟨Int.le_trans g1 m1, fun j hj b q1 q2 q3 q4 => ?_, ?_⟩
  · clear g3
    by_cases w : j = k
    · subst w
      have ab : b = a := by omega
      subst ab
      rw [← hv]
      exact m2
    · exact Int.le_trans (g2 j (by omega) b q1 q2 q3 q4) m1
  · rcases m3 with m3 | m3
    · rw [m3]
      rcases g3 with g3 | ⟨j, b, q1, q2⟩
      · exact Or.inl g3
      · exact Or.inr ⟨j, b, by omega, q2⟩
    · exact Or.inr ⟨k, a, by omega, h1, h2, h3, h4, m3.trans hv⟩
theorem EaI.no {p : Nat → Q4} {T : Nat → Int} {d : Int} {o k : Nat} {e : Int} (h : EaI p T d o k e) (q : ∀ a : Nat, (p k).1 = (a : Int) → (p k).2.1 = (o : Int) → ¬ a = o → ¬ TiQ T a) : EaI p T d o (k + 1) e := by
  obtain ⟨g1, g2, g3⟩ := h
  refine ⟨g1, fun j hj b q1 q2 q3 q4 => ?_, ?_⟩
  · by_cases w : j = k
    · subst w
      exact absurd q4 (q b q1 q2 q3)
    · exact g2 j (by omega) b q1 q2 q3 q4
  · rcases g3 with g3 | ⟨j, b, q1, q2⟩
    · exact Or.inl g3
    · exact Or.inr ⟨j, b, by omega, q2⟩
theorem EaI.fin {p : Nat → Q4} {T : Nat → Int} {d : Int} {o k : Nat} {e : Int} {pb : Prb} (h : EaI p T d o k e) (hE : pb.E = EdQ p k d) : EaQ pb T o e := by
  obtain ⟨g1, g2, g3⟩ := h
  refine ⟨g1, fun a x hx q1 q2 => ?_, ?_⟩
  · rw [hE] at hx
    obtain ⟨j, j1, j2, j3, j4⟩ := hx
    rw [j4]
    exact g2 j j1 a j2 j3 q1 q2
  · rcases g3 with g3 | ⟨j, a, q1, q2, q3, q4, q5, q6⟩
    · exact Or.inl g3
    · exact Or.inr ⟨a, _, by rw [hE]; exact ⟨j, q1, q2, q3, rfl⟩, q4, q5, q6⟩
theorem f_130e (h : HsA mem d) (hT : HTm mem) (hC : HCm mem c) (hc : 0 ≤ c ∧ c ≤ 1000) {o : Nat} (H : ∀ r, 0 ≤ r → r ≤ c + 6 → EaQ (CPb mem d) (qTc mem) o r → K r mem) : CWI (Ex S (n + 2)) 130 [.inr 129, .inr 9, .inl (o : Int)] mem K := by
  obtain ⟨hB, hW, -, hs, hd⟩ := h
  have w0 := hW.2
  have key : ∀ (N : Nat) (x : Int) (k : Nat), 0 ≤ x → x ≤ c + 6 → (k : Int) ≤ mem 9 0 → EaI (cwq mem 9) (qTc mem) d o k x → 64 - k < N → Wx (Ex S (n + 1)) S M_130 (fun r m => ∃ y, r = some y ∧ K y m) 5 [some (.inr 129), some (.inr 9), some (.inl (o : Int)), some (.inl x), some (.inl (k : Int)), none] [] mem := by
    intro N
    induction N with
    | zero => intros; omega
    | succ N ih =>
      intro x k hx hx2 hk9 hI hN
      refine w_130_5 (Ex.mono S (n + 1)) (fun v1 e1 _ => ⟨fun q _ => ⟨_, rfl, H _ hx hx2 (hI.fin (by rw [show k = (mem 9 0).toNat by omega]; rfl))⟩, fun q => ?_⟩)
      have hk : 0 ≤ (k : Int) ∧ (k : Int) < 64 := by omega
      obtain ⟨g1, g2, g3, g4⟩ : Rg (mem 10 k) (mem 11 k) (mem 12 k) (mem 13 k) := hW.1 k (by omega)
      have nx : ∀ x, 0 ≤ x → x ≤ c + 6 → EaI (cwq mem 9) (qTc mem) d o (k + 1) x → InI ((k : Int) + 1) ∧ Wx (Ex S (n + 1)) S M_130 (fun r m => ∃ y, r = some y ∧ K y m) 5 [some (.inr 129), some (.inr 9), some (.inl (o : Int)), some (.inl x), some (.inl ((k : Int) + 1)), none] [] mem := fun x z1 z2 z3 => ⟨by unfold InI; omega, ih x (k + 1) z1 z2 (by omega) z3 (by omega)⟩
      rw [Int.toNat_natCast]
      refine ⟨hk, fun v2 e2 _ => ⟨hk, fun v3 e3 _ => ?_⟩⟩
      obtain ⟨a, ea⟩ : ∃ a : Nat, v2 = (a : Int) := ⟨v2.toNat, by omega⟩
      have f1 : (cwq mem 9 k).1 = (a : Int) := e2.symm.trans ea
      have f2 : (cwq mem 9 k).2.1 = v3 := e3.symm
      have a8 : a < 8 := by omega
      refine ⟨fun z => nx _ hx hx2 (hI.no (fun b q1 q2 q3 => absurd (f2.symm.trans q2) z)), fun z => ⟨fun w => nx _ hx hx2 (hI.no (fun b q1 q2 q3 => absurd (show b = o by omega) q3)), fun w v4 e4 _ b5 e5 _ b6 e6 _ => ?_⟩⟩
      have ts := Bt_tst (o := v2) ⟨by omega, by omega⟩ e5 e6
      rw [e4, show v2.toNat = a by omega, ← qTc.ti hT a8] at ts
      refine ⟨fun y => nx _ hx hx2 (hI.no (fun b q1 q2 q3 => by rw [show b = a by omega]; exact fun x => (ts.mpr x) y)), fun y => ⟨by omega, fun v7 e7 _ => ⟨hk, fun v8 e8 _ => ?_⟩⟩⟩
      have ti := ts.mp y
      have ht := hT a a8
      rw [show v2.toNat = a by omega] at e7
      have e7' : v7 = qTc mem a := e7.trans (qTc.y ((qTc.ti hT a8).mp ti)).symm
      have hcc := (hC a a8).1 ((tb_bt a8).mpr ((qTc.ti hT a8).mp ti))
      refine ⟨by unfold InI; omega, fun v9 e9 _ => ⟨hk, fun v10 e10 _ => ?_⟩⟩
      have := d7 (d := v9) (x := v10) (by omega) (by omega)
      have e12 : v9 * v10 = d * mem 12 k := by rw [e9, e10, hs]
      exact ⟨by unfold InI; omega, by unfold InI; omega, f_40 (fun _ => nx _ (by omega) (by omega) (hI.nxt a f1 (f2.trans (Decidable.of_not_not z)) (fun x => w (by omega)) ti (by
        show max x (v7 + v8 - v9 * v10) = max x (qTc mem a + (mem 13 k - d * mem 12 k))
        omega)))⟩
  exact CW.of (k := 3) mt_130 rfl rfl (w_130_0 (Ex.mono S (n + 1)) (key 65 0 0 (by omega) (by omega) (by omega) ⟨Int.le_refl _, fun j hj => absurd hj (Nat.not_lt_zero _), Or.inl rfl⟩ (by omega)))
theorem f_133e (h : HsA mem d) (hT : HTm mem) {o : Nat} (ho : o < 8) (H : ∀ r, (∀ s : Nat, Bt r s ↔ 0 < us1 d (mem 130 o) (cBu mem o) s) → K r mem) : CWI (Ex S (n + 2)) 133 [.inr 129, .inr 1, .inl (o : Int)] mem K := by
  obtain ⟨hB, hW, -, hs, hd⟩ := h
  have ht := hT o ho
  have bg := cBu_rg hB ho
  have key : ∀ (N : Nat) (x : Int) (i : Nat), 4 - i < N → i ≤ 4 → (∀ s : Nat, Bt x s ↔ 0 < uzR d (mem 130 o) (cBu mem o) s i) → Wx (Ex S (n + 1)) S M_133 (fun r m => ∃ y, r = some y ∧ K y m) 5 [some (.inr 129), some (.inr 1), some (.inl (o : Int)), some (.inl x), some (.inl (i : Int))] [] mem := by
    intro N
    induction N with
    | zero => intros; omega
    | succ N ih =>
      intro x i hN hi hA
      refine w_133_5 (Ex.mono S (n + 1)) ⟨fun q _ => ⟨_, rfl, H _ (fun s => by rw [hA s, show i = 4 by omega, uzR4])⟩, fun q => f_38e hB ho (fun _ b3 e3 _ b4 e4 _ => ?_)⟩
      have ts := Bt_tst (t := cBu mem o) (o := (i : Int)) ⟨by omega, by omega⟩ e3 e4
      rw [Int.toNat_natCast, Bt_4 ⟨by omega, by omega⟩ (by omega)] at ts
      refine ⟨fun z => ⟨by unfold InI; omega, ih x (i + 1) (by omega) (by omega) (fun s => ?_)⟩, fun z => ⟨by omega, fun v5 e5 _ => ?_⟩⟩
      · rw [hA s]
        show _ ↔ 0 < uzR d (mem 130 o) (cBu mem o) s i + _
        rw [if_neg (fun w => (ts.mpr w.1) z), Int.add_zero]
      rw [Int.toNat_natCast] at e5
      refine ⟨by unfold InI; omega, fun v6 e6 _ => ⟨by omega, fun b7 e7 _ b8 e8 _ => ⟨by unfold InI; omega, ih b8 (i + 1) (by omega) (by omega) (fun s => ?_)⟩⟩⟩
      have e6' : v6 = d := by omega
      subst e6'
      have bit := ts.mp z
      have a := Int.emod_nonneg (v5 + i) (show v6 ≠ 0 by omega)
      have a2 := Int.emod_lt_of_pos (v5 + i) (show 0 < v6 by omega)
      rw [Int.tmod_eq_emod_of_nonneg (by omega)] at e7
      rw [Bt_or e8, Bt_bit ⟨by omega, by omega⟩ e7, hA s]
      show _ ↔ 0 < uzR v6 (mem 130 o) (cBu mem o) s i + _
      have ur := uzQ_rg (d := v6) (s := mem 130 o) (bu := cBu mem o) (k := (s : Int)) i
      rw [e5]
      by_cases w : (mem 130 o + (i : Int)) % v6 = (s : Int)
      · rw [if_pos ⟨bit, w⟩]
        exact ⟨fun _ => by omega, fun _ => Or.inr w.symm⟩
      · rw [if_neg (fun x => w x.2), Int.add_zero]
        exact ⟨fun x => x.elim id (fun y => absurd y.symm w), fun x => Or.inl x⟩
  exact CW.of (k := 2) mt_133 rfl rfl (w_133_0 (Ex.mono S (n + 1)) (key 5 0 0 (by omega) (by omega) (fun s => ⟨fun z => absurd z Bt_0, fun z => absurd z (by show ¬ (0 : Int) < 0; omega)⟩)))
theorem f_132e (h : HsA mem d) (hT : HTm mem) {o p : Nat} (ho : o < 8) (hp : p < 8) (H1 : (∃ s : Nat, (s : Int) < d ∧ mem 8 (cUn mem o).toNat < mem 132 s ∧ 0 < us1 d (mem 130 o) (cBu mem o) s ∧ 0 < us1 d (mem 130 p) (cBu mem p) s) → K 1 mem) (H0 : ¬ (∃ s : Nat, (s : Int) < d ∧ mem 8 (cUn mem o).toNat < mem 132 s ∧ 0 < us1 d (mem 130 o) (cBu mem o) s ∧ 0 < us1 d (mem 130 p) (cBu mem p) s) → K 0 mem) : CWI (Ex S (n + 3)) 132 [.inr 129, .inr 1, .inl (o : Int), .inl (p : Int)] mem K := by
  have hs := h.2.2.2.1
  have hd := h.2.2.2.2
  have ug := cUn_rg h.1 ho
  have key : ∀ (N : Nat) (y : Int) (i : Nat), (∀ s : Nat, Bt y s ↔ 0 < us1 d (mem 130 o) (cBu mem o) s ∧ 0 < us1 d (mem 130 p) (cBu mem p) s) → (∀ s : Nat, s < i → Bt y s → mem 132 s ≤ mem 8 (cUn mem o).toNat) → (i : Int) ≤ d → 12 - i < N → Wx (Ex S (n + 2)) S M_132 (fun r m => ∃ y, r = some y ∧ K y m) 30 [some (.inr 129), some (.inr 1), some (.inl (o : Int)), some (.inl (p : Int)), some (.inl (mem 8 (cUn mem o).toNat)), some (.inl y), some (.inl (i : Int))] [] mem := by
    intro N
    induction N with
    | zero => intros; omega
    | succ N ih =>
      intro y i hy hA hi hN
      refine w_132_30 (Ex.mono S (n + 2)) (fun v1 e1 _ => ⟨fun q => ⟨_, rfl, H0 (fun ⟨s, s1, s2, s3, s4⟩ => ?_)⟩, fun q b2 e2 _ b3 e3 _ => ?_⟩)
      · have := hA s (by omega) ((hy s).mpr ⟨s3, s4⟩)
        omega
      have ts := Bt_tst (t := y) (o := (i : Int)) ⟨by omega, by omega⟩ e2 e3
      rw [Int.toNat_natCast] at ts
      refine ⟨fun z => ⟨by unfold InI; omega, ih y (i + 1) hy (fun s s1 s2 => ?_) (by omega) (by omega)⟩, fun z => ⟨by omega, fun v4 e4 _ => ⟨fun w => ⟨by unfold InI; omega, ih y (i + 1) hy (fun s s1 s2 => ?_) (by omega) (by omega)⟩, fun w => ⟨_, rfl, H1 ⟨i, by omega, ?_, (hy i).mp (ts.mp z)⟩⟩⟩⟩⟩
      · by_cases e : s = i
        · rw [e] at s2
          exact absurd z (ts.mpr s2)
        · exact hA s (by omega) s2
      · rw [Int.toNat_natCast] at e4
        by_cases e : s = i
        · rw [e]
          omega
        · exact hA s (by omega) s2
      · rw [Int.toNat_natCast] at e4
        omega
  refine CW.of (k := 3) mt_132 rfl rfl (w_132_0 (Ex.mono S (n + 2)) (f_37e h.1 ho (fun _ => ⟨by omega, fun v3 e3 _ => f_133e h hT ho (fun r rb _ => f_133e h hT hp (fun r2 rb2 _ b8 e8 _ => ?_))⟩)))
  rw [e3]
  exact key 13 b8 0 (fun s => by rw [Bt_and e8, rb s, rb2 s]) (fun s hs' => absurd hs' (Nat.not_lt_zero _)) (by omega) (by omega)
def QSt (m0 m : MM) (X : Nat → Int) : Prop := ∀ j : Nat, j < 8 → (Bt (m 129 3) j ↔ TiQ X j) ∧ (TiQ X j → m0 130 j = X j)
theorem QSt.eq {m : MM} {X : Nat → Int} (h : QSt m m X) : ∀ j : Nat, j < 8 → qTc m j = X j := fun j hj => by
  obtain ⟨h1, h2⟩ := h j hj
  by_cases q : Bt (m 129 3) j
  · rw [qTc.y q]
    exact h2 (h1.mp q)
  · rw [show qTc m j = -1 from cIf.n q]
    exact (Decidable.not_not.mp (fun w => q (h1.mpr w))).symm
def BtU (m : MM) : Prop := ∀ i : Nat, Bt (m 129 3) i → (i : Int) < m 1 0
theorem f_131e {K : MM → Prop} (h : HsA mem d) (hT : HTm mem) (hC : HCm mem c) (hU : BtU mem) {o : Nat} (ho : (o : Int) < mem 1 0) (hto : Bt (mem 129 3) o) (H : ∀ m', FrT mem m' → HCm m' c → BtU m' → QSt mem m' (shF (CPb mem d) (qTc mem) o (mem 1 0).toNat) → K m') : CWV (Ex S (n + 4)) 131 [.inr 129, .inr 1, .inl (o : Int)] mem K := by
  have h8 := h.1.1
  have hd := h.2.2.2.2
  have o8 : o < 8 := by omega
  refine CW.of (k := 3) mt_131 rfl rfl (w_131_0 (Ex.mono S (n + 3)) (f_37e h.1 o8 (fun _ => f_124e h hT (fun m1 k1 a1 => ?_))))
  have P1 : (CPb mem d).un = cUn mem := rfl
  have key : ∀ (N : Nat) (p : Nat) (m : MM), 8 - p < N → (p : Int) ≤ mem 1 0 → FrT mem m → HCm m c → BtU m → QSt mem m (shF (CPb mem d) (qTc mem) o p) → (∀ s : Nat, (s : Int) < d → m 132 s = UsQ (CPb mem d) (shF (CPb mem d) (qTc mem) o p) (cUn mem o) s) → Wx (Ex S (n + 3)) S M_131 (fun r m => r = none ∧ K m) 15 [some (.inr 129), some (.inr 1), some (.inl (o : Int)), some (.inl (cUn mem o)), some (.inl (p : Int)), none] [] m := by
    intro N
    induction N with
    | zero => intros; omega
    | succ N ih =>
      intro p m hN hp9 hF hC' hU' hX hA
      have hs := hF.h.hs h
      have e10 : m 1 0 = mem 1 0 := hF _ _ (by omega) (by omega)
      have un : ∀ j, cUn m j = cUn mem j := fun j => by unfold cUn; rw [hF 2 j (by omega) (by omega), hF 5 _ (by omega) (by omega)]
      have bu : ∀ j, cBu m j = cBu mem j := fun j => by unfold cBu; rw [hF 2 j (by omega) (by omega), hF 7 _ (by omega) (by omega)]
      have f0 : ∀ j, m 130 j = mem 130 j := fun j => hF 130 j (by omega) (by omega)
      have nx : p < 8 → (p : Int) < mem 1 0 → ¬ (¬ p = o ∧ TiQ (shF (CPb mem d) (qTc mem) o p) p ∧ cUn mem p = cUn mem o ∧ CoQ (CPb mem d) (shF (CPb mem d) (qTc mem) o p) o p) → InI ((p : Int) + 1) ∧ Wx (Ex S (n + 3)) S M_131 (fun r m => r = none ∧ K m) 15 [some (.inr 129), some (.inr 1), some (.inl (o : Int)), some (.inl (cUn mem o)), some (.inl ((p : Int) + 1)), none] [] m := fun p8 pq w => by
        have same : shF (CPb mem d) (qTc mem) o (p + 1) = shF (CPb mem d) (qTc mem) o p := funext fun j => cIf.n (fun z => w z.2)
        refine ⟨by unfold InI; omega, ih (p + 1) m (by omega) (by omega) hF hC' hU' ?_ ?_⟩
        · rw [same]; exact hX
        · rw [same]; exact hA
      refine w_131_15 (Ex.mono S (n + 3)) (fun v1 e1 _ => ⟨fun q => ⟨rfl, H m hF hC' hU' (by rw [show (mem 1 0).toNat = p by omega]; exact hX)⟩, fun q => ?_⟩)
      have p8 : p < 8 := by omega
      have pq : (p : Int) < mem 1 0 := by omega
      obtain ⟨x1, x2⟩ := hX p p8
      obtain ⟨y1, y2⟩ := hX o o8
      have so : shF (CPb mem d) (qTc mem) o p o = qTc mem o := shF.self p
      have to : shF (CPb mem d) (qTc mem) o p o = mem 130 o := so.trans (qTc.y hto)
      refine ⟨fun z => nx p8 pq (fun w => w.1 (by omega)), fun z => f_37e hs.1 p8 (fun _ => ⟨fun w => nx p8 pq (fun x => w (by rw [un]; exact x.2.2.1)), fun w v4 e4 _ b5 e5 _ b6 e6 _ => ?_⟩)⟩
      have ts := Bt_tst (o := (p : Int)) ⟨by omega, by omega⟩ e5 e6
      rw [Int.toNat_natCast, e4, x1] at ts
      rw [un] at w
      refine ⟨fun y => nx p8 pq (fun x => (ts.mpr x.2.1) y), fun y => ?_⟩
      have ti := ts.mp y
      have tp : shF (CPb mem d) (qTc mem) o p p = mem 130 p := (x2 ti).symm
      have co : CoQ (CPb mem d) (shF (CPb mem d) (qTc mem) o p) o p ↔ ∃ s : Nat, (s : Int) < d ∧ m 8 (cUn m o).toNat < m 132 s ∧ 0 < us1 d (m 130 o) (cBu m o) s ∧ 0 < us1 d (m 130 p) (cBu m p) s := by
        rw [un, bu, bu, f0, f0, hF 8 _ (by omega) (by omega)]
        constructor
        · rintro ⟨s, s1, s2, s3, s4, s5⟩
          have s2' : s < d := s2
          rw [to] at s4
          rw [tp] at s5
          have es : ((s.toNat : Nat) : Int) = s := by omega
          refine ⟨s.toNat, by omega, ?_, ?_, ?_⟩
          · rw [hA s.toNat (by omega), es]
            exact s3
          · rw [es]
            exact s4
          · rw [es]
            exact s5
        · rintro ⟨s, s1, s2, s3, s4⟩
          rw [hA s s1] at s2
          exact ⟨s, by omega, s1, s2, by rw [to]; exact s3, by rw [tp]; exact s4⟩
      refine f_132e hs (hF.ht hT) o8 p8 (fun hc _ => ⟨fun z => absurd z (by decide), fun _ v9 e9 _ b10 e10' _ b11 e11 _ b12 e12 _ => ?_⟩) (fun hc _ => ⟨fun _ => nx p8 pq (fun x => hc (co.mp x.2.2.2)), fun z => absurd rfl z⟩)
      have cc := co.mpr hc
      have cond : ¬ p = o ∧ TiQ (shF (CPb mem d) (qTc mem) o p) p ∧ (CPb mem d).un p = (CPb mem d).un o ∧ CoQ (CPb mem d) (shF (CPb mem d) (qTc mem) o p) o p := ⟨fun e => z (by omega), ti, Decidable.of_not_not w, cc⟩
      have at_p : shF (CPb mem d) (qTc mem) o (p + 1) p = -1 := cIf.y ⟨rfl, cond⟩
      have at_j : ∀ j, ¬ j = p → shF (CPb mem d) (qTc mem) o (p + 1) j = shF (CPb mem d) (qTc mem) o p j := fun j hj => cIf.n (fun w => hj w.1)
      have bits : ∀ i : Nat, i < 32 → (Bt b12 i ↔ Bt (m 129 3) i ∧ ¬ i = p) := fun i hi => by
        rw [Bt_and e12, Bt_not e11 hi, Bt_bit ⟨by omega, by omega⟩ e10', e9]
        exact ⟨fun w => ⟨w.1, fun x => w.2 (by omega)⟩, fun w => ⟨w.1, fun x => w.2 (by omega)⟩⟩
      have hF2 : FrT m (upm m 129 3 b12) := fun A i _ e2 => upm_ne e2
      have hs2 := hF2.h.hs hs
      have b3 : upm m 129 3 b12 129 3 = b12 := upm_eq
      have hC2 : HCm (upm m 129 3 b12) c := hF2.hc hC' (fun j hj w => by
        rw [b3] at w
        rw [tb_bt hj, bits j (by omega)] at w
        exact (hC' j hj).1 ((tb_bt hj).mpr w.1))
      have hU2 : BtU (upm m 129 3 b12) := fun i w => by
        rw [b3] at w
        rw [upm_ne (by omega)]
        exact hU' i ((bits i (Bt_lt w)).mp w).1
      have bu2 : cBu (upm m 129 3 b12) p = cBu mem p := by
        rw [← bu p]
        unfold cBu
        rw [upm_ne (by omega), upm_ne (by omega)]
      have bg := cBu_rg h.1 p8
      refine f_38e hs2.1 p8 (fun _ => ⟨by omega, fun v15 e15 _ => ?_⟩)
      have ht := ((hF.tr hF2).ht hT p p8).1
      rw [Int.toNat_natCast] at e15
      have e15' : v15 = mem 130 p := by rw [e15, upm_ne (by omega), f0]
      rw [bu2]
      refine f_125e hs2.2.2.2.1 hd ⟨by omega, by omega⟩ ⟨by omega, by omega⟩ (Or.inr rfl) (fun s hs' => ?_) (fun m' k kA => ⟨by unfold InI; omega, ih (p + 1) m' (by omega) (by omega) ((hF.tr hF2).tr k.t32) (k.hc hC2) (fun i w => ?_) (fun j hj => ?_) (fun s hs' => ?_)⟩)
      · rw [upm_ne (by omega), hA s hs']
        have := UsC_rg (d := d) (T := shF (CPb mem d) (qTc mem) o p) (u := cUn mem o) (k := (s : Int)) h.1
        omega
      · rw [k 129 3 (by omega)] at w
        rw [k 1 0 (by omega)]
        exact hU2 i w
      · rw [k 129 3 (by omega), b3, bits j (by omega)]
        obtain ⟨j1, j2⟩ := hX j hj
        by_cases e : j = p
        · subst e
          refine ⟨⟨fun w => absurd rfl w.2, fun w => absurd at_p w⟩, fun w => absurd at_p w⟩
        · unfold TiQ
          rw [at_j j e]
          exact ⟨⟨fun w => j1.mp w.1, fun w => ⟨j1.mpr w, e⟩⟩, j2⟩
      · have up := usM_up (M := TiQ (shF (CPb mem d) (qTc mem) o (p + 1))) (M' := TiQ (shF (CPb mem d) (qTc mem) o p)) (un := cUn mem) (bu := cBu mem) (d := d) (s := shF (CPb mem d) (qTc mem) o (p + 1)) (s' := shF (CPb mem d) (qTc mem) o p) (u := cUn mem o) (k := (s : Int)) (o := p) (fun j hj => by unfold TiQ; rw [at_j j hj]; exact ⟨Iff.rfl, fun _ => rfl⟩) (fun w => w at_p) ti (mem 1 0).toNat
        rw [if_pos ⟨by omega, Decidable.of_not_not w⟩, tp] at up
        rw [kA s hs', upm_ne (by omega), hA s hs', e15', Int.neg_mul, Int.one_mul]
        have up2 : UsQ (CPb mem d) (shF (CPb mem d) (qTc mem) o p) (cUn mem o) (s : Int) = UsQ (CPb mem d) (shF (CPb mem d) (qTc mem) o (p + 1)) (cUn mem o) (s : Int) + us1 d (mem 130 p) (cBu mem p) (s : Int) := up
        omega
  exact key 9 0 m1 (by omega) (by omega) k1.t32 (k1.hc hC) (fun i w => by rw [k1 129 3 (by omega)] at w; rw [k1 1 0 (by omega)]; exact hU i w) (fun j hj => ⟨by rw [k1 129 3 (by omega)]; exact (qTc.ti hT hj).symm, fun w => (qTc.y ((qTc.ti hT hj).mp w)).symm⟩) a1
def NkQ (c : Nat → Q4) (d : Int) (X : Nat → Int) (o i j : Nat) : Prop := ((c i).1 = (o : Int) ∧ (c i).2.1 = (j : Int) ∧ X j < X o + ((c i).2.2.2 - d * (c i).2.2.1)) ∨ ((c i).1 = (j : Int) ∧ (c i).2.1 = (o : Int) ∧ X o < X j + ((c i).2.2.2 - d * (c i).2.2.1))
def BkI (c : Nat → Q4) (d : Int) (X : Nat → Int) (o k j : Nat) : Prop := ¬ j = o ∧ TiQ X j ∧ ∃ i : Nat, i < k ∧ NkQ c d X o i j
theorem BkI.fin {c : Nat → Q4} {d : Int} {X : Nat → Int} {o k j : Nat} {p : Prb} (hE : p.E = EdQ c k d) : BkI c d X o k j ↔ BkQ p X o j := by
  unfold BkI BkQ
  rw [hE]
  constructor
  · rintro ⟨a, b, i, h1, h2 | h2⟩
    · exact ⟨a, b, Or.inl ⟨_, ⟨i, h1, h2.1, h2.2.1, rfl⟩, h2.2.2⟩⟩
    · exact ⟨a, b, Or.inr ⟨_, ⟨i, h1, h2.1, h2.2.1, rfl⟩, h2.2.2⟩⟩
  · rintro ⟨a, b, ⟨x, ⟨i, h1, h2, h3, h4⟩, h5⟩ | ⟨x, ⟨i, h1, h2, h3, h4⟩, h5⟩⟩
    · exact ⟨a, b, i, h1, Or.inl ⟨h2, h3, by rw [← h4]; exact h5⟩⟩
    · exact ⟨a, b, i, h1, Or.inr ⟨h2, h3, by rw [← h4]; exact h5⟩⟩
theorem BkI.st {c : Nat → Q4} {d : Int} {X : Nat → Int} {o k j : Nat} : BkI c d X o (k + 1) j ↔ BkI c d X o k j ∨ (¬ j = o ∧ TiQ X j ∧ NkQ c d X o k j) := by
  constructor
  · rintro ⟨a, b, i, h1, h2⟩
    by_cases e : i = k
    · subst e
      exact Or.inr ⟨a, b, h2⟩
    · exact Or.inl ⟨a, b, i, by omega, h2⟩
  · rintro (⟨a, b, i, h1, h2⟩ | ⟨a, b, h2⟩)
    · exact ⟨a, b, i, by omega, h2⟩
    · exact ⟨a, b, k, by omega, h2⟩
theorem f_134e {K : MM → Prop} (h : HsA mem d) (hT : HTm mem) (hC : HCm mem c) (hU : BtU mem) {o : Nat} (ho : o < 8) (hto : Bt (mem 129 3) o) (hco : mem 130 o ≤ c) (H : ∀ m', FrT mem m' → HCm m' c → BtU m' → QSt mem m' (brF (CPb mem d) (qTc mem) o) → K m') : CWV (Ex S (n + 1)) 134 [.inr 129, .inr 9, .inl (o : Int)] mem K := by
  have w0 := h.2.1.2
  have key : ∀ (N : Nat) (k : Nat) (m : MM), 64 - k < N → (k : Int) ≤ mem 9 0 → FrT mem m → HCm m c → BtU m → (∀ j : Nat, j < 8 → (Bt (m 129 3) j ↔ TiQ (qTc mem) j ∧ ¬ BkI (cwq mem 9) d (qTc mem) o k j)) → Wx (Ex S n) S M_134 (fun r m => r = none ∧ K m) 2 [some (.inr 129), some (.inr 9), some (.inl (o : Int)), some (.inl (k : Int)), none, none, none, none] [] m := by
    intro N
    induction N with
    | zero => intros; omega
    | succ N ih =>
      intro k m hN hk9 hF hC' hU' hA
      obtain ⟨hB, hW, -, hs, hd⟩ := hF.h.hs h
      have hT' := hF.ht hT
      have e90 : m 9 0 = mem 9 0 := hF _ _ (by omega) (by omega)
      have f0 : ∀ j, m 130 j = mem 130 j := fun j => hF 130 j (by omega) (by omega)
      refine w_134_2 (Ex.mono S n) (fun v1 e1 _ => ⟨fun q => ⟨rfl, H m hF hC' hU' (fun j hj => ?_)⟩, fun q => ?_⟩)
      · have fi : BkI (cwq mem 9) d (qTc mem) o k j ↔ BkQ (CPb mem d) (qTc mem) o j := BkI.fin (by rw [show k = (mem 9 0).toNat by omega]; rfl)
        rw [hA j hj, fi]
        unfold TiQ brF
        by_cases w : BkQ (CPb mem d) (qTc mem) o j
        · rw [cIf.y w]
          exact ⟨⟨fun x => absurd w x.2, fun x => absurd rfl x⟩, fun x => absurd rfl x⟩
        · rw [cIf.n w]
          exact ⟨⟨fun x => x.1, fun x => ⟨x, w⟩⟩, fun x => (qTc.y ((qTc.ti hT hj).mp x)).symm⟩
      have hk : 0 ≤ (k : Int) ∧ (k : Int) < 64 := by omega
      obtain ⟨g1, g2, g3, g4⟩ : Rg (m 10 k) (m 11 k) (m 12 k) (m 13 k) := hW.1 k (by omega)
      have cw : ∀ W, m W k = mem W k ∨ W = 129 ∨ W = 132 := fun W => by
        by_cases e : W = 129
        · exact Or.inr (Or.inl e)
        · by_cases e2 : W = 132
          · exact Or.inr (Or.inr e2)
          · exact Or.inl (hF W k e2 (by omega))
      have nx : ∀ m', FrT mem m' → HCm m' c → BtU m' → (∀ j : Nat, j < 8 → (Bt (m' 129 3) j ↔ TiQ (qTc mem) j ∧ ¬ BkI (cwq mem 9) d (qTc mem) o (k + 1) j)) → InI ((k : Int) + 1) ∧ Wx (Ex S n) S M_134 (fun r m => r = none ∧ K m) 2 [some (.inr 129), some (.inr 9), some (.inl (o : Int)), some (.inl ((k : Int) + 1)), none, none, none, none] [] m' := fun m' z1 z2 z3 z4 => ⟨by unfold InI; omega, ih (k + 1) m' (by omega) (by omega) z1 z2 z3 z4⟩
      have nn : (∀ j : Nat, j < 8 → ¬ j = o → TiQ (qTc mem) j → ¬ BkI (cwq mem 9) d (qTc mem) o k j → ¬ NkQ (cwq mem 9) d (qTc mem) o k j) → InI ((k : Int) + 1) ∧ Wx (Ex S n) S M_134 (fun r m => r = none ∧ K m) 2 [some (.inr 129), some (.inr 9), some (.inl (o : Int)), some (.inl ((k : Int) + 1)), none, none, none, none] [] m := fun w => nx m hF hC' hU' (fun j hj => by
        rw [hA j hj, BkI.st]
        exact ⟨fun x => ⟨x.1, fun y => y.elim x.2 (fun z => w j hj z.1 z.2.1 x.2 z.2.2)⟩, fun x => ⟨x.1, fun y => x.2 (Or.inl y)⟩⟩)
      rw [Int.toNat_natCast]
      refine ⟨hk, fun v2 e2 _ => ⟨hk, fun v3 e3 _ b4 e4 _ b5 e5 _ b6 e6 i6 => ?_⟩⟩
      have c1 : (cwq mem 9 k).1 = v2 := (e2.trans (hF 10 k (by omega) (by omega))).symm
      have c2 : (cwq mem 9 k).2.1 = v3 := (e3.trans (hF 11 k (by omega) (by omega))).symm
      have c3 : (cwq mem 9 k).2.2.1 = m 12 k := (hF 12 k (by omega) (by omega)).symm
      have c4 : (cwq mem 9 k).2.2.2 = m 13 k := (hF 13 k (by omega) (by omega)).symm
      have ends : ∀ i : Nat, Bt b6 i ↔ (i : Int) = v2 ∨ (i : Int) = v3 := fun i => by rw [Bt_or e6, Bt_bit ⟨by omega, by omega⟩ e4, Bt_bit ⟨by omega, by omega⟩ e5]
      have hoo : Bt (m 129 3) o := (hA o ho).mpr ⟨(qTc.ti hT ho).mpr hto, fun w => w.1 rfl⟩
      have body : ∀ jo : Nat, jo < 8 → ¬ jo = o → ((v2 = (o : Int) ∧ v3 = (jo : Int)) ∨ (v2 = (jo : Int) ∧ v3 = (o : Int))) → ∀ v7 b8 : Int, v7 = m 129 3 → b8 = ((fun (x y : Int32) => x &&& y) (Int32.ofInt v7) (Int32.ofInt b6)).toInt → InI b8 → ((¬ b8 = b6 → (InI ((k : Int) + 1)) ∧ (Wx (Ex S n) S M_134 (fun r m => r = none ∧ K m) 2 [some (.inr 129), some (.inr 9), some (.inl (o : Int)), some (.inl ((k : Int) + 1)), none, none, none, none] [] m)) ∧ (¬ (¬ b8 = b6) → ((0 : Int) ≤ v3 ∧ (v3 : Int) < 8) ∧ ∀ v9 : Int, v9 = m 130 (Int.toNat v3) → InI v9 → ((0 : Int) ≤ v2 ∧ (v2 : Int) < 8) ∧ ∀ v10 : Int, v10 = m 130 (Int.toNat v2) → InI v10 → ((0 : Int) ≤ (k : Int) ∧ ((k : Int) : Int) < 64) ∧ ∀ v11 : Int, v11 = m 13 k → InI v11 → (InI (v10 + v11)) ∧ ∀ v12 : Int, v12 = m 129 0 → InI v12 → ((0 : Int) ≤ (k : Int) ∧ ((k : Int) : Int) < 64) ∧ ∀ v13 : Int, v13 = m 12 k → InI v13 → (InI (v12 * v13)) ∧ (InI ((v10 + v11) - (v12 * v13))) ∧ ((((v10 + v11) - (v12 * v13)) ≤ v9 → (InI ((k : Int) + 1)) ∧ (Wx (Ex S n) S M_134 (fun r m => r = none ∧ K m) 2 [some (.inr 129), some (.inr 9), some (.inl (o : Int)), some (.inl ((k : Int) + 1)), none, none, none, none] [] m)) ∧ (¬ (((v10 + v11) - (v12 * v13)) ≤ v9) → ∀ v14 : Int, v14 = m 129 3 → InI v14 → ∀ b15 : Int, b15 = ((fun (x y : Int32) => x ^^^ y) (Int32.ofInt b6) (Int32.ofInt (-1))).toInt → InI b15 → ∀ b16 : Int, b16 = ((fun (x y : Int32) => x &&& y) (Int32.ofInt v14) (Int32.ofInt b15)).toInt → InI b16 → ∀ v17 : Int, v17 = (upm m 129 3 b16) 129 3 → InI v17 → ∀ b18 : Int, b18 = ((fun (x y : Int32) => x <<< (y &&& 31)) (Int32.ofInt 1) (Int32.ofInt (o : Int))).toInt → InI b18 → ∀ b19 : Int, b19 = ((fun (x y : Int32) => x ||| y) (Int32.ofInt v17) (Int32.ofInt b18)).toInt → InI b19 → (InI ((k : Int) + 1)) ∧ (Wx (Ex S n) S M_134 (fun r m => r = none ∧ K m) 2 [some (.inr 129), some (.inr 9), some (.inl (o : Int)), some (.inl ((k : Int) + 1)), none, none, none, none] [] (upm (upm m 129 3 b16) 129 3 b19)))))) := by
        intro jo jo8 jno hv v7 b8 e7 e8 i8
        -- the need asks for this one alone
        have nk : ∀ j : Nat, ¬ j = o → NkQ (cwq mem 9) d (qTc mem) o k j → j = jo := fun j jn w => by
          rcases w with ⟨a, b, -⟩ | ⟨a, b, -⟩
          · rw [c1] at a
            rw [c2] at b
            omega
          · rw [c1] at a
            rw [c2] at b
            omega
        have both : b8 = b6 ↔ Bt (m 129 3) jo := by
          constructor
          · intro w
            have x : Bt b6 jo := (ends jo).mpr (by omega)
            rw [← w, Bt_and e8, e7] at x
            exact x.1
          · intro w
            refine Bt_ext i8 i6 (fun i _ => ?_)
            rw [Bt_and e8, e7]
            constructor
            · exact fun x => x.2
            · intro x
              refine ⟨?_, x⟩
              have y := (ends i).mp x
              by_cases z : i = jo
              · rw [z]
                exact w
              · rw [show i = o by omega]
                exact hoo
        refine ⟨fun w => nn (fun j hj jn ti nb w2 => w (both.mpr ?_)), fun w => ?_⟩
        · rw [← nk j jn w2]
          exact (hA j hj).mpr ⟨ti, nb⟩
        have bj := both.mp (Decidable.of_not_not w)
        obtain ⟨tj, nbj⟩ := (hA jo jo8).mp bj
        have qo : qTc mem o = mem 130 o := qTc.y hto
        have qj : qTc mem jo = mem 130 jo := qTc.y ((qTc.ti hT jo8).mp tj)
        have tjo := (hT jo jo8).1
        have too := (hT o ho).1
        refine ⟨by omega, fun v9 e9 _ => ⟨by omega, fun v10 e10 _ => ⟨hk, fun v11 e11 _ => ?_⟩⟩⟩
        rw [f0] at e9 e10
        have r10 : 0 ≤ v10 ∧ v10 ≤ 900 := by
          rw [e10]
          rcases hv with ⟨a, b⟩ | ⟨a, b⟩
          · rw [a, Int.toNat_natCast]; exact too
          · rw [a, Int.toNat_natCast]; exact tjo
        refine ⟨by unfold InI; omega, fun v12 e12 _ => ⟨hk, fun v13 e13 _ => ?_⟩⟩
        have dd := d7 (d := v12) (x := v13) (by omega) (by omega)
        have e15 : v12 * v13 = d * m 12 k := by rw [e12, e13, hs]
        have nkj : NkQ (cwq mem 9) d (qTc mem) o k jo ↔ ¬ v10 + v11 - v12 * v13 ≤ v9 := by
          unfold NkQ
          rw [c1, c2, c3, c4, qo, qj]
          rcases hv with ⟨a, b⟩ | ⟨a, b⟩
          · rw [b, Int.toNat_natCast] at e9
            rw [a, Int.toNat_natCast] at e10
            constructor
            · rintro (⟨-, -, x⟩ | ⟨x, -, -⟩)
              · omega
              · omega
            · intro x
              exact Or.inl ⟨a, b, by omega⟩
          · rw [b, Int.toNat_natCast] at e9
            rw [a, Int.toNat_natCast] at e10
            constructor
            · rintro (⟨x, -, -⟩ | ⟨-, -, x⟩)
              · omega
              · omega
            · intro x
              exact Or.inr ⟨a, b, by omega⟩
        refine ⟨by unfold InI; omega, by unfold InI; omega, fun x => nn (fun j hj jn ti nb w2 => ?_), fun x v14 f1 _ b15 f2 _ b16 f3 _ v17 f4 _ b18 f5 _ b19 f6 _ => ?_⟩
        · rw [nk j jn w2] at w2
          exact nkj.mp w2 x
        have hF2 : FrT m (upm (upm m 129 3 b16) 129 3 b19) := fun A i _ e2 => by rw [upm_ne e2, upm_ne e2]
        have bits : ∀ i : Nat, i < 32 → (Bt (upm (upm m 129 3 b16) 129 3 b19 129 3) i ↔ Bt (m 129 3) i ∧ ¬ i = jo) := fun i hi => by
          rw [upm_eq, Bt_or f6, f4, upm_eq, Bt_and f3, Bt_not f2 hi, Bt_bit ⟨by omega, by omega⟩ f5, f1, ends]
          constructor
          · rintro (⟨y1, y2⟩ | y)
            · exact ⟨y1, fun z => y2 (by omega)⟩
            · rw [show i = o by omega]
              exact ⟨hoo, fun z => jno z.symm⟩
          · rintro ⟨y1, y2⟩
            by_cases z : i = o
            · exact Or.inr (by omega)
            · exact Or.inl ⟨y1, fun u => by omega⟩
        refine nx _ (hF.tr hF2) (hF2.hc hC' (fun p hp z => ?_)) (fun i z => ?_) (fun j hj => ?_)
        · rw [tb_bt hp, bits p (by omega)] at z
          exact (hC' p hp).1 ((tb_bt hp).mpr z.1)
        · rw [hF2 1 0 (by omega) (by omega)]
          exact hU' i ((bits i (Bt_lt z)).mp z).1
        · rw [bits j (by omega), hA j hj, BkI.st]
          constructor
          · rintro ⟨⟨y1, y2⟩, y3⟩
            refine ⟨y1, fun z => z.elim y2 (fun u => y3 (nk j u.1 u.2.2))⟩
          · rintro ⟨y1, y2⟩
            refine ⟨⟨y1, fun z => y2 (Or.inl z)⟩, fun z => y2 (Or.inr ?_)⟩
            subst z
            exact ⟨jno, tj, nkj.mpr x⟩
      have vj : ∀ v : Int, 0 ≤ v → v < 8 → ∃ j : Nat, v = (j : Int) ∧ j < 8 := fun v a b => ⟨v.toNat, by omega, by omega⟩
      refine ⟨fun n2 => ⟨fun n3 => nn (fun j hj jn ti nb w2 => ?_), fun y3 v7 e7 _ b8 e8 i8 => ?_⟩, fun y2 => ⟨fun n3 v7 e7 _ b8 e8 i8 => ?_, fun y3 => nn (fun j hj jn ti nb w2 => ?_)⟩⟩
      · rcases w2 with ⟨a, -, -⟩ | ⟨-, a, -⟩
        · rw [c1] at a
          exact n2 a
        · rw [c2] at a
          exact n3 a
      · obtain ⟨jo, ej, j8⟩ := vj v2 (by omega) (by omega)
        exact body jo j8 (fun z => n2 (by omega)) (Or.inr ⟨ej, Decidable.of_not_not y3⟩) v7 b8 e7 e8 i8
      · obtain ⟨jo, ej, j8⟩ := vj v3 (by omega) (by omega)
        exact body jo j8 (fun z => n3 (by omega)) (Or.inl ⟨Decidable.of_not_not y2, ej⟩) v7 b8 e7 e8 i8
      · have a2 := Decidable.of_not_not y2
        have a3 := Decidable.of_not_not y3
        rcases w2 with ⟨-, a, -⟩ | ⟨a, -, -⟩
        · rw [c2] at a
          omega
        · rw [c1] at a
          omega
  exact CW.of (k := 5) mt_134 rfl rfl (w_134_0 (Ex.mono S n) (key 65 0 mem (by omega) (by omega) FrT.rf hC hU (fun j hj => ⟨fun w => ⟨(qTc.ti hT hj).mpr w, fun ⟨_, _, i, hi, _⟩ => absurd hi (Nat.not_lt_zero _)⟩, fun w => (qTc.ti hT hj).mp w.1⟩)))
theorem f_129e {K : MM → Prop} (h : HsA mem d) (hT : HTm mem) (hC : HCm mem c) (hc : 0 ≤ c ∧ c ≤ 846) (hU : BtU mem) {o : Nat} (hos : (o : Int) < mem 1 0) (hN : NoQ (CPb mem d) (qTc mem)) (hn : ¬ TiQ (qTc mem) o) (H : ∀ m' t, FrH mem m' → m' 129 2 = mem 129 2 → m' 129 1 = mem 129 1 → (∀ j, m' 133 j = mem 133 j) → HTm m' → HCm m' (c + 18) → BtU m' → PlQ (CPb mem d) (qTc mem) (mem 131) o t → (∀ j : Nat, j < 8 → m' 131 j = if j = o then t else mem 131 j) → (∀ j : Nat, j < 8 → qTc m' j = brF (CPb mem d) (shF (CPb mem d) (setF (qTc mem) o t) o (mem 1 0).toNat) o j) → K m') : CWV (Ex S (n + 5)) 129 [.inr 129, .inr 1, .inr 9, .inl (o : Int)] mem K := by
  have hd := h.2.2.2.2
  have h8 := h.1.1
  have ho : o < 8 := by omega
  have hlo := (hC o ho).2 hos
  have hl1 := (hT o ho).2.1
  have ho8 : 0 ≤ (o : Int) ∧ (o : Int) < 8 := by omega
  have ug := cUn_rg h.1 ho
  have Ue : (CPb mem d).un o = cUn mem o := rfl
  have op : o < (CPb mem d).n := show o < (mem 1 0).toNat by omega
  refine CW.of (k := 3) mt_129 rfl rfl (w_129_0 (Ex.mono S (n + 4)) (f_130e h hT hC ⟨hc.1, by omega⟩ (fun r r1 r2 rE _ => f_37e h.1 ho (fun _ => f_124e h hT (fun m1 k1 a1 => ?_)))))
  have at90 : ∀ (t x : Int) (m : MM), 0 ≤ t → t ≤ c + 18 → Fr1 132 mem m → ((x = 0 ∧ RmQ (CPb mem d) (qTc mem) o t) ∨ ¬ x = 0) → PlQ (CPb mem d) (qTc mem) (mem 131) o t → Wx (Ex S (n + 4)) S M_129 (fun r m => r = none ∧ K m) 90 [some (.inr 129), some (.inr 1), some (.inr 9), some (.inl (o : Int)), some (.inl r), some (.inl t), some (.inl x)] [] m := by
    intro t x m t1 t2 kF hx hP
    refine w_129_90 (Ex.mono S (n + 4)) ⟨ho8, ho8, fun v1 e1 _ b2 e2 _ b3 e3 _ => ?_⟩
    rw [Int.toNat_natCast] at e1 ⊢
    have e1 : v1 = m 129 3 := by rw [e1, upm_ne (by omega), upm_ne (by omega)]
    generalize hM : upm (upm (upm m 130 o t) 131 o t) 129 3 b3 = M
    have q : ∀ A i, ¬ (A = 130 ∧ i = o) → ¬ (A = 131 ∧ i = o) → ¬ (A = 129 ∧ i = 3) → M A i = m A i := fun A i z1 z2 z3 => by rw [← hM, upm_ne z3, upm_ne z2, upm_ne z1]
    have q0 : M 130 o = t := by rw [← hM, upm_ne (by omega), upm_ne (by omega), upm_eq]
    have q1 : M 131 o = t := by rw [← hM, upm_ne (by omega), upm_eq]
    have q3 : M 129 3 = b3 := by rw [← hM, upm_eq]
    have hFM : FrH mem M := kF.h32.tr (fun A i z1 z2 => q A i (by omega) (by omega) (by omega))
    have hTM : HTm M := fun p hp => by
      by_cases e : p = o
      · subst e; rw [q0, q1]; omega
      · rw [q 130 p (by omega) (by omega) (by omega), q 131 p (by omega) (by omega) (by omega)]; exact kF.ht hT p hp
    have bM : ∀ i : Nat, Bt (M 129 3) i ↔ Bt (mem 129 3) i ∨ i = o := fun i => by
      rw [q3, Bt_or e3, Bt_bit ⟨by omega, by omega⟩ e2, e1, kF 129 3 (by omega)]
      exact ⟨fun w => w.imp id (fun z => by omega), fun w => w.imp id (fun z => by omega)⟩
    have hCM : HCm M (c + 18) := fun p hp => by
      have hcp := hC p hp
      rw [tb_bt hp, bM p, hFM 1 0 (by omega) (by omega)]
      by_cases e : p = o
      · subst e; rw [q0, q1]; exact ⟨fun _ => t2, fun _ => t2⟩
      · rw [q 130 p (by omega) (by omega) (by omega), q 131 p (by omega) (by omega) (by omega), kF 130 p (by omega), kF 131 p (by omega)]
        refine ⟨fun z => ?_, fun z => by have := hcp.2 z; omega⟩
        rcases z with z | z
        · have := hcp.1 ((tb_bt hp).mpr z); omega
        · exact absurd z e
    have hUM : BtU M := fun i w => by
      rw [hFM 1 0 (by omega) (by omega)]
      rcases (bM i).mp w with w | w
      · exact hU i w
      · rw [w]; exact hos
    have hsM := hFM.hs h
    have CM : CPb M d = CPb mem d := CPb.cgQ hFM
    have qM : qTc M = setF (qTc mem) o t := funext fun j => by
      unfold setF
      by_cases e : j = o
      · rw [if_pos e, e, qTc.y ((bM o).mpr (Or.inr rfl)), q0]
      · rw [if_neg e]
        unfold qTc
        refine cIf.iff ⟨fun w => ((bM j).mp w).resolve_right e, fun w => (bM j).mpr (Or.inl w)⟩ rfl |>.trans ?_
        rw [q 130 j (by omega) (by omega) (by omega), kF 130 j (by omega)]
    have k2 : M 129 2 = mem 129 2 := by rw [q 129 2 (by omega) (by omega) (by omega)]; exact kF _ _ (by omega)
    have k3 : M 129 1 = mem 129 1 := by rw [q 129 1 (by omega) (by omega) (by omega)]; exact kF _ _ (by omega)
    have k4 : ∀ j, M 133 j = mem 133 j := fun j => by rw [q 133 j (by omega) (by omega) (by omega)]; exact kF _ _ (by omega)
    have k5 : ∀ j : Nat, j < 8 → M 131 j = if j = o then t else mem 131 j := fun j hj => by
      by_cases e : j = o
      · rw [if_pos e, e, q1]
      · rw [if_neg e, q 131 j (by omega) (by omega) (by omega), kF 131 j (by omega)]
    have tM : Bt (M 129 3) o := (bM o).mpr (Or.inr rfl)
    have fin : ∀ m2 X, FrT M m2 → HCm m2 (c + 18) → BtU m2 → QSt M m2 X → (∀ j : Nat, j < 8 → X j = brF (CPb mem d) (shF (CPb mem d) (setF (qTc mem) o t) o (mem 1 0).toNat) o j) → none = (none : Option Int) ∧ K m2 := fun m2 X g1 g2 g3 g4 g5 => by
      have g6 : QSt m2 m2 X := fun j hj => ⟨(g4 j hj).1, fun w => by rw [g1 130 j (by omega) (by omega)]; exact (g4 j hj).2 w⟩
      exact ⟨rfl, H m2 t (hFM.tr g1.h) (by rw [g1 129 2 (by omega) (by omega)]; exact k2) (by rw [g1 129 1 (by omega) (by omega)]; exact k3) (fun j => by rw [g1 133 j (by omega) (by omega)]; exact k4 j) (g1.ht hTM) g2 g3 hP (fun j hj => by rw [g1 131 j (by omega) (by omega)]; exact k5 j hj) (fun j hj => (g6.eq j hj).trans (g5 j hj))⟩
    have t9 : ¬ t = -1 := by omega
    refine ⟨fun x0 => f_134e hsM hTM hCM hUM ho tM (by rw [q0]; exact t2) (fun m2 g1 g2 g3 g4 => fin m2 _ g1 g2 g3 g4 (fun j hj => ?_)), fun x0 => f_131e hsM hTM hCM hUM (by rw [hFM 1 0 (by omega) (by omega)]; exact hos) tM (fun m5 g1 g2 g3 g4 => ?_)⟩
    · rcases hx with ⟨-, hr⟩ | hx
      · rw [CM, qM, shF.room op hn t9 hN ⟨by omega, by omega⟩ hr]
      · exact absurd x0 hx
    · rw [hFM 1 0 (by omega) (by omega), CM, qM] at g4
      have s5 : shF (CPb mem d) (setF (qTc mem) o t) o (mem 1 0).toNat o = t := (shF.self _).trans (if_pos rfl)
      have t5 : Bt (m5 129 3) o := (g4 o ho).1.mpr (by unfold TiQ; rw [s5]; exact t9)
      have g6 : QSt m5 m5 (shF (CPb mem d) (setF (qTc mem) o t) o (mem 1 0).toNat) := fun j hj => ⟨(g4 j hj).1, fun w => by rw [g1 130 j (by omega) (by omega)]; exact (g4 j hj).2 w⟩
      have hs5 := g1.h.hs hsM
      have C5 : CPb m5 d = CPb mem d := (CPb.cgQ g1.h).trans CM
      refine f_134e hs5 (g1.ht hTM) g2 g3 ho t5 (by rw [g1 130 o (by omega) (by omega), q0]; exact t2) (fun m6 r1 r2 r3 r4 => fin m6 _ (g1.tr r1) r2 r3 (fun j hj => ⟨(r4 j hj).1, fun w => by rw [← g1 130 j (by omega) (by omega)]; exact (r4 j hj).2 w⟩) (fun j hj => ?_))
      rw [C5]
      unfold brF
      refine cIf.iff ?_ (g6.eq j hj)
      unfold BkQ TiQ
      rw [g6.eq j hj, g6.eq o ho]
  have row : ∀ m, Fr1 132 mem m → (∀ s : Nat, (s : Int) < d → m 132 s = UsQ (CPb mem d) (qTc mem) (cUn mem o) s) → ∀ t : Int, (∀ s : Nat, (s : Int) < d → 0 < us1 d t (cBu m o) s → m 132 s + us1 d t (cBu m o) s ≤ m 8 (cUn m o).toNat) ↔ RmQ (CPb mem d) (qTc mem) o t := fun m kF hA t => by
    have un : cUn m o = cUn mem o := by unfold cUn; rw [kF 2 o (by omega), kF 5 _ (by omega)]
    have bu : cBu m o = cBu mem o := by unfold cBu; rw [kF 2 o (by omega), kF 7 _ (by omega)]
    rw [← CPb.cgQ (d := d) kF.h32]
    exact RmC hd (fun s hs' => by rw [hA s hs', un, CPb.cgQ kF.h32])
  have key : ∀ (N : Nat) (t : Int) (m : MM), r ≤ t → t ≤ r + d → (r + d - t).toNat < N → Fr1 132 mem m → (∀ s : Nat, (s : Int) < d → m 132 s = UsQ (CPb mem d) (qTc mem) (cUn mem o) s) → (∀ t', r ≤ t' → t' < t → ¬ RmQ (CPb mem d) (qTc mem) o t') → Wx (Ex S (n + 4)) S M_129 (fun r m => r = none ∧ K m) 22 [some (.inr 129), some (.inr 1), some (.inr 9), some (.inl (o : Int)), some (.inl r), some (.inl t), none] [] m := by
    intro N
    induction N with
    | zero => intros; omega
    | succ N ih =>
      intro t m t1 t2 hN kF hA hno
      have hs := kF.h32.hs h
      have e0 := hs.2.2.2.1
      have rg : ∀ s : Nat, (s : Int) < d → 0 ≤ m 132 s ∧ m 132 s ≤ 32 := fun s hs' => by rw [hA s hs']; exact UsC_rg h.1
      refine w_129_22 (Ex.mono S (n + 4)) (fun v1 e1 _ => ⟨by unfold InI; omega, fun q => ?_, fun q => f_126e hs ho ⟨by omega, by omega⟩ rg (fun m2 k2 s2 hr _ => ⟨fun _ => ?_, fun z => absurd (by decide) z⟩) (fun m2 k2 s2 hr _ => ⟨fun z => absurd rfl z, fun _ => ⟨by unfold InI; omega, ih (t + 1) m2 (by omega) (by omega) (by omega) (kF.tr k2) (fun s hs' => (s2 s hs').trans (hA s hs')) (fun t' z1 z2 => ?_)⟩⟩)⟩)
      · refine w_129_51 (Ex.mono S (n + 4)) (fun v1 e1 _ => ⟨by unfold InI; omega, fun z => absurd z (by omega), fun _ => ⟨ho8, fun v2 e2 _ => ?_⟩⟩)
        rw [Int.toNat_natCast, kF 131 o (by omega)] at e2
        refine ⟨by unfold InI; omega, f_40 (fun _ => at90 _ 1 m (by omega) (by omega) kF (Or.inr (by decide)) ⟨r, rE, Or.inr ⟨fun t' z1 z2 => hno t' z1 (Int.lt_of_lt_of_le (show t' < r + d from z2) (show r + d ≤ t by omega)), by rw [e2]⟩⟩)⟩
      · have hr' := (row m kF hA t).mp hr
        refine w_129_51 (Ex.mono S (n + 4)) (fun v1 e1 _ => by
          have e1' : v1 = d := by rw [e1, k2 129 0 (by omega), e0]
          exact ⟨by unfold InI; omega, fun z => at90 t 0 m2 (by omega) (by omega) (kF.tr k2) (Or.inl ⟨rfl, hr'⟩) ⟨r, rE, Or.inl ⟨t1, show t < r + d by omega, hr', hno⟩⟩, fun z => absurd (by omega) z⟩)
      · by_cases e : t' = t
        · rw [e]
          exact fun w => hr ((row m kF hA t).mpr w)
        · exact hno t' z1 (by omega)
  exact key _ r m1 (by omega) (by omega) (Nat.lt_succ_self _) k1 a1 (fun t' z1 z2 => absurd z2 (by omega))
theorem f_80h {E : Nat → Nat → Int → Prop} (h : mem 19 0 = mem 1 0) (h8 : 0 ≤ mem 1 0 ∧ mem 1 0 ≤ 8) (hV : ∀ a b x, E a b x → a < (mem 1 0).toNat ∧ b < (mem 1 0).toNat) {o : Nat} (ho : (o : Int) < mem 1 0) (hW : ∀ a b : Nat, (a : Int) < mem 1 0 → (b : Int) < mem 1 0 → WyV E (-100000) a b (WM mem 20 a b)) (H : ∀ z, HgQ E o z → K z mem) : CWI (Ex S (n + 2)) 80 [.inr 19, .inl (o : Int)] mem K := by
  have key : ∀ (N : Nat) (x : Int) (i : Nat), 8 - i < N → (i : Int) ≤ mem 1 0 → 0 ≤ x → (∀ b : Nat, b < i → ∀ l v, Wk E o l b v → v ≤ x) → (x = 0 ∨ ∃ b l, Wk E o l b x) → Wx (Ex S (n + 1)) S M_80 (fun r m => ∃ y, r = some y ∧ K y m) 4 [some (.inr 19), some (.inl (o : Int)), some (.inl x), some (.inl (i : Int))] [] mem := by
    intro N
    induction N with
    | zero => intros; omega
    | succ N ih =>
      intro x i hN hi hx hA hB
      refine w_80_4 (Ex.mono S (n + 1)) (fun v1 e1 _ => ⟨fun q _ => ⟨_, rfl, H _ ⟨hx, fun b l v w => hA b (by have := (Wk.ends hV w).2.1; omega) l v w, hB⟩⟩, fun q => ⟨by unfold InI; omega, by unfold InI; omega, by omega, fun v2 e2 _ => f_40 (fun _ => ⟨by unfold InI; omega, ih _ (i + 1) (by omega) (by omega) (by omega) (fun b hb l v w => ?_) ?_⟩)⟩⟩)
      · have e3 : v2 = WM mem 20 o i := by rw [e2, show ((o : Int) * 8 + (i : Int)).toNat = 8 * o + i by omega]; rfl
        by_cases e : b = i
        · subst e
          rcases hW o b (by omega) (by omega) with ⟨-, y⟩ | ⟨-, -, y⟩
          · exact absurd w (y l v)
          · have := y l v w
            omega
        · have := hA b (by omega) l v w
          omega
      · have e3 : v2 = WM mem 20 o i := by rw [e2, show ((o : Int) * 8 + (i : Int)).toNat = 8 * o + i by omega]; rfl
        by_cases c : x < v2
        · rcases hW o i (by omega) (by omega) with ⟨y, -⟩ | ⟨-, ⟨l, y⟩, -⟩
          · omega
          · exact Or.inr ⟨i, l, by rw [show max x v2 = WM mem 20 o i by omega]; exact y⟩
        · rw [show max x v2 = x by omega]
          exact hB
  exact CW.of (k := 2) mt_80 rfl rfl (w_80_0 (Ex.mono S (n + 1)) (key 9 0 0 (by omega) (by omega) (by omega) (fun b hb => absurd hb (Nat.not_lt_zero _)) (Or.inl rfl)))
theorem UsQ_none {p : Prb} {T : Nat → Int} {u k : Int} (h : ∀ j, j < p.n → ¬ TiQ T j) : UsQ p T u k = 0 := by
  have pt : ∀ n, n ≤ p.n → usM (TiQ T) p.un p.bu p.d T u k n = 0 := fun n => by
    induction n with
    | zero => intro _; rfl
    | succ n ih =>
      intro hn
      show usM _ _ _ _ _ _ _ n + cIf _ _ _ = 0
      rw [ih (by omega), cIf.n (fun x => h n (by omega) x.1)]
      rfl
  exact pt p.n (Nat.le_refl _)
theorem f_123e {K : MM → Prop} (hB : BodyOK mem) (hW : WbOK mem 9) (hR : mem 19 0 = mem 1 0) (hH : HsOK mem) (hd : 1 ≤ d ∧ d ≤ 12) (hV : ∀ a b x, (CPb mem d).E a b x → a < (mem 1 0).toNat ∧ b < (mem 1 0).toNat) (hWy : ∀ a b : Nat, (a : Int) < mem 1 0 → (b : Int) < mem 1 0 → WyV (CPb mem d).E (-100000) a b (WM mem 20 a b)) (hQ : mem 129 0 = d → HstR mem) (H : ∀ m', FrX mem m' → HsOK m' → m' 129 0 = d → HstR m' → K m') : CWV (Ex S (n + 6)) 123 [.inr 129, .inr 1, .inr 9, .inr 19, .inl d] mem K := by
  refine CW.of (k := 1) mt_123 rfl rfl (w_123_0 (Ex.mono S (n + 5)) (fun v1 e1 _ => ⟨fun q => ?_, fun q => ⟨rfl, H mem (fun _ _ _ => rfl) hH (e1.symm.trans (Decidable.of_not_not q)) (hQ (e1.symm.trans (Decidable.of_not_not q)))⟩⟩))
  generalize hM : upm (upm (upm (upm mem 129 0 d) 129 1 0) 129 2 0) 129 3 0 = M
  have qM : ∀ A i, ¬ A = 129 → M A i = mem A i := fun A i z => by rw [← hM, upm_ne (by omega), upm_ne (by omega), upm_ne (by omega), upm_ne (by omega)]
  have m0 : M 129 0 = d := by rw [← hM, upm_ne (by omega), upm_ne (by omega), upm_ne (by omega), upm_eq]
  have m1 : M 129 1 = 0 := by rw [← hM, upm_ne (by omega), upm_ne (by omega), upm_eq]
  have m2 : M 129 2 = 0 := by rw [← hM, upm_ne (by omega), upm_eq]
  have m3 : M 129 3 = 0 := by rw [← hM, upm_eq]
  have hA : HsA M d := ⟨hB.fr (fun A i a b => qM A i (by omega)), ⟨fun j hj => by rw [qM _ _ (by omega), qM _ _ (by omega), qM _ _ (by omega), qM _ _ (by omega)]; exact hW.1 j hj, by rw [qM _ _ (by omega)]; exact hW.2⟩, by rw [qM _ _ (by omega), hR]; exact hB.1, m0, hd⟩
  have hT : HTm M := fun o ho => by rw [qM _ _ (by omega), qM _ _ (by omega)]; exact hH.1 o ho
  have hX : FrX mem M := fun A i z => qM A i (by omega)
  have h8 := hA.1.1
  have CM : CPb M d = CPb mem d := CPb.cg (fun A i q => qM A i (by omega))
  have M10 : M 1 0 = mem 1 0 := qM 1 0 (by omega)
  have nP : (CPb M d).n = (M 1 0).toNat := rfl
  have ugP : ∀ j, j < (CPb M d).n → 0 ≤ (CPb M d).un j ∧ (CPb M d).un j < 3 := fun j hj => by
    have := cUn_rg hA.1 (o := j) (by omega)
    show 0 ≤ cUn M j ∧ cUn M j < 3
    omega
  have ctP : ∀ u : Int, 0 ≤ u → u < 3 → 0 ≤ (CPb M d).ct u.toNat := fun u a b => by
    have := hA.1.cn (o := u.toNat) (by omega)
    show 0 ≤ M 8 u.toNat
    omega
  have fin : ∀ m, FrH M m → HTm m → (0 ≤ m 129 1 ∧ m 129 1 ≤ 1) → (0 ≤ m 129 2 ∧ m 129 2 ≤ 48) → (∃ h : Nat → Int, (∀ o : Nat, (o : Int) < M 1 0 → HgQ (CPb M d).E o (h o)) ∧ QkX (CPb M d) h (m 129 1) (m 129 2) (m 130)) → K m := fun m g1 g2 g3 g4 g5 => by
    have e0 : m 129 0 = d := by rw [g1 129 0 (by omega) (by omega), m0]
    refine H m (fun A i z => by rw [g1 A i (by omega) (by omega)]; exact hX A i z) ⟨g2, by rw [e0]; omega, g3, g4⟩ e0 ?_
    unfold HstR
    rw [e0, CPb.cgQ g1, g1 1 0 (by omega) (by omega)]
    exact g5
  -- the moves
  have l103 : ∀ (h : Nat → Int), (∀ o : Nat, (o : Int) < M 1 0 → HgQ (CPb M d).E o (h o)) → (∀ j, j < (CPb M d).n → OnQ (CPb M d) j) → ∀ (b3 : Int), b3 = ((fun (x y : Int32) => x <<< (y &&& 31)) (Int32.ofInt 1) (Int32.ofInt (M 1 0))).toInt → InI (b3 - 1) → ∀ (N : Nat) (i : Nat) (m : MM) (X Y : Nat → Nat → Int), 48 - i < N → m 129 2 = (i : Int) → i ≤ 6 * (M 1 0).toNat → m 129 1 = 0 → FrH M m → HTm m → HCm m (18 * m 129 2) → BtU m → (∀ j : Nat, (j : Int) < M 1 0 → m 133 j = h j) → NoQ (CPb M d) (qTc m) → RuQ (CPb M d) h X Y i → (∀ j, j < (CPb M d).n → X i j = qTc m j ∧ Y i j = m 131 j) → Wx (Ex S (n + 5)) S M_123 (fun r m => r = none ∧ K m) 103 [some (.inr 129), some (.inr 1), some (.inr 9), some (.inr 19), some (.inl d), some (.inl (b3 - 1))] [] m := by
    intro h hh hOn b3 eb3 ib3 N
    induction N with
    | zero => intros; omega
    | succ N ih =>
      intro i m X Y hN c0 c1 f0 hF hT' hC hU hG hNo hRu hXY
      have hs := hF.hs hA
      have e10 : m 1 0 = M 1 0 := hF _ _ (by omega) (by omega)
      have Cm : CPb m d = CPb M d := CPb.cgQ hF
      have full : ∀ k : Nat, Bt (b3 - 1) k ↔ (k : Int) < M 1 0 := fun k => Bt_full (d := M 1 0) ⟨by omega, by omega⟩ eb3 rfl
      have all : ∀ v : Int, v = m 129 3 → InI v → (v = b3 - 1 ↔ AlQ (CPb M d) (qTc m)) := fun v ev iv => by
        constructor
        · intro w j hj
          have j8 : j < 8 := by omega
          rw [qTc.ti hT' j8, ← ev, w, full]
          omega
        · intro w
          refine Bt_ext iv ib3 (fun k _ => ?_)
          rw [full, ev]
          constructor
          · intro z
            rw [← e10]
            exact hU k z
          · intro z
            exact (qTc.ti hT' (by omega)).mp (w k (by omega))
      have alX : AlQ (CPb M d) (X i) ↔ AlQ (CPb M d) (qTc m) := ⟨fun w => w.cg (fun a ha => (hXY a ha).1), fun w => w.cg (fun a ha => (hXY a ha).1.symm)⟩
      have done : ∀ z : Int, (z = 1 ∧ AlQ (CPb M d) (qTc m)) ∨ (z = 0 ∧ ¬ AlQ (CPb M d) (qTc m) ∧ i = 6 * (M 1 0).toNat) → none = (none : Option Int) ∧ K (upm m 129 1 z) := fun z hz => by
        refine ⟨rfl, fin _ (hF.tr (fun A i z1 z2 => upm_ne (by omega))) (fun o ho => ?_) (by rw [upm_eq]; omega) (by rw [upm_ne (by omega)]; omega) ⟨h, hh, Or.inr ⟨hOn, X, Y, i, by rw [upm_ne (by omega)]; exact c0, c1, hRu, ?_⟩⟩⟩
        · rw [upm_ne (by omega), upm_ne (by omega)]; exact hT' o ho
        · rw [upm_eq]
          rcases hz with ⟨z1, z2⟩ | ⟨z1, z2, z3⟩
          · refine Or.inl ⟨z1, alX.mpr z2, fun j hj => ?_⟩
            rw [(hXY j hj).1, qTc.y ((qTc.ti hT' (by omega)).mp (z2 j hj)), upm_ne (by omega)]
          · exact Or.inr ⟨z1, fun w => z2 (alX.mp w), z3⟩
      refine w_123_103 (Ex.mono S (n + 5)) (fun v1 e1 _ v2 e2 _ => ⟨by unfold InI; omega, fun q1 v3 e3 i3 => ⟨fun q2 => done 0 (Or.inr ⟨rfl, fun w => q2 ((all v3 e3 i3).mpr w), by omega⟩), fun q2 => done 1 (Or.inl ⟨rfl, (all v3 e3 i3).mp (Decidable.of_not_not q2)⟩)⟩, fun q1 v4 e4 i4 => ⟨fun q2 v5 e5 i5 => ⟨fun q3 => absurd (e5.trans (e4.symm.trans q2)) q3, fun q3 => done 1 (Or.inl ⟨rfl, (all v5 e5 i5).mp (Decidable.of_not_not q3)⟩)⟩, fun q2 v6 e6 _ => ?_⟩⟩)
      have nal : ¬ AlQ (CPb M d) (qTc m) := fun w => q2 ((all v4 e4 i4).mpr w)
      have ex : ∃ j : Nat, (j : Int) < v6 ∧ ¬ TiQ (qTc m) j := Classical.byContradiction (fun w => nal (fun j hj => Classical.byContradiction (fun z => w ⟨j, by omega, z⟩)))
      refine f_128e (h := h) hT' ⟨by omega, by omega⟩ (fun j hj => ⟨hG j (by omega), (hh j (by omega)).1⟩) ex (fun o o1 o2 o3 o4 _ => ?_)
      have hi : HiQ (CPb M d) h (qTc m) o := ⟨show o < (M 1 0).toNat by omega, o2, fun j hj => o3 j (by omega), fun j hj => o4 j hj⟩
      have o8 : o < 8 := by omega
      refine f_129e hs hT' hC ⟨by omega, by omega⟩ hU (by omega) (by rw [Cm]; exact hNo) o2 (fun m9 t g1 g2 g3 g6 g4 g5 g7 gP gL gT v10 e10' _ => ?_)
      rw [Cm] at gP gT
      rw [e10] at gT
      have mv : MvQ (CPb M d) h (qTc m) (m 131) (qTc m9) (m9 131) := ⟨o, t, hi, gP, fun j hj => gL j (by omega), fun j hj => gT j (by omega)⟩
      have hNo9 : NoQ (CPb M d) (qTc m9) := mv.no (show 0 < d by omega) hNo hOn ugP (fun j hj => (hT' j (by omega)).2.1)
      have m9e : v10 + 1 = ((i + 1 : Nat) : Int) := by omega
      refine ⟨by unfold InI; omega, ?_⟩
      rw [m9e]
      have qq : ∀ A k, ¬ (A = 129 ∧ k = 2) → upm m9 129 2 ((i + 1 : Nat) : Int) A k = m9 A k := fun A k z => upm_ne z
      have q9 : qTc (upm m9 129 2 ((i + 1 : Nat) : Int)) = qTc m9 := funext fun j => by
        unfold qTc
        rw [qq 129 3 (by omega), qq 130 j (by omega)]
      have e25 : upm m9 129 2 ((i + 1 : Nat) : Int) 129 2 = ((i + 1 : Nat) : Int) := upm_eq
      refine ih (i + 1) _ (fun k => if k ≤ i then X k else qTc m9) (fun k => if k ≤ i then Y k else m9 131) (by omega) e25 (by omega) (by rw [qq 129 1 (by omega), g3]; exact f0) ((hF.tr g1).tr (fun A k z1 z2 => qq A k (by omega))) (fun p hp => by rw [qq 130 p (by omega), qq 131 p (by omega)]; exact g4 p hp) (fun p hp => ?_) (fun k w => ?_) (fun j hj => by rw [qq 133 j (by omega), g6 j]; exact hG j hj) (by rw [q9]; exact hNo9) ⟨fun j hj => ?_, fun k hk => ?_⟩ (fun j hj => ?_)
      · rw [e25, qq 129 3 (by omega), qq 130 p (by omega), qq 131 p (by omega), qq 1 0 (by omega), show 18 * ((i + 1 : Nat) : Int) = 18 * m 129 2 + 18 by omega]
        exact g5 p hp
      · rw [qq 129 3 (by omega)] at w
        rw [qq 1 0 (by omega)]
        exact g7 k w
      · show (if 0 ≤ i then X 0 else qTc m9) j = -1 ∧ (if 0 ≤ i then Y 0 else m9 131) j = -1
        rw [if_pos (Nat.zero_le i), if_pos (Nat.zero_le i)]
        exact hRu.1 j hj
      · show ¬ AlQ (CPb M d) (if k ≤ i then X k else qTc m9) ∧ MvQ (CPb M d) h (if k ≤ i then X k else qTc m9) (if k ≤ i then Y k else m9 131) (if k + 1 ≤ i then X (k + 1) else qTc m9) (if k + 1 ≤ i then Y (k + 1) else m9 131)
        rw [if_pos (show k ≤ i by omega), if_pos (show k ≤ i by omega)]
        by_cases e : k + 1 ≤ i
        · rw [if_pos e, if_pos e]
          exact hRu.2 k (by omega)
        · have ek : k = i := by omega
          subst ek
          rw [if_neg e, if_neg e]
          have hE : ∀ a b x, (CPb M d).E a b x → a < (CPb M d).n ∧ b < (CPb M d).n := fun a b x hx => by
            rw [CM] at hx
            have := hV a b x hx
            rw [nP, M10]
            exact this
          exact ⟨fun w => nal (alX.mp w), mv.cg hE (fun a ha => (hXY a ha).1.symm) (fun a ha => (hXY a ha).2.symm)⟩
      · show (if i + 1 ≤ i then X (i + 1) else qTc m9) j = _ ∧ (if i + 1 ≤ i then Y (i + 1) else m9 131) j = _
        rw [if_neg (by omega), if_neg (by omega), q9, qq 131 j (by omega)]
        exact ⟨rfl, rfl⟩
  -- each op alone
  have l34 : ∀ (N : Nat) (o : Nat) (m : MM) (h : Nat → Int), 8 - o < N → (o : Int) ≤ M 1 0 → FrH M m → HTm m → m 129 1 = 0 → m 129 2 = 0 → m 129 3 = 0 → (∀ p : Nat, p < o → p < 8 → m 131 p = -1) → (∀ p : Nat, p < o → HgQ (CPb M d).E p (h p) ∧ m 133 p = h p) → (∀ p : Nat, p < o → OnQ (CPb M d) p) → Wx (Ex S (n + 5)) S M_123 (fun r m => r = none ∧ K m) 34 [some (.inr 129), some (.inr 1), some (.inr 9), some (.inr 19), some (.inl d), some (.inl (o : Int))] [] m := by
    intro N
    induction N with
    | zero => intros; omega
    | succ N ih =>
      intro o m h hN ho hF hT' f1 f2 f3 hL hG hO
      have hs := hF.hs hA
      have e10 : m 1 0 = M 1 0 := hF _ _ (by omega) (by omega)
      have nb : ∀ i : Nat, ¬ Bt (m 129 3) i := fun i => by rw [f3]; exact Bt_0
      refine w_123_34 (Ex.mono S (n + 5)) (fun v1 e1 _ => ⟨fun z v2 e2 _ b3 e3 _ => ?_, fun z => ⟨by omega, ?_⟩⟩)
      · have a : v2 = 0 ∨ v2 = 1 ∨ v2 = 2 ∨ v2 = 3 ∨ v2 = 4 ∨ v2 = 5 ∨ v2 = 6 ∨ v2 = 7 ∨ v2 = 8 := by omega
        have bb : 1 ≤ b3 ∧ b3 ≤ 256 := by
          rw [e3]
          rcases a with a | a | a | a | a | a | a | a | a <;> rw [a] <;> decide
        have ib : InI (b3 - 1) := by unfold InI; omega
        refine ⟨ib, ?_⟩
        rw [e2, e10] at e3
        have on : (o : Int) = M 1 0 := by omega
        refine l103 h (fun p hp => (hG p (by omega)).1) (fun p hp => hO p (by omega)) b3 e3 ib 49 0 m (fun _ => qTc m) (fun _ => m 131) (by omega) f2 (by omega) f1 hF hT' (fun p hp => ⟨fun w => absurd ((tb_bt hp).mp w) (nb p), fun w => ?_⟩) (fun i w => absurd w (nb i)) (fun p hp => (hG p (by omega)).2) (fun u k c1 c2 c3 c4 => ?_) ⟨fun j hj => ⟨cIf.n (nb j), hL j (by omega) (by omega)⟩, fun i hi => absurd hi (Nat.not_lt_zero _)⟩ (fun j hj => ⟨rfl, rfl⟩)
        · have := hL p (by omega) hp
          omega
        · have z0 : UsQ (CPb M d) (qTc m) u k = 0 := UsQ_none (fun j hj w => w (cIf.n (nb j)))
          rw [z0]
          exact ctP u c1 c2
      · rw [Int.toNat_natCast]
        have o8 : o < 8 := by omega
        have hF1 : FrH m (upm m 131 o (-1)) := fun A i z1 z2 => upm_ne (by omega)
        have hs1 := hF1.hs hs
        have C1 : CPb (upm m 131 o (-1)) d = CPb mem d := (CPb.cgQ (hF.tr hF1)).trans CM
        have fr19 : ∀ A i, ¬ A = 129 → ¬ (130 ≤ A ∧ A ≤ 133) → upm m 131 o (-1) A i = mem A i := fun A i z1 z2 => by rw [upm_ne (by omega), hF A i (by omega) z2, qM A i z1]
        have hV1 : ∀ a b x, (CPb mem d).E a b x → a < (upm m 131 o (-1) 1 0).toNat ∧ b < (upm m 131 o (-1) 1 0).toNat := by
          rw [fr19 1 0 (by omega) (by omega)]
          exact hV
        refine f_80h (E := (CPb mem d).E) (o := o) (by rw [fr19 19 0 (by omega) (by omega), fr19 1 0 (by omega) (by omega)]; exact hR) (by rw [fr19 1 0 (by omega) (by omega)]; exact hB.1) hV1 (by rw [fr19 1 0 (by omega) (by omega)]; omega) (fun a b ha hb => ?_) (fun r hr _ => ⟨by omega, ?_⟩)
        · rw [fr19 1 0 (by omega) (by omega)] at ha hb
          have := hWy a b ha hb
          unfold WM at this ⊢
          rw [fr19 20 _ (by omega) (by omega)]
          exact this
        rw [← CM] at hr
        generalize hM2 : upm (upm m 131 o (-1)) 133 o r = m4
        have q4 : ∀ A i, ¬ (A = 131 ∧ i = o) → ¬ (A = 133 ∧ i = o) → m4 A i = m A i := fun A i z1 z2 => by rw [← hM2, upm_ne z2, upm_ne z1]
        have q41 : m4 131 o = -1 := by rw [← hM2, upm_ne (by omega), upm_eq]
        have q43 : m4 133 o = r := by rw [← hM2, upm_eq]
        have hF4 : FrH M m4 := hF.tr (fun A i z1 z2 => q4 A i (by omega) (by omega))
        have hs4 := hF4.hs hA
        have hT4 : HTm m4 := fun p hp => by
          rw [q4 130 p (by omega) (by omega)]
          refine ⟨(hT' p hp).1, ?_⟩
          by_cases e : p = o
          · subst e; rw [q41]; omega
          · rw [q4 131 p (by omega) (by omega)]; exact (hT' p hp).2
        have C4 : CPb m4 d = CPb M d := CPb.cgQ hF4
        have nb4 : ∀ i : Nat, ¬ Bt (m4 129 3) i := fun i => by rw [q4 129 3 (by omega) (by omega)]; exact nb i
        refine f_37e hs4.1 o8 (fun _ => f_124e hs4 hT4 (fun m6 k6 a6 => ?_))
        have hs6 := k6.h32.hs hs4
        have r0 : ∀ s : Nat, (s : Int) < d → m6 132 s = 0 := fun s hs' => by rw [a6 s hs']; exact UsQ_none (fun j hj w => w (cIf.n (nb4 j)))
        have rm : (∀ s : Nat, (s : Int) < d → 0 < us1 d 0 (cBu m6 o) s → m6 132 s + us1 d 0 (cBu m6 o) s ≤ m6 8 (cUn m6 o).toNat) ↔ OnQ (CPb M d) o := by
          have un : cUn m6 o = cUn M o := by unfold cUn; rw [k6 2 o (by omega), k6 5 _ (by omega), hF4 2 o (by omega) (by omega), hF4 5 _ (by omega) (by omega)]
          have bu : cBu m6 o = cBu M o := by unfold cBu; rw [k6 2 o (by omega), k6 7 _ (by omega), hF4 2 o (by omega) (by omega), hF4 7 _ (by omega) (by omega)]
          have ct : m6 8 (cUn M o).toNat = M 8 (cUn M o).toNat := by rw [k6 8 _ (by omega), hF4 8 _ (by omega) (by omega)]
          rw [un, bu, ct]
          have ug := cUn_rg hA.1 o8
          constructor
          · intro w k a b
            have b' : k < d := b
            have u := us1_rg (d := d) (s := 0) (bu := cBu M o) (k := k)
            have c0 := ctP (cUn M o) (by omega) (by omega)
            by_cases x : 0 < us1 d 0 (cBu M o) k
            · have y := w k.toNat (by omega) (by rw [show ((k.toNat : Nat) : Int) = k by omega]; exact x)
              rw [r0 _ (by omega), show ((k.toNat : Nat) : Int) = k by omega, Int.zero_add] at y
              exact y
            · show us1 d 0 (cBu M o) k ≤ M 8 (cUn M o).toNat
              have c0 : 0 ≤ M 8 (cUn M o).toNat := c0
              omega
          · intro w s a x
            rw [r0 s a, Int.zero_add]
            exact w s (by omega) a
        refine f_126e hs6 o8 ⟨by omega, by omega⟩ (fun s hs' => by rw [r0 s hs']; omega) (fun m9 k9 s9 hr9 _ => ⟨fun _ => ?_, fun z => absurd (by decide) z⟩) (fun m9 k9 s9 hr9 _ => ⟨fun z => absurd rfl z, fun _ => ⟨rfl, ?_⟩⟩)
        · have k := k6.tr k9
          have hF9 := hF4.tr k.h32
          have w1 : m9 129 1 = 0 := by rw [k 129 1 (by omega), q4 129 1 (by omega) (by omega)]; exact f1
          have w2 : m9 129 2 = 0 := by rw [k 129 2 (by omega), q4 129 2 (by omega) (by omega)]; exact f2
          have w3 : m9 129 3 = 0 := by rw [k 129 3 (by omega), q4 129 3 (by omega) (by omega)]; exact f3
          refine ⟨by unfold InI; omega, ih (o + 1) m9 (fun p => if p = o then r else h p) (by omega) (by omega) hF9 (k.ht hT4) w1 w2 w3 (fun p hp hp8 => ?_) (fun p hp => ?_) (fun p hp => ?_)⟩
          · rw [k 131 p (by omega)]
            by_cases e : p = o
            · subst e; exact q41
            · rw [q4 131 p (by omega) (by omega)]; exact hL p (by omega) hp8
          · show HgQ (CPb M d).E p (if p = o then r else h p) ∧ m9 133 p = if p = o then r else h p
            rw [k 133 p (by omega)]
            by_cases e : p = o
            · subst e
              rw [if_pos rfl]
              exact ⟨hr, q43⟩
            · rw [if_neg e, q4 133 p (by omega) (by omega)]
              exact hG p (by omega)
          · by_cases e : p = o
            · rw [e]
              exact rm.mp hr9
            · exact hO p (by omega)
        · have k := k6.tr k9
          have hF9 := hF4.tr k.h32
          have w1 : m9 129 1 = 0 := by rw [k 129 1 (by omega), q4 129 1 (by omega) (by omega)]; exact f1
          have w2 : m9 129 2 = 0 := by rw [k 129 2 (by omega), q4 129 2 (by omega) (by omega)]; exact f2
          -- heights of all ops are there, by the ways
          have hx : ∀ p : Nat, ∃ z : Int, (p : Int) < M 1 0 → HgQ (CPb M d).E p z := fun p => by
            by_cases e : (p : Int) < M 1 0
            · have ww : ∀ b : Nat, (b : Int) < M 1 0 → WyV (CPb M d).E (-100000) p b (WM mem 20 p b) := fun b hb => by
                rw [CM]
                exact hWy p b (by omega) (by omega)
              have mx : ∀ i : Nat, (i : Int) ≤ M 1 0 → ∃ x : Int, 0 ≤ x ∧ (∀ b : Nat, b < i → ∀ l v, Wk (CPb M d).E p l b v → v ≤ x) ∧ (x = 0 ∨ ∃ b l, Wk (CPb M d).E p l b x) := fun i => by
                induction i with
                | zero => intro _; exact ⟨0, Int.le_refl _, fun b hb => absurd hb (Nat.not_lt_zero _), Or.inl rfl⟩
                | succ i ih2 =>
                  intro hi
                  obtain ⟨x, x1, x2, x3⟩ := ih2 (by omega)
                  rcases ww i (by omega) with ⟨-, y⟩ | ⟨-, ⟨l, y⟩, y2⟩
                  · refine ⟨x, x1, fun b hb l v w => ?_, x3⟩
                    by_cases e2 : b = i
                    · subst e2
                      exact absurd w (y l v)
                    · exact x2 b (by omega) l v w
                  · by_cases c : x < WM mem 20 p i
                    · refine ⟨WM mem 20 p i, by omega, fun b hb l v w => ?_, Or.inr ⟨i, l, y⟩⟩
                      by_cases e2 : b = i
                      · subst e2
                        exact y2 l v w
                      · have := x2 b (by omega) l v w
                        omega
                    · refine ⟨x, x1, fun b hb l v w => ?_, x3⟩
                      by_cases e2 : b = i
                      · subst e2
                        have := y2 l v w
                        omega
                      · exact x2 b (by omega) l v w
              obtain ⟨x, x1, x2, x3⟩ := mx (M 1 0).toNat (by omega)
              refine ⟨x, fun _ => ⟨x1, fun b l v w => x2 b ?_ l v w, x3⟩⟩
              have := (Wk.ends (o := (M 1 0).toNat) (fun a b x hx => by rw [CM] at hx; rw [M10]; exact hV a b x hx) w).2.1
              exact this
            · exact ⟨0, fun z => absurd z e⟩
          exact fin m9 hF9 (k.ht hT4) (by omega) (by omega) ⟨fun p => Classical.choose (hx p), fun p hp => Classical.choose_spec (hx p) hp, Or.inl ⟨⟨o, show o < (M 1 0).toNat by omega, fun w => hr9 (rm.mpr w)⟩, w1⟩⟩
  exact l34 9 0 M (fun _ => 0) (by omega) (by omega) FrH.rf hT m1 m2 m3 (fun p hp => absurd hp (Nat.not_lt_zero _)) (fun p hp => absurd hp (Nat.not_lt_zero _)) (fun p hp => absurd hp (Nat.not_lt_zero _))
end QKC
end
section
/-! the class between its calls: what holds, and what each part of it leaves -/
theorem ChtOK.fr3 {m m' : MM} {Q : Nat} (h : ChtOK m Q) (e : ∀ A i, (A = Q ∧ 0 < i ∧ i < 4) ∨ (Q < A ∧ A ≤ Q + 3) → m' A i = m A i) : ChtOK m' Q := by
  refine ⟨?_, fun o ho => ?_⟩
  · rw [e Q 1 (by omega), e Q 2 (by omega), e Q 3 (by omega)]; exact h.1
  · rw [e (Q + 1) o (by omega), e (Q + 2) o (by omega), e (Q + 3) o (by omega)]; exact h.2 o ho
theorem HsOK.fr {m m' : MM} (h : HsOK m) (e : ∀ A i, 129 ≤ A → A ≤ 133 → m' A i = m A i) : HsOK m' := by
  obtain ⟨h1, h2, h3, h4⟩ := h
  refine ⟨fun o ho => ?_, ?_, ?_, ?_⟩
  · rw [e 130 o (by omega) (by omega), e 131 o (by omega) (by omega)]; exact h1 o ho
  · rw [e 129 0 (by omega) (by omega)]; exact h2
  · rw [e 129 1 (by omega) (by omega)]; exact h3
  · rw [e 129 2 (by omega) (by omega)]; exact h4
theorem ChSh.ap {Q Q' : Nat} (h : ChSh Q) (h' : ChSh Q') : Q = Q' ∨ Q + 7 ≤ Q' ∨ Q' + 7 ≤ Q := by
  obtain ⟨⟨k, h1, h2⟩, -⟩ := h
  obtain ⟨⟨k', h1', h2'⟩, -⟩ := h'
  omega
def CJ (m : MM) : Prop := BodyOK m ∧ WbOK m 9 ∧ WbOK m 14 ∧ (0 ≤ m 19 0 ∧ m 19 0 ≤ 8) ∧ HsOK m ∧ (∀ o, o < 8 → (0 ≤ m 24 o ∧ m 24 o ≤ 2) ∧ 0 ≤ m 22 o ∧ m 22 o ≤ 11) ∧ (∀ Q, ChSh Q → ChtOK m Q) ∧ (0 ≤ m 0 10 ∧ m 0 10 ≤ 1) ∧ 0 ≤ m 0 11 ∧ m 0 11 ≤ 1
theorem CJ.b {m : MM} (h : CJ m) : BodyOK m := h.1
theorem CJ.w {m : MM} (h : CJ m) : WbOK m 9 := h.2.1
theorem CJ.w2 {m : MM} (h : CJ m) : WbOK m 14 := h.2.2.1
theorem CJ.r {m : MM} (h : CJ m) : 0 ≤ m 19 0 ∧ m 19 0 ≤ 8 := h.2.2.2.1
theorem CJ.hs {m : MM} (h : CJ m) : HsOK m := h.2.2.2.2.1
theorem CJ.us {m : MM} (h : CJ m) : ∀ o, o < 8 → (0 ≤ m 24 o ∧ m 24 o ≤ 2) ∧ 0 ≤ m 22 o ∧ m 22 o ≤ 11 := h.2.2.2.2.2.1
theorem CJ.ch {m : MM} (h : CJ m) : ∀ Q, ChSh Q → ChtOK m Q := h.2.2.2.2.2.2.1
theorem CJ.so {m : MM} (h : CJ m) : 0 ≤ m 0 10 ∧ m 0 10 ≤ 1 := h.2.2.2.2.2.2.2.1
theorem CJ.st {m : MM} (h : CJ m) : 0 ≤ m 0 11 ∧ m 0 11 ≤ 1 := h.2.2.2.2.2.2.2.2
def ClS (m : MM) : Prop := CJ m ∧ (m 0 11 = 0 → m 0 10 = 1 → WbX m ∧ CcX m) ∧ (m 0 11 = 0 → (m 0 10 = 1 ↔ SndX m))
def RfC (m : MM) : Prop := CJ m ∧ m 0 11 = 0 ∧ (m 0 10 = 1 → WbX m) ∧ (m 0 10 = 1 ↔ SndX m)
def RfD (m : MM) : Prop := RfC m ∧ (m 0 10 = 1 → CcX m)
def Rdy (m : MM) : Prop := CJ m ∧ (m 0 11 = 0 ∧ CcX m) ∧ m 0 10 = 1 ∧ WbX m ∧ SndX m
def RdC (m : MM) : Prop := CJ m ∧ (m 0 11 = 0 ∧ RchX m) ∧ m 0 10 = 1 ∧ WbX m ∧ SndX m
theorem Rdy.c {m : MM} (h : Rdy m) : RdC m := ⟨h.1, ⟨h.2.1.1, h.2.1.2.1⟩, h.2.2⟩
theorem RdC.y {m : MM} (h : RdC m) (g : ChtX m) : Rdy m := ⟨h.1, ⟨h.2.1.1, h.2.1.2, g⟩, h.2.2⟩
theorem RfD.cs {m : MM} (h : RfD m) : ClS m := ⟨h.1.1, fun _ q => ⟨h.1.2.2.1 q, h.2 q⟩, fun _ => h.1.2.2.2⟩
theorem RfD.rdy {m : MM} (h : RfD m) (q : m 0 10 = 1) : Rdy m := ⟨h.1.1, ⟨h.1.2.1, h.2 q⟩, q, h.1.2.2.1 q, h.1.2.2.2.mp q⟩
theorem Rdy.cs {m : MM} (h : Rdy m) : ClS m := ⟨h.1, fun _ _ => ⟨h.2.2.2.1, h.2.1.2⟩, fun _ => ⟨fun _ => h.2.2.2.2, fun _ => h.2.2.1⟩⟩
theorem NdC.up {m : MM} {q : Int} {x : Q4} (hB : BodyOK m) (hs : SndX m) (h : NdC m q x) : 0 ≤ x.2.2.1 ∧ (x.2.2.1 = 0 → x.1 < x.2.1) := by
  have h8 := hB.1
  rcases h with ⟨o, k, h1, h2, h3, h4⟩ | ⟨s, o, h1, h2, h3, h4, h5, h6⟩
  · subst h4
    have c := hs o k h1 h2
    have so := hB.src (o := o) (k := k) (by omega) h2
    unfold SrcC at c
    unfold srcOK at so
    show 0 ≤ m 3 (4 * o + 2 * k + 1) ∧ (m 3 (4 * o + 2 * k + 1) = 0 → m 3 (4 * o + 2 * k) < (o : Int))
    omega
  · rcases h6 with ⟨g1, g2, g3⟩ | ⟨g1, g2, g3⟩ | ⟨g1, g2, g3⟩
    · subst g3
      show 0 ≤ plcB m s - plcB m o ∧ (plcB m s - plcB m o = 0 → (s : Int) < (o : Int))
      omega
    · subst g3
      show 0 ≤ plcB m o - plcB m s ∧ (plcB m o - plcB m s = 0 → (o : Int) < (s : Int))
      omega
    · subst g3
      show 0 ≤ plcB m s - plcB m o ∧ (plcB m s - plcB m o = 0 → (s : Int) < (o : Int))
      omega
theorem Rdy.edv {m : MM} (h : Rdy m) : EdV (cwq m 9) (m 9 0).toNat (m 1 0).toNat := by
  intro j hj
  have w := h.2.2.2.1.1 j (by omega)
  have g : Rg (m 10 j) (m 11 j) (m 12 j) (m 13 j) := h.1.2.1.1 j (by have := h.1.2.1.2; omega)
  unfold Rg at g
  have u := NdC.up h.1.1 h.2.2.2.2 (h.2.2.2.1.2.1.2.1 j hj)
  refine ⟨⟨(m 10 j).toNat, (m 11 j).toNat, ?_, ?_, by omega, by omega⟩, u.1, u.2⟩
  · show m 10 j = _; omega
  · show m 11 j = _; omega
theorem Rdy.noup {m : MM} {d : Int} (h : Rdy m) (hd : 0 ≤ d) (q : upV (m 9 5) (m 9 6) ≤ d) : NoUp (EdQ (cwq m 9) (m 9 0).toNat d) := by
  have h8 := h.1.1.1
  obtain ⟨⟨t1, t2⟩, t3, t4⟩ := h.2.2.2.1.2.2.1
  exact (RtL.noup (by omega) h.edv h.2.2.2.1.2.2.2 hd).mpr ((upV_le t1 (by omega) hd).mp q)
theorem RdC.edv {m : MM} (h : RdC m) : EdV (cwq m 9) (m 9 0).toNat (m 1 0).toNat := by
  intro j hj
  have w := h.2.2.2.1.1 j (by omega)
  have g : Rg (m 10 j) (m 11 j) (m 12 j) (m 13 j) := h.1.2.1.1 j (by have := h.1.2.1.2; omega)
  unfold Rg at g
  have u := NdC.up h.1.1 h.2.2.2.2 (h.2.2.2.1.2.1.2.1 j hj)
  refine ⟨⟨(m 10 j).toNat, (m 11 j).toNat, ?_, ?_, by omega, by omega⟩, u.1, u.2⟩
  · show m 10 j = _; omega
  · show m 11 j = _; omega
theorem RdC.noup {m : MM} {d : Int} (h : RdC m) (hd : 0 ≤ d) (q : upV (m 9 5) (m 9 6) ≤ d) : NoUp (EdQ (cwq m 9) (m 9 0).toNat d) := by
  have h8 := h.1.1.1
  obtain ⟨⟨t1, t2⟩, t3, t4⟩ := h.2.2.2.1.2.2.1
  exact (RtL.noup (by omega) h.edv h.2.2.2.1.2.2.2 hd).mpr ((upV_le t1 (by omega) hd).mp q)
def pCl (A _i : Nat) : Prop := A < 143
def pNb (A _i : Nat) : Prop := A < 143 ∧ ¬ (0 < A ∧ A < 9)
def pHs (A _i : Nat) : Prop := 129 ≤ A ∧ A ≤ 133
def pW9c (A i : Nat) : Prop := A = 9 ∧ (i = 5 ∨ i = 6 ∨ i = 7)
def pW14c (A i : Nat) : Prop := A = 14 ∧ (i = 5 ∨ i = 6 ∨ i = 7)
def p11 (A i : Nat) : Prop := A = 0 ∧ i = 11
def p10 (A i : Nat) : Prop := A = 0 ∧ i = 10
def p191 (A i : Nat) : Prop := A = 19 ∧ i = 1
def p129 (A i : Nat) : Prop := A = 129 ∧ i = 0
def pQ0 (Q A i : Nat) : Prop := A = Q ∧ i = 0
def pQ1 (Q A i : Nat) : Prop := A = Q ∧ i = 1
def pBd (A i : Nat) : Prop := (0 < A ∧ A < 9) ∨ (A = 0 ∧ i = 11)
def p4f (A _i : Nat) : Prop := A = 4
theorem CJ.e_span {m m' : MM} (h : CJ m) (hF : Frm pRe m m') (hz : 0 ≤ m' 19 0 ∧ m' 19 0 ≤ 8) (hx : RchX m') : CJ m' := by
  exact ⟨h.b.fr (fun A i a b => hF A i (by unfold pRe; omega)), h.w.fr (fun A i a b => hF A i (by unfold pRe; omega)), h.w2.fr (fun A i a b => hF A i (by unfold pRe; omega)), hz, h.hs.fr (fun A i a b => hF A i (by unfold pRe; omega)), fun o ho => by rw [hF 24 o (by unfold pRe; omega), hF 22 o (by unfold pRe; omega)]; exact h.us o ho, fun Q' hQ' => (h.ch Q' hQ').fr3 (fun A i q => hF A i (by have := hQ'.rg; unfold pRe; omega)), by rw [hF 0 10 (by unfold pRe; omega)]; exact h.so, by rw [hF 0 11 (by unfold pRe; omega)]; exact h.st⟩
theorem RdC.e_span {m m' : MM} (h : RdC m) (hF : Frm pRe m m') (hz : 0 ≤ m' 19 0 ∧ m' 19 0 ≤ 8) (hx : RchX m') : RdC m' := by
  exact ⟨CJ.e_span h.1 hF hz hx, ⟨by rw [hF 0 11 (by unfold pRe; omega)]; exact h.2.1.1, hx⟩, by rw [hF 0 10 (by unfold pRe; omega)]; exact h.2.2.1, h.2.2.2.1.fr (fun A i q => hF A i (by unfold pRe; omega)), h.2.2.2.2.fr (fun A i a b => hF A i (by unfold pRe; omega))⟩
theorem Rdy.e_span {m m' : MM} (h : Rdy m) (hF : Frm pRe m m') (hz : 0 ≤ m' 19 0 ∧ m' 19 0 ≤ 8) (hx : RchX m') : Rdy m' := by
  exact ⟨CJ.e_span h.1 hF hz hx, ⟨by rw [hF 0 11 (by unfold pRe; omega)]; exact h.2.1.1, ⟨hx, h.2.1.2.2.fr (fun A i q => hF A i (by unfold pRe; omega))⟩⟩, by rw [hF 0 10 (by unfold pRe; omega)]; exact h.2.2.1, h.2.2.2.1.fr (fun A i q => hF A i (by unfold pRe; omega)), h.2.2.2.2.fr (fun A i a b => hF A i (by unfold pRe; omega))⟩
theorem RfC.e_span {m m' : MM} (h : RfC m) (hF : Frm pRe m m') (hz : 0 ≤ m' 19 0 ∧ m' 19 0 ≤ 8) (hx : RchX m') : RfC m' := by
  exact ⟨CJ.e_span h.1 hF hz hx, by rw [hF 0 11 (by unfold pRe; omega)]; exact h.2.1, fun z => by
    rw [hF 0 10 (by unfold pRe; omega)] at z
    exact (h.2.2.1 z).fr (fun A i q => hF A i (by unfold pRe; omega)), SX.fr h.2.2.2 (hF 0 10 (by unfold pRe; omega)) (fun A i a b => hF A i (by unfold pRe; omega))⟩
theorem CJ.e_seek {m m' : MM} (h : CJ m) (hF : Frm pHs m m') (hz : HsOK m') (hx : HstX m') : CJ m' := by
  exact ⟨h.b.fr (fun A i a b => hF A i (by unfold pHs; omega)), h.w.fr (fun A i a b => hF A i (by unfold pHs; omega)), h.w2.fr (fun A i a b => hF A i (by unfold pHs; omega)), by rw [hF 19 0 (by unfold pHs; omega)]; exact h.r, hz, fun o ho => by rw [hF 24 o (by unfold pHs; omega), hF 22 o (by unfold pHs; omega)]; exact h.us o ho, fun Q' hQ' => (h.ch Q' hQ').fr3 (fun A i q => hF A i (by have := hQ'.rg; unfold pHs; omega)), by rw [hF 0 10 (by unfold pHs; omega)]; exact h.so, by rw [hF 0 11 (by unfold pHs; omega)]; exact h.st⟩
theorem Rdy.e_seek {m m' : MM} (h : Rdy m) (hF : Frm pHs m m') (hz : HsOK m') (hx : HstX m') : Rdy m' := by
  exact ⟨CJ.e_seek h.1 hF hz hx, ⟨by rw [hF 0 11 (by unfold pHs; omega)]; exact h.2.1.1, ⟨⟨h.2.1.2.1.1.fr (fun A i q => hF A i (by unfold pHs; omega)), hx⟩, h.2.1.2.2.fr (fun A i q => hF A i (by unfold pHs; omega))⟩⟩, by rw [hF 0 10 (by unfold pHs; omega)]; exact h.2.2.1, h.2.2.2.1.fr (fun A i q => hF A i (by unfold pHs; omega)), h.2.2.2.2.fr (fun A i a b => hF A i (by unfold pHs; omega))⟩
theorem RfC.e_seek {m m' : MM} (h : RfC m) (hF : Frm pHs m m') (hz : HsOK m') (hx : HstX m') : RfC m' := by
  exact ⟨CJ.e_seek h.1 hF hz hx, by rw [hF 0 11 (by unfold pHs; omega)]; exact h.2.1, fun z => by
    rw [hF 0 10 (by unfold pHs; omega)] at z
    exact (h.2.2.1 z).fr (fun A i q => hF A i (by unfold pHs; omega)), SX.fr h.2.2.2 (hF 0 10 (by unfold pHs; omega)) (fun A i a b => hF A i (by unfold pHs; omega))⟩
theorem CJ.e_hold {m m' : MM} (h : CJ m) (hF : Frm pT6 m m') (hu : ∀ o, o < 8 → 0 ≤ m' 24 o ∧ m' 24 o ≤ 2) (hz : ∀ o, m' 22 o = m 22 o ∨ (0 ≤ m' 22 o ∧ m' 22 o ≤ 11)) : CJ m' := by
  exact ⟨h.b.fr (fun A i a b => hF A i (by unfold pT6; omega)), h.w.fr (fun A i a b => hF A i (by unfold pT6; omega)), h.w2.fr (fun A i a b => hF A i (by unfold pT6; omega)), by rw [hF 19 0 (by unfold pT6; omega)]; exact h.r, h.hs.fr (fun A i a b => hF A i (by unfold pT6; omega)), fun o ho => ⟨hu o ho, by have := hz o; have := (h.us o ho).2; omega⟩, fun Q' hQ' => (h.ch Q' hQ').fr3 (fun A i q => hF A i (by have := hQ'.rg; unfold pT6; omega)), by rw [hF 0 10 (by unfold pT6; omega)]; exact h.so, by rw [hF 0 11 (by unfold pT6; omega)]; exact h.st⟩
theorem RdC.e_hold {m m' : MM} (h : RdC m) (hF : Frm pT6 m m') (hu : ∀ o, o < 8 → 0 ≤ m' 24 o ∧ m' 24 o ≤ 2) (hz : ∀ o, m' 22 o = m 22 o ∨ (0 ≤ m' 22 o ∧ m' 22 o ≤ 11)) : RdC m' := by
  exact ⟨CJ.e_hold h.1 hF hu hz, ⟨by rw [hF 0 11 (by unfold pT6; omega)]; exact h.2.1.1, h.2.1.2.fr (fun A i q => hF A i (by unfold pT6; omega))⟩, by rw [hF 0 10 (by unfold pT6; omega)]; exact h.2.2.1, h.2.2.2.1.fr (fun A i q => hF A i (by unfold pT6; omega)), h.2.2.2.2.fr (fun A i a b => hF A i (by unfold pT6; omega))⟩
theorem Rdy.e_hold {m m' : MM} (h : Rdy m) (hF : Frm pT6 m m') (hu : ∀ o, o < 8 → 0 ≤ m' 24 o ∧ m' 24 o ≤ 2) (hz : ∀ o, m' 22 o = m 22 o ∨ (0 ≤ m' 22 o ∧ m' 22 o ≤ 11)) : Rdy m' := by
  exact ⟨CJ.e_hold h.1 hF hu hz, ⟨by rw [hF 0 11 (by unfold pT6; omega)]; exact h.2.1.1, h.2.1.2.fr (fun A i q => hF A i (by unfold pT6; omega))⟩, by rw [hF 0 10 (by unfold pT6; omega)]; exact h.2.2.1, h.2.2.2.1.fr (fun A i q => hF A i (by unfold pT6; omega)), h.2.2.2.2.fr (fun A i a b => hF A i (by unfold pT6; omega))⟩
theorem RfC.e_hold {m m' : MM} (h : RfC m) (hF : Frm pT6 m m') (hu : ∀ o, o < 8 → 0 ≤ m' 24 o ∧ m' 24 o ≤ 2) (hz : ∀ o, m' 22 o = m 22 o ∨ (0 ≤ m' 22 o ∧ m' 22 o ≤ 11)) : RfC m' := by
  exact ⟨CJ.e_hold h.1 hF hu hz, by rw [hF 0 11 (by unfold pT6; omega)]; exact h.2.1, fun z => by
    rw [hF 0 10 (by unfold pT6; omega)] at z
    exact (h.2.2.1 z).fr (fun A i q => hF A i (by unfold pT6; omega)), SX.fr h.2.2.2 (hF 0 10 (by unfold pT6; omega)) (fun A i a b => hF A i (by unfold pT6; omega))⟩
theorem CJ.e_find {m m' : MM} (h : CJ m) (hF : Frm pSk m m') (hz : ∀ o, m' 22 o = m 22 o ∨ (0 ≤ m' 22 o ∧ m' 22 o ≤ 11)) : CJ m' := by
  exact ⟨h.b.fr (fun A i a b => hF A i (by unfold pSk; omega)), h.w.fr (fun A i a b => hF A i (by unfold pSk; omega)), h.w2.fr (fun A i a b => hF A i (by unfold pSk; omega)), by rw [hF 19 0 (by unfold pSk; omega)]; exact h.r, h.hs.fr (fun A i a b => hF A i (by unfold pSk; omega)), fun o ho => ⟨by rw [hF 24 o (by unfold pSk; omega)]; exact (h.us o ho).1, by have := hz o; have := (h.us o ho).2; omega⟩, fun Q' hQ' => (h.ch Q' hQ').fr3 (fun A i q => hF A i (by have := hQ'.rg; unfold pSk; omega)), by rw [hF 0 10 (by unfold pSk; omega)]; exact h.so, by rw [hF 0 11 (by unfold pSk; omega)]; exact h.st⟩
theorem RdC.e_find {m m' : MM} (h : RdC m) (hF : Frm pSk m m') (hz : ∀ o, m' 22 o = m 22 o ∨ (0 ≤ m' 22 o ∧ m' 22 o ≤ 11)) : RdC m' := by
  exact ⟨CJ.e_find h.1 hF hz, ⟨by rw [hF 0 11 (by unfold pSk; omega)]; exact h.2.1.1, h.2.1.2.fr (fun A i q => hF A i (by unfold pSk; omega))⟩, by rw [hF 0 10 (by unfold pSk; omega)]; exact h.2.2.1, h.2.2.2.1.fr (fun A i q => hF A i (by unfold pSk; omega)), h.2.2.2.2.fr (fun A i a b => hF A i (by unfold pSk; omega))⟩
theorem Rdy.e_find {m m' : MM} (h : Rdy m) (hF : Frm pSk m m') (hz : ∀ o, m' 22 o = m 22 o ∨ (0 ≤ m' 22 o ∧ m' 22 o ≤ 11)) : Rdy m' := by
  exact ⟨CJ.e_find h.1 hF hz, ⟨by rw [hF 0 11 (by unfold pSk; omega)]; exact h.2.1.1, h.2.1.2.fr (fun A i q => hF A i (by unfold pSk; omega))⟩, by rw [hF 0 10 (by unfold pSk; omega)]; exact h.2.2.1, h.2.2.2.1.fr (fun A i q => hF A i (by unfold pSk; omega)), h.2.2.2.2.fr (fun A i a b => hF A i (by unfold pSk; omega))⟩
theorem RfC.e_find {m m' : MM} (h : RfC m) (hF : Frm pSk m m') (hz : ∀ o, m' 22 o = m 22 o ∨ (0 ≤ m' 22 o ∧ m' 22 o ≤ 11)) : RfC m' := by
  exact ⟨CJ.e_find h.1 hF hz, by rw [hF 0 11 (by unfold pSk; omega)]; exact h.2.1, fun z => by
    rw [hF 0 10 (by unfold pSk; omega)] at z
    exact (h.2.2.1 z).fr (fun A i q => hF A i (by unfold pSk; omega)), SX.fr h.2.2.2 (hF 0 10 (by unfold pSk; omega)) (fun A i a b => hF A i (by unfold pSk; omega))⟩
theorem CJ.e_draw {Q : Nat} (hQ : ChSh Q) {m m' : MM} (h : CJ m) (hF : Frm (pCh Q) m m') (hz : ChtOK m' Q) : CJ m' := by
  have hq := hQ.rg
  exact ⟨h.b.fr (fun A i a b => hF A i (by unfold pCh; omega)), h.w.fr (fun A i a b => hF A i (by unfold pCh; omega)), h.w2.fr (fun A i a b => hF A i (by unfold pCh; omega)), by rw [hF 19 0 (by unfold pCh; omega)]; exact h.r, h.hs.fr (fun A i a b => hF A i (by unfold pCh; omega)), fun o ho => by rw [hF 24 o (by unfold pCh; omega), hF 22 o (by unfold pCh; omega)]; exact h.us o ho, fun Q' hQ' => by
    have := hQ'.rg
    rcases ChSh.ap hQ hQ' with e | e
    · subst e; exact hz
    · exact (h.ch Q' hQ').fr3 (fun A i q => hF A i (by unfold pCh; omega)), by rw [hF 0 10 (by unfold pCh; omega)]; exact h.so, by rw [hF 0 11 (by unfold pCh; omega)]; exact h.st⟩
theorem RdC.e_draw {Q : Nat} (hQ : ChSh Q) {m m' : MM} (h : RdC m) (hF : Frm (pCh Q) m m') (hz : ChtOK m' Q) : RdC m' := by
  have hq := hQ.rg
  exact ⟨CJ.e_draw hQ h.1 hF hz, ⟨by rw [hF 0 11 (by unfold pCh; omega)]; exact h.2.1.1, h.2.1.2.fr (fun A i q => hF A i (by unfold pCh; omega))⟩, by rw [hF 0 10 (by unfold pCh; omega)]; exact h.2.2.1, h.2.2.2.1.fr (fun A i q => hF A i (by unfold pCh; omega)), h.2.2.2.2.fr (fun A i a b => hF A i (by unfold pCh; omega))⟩
theorem RfC.e_draw {Q : Nat} (hQ : ChSh Q) {m m' : MM} (h : RfC m) (hF : Frm (pCh Q) m m') (hz : ChtOK m' Q) : RfC m' := by
  have hq := hQ.rg
  exact ⟨CJ.e_draw hQ h.1 hF hz, by rw [hF 0 11 (by unfold pCh; omega)]; exact h.2.1, fun z => by
    rw [hF 0 10 (by unfold pCh; omega)] at z
    exact (h.2.2.1 z).fr (fun A i q => hF A i (by unfold pCh; omega)), SX.fr h.2.2.2 (hF 0 10 (by unfold pCh; omega)) (fun A i a b => hF A i (by unfold pCh; omega))⟩
theorem CJ.e_fit {Q : Nat} (hQ : ChSh Q) {m m' : MM} (h : CJ m) (hF : Frm (pQ1 Q) m m') (hz : ChtOK m' Q) : CJ m' := by
  have hq := hQ.rg
  exact ⟨h.b.fr (fun A i a b => hF A i (by unfold pQ1; omega)), h.w.fr (fun A i a b => hF A i (by unfold pQ1; omega)), h.w2.fr (fun A i a b => hF A i (by unfold pQ1; omega)), by rw [hF 19 0 (by unfold pQ1; omega)]; exact h.r, h.hs.fr (fun A i a b => hF A i (by unfold pQ1; omega)), fun o ho => by rw [hF 24 o (by unfold pQ1; omega), hF 22 o (by unfold pQ1; omega)]; exact h.us o ho, fun Q' hQ' => by
    have := hQ'.rg
    rcases ChSh.ap hQ hQ' with e | e
    · subst e; exact hz
    · exact (h.ch Q' hQ').fr3 (fun A i q => hF A i (by unfold pQ1; omega)), by rw [hF 0 10 (by unfold pQ1; omega)]; exact h.so, by rw [hF 0 11 (by unfold pQ1; omega)]; exact h.st⟩
theorem RdC.e_fit {Q : Nat} (hQ : ChSh Q) {m m' : MM} (h : RdC m) (hF : Frm (pQ1 Q) m m') (hz : ChtOK m' Q) : RdC m' := by
  have hq := hQ.rg
  exact ⟨CJ.e_fit hQ h.1 hF hz, ⟨by rw [hF 0 11 (by unfold pQ1; omega)]; exact h.2.1.1, h.2.1.2.fr (fun A i q => hF A i (by unfold pQ1; omega))⟩, by rw [hF 0 10 (by unfold pQ1; omega)]; exact h.2.2.1, h.2.2.2.1.fr (fun A i q => hF A i (by unfold pQ1; omega)), h.2.2.2.2.fr (fun A i a b => hF A i (by unfold pQ1; omega))⟩
theorem RfC.e_fit {Q : Nat} (hQ : ChSh Q) {m m' : MM} (h : RfC m) (hF : Frm (pQ1 Q) m m') (hz : ChtOK m' Q) : RfC m' := by
  have hq := hQ.rg
  exact ⟨CJ.e_fit hQ h.1 hF hz, by rw [hF 0 11 (by unfold pQ1; omega)]; exact h.2.1, fun z => by
    rw [hF 0 10 (by unfold pQ1; omega)] at z
    exact (h.2.2.1 z).fr (fun A i q => hF A i (by unfold pQ1; omega)), SX.fr h.2.2.2 (hF 0 10 (by unfold pQ1; omega)) (fun A i a b => hF A i (by unfold pQ1; omega))⟩
theorem CJ.e_try {Q : Nat} (hQ : ChSh Q) {m m' : MM} (h : CJ m) (hF : Frm (pQ0 Q) m m') : CJ m' := by
  have hq := hQ.rg
  exact ⟨h.b.fr (fun A i a b => hF A i (by unfold pQ0; omega)), h.w.fr (fun A i a b => hF A i (by unfold pQ0; omega)), h.w2.fr (fun A i a b => hF A i (by unfold pQ0; omega)), by rw [hF 19 0 (by unfold pQ0; omega)]; exact h.r, h.hs.fr (fun A i a b => hF A i (by unfold pQ0; omega)), fun o ho => by rw [hF 24 o (by unfold pQ0; omega), hF 22 o (by unfold pQ0; omega)]; exact h.us o ho, fun Q' hQ' => by
    have := hQ'.rg
    rcases ChSh.ap hQ hQ' with e | e
    · subst e; exact (h.ch Q hQ).fr3 (fun A i q => hF A i (by unfold pQ0; omega))
    · exact (h.ch Q' hQ').fr3 (fun A i q => hF A i (by unfold pQ0; omega)), by rw [hF 0 10 (by unfold pQ0; omega)]; exact h.so, by rw [hF 0 11 (by unfold pQ0; omega)]; exact h.st⟩
theorem RdC.e_try {Q : Nat} (hQ : ChSh Q) {m m' : MM} (h : RdC m) (hF : Frm (pQ0 Q) m m') : RdC m' := by
  have hq := hQ.rg
  exact ⟨CJ.e_try hQ h.1 hF , ⟨by rw [hF 0 11 (by unfold pQ0; omega)]; exact h.2.1.1, h.2.1.2.fr (fun A i q => hF A i (by unfold pQ0; omega))⟩, by rw [hF 0 10 (by unfold pQ0; omega)]; exact h.2.2.1, h.2.2.2.1.fr (fun A i q => hF A i (by unfold pQ0; omega)), h.2.2.2.2.fr (fun A i a b => hF A i (by unfold pQ0; omega))⟩
theorem RfC.e_try {Q : Nat} (hQ : ChSh Q) {m m' : MM} (h : RfC m) (hF : Frm (pQ0 Q) m m') : RfC m' := by
  have hq := hQ.rg
  exact ⟨CJ.e_try hQ h.1 hF , by rw [hF 0 11 (by unfold pQ0; omega)]; exact h.2.1, fun z => by
    rw [hF 0 10 (by unfold pQ0; omega)] at z
    exact (h.2.2.1 z).fr (fun A i q => hF A i (by unfold pQ0; omega)), SX.fr h.2.2.2 (hF 0 10 (by unfold pQ0; omega)) (fun A i a b => hF A i (by unfold pQ0; omega))⟩
theorem CJ.e_play {m m' : MM} (h : CJ m) (hF : Frm pPl m m') : CJ m' := by
  exact ⟨h.b.fr (fun A i a b => hF A i (by unfold pPl; omega)), h.w.fr (fun A i a b => hF A i (by unfold pPl; omega)), h.w2.fr (fun A i a b => hF A i (by unfold pPl; omega)), by rw [hF 19 0 (by unfold pPl; omega)]; exact h.r, h.hs.fr (fun A i a b => hF A i (by unfold pPl; omega)), fun o ho => by rw [hF 24 o (by unfold pPl; omega), hF 22 o (by unfold pPl; omega)]; exact h.us o ho, fun Q' hQ' => (h.ch Q' hQ').fr3 (fun A i q => hF A i (by have := hQ'.rg; unfold pPl; omega)), by rw [hF 0 10 (by unfold pPl; omega)]; exact h.so, by rw [hF 0 11 (by unfold pPl; omega)]; exact h.st⟩
theorem Rdy.e_play {m m' : MM} (h : Rdy m) (hF : Frm pPl m m') : Rdy m' := by
  exact ⟨CJ.e_play h.1 hF , ⟨by rw [hF 0 11 (by unfold pPl; omega)]; exact h.2.1.1, h.2.1.2.fr (fun A i q => hF A i (by unfold pPl; omega))⟩, by rw [hF 0 10 (by unfold pPl; omega)]; exact h.2.2.1, h.2.2.2.1.fr (fun A i q => hF A i (by unfold pPl; omega)), h.2.2.2.2.fr (fun A i a b => hF A i (by unfold pPl; omega))⟩
theorem RfC.e_play {m m' : MM} (h : RfC m) (hF : Frm pPl m m') : RfC m' := by
  exact ⟨CJ.e_play h.1 hF , by rw [hF 0 11 (by unfold pPl; omega)]; exact h.2.1, fun z => by
    rw [hF 0 10 (by unfold pPl; omega)] at z
    exact (h.2.2.1 z).fr (fun A i q => hF A i (by unfold pPl; omega)), SX.fr h.2.2.2 (hF 0 10 (by unfold pPl; omega)) (fun A i a b => hF A i (by unfold pPl; omega))⟩
theorem CJ.e_whl {m m' : MM} (h : CJ m) (hF : Frm p140 m m') : CJ m' := by
  exact ⟨h.b.fr (fun A i a b => hF A i (by unfold p140; omega)), h.w.fr (fun A i a b => hF A i (by unfold p140; omega)), h.w2.fr (fun A i a b => hF A i (by unfold p140; omega)), by rw [hF 19 0 (by unfold p140; omega)]; exact h.r, h.hs.fr (fun A i a b => hF A i (by unfold p140; omega)), fun o ho => by rw [hF 24 o (by unfold p140; omega), hF 22 o (by unfold p140; omega)]; exact h.us o ho, fun Q' hQ' => (h.ch Q' hQ').fr3 (fun A i q => hF A i (by have := hQ'.rg; unfold p140; omega)), by rw [hF 0 10 (by unfold p140; omega)]; exact h.so, by rw [hF 0 11 (by unfold p140; omega)]; exact h.st⟩
theorem Rdy.e_whl {m m' : MM} (h : Rdy m) (hF : Frm p140 m m') : Rdy m' := by
  exact ⟨CJ.e_whl h.1 hF , ⟨by rw [hF 0 11 (by unfold p140; omega)]; exact h.2.1.1, h.2.1.2.fr (fun A i q => hF A i (by unfold p140; omega))⟩, by rw [hF 0 10 (by unfold p140; omega)]; exact h.2.2.1, h.2.2.2.1.fr (fun A i q => hF A i (by unfold p140; omega)), h.2.2.2.2.fr (fun A i a b => hF A i (by unfold p140; omega))⟩
theorem RfC.e_whl {m m' : MM} (h : RfC m) (hF : Frm p140 m m') : RfC m' := by
  exact ⟨CJ.e_whl h.1 hF , by rw [hF 0 11 (by unfold p140; omega)]; exact h.2.1, fun z => by
    rw [hF 0 10 (by unfold p140; omega)] at z
    exact (h.2.2.1 z).fr (fun A i q => hF A i (by unfold p140; omega)), SX.fr h.2.2.2 (hF 0 10 (by unfold p140; omega)) (fun A i a b => hF A i (by unfold p140; omega))⟩
theorem CJ.e_pat {m m' : MM} (h : CJ m) (hF : Frm pPa m m') : CJ m' := by
  exact ⟨h.b.fr (fun A i a b => hF A i (by unfold pPa; omega)), h.w.fr (fun A i a b => hF A i (by unfold pPa; omega)), h.w2.fr (fun A i a b => hF A i (by unfold pPa; omega)), by rw [hF 19 0 (by unfold pPa; omega)]; exact h.r, h.hs.fr (fun A i a b => hF A i (by unfold pPa; omega)), fun o ho => by rw [hF 24 o (by unfold pPa; omega), hF 22 o (by unfold pPa; omega)]; exact h.us o ho, fun Q' hQ' => (h.ch Q' hQ').fr3 (fun A i q => hF A i (by have := hQ'.rg; unfold pPa; omega)), by rw [hF 0 10 (by unfold pPa; omega)]; exact h.so, by rw [hF 0 11 (by unfold pPa; omega)]; exact h.st⟩
theorem Rdy.e_pat {m m' : MM} (h : Rdy m) (hF : Frm pPa m m') : Rdy m' := by
  exact ⟨CJ.e_pat h.1 hF , ⟨by rw [hF 0 11 (by unfold pPa; omega)]; exact h.2.1.1, h.2.1.2.fr (fun A i q => hF A i (by unfold pPa; omega))⟩, by rw [hF 0 10 (by unfold pPa; omega)]; exact h.2.2.1, h.2.2.2.1.fr (fun A i q => hF A i (by unfold pPa; omega)), h.2.2.2.2.fr (fun A i a b => hF A i (by unfold pPa; omega))⟩
theorem RfC.e_pat {m m' : MM} (h : RfC m) (hF : Frm pPa m m') : RfC m' := by
  exact ⟨CJ.e_pat h.1 hF , by rw [hF 0 11 (by unfold pPa; omega)]; exact h.2.1, fun z => by
    rw [hF 0 10 (by unfold pPa; omega)] at z
    exact (h.2.2.1 z).fr (fun A i q => hF A i (by unfold pPa; omega)), SX.fr h.2.2.2 (hF 0 10 (by unfold pPa; omega)) (fun A i a b => hF A i (by unfold pPa; omega))⟩
theorem CJ.e_sp1 {m m' : MM} (h : CJ m) (hF : Frm p14 m m') (hz : WbOK m' 14) : CJ m' := by
  exact ⟨h.b.fr (fun A i a b => hF A i (by unfold p14; omega)), h.w.fr (fun A i a b => hF A i (by unfold p14; omega)), hz, by rw [hF 19 0 (by unfold p14; omega)]; exact h.r, h.hs.fr (fun A i a b => hF A i (by unfold p14; omega)), fun o ho => by rw [hF 24 o (by unfold p14; omega), hF 22 o (by unfold p14; omega)]; exact h.us o ho, fun Q' hQ' => (h.ch Q' hQ').fr3 (fun A i q => hF A i (by have := hQ'.rg; unfold p14; omega)), by rw [hF 0 10 (by unfold p14; omega)]; exact h.so, by rw [hF 0 11 (by unfold p14; omega)]; exact h.st⟩
theorem Rdy.e_sp1 {m m' : MM} (h : Rdy m) (hF : Frm p14 m m') (hz : WbOK m' 14) : Rdy m' := by
  exact ⟨CJ.e_sp1 h.1 hF hz, ⟨by rw [hF 0 11 (by unfold p14; omega)]; exact h.2.1.1, h.2.1.2.fr (fun A i q => hF A i (by unfold p14; omega))⟩, by rw [hF 0 10 (by unfold p14; omega)]; exact h.2.2.1, h.2.2.2.1.fr (fun A i q => hF A i (by unfold p14; omega)), h.2.2.2.2.fr (fun A i a b => hF A i (by unfold p14; omega))⟩
theorem RfC.e_sp1 {m m' : MM} (h : RfC m) (hF : Frm p14 m m') (hz : WbOK m' 14) : RfC m' := by
  exact ⟨CJ.e_sp1 h.1 hF hz, by rw [hF 0 11 (by unfold p14; omega)]; exact h.2.1, fun z => by
    rw [hF 0 10 (by unfold p14; omega)] at z
    exact (h.2.2.1 z).fr (fun A i q => hF A i (by unfold p14; omega)), SX.fr h.2.2.2 (hF 0 10 (by unfold p14; omega)) (fun A i a b => hF A i (by unfold p14; omega))⟩
theorem CJ.e_sp2 {m m' : MM} (h : CJ m) (hF : Frm pW14c m m') : CJ m' := by
  exact ⟨h.b.fr (fun A i a b => hF A i (by unfold pW14c; omega)), h.w.fr (fun A i a b => hF A i (by unfold pW14c; omega)), ⟨fun j hj => by
    rw [hF _ _ (by unfold pW14c; omega), hF _ _ (by unfold pW14c; omega), hF _ _ (by unfold pW14c; omega), hF _ _ (by unfold pW14c; omega)]; exact h.w2.1 j hj, by rw [hF 14 0 (by unfold pW14c; omega)]; exact h.w2.2⟩, by rw [hF 19 0 (by unfold pW14c; omega)]; exact h.r, h.hs.fr (fun A i a b => hF A i (by unfold pW14c; omega)), fun o ho => by rw [hF 24 o (by unfold pW14c; omega), hF 22 o (by unfold pW14c; omega)]; exact h.us o ho, fun Q' hQ' => (h.ch Q' hQ').fr3 (fun A i q => hF A i (by have := hQ'.rg; unfold pW14c; omega)), by rw [hF 0 10 (by unfold pW14c; omega)]; exact h.so, by rw [hF 0 11 (by unfold pW14c; omega)]; exact h.st⟩
theorem Rdy.e_sp2 {m m' : MM} (h : Rdy m) (hF : Frm pW14c m m') : Rdy m' := by
  exact ⟨CJ.e_sp2 h.1 hF , ⟨by rw [hF 0 11 (by unfold pW14c; omega)]; exact h.2.1.1, h.2.1.2.fr (fun A i q => hF A i (by unfold pW14c; omega))⟩, by rw [hF 0 10 (by unfold pW14c; omega)]; exact h.2.2.1, h.2.2.2.1.fr (fun A i q => hF A i (by unfold pW14c; omega)), h.2.2.2.2.fr (fun A i a b => hF A i (by unfold pW14c; omega))⟩
theorem RfC.e_sp2 {m m' : MM} (h : RfC m) (hF : Frm pW14c m m') : RfC m' := by
  exact ⟨CJ.e_sp2 h.1 hF , by rw [hF 0 11 (by unfold pW14c; omega)]; exact h.2.1, fun z => by
    rw [hF 0 10 (by unfold pW14c; omega)] at z
    exact (h.2.2.1 z).fr (fun A i q => hF A i (by unfold pW14c; omega)), SX.fr h.2.2.2 (hF 0 10 (by unfold pW14c; omega)) (fun A i a b => hF A i (by unfold pW14c; omega))⟩
theorem CJ.e_wv {m m' : MM} (h : CJ m) (hF : Frm p9w m m') (hz : WbOK m' 9) : CJ m' := by
  exact ⟨h.b.fr (fun A i a b => hF A i (by unfold p9w; omega)), hz, h.w2.fr (fun A i a b => hF A i (by unfold p9w; omega)), by rw [hF 19 0 (by unfold p9w; omega)]; exact h.r, h.hs.fr (fun A i a b => hF A i (by unfold p9w; omega)), fun o ho => by rw [hF 24 o (by unfold p9w; omega), hF 22 o (by unfold p9w; omega)]; exact h.us o ho, fun Q' hQ' => (h.ch Q' hQ').fr3 (fun A i q => hF A i (by have := hQ'.rg; unfold p9w; omega)), by rw [hF 0 10 (by unfold p9w; omega)]; exact h.so, by rw [hF 0 11 (by unfold p9w; omega)]; exact h.st⟩
theorem CJ.e_wg {m m' : MM} (h : CJ m) (hF : Frm pW9c m m') : CJ m' := by
  exact ⟨h.b.fr (fun A i a b => hF A i (by unfold pW9c; omega)), ⟨fun j hj => by
    rw [hF _ _ (by unfold pW9c; omega), hF _ _ (by unfold pW9c; omega), hF _ _ (by unfold pW9c; omega), hF _ _ (by unfold pW9c; omega)]; exact h.w.1 j hj, by rw [hF 9 0 (by unfold pW9c; omega)]; exact h.w.2⟩, h.w2.fr (fun A i a b => hF A i (by unfold pW9c; omega)), by rw [hF 19 0 (by unfold pW9c; omega)]; exact h.r, h.hs.fr (fun A i a b => hF A i (by unfold pW9c; omega)), fun o ho => by rw [hF 24 o (by unfold pW9c; omega), hF 22 o (by unfold pW9c; omega)]; exact h.us o ho, fun Q' hQ' => (h.ch Q' hQ').fr3 (fun A i q => hF A i (by have := hQ'.rg; unfold pW9c; omega)), by rw [hF 0 10 (by unfold pW9c; omega)]; exact h.so, by rw [hF 0 11 (by unfold pW9c; omega)]; exact h.st⟩
theorem CJ.e_st {m m' : MM} (h : CJ m) (hF : Frm p11 m m') (hz : 0 ≤ m' 0 11 ∧ m' 0 11 ≤ 1) : CJ m' := by
  exact ⟨h.b.fr (fun A i a b => hF A i (by unfold p11; omega)), h.w.fr (fun A i a b => hF A i (by unfold p11; omega)), h.w2.fr (fun A i a b => hF A i (by unfold p11; omega)), by rw [hF 19 0 (by unfold p11; omega)]; exact h.r, h.hs.fr (fun A i a b => hF A i (by unfold p11; omega)), fun o ho => by rw [hF 24 o (by unfold p11; omega), hF 22 o (by unfold p11; omega)]; exact h.us o ho, fun Q' hQ' => (h.ch Q' hQ').fr3 (fun A i q => hF A i (by have := hQ'.rg; unfold p11; omega)), by rw [hF 0 10 (by unfold p11; omega)]; exact h.so, hz⟩
theorem CJ.e_so {m m' : MM} (h : CJ m) (hF : Frm p10 m m') (hz : 0 ≤ m' 0 10 ∧ m' 0 10 ≤ 1) : CJ m' := by
  exact ⟨h.b.fr (fun A i a b => hF A i (by unfold p10; omega)), h.w.fr (fun A i a b => hF A i (by unfold p10; omega)), h.w2.fr (fun A i a b => hF A i (by unfold p10; omega)), by rw [hF 19 0 (by unfold p10; omega)]; exact h.r, h.hs.fr (fun A i a b => hF A i (by unfold p10; omega)), fun o ho => by rw [hF 24 o (by unfold p10; omega), hF 22 o (by unfold p10; omega)]; exact h.us o ho, fun Q' hQ' => (h.ch Q' hQ').fr3 (fun A i q => hF A i (by have := hQ'.rg; unfold p10; omega)), hz, by rw [hF 0 11 (by unfold p10; omega)]; exact h.st⟩
theorem CJ.e_rs {m m' : MM} (h : CJ m) (hF : Frm p191 m m') : CJ m' := by
  exact ⟨h.b.fr (fun A i a b => hF A i (by unfold p191; omega)), h.w.fr (fun A i a b => hF A i (by unfold p191; omega)), h.w2.fr (fun A i a b => hF A i (by unfold p191; omega)), by rw [hF 19 0 (by unfold p191; omega)]; exact h.r, h.hs.fr (fun A i a b => hF A i (by unfold p191; omega)), fun o ho => by rw [hF 24 o (by unfold p191; omega), hF 22 o (by unfold p191; omega)]; exact h.us o ho, fun Q' hQ' => (h.ch Q' hQ').fr3 (fun A i q => hF A i (by have := hQ'.rg; unfold p191; omega)), by rw [hF 0 10 (by unfold p191; omega)]; exact h.so, by rw [hF 0 11 (by unfold p191; omega)]; exact h.st⟩
theorem RfC.e_rs {m m' : MM} (h : RfC m) (hF : Frm p191 m m') : RfC m' := by
  exact ⟨CJ.e_rs h.1 hF , by rw [hF 0 11 (by unfold p191; omega)]; exact h.2.1, fun z => by
    rw [hF 0 10 (by unfold p191; omega)] at z
    exact (h.2.2.1 z).fr (fun A i q => hF A i (by unfold p191; omega)), SX.fr h.2.2.2 (hF 0 10 (by unfold p191; omega)) (fun A i a b => hF A i (by unfold p191; omega))⟩
theorem CJ.e_h0 {m m' : MM} (h : CJ m) (hF : Frm p129 m m') (hz : 0 ≤ m' 129 0 ∧ m' 129 0 ≤ 12) : CJ m' := by
  exact ⟨h.b.fr (fun A i a b => hF A i (by unfold p129; omega)), h.w.fr (fun A i a b => hF A i (by unfold p129; omega)), h.w2.fr (fun A i a b => hF A i (by unfold p129; omega)), by rw [hF 19 0 (by unfold p129; omega)]; exact h.r, ⟨fun o ho => by rw [hF 130 o (by unfold p129; omega), hF 131 o (by unfold p129; omega)]; exact h.hs.1 o ho, hz, by rw [hF 129 1 (by unfold p129; omega)]; exact h.hs.2.2.1, by rw [hF 129 2 (by unfold p129; omega)]; exact h.hs.2.2.2⟩, fun o ho => by rw [hF 24 o (by unfold p129; omega), hF 22 o (by unfold p129; omega)]; exact h.us o ho, fun Q' hQ' => (h.ch Q' hQ').fr3 (fun A i q => hF A i (by have := hQ'.rg; unfold p129; omega)), by rw [hF 0 10 (by unfold p129; omega)]; exact h.so, by rw [hF 0 11 (by unfold p129; omega)]; exact h.st⟩
theorem RfC.e_h0 {m m' : MM} (h : RfC m) (hF : Frm p129 m m') (hz : 0 ≤ m' 129 0 ∧ m' 129 0 ≤ 12) : RfC m' := by
  exact ⟨CJ.e_h0 h.1 hF hz, by rw [hF 0 11 (by unfold p129; omega)]; exact h.2.1, fun z => by
    rw [hF 0 10 (by unfold p129; omega)] at z
    exact (h.2.2.1 z).fr (fun A i q => hF A i (by unfold p129; omega)), SX.fr h.2.2.2 (hF 0 10 (by unfold p129; omega)) (fun A i a b => hF A i (by unfold p129; omega))⟩
theorem CJ.e_bd {m m' : MM} (h : CJ m) (hF : Frm pBd m m') (hz : BodyOK m') (ht : 0 ≤ m' 0 11 ∧ m' 0 11 ≤ 1) : CJ m' := by
  exact ⟨hz, h.w.fr (fun A i a b => hF A i (by unfold pBd; omega)), h.w2.fr (fun A i a b => hF A i (by unfold pBd; omega)), by rw [hF 19 0 (by unfold pBd; omega)]; exact h.r, h.hs.fr (fun A i a b => hF A i (by unfold pBd; omega)), fun o ho => by rw [hF 24 o (by unfold pBd; omega), hF 22 o (by unfold pBd; omega)]; exact h.us o ho, fun Q' hQ' => (h.ch Q' hQ').fr3 (fun A i q => hF A i (by have := hQ'.rg; unfold pBd; omega)), by rw [hF 0 10 (by unfold pBd; omega)]; exact h.so, ht⟩
theorem up1F {P : Nat → Nat → Prop} {m : MM} {A i : Nat} {x : Int} (q : P A i) : Frm P m (upm m A i x) := Frm.up Frm.rf q
theorem ClS.bd {m m' : MM} (h : ClS m) (hF : Frm pBd m m') (hz : BodyOK m') (ht : m' 0 11 = 1) : ClS m' := ⟨CJ.e_bd h.1 hF hz (by omega), fun q => by omega, fun q => by omega⟩
theorem ClS.fi {m m' : MM} (h : ClS m) (hF : Frm p4f m m') : ClS m' := by
  have hB : BodyOK m' := by
    obtain ⟨h1, h2, h3, h4, h5, h6⟩ := h.1.b
    refine ⟨by rw [hF 1 0 (by unfold p4f; omega)]; exact h1, fun o ho => ?_, fun k hk => by rw [hF 5 k (by unfold p4f; omega)]; exact h3 k hk, fun k hk => by rw [hF 6 k (by unfold p4f; omega)]; exact h4 k hk, fun k hk => by rw [hF 7 k (by unfold p4f; omega)]; exact h5 k hk, fun k hk => by rw [hF 8 k (by unfold p4f; omega)]; exact h6 k hk⟩
    unfold BOp
    rw [hF 2 o (by unfold p4f; omega), hF 3 (4 * o) (by unfold p4f; omega), hF 3 (4 * o + 1) (by unfold p4f; omega), hF 3 (4 * o + 2) (by unfold p4f; omega), hF 3 (4 * o + 3) (by unfold p4f; omega)]
    exact h2 o ho
  refine ⟨CJ.e_bd h.1 (hF.mono (fun A i q => by unfold p4f at q; unfold pBd; omega)) hB (by rw [hF 0 11 (by unfold p4f; omega)]; exact h.1.st), fun a b => ?_, fun a => SX.fr (h.2.2 (by rw [hF 0 11 (by unfold p4f; omega)] at a; exact a)) (hF 0 10 (by unfold p4f; omega)) (fun A i a b => hF A i (by unfold p4f; omega))⟩
  rw [hF 0 11 (by unfold p4f; omega)] at a
  rw [hF 0 10 (by unfold p4f; omega)] at b
  exact ⟨(h.2.1 a b).1.fr (fun A i q => hF A i (by unfold p4f; omega)), (h.2.1 a b).2.fr (fun A i q => hF A i (by unfold p4f; omega))⟩
end
section
/-! laid by wip/hand/tg.py: rounds and ways of the class -/
theorem f_76e {S : Nat × (Nat → Int32)} {n : Nat} {mem : MM} {K : MM → Prop} {Z zn : Nat} (hZ : shA Z = some (.inl zn)) (hz : zn ≤ 100000) {x : Int} (H : ∀ m', Fr1 Z mem m' → (∀ i, i < zn → m' Z i = x) → K m') : CWV (Ex S (n + 1)) 76 [.inr Z, .inl x] mem K := by
  have key : ∀ (N : Nat) (i : Nat) (m : MM), i ≤ zn → zn - i < N → Fr1 Z mem m → (∀ j, j < i → m Z j = x) → Wx (Ex S n) S M_76 (fun r m => r = none ∧ K m) 5 [some (.inr Z), some (.inl x), some (.inl (i : Int)), some (.inl (zn : Int))] [] m := by
    intro N
    induction N with
    | zero => intros; omega
    | succ N ih =>
      intro i m hi hN hF hA
      refine w_76_5 (Ex.mono S n) hZ ⟨fun q => ⟨rfl, H m hF (fun j hj => hA j (by omega))⟩, fun q => ⟨⟨by omega, by omega⟩, by unfold InI; omega, ?_⟩⟩
      rw [Int.toNat_natCast]
      refine ih (i + 1) _ (by omega) (by omega) (hF.tr Fr1.up) (fun j hj => ?_)
      by_cases e : j = i
      · subst e; exact upm_eq
      · rw [upm_ne (fun z => e z.2)]; exact hA j (by omega)
  exact CW.of (k := 2) mt_76 rfl rfl (w_76_0 (Ex.mono S n) hZ ⟨by unfold InI; omega, key _ 0 mem (by omega) (Nat.lt_succ_self _) Fr1.rf (fun j hj => by omega)⟩)
theorem dmul12 {d x : Int} (hd : 0 ≤ d ∧ d ≤ 12) (hx : 0 ≤ x ∧ x ≤ 7) : 0 ≤ d * x ∧ d * x ≤ 84 := by
  have h1 := Int.mul_nonneg hd.1 hx.1
  have h2 := Int.mul_le_mul hd.2 hx.2 hx.1 (by omega)
  omega
theorem RchO.of {mem m' : MM} {d : Int} (hE : FwH (EdQ (cwq mem 9) (mem 9 0).toNat d) (mem 1 0).toNat) (hF : Frm pRe mem m') (z : m' 19 0 = mem 1 0) (y : m' 19 1 = d) (I : FwC (EdQ (cwq mem 9) (mem 9 0).toNat d) (mem 1 0).toNat 20 (-100000) m' (mem 1 0).toNat 0 0) : RchO m' := by
  have e : ∀ A i, (A = 9 ∧ i = 0) ∨ (10 ≤ A ∧ A ≤ 13) ∨ (A = 1 ∧ i = 0) → m' A i = mem A i := fun A i q => hF A i (by unfold pRe; omega)
  have ec : cwq m' 9 = cwq mem 9 := funext fun i => by
    unfold cwq
    rw [e (9 + 1) i (by omega), e (9 + 2) i (by omega), e (9 + 3) i (by omega), e (9 + 4) i (by omega)]
  refine Or.inr ⟨by rw [z, e 1 0 (by omega)], fun a b ha hb => ?_⟩
  rw [e 1 0 (by omega)] at ha hb
  rw [ec, e 9 0 (by omega), y]
  exact I.fin hE (by omega) (by omega) (by omega)
theorem f_33x {S : Nat × (Nat → Int32)} {n : Nat} {mem : MM} {K : Int → MM → Prop} {E : Nat → MM → Prop} {a b : Int} (ha : 0 ≤ a) (hb : 0 < b) (H : ∀ r, r = upV a b → K r mem) : CQI (Ex S (n + 2)) 33 [.inl a, .inl b] mem K E := by
  refine CY.of (k := 0) mt_33 rfl rfl (fun hv => ?_)
  have hC := Ex.mono S (n + 1)
  have ii_a : InI a := hv (.inl a) (by simp)
  unfold InI at ii_a
  have ii_b : InI b := hv (.inl b) (by simp)
  unfold InI at ii_b
  clear hv
  show Tx (Ex S (n + 1)) S M_33 (kI K E) 0 0 0 [some (.inl a), some (.inl b)] [] mem
  refine Tx.iload_n hC te_33_0 rfl ?_
  refine Tx.ifc hC (t := 8) te_33_1 (by decide) (fun q1 => ?_) (fun q1 => ?_)
  · replace q1 : 0 < (b : Int) := q1
    refine Tx.iload_n hC te_33_8 rfl ?_
    refine Tx.inegW hC te_33_9 (fun z2 z2i z2e => ?_)
    unfold InI at z2i z2e
    refine Tx.iload_n hC te_33_10 rfl ?_
    refine Tx.statI hC te_33_11 (by decide) mt_34 (args := [.inl z2, .inl b]) (rest := []) (c' := 0) (s' := 0) rfl rfl rfl rfl rfl rfl rfl ?_
    refine f_34 (by omega) (fun r3 r3a r3b r3i => ?_)
    unfold InI at r3i
    refine Tx.inegW hC te_33_14 (fun z6 z6i z6e => ?_)
    unfold InI at z6i z6e
    exact Tx.ireturn hC te_33_15 rfl (fun hr => show K z6 mem from H z6 (ru_fin0 (by omega) ha (z2e (by omega)) (by have := z2e (by omega); omega) r3a r3b (by omega) (by omega) z6e))
  · replace q1 : ¬ (0 < (b : Int)) := q1
    refine Tx.iconst hC te_33_4 rfl ?_
    refine Tx.goto hC (t := 15) te_33_5 (by decide) ?_
    exact Tx.ireturn hC te_33_15 rfl (fun hr => show K 0 mem from H 0 (by omega))
theorem f_32x {S : Nat × (Nat → Int32)} {n : Nat} {mem : MM} {K : Int → MM → Prop} {E : Nat → MM → Prop} {W : Nat} (hW : WebSh W) (hT : WtOK mem W) (H : ∀ r, r = upV (mem W 5) (mem W 6) → 0 ≤ r → r ≤ 80 → K r mem) : CQI (Ex S (n + 3)) 32 [.inr W] mem K E := by
  refine CY.of (k := 0) mt_32 rfl rfl (fun hv => ?_)
  have hC := Ex.mono S (n + 2)
  clear hv
  have hT1 := hT.1
  have hT2 := hT.2
  show Tx (Ex S (n + 2)) S M_32 (kI K E) 0 0 0 [some (.inr W)] [] mem
  refine Tx.aload_n hC te_32_0 rfl ?_
  refine Tx.getI hC te_32_1 hW.1 rfl rfl (fun v1 v1e v1i => ?_)
  unfold InI at v1i
  refine Tx.aload_n hC te_32_4 rfl ?_
  refine Tx.getI hC te_32_5 hW.1 rfl rfl (fun v2 v2e v2i => ?_)
  unfold InI at v2i
  refine Tx.statI hC te_32_8 (by decide) mt_33 (args := [.inl v1, .inl v2]) (rest := []) (c' := 0) (s' := 0) rfl rfl rfl rfl rfl rfl rfl ?_
  refine f_33x (by omega) (by omega) (fun r3 r3e r3i => ?_)
  have r3g := upV_rg (a := v1) (b := v2) (by omega) (by omega)
  have r3u : upV (mem W 5) (mem W 6) = r3 := by rw [r3e, v1e, v2e]
  unfold InI at r3i
  exact Tx.ireturn hC te_32_11 rfl (fun hr => show K r3 mem from H _ (by omega) (by omega) (by omega))
theorem f_77x {S : Nat × (Nat → Int32)} {n : Nat} {mem : MM} {K : MM → Prop} {E : Nat → MM → Prop} {E0 : Nat → Nat → Int → Prop} (hE : FwH E0 (mem 19 0).toNat) {f o : Int} (hf : 0 ≤ f ∧ f < mem 19 0) (ho : 0 ≤ o ∧ o < mem 19 0) (hI : FwC E0 (mem 19 0).toNat 20 (-100000) mem o.toNat f.toNat 0) (hne : ¬ WM mem 20 f.toNat o.toNat = -100000) (H : ∀ m', Frm p20 mem m' → FwC E0 (mem 19 0).toNat 20 (-100000) m' o.toNat (f.toNat + 1) 0 → K m') : CQV (Ex S (n + 2)) 77 [.inr 19, .inl f, .inl o] mem K E := by
  refine CY.of (k := 4) mt_77 rfl rfl (fun hv => ?_)
  have hC := Ex.mono S (n + 1)
  have ii_f : InI f := hv (.inl f) (by simp)
  unfold InI at ii_f
  have ii_o : InI o := hv (.inl o) (by simp)
  unfold InI at ii_o
  clear hv
  have h8 := hE.1
  obtain ⟨ha1, ha2⟩ := hI.ahd (by omega) (show f.toNat < (mem 19 0).toNat by omega)
  have hrg := hI.rg hE (a' := f.toNat) (b' := o.toNat) (by omega) (by omega)
  have hap := ha1.resolve_left hne
  show Tx (Ex S (n + 1)) S M_77 (kV K E) 0 0 0 [some (.inr 19), some (.inl f), some (.inl o), none, none, none, none] [] mem
  have l_15 : ∀ (N : Nat) (x3 x4 : Int) (m_15 : MM), (0 ≤ x4 ∧ x4 ≤ mem 19 0) → (FwC E0 (mem 19 0).toNat 20 (-100000) m_15 o.toNat f.toNat x4.toNat) → (x3 = WM mem 20 f.toNat o.toNat) → ((8 - x4).toNat) < N → Frm p20 mem m_15 → Tx (Ex S (n + 1)) S M_77 (kV K E) 0 0 15 [some (.inr 19), some (.inl f), some (.inl o), some (.inl x3), some (.inl x4), none, none] [] m_15 := by
    intro N
    induction N with
    | zero => intros; omega
    | succ N ih_15 =>
      intro x3 x4 m_15 i15_0 i15_1 i15_2 hN_15 hF_15
      refine Tx.iload hC te_77_15 rfl ?_
      refine Tx.aload_n hC te_77_17 rfl ?_
      refine Tx.getI hC te_77_18 rfl rfl rfl (fun v1 v1e v1i => ?_)
      unfold InI at v1i
      rw [hF_15 19 _ (by unfold p20; omega)] at v1e
      refine Tx.icmp hC (t := 81) te_77_21 (by decide) (fun q2 => ?_) (fun q2 => ?_)
      · replace q2 : v1 ≤ (x4 : Int) := q2
        exact Tx.vret hC te_77_81 rfl (show K m_15 from H _ hF_15 (by have w := i15_1; rw [show x4.toNat = (mem 19 0).toNat by omega] at w; exact w.nextA))
      · replace q2 : ¬ (v1 ≤ (x4 : Int)) := q2
        refine Tx.aload_n hC te_77_24 rfl ?_
        refine Tx.getR hC te_77_25 rfl rfl rfl ?_
        refine Tx.iload_n hC te_77_28 rfl ?_
        refine Tx.bipush hC te_77_29 rfl rfl ?_
        refine Tx.imulW hC te_77_31 (fun z3 z3i z3e => ?_)
        unfold InI at z3i z3e
        first | replace z3e := z3e (by omega) | clear z3e
        refine Tx.iload hC te_77_32 rfl ?_
        refine Tx.iaddW hC te_77_34 (fun z4 z4i z4e => ?_)
        unfold InI at z4i z4e
        first | replace z4e := z4e (by omega) | clear z4e
        refine Tx.iald hC te_77_35 rfl (by omega) (fun v5 v5e v5i => ?_)
        unfold InI at v5i
        have vb : v5 = WM m_15 20 o.toNat x4.toNat := by rw [v5e]; unfold WM; congr 1; omega
        have rb := i15_1.rg hE (a' := o.toNat) (b' := x4.toNat) (by omega) (by omega)
        have rc := i15_1.rg hE (a' := f.toNat) (b' := x4.toNat) (by omega) (by omega)
        refine Tx.istore hC te_77_36 rfl ?_
        refine Tx.iload hC te_77_38 rfl ?_
        refine Tx.ldc hC (z := (-100000)) te_77_40 rfl rfl rfl rfl ?_
        refine Tx.icmp hC (t := 75) te_77_42 (by decide) (fun q6 => ?_) (fun q6 => ?_)
        · replace q6 : (v5 : Int) = (-100000) := q6
          refine Tx.iincW hC te_77_75 rfl rfl (fun z7 z7i z7e => ?_)
          unfold InI at z7i z7e
          first | replace z7e := z7e (by omega) | clear z7e
          refine Tx.goto hC (t := 15) te_77_78 (by decide) ?_
          exact Tx.weak (by repeat' (first | exact trivial | exact rfl | constructor)) (ih_15 x3 z7 m_15 (by omega) (by rw [show (z7).toNat = x4.toNat + 1 by omega]; exact FwC.skip i15_1 hE (by omega) (by omega) (by omega) (by omega) ha1 ha2 (Or.inr (by omega))) (by omega) (by omega) hF_15)
        · replace q6 : ¬ ((v5 : Int) = (-100000)) := q6
          refine Tx.iload_n hC te_77_45 rfl ?_
          refine Tx.bipush hC te_77_46 rfl rfl ?_
          refine Tx.imulW hC te_77_48 (fun z8 z8i z8e => ?_)
          unfold InI at z8i z8e
          first | replace z8e := z8e (by omega) | clear z8e
          refine Tx.iload hC te_77_49 rfl ?_
          refine Tx.iaddW hC te_77_51 (fun z9 z9i z9e => ?_)
          unfold InI at z9i z9e
          first | replace z9e := z9e (by omega) | clear z9e
          refine Tx.istore hC te_77_52 rfl ?_
          refine Tx.aload_n hC te_77_54 rfl ?_
          refine Tx.getR hC te_77_55 rfl rfl rfl ?_
          refine Tx.iload hC te_77_58 rfl ?_
          refine Tx.aload_n hC te_77_60 rfl ?_
          refine Tx.getR hC te_77_61 rfl rfl rfl ?_
          refine Tx.iload hC te_77_64 rfl ?_
          refine Tx.iald hC te_77_66 rfl (by omega) (fun v10 v10e v10i => ?_)
          unfold InI at v10i
          have vc : v10 = WM m_15 20 f.toNat x4.toNat := by rw [v10e]; unfold WM; congr 1; omega
          refine Tx.iload_n hC te_77_67 rfl ?_
          refine Tx.iload hC te_77_68 rfl ?_
          refine Tx.iaddW hC te_77_70 (fun z11 z11i z11e => ?_)
          unfold InI at z11i z11e
          first | replace z11e := z11e (by omega) | clear z11e
          refine Tx.statI hC te_77_71 (by decide) mt_40 (args := [.inl v10, .inl z11]) (rest := [.inl z9, .inr 20]) (c' := 0) (s' := 0) rfl rfl rfl rfl rfl rfl rfl ?_
          refine f_40q (fun r12 r12a r12b r12c r12i => ?_)
          unfold InI at r12i
          refine Tx.iast hC te_77_74 rfl (by omega) ?_
          have hF16 : Frm p20 mem (upm m_15 20 (Int.toNat z9) r12) := Frm.up hF_15 (by unfold p20; omega)
          have hI17 : FwC E0 (mem 19 0).toNat 20 (-100000) (upm m_15 20 (Int.toNat z9) r12) o.toNat f.toNat (x4.toNat + 1) := FwC.upd i15_1 hE (by omega) (by omega) (by omega) (by omega) hap ha2 (by omega) (by omega) (by omega) (by omega)
          generalize upm m_15 20 (Int.toNat z9) r12 = m15 at hF16 hI17 ⊢
          refine Tx.iincW hC te_77_75 rfl rfl (fun z18 z18i z18e => ?_)
          unfold InI at z18i z18e
          first | replace z18e := z18e (by omega) | clear z18e
          refine Tx.goto hC (t := 15) te_77_78 (by decide) ?_
          exact Tx.weak (by repeat' (first | exact trivial | exact rfl | constructor)) (ih_15 x3 z18 m15 (by omega) (by rw [show (z18).toNat = x4.toNat + 1 by omega]; exact hI17) (by omega) (by omega) hF16)
  refine Tx.aload_n hC te_77_0 rfl ?_
  refine Tx.getR hC te_77_1 rfl rfl rfl ?_
  refine Tx.iload_n hC te_77_4 rfl ?_
  refine Tx.bipush hC te_77_5 rfl rfl ?_
  refine Tx.imulW hC te_77_7 (fun z19 z19i z19e => ?_)
  unfold InI at z19i z19e
  first | replace z19e := z19e (by omega) | clear z19e
  refine Tx.iload_n hC te_77_8 rfl ?_
  refine Tx.iaddW hC te_77_9 (fun z20 z20i z20e => ?_)
  unfold InI at z20i z20e
  first | replace z20e := z20e (by omega) | clear z20e
  refine Tx.iald hC te_77_10 rfl (by omega) (fun v21 v21e v21i => ?_)
  unfold InI at v21i
  have va : v21 = WM mem 20 f.toNat o.toNat := by rw [v21e]; unfold WM; congr 1; omega
  refine Tx.istore_n hC te_77_11 rfl ?_
  refine Tx.iconst hC te_77_12 rfl ?_
  refine Tx.istore hC te_77_13 rfl ?_
  exact l_15 _ v21 0 mem (by omega) (hI) (by omega) (Nat.lt_succ_self _) Frm.rf
theorem f_75x {S : Nat × (Nat → Int32)} {n : Nat} {mem : MM} {K : MM → Prop} {E : Nat → MM → Prop} (hB : BodyOK mem) (hW9 : WbOK mem 9) (hS : WbS mem) {d : Int} (hV : EdV (cwq mem 9) (mem 9 0).toNat (mem 1 0).toNat) (hN : NoUp (EdQ (cwq mem 9) (mem 9 0).toNat d)) (hX : RchX mem) (hd : 1 ≤ d ∧ d ≤ 12) (H : ∀ m', Frm pRe mem m' → RchX m' → m' 19 0 = mem 1 0 → m' 19 1 = d → K m') : CQV (Ex S (n + 3)) 75 [.inr 19, .inr 1, .inr 9, .inl d] mem K E := by
  refine CY.of (k := 2) mt_75 rfl rfl (fun hv => ?_)
  have hC := Ex.mono S (n + 2)
  have ii_d : InI d := hv (.inl d) (by simp)
  unfold InI at ii_d
  clear hv
  have h8 := hB.1
  have hw := hW9.2
  have hE := EdQ.fwh (by omega) (by omega) hV (fun j hj => by
    have g : Rg (mem 10 j) (mem 11 j) (mem 12 j) (mem 13 j) := hW9.1 j (by omega)
    unfold Rg at g
    exact ⟨g.2.2.1.2, g.2.2.2.1, g.2.2.2.2⟩) hN
  show Tx (Ex S (n + 2)) S M_75 (kV K E) 0 0 0 [some (.inr 19), some (.inr 1), some (.inr 9), some (.inl d), none, none] [] mem
  have l_106 : ∀ (N : Nat) (x4 : Int) (m_106 : MM), (0 ≤ x4 ∧ x4 ≤ mem 1 0) → (m_106 19 0 = mem 1 0) → (m_106 19 1 = d) → (FwC (EdQ (cwq mem 9) (mem 9 0).toNat d) (mem 1 0).toNat 20 (-100000) m_106 x4.toNat 0 0) → ((8 - x4).toNat) < N → Frm pRe mem m_106 → Tx (Ex S (n + 2)) S M_75 (kV K E) 0 0 106 [some (.inr 19), some (.inr 1), some (.inr 9), some (.inl d), some (.inl x4), none] [] m_106 := by
    intro N
    induction N with
    | zero => intros; omega
    | succ N ih_106 =>
      intro x4 m_106 i106_0 i106_1 i106_2 i106_3 hN_106 hF_106
      have l_118 : ∀ (N : Nat) (x5 : Int) (m_118 : MM), (0 ≤ x5 ∧ x5 ≤ mem 1 0) → (m_118 19 0 = mem 1 0) → (m_118 19 1 = d) → (0 ≤ x4 ∧ x4 < mem 1 0) → (FwC (EdQ (cwq mem 9) (mem 9 0).toNat d) (mem 1 0).toNat 20 (-100000) m_118 x4.toNat x5.toNat 0) → ((8 - x5).toNat) < N → Frm pRe mem m_118 → Tx (Ex S (n + 2)) S M_75 (kV K E) 0 0 118 [some (.inr 19), some (.inr 1), some (.inr 9), some (.inl d), some (.inl x4), some (.inl x5)] [] m_118 := by
        intro N
        induction N with
        | zero => intros; omega
        | succ N ih_118 =>
          intro x5 m_118 i118_0 i118_1 i118_2 i118_3 i118_4 hN_118 hF_118
          refine Tx.iload hC te_75_118 rfl ?_
          refine Tx.aload_n hC te_75_120 rfl ?_
          refine Tx.getI hC te_75_121 rfl rfl rfl (fun v1 v1e v1i => ?_)
          unfold InI at v1i
          have f2 := i118_1
          refine Tx.icmp hC (t := 159) te_75_124 (by decide) (fun q3 => ?_) (fun q3 => ?_)
          · replace q3 : v1 ≤ (x5 : Int) := q3
            refine Tx.iincW hC te_75_159 rfl rfl (fun z4 z4i z4e => ?_)
            unfold InI at z4i z4e
            first | replace z4e := z4e (by omega) | clear z4e
            refine Tx.goto hC (t := 106) te_75_162 (by decide) ?_
            exact Tx.weak (by repeat' (first | exact trivial | exact rfl | constructor)) (ih_106 z4 m_118 (by omega) (i118_1) (i118_2) (by have w := i118_4; rw [show x5.toNat = (mem 1 0).toNat by omega] at w; rw [show (z4).toNat = x4.toNat + 1 by omega]; exact w.nextM) (by omega) hF_118)
          · replace q3 : ¬ (v1 ≤ (x5 : Int)) := q3
            refine Tx.aload_n hC te_75_127 rfl ?_
            refine Tx.getR hC te_75_128 rfl rfl rfl ?_
            refine Tx.iload hC te_75_131 rfl ?_
            refine Tx.bipush hC te_75_133 rfl rfl ?_
            refine Tx.imulW hC te_75_135 (fun z5 z5i z5e => ?_)
            unfold InI at z5i z5e
            first | replace z5e := z5e (by omega) | clear z5e
            refine Tx.iload hC te_75_136 rfl ?_
            refine Tx.iaddW hC te_75_138 (fun z6 z6i z6e => ?_)
            unfold InI at z6i z6e
            first | replace z6e := z6e (by omega) | clear z6e
            refine Tx.iald hC te_75_139 rfl (by omega) (fun v7 v7e v7i => ?_)
            unfold InI at v7i
            have vr : v7 = WM m_118 20 x5.toNat x4.toNat := by rw [v7e]; unfold WM; congr 1; omega
            refine Tx.ldc hC (z := (-100000)) te_75_140 rfl rfl rfl rfl ?_
            refine Tx.icmp hC (t := 153) te_75_142 (by decide) (fun q8 => ?_) (fun q8 => ?_)
            · replace q8 : (v7 : Int) = (-100000) := q8
              refine Tx.iincW hC te_75_153 rfl rfl (fun z9 z9i z9e => ?_)
              unfold InI at z9i z9e
              first | replace z9e := z9e (by omega) | clear z9e
              refine Tx.goto hC (t := 118) te_75_156 (by decide) ?_
              exact ih_118 z9 m_118 (by omega) (i118_1) (i118_2) (by omega) (by rw [show (z9).toNat = x5.toNat + 1 by omega]; exact FwC.row i118_4 hE (by omega) (by omega) (by omega) (by omega)) (by omega) hF_118
            · replace q8 : ¬ ((v7 : Int) = (-100000)) := q8
              refine Tx.aload_n hC te_75_145 rfl ?_
              refine Tx.iload hC te_75_146 rfl ?_
              refine Tx.iload hC te_75_148 rfl ?_
              refine Tx.virtV hC te_75_150 mt_77 (args := [.inr 19, .inl x5, .inl x4]) (rest := []) (c' := 0) (s' := 0) rfl rfl rfl rfl rfl rfl rfl rfl rfl rfl ?_
              refine f_77x (E0 := (EdQ (cwq mem 9) (mem 9 0).toNat d)) (by rw [i118_1]; exact hE) (by omega) (by omega) (by rw [i118_1]; exact i118_4) (by omega) (fun m11 hF12 r10c => ?_)
              rw [i118_1] at r10c
              have m11Z : m11 19 0 = mem 1 0 := by rw [hF12 19 0 (by unfold p20; omega)]; exact i118_1
              have m11Y : m11 19 1 = d := by rw [hF12 19 1 (by unfold p20; omega)]; exact i118_2
              have hF12n : Frm pRe mem m11 := hF_118.tr (hF12.mono (fun A i q => by unfold p20 at q; unfold pRe; omega))
              refine Tx.iincW hC te_75_153 rfl rfl (fun z13 z13i z13e => ?_)
              unfold InI at z13i z13e
              first | replace z13e := z13e (by omega) | clear z13e
              refine Tx.goto hC (t := 118) te_75_156 (by decide) ?_
              exact ih_118 z13 m11 (by omega) (m11Z) (m11Y) (by omega) (by rw [show (z13).toNat = x5.toNat + 1 by omega]; exact r10c) (by omega) hF12n
      refine Tx.iload hC te_75_106 rfl ?_
      refine Tx.aload_n hC te_75_108 rfl ?_
      refine Tx.getI hC te_75_109 rfl rfl rfl (fun v14 v14e v14i => ?_)
      unfold InI at v14i
      have f15 := i106_1
      refine Tx.icmp hC (t := 165) te_75_112 (by decide) (fun q16 => ?_) (fun q16 => ?_)
      · replace q16 : v14 ≤ (x4 : Int) := q16
        exact Tx.vret hC te_75_165 rfl (show K m_106 from H _ hF_106 ⟨RchO.of hE hF_106 i106_1 i106_2 (by have w := i106_3; rw [show x4.toNat = (mem 1 0).toNat by omega] at w; exact w), hX.2.fr (fun A i q => hF_106 A i (by unfold pRe; omega))⟩ i106_1 i106_2)
      · replace q16 : ¬ (v14 ≤ (x4 : Int)) := q16
        refine Tx.iconst hC te_75_115 rfl ?_
        refine Tx.istore hC te_75_116 rfl ?_
        exact l_118 _ 0 m_106 (by omega) (i106_1) (i106_2) (by omega) (i106_3) (Nat.lt_succ_self _) hF_106
  have l_34 : ∀ (N : Nat) (x4 : Int) (m_34 : MM), (0 ≤ x4 ∧ x4 ≤ mem 9 0) → (m_34 19 0 = mem 1 0) → (m_34 19 1 = d) → (FwE (cwq mem 9) d (mem 1 0).toNat 20 (-100000) m_34 x4.toNat) → ((64 - x4).toNat) < N → Frm pRe mem m_34 → Tx (Ex S (n + 2)) S M_75 (kV K E) 0 0 34 [some (.inr 19), some (.inr 1), some (.inr 9), some (.inl d), some (.inl x4), none] [] m_34 := by
    intro N
    induction N with
    | zero => intros; omega
    | succ N ih_34 =>
      intro x4 m_34 i34_0 i34_1 i34_2 i34_3 hN_34 hF_34
      refine Tx.iload hC te_75_34 rfl ?_
      refine Tx.aload_n hC te_75_36 rfl ?_
      refine Tx.getI hC te_75_37 rfl rfl rfl (fun v17 v17e v17i => ?_)
      unfold InI at v17i
      rw [hF_34 9 _ (by unfold pRe; omega)] at v17e
      refine Tx.icmp hC (t := 103) te_75_40 (by decide) (fun q18 => ?_) (fun q18 => ?_)
      · replace q18 : v17 ≤ (x4 : Int) := q18
        refine Tx.iconst hC te_75_103 rfl ?_
        refine Tx.istore hC te_75_104 rfl ?_
        exact l_106 _ 0 m_34 (by omega) (i34_1) (i34_2) (by have w := FwE.fwc i34_3; rw [show x4.toNat = (mem 9 0).toNat by omega] at w; exact w) (Nat.lt_succ_self _) hF_34
      · replace q18 : ¬ (v17 ≤ (x4 : Int)) := q18
        refine Tx.aload_n hC te_75_43 rfl ?_
        refine Tx.getR hC te_75_44 rfl rfl rfl ?_
        refine Tx.iload hC te_75_47 rfl ?_
        refine Tx.iald hC te_75_49 rfl (by omega) (fun v19 v19e v19i => ?_)
        unfold InI at v19i
        rw [hF_34 10 _ (by unfold pRe; omega)] at v19e
        have f20 : Rg (mem 10 (Int.toNat x4)) (mem 11 (Int.toNat x4)) (mem 12 (Int.toNat x4)) (mem 13 (Int.toNat x4)) := hW9.1 (Int.toNat x4) (by omega)
        unfold Rg at f20
        have f20s := hS (Int.toNat x4) (by omega)
        refine Tx.bipush hC te_75_50 rfl rfl ?_
        refine Tx.imulW hC te_75_52 (fun z21 z21i z21e => ?_)
        unfold InI at z21i z21e
        first | replace z21e := z21e (by omega) | clear z21e
        refine Tx.aload_n hC te_75_53 rfl ?_
        refine Tx.getR hC te_75_54 rfl rfl rfl ?_
        refine Tx.iload hC te_75_57 rfl ?_
        refine Tx.iald hC te_75_59 rfl (by omega) (fun v22 v22e v22i => ?_)
        unfold InI at v22i
        rw [hF_34 11 _ (by unfold pRe; omega)] at v22e
        refine Tx.iaddW hC te_75_60 (fun z23 z23i z23e => ?_)
        unfold InI at z23i z23e
        first | replace z23e := z23e (by omega) | clear z23e
        refine Tx.istore hC te_75_61 rfl ?_
        refine Tx.aload_n hC te_75_63 rfl ?_
        refine Tx.getR hC te_75_64 rfl rfl rfl ?_
        refine Tx.iload hC te_75_67 rfl ?_
        refine Tx.aload_n hC te_75_69 rfl ?_
        refine Tx.getR hC te_75_70 rfl rfl rfl ?_
        refine Tx.iload hC te_75_73 rfl ?_
        refine Tx.iald hC te_75_75 rfl (by omega) (fun v24 v24e v24i => ?_)
        unfold InI at v24i
        have vb : v24 = WM m_34 20 (mem 10 x4.toNat).toNat (mem 11 x4.toNat).toNat := by rw [v24e]; unfold WM; congr 1; omega
        refine Tx.aload_n hC te_75_76 rfl ?_
        refine Tx.getR hC te_75_77 rfl rfl rfl ?_
        refine Tx.iload hC te_75_80 rfl ?_
        refine Tx.iald hC te_75_82 rfl (by omega) (fun v25 v25e v25i => ?_)
        unfold InI at v25i
        rw [hF_34 13 _ (by unfold pRe; omega)] at v25e
        refine Tx.iload_n hC te_75_83 rfl ?_
        refine Tx.aload_n hC te_75_84 rfl ?_
        refine Tx.getR hC te_75_85 rfl rfl rfl ?_
        refine Tx.iload hC te_75_88 rfl ?_
        refine Tx.iald hC te_75_90 rfl (by omega) (fun v26 v26e v26i => ?_)
        unfold InI at v26i
        rw [hF_34 12 _ (by unfold pRe; omega)] at v26e
        have pm := dmul12 (d := d) (x := v26) (by omega) (by omega)
        have pe : d * mem 12 (Int.toNat x4) = d * v26 := by rw [v26e]
        refine Tx.imulW hC te_75_91 (fun z27 z27i z27e => ?_)
        unfold InI at z27i z27e
        first | replace z27e := z27e (by omega) | clear z27e
        refine Tx.isubW hC te_75_92 (fun z28 z28i z28e => ?_)
        unfold InI at z28i z28e
        first | replace z28e := z28e (by omega) | clear z28e
        refine Tx.statI hC te_75_93 (by decide) mt_40 (args := [.inl v24, .inl z28]) (rest := [.inl z23, .inr 20]) (c' := 0) (s' := 0) rfl rfl rfl rfl rfl rfl rfl ?_
        refine f_40q (fun r29 r29a r29b r29c r29i => ?_)
        unfold InI at r29i
        have c1 : (cwq mem 9 x4.toNat).1 = ((mem 10 x4.toNat).toNat : Int) := by show mem 10 x4.toNat = _; omega
        have c2 : (cwq mem 9 x4.toNat).2.1 = ((mem 11 x4.toNat).toNat : Int) := by show mem 11 x4.toNat = _; omega
        have c4 : (cwq mem 9 x4.toNat).2.2.2 - d * (cwq mem 9 x4.toNat).2.2.1 = mem 13 x4.toNat - d * mem 12 x4.toNat := rfl
        refine Tx.iast hC te_75_96 rfl (by omega) ?_
        have hF33 : Frm pRe mem (upm m_34 20 (Int.toNat z23) r29) := Frm.up hF_34 (by unfold pRe; omega)
        have hY35 : (upm m_34 20 (Int.toNat z23) r29) 19 1 = d := by rw [upm_ne (by omega)]; exact i34_2
        have hZ34 : (upm m_34 20 (Int.toNat z23) r29) 19 0 = mem 1 0 := by rw [upm_ne (by omega)]; exact i34_1
        have hI36 : FwE (cwq mem 9) d (mem 1 0).toNat 20 (-100000) (upm m_34 20 (Int.toNat z23) r29) (x4.toNat + 1) := FwE.step i34_3 (by omega) c1 c2 (by omega) (by omega) (by rw [c4]; omega) (by rw [c4]; omega)
        generalize upm m_34 20 (Int.toNat z23) r29 = m32 at hF33 hZ34 hY35 hI36 ⊢
        refine Tx.iincW hC te_75_97 rfl rfl (fun z37 z37i z37e => ?_)
        unfold InI at z37i z37e
        first | replace z37e := z37e (by omega) | clear z37e
        refine Tx.goto hC (t := 34) te_75_100 (by decide) ?_
        exact Tx.weak (by repeat' (first | exact trivial | exact rfl | constructor)) (ih_34 z37 m32 (by omega) (hZ34) (hY35) (by rw [show (z37).toNat = x4.toNat + 1 by omega]; exact hI36) (by omega) hF33)
  refine Tx.aload_n hC te_75_0 rfl ?_
  refine Tx.getI hC te_75_1 rfl rfl rfl (fun v38 v38e v38i => ?_)
  unfold InI at v38i
  refine Tx.iload_n hC te_75_4 rfl ?_
  refine Tx.icmp hC (t := 9) te_75_5 (by decide) (fun q39 => ?_) (fun q39 => ?_)
  · replace q39 : ¬ (v38 : Int) = d := q39
    refine Tx.aload_n hC te_75_9 rfl ?_
    refine Tx.iload_n hC te_75_10 rfl ?_
    refine Tx.putI hC te_75_11 rfl rfl rfl rfl ?_
    have hF41 : Frm pRe mem (upm mem 19 1 d) := Frm.up Frm.rf (by unfold pRe; omega)
    have hY43 : (upm mem 19 1 d) 19 1 = d := upm_eq
    generalize upm mem 19 1 d = m40 at hF41 hY43 ⊢
    refine Tx.aload_n hC te_75_14 rfl ?_
    refine Tx.aload_n hC te_75_15 rfl ?_
    refine Tx.getI hC te_75_16 rfl rfl rfl (fun v44 v44e v44i => ?_)
    unfold InI at v44i
    rw [hF41 1 _ (by unfold pRe; omega)] at v44e
    refine Tx.putI hC te_75_19 rfl rfl rfl rfl ?_
    have hF46 : Frm pRe mem (upm m40 19 0 v44) := Frm.up hF41 (by unfold pRe; omega)
    have hY48 : (upm m40 19 0 v44) 19 1 = d := by rw [upm_ne (by omega)]; exact hY43
    have hZ47 : (upm m40 19 0 v44) 19 0 = mem 1 0 := by rw [upm_eq]; omega
    generalize upm m40 19 0 v44 = m45 at hF46 hZ47 hY48 ⊢
    refine Tx.aload_n hC te_75_22 rfl ?_
    refine Tx.getR hC te_75_23 rfl rfl rfl ?_
    refine Tx.ldc hC (z := (-100000)) te_75_26 rfl rfl rfl rfl ?_
    refine Tx.statV hC te_75_28 (by decide) mt_76 (args := [.inr 20, .inl (-100000)]) (rest := []) (c' := 0) (s' := 0) rfl rfl rfl rfl rfl rfl rfl ?_
    refine CWV.q hC (f_76e (Z := 20) (zn := 64) rfl (by omega) (fun m50 hF51 r49a => ?_))
    have m50Z : m50 19 0 = mem 1 0 := by rw [hF51 19 0 (by omega)]; exact hZ47
    have m50Y : m50 19 1 = d := by rw [hF51 19 1 (by omega)]; exact hY48
    have m50I : FwE (cwq mem 9) d (mem 1 0).toNat 20 (-100000) m50 0 := FwE.ini (by omega) r49a
    have hF51n : Frm pRe mem m50 := Frm.cp hF46 hF51 (fun i => by unfold pRe; omega)
    refine Tx.iconst hC te_75_31 rfl ?_
    refine Tx.istore hC te_75_32 rfl ?_
    exact l_34 _ 0 m50 (by omega) (m50Z) (m50Y) (m50I) (Nat.lt_succ_self _) hF51n
  · replace q39 : ¬ (¬ (v38 : Int) = d) := q39
    exact Tx.vret hC te_75_8 rfl (show K mem from H _ Frm.rf hX (hX.1.resolve_left (by omega)).1 (by omega))
end
