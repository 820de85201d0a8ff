/-! the class's web, exactly -/
def cwq (m : MM) (W i : Nat) : Q4 := (m (W + 1) i, m (W + 2) i, m (W + 3) i, m (W + 4) i)
def cLa2 (m : MM) (o : Nat) : Int := m 6 (m 2 o).toNat
/-- latency, of one kind one less -/
def laB (m : MM) (q : Int) (o : Nat) : Int := if m 2 o = q then cLa2 m o - 1 else cLa2 m o
def tri : Nat → Int
  | 0 => 0
  | i + 1 => tri i + (7 - i)
theorem tri_le {i : Nat} (h : i ≤ 8) : tri i ≤ 28 := by
  have a : i = 0 ∨ i = 1 ∨ i = 2 ∨ i = 3 ∨ i = 4 ∨ i = 5 ∨ i = 6 ∨ i = 7 ∨ i = 8 := by omega
  rcases a with rfl | rfl | rfl | rfl | rfl | rfl | rfl | rfl | rfl <;> decide
theorem cmp_ok {x1 x2 x3 x4 a b d l r : Int} (h : (¬ x1 = a ∧ r = x1 - a) ∨ (x1 = a ∧ ¬ x2 = b ∧ r = x2 - b) ∨ (x1 = a ∧ x2 = b ∧ ¬ x3 = d ∧ r = x3 - d) ∨ (x1 = a ∧ x2 = b ∧ x3 = d ∧ r = x4 - l)) : (r < 0 ↔ lt4 (x1, x2, x3, x4) (a, b, d, l)) ∧ (r = 0 ↔ ((x1, x2, x3, x4) : Q4) = (a, b, d, l)) := by
  constructor
  · simp only [lt4]; omega
  · simp only [Prod.mk.injEq]; omega
section CWB
variable {S : Nat × (Nat → Int32)} {n : Nat} {mem : MM} {K : Int → MM → Prop}
theorem f_19e (hB : BodyOK mem) {o : Int} (h : 0 ≤ o ∧ o < 8) (H : 1 ≤ cLa2 mem o.toNat → cLa2 mem o.toNat ≤ 6 → K (cLa2 mem o.toNat) mem) : CWI (Ex S (n + 1)) 19 [.inr 1, .inl o] mem K := by
  obtain ⟨h1, -⟩ := hB.2.1 o.toNat (by omega)
  refine CW.of (k := 0) mt_19 rfl rfl (w_19_0 (Ex.mono S n) ⟨h, fun v e _ => ⟨by omega, fun v2 e2 _ _ => ⟨_, rfl, ?_⟩⟩⟩)
  have := hB.2.2.2.1 v.toNat (by omega)
  subst e
  subst e2
  exact H this.1 this.2
theorem f_18e (hB : BodyOK mem) {o q : Int} (h : 0 ≤ o ∧ o < 8) (H : 0 ≤ laB mem q o.toNat → laB mem q o.toNat ≤ 6 → K (laB mem q o.toNat) mem) : CWI (Ex S (n + 2)) 18 [.inr 1, .inl o, .inl q] mem K := by
  refine CW.of (k := 1) mt_18 rfl rfl (w_18_0 (Ex.mono S (n + 1)) (f_19e hB h (fun u1 u2 _ => ⟨h, fun v e _ => ⟨fun ne _ => ⟨_, rfl, ?_⟩, fun ee => ⟨by unfold InI; omega, fun _ => ⟨_, rfl, ?_⟩⟩⟩⟩)))
  · have e2 : laB mem q o.toNat = cLa2 mem o.toNat := if_neg (by rw [← e]; exact ne)
    rw [e2] at H
    exact H (by omega) u2
  · have e2 : laB mem q o.toNat = cLa2 mem o.toNat - 1 := if_pos (by rw [← e]; exact Classical.not_not.mp ee)
    rw [e2] at H
    exact H (by omega) (by omega)
theorem f_18n (hB : BodyOK mem) {o : Nat} {q : Int} (h : o < 8) (H : 0 ≤ laB mem q o → laB mem q o ≤ 6 → K (laB mem q o) mem) : CWI (Ex S (n + 2)) 18 [.inr 1, .inl (o : Int), .inl q] mem K := f_18e hB ⟨by omega, by omega⟩ (by rw [Int.toNat_natCast]; exact H)
theorem f_21e {W : Nat} (hW : WebSh W) (hR : R64 mem W) {j a b d l : Int} (hj : 0 ≤ j ∧ j < 64) (hr : Rg a b d l) (H : ∀ r, (r < 0 ↔ lt4 (cwq mem W j.toNat) (a, b, d, l)) → (r = 0 ↔ cwq mem W j.toNat = (a, b, d, l)) → K r mem) : CWI (Ex S (n + 1)) 21 [.inr W, .inl j, .inl a, .inl b, .inl d, .inl l] mem K := by
  obtain ⟨r1, r2, r3, r4⟩ := hR j.toNat (by omega)
  obtain ⟨s1, s2, s3, s4⟩ := hr
  have H : ∀ r, ((¬ mem (W + 1) j.toNat = a ∧ r = mem (W + 1) j.toNat - a) ∨ (mem (W + 1) j.toNat = a ∧ ¬ mem (W + 2) j.toNat = b ∧ r = mem (W + 2) j.toNat - b) ∨ (mem (W + 1) j.toNat = a ∧ mem (W + 2) j.toNat = b ∧ ¬ mem (W + 3) j.toNat = d ∧ r = mem (W + 3) j.toNat - d) ∨ (mem (W + 1) j.toNat = a ∧ mem (W + 2) j.toNat = b ∧ mem (W + 3) j.toNat = d ∧ r = mem (W + 4) j.toNat - l)) → K r mem := fun r h => H r (cmp_ok h).1 (cmp_ok h).2
  refine CW.of (k := 0) mt_21 rfl rfl (w_21_0 (Ex.mono S n) hW ⟨hj, fun v1 e1 _ => ⟨fun q1 => ⟨hj, fun v2 e2 _ => ⟨fun q2 => ⟨hj, fun v3 e3 _ => ⟨fun q3 => ⟨hj, fun v4 e4 _ => ⟨by unfold InI; omega, fun _ => ⟨_, rfl, H _ (by omega)⟩⟩⟩, fun q3 => ⟨hj, fun v5 e5 _ => ⟨by unfold InI; omega, fun _ => ⟨_, rfl, H _ (by omega)⟩⟩⟩⟩⟩, fun q2 => ⟨hj, fun v5 e5 _ => ⟨by unfold InI; omega, fun _ => ⟨_, rfl, H _ (by omega)⟩⟩⟩⟩⟩, fun q1 => ⟨hj, fun v5 e5 _ => ⟨by unfold InI; omega, fun _ => ⟨_, rfl, H _ (by omega)⟩⟩⟩⟩⟩)
theorem f_22e {K : MM → Prop} {W : Nat} (hW : WebSh W) (hR : R64 mem W) {j a b d l : Int} (hj : 0 ≤ j ∧ j < 64) (hr : Rg a b d l) (H : ∀ m', FrWb W mem m' → m' W 0 = mem W 0 → R64 m' W → cwq m' W j.toNat = (a, b, d, l) → (∀ i, ¬ i = j.toNat → cwq m' W i = cwq mem W i) → K m') : CWV (Ex S (n + 1)) 22 [.inr W, .inl j, .inl a, .inl b, .inl d, .inl l] mem K := by
  have z : cwq (upm (upm (upm (upm mem (W + 1) (Int.toNat j) a) (W + 2) (Int.toNat j) b) (W + 3) (Int.toNat j) d) (W + 4) (Int.toNat j) l) W j.toNat = (a, b, d, l) := by
    unfold cwq
    rw [upm_ne (A := W + 4) (B := W + 1) (by omega), upm_ne (A := W + 3) (B := W + 1) (by omega), upm_ne (A := W + 2) (B := W + 1) (by omega), upm_eq, upm_ne (A := W + 4) (B := W + 2) (by omega), upm_ne (A := W + 3) (B := W + 2) (by omega), upm_eq, upm_ne (A := W + 4) (B := W + 3) (by omega), upm_eq, upm_eq]
  have o : ∀ i, ¬ i = j.toNat → cwq (upm (upm (upm (upm mem (W + 1) (Int.toNat j) a) (W + 2) (Int.toNat j) b) (W + 3) (Int.toNat j) d) (W + 4) (Int.toNat j) l) W i = cwq mem W i := fun i e => by
    unfold cwq
    rw [upm_ne (A := W + 4) (B := W + 1) (by omega), upm_ne (A := W + 3) (B := W + 1) (by omega), upm_ne (A := W + 2) (B := W + 1) (by omega), upm_ne (A := W + 1) (B := W + 1) (by omega), upm_ne (A := W + 4) (B := W + 2) (by omega), upm_ne (A := W + 3) (B := W + 2) (by omega), upm_ne (A := W + 2) (B := W + 2) (by omega), upm_ne (A := W + 1) (B := W + 2) (by omega), upm_ne (A := W + 4) (B := W + 3) (by omega), upm_ne (A := W + 3) (B := W + 3) (by omega), upm_ne (A := W + 2) (B := W + 3) (by omega), upm_ne (A := W + 1) (B := W + 3) (by omega), upm_ne (A := W + 4) (B := W + 4) (by omega), upm_ne (A := W + 3) (B := W + 4) (by omega), upm_ne (A := W + 2) (B := W + 4) (by omega), upm_ne (A := W + 1) (B := W + 4) (by omega)]
  have hg : ∀ {x : Q4} (m : MM) (i : Nat), cwq m W i = x → Rg x.1 x.2.1 x.2.2.1 x.2.2.2 → Rg (m (W + 1) i) (m (W + 2) i) (m (W + 3) i) (m (W + 4) i) := fun m i e h => by rw [← e] at h; exact h
  refine CW.of (k := 0) mt_22 rfl rfl (w_22_0 (Ex.mono S n) hW ⟨hj, hj, hj, hj, rfl, H _ (fun A i e1 e2 => ?_) ?_ (fun i hi => ?_) z o⟩)
  · rw [upm_ne (by omega), upm_ne (by omega), upm_ne (by omega), upm_ne (by omega)]
  · rw [upm_ne (by omega), upm_ne (by omega), upm_ne (by omega), upm_ne (by omega)]
  · by_cases e : i = j.toNat
    · subst e; exact hg _ _ z hr
    · exact hg _ _ (o i e) (hR i hi)
theorem f_20e {K : MM → Prop} {W : Nat} {P : Q4 → Prop} (hW : WebSh W) (hO : WbOK mem W) (h63 : mem W 0 < 64) {a b d l : Int} (hr : Rg a b d l) (hE : Enum (cwq mem W) (mem W 0).toNat P) (H : ∀ m', FrWb W mem m' → WbOK m' W → m' W 0 ≤ mem W 0 + 1 → Enum (cwq m' W) (m' W 0).toNat (fun x => P x ∨ x = (a, b, d, l)) → K m') : CWV (Ex S (n + 2)) 20 [.inr W, .inl a, .inl b, .inl d, .inl l] mem K := by
  obtain ⟨hR, h0, h64⟩ := hO
  have at72 : ∀ (N : Nat) (p x i : Int) (m : MM), 0 ≤ p → p ≤ i → i ≤ mem W 0 → (i - p).toNat < N → FrWb W mem m → m W 0 = mem W 0 → R64 m W → (∀ j : Nat, (j : Int) < p → lt4 (cwq mem W j) (a, b, d, l)) → (∀ j : Nat, p ≤ j → (j : Int) < mem W 0 → lt4 (a, b, d, l) (cwq mem W j)) → (∀ j : Nat, (j : Int) < i → cwq m W j = cwq mem W j) → (∀ j : Nat, i < j → (j : Int) ≤ mem W 0 → cwq m W j = cwq mem W (j - 1)) → Wx (Ex S (n + 1)) S M_20 (fun r m => r = none ∧ K m) 72 [some (.inr W), some (.inl a), some (.inl b), some (.inl d), some (.inl l), some (.inl p), some (.inl x), some (.inl i)] [] m := by
    intro N
    induction N with
    | zero => intros; omega
    | succ N ih =>
      intro p x i m hp hpi hi hN hF e0 hRm lo hi2 cA cB
      refine w_20_72 (Ex.mono S (n + 1)) hW ⟨fun q => f_22e hW hRm ⟨hp, by omega⟩ hr (fun m1 k1 k2 k3 k4 k5 v2 e2 _ => ⟨by unfold InI; omega, rfl, H _ (fun A i e1 e2 => ?_) ⟨fun j hj => ?_, ?_⟩ ?_ ?_⟩), fun q => ?_⟩
      · rw [upm_ne e2]; exact (hF.tr k1) A i e1 e2
      · rw [upm_ne (by omega), upm_ne (by omega), upm_ne (by omega), upm_ne (by omega)]; exact k3 j hj
      · rw [upm_eq]; omega
      · rw [upm_eq]; omega
      · have ec : ∀ j, cwq (upm m1 W 0 (v2 + 1)) W j = cwq m1 W j := fun j => by
          unfold cwq
          rw [upm_ne (by omega), upm_ne (by omega), upm_ne (by omega), upm_ne (by omega)]
        have hi3 : i = p := by omega
        subst hi3
        have en : ((upm m1 W 0 (v2 + 1)) W 0).toNat = (mem W 0).toNat + 1 := by rw [upm_eq]; omega
        rw [en]
        refine hE.ins (t := i.toNat) (by omega) (fun j hj => lo j (by omega)) (fun j w1 w2 => hi2 j (by omega) (by omega)) (fun j hj => ?_) ?_ (fun j w1 w2 => ?_)
        · rw [ec, k5 j (by omega)]; exact cA j (by omega)
        · rw [ec]; exact k4
        · rw [ec, k5 (j + 1) (by omega), cB (j + 1) (by omega) (by omega)]; rfl
      · have hi1 : 0 ≤ i - 1 ∧ i - 1 < 64 := by omega
        have hI : InI (i - 1) := by unfold InI; omega
        refine ⟨hI, hi1, fun v3 e3 _ => ⟨hI, hi1, fun v4 e4 _ => ⟨hI, hi1, fun v5 e5 _ => ⟨hI, hi1, fun v6 e6 _ => ?_⟩⟩⟩⟩
        have hg := hRm (i - 1).toNat (by omega)
        have ev : cwq m W (i - 1).toNat = (v3, v4, v5, v6) := by rw [e3, e4, e5, e6]; rfl
        rw [← e3, ← e4, ← e5, ← e6] at hg
        refine f_22e hW hRm ⟨by omega, by omega⟩ hg (fun m7 k1 k2 k3 k4 k5 => ⟨by unfold InI; omega, ?_⟩)
        rw [show i + -1 = i - 1 by omega]
        refine ih p x (i - 1) m7 hp (by omega) (by omega) (by omega) (hF.tr k1) (k2.trans e0) k3 lo hi2 (fun j hj => ?_) (fun j w1 w2 => ?_)
        · rw [k5 j (by omega)]; exact cA j (by omega)
        · by_cases w : j = i.toNat
          · subst w
            rw [k4, ← ev, cA (i - 1).toNat (by omega)]
            congr 1
            omega
          · rw [k5 j w]; exact cB j (by omega) w2
  have key : ∀ (N : Nat) (p x : Int), 0 ≤ p → p ≤ mem W 0 → (mem W 0 - p).toNat < N → (∀ j : Nat, (j : Int) < p → lt4 (cwq mem W j) (a, b, d, l)) → Wx (Ex S (n + 1)) S M_20 (fun r m => r = none ∧ K m) 6 [some (.inr W), some (.inl a), some (.inl b), some (.inl d), some (.inl l), some (.inl p), some (.inl x), none] [] mem := by
    intro N
    induction N with
    | zero => intros; omega
    | succ N ih =>
      intro p x hp hp2 hN lo
      have go : ∀ x v : Int, v = mem W 0 → (∀ j : Nat, p ≤ j → (j : Int) < mem W 0 → lt4 (a, b, d, l) (cwq mem W j)) → Wx (Ex S (n + 1)) S M_20 (fun r m => r = none ∧ K m) 72 [some (.inr W), some (.inl a), some (.inl b), some (.inl d), some (.inl l), some (.inl p), some (.inl x), some (.inl v)] [] mem := fun x v e hi2 => at72 _ p x v mem hp (by omega) (by omega) (Nat.lt_succ_self _) FrWb.rf rfl hR lo hi2 (fun _ _ => rfl) (fun j w1 w2 => by omega)
      refine w_20_6 (Ex.mono S (n + 1)) hW (fun v1 e1 _ => ⟨fun q v2 e2 _ => ⟨fun _ v3 e3 _ => ⟨fun z v4 e4 _ => go _ _ e4 (fun j w1 w2 => by omega), fun z => by omega⟩, fun z => by omega⟩, fun q => ?_⟩)
      refine f_21e hW hR ⟨hp, by omega⟩ hr (fun r g1 g2 _ => ⟨fun z => ⟨by unfold InI; omega, ih (p + 1) r (by omega) (by omega) (by omega) (fun j hj => ?_)⟩, fun z v9 e9 _ => ⟨fun w => by omega, fun _ => ⟨fun w => ⟨rfl, ?_⟩, fun w v12 e12 _ => ⟨fun _ v13 e13 _ => go _ _ e13 (fun j w1 w2 => ?_), fun w => by omega⟩⟩⟩⟩)
      · by_cases w : (j : Int) < p
        · exact lo j w
        · rw [show j = p.toNat by omega]; exact g1.mp z
      · refine H mem FrWb.rf ⟨hR, h0, h64⟩ (by omega) (hE.cg rfl (fun _ _ => rfl) (fun y => ⟨Or.inl, fun h => h.elim id (fun e => ?_)⟩))
        rw [e, ← g2.mp w]; exact hE.2.1 p.toNat (by omega)
      · have l1 : lt4 (a, b, d, l) (cwq mem W p.toNat) := by
          rcases lt4.tri (a, b, d, l) (cwq mem W p.toNat) with e | e | e
          · exact e
          · exact absurd (g2.mpr e.symm) w
          · exact absurd (g1.mpr e) z
        by_cases e : j = p.toNat
        · rw [e]; exact l1
        · exact l1.tr (hE.1 p.toNat j (by omega) (by omega))
  exact CW.of (k := 3) mt_20 rfl rfl (w_20_0 (Ex.mono S (n + 1)) hW (key _ 0 (-1) (by omega) h0 (Nat.lt_succ_self _) (fun j hj => by omega)))
/-- what a pair of ops needs by its rows -/
def nrB (m : MM) (q : Int) (s o : Nat) (x : Q4) : Prop := NdR (m 2) (rowB m) (plcB m) (laB m q) s o x
theorem f_23e {K : MM → Prop} {W : Nat} {P : Q4 → Prop} (hW : WebSh W) (hB : BodyOK mem) (hO : WbOK mem W) (h63 : mem W 0 < 64) {o p : Nat} {q : Int} (ho : o < 8) (hp : p < 8) (hop : o < p) (hE : Enum (cwq mem W) (mem W 0).toNat P) (H : ∀ m', FrWb W mem m' → WbOK m' W → m' W 0 ≤ mem W 0 + 1 → Enum (cwq m' W) (m' W 0).toNat (fun x => P x ∨ nrB mem q o p x ∨ nrB mem q p o x) → K m') : CWV (Ex S (n + 3)) 23 [.inr W, .inr 1, .inl (o : Int), .inl (p : Int), .inl q] mem K := by
  have same : (∀ x, ¬ nrB mem q o p x ∧ ¬ nrB mem q p o x) → none = (none : Option Int) ∧ K mem := fun h => ⟨rfl, H mem FrWb.rf hO (by omega) (hE.cg rfl (fun _ _ => rfl) (fun x => ⟨Or.inl, fun w => w.elim id (fun w => w.elim (fun w => absurd w (h x).1) (fun w => absurd w (h x).2))⟩))⟩
  have ko : 0 ≤ (o : Int) ∧ (o : Int) < 8 := by omega
  have kp : 0 ≤ (p : Int) ∧ (p : Int) < 8 := by omega
  have nn : (mem 2 o < 4 ∨ mem 2 p < 4 ∨ ¬ rowB mem o = rowB mem p ∨ (¬ mem 2 o = 5 ∧ ¬ mem 2 p = 5)) → ∀ x, ¬ nrB mem q o p x ∧ ¬ nrB mem q p o x := fun h x => by
    constructor
    · rintro ⟨h1, h2, ⟨h3, h4, h5⟩ | ⟨h3, h4, h5⟩ | ⟨h3, h4, h5⟩⟩ <;> omega
    · rintro ⟨h1, h2, ⟨h3, h4, h5⟩ | ⟨h3, h4, h5⟩ | ⟨h3, h4, h5⟩⟩ <;> omega
  refine CW.of (k := 6) mt_23 rfl rfl (w_23_0 (Ex.mono S (n + 2)) hW ⟨ko, fun v1 e1 _ => ⟨fun z => same (nn (by rw [Int.toNat_natCast] at e1; omega)), fun q1 => ⟨kp, fun v2 e2 _ => ⟨fun q2 => f_24 ho (fun _ => f_24 hp (fun _ => ⟨fun er => f_25 ho (fun _ => f_25 hp (fun _ => ?_)), fun er => same (nn (by omega))⟩)), fun z => same (nn (by rw [Int.toNat_natCast] at e2; omega))⟩⟩⟩⟩)
  rw [Int.toNat_natCast] at e1 e2
  have ro := hB.row ho (by omega)
  have rp := hB.row hp (by omega)
  have k5o := (hB.2.1 o ho).1
  have k5p := (hB.2.1 p hp).1
  have put : ∀ a b d l : Int, Rg a b d l → (∀ x, x = (a, b, d, l) ↔ nrB mem q o p x ∨ nrB mem q p o x) → CWV (Ex S (n + 2)) 20 [.inr W, .inl a, .inl b, .inl d, .inl l] mem fun m' => none = (none : Option Int) ∧ K m' := fun a b d l hg hx => f_20e hW hO h63 hg hE (fun m' k1 k2 k3 k4 => ⟨rfl, H m' k1 k2 k3 (k4.cg rfl (fun _ _ => rfl) (fun x => or_congr Iff.rfl (hx x)))⟩)
  have bk : ∀ (y : Q4), (nrB mem q o p y ∨ nrB mem q p o y) → (∀ x, (nrB mem q o p x → x = y) ∧ (nrB mem q p o x → x = y)) → ∀ x, x = y ↔ nrB mem q o p x ∨ nrB mem q p o x := fun y h1 h2 x => ⟨fun e => by rw [e]; exact h1, fun w => w.elim (h2 x).1 (h2 x).2⟩
  refine ⟨fun z => f_25 hp (fun _ => f_25 ho (fun _ => ⟨by unfold InI; omega, kp, fun v15 e15 _ => ⟨fun w1 => ⟨ko, fun v16 e16 _ => ⟨fun w2 => same (nn ?_), fun w2 => f_18n hB ho (fun u1 u2 _ => ⟨by unfold InI; omega, put p o (plcB mem p - plcB mem o) (1 - laB mem q o) (by unfold Rg; omega) ?_⟩)⟩⟩, fun w1 => ⟨ko, fun v20 e20 _ => ⟨fun w2 => f_18n hB hp (fun u1 u2 _ => put p o (plcB mem p - plcB mem o) (laB mem q p) (by unfold Rg; omega) ?_), fun w2 => put p o (plcB mem p - plcB mem o) 1 (by unfold Rg; omega) ?_⟩⟩⟩⟩)), fun z => f_25 ho (fun _ => f_25 hp (fun _ => ⟨by unfold InI; omega, ko, fun v15 e15 _ => ⟨fun w1 => ⟨kp, fun v16 e16 _ => ⟨fun w2 => same (nn ?_), fun w2 => f_18n hB hp (fun u1 u2 _ => ⟨by unfold InI; omega, put o p (plcB mem o - plcB mem p) (1 - laB mem q p) (by unfold Rg; omega) ?_⟩)⟩⟩, fun w1 => ⟨kp, fun v20 e20 _ => ⟨fun w2 => f_18n hB ho (fun u1 u2 _ => put o p (plcB mem o - plcB mem p) (laB mem q o) (by unfold Rg; omega) ?_), fun w2 => put o p (plcB mem o - plcB mem p) 1 (by unfold Rg; omega) ?_⟩⟩⟩⟩))⟩
  all_goals (first | rw [Int.toNat_natCast] at e15 e16 | rw [Int.toNat_natCast] at e15 e20)
  · omega
  · refine bk _ (Or.inl ⟨by omega, by omega, Or.inr (Or.inl ⟨by omega, by omega, rfl⟩)⟩) (fun x => ⟨?_, ?_⟩) <;> rintro ⟨h1, h2, ⟨h3, h4, h5⟩ | ⟨h3, h4, h5⟩ | ⟨h3, h4, h5⟩⟩ <;> first | exact h5 | (exfalso; omega)
  · refine bk _ (Or.inr ⟨by omega, by omega, Or.inl ⟨by omega, by omega, rfl⟩⟩) (fun x => ⟨?_, ?_⟩) <;> rintro ⟨h1, h2, ⟨h3, h4, h5⟩ | ⟨h3, h4, h5⟩ | ⟨h3, h4, h5⟩⟩ <;> first | exact h5 | (exfalso; omega)
  · refine bk _ (Or.inr ⟨by omega, by omega, Or.inr (Or.inr ⟨by omega, by omega, rfl⟩)⟩) (fun x => ⟨?_, ?_⟩) <;> rintro ⟨h1, h2, ⟨h3, h4, h5⟩ | ⟨h3, h4, h5⟩ | ⟨h3, h4, h5⟩⟩ <;> first | exact h5 | (exfalso; omega)
  · omega
  · refine bk _ (Or.inr ⟨by omega, by omega, Or.inr (Or.inl ⟨by omega, by omega, rfl⟩)⟩) (fun x => ⟨?_, ?_⟩) <;> rintro ⟨h1, h2, ⟨h3, h4, h5⟩ | ⟨h3, h4, h5⟩ | ⟨h3, h4, h5⟩⟩ <;> first | exact h5 | (exfalso; omega)
  · refine bk _ (Or.inl ⟨by omega, by omega, Or.inl ⟨by omega, by omega, rfl⟩⟩) (fun x => ⟨?_, ?_⟩) <;> rintro ⟨h1, h2, ⟨h3, h4, h5⟩ | ⟨h3, h4, h5⟩ | ⟨h3, h4, h5⟩⟩ <;> first | exact h5 | (exfalso; omega)
  · refine bk _ (Or.inl ⟨by omega, by omega, Or.inr (Or.inr ⟨by omega, by omega, rfl⟩)⟩) (fun x => ⟨?_, ?_⟩) <;> rintro ⟨h1, h2, ⟨h3, h4, h5⟩ | ⟨h3, h4, h5⟩ | ⟨h3, h4, h5⟩⟩ <;> first | exact h5 | (exfalso; omega)
end CWB
