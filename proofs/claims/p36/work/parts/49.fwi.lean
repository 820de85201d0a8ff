/-! three loops that draw all ways: what holds in them -/
def WM (m : MM) (A : Nat) : Nat → Nat → Int := fun a b => m A (8 * a + b)
def Aup (E : Nat → Nat → Int → Prop) : Prop := ∀ a p b v, p.Nodup → (∀ c ∈ p, c < 8) → Wk E a p b v → v ≤ 99
def PotE (E : Nat → Nat → Int → Prop) (φ : Nat → Int) : Prop := ∀ a b x, E a b x → φ a + x ≤ φ b
def FwI (R : Int) (E : Nat → Nat → Int → Prop) (A k : Nat) (mem : MM) (m a b : Nat) : Prop :=
  (∀ a' b', a' < k → b' < k → -R ≤ WM mem A a' b' ∧ WM mem A a' b' ≤ R) ∧
  (Aup E → ∀ a' b', a' < k → b' < k → Low E m (WM mem A) a' b') ∧
  (Aup E → ∀ a' b', a' < k → b' < k → (a' < a ∨ (a' = a ∧ b' < b)) → Low E (m + 1) (WM mem A) a' b') ∧
  (∀ φ, PotE E φ → ∀ a' b', a' < k → b' < k → -1000 < WM mem A a' b' → φ a' + WM mem A a' b' ≤ φ b') ∧
  (∀ a' b' x, a' < k → b' < k → E a' b' x → x ≤ WM mem A a' b')
def Fr1 (A : Nat) (m m' : MM) : Prop := ∀ B i, ¬ B = A → m' B i = m B i
theorem Fr1.rf {A : Nat} {m : MM} : Fr1 A m m := fun _ _ _ => rfl
theorem Fr1.tr {A : Nat} {a b c : MM} (h1 : Fr1 A a b) (h2 : Fr1 A b c) : Fr1 A a c := fun B i e => (h2 B i e).trans (h1 B i e)
theorem Fr1.up {A i : Nat} {m : MM} {x : Int} : Fr1 A m (upm m A i x) := fun B j e => upm_ne (fun q => e q.1)
section FWI
variable {R : Int} {E : Nat → Nat → Int → Prop} {A k : Nat} {mem : MM} {m a b : Nat}
theorem ix8 {a b : Nat} : (8 * (a : Int) + (b : Int)).toNat = 8 * a + b := by omega
theorem WM_up {i j : Nat} {x : Int} (hb : b < 8) (hj : j < 8) : WM (upm mem A (8 * a + b) x) A i j = if i = a ∧ j = b then x else WM mem A i j := by
  unfold WM upm
  by_cases h : i = a ∧ j = b
  · rw [if_pos ⟨rfl, by omega⟩, if_pos h]
  · rw [if_neg (fun q => h (by omega)), if_neg h]
theorem Low.mono {W W' : Nat → Nat → Int} (h : Low E m W a b) (hw : W a b ≤ W' a b) : Low E m W' a b := fun p v h1 h2 h3 h4 => Int.le_trans (h p v h1 h2 h3 h4) hw
theorem FwI.skip (h : FwI R E A k mem m a b) (hm : m < k) (ha : a < k) (hb : b < k) (hg : WM mem A a m ≤ -1000 ∨ WM mem A m b ≤ -1000) : FwI R E A k mem m a (b + 1) := by
  obtain ⟨h1, h2, h3, h4, h5⟩ := h
  refine ⟨h1, h2, fun hu a' b' ha' hb' hl => ?_, h4, h5⟩
  by_cases q : a' < a ∨ (a' = a ∧ b' < b)
  · exact h3 hu a' b' ha' hb' q
  · have e1 : a' = a := by omega
    have e2 : b' = b := by omega
    subst e1
    subst e2
    intro p v n1 n2 n3 n4
    rcases Low.piv (fun a b x hx => hu a [] b x List.nodup_nil (fun c hc => by cases hc) hx) (h2 hu a' b' ha hb) (h2 hu a' m ha hm) (h2 hu m b' hm hb) n1 n2 n3 n4 with g | ⟨g1, g2, -⟩
    · exact g
    · omega
theorem FwI.upd (h : FwI R E A k mem m a b) (hR : 99 ≤ R) (hk : k ≤ 8) (hm : m < k) (ha : a < k) (hb : b < k) (g1 : -1000 < WM mem A a m) (g2 : -1000 < WM mem A m b) : FwI R E A k (upm mem A (8 * a + b) (max (WM mem A a b) (min 99 (WM mem A a m + WM mem A m b)))) m a (b + 1) := by
  obtain ⟨h1, h2, h3, h4, h5⟩ := h
  have r0 := h1 a b ha hb
  have r1 := h1 a m ha hm
  have r2 := h1 m b hm hb
  have ew : ∀ i j, j < 8 → WM (upm mem A (8 * a + b) (max (WM mem A a b) (min 99 (WM mem A a m + WM mem A m b)))) A i j = if i = a ∧ j = b then max (WM mem A a b) (min 99 (WM mem A a m + WM mem A m b)) else WM mem A i j := fun i j hj => WM_up (by omega) hj
  have ge : ∀ i j, j < 8 → WM mem A i j ≤ WM (upm mem A (8 * a + b) (max (WM mem A a b) (min 99 (WM mem A a m + WM mem A m b)))) A i j := fun i j hj => by
    rw [ew i j hj]
    split
    · rename_i q; obtain ⟨rfl, rfl⟩ := q; omega
    · exact Int.le_refl _
  refine ⟨fun i j hi hj => ?_, fun hu i j hi hj => (h2 hu i j hi hj).mono (ge i j (by omega)), fun hu i j hi hj hl => ?_, fun φ hφ i j hi hj => ?_, fun i j x hi hj hx => Int.le_trans (h5 i j x hi hj hx) (ge i j (by omega))⟩
  · rw [ew i j (by omega)]
    split
    · omega
    · exact h1 i j hi hj
  · by_cases q : i < a ∨ (i = a ∧ j < b)
    · exact (h3 hu i j hi hj q).mono (ge i j (by omega))
    · have e1 : i = a := by omega
      have e2 : j = b := by omega
      subst e1
      subst e2
      intro p v n1 n2 n3 n4
      rw [ew i j (by omega), if_pos ⟨rfl, rfl⟩]
      have hv := hu i p j v n1 (fun c hc => by have := n2 c hc; omega) n3
      rcases Low.piv (fun a b x hx => hu a [] b x List.nodup_nil (fun c hc => by cases hc) hx) (h2 hu i j ha hb) (h2 hu i m ha hm) (h2 hu m j hm hb) n1 n2 n3 n4 with g | ⟨-, -, g, -⟩
      · omega
      · omega
  · rw [ew i j (by omega)]
    have p0 := h4 φ hφ a b ha hb
    have p1 := h4 φ hφ a m ha hm g1
    have p2 := h4 φ hφ m b hm hb g2
    split
    · rename_i q
      obtain ⟨rfl, rfl⟩ := q
      intro hz
      omega
    · exact h4 φ hφ i j hi hj
theorem FwI.nextA (h : FwI R E A k mem m a k) : FwI R E A k mem m (a + 1) 0 := ⟨h.1, h.2.1, fun hu i j hi hj _ => h.2.2.1 hu i j hi hj (by omega), h.2.2.2⟩
theorem FwI.nextM {b : Nat} (h : FwI R E A k mem m k b) : FwI R E A k mem (m + 1) 0 0 := ⟨h.1, fun hu i j hi hj => h.2.2.1 hu i j hi hj (Or.inl hi), fun hu i j hi hj q => by omega, h.2.2.2⟩
end FWI
/-- edges: needs by d -/
def NdE (m : MM) (d : Int) (a b : Nat) (x : Int) : Prop := ∃ j : Nat, (j : Int) < m 143 12 ∧ ¬ (j : Int) = m 143 18 ∧ m 154 j = a ∧ m 155 j = b ∧ x = m 157 j - d * m 156 j
def NdsOK (m : MM) : Prop := (0 ≤ m 143 1 ∧ m 143 1 ≤ 8) ∧ (0 ≤ m 143 12 ∧ m 143 12 ≤ 48) ∧ NdAll (PN (m 143 1)) m (m 143 12)
/-- all ways by d are drawn -/
def WayOK (m : MM) (d : Int) : Prop := FwI 5000 (NdE m d) 158 (m 143 1).toNat m (m 143 1).toNat 0 0
theorem NdE.fr {m m' : MM} (h : Fr1 158 m m') (d : Int) : NdE m' d = NdE m d := by
  funext a b x
  unfold NdE
  simp only [h 143 12 (by omega), h 143 18 (by omega)]
  have e : ∀ B j, (B = 154 ∨ B = 155 ∨ B = 156 ∨ B = 157) → m' B j = m B j := fun B j q => h B j (by omega)
  simp only [e 154 _ (by omega), e 155 _ (by omega), e 156 _ (by omega), e 157 _ (by omega)]
theorem NdsOK.fr {m m' : MM} (h : Fr1 158 m m') (H : NdsOK m) : NdsOK m' := by
  refine ⟨by rw [h 143 1 (by omega)]; exact H.1, by rw [h 143 12 (by omega)]; exact H.2.1, fun j hj => ?_⟩
  rw [h 143 12 (by omega)] at hj
  rw [h 143 1 (by omega), h 154 j (by omega), h 155 j (by omega), h 156 j (by omega), h 157 j (by omega)]
  exact H.2.2 j hj
theorem dmul {d x : Int} (hd : 0 ≤ d ∧ d ≤ 48) (hx : 0 ≤ x ∧ x ≤ 7) : 0 ≤ d * x ∧ d * x ≤ 336 := by
  have h1 := Int.mul_nonneg hd.1 hx.1
  have h2 := Int.mul_le_mul hd.2 hx.2 hx.1 (by omega)
  omega
theorem NdE.rng {m : MM} (H : NdsOK m) {d : Int} (hd : 0 ≤ d ∧ d ≤ 48) {a b : Nat} {x : Int} (h : NdE m d a b x) : (a : Int) < m 143 1 ∧ (b : Int) < m 143 1 ∧ -341 ≤ x ∧ x ≤ 6 := by
  obtain ⟨j, h1, -, h2, h3, h4⟩ := h
  obtain ⟨p1, p2, p3, p4, p5, p6, p7, p8, -⟩ := H.2.2 j h1
  have := dmul hd ⟨p5, p6⟩
  omega
theorem NdE.aup {m : MM} (H : NdsOK m) {d : Int} (hd : 0 ≤ d ∧ d ≤ 48) : Aup (NdE m d) := by
  intro a p b v h1 h2 h3
  have := Wk.le6 (c := 6) (by omega) (fun a b x h => (NdE.rng H hd h).2.2.2) h3
  have := nd_len h1 h2
  omega
section WAYS
variable {S : Nat × (Nat → Int32)} {n : Nat} {m0 : MM} {d : Int}
theorem lw_130 (hN : NdsOK m0) (hd : 0 ≤ d ∧ d ≤ 48) {Kk : WK} (H : ∀ m', Fr1 158 m0 m' → WayOK m' d → Kk none m') : ∀ (N : Nat) (m a b : Nat) (mem : MM), (m : Int) < m0 143 1 → (a : Int) < m0 143 1 → (b : Int) ≤ m0 143 1 → 81 * (m0 143 1 - m) + 9 * (m0 143 1 - a) + (m0 143 1 - b) < N → Fr1 158 m0 mem → FwI 5000 (NdE m0 d) 158 (m0 143 1).toNat mem m a b → Wx (Ex S (n + 1)) S M_256 Kk 130 [some (.inr 143), some (.inl d), some (.inl (m : Int)), some (.inl (a : Int)), some (.inl (b : Int)), none, none] [] mem := by
  intro N
  induction N with
  | zero => intros; omega
  | succ N ih =>
    intro m a b mem hm ha hb hNN hF hI
    have h8 := hN.1
    have eops : mem 143 1 = m0 143 1 := hF _ _ (by omega)
    have go : ∀ mem', Fr1 158 mem mem' → (b : Int) < m0 143 1 → FwI 5000 (NdE m0 d) 158 (m0 143 1).toNat mem' m a (b + 1) → InI ((b : Int) + 1) ∧ Wx (Ex S (n + 1)) S M_256 Kk 130 [some (.inr 143), some (.inl d), some (.inl (m : Int)), some (.inl (a : Int)), some (.inl ((b : Int) + 1)), none, none] [] mem' := fun mem' h1 h2 h3 => ⟨by unfold InI; omega, ih m a (b + 1) mem' hm ha (by omega) (by omega) (hF.tr h1) h3⟩
    refine w_256_130 (Ex.mono S (n + 1)) (fun v e _ => ⟨fun q => ⟨by unfold InI; omega, ?_⟩, fun q => ?_⟩)
    · rw [show b = (m0 143 1).toNat by omega] at hI
      have hI := hI.nextA
      refine w_256_119 (Ex.mono S (n + 1)) (fun v e _ => ⟨fun q2 => ⟨by unfold InI; omega, ?_⟩, fun q2 => ?_⟩)
      · rw [show a + 1 = (m0 143 1).toNat by omega] at hI
        have hI := hI.nextM
        refine w_256_109 (Ex.mono S (n + 1)) (fun v e _ => ⟨fun q3 => H mem hF ?_, fun q3 => ?_⟩)
        · unfold WayOK
          rw [NdE.fr hF, eops]
          rw [show m + 1 = (m0 143 1).toNat by omega] at hI
          exact hI
        · refine w_256_119 (Ex.mono S (n + 1)) (fun v e _ => ⟨fun q4 => by omega, fun q4 => ?_⟩)
          exact ih (m + 1) 0 0 mem (by omega) (by omega) (by omega) (by omega) hF hI
      · exact ih m (a + 1) 0 mem hm (by omega) (by omega) (by omega) hF hI
    · have hb2 : (b : Int) < m0 143 1 := by omega
      have r1 := hI.1 a m (by omega) (by omega)
      have r2 := hI.1 m b (by omega) (by omega)
      have r0 := hI.1 a b (by omega) (by omega)
      have hi : ∀ x y : Nat, (x : Int) < m0 143 1 → (y : Int) < m0 143 1 → InI (8 * (x : Int)) ∧ InI (8 * (x : Int) + y) ∧ (0 ≤ 8 * (x : Int) + y ∧ 8 * (x : Int) + y < 64) := fun x y h1 h2 => by unfold InI; omega
      obtain ⟨i1, i2, i3⟩ := hi a m ha hm
      obtain ⟨j1, j2, j3⟩ := hi m b hm hb2
      obtain ⟨k1, k2, k3⟩ := hi a b ha hb2
      refine ⟨i1, i2, i3, fun v2 e2 _ => ⟨j1, j2, j3, fun v3 e3 _ => ?_⟩⟩
      have e2 : v2 = WM mem 158 a m := by rw [e2, ix8]; rfl
      have e3 : v3 = WM mem 158 m b := by rw [e3, ix8]; rfl
      refine ⟨fun q2 => go mem Fr1.rf hb2 (hI.skip (by omega) (by omega) (by omega) (Or.inl (by omega))), fun q2 => ⟨fun q3 => go mem Fr1.rf hb2 (hI.skip (by omega) (by omega) (by omega) (Or.inr (by omega))), fun q3 => ⟨k1, k2, k1, k2, k3, fun v4 e4 _ => ⟨by unfold InI; omega, ?_⟩⟩⟩⟩
      have e4 : v4 = WM mem 158 a b := by rw [e4, ix8]; rfl
      refine f_258 (fun _ _ => f_257 (fun _ _ => ⟨k3, ?_⟩))
      rw [ix8, e2, e3, e4]
      exact go _ Fr1.up hb2 (hI.upd (by omega) (by omega) (by omega) (by omega) (by omega) (by omega) (by omega))
theorem lw_25 (hN : NdsOK m0) (hd : 0 ≤ d ∧ d ≤ 48) {Kk : WK} (H : ∀ m', Fr1 158 m0 m' → WayOK m' d → Kk none m') : ∀ (N : Nat) (k : Nat) (mem : MM), (k : Int) ≤ m0 143 12 → m0 143 12 - k < N → Fr1 158 m0 mem → (∀ a' b', a' < 8 → b' < 8 → -1000 ≤ WM mem 158 a' b' ∧ WM mem 158 a' b' ≤ 99) → (∀ j : Nat, (j : Int) < k → ¬ (j : Int) = m0 143 18 → ∀ a b : Nat, m0 154 j = a → m0 155 j = b → m0 157 j - d * m0 156 j ≤ WM mem 158 a b) → (∀ φ, PotE (NdE m0 d) φ → ∀ a' b', a' < 8 → b' < 8 → -1000 < WM mem 158 a' b' → φ a' + WM mem 158 a' b' ≤ φ b') → Wx (Ex S (n + 1)) S M_256 Kk 25 [some (.inr 143), some (.inl d), some (.inl (k : Int)), none, none, none, none] [] mem := by
  intro N
  induction N with
  | zero => intros; omega
  | succ N ih =>
    intro k mem hk hNN hF hR hL hU
    have h8 := hN.1
    have h48 := hN.2.1
    have eops : mem 143 1 = m0 143 1 := hF _ _ (by omega)
    have end_ : m0 143 12 ≤ k → FwI 5000 (NdE m0 d) 158 (m0 143 1).toNat mem 0 0 0 := fun hk2 => by
      refine ⟨fun a' b' ha hb => by have := hR a' b' (by omega) (by omega); omega, fun hu a' b' ha hb p v n1 n2 n3 n4 => ?_, fun hu a' b' ha hb q => by omega, fun φ hφ a' b' ha hb => hU φ hφ a' b' (by omega) (by omega), fun a' b' x ha hb hx => by
        obtain ⟨j, g1, g2, g3, g4, g5⟩ := hx
        rw [g5]
        exact hL j (by omega) g2 a' b' g3 g4⟩
      cases p with
      | nil =>
        obtain ⟨j, g1, g2, g3, g4, g5⟩ := n3
        rw [g5]
        exact hL j (by omega) g2 a' b' g3 g4
      | cons c p => exact absurd (n2 c List.mem_cons_self) (by omega)
    refine w_256_25 (Ex.mono S (n + 1)) (fun v e _ => ⟨fun q => ?_, fun q v2 e2 _ => ?_⟩)
    · have e : v = m0 143 12 := by rw [e]; exact hF _ _ (by omega)
      have hI := end_ (by omega)
      refine w_256_109 (Ex.mono S (n + 1)) (fun v e _ => ⟨fun q3 => H mem hF ?_, fun q3 => ?_⟩)
      · unfold WayOK
        rw [NdE.fr hF, eops, show (m0 143 1).toNat = 0 by omega]
        rw [show (m0 143 1).toNat = 0 by omega] at hI
        exact hI
      · refine w_256_119 (Ex.mono S (n + 1)) (fun v e _ => ⟨fun q4 => by omega, fun q4 => ?_⟩)
        exact lw_130 hN hd H (81 * 8 + 9 * 8 + 8 + 1) 0 0 0 mem (by omega) (by omega) (by omega) (by omega) hF hI
    · have e : v = m0 143 12 := by rw [e]; exact hF _ _ (by omega)
      have e2 : v2 = m0 143 18 := by rw [e2]; exact hF _ _ (by omega)
      refine ⟨fun q2 => ⟨by unfold InI; omega, ih (k + 1) mem (by omega) (by omega) hF hR (fun j h1 h2 a b h3 h4 => hL j (by omega) h2 a b h3 h4) hU⟩, fun q2 => ?_⟩
      have hk48 : 0 ≤ (k : Int) ∧ (k : Int) < 48 := by omega
      obtain ⟨p1, p2, p3, p4, p5, p6, p7, p8, p9⟩ := hN.2.2 k (by omega)
      have f4 : mem 154 k = m0 154 k := hF _ _ (by omega)
      have f5 : mem 155 k = m0 155 k := hF _ _ (by omega)
      have f6 : mem 156 k = m0 156 k := hF _ _ (by omega)
      have f7 : mem 157 k = m0 157 k := hF _ _ (by omega)
      have dm := dmul hd ⟨p5, p6⟩
      refine ⟨hk48, fun v3 e3 _ => ?_⟩
      rw [Int.toNat_natCast, f4] at e3
      refine ⟨by unfold InI; omega, hk48, fun v4 e4 _ => ?_⟩
      rw [Int.toNat_natCast, f5] at e4
      refine ⟨by unfold InI; omega, hk48, fun v5 e5 _ => ?_⟩
      rw [Int.toNat_natCast, f4] at e5
      refine ⟨by unfold InI; omega, hk48, fun v6 e6 _ => ?_⟩
      rw [Int.toNat_natCast, f5] at e6
      refine ⟨by unfold InI; omega, by omega, fun v7 e7 _ => ⟨hk48, fun v8 e8 _ => ?_⟩⟩
      rw [Int.toNat_natCast, f7] at e8
      refine ⟨hk48, fun v9 e9 _ => ?_⟩
      rw [Int.toNat_natCast, f6] at e9
      subst e9
      refine ⟨by unfold InI; omega, by unfold InI; omega, f_257 (fun _ _ => ⟨by omega, by unfold InI; omega, ?_⟩)⟩
      obtain ⟨a, ha⟩ : ∃ a : Nat, m0 154 k = a := ⟨(m0 154 k).toNat, by omega⟩
      obtain ⟨b, hb⟩ : ∃ b : Nat, m0 155 k = b := ⟨(m0 155 k).toNat, by omega⟩
      have e7 : v7 = WM mem 158 a b := by rw [e7, e5, e6, ha, hb, ix8]; rfl
      rw [show (8 * v3 + v4).toNat = 8 * a + b by omega, e7, e8]
      have r0 := hR a b (by omega) (by omega)
      have ew : ∀ i j, j < 8 → WM (upm mem 158 (8 * a + b) (max (WM mem 158 a b) (m0 157 k - d * m0 156 k))) 158 i j = if i = a ∧ j = b then max (WM mem 158 a b) (m0 157 k - d * m0 156 k) else WM mem 158 i j := fun i j hj => WM_up (by omega) hj
      refine ih (k + 1) _ (by omega) (by omega) (hF.tr Fr1.up) (fun i j hi hj => ?_) (fun j h1 h2 a' b' h3 h4 => ?_) (fun φ hφ i j hi hj => ?_)
      · rw [ew i j hj]
        split
        · omega
        · exact hR i j hi hj
      · obtain ⟨-, -, -, t4, -⟩ := hN.2.2 j (by omega)
        rw [ew a' b' (by omega)]
        by_cases hjk : j = k
        · subst hjk
          rw [if_pos (by omega)]; omega
        · have := hL j (by omega) h2 a' b' h3 h4
          split
          · rename_i z; obtain ⟨rfl, rfl⟩ := z; omega
          · exact this
      · have hp := hφ a b _ ⟨k, by omega, by omega, ha, hb, rfl⟩
        have h0 := hU φ hφ a b (by omega) (by omega)
        rw [ew i j hj]
        split
        · rename_i z
          obtain ⟨rfl, rfl⟩ := z
          intro _
          omega
        · exact hU φ hφ i j hi hj
theorem f_256 {K : MM → Prop} (hN : NdsOK m0) (hd : 0 ≤ d ∧ d ≤ 48) (H : ∀ m', Fr1 158 m0 m' → WayOK m' d → K m') : CWV (Ex S (n + 2)) 256 [.inr 143, .inl d] m0 K := by
  refine CW.of (k := 5) mt_256 rfl rfl (w_256_0 (Ex.mono S (n + 1)) ?_)
  have key : ∀ (N : Nat) (k : Nat) (mem : MM), k ≤ 64 → 64 - k < N → Fr1 158 m0 mem → (∀ i, i < k → mem 158 i = -1000) → Wx (Ex S (n + 1)) S M_256 (fun r m => r = none ∧ K m) 2 [some (.inr 143), some (.inl d), some (.inl (k : Int)), none, none, none, none] [] mem := by
    intro N
    induction N with
    | zero => intros; omega
    | succ N ih =>
      intro k mem hk hNN hF hA
      refine w_256_2 (Ex.mono S (n + 1)) ⟨fun q => ?_, fun q => ⟨by omega, by unfold InI; omega, ?_⟩⟩
      · have hW : ∀ a b, a < 8 → b < 8 → WM mem 158 a b = -1000 := fun a b ha hb => hA _ (by omega)
        exact lw_25 hN hd (fun m' h1 h2 => ⟨rfl, H m' h1 h2⟩) 49 0 mem (by have := hN.2.1; omega) (by have := hN.2.1; omega) hF (fun a b ha hb => by rw [hW a b ha hb]; omega) (fun j h1 => by omega) (fun φ _ a b ha hb h => by rw [hW a b ha hb] at h; omega)
      · refine ih (k + 1) _ (by omega) (by omega) (hF.tr Fr1.up) (fun i hi => ?_)
        rw [Int.toNat_natCast]
        by_cases e : i = k
        · subst e; exact upm_eq
        · rw [upm_ne (fun q => e q.2)]; exact hA i (by omega)
  exact key 65 0 m0 (by omega) (by omega) Fr1.rf (fun i hi => by omega)
end WAYS
