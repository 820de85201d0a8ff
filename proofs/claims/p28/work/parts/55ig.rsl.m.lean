section
/-! slots of the reference, exactly -/
section CANC
variable {S : Nat × (Nat → Int32)} {n : Nat} {m0 : MM} {d : Int} {k : Nat}
theorem cc_217 {mem : MM} (hk : k ≤ 8) {Kk : WK} (H1 : (∀ o, o < k → WM mem 162 o o ≤ 0) → Kk (some 1) mem) (H0 : ∀ o, o < k → 0 < WM mem 162 o o → Kk (some 0) mem) : ∀ (N : Nat) (o : Nat), o ≤ k → k - o < N → (∀ o2, o2 < o → WM mem 162 o2 o2 ≤ 0) → Wx (Ex S (n + 1)) S M_274 Kk 217 [some (.inr 143), some (.inl (k : Int)), some (.inl d), some (.inl (o : Int)), none, none, none, none] [] mem := by
  intro N
  induction N with
  | zero => intros; omega
  | succ N ih =>
    intro o ho hN hA
    refine w_274_217 (Ex.mono S (n + 1)) ⟨fun q => H1 (fun o2 h2 => hA o2 (by omega)), fun q => ⟨by unfold InI; omega, by unfold InI; omega, by omega, fun v e _ => ?_⟩⟩
    have e : v = WM mem 162 o o := by rw [e, ix8]; rfl
    refine ⟨fun q2 => ⟨by unfold InI; omega, ih (o + 1) (by omega) (by omega) (fun o2 h2 => ?_)⟩, fun q2 => H0 o (by omega) (by omega)⟩
    by_cases e3 : o2 = o
    · subst e3; omega
    · exact hA o2 (by omega)
theorem cc_108 (hk : k ≤ 8) {Kk : WK} (H1 : ∀ m', Fr1 162 m0 m' → CanOK m' d k → Kk (some 1) m') (H0 : ∀ m', Fr1 162 m0 m' → FwI 20000 (UE m' k d) 162 k m' k 0 0 → (∃ o, o < k ∧ 0 < WM m' 162 o o) → Kk (some 0) m') : ∀ (N : Nat) (m a b : Nat) (mem : MM), m < k → a < k → b ≤ k → 81 * (k - m) + 9 * (k - a) + (k - b) < N → Fr1 162 m0 mem → FwI 20000 (UE m0 k d) 162 k mem m a b → Wx (Ex S (n + 1)) S M_274 Kk 108 [some (.inr 143), some (.inl (k : Int)), some (.inl d), some (.inl (m : Int)), some (.inl (a : Int)), some (.inl (b : Int)), none, none] [] mem := by
  intro N
  induction N with
  | zero => intros; omega
  | succ N ih =>
    intro m a b mem hm ha hb hNN hF hI
    have go : ∀ mem', Fr1 162 mem mem' → b < k → FwI 20000 (UE m0 k d) 162 k mem' m a (b + 1) → InI ((b : Int) + 1) ∧ Wx (Ex S (n + 1)) S M_274 Kk 108 [some (.inr 143), some (.inl (k : Int)), some (.inl d), some (.inl (m : Int)), some (.inl (a : Int)), some (.inl ((b : Int) + 1)), none, none] [] mem' := fun mem' h1 h2 h3 => ⟨by unfold InI; omega, ih m a (b + 1) mem' hm ha (by omega) (by omega) (hF.tr h1) h3⟩
    refine w_274_108 (Ex.mono S (n + 1)) ⟨fun q => ⟨by unfold InI; omega, ?_⟩, fun q => ?_⟩
    · rw [show b = k by omega] at hI
      have hI := hI.nextA
      refine w_274_99 (Ex.mono S (n + 1)) ⟨fun q2 => ⟨by unfold InI; omega, ?_⟩, fun q2 => ?_⟩
      · rw [show a + 1 = k by omega] at hI
        have hI := hI.nextM
        refine w_274_91 (Ex.mono S (n + 1)) ⟨fun q3 => ?_, fun q3 => ?_⟩
        · rw [show m + 1 = k by omega] at hI
          refine cc_217 hk (fun hD => H1 mem hF ⟨?_, hD⟩) (fun o ho hp => H0 mem hF (by rw [UE.fr hF]; exact hI) ⟨o, ho, hp⟩) 9 0 (by omega) (by omega) (fun o2 h => by omega)
          rw [UE.fr hF]; exact hI
        · refine w_274_99 (Ex.mono S (n + 1)) ⟨fun q4 => by omega, fun q4 => ?_⟩
          exact ih (m + 1) 0 0 mem (by omega) (by omega) (by omega) (by omega) hF hI
      · exact ih m (a + 1) 0 mem hm (by omega) (by omega) (by omega) hF hI
    · have hb2 : b < k := by omega
      have r1 := hI.1 a m ha hm
      have r2 := hI.1 m b hm hb2
      have r0 := hI.1 a b ha hb2
      have hi : ∀ x y : Nat, x < k → y < k → InI (8 * (x : Int)) ∧ InI (8 * (x : Int) + y) ∧ (0 ≤ 8 * (x : Int) + y ∧ 8 * (x : Int) + y < 64) := fun x y h1 h2 => by unfold InI; omega
      obtain ⟨i1, i2, i3⟩ := hi a m ha hm
      obtain ⟨j1, j2, j3⟩ := hi m b hm hb2
      obtain ⟨k1, k2, k3⟩ := hi a b ha hb2
      refine ⟨i1, i2, i3, fun v2 e2 _ => ⟨j1, j2, j3, fun v3 e3 _ => ?_⟩⟩
      have e2 : v2 = WM mem 162 a m := by rw [e2, ix8]; rfl
      have e3 : v3 = WM mem 162 m b := by rw [e3, ix8]; rfl
      refine ⟨fun q2 => go mem Fr1.rf hb2 (hI.skip hm ha hb2 (Or.inl (by omega))), fun q2 => ⟨fun q3 => go mem Fr1.rf hb2 (hI.skip hm ha hb2 (Or.inr (by omega))), fun q3 => ⟨k1, k2, k1, k2, k3, fun v4 e4 _ => ⟨by unfold InI; omega, ?_⟩⟩⟩⟩
      have e4 : v4 = WM mem 162 a b := by rw [e4, ix8]; rfl
      refine f_258 (fun _ _ => f_257 (fun _ _ => ⟨k3, ?_⟩))
      rw [ix8, e2, e3, e4]
      exact go _ Fr1.up hb2 (hI.upd (by omega) hk hm ha hb2 (by omega) (by omega))
theorem cc_10 (hk : k ≤ 8) (hd : 1 ≤ d ∧ d ≤ 12) (hW : ∀ a b, a < k → b < k → -5000 ≤ WM m0 158 a b ∧ WM m0 158 a b ≤ 5000) (hs : ∀ o, o < 8 → -1 ≤ m0 160 o ∧ m0 160 o ≤ 12) {Kk : WK} (H1 : ∀ m', Fr1 162 m0 m' → CanOK m' d k → Kk (some 1) m') (H0 : ∀ m', Fr1 162 m0 m' → FwI 20000 (UE m' k d) 162 k m' k 0 0 → (∃ o, o < k ∧ 0 < WM m' 162 o o) → Kk (some 0) m') : ∀ (N : Nat) (a b : Nat) (mem : MM), a < k → b ≤ k → 9 * (k - a) + (k - b) < N → Fr1 162 m0 mem → (∀ a' b', a' < k → b' < k → (a' < a ∨ (a' = a ∧ b' < b)) → UE0 m0 k d mem a' b') → Wx (Ex S (n + 1)) S M_274 Kk 10 [some (.inr 143), some (.inl (k : Int)), some (.inl d), some (.inl (a : Int)), some (.inl (b : Int)), none, none, none] [] mem := by
  intro N
  induction N with
  | zero => intros; omega
  | succ N ih =>
    intro a b mem ha hb hNN hF hU
    refine w_274_10 (Ex.mono S (n + 1)) ⟨fun q => ⟨by unfold InI; omega, ?_⟩, fun q => ?_⟩
    · refine w_274_2 (Ex.mono S (n + 1)) ⟨fun q2 => ?_, fun q2 => ?_⟩
      · have hall : ∀ a' b', a' < k → b' < k → UE0 m0 k d mem a' b' := fun a' b' h1 h2 => hU a' b' h1 h2 (by omega)
        have hI : FwI 20000 (UE m0 k d) 162 k mem 0 0 0 := by
          have uniq : ∀ a' b' x, UE m0 k d a' b' x → WM mem 162 a' b' = x := fun a' b' x hx => by
            rcases hall a' b' hx.1 hx.2.1 with ⟨g, -⟩ | g
            · exact absurd g hx.2.2.1
            · have l1 := ceil1 (by omega) g.2.2.2.1 hx.2.2.2.2
              have l2 := ceil1 (by omega) hx.2.2.2.1 g.2.2.2.2
              omega
          refine ⟨fun a' b' h1 h2 => ?_, fun hu a' b' h1 h2 p v n1 n2 n3 n4 => ?_, fun hu a' b' h1 h2 q => by omega, fun φ hφ a' b' h1 h2 hg => ?_, fun a' b' x h1 h2 hx => ?_⟩
          · rcases hall a' b' h1 h2 with ⟨-, g⟩ | g
            · omega
            · obtain ⟨-, -, -, g4, g5⟩ := g
              have w1 := hW a' b' h1 h2
              have s1 := hs a' (by omega)
              have s2 := hs b' (by omega)
              constructor
              · by_cases c : -20000 ≤ WM mem 162 a' b'
                · exact c
                · have := Int.mul_le_mul_of_nonpos_right hd.1 (show WM mem 162 a' b' ≤ 0 by omega)
                  omega
              · by_cases c : WM mem 162 a' b' ≤ 20000
                · exact c
                · have := Int.mul_le_mul_of_nonneg_right hd.1 (show 0 ≤ WM mem 162 a' b' - 1 by omega)
                  omega
          · cases p with
            | nil => rw [uniq a' b' v n3]; exact Int.le_refl _
            | cons c p => exact absurd (n2 c List.mem_cons_self) (by omega)
          · rcases hall a' b' h1 h2 with ⟨-, g⟩ | g
            · omega
            · exact hφ _ _ _ g
          · rw [uniq a' b' x hx]; exact Int.le_refl _
        refine w_274_91 (Ex.mono S (n + 1)) ⟨fun q3 => ?_, fun q3 => ?_⟩
        · omega
        · refine w_274_99 (Ex.mono S (n + 1)) ⟨fun q4 => by omega, fun q4 => ?_⟩
          exact cc_108 hk H1 H0 (81 * 8 + 9 * 8 + 8 + 1) 0 0 0 mem (by omega) (by omega) (by omega) (by omega) hF hI
      · exact ih (a + 1) 0 mem (by omega) (by omega) (by omega) hF (fun a' b' h1 h2 h3 => hU a' b' h1 h2 (by omega))
    · have hb2 : b < k := by omega
      have k1 : InI (8 * (a : Int)) := by unfold InI; omega
      have k2 : InI (8 * (a : Int) + b) := by unfold InI; omega
      have k3 : 0 ≤ 8 * (a : Int) + b ∧ 8 * (a : Int) + b < 64 := by omega
      have w1 := hW a b ha hb2
      have s1 := hs a (by omega)
      have s2 := hs b (by omega)
      have ew : ∀ x i j, j < 8 → WM (upm mem 162 (8 * a + b) x) 162 i j = if i = a ∧ j = b then x else WM mem 162 i j := fun x i j hj => WM_up (by omega) hj
      have go : ∀ x, UE0 m0 k d (upm mem 162 (8 * a + b) x) a b → InI ((b : Int) + 1) ∧ Wx (Ex S (n + 1)) S M_274 Kk 10 [some (.inr 143), some (.inl (k : Int)), some (.inl d), some (.inl (a : Int)), some (.inl ((b : Int) + 1)), none, none, none] [] (upm mem 162 (8 * a + b) x) := fun x hx => by
        refine ⟨by unfold InI; omega, ih a (b + 1) _ ha (by omega) (by omega) (hF.tr Fr1.up) (fun a' b' h1 h2 h3 => ?_)⟩
        by_cases e : a' = a ∧ b' = b
        · obtain ⟨rfl, rfl⟩ := e; exact hx
        · have := hU a' b' h1 h2 (by omega)
          unfold UE0 at this ⊢
          rw [ew x a' b' (by omega), if_neg e]; exact this
      refine ⟨k1, k2, k3, fun v1 e1 _ => ⟨k1, k2, fun q2 => ?_, fun q2 => ?_⟩⟩
      · have e1 : v1 = WM m0 158 a b := by rw [e1, ix8, hF 158 _ (by omega)]; rfl
        refine ⟨by omega, fun v2 e2 _ => ?_⟩
        rw [Int.toNat_natCast, hF 160 _ (by omega)] at e2
        refine ⟨by unfold InI; omega, by omega, fun v3 e3 _ => ?_⟩
        rw [Int.toNat_natCast, hF 160 _ (by omega)] at e3
        refine ⟨by unfold InI; omega, f_275 ⟨by omega, by omega⟩ ⟨by omega, by omega⟩ (fun u h1 h2 _ => ⟨k3, ?_⟩)⟩
        rw [ix8]
        refine go u (Or.inr ?_)
        rw [ew u a b (by omega), if_pos ⟨rfl, rfl⟩]
        exact ⟨ha, hb2, by omega, by rw [← e1, ← e2, ← e3]; exact h1, by rw [← e1, ← e2, ← e3]; exact h2⟩
      · have e1 : v1 = WM m0 158 a b := by rw [e1, ix8, hF 158 _ (by omega)]; rfl
        refine ⟨k3, ?_⟩
        rw [ix8]
        refine go _ (Or.inl ⟨by omega, ?_⟩)
        rw [ew _ a b (by omega), if_pos ⟨rfl, rfl⟩]
theorem f_274c {K : Int → MM → Prop} (hk : 1 ≤ k ∧ k ≤ 8) (hd : 1 ≤ d ∧ d ≤ 12) (hW : ∀ a b, a < k → b < k → -5000 ≤ WM m0 158 a b ∧ WM m0 158 a b ≤ 5000) (hs : ∀ o, o < 8 → -1 ≤ m0 160 o ∧ m0 160 o ≤ 12) (H1 : ∀ m', Fr1 162 m0 m' → CanOK m' d k → K 1 m') (H0 : ∀ m', Fr1 162 m0 m' → FwI 20000 (UE m' k d) 162 k m' k 0 0 → (∃ o, o < k ∧ 0 < WM m' 162 o o) → K 0 m') : CWI (Ex S (n + 2)) 274 [.inr 143, .inl (k : Int), .inl d] m0 K := by
  refine CW.of (k := 5) mt_274 rfl rfl (w_274_0 (Ex.mono S (n + 1)) (w_274_2 (Ex.mono S (n + 1)) ⟨fun q => by omega, fun q => ?_⟩))
  exact cc_10 hk.2 hd hW hs (fun m' h1 h2 => ⟨_, rfl, H1 m' h1 h2⟩) (fun m' h1 h2 h3 => ⟨_, rfl, H0 m' h1 h2 h3⟩) (9 * 8 + 8 + 1) 0 0 m0 (by omega) (by omega) (by omega) Fr1.rf (fun a' b' h1 h2 h3 => by omega)
end CANC
def RPb (m : MM) (d : Int) : Prb := ((m 143 1).toNat, rUn m, rBu m, fun u => m 153 u, d, EdQ (rq m) (m 143 12).toNat d)
theorem RPb.cg {m m' : MM} {d : Int} (h : ∀ A i, (A = 143 ∧ ¬ i = 0) ∨ (144 ≤ A ∧ A ≤ 157) → m' A i = m A i) : RPb m' d = RPb m d := by
  have e1 : rUn m' = rUn m := funext fun o => by
    unfold rUn
    rw [h 144 o (by omega), h 150 _ (by omega)]
  have e2 : rBu m' = rBu m := funext fun o => by
    unfold rBu
    rw [h 144 o (by omega), h 152 _ (by omega)]
  have e3 : (fun u => m' 153 u) = fun u => m 153 u := funext fun u => h 153 u (by omega)
  have e4 : rq m' = rq m := funext fun i => by
    unfold rq
    rw [h 154 i (by omega), h 155 i (by omega), h 156 i (by omega), h 157 i (by omega)]
  unfold RPb
  rw [e1, e2, e3, e4, h 143 1 (by omega), h 143 12 (by omega)]
def WaT (W : Nat → Nat → Int) (nn : Int) (s : Nat → Int) (d : Int) (k : Nat) (t : Nat → Int) : Prop := ∀ a b, a < k → b < k → ¬ W a b = nn → s a + d * t a + W a b ≤ s b + d * t b
theorem WaT.cg {W : Nat → Nat → Int} {nn : Int} {s s' : Nat → Int} {d : Int} {k : Nat} {t : Nat → Int} (h : WaT W nn s d k t) (e : ∀ o, o < k → s o = s' o) : WaT W nn s' d k t := fun a b ha hb w => by
  rw [← e a ha, ← e b hb]; exact h a b ha hb w
theorem ue_wa {m : MM} {k : Nat} {d : Int} {t : Nat → Int} (hd : 0 < d) : PotE (UE m k d) t ↔ WaT (WM m 158) (-1000) (m 160) d k t := by
  constructor
  · intro h a b ha hb w
    obtain ⟨x, x1, x2⟩ := ceil_ex (WM m 158 a b + m 160 a - m 160 b) hd
    have g := h a b x ⟨ha, hb, w, x1, x2⟩
    have := Int.mul_le_mul_of_nonneg_left g (show 0 ≤ d by omega)
    rw [Int.mul_add] at this
    omega
  · rintro h a b x ⟨ha, hb, w, x1, x2⟩
    have g := h a b ha hb w
    have := ceil1 (y := t b - t a) hd x1 (by rw [Int.mul_sub]; omega)
    omega
def HgW (W : Nat → Nat → Int) (nn : Int) (k : Nat) : Prop := ∃ φ : Nat → Int, (∀ b, 0 ≤ φ b ∧ φ b ≤ 42) ∧ ∀ a b, a < k → b < k → ¬ W a b = nn → φ a + W a b ≤ φ b
theorem can_pot {m : MM} {d : Int} {k : Nat} (hd : 1 ≤ d ∧ d ≤ 12) (hk : k ≤ 8) (hg : HgW (WM m 158) (-1000) k) (hs : ∀ o, o < k → 0 ≤ m 160 o ∧ m 160 o ≤ d - 1) (hC : CanOK m d k) : ∃ P : Nat → Int, (∀ b, 0 ≤ P b ∧ d * P b ≤ 42 + 8 * (d - 1)) ∧ PotE (UE m k d) P := by
  obtain ⟨φ, f1, f2⟩ := hg
  have hd0 : 0 < d := by omega
  have hV : ∀ a b x, UE m k d a b x → a < k ∧ b < k := fun a b x h => ⟨h.1, h.2.1⟩
  have hE : ∀ a b x, UE m k d a b x → d * x ≤ (φ b - m 160 b) - (φ a - m 160 a) + (d - 1) := by
    rintro a b x ⟨h1, h2, h3, h4, h5⟩
    have up := f2 a b h1 h2 h3
    rw [Int.mul_sub, Int.mul_one] at h4
    omega
  have hwk : ∀ a p b v, Wk (UE m k d) a p b v → d * v ≤ 42 + (d - 1) + (d - 1) * (p.length + 1) := by
    intro a p b v hw
    have h1 := Wk.scal hE hw
    obtain ⟨ha, hb, -⟩ := Wk.ends hV hw
    have fa := f1 a
    have fb := f1 b
    have sa := hs a ha
    have sb := hs b hb
    omega
  have hAup : Aup (UE m k d) := by
    intro a p b v n1 n2 n3
    have h1 := hwk a p b v n3
    have hl := nd_len n1 n2
    have h2 := Int.mul_le_mul_of_nonneg_left (show (p.length + 1 : Int) ≤ 9 by omega) (show 0 ≤ d - 1 by omega)
    by_cases hv : v ≤ 99
    · exact hv
    · have e1 : d = 1 ∨ 2 ≤ d := by omega
      rcases e1 with rfl | e1
      · omega
      · have := Int.mul_le_mul e1 (show (100 : Int) ≤ v by omega) (by omega) (by omega)
        omega
  have hq : 0 ≤ (42 + 8 * (d - 1)) / d := Int.ediv_nonneg (by omega) (by omega)
  have hq2 := Int.mul_ediv_self_le (x := 42 + 8 * (d - 1)) (k := d) (by omega)
  obtain ⟨P, p1, p2⟩ := pot (E := UE m k d) (k := k) (B := ((42 + 8 * (d - 1)) / d).toNat) hV (fun a p v ha n1 n2 n3 => by
    have hl := nd_len n1 n2
    by_cases hv : v ≤ 0
    · exact hv
    · have := hC.1.2.1 hAup a a ha ha p v n1 n2 n3 (by omega)
      have := hC.2 a ha
      omega) (fun a p b v hb n1 n2 hw => by
    have h1 := hwk a p b v hw
    have l1 := nd_len (k := k) n1 (fun c hc => by
      rcases List.mem_cons.mp hc with rfl | hc
      · exact hb
      · exact n2 c hc)
    rw [List.length_cons, List.length_cons] at l1
    have h2 := Int.mul_le_mul_of_nonneg_left (show (p.length + 1 : Int) ≤ 7 by omega) (show 0 ≤ d - 1 by omega)
    have h3 : v ≤ (42 + 8 * (d - 1)) / d := by
      rw [Int.le_ediv_iff_mul_le hd0, Int.mul_comm]
      omega
    omega)
  refine ⟨P, fun b => ⟨(p1 b).1, ?_⟩, p2⟩
  have h1 := (p1 b).2
  have := Int.mul_le_mul_of_nonneg_left (show P b ≤ (42 + 8 * (d - 1)) / d by omega) (show 0 ≤ d by omega)
  omega
def WyW (m : MM) (d : Int) : Prop := (∀ a b, a < (m 143 1).toNat → b < (m 143 1).toNat → -5000 ≤ WM m 158 a b ∧ WM m 158 a b ≤ 5000) ∧ HgW (WM m 158) (-1000) (m 143 1).toNat ∧ (∀ a b x, (RPb m d).E a b x → (a < (m 143 1).toNat ∧ b < (m 143 1).toNat) ∧ ¬ WM m 158 a b = -1000 ∧ x ≤ WM m 158 a b) ∧ ∀ s t, TuP (RPb m d) s t → WaT (WM m 158) (-1000) s d (m 143 1).toNat t
theorem WyW.mk {m : MM} {d : Int} (hN : NdsOK m) (hd : 1 ≤ d ∧ d ≤ 12) (hU : NoUp (EdQ (rq m) (m 143 12).toNat d)) (hW : WyA m d) : WyW m d := by
  have hE := hN.fwh (by omega) hU
  have h8 := hN.1
  have rg : ∀ a b, a < (m 143 1).toNat → b < (m 143 1).toNat → ¬ WM m 158 a b = -1000 → -801 ≤ WM m 158 a b ∧ WM m 158 a b ≤ 54 := by
    intro a b ha hb w
    rcases hW a b (by omega) (by omega) with ⟨e, -⟩ | ⟨-, ⟨p, g⟩, k⟩
    · exact absurd e w
    · obtain ⟨p', v', g1, -, g3, g4⟩ := Wk.red hE.2.1 p a b _ g
      have := hE.rg g1 g3
      have := k p' v' g3
      exact ⟨by omega, by omega⟩
  have edge : ∀ a b x, EdQ (rq m) (m 143 12).toNat d a b x → (a < (m 143 1).toNat ∧ b < (m 143 1).toNat) ∧ ¬ WM m 158 a b = -1000 ∧ x ≤ WM m 158 a b := by
    intro a b x h
    obtain ⟨ha, hb⟩ := hE.v a b x h
    rcases hW a b (by omega) (by omega) with ⟨-, g⟩ | ⟨e, -, g⟩
    · exact absurd (show Wk (EdQ (rq m) (m 143 12).toNat d) a [] b x from h) (g [] x)
    · exact ⟨⟨ha, hb⟩, e, g [] x h⟩
  refine ⟨fun a b ha hb => ?_, ?_, edge, fun s t ht a b ha hb w => ?_⟩
  · by_cases e : WM m 158 a b = -1000
    · omega
    · have := rg a b ha hb e
      omega
  · obtain ⟨φ, f1, f2⟩ := pot (E := EdQ (rq m) (m 143 12).toNat d) (k := (m 143 1).toNat) (B := 42) hE.v (fun a p v _ n1 _ n3 => hE.2.1 a p v n1 n3) (fun a p b v hb n1 n2 hw => by
      have l1 := nd_len (k := (m 143 1).toNat) n1 (fun c hc => by
        rcases List.mem_cons.mp hc with rfl | hc
        · exact hb
        · exact n2 c hc)
      have l2 := Wk.le6 (c := 6) (by omega) (fun a b x e => (hE.2.2 a b x e).2.2) hw
      rw [List.length_cons, List.length_cons] at l1
      omega)
    refine ⟨φ, fun b => by have := f1 b; omega, fun a b ha hb w => ?_⟩
    rcases hW a b (by omega) (by omega) with ⟨e, -⟩ | ⟨-, ⟨p, g⟩, -⟩
    · exact absurd e w
    · exact Wk.pot f2 g
  · rcases hW a b (by omega) (by omega) with ⟨e, -⟩ | ⟨-, ⟨p, g⟩, -⟩
    · exact absurd e w
    · exact Wk.tu (p := RPb m d) ht g
theorem usM_rg {M : Nat → Prop} {un bu : Nat → Int} {d : Int} {s : Nat → Int} {u k : Int} : ∀ n : Nat, usM M un bu d s u k n ≤ 4 * n
  | 0 => by
    show (0 : Int) ≤ 4 * ((0 : Nat) : Int)
    omega
  | n + 1 => by
    have := usM_rg (M := M) (un := un) (bu := bu) (d := d) (s := s) (u := u) (k := k) n
    have := cIf.rg (c := M n ∧ un n = u) (us1_rg (d := d) (s := s n) (bu := bu n) (k := k)) (show (0 : Int) ≤ 0 ∧ (0 : Int) ≤ 4 by omega)
    unfold usM
    omega
theorem us_cg {p : Prb} {s s' : Nat → Int} {u k : Int} {j : Nat} (h : ∀ o, o < j → s o = s' o) : p.us s u k j = p.us s' u k j := usM_cg j (fun o ho _ => ⟨Iff.rfl, fun _ => h o ho⟩)
theorem us_rg {p : Prb} {s : Nat → Int} {u k : Int} {j : Nat} : 0 ≤ p.us s u k j ∧ p.us s u k j ≤ 4 * j := ⟨usM_ge j, usM_rg j⟩
section RSL
variable {S : Nat × (Nat → Int32)} {n : Nat} {mem : MM} {d : Int}
theorem f_272e {K : Int → MM → Prop} {a b : Int} (hb : 0 < b ∧ b ≤ 1000000) (H : K (a % b) mem) : CWI (Ex S (n + 1)) 272 [.inl a, .inl b] mem K := by
  have h1 := tm_rng a hb.1
  have h2 : 0 ≤ a.tmod b + b := by omega
  have h3 := Int.tmod_nonneg b h2
  have h4 := Int.tmod_lt_of_pos (a.tmod b + b) hb.1
  have e : (a.tmod b + b).tmod b = a % b := by
    rw [Int.tmod_eq_emod_of_nonneg h2, Int.add_emod_right]
    have q := Int.tmod_add_mul_tdiv a b
    have q2 : (a.tmod b + b * a.tdiv b) % b = a.tmod b % b := Int.add_mul_emod_self_left _ _ _
    rw [q] at q2
    exact q2.symm
  exact CW.of (k := 0) mt_272 rfl rfl (w_272_0 (Ex.mono S n) ⟨hb.1, by unfold InI; omega, hb.1, fun _ => ⟨_, rfl, by rw [e]; exact H⟩⟩)
theorem f_264z {K : Int → MM → Prop} (hO : OpsOK mem) (hU : UnOK mem) {o : Nat} (h : o < 8) (H : 0 ≤ rUn mem o → rUn mem o ≤ 2 → K (rUn mem o) mem) : CWI (Ex S (n + 1)) 264 [.inr 143, .inl (o : Int)] mem K := by
  obtain ⟨h1, h2, -⟩ := hO.2.1 o h
  refine CW.of (k := 0) mt_264 rfl rfl (w_264_0 (Ex.mono S n) ⟨by omega, fun v e _ => ⟨?_, fun v2 e2 _ _ => ⟨_, rfl, ?_⟩⟩⟩)
  · rw [e, Int.toNat_natCast]; omega
  · rw [Int.toNat_natCast] at e
    have g := hU (mem 144 o).toNat (by omega)
    have e3 : v2 = rUn mem o := by
      rw [e2, e]; rfl
    rw [e3]
    exact H g.1 g.2
theorem f_265z {K : Int → MM → Prop} (hO : OpsOK mem) {o : Nat} (h : o < 8) (H : K (rBu mem o) mem) : CWI (Ex S (n + 1)) 265 [.inr 143, .inl (o : Int)] mem K := by
  obtain ⟨h1, h2, -⟩ := hO.2.1 o h
  refine CW.of (k := 0) mt_265 rfl rfl (w_265_0 (Ex.mono S n) ⟨by omega, fun v e _ => ⟨?_, fun v2 e2 _ _ => ⟨_, rfl, ?_⟩⟩⟩)
  · rw [e, Int.toNat_natCast]; omega
  · rw [Int.toNat_natCast] at e
    have e3 : v2 = rBu mem o := by
      rw [e2, e]; rfl
    rw [e3]
    exact H
theorem f_271e {K : MM → Prop} (hO : OpsOK mem) (hU : UnOK mem) {o : Nat} {t by_ : Int} (ho : o < 8) (ht : 0 ≤ t ∧ t ≤ 1000000) (hd : 1 ≤ d ∧ d ≤ 12) (hb : by_ = 1 ∨ by_ = -1) (hbu : 0 ≤ rBu mem o ∧ rBu mem o ≤ 15) (hR : ∀ u k : Nat, u < 3 → k < 12 → -100 ≤ mem 159 (12 * u + k) ∧ mem 159 (12 * u + k) ≤ 100) (H : ∀ m', Fr1 159 mem m' → (∀ u k : Nat, u < 3 → k < 12 → m' 159 (12 * u + k) = mem 159 (12 * u + k) + by_ * cIf (rUn mem o = (u : Int)) (us1 d t (rBu mem o) k) 0) → K m') : CWV (Ex S (n + 2)) 271 [.inr 143, .inl (o : Int), .inl t, .inl d, .inl by_] mem K := by
  refine CW.of (k := 1) mt_271 rfl rfl (w_271_0 (Ex.mono S (n + 1)) ?_)
  have key : ∀ (N : Nat) (k : Nat) (m : MM), k ≤ 4 → 4 - k < N → Fr1 159 mem m → (∀ u j : Nat, u < 3 → j < 12 → m 159 (12 * u + j) = mem 159 (12 * u + j) + by_ * cIf (rUn mem o = (u : Int)) (uzR d t (rBu mem o) j k) 0) → Wx (Ex S (n + 1)) S M_271 (fun r m => r = none ∧ K m) 3 [some (.inr 143), some (.inl (o : Int)), some (.inl t), some (.inl d), some (.inl by_), some (.inl (k : Int))] [] m := by
    intro N
    induction N with
    | zero => intros; omega
    | succ N ih =>
      intro k m hk hN hF hC
      have hO2 := hF.f59.ops hO
      have hU2 := hF.f59.un hU
      have eU : rUn m o = rUn mem o := by unfold rUn; rw [hF 144 o (by omega), hF 150 _ (by omega)]
      have eB : rBu m o = rBu mem o := by unfold rBu; rw [hF 144 o (by omega), hF 152 _ (by omega)]
      refine w_271_3 (Ex.mono S (n + 1)) ⟨fun q => ⟨rfl, H m hF (fun u j hu hj => ?_)⟩, fun q => f_265z hO2 ho (fun _ b3 e3 _ b4 e4 _ => ?_)⟩
      · rw [hC u j hu hj, show k = 4 by omega, uzR4]
      · rw [eB] at e3
        have bt := bitr hbu ⟨by omega, by omega⟩ e3 e4
        rw [Int.toNat_natCast] at bt
        refine ⟨fun q2 => ⟨by unfold InI; omega, ih (k + 1) m (by omega) (by omega) hF (fun u j hu hj => ?_)⟩, fun q2 => f_264z hO2 hU2 ho (fun u1 u2 _ => ⟨by unfold InI; omega, by unfold InI; omega, f_272e ⟨by omega, by omega⟩ (fun _ => ?_)⟩)⟩
        · have e : uzR d t (rBu mem o) j (k + 1) = uzR d t (rBu mem o) j k := by
            show uzR d t (rBu mem o) j k + (if _ then 1 else 0) = _
            rw [if_neg (fun z => q2 (bt.mpr z.1)), Int.add_zero]
          rw [hC u j hu hj, e]
        · have r1 := Int.emod_nonneg (t + (k : Int)) (show d ≠ 0 by omega)
          have r2 := Int.emod_lt_of_pos (t + (k : Int)) (show 0 < d by omega)
          have ix : ((12 * rUn m o + (t + (k : Int)) % d).toNat : Nat) = 12 * (rUn m o).toNat + ((t + (k : Int)) % d).toNat := by omega
          refine ⟨by unfold InI; omega, by omega, fun v9 e9 _ z _ hz => ⟨by omega, by unfold InI; omega, ih (k + 1) _ (by omega) (by omega) (hF.tr Fr1.up) (fun u j hu hj => ?_)⟩⟩
          have st : uzR d t (rBu mem o) j (k + 1) = uzR d t (rBu mem o) j k + (if (t + (k : Int)) % d = (j : Int) then 1 else 0) := by
            show uzR d t (rBu mem o) j k + (if _ ∧ _ then 1 else 0) = _
            by_cases w : (t + (k : Int)) % d = (j : Int)
            · rw [if_pos w, if_pos ⟨bt.mp (Classical.not_not.mp q2), w⟩]
            · rw [if_neg w, if_neg (fun z => w z.2)]
          have hm : ∀ x : Int, by_ * (x + 1) = by_ * x + by_ := fun x => by rw [Int.mul_add, Int.mul_one]
          rw [ix] at e9 ⊢
          have c9 := hC (rUn m o).toNat ((t + (k : Int)) % d).toNat (by omega) (by omega)
          have g9 := hR (rUn m o).toNat ((t + (k : Int)) % d).toNat (by omega) (by omega)
          rw [cIf.y (show rUn mem o = (((rUn m o).toNat : Nat) : Int) by omega)] at c9
          have z9 : z = v9 + by_ := hz (by
            have := uzR_rg (d := d) (s := t) (bu := rBu mem o) (k := ((((t + (k : Int)) % d).toNat : Nat) : Int)) k
            unfold InI
            rcases hb with e | e
            · rw [e] at c9 ⊢; omega
            · rw [e] at c9 ⊢; omega)
          by_cases w : u = (rUn m o).toNat ∧ j = ((t + (k : Int)) % d).toNat
          · rw [← w.1, ← w.2] at e9 c9
            rw [← w.1, ← w.2, upm_eq, z9, e9, c9, cIf.y (show rUn mem o = (u : Int) by omega), st, if_pos (show (t + (k : Int)) % d = (j : Int) by omega), hm]
            omega
          · rw [upm_ne (fun z => w (by omega)), hC u j hu hj]
            by_cases w2 : rUn mem o = (u : Int)
            · rw [cIf.y w2, cIf.y w2, st, if_neg (fun z => w ⟨by omega, by omega⟩), Int.add_zero]
            · rw [cIf.n w2, cIf.n w2]
  refine key 5 0 mem (by omega) (by omega) Fr1.rf (fun u j _ _ => ?_)
  have e : cIf (rUn mem o = (u : Int)) (uzR d t (rBu mem o) j 0) 0 = 0 := by
    by_cases w : rUn mem o = (u : Int)
    · rw [cIf.y w]; rfl
    · exact cIf.n w
  rw [e, Int.mul_zero, Int.add_zero]
theorem f_273e {K : Int → MM → Prop} {u : Int} (hu : 0 ≤ u ∧ u ≤ 2) (hd : 1 ≤ d ∧ d ≤ 12) (H1 : (∃ k : Nat, (k : Int) < d ∧ mem 153 u.toNat < mem 159 (12 * u.toNat + k)) → K 1 mem) (H0 : (∀ k : Nat, (k : Int) < d → mem 159 (12 * u.toNat + k) ≤ mem 153 u.toNat) → K 0 mem) : CWI (Ex S (n + 1)) 273 [.inr 143, .inl u, .inl d] mem K := by
  refine CW.of (k := 1) mt_273 rfl rfl (w_273_0 (Ex.mono S n) ?_)
  have key : ∀ (N : Nat) (k : Nat), (k : Int) ≤ d → d - k < N → (∀ j : Nat, j < k → mem 159 (12 * u.toNat + j) ≤ mem 153 u.toNat) → Wx (Ex S n) S M_273 (fun r m => ∃ y, r = some y ∧ K y m) 2 [some (.inr 143), some (.inl u), some (.inl d), some (.inl (k : Int))] [] mem := by
    intro N
    induction N with
    | zero => intros; omega
    | succ N ih =>
      intro k hk hN hA
      have ix : ((12 * u + (k : Int)).toNat : Nat) = 12 * u.toNat + k := by omega
      refine w_273_2 (Ex.mono S n) ⟨fun q => ⟨_, rfl, H0 (fun j hj => hA j (by omega))⟩, fun q => ⟨by unfold InI; omega, by unfold InI; omega, by omega, fun v1 e1 _ => ⟨by omega, fun v2 e2 _ => ⟨fun q2 => ⟨by unfold InI; omega, ih (k + 1) (by omega) (by omega) (fun j hj => ?_)⟩, fun q2 => ⟨_, rfl, H1 ⟨k, by omega, ?_⟩⟩⟩⟩⟩⟩
      · rw [ix] at e1
        by_cases e : j = k
        · subst e; omega
        · exact hA j (by omega)
      · rw [ix] at e1
        omega
  exact key 13 0 (by omega) (by omega) (fun j hj => by omega)
theorem f_274t {K : Int → MM → Prop} {k : Nat} (hk : 1 ≤ k ∧ k ≤ 8) (hd : 1 ≤ d ∧ d ≤ 12) (hW : ∀ a b, a < k → b < k → -5000 ≤ WM mem 158 a b ∧ WM mem 158 a b ≤ 5000) (hg : HgW (WM mem 158) (-1000) k) (hs8 : ∀ o, o < 8 → -1 ≤ mem 160 o ∧ mem 160 o ≤ 12) (hs : ∀ o, o < k → 0 ≤ mem 160 o ∧ mem 160 o ≤ d - 1) (H1 : ∀ m', Fr1 162 mem m' → CanOK m' d k → (∃ t, WaT (WM mem 158) (-1000) (mem 160) d k t) → K 1 m') (H0 : ∀ m', Fr1 162 mem m' → (∀ t, ¬ WaT (WM mem 158) (-1000) (mem 160) d k t) → K 0 m') : CWI (Ex S (n + 2)) 274 [.inr 143, .inl (k : Int), .inl d] mem K := by
  have eW : ∀ m', Fr1 162 mem m' → WM m' 158 = WM mem 158 ∧ m' 160 = mem 160 := fun m' h => ⟨funext fun a => funext fun b => h 158 _ (by omega), funext fun o => h 160 o (by omega)⟩
  refine f_274c hk hd hW hs8 (fun m' h1 h2 => H1 m' h1 h2 ?_) (fun m' h1 h2 ⟨o, ho, hp⟩ => H0 m' h1 (fun t ht => ?_))
  · obtain ⟨e1, e2⟩ := eW m' h1
    obtain ⟨P, -, hP⟩ := can_pot hd hk.2 (by rw [e1]; exact hg) (fun o ho => by rw [e2]; exact hs o ho) h2
    refine ⟨P, ?_⟩
    have g := (ue_wa (by omega)).mp hP
    rw [e1, e2] at g
    exact g
  · obtain ⟨e1, e2⟩ := eW m' h1
    have g : PotE (UE m' k d) t := (ue_wa (by omega)).mpr (by rw [e1, e2]; exact ht)
    have := h2.2.2.2.1 t g o o ho ho (by omega)
    omega
def UsI (p : Prb) (m : MM) (j : Nat) : Prop := ∀ u k : Nat, u < 3 → k < 12 → m 159 (12 * u + k) = p.us (m 160) u k j
def FitI (p : Prb) (m : MM) (j : Nat) : Prop := ∀ u k : Int, 0 ≤ u → u < 3 → 0 ≤ k → k < p.d → p.us (m 160) u k j ≤ p.ct u.toNat
def LexI (p : Prb) (m : MM) (j : Nat) : Prop := ∀ v, Fsb p v → ∀ i, i < j → (∀ l, l < i → v l = m 160 l) → m 160 i ≤ v i
def LexS (p : Prb) (m : MM) (j : Nat) : Prop := ∀ v, Fsb p v → (∀ l, l < j → v l = m 160 l) → m 160 j < v j
theorem UsI.cg {p : Prb} {m m' : MM} {j : Nat} (h : UsI p m j) (e1 : ∀ i, m' 159 i = m 159 i) (e2 : ∀ o, o < j → m' 160 o = m 160 o) : UsI p m' j := fun u k hu hk => by
  rw [e1, h u k hu hk]
  exact (us_cg e2).symm
theorem FitI.cg {p : Prb} {m m' : MM} {j : Nat} (h : FitI p m j) (e2 : ∀ o, o < j → m' 160 o = m 160 o) : FitI p m' j := fun u k a b c e => by
  rw [us_cg e2]; exact h u k a b c e
theorem LexI.cg {p : Prb} {m m' : MM} {j : Nat} (h : LexI p m j) (e2 : ∀ o, o < j → m' 160 o = m 160 o) : LexI p m' j := fun v hv i hi hl => by
  rw [e2 i hi]
  exact h v hv i hi (fun l h2 => by rw [← e2 l (by omega)]; exact hl l h2)
theorem us_le_n {p : Prb} {s : Nat → Int} {u k : Int} {i j : Nat} (h : i ≤ j) : p.us s u k i ≤ p.us s u k j := usM_len j h
theorem fe_20 {m0 : MM} (hO : OpsOK m0) (hU : UnOK m0) (hB : ∀ k, k < 6 → 1 ≤ m0 152 k ∧ m0 152 k ≤ 15) (hd : 1 ≤ d ∧ d ≤ 12) (hR : WyW m0 d) {Kk : WK} (H1 : ∀ m', Fr3 m0 m' → SlOK m' → CanOK m' d (m0 143 1).toNat → LstP (RPb m0 d) (m' 160) → UsI (RPb m0 d) m' (m0 143 1).toNat → Kk (some 1) m') (H0 : ∀ m', Fr3 m0 m' → SlOK m' → (∀ v, ¬ Fsb (RPb m0 d) v) → Kk (some 0) m') : ∀ (N : Nat) (j : Nat) (mem : MM), (j : Int) < m0 143 1 → odo mem d (j + 1) < N → Fr3 m0 mem → SlOK mem → (∀ i, i < j → 0 ≤ mem 160 i ∧ mem 160 i ≤ d - 1) → -1 ≤ mem 160 j → mem 160 j ≤ d - 1 → (mem 160 j = -1 → UsI (RPb m0 d) mem j) → (¬ mem 160 j = -1 → UsI (RPb m0 d) mem (j + 1)) → FitI (RPb m0 d) mem j → LexI (RPb m0 d) mem j → LexS (RPb m0 d) mem j → Wx (Ex S (n + 2)) S M_269 Kk 20 [some (.inr 143), some (.inl d), some (.inl (j : Int))] [] mem := by
  have eun : ∀ m o, Fr3 m0 m → rUn m o = rUn m0 o := fun m o h => by
    unfold rUn; rw [h 144 o (by omega) (by omega) (by omega), h 150 _ (by omega) (by omega) (by omega)]
  have ebu : ∀ m o, Fr3 m0 m → rBu m o = rBu m0 o := fun m o h => by
    unfold rBu; rw [h 144 o (by omega) (by omega) (by omega), h 152 _ (by omega) (by omega) (by omega)]
  have bu15 : ∀ o, o < 8 → 0 ≤ rBu m0 o ∧ rBu m0 o ≤ 15 := fun o ho => by
    obtain ⟨h1, h2, -⟩ := hO.2.1 o ho
    have := hB (m0 144 o).toNat (by omega)
    unfold rBu
    omega
  have pn : (RPb m0 d).n = (m0 143 1).toNat := rfl
  have pd : (RPb m0 d).d = d := rfl
  intro N
  induction N with
  | zero => intros; omega
  | succ N ih =>
    intro j mem hj hNN hF hS hA hs1 hs2 hUa hUb hFit hLx hLs
    have h8 := hO.1
    have hj8 : 0 ≤ (j : Int) ∧ (j : Int) < 8 := by omega
    have hjn : j < 8 := by omega
    have pw : 1 ≤ 14 ^ (8 - j) := Nat.one_le_pow _ _ (by omega)
    have at51 : ∀ m, Fr1 159 mem m → UsI (RPb m0 d) m j → Wx (Ex S (n + 2)) S M_269 Kk 51 [some (.inr 143), some (.inl d), some (.inl (j : Int))] [] m := by
      intro m h59 hUs
      have hF2 := hF.tr h59.f59
      have e60 : ∀ i, m 160 i = mem 160 i := fun i => h59 _ _ (by omega)
      refine w_269_51 (Ex.mono S (n + 2)) ⟨hj8, fun v1 e1 _ => ?_⟩
      rw [Int.toNat_natCast, e60] at e1
      refine ⟨by unfold InI; omega, hj8, hj8, fun v2 e2 _ => ?_⟩
      rw [Int.toNat_natCast] at e2 ⊢
      rw [upm_eq] at e2
      have hF3 : Fr3 m0 (upm m 160 j (v1 + 1)) := hF2.tr Fr1.up.f60
      have q60 : ∀ i, upm m 160 j (v1 + 1) 160 i = if i = j then v1 + 1 else mem 160 i := fun i => by
        by_cases e : i = j
        · subst e; rw [upm_eq, if_pos rfl]
        · rw [upm_ne (fun z => e z.2), if_neg e, e60]
      have lo60 : ∀ i, i < j → upm m 160 j (v1 + 1) 160 i = mem 160 i := fun i hi => by rw [q60, if_neg (by omega)]
      have hUs3 : UsI (RPb m0 d) (upm m 160 j (v1 + 1)) j := hUs.cg (fun i => upm_ne (by omega)) (fun o ho => by rw [lo60 o ho, e60])
      have hS3 : SlOK (upm m 160 j (v1 + 1)) := fun o ho => by
        rw [q60]
        split
        · omega
        · exact hS o ho
      have hod : odo mem d (j + 1) = odo mem d j + (d - mem 160 j).toNat * 14 ^ (8 - j) := rfl
      have low : ∀ m', (∀ i, i < j → m' 160 i = mem 160 i) → odo m' d j = odo mem d j := fun m' h => odo_eq h
      refine ⟨fun q => ?_, fun q => ⟨fun q2 => ⟨by unfold InI; omega, ?_⟩, fun q2 => H0 _ hF3 hS3 (fun v hv => ?_)⟩⟩
      · refine ⟨hj8, fun v3 e3 _ => ?_⟩
        rw [upm_eq] at e3
        have rg3 : ∀ u k : Nat, u < 3 → k < 12 → -100 ≤ upm m 160 j (v1 + 1) 159 (12 * u + k) ∧ upm m 160 j (v1 + 1) 159 (12 * u + k) ≤ 100 := fun u k hu hk => by
          rw [hUs3 u k hu hk]
          have := us_rg (p := RPb m0 d) (s := upm m 160 j (v1 + 1) 160) (u := (u : Int)) (k := (k : Int)) (j := j)
          omega
        refine f_271e (hF3.ops hO) (hF3.un hU) hjn ⟨by omega, by omega⟩ hd (Or.inl rfl) (by rw [ebu _ _ hF3]; exact bu15 j hjn) rg3 (fun m4 k59 hC4 => ?_)
        have hF4 := hF3.tr k59.f59
        have q604 : ∀ i, m4 160 i = if i = j then v1 + 1 else mem 160 i := fun i => by rw [k59 160 i (by omega), q60]
        have lo604 : ∀ i, i < j → m4 160 i = mem 160 i := fun i hi => by rw [q604, if_neg (by omega)]
        have at604 : m4 160 j = v1 + 1 := by rw [q604, if_pos rfl]
        have hUs4 : UsI (RPb m0 d) m4 (j + 1) := fun u k hu hk => by
          rw [hC4 u k hu hk, hUs3 u k hu hk, Int.one_mul, us_st, eun _ _ hF3, ebu _ _ hF3, e3, at604, us_cg (s := m4 160) (s' := upm m 160 j (v1 + 1) 160) (fun o ho => k59 160 o (by omega))]
          rfl
        have hS4 : SlOK m4 := fun o ho => by rw [k59 160 o (by omega)]; exact hS3 o ho
        have stay : ∀ m5, Fr1 162 m4 m5 → (∀ v, Fsb (RPb m0 d) v → (∀ l, l < j → v l = mem 160 l) → ¬ v j = v1 + 1) → Wx (Ex S (n + 2)) S M_269 Kk 20 [some (.inr 143), some (.inl d), some (.inl (j : Int))] [] m5 := by
          intro m5 k62 hno
          have q605 : ∀ i, m5 160 i = if i = j then v1 + 1 else mem 160 i := fun i => by rw [k62 160 i (by omega), q604]
          have lo605 : ∀ i, i < j → m5 160 i = mem 160 i := fun i hi => by rw [q605, if_neg (by omega)]
          have at605 : m5 160 j = v1 + 1 := by rw [q605, if_pos rfl]
          refine ih j m5 hj ?_ (hF4.tr k62.f62) (fun o ho => by rw [k62 160 o (by omega)]; exact hS4 o ho) (fun i hi => by rw [lo605 i hi]; exact hA i hi) (by rw [at605]; omega) (by rw [at605]; omega) (fun z => by rw [at605] at z; omega) (fun _ => hUs4.cg (fun i => k62 159 i (by omega)) (fun o _ => k62 160 o (by omega))) (hFit.cg lo605) (hLx.cg lo605) (fun v hv hl => ?_)
          · have e5 : odo m5 d (j + 1) = odo m5 d j + (d - m5 160 j).toNat * 14 ^ (8 - j) := rfl
            have e6 := low m5 lo605
            have e7 : (d - m5 160 j).toNat + 1 = (d - mem 160 j).toNat := by rw [at605]; omega
            rw [← e7, Nat.add_mul, Nat.one_mul] at hod
            omega
          · have hl2 : ∀ l, l < j → v l = mem 160 l := fun l h2 => by rw [hl l h2, lo605 l h2]
            have := hLs v hv hl2
            have := hno v hv hl2
            rw [at605]
            omega
        have us4 : ∀ v : Nat → Int, (∀ l, l < j → v l = mem 160 l) → v j = v1 + 1 → ∀ o, o < j + 1 → v o = m4 160 o := fun v hl he o ho => by
          by_cases e : o = j
          · subst e; rw [he, at604]
          · rw [hl o (by omega), lo604 o (by omega)]
        refine f_264z (hF4.ops hO) (hF4.un hU) hjn (fun u1 u2 _ => f_273e ⟨u1, u2⟩ hd (fun ⟨k, k1, k2⟩ _ => ⟨fun _ => stay m4 Fr1.rf (fun v hv hl he => ?_), fun z => absurd (by decide) z⟩) (fun hfit _ => ⟨fun z => absurd rfl z, fun _ => ⟨by unfold InI; omega, ?_⟩⟩))
        · -- too much is asked
          have e1 := hUs4 (rUn m4 j).toNat k (by omega) (by omega)
          rw [us_cg (s := m4 160) (s' := v) (fun o ho => (us4 v hl he o ho).symm)] at e1
          have e2 := us_le_n (p := RPb m0 d) (s := v) (u := (((rUn m4 j).toNat : Nat) : Int)) (k := (k : Int)) (show j + 1 ≤ (m0 143 1).toNat by omega)
          have e3 := hv.2.1 (((rUn m4 j).toNat : Nat) : Int) (k : Int) (by omega) (by omega) (by omega) k1
          rw [hF4 153 _ (by omega) (by omega) (by omega)] at k2
          have e4 : (RPb m0 d).ct (((rUn m4 j).toNat : Nat) : Int).toNat = m0 153 (rUn m4 j).toNat := by rw [Int.toNat_natCast]; rfl
          rw [e4, pn] at e3
          omega
        have eo4 : m4 143 1 = m0 143 1 := hF4 _ _ (by omega) (by omega) (by omega)
        have eW4 : WM m4 158 = WM m0 158 := funext fun a => funext fun b => hF4 158 _ (by omega) (by omega) (by omega)
        have hA4 : ∀ i, i < j + 1 → 0 ≤ m4 160 i ∧ m4 160 i ≤ d - 1 := fun i hi => by
          rw [q604]
          split
          · omega
          · exact hA i (by omega)
        obtain ⟨φ, f1, f2⟩ := hR.2.1
        rw [show ((j : Int) + 1) = ((j + 1 : Nat) : Int) by omega]
        refine f_274t (k := j + 1) ⟨by omega, by omega⟩ hd (fun a b ha hb => by rw [eW4]; exact hR.1 a b (by omega) (by omega)) (by rw [eW4]; exact ⟨φ, f1, fun a b ha hb w => f2 a b (by omega) (by omega) w⟩) hS4 hA4 (fun m9 k62 hC ht _ => ⟨fun _ => ?_, fun z => absurd (by decide) z⟩) (fun m9 k62 hno _ => ⟨fun z => absurd rfl z, fun _ => stay m9 k62 (fun v hv hl he => ?_)⟩)
        · have hF9 := hF4.tr k62.f62
          have q609 : ∀ i, m9 160 i = m4 160 i := fun i => k62 160 i (by omega)
          have lo609 : ∀ i, i < j → m9 160 i = mem 160 i := fun i hi => by rw [q609, lo604 i hi]
          have at609 : m9 160 j = v1 + 1 := by rw [q609, at604]
          have hS9 : SlOK m9 := fun o ho => by rw [q609]; exact hS4 o ho
          have hA9 : ∀ i, i < j + 1 → 0 ≤ m9 160 i ∧ m9 160 i ≤ d - 1 := fun i hi => by rw [q609]; exact hA4 i hi
          have hUs9 : UsI (RPb m0 d) m9 (j + 1) := hUs4.cg (fun i => k62 159 i (by omega)) (fun o _ => q609 o)
          have eo9 : m9 143 1 = m0 143 1 := hF9 _ _ (by omega) (by omega) (by omega)
          have fit9 : FitI (RPb m0 d) m9 (j + 1) := fun u k a b c e => by
            by_cases z : rUn m0 j = u
            · have w := hfit k.toNat (by rw [pd] at e; omega)
              rw [hUs4 (rUn m4 j).toNat k.toNat (by omega) (by rw [pd] at e; omega), hF4 153 _ (by omega) (by omega) (by omega), show (((rUn m4 j).toNat : Nat) : Int) = u by rw [eun _ _ hF4] at u1 ⊢; omega, show ((k.toNat : Nat) : Int) = k by omega, show (rUn m4 j).toNat = u.toNat by rw [eun _ _ hF4, z]] at w
              rw [us_cg (s := m9 160) (s' := m4 160) (fun o _ => q609 o)]
              exact w
            · rw [us_st, cIf.n (show ¬ (RPb m0 d).un j = u from z), Int.add_zero, us_cg (s := m9 160) (s' := mem 160) lo609]
              exact hFit u k a b c e
          have lx9 : LexI (RPb m0 d) m9 (j + 1) := fun v hv i hi hl => by
            by_cases e : i = j
            · subst e
              have := hLs v hv (fun l h2 => by rw [hl l h2, lo609 l h2])
              rw [at609]
              omega
            · exact (hLx.cg lo609) v hv i (by omega) hl
          refine ⟨by unfold InI; omega, fun v11 e11 _ => ⟨fun z => ?_, fun z => ⟨by omega, ?_⟩⟩⟩
          · have e11 : v11 = m0 143 1 := by rw [e11]; exact hF9 _ _ (by omega) (by omega) (by omega)
            have en : (m0 143 1).toNat = j + 1 := by omega
            refine w_269_20 (Ex.mono S (n + 2)) (fun v e _ => ⟨fun _ => H1 m9 hF9 hS9 ?_ ⟨⟨fun o ho => ?_, ?_, ?_⟩, fun v hv i hi hl => lx9 v hv i (by rw [pn] at hi; omega) hl⟩ (by rw [en]; exact hUs9), fun z2 => ?_⟩)
            · rw [en]; exact hC
            · have := hA9 o (by rw [pn] at ho; omega)
              rw [pd]
              omega
            · intro u k a b c e
              rw [pn, en]
              exact fit9 u k a b c e
            · obtain ⟨t, ht⟩ := ht
              refine ⟨t, fun a b x hx => ?_⟩
              obtain ⟨v, g1, g2⟩ := hR.2.2.1 a b x hx
              have g3 := ht a b (by omega) (by omega) (by rw [eW4]; exact g1)
              rw [eW4] at g3
              rw [q609, q609, pd]
              omega
            · have e : v = m0 143 1 := by rw [e]; exact hF9 _ _ (by omega) (by omega) (by omega)
              omega
          · have e11 : v11 = m0 143 1 := by rw [e11]; exact hF9 _ _ (by omega) (by omega) (by omega)
            rw [Int.toNat_natCast]
            have q6 : ∀ i, ¬ i = j + 1 → upm m9 160 (j + 1) (-1) 160 i = m9 160 i := fun i e => upm_ne (fun z => e z.2)
            have q61 : upm m9 160 (j + 1) (-1) 160 (j + 1) = -1 := upm_eq
            refine ih (j + 1) _ (by omega) ?_ (hF9.tr Fr1.up.f60) (fun o ho => ?_) (fun i hi => by rw [q6 i (by omega)]; exact hA9 i hi) (by rw [q61]; omega) (by rw [q61]; omega) (fun _ => hUs9.cg (fun i => upm_ne (by omega)) (fun o ho => q6 o (by omega))) (fun z => absurd q61 z) (fit9.cg (fun o ho => q6 o (by omega))) (lx9.cg (fun o ho => q6 o (by omega))) (fun v hv _ => ?_)
            · have e5 : odo (upm m9 160 (j + 1) (-1)) d (j + 1 + 1) = odo (upm m9 160 (j + 1) (-1)) d j + (d - upm m9 160 (j + 1) (-1) 160 j).toNat * 14 ^ (8 - j) + (d - upm m9 160 (j + 1) (-1) 160 (j + 1)).toNat * 14 ^ (8 - (j + 1)) := rfl
              have e6 := low (upm m9 160 (j + 1) (-1)) (fun i hi => by rw [q6 i (by omega), lo609 i hi])
              have e7 : (d - upm m9 160 (j + 1) (-1) 160 j).toNat + 1 = (d - mem 160 j).toNat := by rw [q6 j (by omega), at609]; omega
              have e8 : (d - upm m9 160 (j + 1) (-1) 160 (j + 1)).toNat ≤ 13 := by rw [q61]; omega
              have e9 : 14 ^ (8 - j) = 14 ^ (8 - (j + 1)) * 14 := by rw [show 8 - j = (8 - (j + 1)) + 1 by omega, Nat.pow_succ]
              have e10 := Nat.mul_le_mul_right (14 ^ (8 - (j + 1))) e8
              have p2 : 1 ≤ 14 ^ (8 - (j + 1)) := Nat.one_le_pow _ _ (by omega)
              rw [← e7, Nat.add_mul, Nat.one_mul] at hod
              omega
            · by_cases e : o = j + 1
              · rw [e, q61]; omega
              · rw [q6 o e]; exact hS9 o ho
            · rw [q61]
              have := hv.1 (j + 1) (by rw [pn]; omega)
              omega
        · -- no turns
          obtain ⟨-, -, t, ht⟩ := id hv
          have g := hR.2.2.2 v t ht
          exact hno t (fun a b ha hb w => by
            rw [eW4] at w ⊢
            rw [← us4 v hl he a ha, ← us4 v hl he b hb]
            exact g a b (by omega) (by omega) w)
      · rw [show (j : Int) + -1 = ((j - 1 : Nat) : Int) by omega]
        have hA1 := hA (j - 1) (by omega)
        have l1 : ∀ i, i < j → upm m 160 j (v1 + 1) 160 i = mem 160 i := lo60
        refine ih (j - 1) _ (by omega) ?_ hF3 hS3 (fun i hi => by rw [l1 i (by omega)]; exact hA i (by omega)) (by rw [l1 _ (by omega)]; omega) (by rw [l1 _ (by omega)]; omega) (fun z => by rw [l1 _ (by omega)] at z; omega) (fun _ => by rw [show j - 1 + 1 = j by omega]; exact hUs3) (fun u k a b c e => ?_) (fun v hv i hi hl => ?_) (fun v hv hl => ?_)
        · have e6 := low (upm m 160 j (v1 + 1)) l1
          rw [show j - 1 + 1 = j by omega, e6]
          have e7 : (d - mem 160 j).toNat = 1 := by omega
          rw [e7, Nat.one_mul] at hod
          omega
        · have w := hFit u k a b c e
          rw [us_cg (s := upm m 160 j (v1 + 1) 160) (s' := mem 160) (fun o ho => l1 o (by omega))]
          exact Int.le_trans (us_le_n (by omega)) w
        · exact (hLx.cg l1) v hv i (by omega) hl
        · have w := (hLx.cg l1) v hv (j - 1) (by omega) hl
          by_cases e : v (j - 1) = mem 160 (j - 1)
          · have w2 := hLs v hv (fun l h2 => by
              by_cases e2 : l = j - 1
              · rw [e2]; exact e
              · rw [hl l (by omega)]; exact l1 l h2)
            have r := hv.1 j (by rw [pn]; omega)
            rw [pd] at r
            omega
          · rw [l1 _ (by omega)] at w ⊢
            omega
      · have w := hLs v hv (fun l h2 => by omega)
        have r := hv.1 j (by rw [pn]; omega)
        rw [pd] at r
        omega
    refine w_269_20 (Ex.mono S (n + 2)) (fun v e _ => ⟨fun q => ?_, fun q => ⟨hj8, fun v2 e2 _ => ⟨fun q2 => at51 mem Fr1.rf (hUa ?_), fun q2 => ⟨hj8, fun v3 e3 _ => ?_⟩⟩⟩⟩)
    · have e : v = m0 143 1 := by rw [e]; exact hF _ _ (by omega) (by omega) (by omega)
      omega
    · rw [Int.toNat_natCast] at e2
      omega
    · rw [Int.toNat_natCast] at e2 e3
      have hUs := hUb (by omega)
      refine f_271e (hF.ops hO) (hF.un hU) hjn ⟨by omega, by omega⟩ hd (Or.inr rfl) (by rw [ebu _ _ hF]; exact bu15 j hjn) (fun u k hu hk => ?_) (fun m4 k59 hC4 => at51 m4 k59 (fun u k hu hk => ?_))
      · rw [hUs u k hu hk]
        have := us_rg (p := RPb m0 d) (s := mem 160) (u := (u : Int)) (k := (k : Int)) (j := j + 1)
        omega
      · rw [hC4 u k hu hk, hUs u k hu hk, us_st, eun _ _ hF, ebu _ _ hF, e3, us_cg (s := m4 160) (s' := mem 160) (fun o _ => k59 160 o (by omega))]
        show _ + cIf (rUn m0 j = (u : Int)) (us1 d (mem 160 j) (rBu m0 j) k) 0 + _ = _
        omega
end RSL
end
section
/-! findsSlots, laysTimes, fitsBy of the reference, exactly -/
section RFT
variable {S : Nat × (Nat → Int32)} {n : Nat} {mem : MM} {d : Int}
theorem f_270e {K : MM → Prop} (H : ∀ m', Fr1 159 mem m' → (∀ i, i < 36 → m' 159 i = 0) → K m') : CWV (Ex S (n + 1)) 270 [.inr 143] mem K := by
  refine CW.of (k := 1) mt_270 rfl rfl (w_270_0 (Ex.mono S n) ?_)
  have key : ∀ (N : Nat) (k : Nat) (m : MM), k ≤ 36 → 36 - k < N → Fr1 159 mem m → (∀ i, i < k → m 159 i = 0) → Wx (Ex S n) S M_270 (fun r m => r = none ∧ K m) 2 [some (.inr 143), some (.inl (k : Int))] [] m := by
    intro N
    induction N with
    | zero => intros; omega
    | succ N ih =>
      intro k m hk hN hF hA
      refine w_270_2 (Ex.mono S n) ⟨fun q => ⟨rfl, H m hF (fun i hi => hA i (by omega))⟩, fun q => ⟨by omega, by unfold InI; omega, ih (k + 1) _ (by omega) (by omega) (hF.tr Fr1.up) (fun i hi => ?_)⟩⟩
      rw [Int.toNat_natCast]
      by_cases e : i = k
      · subst e; exact upm_eq
      · rw [upm_ne (fun z => e z.2)]; exact hA i (by omega)
  exact key 37 0 mem (by omega) (by omega) Fr1.rf (fun i hi => by omega)
theorem f_269e {K : Int → MM → Prop} (hO : OpsOK mem) (hU : UnOK mem) (hB : ∀ k, k < 6 → 1 ≤ mem 152 k ∧ mem 152 k ≤ 15) (hC : ∀ k, k < 3 → 1 ≤ mem 153 k ∧ mem 153 k ≤ 3) (hSl : SlOK mem) (hd : 1 ≤ d ∧ d ≤ 12) (hR : WyW mem d) (H1 : ∀ m', Fr3 mem m' → SlOK m' → CanOK m' d (mem 143 1).toNat → LstP (RPb mem d) (m' 160) → UsI (RPb mem d) m' (mem 143 1).toNat → K 1 m') (H0 : ∀ m', Fr3 mem m' → SlOK m' → (∀ v, ¬ Fsb (RPb mem d) v) → K 0 m') : CWI (Ex S (n + 3)) 269 [.inr 143, .inl d] mem K := by
  refine CW.of (k := 1) mt_269 rfl rfl (w_269_0 (Ex.mono S (n + 2)) (f_270e (fun m1 k59 hZ v2 e2 _ => ?_)))
  have h8 := hO.1
  have hF := k59.f59
  have e2 : v2 = mem 143 1 := by rw [e2]; exact k59 _ _ (by omega)
  have hS1 : SlOK m1 := fun o ho => by rw [k59 160 o (by omega)]; exact hSl o ho
  have pn : (RPb mem d).n = (mem 143 1).toNat := rfl
  refine ⟨fun q => ?_, fun q => ⟨by omega, ?_⟩⟩
  · have e0 : (mem 143 1).toNat = 0 := by omega
    refine w_269_20 (Ex.mono S (n + 2)) (fun v e _ => ⟨fun _ => ⟨_, rfl, H1 m1 hF hS1 ?_ ⟨⟨fun o ho => ?_, fun u k a b c e => ?_, fun _ => 0, fun a b x hx => ?_⟩, fun v _ j hj => ?_⟩ (by
      rw [e0]
      intro u k hu hk
      rw [hZ _ (by omega)]
      rfl)⟩, fun z2 => ?_⟩)
    · rw [e0]; exact can0 _ _
    · rw [pn] at ho; omega
    · rw [pn, e0]
      have := hC u.toNat (by omega)
      show (0 : Int) ≤ mem 153 u.toNat
      omega
    · have := hR.2.2.1 a b x hx
      omega
    · rw [pn] at hj; omega
    · have e : v = mem 143 1 := by rw [e]; exact k59 _ _ (by omega)
      omega
  · have z0 : upm m1 160 (0 : Int).toNat (-1) 160 0 = -1 := upm_eq
    have z59 : ∀ i, upm m1 160 (0 : Int).toNat (-1) 159 i = m1 159 i := fun i => upm_ne (by omega)
    refine fe_20 hO hU hB hd hR (fun m' a b c e f => ⟨_, rfl, H1 m' a b c e f⟩) (fun m' a b c => ⟨_, rfl, H0 m' a b c⟩) _ 0 _ (by omega) (Nat.lt_succ_self _) (hF.tr Fr1.up.f60) (fun o ho => ?_) (fun i hi => by omega) (by rw [z0]; omega) (by rw [z0]; omega) (fun _ u k hu hk => ?_) (fun z => absurd z0 z) (fun u k a b c e => ?_) (fun v _ i hi => by omega) (fun v hv _ => ?_)
    · by_cases e : o = 0
      · rw [e, z0]; omega
      · rw [upm_ne (fun z => e (by omega))]; exact hS1 o ho
    · rw [z59, hZ _ (by omega)]
      rfl
    · have := hC u.toNat (by omega)
      show (0 : Int) ≤ mem 153 u.toNat
      omega
    · rw [z0]
      have := hv.1 0 (by rw [pn]; omega)
      omega
theorem lt_38e {m0 : MM} (hN : NdsOK m0) (hd : 1 ≤ d ∧ d ≤ 12) (hL : m0 143 18 = -1) (hs : ∀ o : Nat, (o : Int) < m0 143 1 → 0 ≤ m0 160 o ∧ m0 160 o ≤ d - 1) {P : Nat → Int} (hP1 : ∀ b, 0 ≤ P b ∧ d * P b ≤ 42 + 8 * (d - 1)) (hP2 : TmP (RPb m0 d) (m0 160) (fun o => m0 160 o + d * P o)) {Kk : WK} (H : ∀ m', Fr1 161 m0 m' → TmL (RPb m0 d) (m0 160) (m' 161) → (∀ o : Nat, (o : Int) < m0 143 1 → 0 ≤ m' 161 o ∧ m' 161 o ≤ 42 + 9 * (d - 1)) → Kk none m') : ∀ (N : Nat) (more : Int) (k : Nat) (mem : MM) (T : Nat → Int), (more = 0 ∨ more = 1) → (k : Int) ≤ m0 143 12 → 200 * smN (fun o => (P o - T o).toNat) (m0 143 1).toNat + 100 * more.toNat + (49 - k) < N → Fr1 161 m0 mem → (∀ o : Nat, (o : Int) < m0 143 1 → mem 161 o = m0 160 o + d * T o ∧ 0 ≤ T o) → (∀ T', TmP (RPb m0 d) (m0 160) T' → ∀ o : Nat, (o : Int) < m0 143 1 → mem 161 o ≤ T' o) → (more = 0 → ∀ j : Nat, j < k → mem 161 (m0 154 j).toNat + (m0 157 j - d * m0 156 j) ≤ mem 161 (m0 155 j).toNat) → Wx (Ex S (n + 1)) S M_276 Kk 38 [some (.inr 143), some (.inl d), some (.inl more), some (.inl (k : Int)), none] [] mem := by
  have pn : (RPb m0 d).n = (m0 143 1).toNat := rfl
  have pd : (RPb m0 d).d = d := rfl
  intro N
  induction N with
  | zero => intros; omega
  | succ N ih =>
    intro more k mem T hm hk hNN hF hT hLe hH
    have h8 := hN.1
    have h48 := hN.2.1
    have hd0 : 0 < d := by omega
    have en : mem 143 12 = m0 143 12 := hF _ _ (by omega)
    have tP : ∀ o : Nat, (o : Int) < m0 143 1 → T o ≤ P o := fun o ho => by
      have w : mem 161 o ≤ m0 160 o + d * P o := hLe _ hP2 o ho
      rw [(hT o ho).1] at w
      exact Int.le_of_mul_le_mul_left (show d * T o ≤ d * P o by omega) hd0
    have bnd : ∀ o : Nat, (o : Int) < m0 143 1 → 0 ≤ mem 161 o ∧ mem 161 o ≤ 42 + 9 * (d - 1) := by
      intro o ho
      obtain ⟨t1, t2⟩ := hT o ho
      have := hs o ho
      have := (hP1 o).2
      have := Int.mul_nonneg (show 0 ≤ d by omega) t2
      have := Int.mul_le_mul_of_nonneg_left (tP o ho) (show 0 ≤ d by omega)
      omega
    refine w_276_38 (Ex.mono S (n + 1)) (fun v e _ => ⟨fun q => ?_, fun q => ?_⟩)
    · refine w_276_30 (Ex.mono S (n + 1)) ⟨fun q2 => H mem hF ⟨⟨fun o ho => ?_, fun a b x hx => ?_⟩, fun T' hT' o ho => hLe T' hT' o (by rw [pn] at ho; omega)⟩ bnd, fun q2 => ?_⟩
      · obtain ⟨t1, t2⟩ := hT o (by rw [pn] at ho; omega)
        exact ⟨T o, t2, t1⟩
      · obtain ⟨j, j1, j2, j3, j4⟩ := hx
        have w := hH q2 j (by omega)
        have j2 : m0 154 j = (a : Int) := j2
        have j3 : m0 155 j = (b : Int) := j3
        have j4 : x = m0 157 j - d * m0 156 j := j4
        rw [j2, j3, Int.toNat_natCast, Int.toNat_natCast] at w
        rw [j4]
        exact w
      · have : more = 1 := by omega
        subst this
        exact ih 0 0 mem T (Or.inl rfl) (by omega) (by omega) hF hT hLe (fun _ j hj => by omega)
    · have hk48 : 0 ≤ (k : Int) ∧ (k : Int) < 48 := by omega
      obtain ⟨p1, p2, p3, p4, p5, p6, p7, p8, p9⟩ := hN.2.2 k (by omega)
      have f4 : mem 154 k = m0 154 k := hF _ _ (by omega)
      have f5 : mem 155 k = m0 155 k := hF _ _ (by omega)
      have f6 : mem 156 k = m0 156 k := hF _ _ (by omega)
      have f7 : mem 157 k = m0 157 k := hF _ _ (by omega)
      have dm := dmul (d := d) ⟨by omega, by omega⟩ ⟨p5, p6⟩
      obtain ⟨a, ha⟩ : ∃ a : Nat, m0 154 k = a := ⟨(m0 154 k).toNat, by omega⟩
      obtain ⟨b, hb⟩ : ∃ b : Nat, m0 155 k = b := ⟨(m0 155 k).toNat, by omega⟩
      have ba := bnd a (by omega)
      have bb := bnd b (by omega)
      have hedge : (RPb m0 d).E a b (m0 157 k - d * m0 156 k) := ⟨k, by omega, ha, hb, rfl⟩
      refine ⟨hk48, fun v2 e2 _ => ?_⟩
      rw [Int.toNat_natCast, f4, ha] at e2
      refine ⟨by omega, fun v3 e3 _ => ?_⟩
      rw [e2, Int.toNat_natCast] at e3
      refine ⟨hk48, fun v4 e4 _ => ?_⟩
      rw [Int.toNat_natCast, f7] at e4
      refine ⟨by unfold InI; omega, hk48, fun v5 e5 _ => ?_⟩
      rw [Int.toNat_natCast, f6] at e5
      subst e5
      refine ⟨by unfold InI; omega, by unfold InI; omega, hk48, fun v6 e6 _ => ?_⟩
      rw [Int.toNat_natCast, f5, hb] at e6
      refine ⟨by omega, fun v7 e7 _ => ?_⟩
      rw [e6, Int.toNat_natCast] at e7
      refine ⟨by unfold InI; omega, fun q2 => ?_, fun q2 => ⟨by unfold InI; omega, ih more (k + 1) mem T hm (by omega) (by omega) hF hT hLe (fun z j hj => ?_)⟩⟩
      · refine ⟨hk48, fun v8 e8 _ => ?_⟩
        rw [Int.toNat_natCast, f5, hb] at e8
        subst e8
        refine ⟨by omega, fun v9 e9 _ => ?_⟩
        rw [Int.toNat_natCast] at e9
        refine f_275 ⟨by omega, by omega⟩ ⟨by omega, by omega⟩ (fun c c1 c2 _ => ?_)
        obtain ⟨ta1, ta2⟩ := hT a (by omega)
        obtain ⟨tb1, tb2⟩ := hT b (by omega)
        have hc1 : 1 ≤ c := by
          by_cases h : 1 ≤ c
          · exact h
          · have := Int.mul_le_mul_of_nonneg_left (show c ≤ 0 by omega) (show 0 ≤ d by omega)
            rw [Int.mul_zero] at this
            omega
        have least : ∀ T', TmP (RPb m0 d) (m0 160) T' → mem 161 b + d * c ≤ T' b := by
          intro T' hT'
          have l1 := hLe T' hT' a (by omega)
          have l2 := hT'.2 a b _ hedge
          obtain ⟨t, t0, t1⟩ := hT'.1 b (by rw [pn]; omega)
          rw [pd] at t1
          have g := ceil1 (d := d) (x := c) (y := t - T b) hd0 c1 (by rw [Int.mul_sub]; omega)
          have := Int.mul_le_mul_of_nonneg_left g (show 0 ≤ d by omega)
          rw [Int.mul_sub] at this
          omega
        have hTP : T b + c ≤ P b := by
          have w : mem 161 b + d * c ≤ m0 160 b + d * P b := least _ hP2
          rw [tb1] at w
          exact Int.le_of_mul_le_mul_left (show d * (T b + c) ≤ d * P b by rw [Int.mul_add]; omega) hd0
        have dP := Int.mul_le_mul_of_nonneg_left hTP (show 0 ≤ d by omega)
        have dP2 := (hP1 b).2
        have dTb := Int.mul_nonneg (show 0 ≤ d by omega) tb2
        have dc := Int.mul_nonneg (show 0 ≤ d by omega) (show 0 ≤ c by omega)
        rw [Int.mul_add] at dP
        refine ⟨by unfold InI; omega, by unfold InI; omega, by omega, by unfold InI; omega, ?_⟩
        rw [Int.toNat_natCast]
        refine ih 1 (k + 1) _ (fun o => if o = b then T b + c else T o) (Or.inr rfl) (by omega) ?_ (hF.tr Fr1.up) (fun o ho => ?_) (fun T' hT' o ho => ?_) (fun z => by omega)
        · have hdec : ∀ j, smN (fun o => (P o - (if o = b then T b + c else T o)).toNat) j ≤ smN (fun o => (P o - T o).toNat) j ∧ (b < j → smN (fun o => (P o - (if o = b then T b + c else T o)).toNat) j < smN (fun o => (P o - T o).toNat) j) := by
            intro j
            induction j with
            | zero => exact ⟨Nat.le_refl _, fun q => by omega⟩
            | succ j ihj =>
              simp only [smN]
              by_cases e : j = b
              · subst e
                rw [if_pos rfl]
                exact ⟨by omega, fun _ => by omega⟩
              · rw [if_neg e]
                exact ⟨by omega, fun q => by have := ihj.2 (by omega); omega⟩
          have := (hdec (m0 143 1).toNat).2 (by omega)
          have m1 : more.toNat ≤ 1 := by omega
          show 200 * smN (fun o => (P o - (if o = b then T b + c else T o)).toNat) (m0 143 1).toNat + 100 * 1 + (49 - (k + 1)) < N
          omega
        · by_cases e : o = b
          · subst e
            rw [if_pos rfl]
            refine ⟨?_, by omega⟩
            rw [upm_eq, Int.mul_add]
            omega
          · rw [if_neg e, upm_ne (fun z => e z.2)]
            exact hT o ho
        · by_cases e : o = b
          · subst e
            have := least T' hT'
            rw [upm_eq]
            omega
          · rw [upm_ne (fun z => e z.2)]
            exact hLe T' hT' o ho
      · by_cases e : j = k
        · subst e
          rw [ha, hb, Int.toNat_natCast, Int.toNat_natCast]
          omega
        · exact hH z j (by omega)
theorem f_276e {K : MM → Prop} (hN : NdsOK mem) (hd : 1 ≤ d ∧ d ≤ 12) (hL : mem 143 18 = -1) (hR : WyW mem d) (hC : CanOK mem d (mem 143 1).toNat) (hs : ∀ o : Nat, (o : Int) < mem 143 1 → 0 ≤ mem 160 o ∧ mem 160 o ≤ d - 1) (H : ∀ m', Fr1 161 mem m' → TmL (RPb mem d) (mem 160) (m' 161) → (∀ o : Nat, (o : Int) < mem 143 1 → 0 ≤ m' 161 o ∧ m' 161 o ≤ 42 + 9 * (d - 1)) → K m') : CWV (Ex S (n + 2)) 276 [.inr 143, .inl d] mem K := by
  have h8 := hN.1
  obtain ⟨P, hP1, hP2⟩ := can_pot hd (by omega) hR.2.1 (fun o ho => hs o (by omega)) hC
  have hP2 := (ue_wa (by omega)).mp hP2
  have pn : (RPb mem d).n = (mem 143 1).toNat := rfl
  have hP3 : TmP (RPb mem d) (mem 160) (fun o => mem 160 o + d * P o) := ⟨fun o _ => ⟨P o, (hP1 o).1, rfl⟩, fun a b x hx => by
    obtain ⟨v, g1, g2⟩ := hR.2.2.1 a b x hx
    have := hP2 a b v.1 v.2 g1
    show mem 160 a + d * P a + x ≤ mem 160 b + d * P b
    omega⟩
  refine CW.of (k := 3) mt_276 rfl rfl (w_276_0 (Ex.mono S (n + 1)) ?_)
  have key : ∀ (N : Nat) (k : Nat) (m : MM), (k : Int) ≤ mem 143 1 → mem 143 1 - k < N → Fr1 161 mem m → (∀ o : Nat, o < k → m 161 o = mem 160 o) → Wx (Ex S (n + 1)) S M_276 (fun r m => r = none ∧ K m) 2 [some (.inr 143), some (.inl d), some (.inl (k : Int)), none, none] [] m := by
    intro N
    induction N with
    | zero => intros; omega
    | succ N ih =>
      intro k m hk hNN hF hA
      have eo : m 143 1 = mem 143 1 := hF _ _ (by omega)
      refine w_276_2 (Ex.mono S (n + 1)) (fun v e _ => ⟨fun q => ?_, fun q => ⟨by omega, fun v2 e2 _ => ⟨by omega, by unfold InI; omega, ?_⟩⟩⟩)
      · refine w_276_30 (Ex.mono S (n + 1)) ⟨fun q2 => by omega, fun q2 => ?_⟩
        refine lt_38e hN hd hL hs hP1 hP3 (fun m' h1 h2 h3 => ⟨rfl, H m' h1 h2 h3⟩) _ 0 0 m (fun _ => 0) (Or.inl rfl) (by have := hN.2.1; omega) (Nat.lt_succ_self _) hF (fun o ho => ⟨?_, by omega⟩) (fun T' hT' o ho => ?_) (fun _ j hj => by omega)
        · rw [hA o (by omega), Int.mul_zero, Int.add_zero]
        · obtain ⟨t, t0, t1⟩ := hT'.1 o (by rw [pn]; omega)
          have := Int.mul_nonneg (show 0 ≤ d by omega) t0
          have pd : (RPb mem d).d = d := rfl
          rw [pd] at t1
          rw [hA o (by omega)]
          omega
      · rw [Int.toNat_natCast] at e2 ⊢
        refine ih (k + 1) _ (by omega) (by omega) (hF.tr Fr1.up) (fun o ho => ?_)
        by_cases e3 : o = k
        · subst e3
          rw [upm_eq, e2]; exact hF _ _ (by omega)
        · rw [upm_ne (fun z => e3 z.2)]; exact hA o (by omega)
  exact key 9 0 mem (by omega) (by omega) Fr1.rf (fun o ho => by omega)
theorem NdRd.nup {m m1 : MM} {r : Int} (hw : NdRd m m1 r) (h1 : RefOK m1) (hr : r ≤ d) : NoUp (EdQ (rq m1) (m1 143 12).toNat d) := by
  have hN := hw.1
  have c := hw.2.2.2.1
  rw [NdE.q h1.lo hN.2.1.1] at c
  exact NoUp.mono (by have := hN.1; omega) hN.v c hr
theorem Fr3.rq {m m' : MM} (h : Fr3 m m') : RPb m' d = RPb m d := RPb.cg (fun A i q => h A i (by omega) (by omega) (by omega))
theorem Fr1.rp {m m' : MM} (h : Fr1 161 m m') : RPb m' d = RPb m d := RPb.cg (fun A i q => h A i (by omega))
def FitR (m m' : MM) (d : Int) : Prop := SoundM m ∧ (∃ r, NdRd m m' r ∧ r ≤ d) ∧ WyW m' d ∧ LstP (RPb m' d) (m' 160) ∧ TmL (RPb m' d) (m' 160) (m' 161) ∧ (∀ o : Nat, (o : Int) < m' 143 1 → 0 ≤ m' 161 o ∧ m' 161 o ≤ 42 + 9 * (d - 1)) ∧ UsI (RPb m' d) m' (m' 143 1).toNat
def NoFR (m m' : MM) (d : Int) : Prop := NoM m m' d ∨ (SoundM m ∧ (∃ r, NdRd m m' r ∧ r ≤ d) ∧ ∀ v, ¬ Fsb (RPb m' d) v)
theorem NdRd.f3 {m m1 m2 : MM} {r : Int} (h : NdRd m m1 r) (e : ∀ A i, A = 143 ∨ (154 ≤ A ∧ A ≤ 157) → m2 A i = m1 A i) : NdRd m m2 r := by
  obtain ⟨w1, w2, w3, w4⟩ := h
  have er : rq m2 = rq m1 := funext fun i => by
    unfold rq
    rw [e 154 i (by omega), e 155 i (by omega), e 156 i (by omega), e 157 i (by omega)]
  have eE : NdE m2 = NdE m1 := funext fun d => by
    funext u v x
    unfold NdE
    have g5 : ∀ A i, A = 143 ∨ A = 154 ∨ A = 155 ∨ A = 156 ∨ A = 157 → m2 A i = m1 A i := fun A i q => e A i (by omega)
    simp only [g5 143 _ (by omega), g5 154 _ (by omega), g5 155 _ (by omega), g5 156 _ (by omega), g5 157 _ (by omega)]
  refine ⟨⟨by rw [e 143 1 (by omega)]; exact w1.1, by rw [e 143 12 (by omega)]; exact w1.2.1, fun j hj => ?_⟩, by rw [er, e 143 12 (by omega)]; exact w2, w3, by rw [eE]; exact w4⟩
  rw [e 143 12 (by omega)] at hj
  have p := w1.2.2 j hj
  rw [e 143 1 (by omega), e 154 j (by omega), e 155 j (by omega), e 156 j (by omega), e 157 j (by omega)]
  exact p
theorem WyW.cg {m m' : MM} (h : WyW m d) (e : ∀ A i, (A = 143 ∧ ¬ i = 0) ∨ (144 ≤ A ∧ A ≤ 158) → m' A i = m A i) : WyW m' d := by
  have e1 : RPb m' d = RPb m d := RPb.cg (fun A i q => e A i (by omega))
  have e2 : WM m' 158 = WM m 158 := funext fun a => funext fun b => e 158 _ (by omega)
  unfold WyW
  rw [e1, e2, e 143 1 (by omega)]
  exact h
theorem f_254t {K : Int → MM → Prop} (h : RefOK mem) (H1 : ∀ m', RefOK m' → FrQ mem m' → m' 143 0 = mem 143 0 → NoM mem m' d → K 1 m') (H0 : ∀ m', RefOK m' → FrQ mem m' → m' 143 0 = mem 143 0 → SoundM mem → (∃ r, NdRd mem m' r ∧ r ≤ d) → K 0 m') : CWI (Ex S (n + 4)) 254 [.inr 143, .inl d] mem K :=
  f_254e h.ops (fun m' k1 k2 q => H1 m' (k1.rest k2 h) k1.f.q (k1 143 0 (by omega) (by omega) (by omega) (by omega) (by omega) (by omega)) (by
    by_cases s : SoundM mem
    · obtain ⟨a, -, b, r, r0, c, e⟩ := q s
      exact Or.inr ⟨s, r, ⟨a, b, r0, c⟩, e⟩
    · exact Or.inl s)) (fun m' k1 k2 s a _ b ⟨r, r0, c, e⟩ => H0 m' (k1.rest k2 h) k1.f.q (k1 143 0 (by omega) (by omega) (by omega) (by omega) (by omega) (by omega)) s ⟨r, ⟨a, b, r0, c⟩, e⟩)
theorem f_268q {K : Int → MM → Prop} (h : RefOK mem) (hd : 1 ≤ d ∧ d ≤ 12) (H1 : ∀ m', RefOK m' → FrQ mem m' → m' 143 0 = mem 143 0 → FitR mem m' d → K 1 m') (H0 : ∀ m', RefOK m' → FrQ mem m' → m' 143 0 = mem 143 0 → NoFR mem m' d → K 0 m') : CWI (Ex S (n + 5)) 268 [.inr 143, .inl d] mem K := by
  refine CW.of (k := 0) mt_268 rfl rfl (w_268_0 (Ex.mono S (n + 4)) (f_254t h (fun m1 h1 k1 t1 hn _ => ⟨fun z => absurd z (by decide), fun _ => ⟨_, rfl, H0 m1 h1 k1 t1 (Or.inl hn)⟩⟩) (fun m1 h1 k1 t1 hs ⟨r, hw, hr⟩ _ => ⟨fun _ => ?_, fun z => absurd rfl z⟩)))
  refine f_256q (mem := mem) hd h1 hw hr (fun m2 h2 k2 w2 hW => ?_)
  have hR : WyW m2 d := WyW.mk w2.1 hd (w2.nup h2 hr) hW
  have q2 : FrQ mem m2 := k1.tr k2.w.f.q
  have t2 : m2 143 0 = mem 143 0 := (k2 143 0 (by omega)).trans t1
  refine f_269e h2.ops h2.un h2.bz h2.cn h2.sl hd hR (fun m3 k3 s3 c3 l3 us3 _ => ⟨fun _ => ?_, fun z => absurd (by decide) z⟩) (fun m3 k3 s3 no _ => ⟨fun z => absurd rfl z, fun _ => ⟨_, rfl, H0 m3 (k3.f.rest (RN.same (fun B i e => k3 B i (by omega) (by omega) (by omega)) (k3 _ _ (by omega) (by omega) (by omega))) s3 h2) (q2.tr k3.f.q) ((k3 143 0 (by omega) (by omega) (by omega)).trans t2) (Or.inr ⟨hs, ⟨r, w2.f3 (fun A i q => k3 A i (by omega) (by omega) (by omega)), hr⟩, by rw [k3.rq]; exact no⟩)⟩⟩)
  have h3 : RefOK m3 := k3.f.rest (RN.same (fun B i e => k3 B i (by omega) (by omega) (by omega)) (k3 _ _ (by omega) (by omega) (by omega))) s3 h2
  have w3 : NdRd mem m3 r := w2.f3 (fun A i q => k3 A i (by omega) (by omega) (by omega))
  have hR3 : WyW m3 d := hR.cg (fun A i q => k3 A i (by omega) (by omega) (by omega))
  have e1 : m3 143 1 = m2 143 1 := k3 _ _ (by omega) (by omega) (by omega)
  refine f_276e w3.1 hd h3.lo hR3 (by rw [e1]; exact c3) (fun o ho => ?_) (fun m4 k4 t4 b4 => ⟨_, rfl, H1 m4 (k4.t.rest (k4.rn (by omega)) (fun o ho => by rw [k4 160 o (by omega)]; exact s3 o ho) h3) ((q2.tr k3.f.q).tr k4.t.q) ((k4 143 0 (by omega)).trans ((k3 143 0 (by omega) (by omega) (by omega)).trans t2)) ⟨hs, ⟨r, w3.f3 (fun A i q => k4 A i (by omega)), hr⟩, hR3.cg (fun A i q => k4 A i (by omega)), ?_, ?_, ?_, ?_⟩⟩)
  · have := l3.1.1 o (by show o < (m2 143 1).toNat; omega)
    have pd : (RPb m2 d).d = d := rfl
    rw [pd] at this
    omega
  · have e : m4 160 = m3 160 := funext fun o => k4 160 o (by omega)
    rw [k4.rp, k3.rq, e]
    exact l3
  · have e : m4 160 = m3 160 := funext fun o => k4 160 o (by omega)
    rw [k4.rp, e]
    exact t4
  · intro o ho
    rw [k4 143 1 (by omega)] at ho
    exact b4 o ho
  · rw [k4.rp, k3.rq, k4 143 1 (by omega), e1]
    exact us3.cg (fun i => k4 159 i (by omega)) (fun o _ => k4 160 o (by omega))
end RFT
end
section
/-! laid by wip/hand/tg.py: fits, least, time, ring of the class, exactly -/
def NoD (m : MM) (d : Int) : Prop := d < upV (m 9 5) (m 9 6) ∨ ∀ v, ¬ Fsb (CPb m d) v
def NoC (m : MM) (d : Int) : Prop := ¬ SndX m ∨ (SndX m ∧ WbX m ∧ NoD m d)
def YsC (m : MM) (d : Int) : Prop := upV (m 9 5) (m 9 6) ≤ d ∧ ∃ v, Fsb (CPb m d) v
def FiT (m : MM) (d : Int) (s T : Nat → Int) : Prop := SndX m ∧ WbX m ∧ upV (m 9 5) (m 9 6) ≤ d ∧ LstP (CPb m d) s ∧ TmL (CPb m d) s T
def FiC (m : MM) (d : Int) (Q : Nat) : Prop := SndX m ∧ WbX m ∧ upV (m 9 5) (m 9 6) ≤ d ∧ ChX m d Q
theorem DrX.y {m : MM} {d : Int} {Q : Nat} (h : DrX m d Q) (q : ¬ m Q 1 = 0) : upV (m 9 5) (m 9 6) ≤ d ∧ ChX m d Q := by
  rcases h with h | h
  · exact absurd h.1 q
  · exact h.2
theorem DrX.n {m : MM} {d : Int} {Q : Nat} (h : DrX m d Q) (q : m Q 1 = 0) : NoD m d := by
  rcases h with h | h
  · exact h.2
  · have := h.1; omega
theorem DrX.r {m : MM} {d : Int} {Q : Nat} (h : DrX m d Q) : (m Q 1 = 1 ∧ YsC m d) ∨ (m Q 1 = 0 ∧ NoD m d) := by
  rcases h with h | h
  · exact Or.inr h
  · exact Or.inl ⟨h.1, h.2.1, _, h.2.2.2.1.1⟩
theorem FiC.t {m : MM} {d : Int} {Q : Nat} (h : FiC m d Q) : FiT m d (m (Q + 1)) (m (Q + 2)) := ⟨h.1, h.2.1, h.2.2.1, h.2.2.2.2.1, h.2.2.2.2.2.1⟩
theorem NoD.fr {m m' : MM} {d : Int} {Q : Nat} (h : NoD m d) (hF : Frm (p85 Q) m m') (hq : 38 ≤ Q) : NoD m' d := by
  unfold NoD
  rw [CPb.cg (fun A i q => hF A i (by unfold p85; omega)), hF 9 5 (by unfold p85; omega), hF 9 6 (by unfold p85; omega)]
  exact h
theorem f_115x {S : Nat × (Nat → Int32)} {n : Nat} {mem : MM} {K : Nat → MM → Prop} {E : Nat → MM → Prop} (hI : ClS mem) {d : Int} (H : ∀ Q m', ChSh Q → ClS m' → Frm pNb mem m' → 1 ≤ d ∧ d ≤ 12 → FiC m' d Q → K Q m') (HE0 : ¬ (1 ≤ d ∧ d ≤ 12) → E 0 mem) (HE1 : 1 ≤ d ∧ d ≤ 12 → ∀ m', ClS m' → Frm pNb mem m' → NoC m' d → E 1 m') : CQR (Ex S (n + 16)) 115 [.inr 0, .inl d] mem K E := by
  refine CY.of (k := 1) mt_115 rfl rfl (fun hv => ?_)
  have hC := Ex.mono S (n + 15)
  have ii_d : InI d := hv (.inl d) (by simp)
  unfold InI at ii_d
  clear hv
  show Tx (Ex S (n + 15)) S M_115 (kR K E) 0 0 0 [some (.inr 0), some (.inl d), none] [] mem
  refine Tx.iload_n hC te_115_0 rfl ?_
  refine Tx.statV hC te_115_1 (by decide) mt_74 (args := [.inl d]) (rest := []) (c' := 1) (s' := 6) rfl rfl rfl rfl rfl rfl rfl ?_
  refine f_74n (fun r1a => ?_) (fun r1n => HE0 r1n)
  refine Tx.aload_n hC te_115_4 rfl ?_
  refine Tx.virtV hC te_115_5 mt_69 (args := [.inr 0]) (rest := []) (c' := 2) (s' := 12) rfl rfl rfl rfl rfl rfl rfl rfl rfl rfl ?_
  refine f_69x hI (fun m5 r4R hF6 => ?_) (fun m5 r4C hF6 r4s => HE1 (by omega) _ r4C (Frm.rf.tr hF6) (Or.inl r4s))
  have r4w := r4R.1.w.2
  have hF6n : Frm pNb mem m5 := Frm.rf.tr hF6
  refine Tx.aload_n hC te_115_8 rfl ?_
  refine Tx.iload_n hC te_115_9 rfl ?_
  refine Tx.virtR hC te_115_10 mt_85 (args := [.inr 0, .inl d]) (rest := []) (c' := 2) (s' := 12) rfl rfl rfl rfl rfl rfl rfl rfl rfl rfl ?_
  refine f_85 r4R (by omega) (fun Q m8 hQ r7q r7R hF9 r7F r7X => ?_)
  have hq8 := hQ.rg
  have r7o := (r7R.1.ch Q hQ).1
  have hF9n : Frm pNb mem m8 := hF6n.tr hF9
  refine Tx.astore_n hC te_115_13 rfl ?_
  refine Tx.aload_n hC te_115_14 rfl ?_
  refine Tx.getI hC te_115_15 hQ.s0 rfl rfl (fun v10 v10e v10i => ?_)
  unfold InI at v10i
  refine Tx.ifc hC (t := 32) te_115_18 (by decide) (fun q11 => ?_) (fun q11 => ?_)
  · replace q11 : ¬ (v10 : Int) = 0 := q11
    refine Tx.aload_n hC te_115_32 rfl ?_
    exact Tx.aret hC te_115_33 rfl (show K Q m8 from H _ _ hQ r7R.cs hF9n (by omega) ⟨r7R.2.2.2.2, r7R.2.2.2.1, r7X.y (by omega)⟩)
  · replace q11 : ¬ (¬ (v10 : Int) = 0) := q11
    exact Tx.thr hC te_115_21 rfl rfl rfl rfl rfl (show E 1 m8 from HE1 (by omega) _ r7R.cs hF9n (Or.inr ⟨r7R.2.2.2.2, r7R.2.2.2.1, r7X.n (by omega)⟩))
end
section
/-! laid by wip/hand/tg.py: plan, life, alive, code, idle of the class, exactly -/
theorem smF_rg {f : Nat → Int} {c : Int} : ∀ n : Nat, (∀ i, i < n → 0 ≤ f i ∧ f i ≤ c) → 0 ≤ smF f n ∧ smF f n ≤ c * n
  | 0, _ => by
    show (0 : Int) ≤ 0 ∧ (0 : Int) ≤ c * ((0 : Nat) : Int)
    omega
  | n + 1, h => by
    have g := smF_rg n (fun i hi => h i (by omega))
    have k := h n (by omega)
    show 0 ≤ smF f n + f n ∧ smF f n + f n ≤ c * ((n + 1 : Nat) : Int)
    rw [show ((n + 1 : Nat) : Int) = (n : Int) + 1 by omega, Int.mul_add, Int.mul_one]
    omega
theorem ChX.rg {m : MM} {d : Int} {Q : Nat} (h : ChX m d Q) (hO : ChtOK m Q) (hB : BodyOK m) (hd : 1 ≤ d ∧ d ≤ 12) : (∀ o : Nat, (o : Int) < m 1 0 → (0 ≤ m (Q + 4) o ∧ m (Q + 4) o ≤ 12000) ∧ (0 ≤ m (Q + 5) o ∧ m (Q + 5) o ≤ 12000) ∧ (0 ≤ m (Q + 6) o ∧ m (Q + 6) o ≤ 12000)) ∧ (1 ≤ m Q 7 ∧ m Q 7 ≤ 12000) ∧ (0 ≤ m Q 6 ∧ m Q 6 ≤ 96000) ∧ (1 ≤ m Q 5 ∧ m Q 5 ≤ 11001) ∧ 0 ≤ m Q 4 ∧ m Q 4 ≤ 11010 := by
  obtain ⟨-, -, -, h3, h4, h5, hv, ⟨n1, n2, n3⟩, hp⟩ := h
  have h8 := hB.1
  have lv := hv.rg hO hB hd (by omega)
  have cp : ∀ o : Nat, (o : Int) < m 1 0 → 0 ≤ m (Q + 5) o ∧ m (Q + 5) o ≤ 12000 := fun o ho => by
    rw [n1 o ho]
    have l := lv o ho
    have u := upV_rg (a := m (Q + 4) o) (b := d) (by omega) l.1
    unfold cpF
    split <;> omega
  have mx := mxW_rg (f := m (Q + 5)) (c := 12000) (by omega) (m 1 0).toNat (fun i hi => (cp i (by omega)).2)
  have sm := smF_rg (f := m (Q + 5)) (c := 12000) (m 1 0).toNat (fun i hi => cp i (by omega))
  have s5 := mxW_rg (f := fun o => m (Q + 2) o / d) (c := 11000) (by omega) (m 1 0).toNat (fun i hi => by
    have t := (hO.2 i (by omega)).2.1
    have k : m (Q + 2) i / d ≤ m (Q + 2) i := Int.ediv_le_self _ t.1
    show m (Q + 2) i / d ≤ 11000
    omega)
  have s4 := mxW_rg (f := fun o => m (Q + 2) o + cLa m o) (c := 11010) (by omega) (m 1 0).toNat (fun i hi => by
    have t := (hO.2 i (by omega)).2.2
    have k := h3 i (by omega)
    show m (Q + 2) i + cLa m i ≤ 11010
    omega)
  refine ⟨fun o ho => ⟨lv o ho, cp o ho, ?_⟩, by omega, by omega, by omega, by omega⟩
  have c := cp o ho
  rcases hp o ho with w | w
  · omega
  · omega
end
section
/-! the reference's chart, exactly -/
def cmR (m : MM) (o : Nat) : Int := m 161 o + latF m o
def spR (m : MM) : Int := mxW (cmR m) (m 143 1).toNat
def urR (m : MM) (d : Int) : Int := max 1 (mxW (fun o => copF m o d) (m 143 1).toNat)
section RCH
variable {S : Nat × (Nat → Int32)} {n : Nat} {mem : MM} {K : Int → MM → Prop} {d : Int}
theorem f_300e (hO : OpsOK mem) (hd : 1 ≤ d ∧ d ≤ 12) (hT : TmOK mem d) (H : K (spR mem) mem) : CWI (Ex S (n + 2)) 300 [.inr 143] mem K := by
  have h8 := hO.1
  have key : ∀ (N : Nat) (c : Int) (o : Nat), c = mxW (cmR mem) o → 0 ≤ c → c ≤ 147 → (o : Int) ≤ mem 143 1 → (mem 143 1 - o).toNat < N → Wx (Ex S (n + 1)) S M_300 (fun r m => ∃ y, r = some y ∧ K y m) 4 [some (.inr 143), some (.inl c), some (.inl (o : Int))] [] mem := by
    intro N
    induction N with
    | zero => intros; omega
    | succ N ih =>
      intro c o he hc hc2 ho2 hN
      refine w_300_4 (Ex.mono S (n + 1)) (fun v1 e1 _ => ⟨fun q _ => ⟨_, rfl, ?_⟩, fun q => ⟨by omega, fun v2 e2 _ => f_246 hO ⟨by omega, by omega⟩ (fun _ => ?_)⟩⟩)
      · have eo : o = (mem 143 1).toNat := by omega
        rw [he, eo]; exact H
      · rw [Int.toNat_natCast] at e2 ⊢
        have hl := hO.lat (o := o) (by omega)
        have ht := hT o (by omega)
        refine ⟨by unfold InI; omega, f_257 (fun _ _ => ⟨by unfold InI; omega, ih _ (o + 1) ?_ (by omega) (by omega) (by omega) (by omega)⟩)⟩
        show _ = max (mxW (cmR mem) o) (mem 161 o + latF mem o)
        rw [he, e2]
  exact CW.of (k := 2) mt_300 rfl rfl (w_300_0 (Ex.mono S (n + 1)) (key 9 0 0 rfl (by omega) (by omega) (by omega) (by omega)))
theorem f_296e (hO : OpsOK mem) (hT : TmOK mem d) (hd : 1 ≤ d ∧ d ≤ 12) (H : 1 ≤ urR mem d → urR mem d ≤ 45 → K (urR mem d) mem) : CWI (Ex S (n + 5)) 296 [.inr 143, .inl d] mem K := by
  have h8 := hO.1
  refine CW.of (k := 2) mt_296 rfl rfl (w_296_0 (Ex.mono S (n + 4)) ?_)
  have key : ∀ (N : Nat) (o : Nat) (r : Int), (o : Int) ≤ mem 143 1 → mem 143 1 - o < N → 1 ≤ r → r ≤ 45 → r = max 1 (mxW (fun o => copF mem o d) o) → Wx (Ex S (n + 4)) S M_296 (fun r m => ∃ y, r = some y ∧ K y m) 4 [some (.inr 143), some (.inl d), some (.inl r), some (.inl (o : Int))] [] mem := by
    intro N
    induction N with
    | zero => intros; omega
    | succ N ih =>
      intro o r ho hN r1 r2 hA
      refine w_296_4 (Ex.mono S (n + 4)) (fun v e _ => ⟨fun q _ => ⟨_, rfl, ?_⟩, fun q => ?_⟩)
      · have eo : o = (mem 143 1).toNat := by omega
        have e2 : r = urR mem d := by rw [hA, eo]; rfl
        rw [e2]
        exact H (by omega) (by omega)
      · have ho2 : (o : Int) < mem 143 1 := by omega
        have hc := copF_rng hO hT hd ho2
        refine f_297 hO hT hd ho2 (fun _ => f_257 (fun _ _ => ⟨by unfold InI; omega, ih (o + 1) _ (by omega) (by omega) (by omega) (by omega) ?_⟩))
        show max r (copF mem o d) = max 1 (max (mxW (fun o => copF mem o d) o) (copF mem o d))
        omega
  exact key 9 0 1 (by omega) (by omega) (by omega) (by omega) (by show (1 : Int) = max 1 0; omega)
theorem f_295e (hO : OpsOK mem) (hT : TmOK mem d) (hd : 1 ≤ d ∧ d ≤ 12) {o : Nat} (ho : (o : Int) < mem 143 1) (H : ∀ r, PrX (copF mem o d) (urR mem d) r → 0 ≤ r → r ≤ 45 → K r mem) : CWI (Ex S (n + 6)) 295 [.inr 143, .inl (o : Int), .inl d] mem K := by
  have h8 := hO.1
  have hc := copF_rng hO hT hd ho
  refine CW.of (k := 2) mt_295 rfl rfl (w_295_0 (Ex.mono S (n + 5)) ⟨by omega, fun v e _ => ⟨fun q => f_296e hO hT hd (fun u1 u2 _ => f_297 hO hT hd ho (fun _ => ?_)), fun q _ => ⟨_, rfl, H 0 ?_ (by omega) (by omega)⟩⟩⟩)
  · rw [Int.toNat_natCast] at e
    have h1 := hc.2.2 (by omega)
    have g : copF mem o d ≤ mxW (fun o => copF mem o d) (mem 143 1).toNat := mxW_ge (f := fun o => copF mem o d) (i := o) (mem 143 1).toNat (by omega)
    have hle : copF mem o d ≤ urR mem d := by
      unfold urR
      omega
    have key : ∀ (N : Nat) (k : Int), PrI (copF mem o d) (urR mem d) k → 1 ≤ k → urR mem d - k < N → Wx (Ex S (n + 5)) S M_295 (fun r m => ∃ y, r = some y ∧ K y m) 26 [some (.inr 143), some (.inl (o : Int)), some (.inl d), some (.inl (urR mem d)), some (.inl k)] [] mem := by
      intro N
      induction N with
      | zero =>
        intro k p k1 hN
        rcases p with ⟨p, p2⟩ | ⟨p, p2, p3, -⟩ <;> omega
      | succ N ih =>
        intro k p k1 hN
        have kr : copF mem o d ≤ k ∧ k ≤ urR mem d := by rcases p with ⟨p, p2⟩ | ⟨p, p2, p3, -⟩ <;> omega
        refine w_295_26 (Ex.mono S (n + 5)) ⟨by omega, fun q2 _ => ⟨_, rfl, H k (p.fin (Or.inr (Or.inr ?_))) (by omega) (by omega)⟩, fun q2 => ?_⟩
        · rw [Int.tmod_eq_emod_of_nonneg (by omega)] at q2
          exact q2
        · rw [Int.tmod_eq_emod_of_nonneg (by omega)] at q2
          have kk : k < urR mem d := by
            by_cases e2 : k = urR mem d
            · rw [e2, Int.emod_self] at q2
              exact absurd rfl q2
            · omega
          exact ⟨by unfold InI; omega, ih (k + 1) (p.nxt rfl (by omega) kk q2) (by omega) (by omega)⟩
    exact key 46 _ (PrI.ini hle) h1 (by omega)
  · rw [Int.toNat_natCast] at e
    have c0 : copF mem o d = 0 := by
      unfold copF
      exact if_pos (by omega)
    exact Or.inl ⟨by omega, by omega⟩
end RCH
end
section
/-! a loop turn by turn: the model, and sums that go round told exactly -/
def wr (t : Int) : Int := (Int32.ofInt t).toInt
section TXX
variable {C : CXW} {S : Nat × (Nat → Int32)} {M : PM} {K : TK} {c s : Nat} {pc : Nat} {L : List (Option WV)} {st : List WV} {mem : MM}
theorem Tx.iaddX (hC : Cmono C) {a b : Nat} {x y : Int} (ht : (pT M).find? (fun e => e.1 == pc) = some (pc, .iadd, a, b)) (H : ∀ z, InI z → z = wr (x + y) → Tx C S M K c s (pc + 1) L (.inl z :: st) mem) : Tx C S M K c s pc L (.inl y :: .inl x :: st) mem :=
  Tx.go hC ht fun h0 lv h h9 h1 h2 h3 => by
    have := H (Int32.ofInt x + Int32.ofInt y).toInt (wiI _) (by unfold wr; rw [Int32.ofInt_add]) h0 lv h h9 h1 (stc (wiI _) (fun u hu => h2 u (List.mem_cons_of_mem _ (List.mem_cons_of_mem _ hu)))) h3
    rw [List.map_cons, show wv (.inl (Int32.ofInt x + Int32.ofInt y).toInt) = .int (Int32.ofInt x + Int32.ofInt y) from by show Value.int (Int32.ofInt _) = _; rw [Int32.ofInt_toInt]] at this
    exact this
theorem Tx.isubX (hC : Cmono C) {a b : Nat} {x y : Int} (ht : (pT M).find? (fun e => e.1 == pc) = some (pc, .isub, a, b)) (H : ∀ z, InI z → z = wr (x - y) → Tx C S M K c s (pc + 1) L (.inl z :: st) mem) : Tx C S M K c s pc L (.inl y :: .inl x :: st) mem :=
  Tx.go hC ht fun h0 lv h h9 h1 h2 h3 => by
    have := H (Int32.ofInt x - Int32.ofInt y).toInt (wiI _) (by unfold wr; rw [Int32.ofInt_sub]) h0 lv h h9 h1 (stc (wiI _) (fun u hu => h2 u (List.mem_cons_of_mem _ (List.mem_cons_of_mem _ hu)))) h3
    rw [List.map_cons, show wv (.inl (Int32.ofInt x - Int32.ofInt y).toInt) = .int (Int32.ofInt x - Int32.ofInt y) from by show Value.int (Int32.ofInt _) = _; rw [Int32.ofInt_toInt]] at this
    exact this
theorem Tx.imulX (hC : Cmono C) {a b : Nat} {x y : Int} (ht : (pT M).find? (fun e => e.1 == pc) = some (pc, .imul, a, b)) (H : ∀ z, InI z → z = wr (x * y) → Tx C S M K c s (pc + 1) L (.inl z :: st) mem) : Tx C S M K c s pc L (.inl y :: .inl x :: st) mem :=
  Tx.go hC ht fun h0 lv h h9 h1 h2 h3 => by
    have := H (Int32.ofInt x * Int32.ofInt y).toInt (wiI _) (by unfold wr; rw [Int32.ofInt_mul]) h0 lv h h9 h1 (stc (wiI _) (fun u hu => h2 u (List.mem_cons_of_mem _ (List.mem_cons_of_mem _ hu)))) h3
    rw [List.map_cons, show wv (.inl (Int32.ofInt x * Int32.ofInt y).toInt) = .int (Int32.ofInt x * Int32.ofInt y) from by show Value.int (Int32.ofInt _) = _; rw [Int32.ofInt_toInt]] at this
    exact this
end TXX
abbrev Acc : Type := (Nat → Int) × (Nat → Int) × (Nat → Int) × (Nat → Int) × (Nat → Nat → Int) × (Nat → Nat → Int)
abbrev PSt : Type := (Nat → Nat → Int) × (Nat → Nat → Int)
def lkM (A : Acc) (cm : Nat → Nat → Int) (o k : Nat) (t : Int) : Int := if A.2.2.2.2.1 o k = -1 then t else if A.2.2.2.2.1 o k = -2 then A.2.2.2.2.2 o k else if t - A.2.2.2.2.2 o k < 0 then A.2.2.2.1 (A.2.2.2.2.1 o k).toNat else cm (A.2.2.2.2.1 o k).toNat (t - A.2.2.2.2.2 o k).toNat
def opM (k a b : Int) : Int := if k = 0 then wr (a + b) else if k = 1 then wr (a - b) else if k = 2 then wr (a * b) else min a b
def acM (A : Acc) (s : PSt) (o t : Nat) : Int := if A.1 o = 4 then s.1 (A.2.1 o).toNat (t + A.2.2.1 o).toNat else if A.1 o = 5 then lkM A s.2 o 0 t else opM (A.1 o) (lkM A s.2 o 0 t) (lkM A s.2 o 1 t)
def up2 (f : Nat → Nat → Int) (a b : Nat) (v : Int) : Nat → Nat → Int := fun i j => if i = a ∧ j = b then v else f i j
def stM (A : Acc) (s : PSt) (o t : Nat) : PSt := (if A.1 o = 5 then up2 s.1 (A.2.1 o).toNat (t + A.2.2.1 o).toNat (acM A s o t) else s.1, up2 s.2 o t (acM A s o t))
def opsM (A : Acc) (s : PSt) (t : Nat) : Nat → PSt
  | 0 => s
  | o + 1 => stM A (opsM A s t o) o t
def trM (A : Acc) (N : Nat) : Nat → PSt
  | 0 => (fun r p => if r = 0 then 3 * (p : Int) + 1 else 7 * (p : Int) - 5, fun _ _ => 0)
  | t + 1 => opsM A (trM A N t) t N
def dn (N t o o' t' : Nat) : Prop := o' < N ∧ (t' < t ∨ (t' = t ∧ o' < o))
theorem lkM.cg {A B : Acc} {cm : Nat → Nat → Int} {o k : Nat} {t : Int} (h1 : A.2.2.2.2.1 o k = B.2.2.2.2.1 o k) (h2 : A.2.2.2.2.2 o k = B.2.2.2.2.2 o k) (h3 : 0 ≤ A.2.2.2.2.1 o k → A.2.2.2.1 (A.2.2.2.2.1 o k).toNat = B.2.2.2.1 (A.2.2.2.2.1 o k).toNat) (h4 : -2 ≤ A.2.2.2.2.1 o k) : lkM A cm o k t = lkM B cm o k t := by
  unfold lkM
  rw [← h1, ← h2]
  by_cases a : A.2.2.2.2.1 o k = -1
  · rw [if_pos a, if_pos a]
  · rw [if_neg a, if_neg a]
    by_cases b : A.2.2.2.2.1 o k = -2
    · rw [if_pos b, if_pos b]
    · rw [if_neg b, if_neg b, h3 (by omega)]
def AgO (A B : Acc) (o : Nat) : Prop := A.1 o = B.1 o ∧ (A.1 o = 4 ∨ A.1 o = 5 → A.2.1 o = B.2.1 o ∧ A.2.2.1 o = B.2.2.1 o) ∧ ∀ k, k < 2 → A.2.2.2.2.1 o k = B.2.2.2.2.1 o k ∧ A.2.2.2.2.2 o k = B.2.2.2.2.2 o k ∧ (0 ≤ A.2.2.2.2.1 o k → A.2.2.2.1 (A.2.2.2.2.1 o k).toNat = B.2.2.2.1 (A.2.2.2.2.1 o k).toNat) ∧ -2 ≤ A.2.2.2.2.1 o k
theorem AgO.lk {A B : Acc} {o : Nat} (h : AgO A B o) {cm : Nat → Nat → Int} {k : Nat} (hk : k < 2) {t : Int} : lkM A cm o k t = lkM B cm o k t := by
  have q := h.2.2 k hk
  exact lkM.cg q.1 q.2.1 q.2.2.1 q.2.2.2
theorem AgO.ac {A B : Acc} {o : Nat} (h : AgO A B o) {s : PSt} {t : Nat} : acM A s o t = acM B s o t := by
  unfold acM
  rw [← h.1, h.lk (k := 0) (by omega), h.lk (k := 1) (by omega)]
  by_cases a : A.1 o = 4
  · rw [if_pos a, if_pos a, (h.2.1 (Or.inl a)).1, (h.2.1 (Or.inl a)).2]
  · rw [if_neg a, if_neg a]
theorem AgO.st {A B : Acc} {o : Nat} (h : AgO A B o) {s : PSt} {t : Nat} : stM A s o t = stM B s o t := by
  unfold stM
  rw [h.ac, ← h.1]
  by_cases a : A.1 o = 5
  · rw [if_pos a, if_pos a, (h.2.1 (Or.inr a)).1, (h.2.1 (Or.inr a)).2]
  · rw [if_neg a, if_neg a]
theorem opsM.cg {A B : Acc} {s : PSt} {t : Nat} : ∀ n, (∀ o, o < n → AgO A B o) → opsM A s t n = opsM B s t n
  | 0, _ => rfl
  | n + 1, h => by
    show stM A (opsM A s t n) n t = stM B (opsM B s t n) n t
    rw [opsM.cg n (fun o ho => h o (by omega)), (h n (by omega)).st]
theorem trM.cg {A B : Acc} {N : Nat} (h : ∀ o, o < N → AgO A B o) : ∀ t, trM A N t = trM B N t
  | 0 => rfl
  | t + 1 => by
    show opsM A (trM A N t) t N = opsM B (trM B N t) t N
    rw [trM.cg h t, opsM.cg N h]
def acsC (m : MM) : Acc := (m 2, rowB m, plcB m, m 4, fun o k => m 3 (4 * o + 2 * k), fun o k => m 3 (4 * o + 2 * k + 1))
def acsR (m : MM) : Acc := (m 144, rowF m, plcF m, m 149, fun o k => srcA m o k, fun o k => srcB m o k)
def SrcK (A : Acc) (N : Nat) (o k : Nat) : Prop := A.2.2.2.2.1 o k < 0 ∨ (A.2.2.2.2.1 o k < N ∧ (0 < A.2.2.2.2.2 o k ∨ A.2.2.2.2.1 o k < o) ∧ 0 ≤ A.2.2.2.2.2 o k)
theorem lkM.dnq {A : Acc} {N o k t : Nat} {cm cm2 : Nat → Nat → Int} (hs : SrcK A N o k) (h2 : -2 ≤ A.2.2.2.2.1 o k) (ho : o < N) (h : ∀ o' t', dn N t o o' t' → cm o' t' = cm2 o' t') : lkM A cm o k t = lkM A cm2 o k t := by
  unfold lkM SrcK at *
  by_cases a : A.2.2.2.2.1 o k = -1
  · rw [if_pos a, if_pos a]
  · rw [if_neg a, if_neg a]
    by_cases b : A.2.2.2.2.1 o k = -2
    · rw [if_pos b, if_pos b]
    · rw [if_neg b, if_neg b]
      by_cases c : (t : Int) - A.2.2.2.2.2 o k < 0
      · rw [if_pos c, if_pos c]
      · rw [if_neg c, if_neg c, h]
        unfold dn
        omega
def PlC (m : MM) (s : PSt) (N t o : Nat) : Prop := (∀ r p : Nat, r < 2 → p < 64 → m (136 + r) p = s.1 r p) ∧ ∀ o' t' : Nat, dn N t o o' t' → m 138 (40 * o' + t') = s.2 o' t'
def PlR (m : MM) (s : PSt) (N t o : Nat) : Prop := (∀ r p : Nat, r < 2 → p < 64 → m 165 (64 * r + p) = s.1 r p) ∧ ∀ o' t' : Nat, dn N t o o' t' → m 167 (41 * o' + t') = s.2 o' t'
def lkC (m : MM) (o k : Nat) (t : Int) : Int := lkM (acsC m) (fun o t => m 138 (40 * o + t)) o k t
def acC (m : MM) (o t : Nat) : Int := acM (acsC m) (fun r p => m (136 + r) p, fun o t => m 138 (40 * o + t)) o t
def acR (m : MM) (o t : Nat) : Int := acM (acsR m) (fun r p => m 165 (64 * r + p), fun o t => m 167 (41 * o + t)) o t
theorem acM.eq {A : Acc} {s s2 : PSt} {N t o : Nat} (ho : o < N) (hs : ¬ A.1 o = 4 → SrcK A N o 0 ∧ (¬ A.1 o = 5 → SrcK A N o 1)) (h2 : ¬ A.1 o = 4 → -2 ≤ A.2.2.2.2.1 o 0 ∧ (¬ A.1 o = 5 → -2 ≤ A.2.2.2.2.1 o 1)) (hr : A.1 o = 4 → s.1 (A.2.1 o).toNat (t + A.2.2.1 o).toNat = s2.1 (A.2.1 o).toNat (t + A.2.2.1 o).toNat) (h : ∀ o' t', dn N t o o' t' → s.2 o' t' = s2.2 o' t') : acM A s o t = acM A s2 o t := by
  unfold acM
  by_cases a : A.1 o = 4
  · rw [if_pos a, if_pos a, hr a]
  · rw [if_neg a, if_neg a]
    have q := hs a
    rw [lkM.dnq q.1 (h2 a).1 ho h]
    by_cases b : A.1 o = 5
    · rw [if_pos b, if_pos b]
    · rw [if_neg b, if_neg b, lkM.dnq (q.2 b) ((h2 a).2 b) ho h]
end
section
/-! laid by wip/hand/tg.py: a loop turn by turn -/
def pPx (A _i : Nat) : Prop := 136 ≤ A ∧ A ≤ 138
theorem dn_next {N t o o' t' : Nat} (h : dn N t (o + 1) o' t') : dn N t o o' t' ∨ (o' = o ∧ t' = t) := by unfold dn at *; omega
theorem dn_turn {N t o' t' : Nat} (h : dn N (t + 1) 0 o' t') : dn N t N o' t' := by unfold dn at *; omega
theorem acsC_fr {m m' : MM} (e : ∀ A i, 0 < A → A < 9 → m' A i = m A i) : acsC m' = acsC m := by
  have h := bd_fr (q := 0) (fun A i a b _ => e A i a b)
  unfold acsC
  rw [h.2.1, h.2.2.1, show m' 2 = m 2 from funext fun i => e 2 i (by omega) (by omega), show m' 4 = m 4 from funext fun i => e 4 i (by omega) (by omega), show m' 3 = m 3 from funext fun i => e 3 i (by omega) (by omega)]
theorem PlC.ac {m m0 : MM} {N t o : Nat} {s : PSt} (h : PlC m s N t o) (hB : BodyOK m0) (hs : SndX m0) (e : ∀ A i, 0 < A → A < 9 → m A i = m0 A i) (hN : N = (m0 1 0).toNat) (ho : o < N) (ht : t < 40) : acC m o t = acM (acsC m0) s o t := by
  have h8 := hB.1
  have hop := hB.2.1 o (by omega)
  unfold acC
  rw [acsC_fr e]
  unfold BOp at hop
  have sk : ∀ k : Nat, (k : Int) < csN m0 o → SrcK (acsC m0) N o k := fun k hk => by
    have q := hs o k (by omega) hk
    have w := hB.src (o := o) (k := k) (by omega) hk
    unfold SrcC at q
    unfold srcOK at w
    unfold SrcK acsC
    simp only
    omega
  refine acM.eq ho (fun k4 => ⟨sk 0 ?_, fun k5 => sk 1 ?_⟩) (fun k4 => ⟨?_, fun k5 => ?_⟩) (fun k4 => ?_) (fun o' t' hd => h.2 o' t' hd)
  · have k4 : ¬ m0 2 o = 4 := k4
    unfold csN; rw [if_neg k4]; split <;> omega
  · have k4 : ¬ m0 2 o = 4 := k4
    have k5 : ¬ m0 2 o = 5 := k5
    unfold csN; rw [if_neg k4, if_neg k5]; omega
  · have k4 : ¬ m0 2 o = 4 := k4
    show -2 ≤ m0 3 (4 * o)
    unfold srcOK at hop
    omega
  · have k4 : ¬ m0 2 o = 4 := k4
    have k5 : ¬ m0 2 o = 5 := k5
    show -2 ≤ m0 3 (4 * o + 2)
    unfold srcOK at hop
    omega
  · have k4 : m0 2 o = 4 := k4
    have w := hop.2.2.1 k4
    have er : rowB m0 o = m0 3 (4 * o) := by unfold rowB; rw [if_neg (by omega)]
    have ep : plcB m0 o = m0 3 (4 * o + 1) := by unfold plcB; rw [if_neg (by omega)]
    exact h.1 (rowB m0 o).toNat ((t : Int) + plcB m0 o).toNat (by omega) (by omega)
theorem PlC.step {m m0 : MM} {N t o : Nat} {s : PSt} (h : PlC m s N t o) (hB : BodyOK m0) (hs : SndX m0) (e : ∀ A i, 0 < A → A < 9 → m A i = m0 A i) (hN : N = (m0 1 0).toNat) (ho : o < N) (ht : t < 40) {m2 : MM} (h2 : m2 = upm (if m 2 o = 5 then upm m (136 + (rowB m o).toNat) ((t : Int) + plcB m o).toNat (acC m o t) else m) 138 (40 * o + t) (acC m o t)) : PlC m2 (stM (acsC m0) s o t) N t (o + 1) := by
  have h8 := hB.1
  have hop := hB.2.1 o (by omega)
  have ea := h.ac hB hs e hN ho ht
  have ek := e 2 o (by omega) (by omega)
  have eb := bd_fr (q := 0) (fun A i a b _ => e A i a b)
  unfold BOp at hop
  rw [ea, ek, eb.2.1, eb.2.2.1] at h2
  generalize acM (acsC m0) s o t = v at h2 ea ⊢
  have hv : stM (acsC m0) s o t = (if m0 2 o = 5 then up2 s.1 (rowB m0 o).toNat ((t : Int) + plcB m0 o).toNat v else s.1, up2 s.2 o t v) := by
    have ea2 := h.ac hB hs e hN ho ht
    unfold stM
    rw [← ea2, ea]
    rfl
  rw [hv]
  refine ⟨fun r p hr hp => ?_, fun o' t' hd => ?_⟩
  · rw [h2, upm_ne (by omega)]
    by_cases k5 : m0 2 o = 5
    · rw [if_pos k5]
      show _ = (if m0 2 o = 5 then up2 s.1 (rowB m0 o).toNat ((t : Int) + plcB m0 o).toNat v else s.1) r p
      rw [if_pos k5]
      unfold up2
      by_cases w : r = (rowB m0 o).toNat ∧ p = ((t : Int) + plcB m0 o).toNat
      · rw [if_pos w, w.1, w.2]; exact upm_eq
      · rw [if_neg w, upm_ne (by omega)]; exact h.1 r p hr hp
    · rw [if_neg k5]
      show _ = (if m0 2 o = 5 then up2 s.1 (rowB m0 o).toNat ((t : Int) + plcB m0 o).toNat v else s.1) r p
      rw [if_neg k5]; exact h.1 r p hr hp
  · rw [h2]
    show _ = up2 s.2 o t v o' t'
    unfold up2
    have hd' := hd
    unfold dn at hd'
    by_cases w : o' = o ∧ t' = t
    · rw [if_pos w, w.1, w.2]; exact upm_eq
    · rw [if_neg w, upm_ne (by omega)]
      have hd2 := (dn_next hd).resolve_right w
      by_cases k5 : m0 2 o = 5
      · rw [if_pos k5]
        have q := hop.2.2.2 k5
        have er : rowB m0 o = m0 3 (4 * o + 2) := by unfold rowB; rw [if_pos k5]
        rw [upm_ne (by omega)]; exact h.2 o' t' hd2
      · rw [if_neg k5]; exact h.2 o' t' hd2
theorem lkC_eq {m : MM} {o k : Nat} {t : Int} : lkC m o k t = if m 3 (4 * o + 2 * k) = -1 then t else if m 3 (4 * o + 2 * k) = -2 then m 3 (4 * o + 2 * k + 1) else if t - m 3 (4 * o + 2 * k + 1) < 0 then m 4 (m 3 (4 * o + 2 * k)).toNat else m 138 (40 * (m 3 (4 * o + 2 * k)).toNat + (t - m 3 (4 * o + 2 * k + 1)).toNat) := rfl
theorem acC_eq {m : MM} {o t : Nat} : acC m o t = if m 2 o = 4 then m (136 + (rowB m o).toNat) ((t : Int) + plcB m o).toNat else if m 2 o = 5 then lkC m o 0 t else opM (m 2 o) (lkC m o 0 t) (lkC m o 1 t) := rfl
theorem PlC.turn {m : MM} {s : PSt} {N t : Nat} (h : PlC m s N t N) : PlC m s N (t + 1) 0 := ⟨h.1, fun o' t' hd => h.2 o' t' (dn_turn hd)⟩
theorem PlC.of_fill {m : MM} {A : Acc} {N : Nat} (h : ∀ j : Nat, (j : Int) < 64 → m 136 j = 3 * (j : Int) + 1 ∧ m 137 j = 7 * (j : Int) - 5) : PlC m (trM A N 0) N 0 0 := by
  refine ⟨fun r p hr hp => ?_, fun o' t' hd => ?_⟩
  · have a : r = 0 ∨ r = 1 := by omega
    rcases a with rfl | rfl
    · exact (h p (by omega)).1
    · exact (h p (by omega)).2
  · unfold dn at hd; omega
theorem PlC.eqN {m : MM} {A : Acc} {s : PSt} {N t o : Nat} (h : PlC m (opsM A s t o) N t o) (e : o = N) : PlC m (opsM A s t N) N t N := by rw [e] at h; exact h
theorem RefOK.rw {m : MM} (h : RefOK m) {o : Nat} (ho : o < 8) (hk : m 144 o = 4 ∨ m 144 o = 5) : (0 ≤ rowF m o ∧ rowF m o ≤ 1) ∧ 0 ≤ plcF m o ∧ plcF m o ≤ 7 := by
  have q := h.ops.2.1 o ho
  unfold OpOK at q
  unfold rowF plcF
  rcases hk with k | k
  · have := q.2.2.2.1 k
    rw [if_pos k, if_pos k]; omega
  · have := q.2.2.2.2 k
    rw [if_neg (by omega), if_neg (by omega)]; omega
theorem acsR_fr {m m' : MM} (e : ∀ A i, 143 < A → A < 154 → m' A i = m A i) : acsR m' = acsR m := by
  unfold acsR rowF plcF srcA srcB
  rw [show m' 144 = m 144 from funext fun i => e 144 i (by omega) (by omega), show m' 145 = m 145 from funext fun i => e 145 i (by omega) (by omega), show m' 146 = m 146 from funext fun i => e 146 i (by omega) (by omega), show m' 147 = m 147 from funext fun i => e 147 i (by omega) (by omega), show m' 148 = m 148 from funext fun i => e 148 i (by omega) (by omega), show m' 149 = m 149 from funext fun i => e 149 i (by omega) (by omega)]
theorem PlR.ac {m m0 : MM} {N t o : Nat} {s : PSt} (h : PlR m s N t o) (hr : RefOK m0) (hs : SoundM m0) (e : ∀ A i, 143 < A → A < 154 → m A i = m0 A i) (hN : N = (m0 143 1).toNat) (ho : o < N) (ht : t < 40) : acR m o t = acM (acsR m0) s o t := by
  have h8 := hr.ops.1
  have hop := hr.ops.2.1 o (by omega)
  have hab := hr.ab o (by omega)
  unfold acR
  rw [acsR_fr e]
  unfold OpOK at hop
  have sk : ∀ k : Nat, (k : Int) < srcN m0 o → SrcK (acsR m0) N o k := fun k hk => by
    have q := hs o (by omega) k (by omega) hk
    have w := hr.ops.src (o := o) (by omega) (k := (k : Int)) (by omega) hk
    unfold SrcS at q
    unfold srcOK at w
    unfold SrcK acsR
    simp only
    omega
  refine acM.eq ho (fun k4 => ⟨sk 0 ?_, fun k5 => sk 1 ?_⟩) (fun _ => ⟨hab.1.1, fun _ => hab.2.1⟩) (fun k4 => ?_) (fun o' t' hd => h.2 o' t' hd)
  · have k4 : ¬ m0 144 o = 4 := k4
    unfold srcN; rw [if_neg k4]; split <;> omega
  · have k4 : ¬ m0 144 o = 4 := k4
    have k5 : ¬ m0 144 o = 5 := k5
    unfold srcN; rw [if_neg k4, if_neg k5]; omega
  · have k4 : m0 144 o = 4 := k4
    have w := hr.rw (o := o) (by omega) (Or.inl k4)
    exact h.1 (rowF m0 o).toNat ((t : Int) + plcF m0 o).toNat (by omega) (by omega)
theorem PlR.step {m m0 : MM} {N t o : Nat} {s : PSt} (h : PlR m s N t o) (hr : RefOK m0) (hs : SoundM m0) (e : ∀ A i, 143 < A → A < 154 → m A i = m0 A i) (hN : N = (m0 143 1).toNat) (ho : o < N) (ht : t < 40) {m2 : MM} (h2 : m2 = if m 144 o = 5 then upm (upm m 167 (41 * o + t) (acR m o t)) 165 (64 * (rowF m o).toNat + ((t : Int) + plcF m o).toNat) (acR m o t) else upm m 167 (41 * o + t) (acR m o t)) : PlR m2 (stM (acsR m0) s o t) N t (o + 1) := by
  have h8 := hr.ops.1
  have ea := h.ac hr hs e hN ho ht
  have ek := e 144 o (by omega) (by omega)
  have eb : rowF m o = rowF m0 o ∧ plcF m o = plcF m0 o := by
    have q := acsR_fr e
    exact ⟨congrFun (congrArg (fun A : Acc => A.2.1) q) o, congrFun (congrArg (fun A : Acc => A.2.2.1) q) o⟩
  rw [ea, ek, eb.1, eb.2] at h2
  generalize hvv : acM (acsR m0) s o t = v at h2 ea
  have hv : stM (acsR m0) s o t = (if m0 144 o = 5 then up2 s.1 (rowF m0 o).toNat ((t : Int) + plcF m0 o).toNat v else s.1, up2 s.2 o t v) := by
    unfold stM
    rw [hvv]
    rfl
  rw [hv]
  have hw : m0 144 o = 5 → (0 ≤ rowF m0 o ∧ rowF m0 o ≤ 1) ∧ 0 ≤ plcF m0 o ∧ plcF m0 o ≤ 7 := fun k5 => hr.rw (o := o) (by omega) (Or.inr k5)
  refine ⟨fun r p hr2 hp => ?_, fun o' t' hd => ?_⟩
  · by_cases k5 : m0 144 o = 5
    · have q := hw k5
      rw [h2, if_pos k5]
      show _ = (if m0 144 o = 5 then up2 s.1 (rowF m0 o).toNat ((t : Int) + plcF m0 o).toNat v else s.1) r p
      rw [if_pos k5]
      unfold up2
      by_cases w : r = (rowF m0 o).toNat ∧ p = ((t : Int) + plcF m0 o).toNat
      · rw [if_pos w, w.1, w.2]; exact upm_eq
      · rw [if_neg w, upm_ne (by omega), upm_ne (by omega)]; exact h.1 r p hr2 hp
    · rw [h2, if_neg k5, upm_ne (by omega)]
      show _ = (if m0 144 o = 5 then up2 s.1 (rowF m0 o).toNat ((t : Int) + plcF m0 o).toNat v else s.1) r p
      rw [if_neg k5]; exact h.1 r p hr2 hp
  · show _ = up2 s.2 o t v o' t'
    unfold up2
    have hd' := hd
    unfold dn at hd'
    have eA : m2 167 (41 * o' + t') = upm m 167 (41 * o + t) v 167 (41 * o' + t') := by
      by_cases k5 : m0 144 o = 5
      · rw [h2, if_pos k5, upm_ne (by omega)]
      · rw [h2, if_neg k5]
    rw [eA]
    by_cases w : o' = o ∧ t' = t
    · rw [if_pos w, w.1, w.2]; exact upm_eq
    · rw [if_neg w, upm_ne (by omega)]; exact h.2 o' t' ((dn_next hd).resolve_right w)
theorem PlR.turn {m : MM} {s : PSt} {N t : Nat} (h : PlR m s N t N) : PlR m s N (t + 1) 0 := ⟨h.1, fun o' t' hd => h.2 o' t' (dn_turn hd)⟩
theorem PlR.of_fill {m : MM} {A : Acc} {N : Nat} (h : ∀ j : Nat, (j : Int) < 64 → m 165 j = 3 * (j : Int) + 1 ∧ m 165 (64 + j) = 7 * (j : Int) - 5) : PlR m (trM A N 0) N 0 0 := by
  refine ⟨fun r p hr hp => ?_, fun o' t' hd => ?_⟩
  · have a : r = 0 ∨ r = 1 := by omega
    rcases a with rfl | rfl
    · have q := (h p (by omega)).1
      rw [show 64 * 0 + p = p by omega]; exact q
    · exact (h p (by omega)).2
  · unfold dn at hd; omega
theorem PlR.eqN {m : MM} {A : Acc} {s : PSt} {N t o : Nat} (h : PlR m (opsM A s t o) N t o) (e : o = N) : PlR m (opsM A s t N) N t N := by rw [e] at h; exact h
theorem f_164x {S : Nat × (Nat → Int32)} {n : Nat} {mem : MM} {K : Int → MM → Prop} {E : Nat → MM → Prop} {o t : Int} (ho : 0 ≤ o ∧ o < 8) (ht : t ≤ 39) (H : ∀ r, r = (if t < 0 then mem 4 o.toNat else mem 138 (40 * o.toNat + t.toNat)) → K r mem) : CQI (Ex S (n + 1)) 164 [.inr 134, .inr 1, .inl o, .inl t] mem K E := by
  refine CY.of (k := 0) mt_164 rfl rfl (fun hv => ?_)
  have hC := Ex.mono S n
  have ii_o : InI o := hv (.inl o) (by simp)
  unfold InI at ii_o
  have ii_t : InI t := hv (.inl t) (by simp)
  unfold InI at ii_t
  clear hv
  show Tx (Ex S n) S M_164 (kI K E) 0 0 0 [some (.inr 134), some (.inr 1), some (.inl o), some (.inl t)] [] mem
  refine Tx.iload_n hC te_164_0 rfl ?_
  refine Tx.ifc hC (t := 13) te_164_1 (by decide) (fun q1 => ?_) (fun q1 => ?_)
  · replace q1 : 0 ≤ (t : Int) := q1
    refine Tx.aload_n hC te_164_13 rfl ?_
    refine Tx.getR hC te_164_14 rfl rfl rfl ?_
    refine Tx.iload_n hC te_164_17 rfl ?_
    refine Tx.bipush hC te_164_18 rfl rfl ?_
    refine Tx.imulW hC te_164_20 (fun z2 z2i z2e => ?_)
    unfold InI at z2i z2e
    first | replace z2e := z2e (by omega) | clear z2e
    refine Tx.iload_n hC te_164_21 rfl ?_
    refine Tx.iaddW hC te_164_22 (fun z3 z3i z3e => ?_)
    unfold InI at z3i z3e
    first | replace z3e := z3e (by omega) | clear z3e
    refine Tx.iald hC te_164_23 rfl (by omega) (fun v4 v4e v4i => ?_)
    unfold InI at v4i
    exact Tx.ireturn hC te_164_24 rfl (fun hr => show K v4 mem from H _ (by first | (rw [if_pos (by omega)]; assumption) | (rw [if_neg (by omega), v4e]; congr 1; omega)))
  · replace q1 : ¬ (0 ≤ (t : Int)) := q1
    refine Tx.aload_n hC te_164_4 rfl ?_
    refine Tx.getR hC te_164_5 rfl rfl rfl ?_
    refine Tx.iload_n hC te_164_8 rfl ?_
    refine Tx.iald hC te_164_9 rfl (by omega) (fun v5 v5e v5i => ?_)
    unfold InI at v5i
    refine Tx.goto hC (t := 24) te_164_10 (by decide) ?_
    exact Tx.ireturn hC te_164_24 rfl (fun hr => show K v5 mem from H _ (by first | (rw [if_pos (by omega)]; assumption) | (rw [if_neg (by omega), v5e]; congr 1; omega)))
theorem f_163x {S : Nat × (Nat → Int32)} {n : Nat} {mem : MM} {K : Int → MM → Prop} {E : Nat → MM → Prop} (hB : BodyOK mem) {o w t : Int} (ho : 0 ≤ o ∧ o < 8) (hw : 0 ≤ w ∧ w < csN mem o.toNat) (ht : 0 ≤ t ∧ t ≤ 39) (H : ∀ r, r = lkC mem o.toNat w.toNat t → K r mem) : CQI (Ex S (n + 2)) 163 [.inr 134, .inr 1, .inl o, .inl w, .inl t] mem K E := by
  refine CY.of (k := 2) mt_163 rfl rfl (fun hv => ?_)
  have hC := Ex.mono S (n + 1)
  have ii_o : InI o := hv (.inl o) (by simp)
  unfold InI at ii_o
  have ii_w : InI w := hv (.inl w) (by simp)
  unfold InI at ii_w
  have ii_t : InI t := hv (.inl t) (by simp)
  unfold InI at ii_t
  clear hv
  have hcs := csN_le mem o.toNat
  have hsr := hB.src (o := o.toNat) (k := w.toNat) (by omega) (by omega)
  unfold srcOK at hsr
  show Tx (Ex S (n + 1)) S M_163 (kI K E) 0 0 0 [some (.inr 134), some (.inr 1), some (.inl o), some (.inl w), some (.inl t), none, none] [] mem
  refine Tx.aload_n hC te_163_0 rfl ?_
  refine Tx.iload_n hC te_163_1 rfl ?_
  refine Tx.iload_n hC te_163_2 rfl ?_
  refine Tx.virtI hC te_163_3 mt_14 (args := [.inr 1, .inl o, .inl w]) (rest := []) (c' := 0) (s' := 0) rfl rfl rfl rfl rfl rfl rfl rfl rfl rfl ?_
  refine f_14s hB (by omega) (by omega) (fun r1 r1e r1a r1b r1i => ?_)
  unfold InI at r1i
  refine Tx.istore hC te_163_6 rfl ?_
  refine Tx.aload_n hC te_163_8 rfl ?_
  refine Tx.iload_n hC te_163_9 rfl ?_
  refine Tx.iload_n hC te_163_10 rfl ?_
  refine Tx.virtI hC te_163_11 mt_15 (args := [.inr 1, .inl o, .inl w]) (rest := []) (c' := 0) (s' := 0) rfl rfl rfl rfl rfl rfl rfl rfl rfl rfl ?_
  refine f_15q (by omega) (by omega) (fun r4 r4e r4i => ?_)
  unfold InI at r4i
  refine Tx.istore hC te_163_14 rfl ?_
  refine Tx.iload hC te_163_16 rfl ?_
  refine Tx.iconst hC te_163_18 rfl ?_
  refine Tx.icmp hC (t := 25) te_163_19 (by decide) (fun q7 => ?_) (fun q7 => ?_)
  · replace q7 : ¬ (r1 : Int) = (-1) := q7
    refine Tx.iload hC te_163_25 rfl ?_
    refine Tx.bipush hC te_163_27 rfl rfl ?_
    refine Tx.icmp hC (t := 35) te_163_29 (by decide) (fun q8 => ?_) (fun q8 => ?_)
    · replace q8 : ¬ (r1 : Int) = (-2) := q8
      refine Tx.aload_n hC te_163_35 rfl ?_
      refine Tx.aload_n hC te_163_36 rfl ?_
      refine Tx.iload hC te_163_37 rfl ?_
      refine Tx.iload hC te_163_39 rfl ?_
      refine Tx.iload hC te_163_41 rfl ?_
      refine Tx.isubW hC te_163_43 (fun z9 z9i z9e => ?_)
      unfold InI at z9i z9e
      first | replace z9e := z9e (by omega) | clear z9e
      refine Tx.virtI hC te_163_44 mt_164 (args := [.inr 134, .inr 1, .inl r1, .inl z9]) (rest := []) (c' := 0) (s' := 0) rfl rfl rfl rfl rfl rfl rfl rfl rfl rfl ?_
      refine f_164x (by omega) (by omega) (fun r10 r10e r10i => ?_)
      rw [show z9 = t - r4 by omega] at r10e
      unfold InI at r10i
      exact Tx.ireturn hC te_163_47 rfl (fun hr => show K r10 mem from H _ (by rw [lkC_eq, ← r1e, ← r4e]; first | (rw [if_pos (by omega)]; done) | (rw [if_neg (by omega), if_pos (by omega)]; done) | (rw [if_neg (by omega), if_neg (by omega)]; assumption)))
    · replace q8 : ¬ (¬ (r1 : Int) = (-2)) := q8
      refine Tx.iload hC te_163_32 rfl ?_
      exact Tx.ireturn hC te_163_34 rfl (fun hr => show K r4 mem from H _ (by rw [lkC_eq, ← r1e, ← r4e]; first | (rw [if_pos (by omega)]; done) | (rw [if_neg (by omega), if_pos (by omega)]; done) | (rw [if_neg (by omega), if_neg (by omega)]; assumption)))
  · replace q7 : ¬ (¬ (r1 : Int) = (-1)) := q7
    refine Tx.iload hC te_163_22 rfl ?_
    exact Tx.ireturn hC te_163_24 rfl (fun hr => show K t mem from H _ (by rw [lkC_eq, ← r1e, ← r4e]; first | (rw [if_pos (by omega)]; done) | (rw [if_neg (by omega), if_pos (by omega)]; done) | (rw [if_neg (by omega), if_neg (by omega)]; assumption)))
theorem f_162x {S : Nat × (Nat → Int32)} {n : Nat} {mem : MM} {K : Int → MM → Prop} {E : Nat → MM → Prop} (hB : BodyOK mem) {o t : Int} (ho : 0 ≤ o ∧ o < 8) (ht : 0 ≤ t ∧ t ≤ 39) (H : ∀ r m', r = acC mem o.toNat t.toNat → m' = (if mem 2 o.toNat = 5 then upm mem (136 + (rowB mem o.toNat).toNat) (t + plcB mem o.toNat).toNat r else mem) → Frm pPx mem m' → K r m') : CQI (Ex S (n + 3)) 162 [.inr 134, .inr 1, .inl o, .inl t] mem K E := by
  refine CY.of (k := 3) mt_162 rfl rfl (fun hv => ?_)
  have hC := Ex.mono S (n + 2)
  have ii_o : InI o := hv (.inl o) (by simp)
  unfold InI at ii_o
  have ii_t : InI t := hv (.inl t) (by simp)
  unfold InI at ii_t
  clear hv
  have et : ((t.toNat : Nat) : Int) = t := by omega
  have hkd := hB.kd (o := o.toNat) (by omega)
  have hcs : ¬ mem 2 o.toNat = 4 → 1 ≤ csN mem o.toNat ∧ (¬ mem 2 o.toNat = 5 → csN mem o.toNat = 2) := fun k4 => by
    unfold csN
    rw [if_neg k4]
    refine ⟨by split <;> omega, fun k5 => if_neg k5⟩
  have hrw : 4 ≤ mem 2 o.toNat → (0 ≤ rowB mem o.toNat ∧ rowB mem o.toNat ≤ 1) ∧ 0 ≤ plcB mem o.toNat ∧ plcB mem o.toNat ≤ 7 := fun k => by
    have := hB.row (o := o.toNat) (by omega) k
    omega
  show Tx (Ex S (n + 2)) S M_162 (kI K E) 0 0 0 [some (.inr 134), some (.inr 1), some (.inl o), some (.inl t), none, none, none] [] mem
  refine Tx.aload_n hC te_162_0 rfl ?_
  refine Tx.getR hC te_162_1 rfl rfl rfl ?_
  refine Tx.iload_n hC te_162_4 rfl ?_
  refine Tx.iald hC te_162_5 rfl (by omega) (fun v1 v1e v1i => ?_)
  unfold InI at v1i
  refine Tx.istore hC te_162_6 rfl ?_
  refine Tx.iload hC te_162_8 rfl ?_
  refine Tx.iconst hC te_162_10 rfl ?_
  refine Tx.icmp hC (t := 33) te_162_11 (by decide) (fun q2 => ?_) (fun q2 => ?_)
  · replace q2 : ¬ (v1 : Int) = 4 := q2
    refine Tx.aload_n hC te_162_33 rfl ?_
    refine Tx.aload_n hC te_162_34 rfl ?_
    refine Tx.iload_n hC te_162_35 rfl ?_
    refine Tx.iconst hC te_162_36 rfl ?_
    refine Tx.iload_n hC te_162_37 rfl ?_
    refine Tx.virtI hC te_162_38 mt_163 (args := [.inr 134, .inr 1, .inl o, .inl 0, .inl t]) (rest := []) (c' := 0) (s' := 0) rfl rfl rfl rfl rfl rfl rfl rfl rfl rfl ?_
    refine f_163x hB (by omega) (by omega) (by omega) (fun r3 r3e r3i => ?_)
    change r3 = lkC mem o.toNat 0 t at r3e
    unfold InI at r3i
    refine Tx.istore hC te_162_41 rfl ?_
    refine Tx.iload hC te_162_43 rfl ?_
    refine Tx.iconst hC te_162_45 rfl ?_
    refine Tx.icmp hC (t := 72) te_162_46 (by decide) (fun q6 => ?_) (fun q6 => ?_)
    · replace q6 : ¬ (v1 : Int) = 5 := q6
      refine Tx.aload_n hC te_162_72 rfl ?_
      refine Tx.aload_n hC te_162_73 rfl ?_
      refine Tx.iload_n hC te_162_74 rfl ?_
      refine Tx.iconst hC te_162_75 rfl ?_
      refine Tx.iload_n hC te_162_76 rfl ?_
      refine Tx.virtI hC te_162_77 mt_163 (args := [.inr 134, .inr 1, .inl o, .inl 1, .inl t]) (rest := []) (c' := 0) (s' := 0) rfl rfl rfl rfl rfl rfl rfl rfl rfl rfl ?_
      refine f_163x hB (by omega) (by omega) (by omega) (fun r7 r7e r7i => ?_)
      change r7 = lkC mem o.toNat 1 t at r7e
      unfold InI at r7i
      refine Tx.istore hC te_162_80 rfl ?_
      refine Tx.iload hC te_162_82 rfl ?_
      refine Tx.tsw hC (t := 130) (ts := [112, 118, 124]) te_162_84 rfl (by decide) rfl (fun q10 => ?_) (fun i t e q10 => ?_)
      · skip
        refine Tx.iload hC te_162_130 rfl ?_
        refine Tx.iload hC te_162_132 rfl ?_
        refine Tx.statI hC te_162_134 (by decide) mt_29 (args := [.inl r3, .inl r7]) (rest := []) (c' := 0) (s' := 0) rfl rfl rfl rfl rfl rfl rfl ?_
        refine f_29q (fun r11 r11a r11b r11c r11i => ?_)
        unfold InI at r11i
        exact Tx.ireturn hC te_162_137 rfl (fun hr => show K r11 mem from H _ _ (by { rw [acC_eq, et]; first | (rw [if_pos (by omega), r11e, eR, ← hh, ← hh]; congr 1; omega) | (rw [if_neg (by omega), if_pos (by omega)]; assumption) | (rw [if_neg (by omega), if_neg (by omega), ← r3e, ← r7e]; unfold opM; first | (rw [if_pos (by omega)]; assumption) | (rw [if_neg (by omega), if_pos (by omega)]; assumption) | (rw [if_neg (by omega), if_neg (by omega), if_pos (by omega)]; assumption) | (rw [if_neg (by omega), if_neg (by omega), if_neg (by omega)]; omega)) }) (by rw [if_neg (by omega)]) (Frm.rf))
      · have hi : i = 0 ∨ i = 1 ∨ i = 2 := by
          have := (List.getElem?_eq_some_iff.mp e).1
          simp only [List.length_cons, List.length_nil] at this
          omega
        rcases hi with hi | hi | hi
        · subst hi
          cases (show some 112 = some t from e)
          refine Tx.iload hC te_162_112 rfl ?_
          refine Tx.iload hC te_162_114 rfl ?_
          refine Tx.iaddX hC te_162_116 (fun z14 z14i z14e => ?_)
          unfold InI at z14i
          exact Tx.ireturn hC te_162_117 rfl (fun hr => show K z14 mem from H _ _ (by { rw [acC_eq, et]; first | (rw [if_pos (by omega), z14e, eR, ← hh, ← hh]; congr 1; omega) | (rw [if_neg (by omega), if_pos (by omega)]; assumption) | (rw [if_neg (by omega), if_neg (by omega), ← r3e, ← r7e]; unfold opM; first | (rw [if_pos (by omega)]; assumption) | (rw [if_neg (by omega), if_pos (by omega)]; assumption) | (rw [if_neg (by omega), if_neg (by omega), if_pos (by omega)]; assumption) | (rw [if_neg (by omega), if_neg (by omega), if_neg (by omega)]; omega)) }) (by rw [if_neg (by omega)]) (Frm.rf))
        · subst hi
          cases (show some 118 = some t from e)
          refine Tx.iload hC te_162_118 rfl ?_
          refine Tx.iload hC te_162_120 rfl ?_
          refine Tx.isubX hC te_162_122 (fun z15 z15i z15e => ?_)
          unfold InI at z15i
          exact Tx.ireturn hC te_162_123 rfl (fun hr => show K z15 mem from H _ _ (by { rw [acC_eq, et]; first | (rw [if_pos (by omega), z15e, eR, ← hh, ← hh]; congr 1; omega) | (rw [if_neg (by omega), if_pos (by omega)]; assumption) | (rw [if_neg (by omega), if_neg (by omega), ← r3e, ← r7e]; unfold opM; first | (rw [if_pos (by omega)]; assumption) | (rw [if_neg (by omega), if_pos (by omega)]; assumption) | (rw [if_neg (by omega), if_neg (by omega), if_pos (by omega)]; assumption) | (rw [if_neg (by omega), if_neg (by omega), if_neg (by omega)]; omega)) }) (by rw [if_neg (by omega)]) (Frm.rf))
        · subst hi
          cases (show some 124 = some t from e)
          refine Tx.iload hC te_162_124 rfl ?_
          refine Tx.iload hC te_162_126 rfl ?_
          refine Tx.imulX hC te_162_128 (fun z16 z16i z16e => ?_)
          unfold InI at z16i
          exact Tx.ireturn hC te_162_129 rfl (fun hr => show K z16 mem from H _ _ (by { rw [acC_eq, et]; first | (rw [if_pos (by omega), z16e, eR, ← hh, ← hh]; congr 1; omega) | (rw [if_neg (by omega), if_pos (by omega)]; assumption) | (rw [if_neg (by omega), if_neg (by omega), ← r3e, ← r7e]; unfold opM; first | (rw [if_pos (by omega)]; assumption) | (rw [if_neg (by omega), if_pos (by omega)]; assumption) | (rw [if_neg (by omega), if_neg (by omega), if_pos (by omega)]; assumption) | (rw [if_neg (by omega), if_neg (by omega), if_neg (by omega)]; omega)) }) (by rw [if_neg (by omega)]) (Frm.rf))
    · replace q6 : ¬ (¬ (v1 : Int) = 5) := q6
      refine Tx.aload_n hC te_162_49 rfl ?_
      refine Tx.getR hC te_162_50 rfl rfl rfl ?_
      refine Tx.aload_n hC te_162_53 rfl ?_
      refine Tx.iload_n hC te_162_54 rfl ?_
      refine Tx.virtI hC te_162_55 mt_24 (args := [.inr 1, .inl o]) (rest := [.inr 135]) (c' := 0) (s' := 0) rfl rfl rfl rfl rfl rfl rfl rfl rfl rfl ?_
      refine f_24q (by omega) (fun r17 r17e r17i => ?_)
      unfold InI at r17i
      refine Tx.aaldP hC te_162_58 (by omega) (fun R eR => ?_)
      have hR : shA R = some (.inl 64) := rowP eR (by omega)
      refine Tx.iload_n hC te_162_59 rfl ?_
      refine Tx.aload_n hC te_162_60 rfl ?_
      refine Tx.iload_n hC te_162_61 rfl ?_
      refine Tx.virtI hC te_162_62 mt_25 (args := [.inr 1, .inl o]) (rest := [.inl t, .inr R]) (c' := 0) (s' := 0) rfl rfl rfl rfl rfl rfl rfl rfl rfl rfl ?_
      refine f_25q (by omega) (fun r20 r20e r20i => ?_)
      unfold InI at r20i
      refine Tx.iaddW hC te_162_65 (fun z23 z23i z23e => ?_)
      unfold InI at z23i z23e
      first | replace z23e := z23e (by omega) | clear z23e
      refine Tx.iload hC te_162_66 rfl ?_
      refine Tx.iast hC te_162_68 hR (by omega) ?_
      refine Tx.iload hC te_162_69 rfl ?_
      exact Tx.ireturn hC te_162_71 rfl (fun hr => show K r3 (upm mem R (Int.toNat z23) r3) from H _ _ (by { rw [acC_eq, et]; first | (rw [if_pos (by omega), r3e, eR, ← r17e, ← r20e]; congr 1; omega) | (rw [if_neg (by omega), if_pos (by omega)]; assumption) | (rw [if_neg (by omega), if_neg (by omega), ← r3e, ← hh]; unfold opM; first | (rw [if_pos (by omega)]; assumption) | (rw [if_neg (by omega), if_pos (by omega)]; assumption) | (rw [if_neg (by omega), if_neg (by omega), if_pos (by omega)]; assumption) | (rw [if_neg (by omega), if_neg (by omega), if_neg (by omega)]; omega)) }) (by { rw [if_pos (by omega), eR, ← r17e, ← r20e]; congr 1; omega }) (Frm.up Frm.rf (by unfold pPx; omega)))
  · replace q2 : ¬ (¬ (v1 : Int) = 4) := q2
    refine Tx.aload_n hC te_162_14 rfl ?_
    refine Tx.getR hC te_162_15 rfl rfl rfl ?_
    refine Tx.aload_n hC te_162_18 rfl ?_
    refine Tx.iload_n hC te_162_19 rfl ?_
    refine Tx.virtI hC te_162_20 mt_24 (args := [.inr 1, .inl o]) (rest := [.inr 135]) (c' := 0) (s' := 0) rfl rfl rfl rfl rfl rfl rfl rfl rfl rfl ?_
    refine f_24q (by omega) (fun r25 r25e r25i => ?_)
    unfold InI at r25i
    refine Tx.aaldP hC te_162_23 (by omega) (fun R eR => ?_)
    have hR : shA R = some (.inl 64) := rowP eR (by omega)
    refine Tx.iload_n hC te_162_24 rfl ?_
    refine Tx.aload_n hC te_162_25 rfl ?_
    refine Tx.iload_n hC te_162_26 rfl ?_
    refine Tx.virtI hC te_162_27 mt_25 (args := [.inr 1, .inl o]) (rest := [.inl t, .inr R]) (c' := 0) (s' := 0) rfl rfl rfl rfl rfl rfl rfl rfl rfl rfl ?_
    refine f_25q (by omega) (fun r28 r28e r28i => ?_)
    unfold InI at r28i
    refine Tx.iaddW hC te_162_30 (fun z31 z31i z31e => ?_)
    unfold InI at z31i z31e
    first | replace z31e := z31e (by omega) | clear z31e
    refine Tx.iald hC te_162_31 hR (by omega) (fun v32 v32e v32i => ?_)
    unfold InI at v32i
    exact Tx.ireturn hC te_162_32 rfl (fun hr => show K v32 mem from H _ _ (by { rw [acC_eq, et]; first | (rw [if_pos (by omega), v32e, eR, ← r25e, ← r28e]; congr 1; omega) | (rw [if_neg (by omega), if_pos (by omega)]; assumption) | (rw [if_neg (by omega), if_neg (by omega), ← hh, ← hh]; unfold opM; first | (rw [if_pos (by omega)]; assumption) | (rw [if_neg (by omega), if_pos (by omega)]; assumption) | (rw [if_neg (by omega), if_neg (by omega), if_pos (by omega)]; assumption) | (rw [if_neg (by omega), if_neg (by omega), if_neg (by omega)]; omega)) }) (by rw [if_neg (by omega)]) (Frm.rf))
theorem f_161x {S : Nat × (Nat → Int32)} {n : Nat} {mem : MM} {K : MM → Prop} {E : Nat → MM → Prop} (hB : BodyOK mem) (hS : SndX mem) {t : Int} (ht : 0 ≤ t ∧ t ≤ 40) (H : ∀ m', Frm pPx mem m' → PlC m' (trM (acsC mem) (mem 1 0).toNat t.toNat) (mem 1 0).toNat t.toNat 0 → K m') : CQV (Ex S (n + 4)) 161 [.inr 134, .inr 1, .inl t] mem K E := by
  refine CY.of (k := 2) mt_161 rfl rfl (fun hv => ?_)
  have hC := Ex.mono S (n + 3)
  have ii_t : InI t := hv (.inl t) (by simp)
  unfold InI at ii_t
  clear hv
  have h8 := hB.1
  show Tx (Ex S (n + 3)) S M_161 (kV K E) 0 0 0 [some (.inr 134), some (.inr 1), some (.inl t), none, none] [] mem
  have l_43 : ∀ (N : Nat) (x3 : Int) (m_43 : MM), (0 ≤ x3 ∧ x3 ≤ t) → (PlC m_43 (trM (acsC mem) (mem 1 0).toNat (Int.toNat x3)) (mem 1 0).toNat (Int.toNat x3) 0) → ((40 - x3).toNat) < N → Frm pPx mem m_43 → Tx (Ex S (n + 3)) S M_161 (kV K E) 0 0 43 [some (.inr 134), some (.inr 1), some (.inl t), some (.inl x3), none] [] m_43 := by
    intro N
    induction N with
    | zero => intros; omega
    | succ N ih_43 =>
      intro x3 m_43 i43_0 i43_1 hN_43 hF_43
      have l_51 : ∀ (N : Nat) (x4 : Int) (m_51 : MM), (0 ≤ x4 ∧ x4 ≤ mem 1 0) → (0 ≤ x3 ∧ x3 < t) → (PlC m_51 (opsM (acsC mem) (trM (acsC mem) (mem 1 0).toNat (Int.toNat x3)) (Int.toNat x3) (Int.toNat x4)) (mem 1 0).toNat (Int.toNat x3) (Int.toNat x4)) → ((8 - x4).toNat) < N → Frm pPx mem m_51 → Tx (Ex S (n + 3)) S M_161 (kV K E) 0 0 51 [some (.inr 134), some (.inr 1), some (.inl t), some (.inl x3), some (.inl x4)] [] m_51 := by
        intro N
        induction N with
        | zero => intros; omega
        | succ N ih_51 =>
          intro x4 m_51 i51_0 i51_1 i51_2 hN_51 hF_51
          refine Tx.iload hC te_161_51 rfl ?_
          refine Tx.aload_n hC te_161_53 rfl ?_
          refine Tx.getI hC te_161_54 rfl rfl rfl (fun v1 v1e v1i => ?_)
          unfold InI at v1i
          rw [hF_51 1 _ (by unfold pPx; omega)] at v1e
          refine Tx.icmp hC (t := 86) te_161_57 (by decide) (fun q2 => ?_) (fun q2 => ?_)
          · replace q2 : v1 ≤ (x4 : Int) := q2
            refine Tx.iincW hC te_161_86 rfl rfl (fun z3 z3i z3e => ?_)
            unfold InI at z3i z3e
            first | replace z3e := z3e (by omega) | clear z3e
            refine Tx.goto hC (t := 43) te_161_89 (by decide) ?_
            exact Tx.weak (by repeat' (first | exact trivial | exact rfl | constructor)) (ih_43 z3 m_51 (by omega) (by { have q := PlC.turn (i51_2.eqN (show Int.toNat x4 = (mem 1 0).toNat by omega)); rw [show Int.toNat z3 = Int.toNat x3 + 1 by omega]; exact q }) (by omega) hF_51)
          · replace q2 : ¬ (v1 ≤ (x4 : Int)) := q2
            refine Tx.aload_n hC te_161_60 rfl ?_
            refine Tx.getR hC te_161_61 rfl rfl rfl ?_
            refine Tx.iload hC te_161_64 rfl ?_
            refine Tx.bipush hC te_161_66 rfl rfl ?_
            refine Tx.imulW hC te_161_68 (fun z4 z4i z4e => ?_)
            unfold InI at z4i z4e
            first | replace z4e := z4e (by omega) | clear z4e
            refine Tx.iload_n hC te_161_69 rfl ?_
            refine Tx.iaddW hC te_161_70 (fun z5 z5i z5e => ?_)
            unfold InI at z5i z5e
            first | replace z5e := z5e (by omega) | clear z5e
            refine Tx.aload_n hC te_161_71 rfl ?_
            refine Tx.aload_n hC te_161_72 rfl ?_
            refine Tx.iload hC te_161_73 rfl ?_
            refine Tx.iload_n hC te_161_75 rfl ?_
            refine Tx.virtI hC te_161_76 mt_162 (args := [.inr 134, .inr 1, .inl x4, .inl x3]) (rest := [.inl z5, .inr 138]) (c' := 0) (s' := 0) rfl rfl rfl rfl rfl rfl rfl rfl rfl rfl ?_
            refine f_162x (hB.fr (fun A i a b => hF_51 A i (by unfold pPx; omega))) (by omega) (by omega) (fun r6 m7 r6v r6m r6f r6i => ?_)
            have hF8n : Frm pPx mem m7 := hF_51.tr r6f
            unfold InI at r6i
            refine Tx.iast hC te_161_79 rfl (by omega) ?_
            obtain ⟨m9, hm9⟩ : ∃ m' : MM, m' = upm m7 138 (Int.toNat z5) r6 := ⟨_, rfl⟩
            rw [← hm9]
            have hF10 : Frm pPx mem m9 := by { rw [hm9]; exact Frm.up (hF8n) (by unfold pPx; omega) }
            refine Tx.iincW hC te_161_80 rfl rfl (fun z11 z11i z11e => ?_)
            unfold InI at z11i z11e
            first | replace z11e := z11e (by omega) | clear z11e
            refine Tx.goto hC (t := 51) te_161_83 (by decide) ?_
            exact ih_51 z11 m9 (by omega) (by omega) (by { have q := i51_2.step (m2 := m9) hB hS (fun A i a b => hF_51 A i (by unfold pPx; omega)) rfl (by omega) (by omega) (by { rw [hm9, r6m, show Int.toNat z5 = 40 * Int.toNat x4 + Int.toNat x3 by omega, r6v, show ((Int.toNat x3 : Nat) : Int) = x3 by omega] }); rw [show Int.toNat z11 = Int.toNat x4 + 1 by omega]; exact q }) (by omega) hF10
      refine Tx.iload_n hC te_161_43 rfl ?_
      refine Tx.iload_n hC te_161_44 rfl ?_
      refine Tx.icmp hC (t := 92) te_161_45 (by decide) (fun q12 => ?_) (fun q12 => ?_)
      · replace q12 : t ≤ (x3 : Int) := q12
        exact Tx.vret hC te_161_92 rfl (show K m_43 from H _ hF_43 (by { have e : Int.toNat x3 = Int.toNat t := by { omega }; rw [← e]; exact i43_1 }))
      · replace q12 : ¬ (t ≤ (x3 : Int)) := q12
        refine Tx.iconst hC te_161_48 rfl ?_
        refine Tx.istore hC te_161_49 rfl ?_
        exact l_51 _ 0 m_43 (by omega) (by omega) (i43_1) (Nat.lt_succ_self _) hF_43
  have l_2 : ∀ (N : Nat) (x3 : Int) (m_2 : MM), (0 ≤ x3) → (∀ j : Nat, (j : Int) < x3 → m_2 136 j = 3 * (j : Int) + 1 ∧ m_2 137 j = 7 * (j : Int) - 5) → ((64 - x3).toNat) < N → Frm pPx mem m_2 → Tx (Ex S (n + 3)) S M_161 (kV K E) 0 0 2 [some (.inr 134), some (.inr 1), some (.inl t), some (.inl x3), none] [] m_2 := by
    intro N
    induction N with
    | zero => intros; omega
    | succ N ih_2 =>
      intro x3 m_2 i2_0 i2_1 hN_2 hF_2
      refine Tx.iload_n hC te_161_2 rfl ?_
      refine Tx.bipush hC te_161_3 rfl rfl ?_
      refine Tx.icmp hC (t := 41) te_161_5 (by decide) (fun q13 => ?_) (fun q13 => ?_)
      · replace q13 : 64 ≤ (x3 : Int) := q13
        refine Tx.iconst hC te_161_41 rfl ?_
        refine Tx.istore_n hC te_161_42 rfl ?_
        exact l_43 _ 0 m_2 (by omega) (PlC.of_fill (fun j hj => i2_1 j (by omega))) (Nat.lt_succ_self _) hF_2
      · replace q13 : ¬ (64 ≤ (x3 : Int)) := q13
        refine Tx.aload_n hC te_161_8 rfl ?_
        refine Tx.getR hC te_161_9 rfl rfl rfl ?_
        refine Tx.iconst hC te_161_12 rfl ?_
        refine Tx.aaldP hC te_161_13 (by omega) (fun R eR => ?_)
        have hR : shA R = some (.inl 64) := rowP eR (by omega)
        refine Tx.iload_n hC te_161_14 rfl ?_
        refine Tx.iconst hC te_161_15 rfl ?_
        refine Tx.iload_n hC te_161_16 rfl ?_
        refine Tx.imulW hC te_161_17 (fun z14 z14i z14e => ?_)
        unfold InI at z14i z14e
        first | replace z14e := z14e (by omega) | clear z14e
        refine Tx.iconst hC te_161_18 rfl ?_
        refine Tx.iaddW hC te_161_19 (fun z15 z15i z15e => ?_)
        unfold InI at z15i z15e
        first | replace z15e := z15e (by omega) | clear z15e
        refine Tx.iast hC te_161_20 hR (by omega) ?_
        obtain ⟨m16, hm16⟩ : ∃ m' : MM, m' = upm m_2 R (Int.toNat x3) z15 := ⟨_, rfl⟩
        rw [← hm16]
        have hF17 : Frm pPx mem m16 := by { rw [hm16]; exact Frm.up (hF_2) (by unfold pPx; omega) }
        rw [show R = 136 by omega] at hm16
        refine Tx.aload_n hC te_161_21 rfl ?_
        refine Tx.getR hC te_161_22 rfl rfl rfl ?_
        refine Tx.iconst hC te_161_25 rfl ?_
        refine Tx.aaldP hC te_161_26 (by omega) (fun R eR => ?_)
        have hR : shA R = some (.inl 64) := rowP eR (by omega)
        refine Tx.iload_n hC te_161_27 rfl ?_
        refine Tx.bipush hC te_161_28 rfl rfl ?_
        refine Tx.iload_n hC te_161_30 rfl ?_
        refine Tx.imulW hC te_161_31 (fun z18 z18i z18e => ?_)
        unfold InI at z18i z18e
        first | replace z18e := z18e (by omega) | clear z18e
        refine Tx.iconst hC te_161_32 rfl ?_
        refine Tx.isubW hC te_161_33 (fun z19 z19i z19e => ?_)
        unfold InI at z19i z19e
        first | replace z19e := z19e (by omega) | clear z19e
        refine Tx.iast hC te_161_34 hR (by omega) ?_
        obtain ⟨m20, hm20⟩ : ∃ m' : MM, m' = upm m16 R (Int.toNat x3) z19 := ⟨_, rfl⟩
        rw [← hm20]
        have hF21 : Frm pPx mem m20 := by { rw [hm20]; exact Frm.up (hF17) (by unfold pPx; omega) }
        rw [show R = 137 by omega] at hm20
        refine Tx.iincW hC te_161_35 rfl rfl (fun z22 z22i z22e => ?_)
        unfold InI at z22i z22e
        first | replace z22e := z22e (by omega) | clear z22e
        refine Tx.goto hC (t := 2) te_161_38 (by decide) ?_
        exact ih_2 z22 m20 (by omega) (fun j hj => by
              rw [hm20, hm16]
              by_cases w : j = Int.toNat x3
              · subst w
                refine ⟨?_, ?_⟩
                · rw [upm_ne (by omega), upm_eq]; omega
                · rw [upm_eq]; omega
              · rw [upm_ne (by omega), upm_ne (by omega), upm_ne (by omega), upm_ne (by omega)]; exact i2_1 j (by omega)) (by omega) hF21
  refine Tx.iconst hC te_161_0 rfl ?_
  refine Tx.istore_n hC te_161_1 rfl ?_
  exact l_2 _ 0 mem (by omega) (fun j hj => absurd hj (by omega)) (Nat.lt_succ_self _) Frm.rf
end
section
/-! laid by wip/hand/tg.py: a loop turn by turn -/
theorem f_151n {S : Nat × (Nat → Int32)} {n : Nat} {mem : MM} {K : MM → Prop} {E : Nat → MM → Prop} {t : Int} (H : 0 ≤ t ∧ t ≤ 40 → K mem) (HE : ¬ (0 ≤ t ∧ t ≤ 40) → E 0 mem) : CQV (Ex S (n + 1)) 151 [.inl t] mem K E := by
  refine CY.of (k := 0) mt_151 rfl rfl (fun hv => ?_)
  have hC := Ex.mono S n
  have ii_t : InI t := hv (.inl t) (by simp)
  unfold InI at ii_t
  clear hv
  show Tx (Ex S n) S M_151 (kV K E) 0 0 0 [some (.inl t)] [] mem
  refine Tx.iload_n hC te_151_0 rfl ?_
  refine Tx.ifc hC (t := 10) te_151_1 (by decide) (fun q1 => ?_) (fun q1 => ?_)
  · replace q1 : (t : Int) < 0 := q1
    exact Tx.thr hC te_151_10 rfl rfl rfl rfl rfl (show E 0 mem from HE (by omega))
  · replace q1 : ¬ ((t : Int) < 0) := q1
    refine Tx.iload_n hC te_151_4 rfl ?_
    refine Tx.bipush hC te_151_5 rfl rfl ?_
    refine Tx.icmp hC (t := 21) te_151_7 (by decide) (fun q2 => ?_) (fun q2 => ?_)
    · replace q2 : (t : Int) ≤ 40 := q2
      exact Tx.vret hC te_151_21 rfl (show K mem from H (by omega))
    · replace q2 : ¬ ((t : Int) ≤ 40) := q2
      exact Tx.thr hC te_151_10 rfl rfl rfl rfl rfl (show E 0 mem from HE (by omega))
end
section
/-! laid by wip/hand/tg.py: cycles, flat, peel, holes, who of the class, exactly -/
def cyN (d e t : Int) : Int := if 0 < t then d * (t - 1) + e else 0
def whB (un bu s : Nat → Int) (d u k x : Int) (n : Int) : Prop := InI x ∧ ∀ j : Nat, Bt x j ↔ (j : Int) < n ∧ un j = u ∧ 0 < us1 d (s j) (bu j) k
theorem whB.ini {un bu s : Nat → Int} {d u k : Int} : whB un bu s d u k 0 0 := ⟨by unfold InI; omega, fun j => ⟨fun z => absurd z Bt_0, fun z => absurd z.1 (by omega)⟩⟩
theorem whB.no {un bu s : Nat → Int} {d u k x n y : Int} (h : whB un bu s d u k x n) (e : y = n + 1) (h0 : 0 ≤ n) (q : ¬ (un n.toNat = u ∧ 0 < us1 d (s n.toNat) (bu n.toNat) k)) : whB un bu s d u k x y := ⟨h.1, fun j => by
  rw [h.2 j]
  constructor
  · exact fun w => ⟨by omega, w.2⟩
  · intro w
    refine ⟨?_, w.2⟩
    by_cases c : j = n.toNat
    · rw [c] at w; exact absurd w.2 q
    · omega⟩
end
section
/-! the reference's cycles, exactly -/
section RCY
variable {S : Nat × (Nat → Int32)} {n : Nat} {mem : MM} {K : Int → MM → Prop} {d : Int}
theorem spR_rg (hO : OpsOK mem) (hd : 1 ≤ d ∧ d ≤ 12) (hT : TmOK mem d) : 0 ≤ spR mem ∧ spR mem ≤ 147 := by
  have h8 := hO.1
  exact mxW_rg (by omega) _ (fun i hi => by
    have t := hT i (by omega)
    have l := hO.lat (o := i) (by omega)
    show mem 161 i + latF mem i ≤ 147
    omega)
theorem cyN_rg {e t : Int} (hd : 1 ≤ d ∧ d ≤ 12) (he : 0 ≤ e ∧ e ≤ 147) (ht : t ≤ 40) : 0 ≤ cyN d e t ∧ cyN d e t ≤ 700 := by
  unfold cyN
  split
  · have p := mul12 hd (y := t - 1) (c := 39) (by omega)
    omega
  · omega
theorem f_309e {x : Int} (H1 : 0 ≤ x → x ≤ 40 → K 1 mem) (H0 : ¬ (0 ≤ x ∧ x ≤ 40) → K 0 mem) : CWI (Ex S (n + 2)) 309 [.inl x] mem K :=
  CW.of (k := 0) mt_309 rfl rfl (w_309_0 (Ex.mono S (n + 1)) (f_227 (fun a b _ => ⟨Or.inr rfl, _, rfl, H1 a b⟩) (fun q _ => ⟨Or.inl rfl, _, rfl, H0 (fun z => by omega)⟩)))
theorem f_311e {x : Int} (h : RefOK mem) (H0 : ∀ m', 1 ≤ d → d ≤ 12 → 0 ≤ x → x ≤ 40 → RefOK m' → FrQ mem m' → FitR mem m' d → K 0 m') (H1 : ¬ ((1 ≤ d ∧ d ≤ 12) ∧ 0 ≤ x ∧ x ≤ 40) → K 1 mem) (H2 : ∀ m', 1 ≤ d → d ≤ 12 → 0 ≤ x → x ≤ 40 → RefOK m' → FrQ mem m' → NoFR mem m' d → K 2 m') : CWI (Ex S (n + 6)) 311 [.inr 143, .inl d, .inl x] mem K := by
  refine CW.of (k := 0) mt_311 rfl rfl (w_311_0 (Ex.mono S (n + 5)) (f_253e (fun d1 d2 _ => ⟨fun z => absurd z (by decide), fun _ => f_309e (fun x1 x2 _ => ⟨fun _ => f_268q h ⟨d1, d2⟩ (fun m' h1 h2 h3 hF _ => ⟨fun _ _ => ⟨_, rfl, H0 m' d1 d2 x1 x2 h1 h2 hF⟩, fun z => absurd (by decide) z⟩) (fun m' h1 h2 h3 hN _ => ⟨fun z => absurd rfl z, fun _ _ => ⟨_, rfl, H2 m' d1 d2 x1 x2 h1 h2 hN⟩⟩), fun z => absurd (by decide) z⟩) (fun nx _ => ⟨fun z => absurd rfl z, fun _ _ => ⟨_, rfl, H1 (fun z => nx z.2)⟩⟩)⟩) (fun nd _ => ⟨fun _ _ => ⟨_, rfl, H1 (fun z => nd z.1)⟩, fun z => absurd rfl z⟩)))
theorem f_313e {x : Int} (hO : OpsOK mem) (hd : 1 ≤ d ∧ d ≤ 12) (hx : 0 ≤ x ∧ x ≤ 40) (hT : TmOK mem d) (H : K (cyN d (spR mem) x) mem) : CWI (Ex S (n + 3)) 313 [.inr 143, .inl d, .inl x] mem K := by
  have sr := spR_rg hO hd hT
  unfold cyN at H
  refine CW.of (k := 0) mt_313 rfl rfl (w_313_0 (Ex.mono S (n + 2)) ⟨fun q => ?_, fun q _ => ⟨_, rfl, ?_⟩⟩)
  · have p := mul12 hd (y := x - 1) (c := 39) (by omega)
    rw [if_pos (by omega)] at H
    exact ⟨by unfold InI; omega, by unfold InI; omega, f_300e hO hd hT (fun _ => ⟨by unfold InI; omega, fun _ => ⟨_, rfl, H⟩⟩)⟩
  · rw [if_neg (by omega)] at H
    exact H
theorem usB_iff {s bu k : Int} : (∃ i : Nat, i < 4 ∧ bu / pw4 i % 2 = 1 ∧ (s + i) % d = k) ↔ 0 < us1 d s bu k := by
  have a0 : bu / pw4 0 = bu := Int.ediv_one bu
  have z0 : s + ((0 : Nat) : Int) = s := by omega
  constructor
  · rintro ⟨i, hi, h1, h2⟩
    have c : i = 0 ∨ i = 1 ∨ i = 2 ∨ i = 3 := by omega
    unfold us1
    rcases c with rfl | rfl | rfl | rfl
    · rw [a0] at h1
      rw [z0] at h2
      rw [if_pos (show bu % 2 = 1 ∧ s % d = k from ⟨h1, h2⟩)]
      split <;> split <;> split <;> omega
    · rw [if_pos (show bu / 2 % 2 = 1 ∧ (s + 1) % d = k from ⟨h1, h2⟩)]
      split <;> split <;> split <;> omega
    · rw [if_pos (show bu / 4 % 2 = 1 ∧ (s + 2) % d = k from ⟨h1, h2⟩)]
      split <;> split <;> split <;> omega
    · rw [if_pos (show bu / 8 % 2 = 1 ∧ (s + 3) % d = k from ⟨h1, h2⟩)]
      split <;> split <;> split <;> omega
  · intro h
    unfold us1 at h
    by_cases c0 : bu % 2 = 1 ∧ s % d = k
    · exact ⟨0, by omega, by rw [a0]; exact c0.1, by rw [z0]; exact c0.2⟩
    · by_cases c1 : bu / 2 % 2 = 1 ∧ (s + 1) % d = k
      · exact ⟨1, by omega, c1.1, c1.2⟩
      · by_cases c2 : bu / 4 % 2 = 1 ∧ (s + 2) % d = k
        · exact ⟨2, by omega, c2.1, c2.2⟩
        · by_cases c3 : bu / 8 % 2 = 1 ∧ (s + 3) % d = k
          · exact ⟨3, by omega, c3.1, c3.2⟩
          · rw [if_neg c0, if_neg c1, if_neg c2, if_neg c3] at h
            omega
def whI (un bu sl : Nat → Int) (d u k s : Int) (o r : Nat) : Prop := InI s ∧ ∀ j : Nat, Bt s j ↔ ((j < o ∧ un j = u ∧ 0 < us1 d (sl j) (bu j) k) ∨ (j = o ∧ un o = u ∧ ∃ i : Nat, i < r ∧ bu o / pw4 i % 2 = 1 ∧ (sl o + i) % d = k))
section WHI
variable {un bu sl : Nat → Int} {u k s b1 b2 : Int} {o r : Nat}
theorem whI.ini (h : whB un bu sl d u k s (o : Int)) : whI un bu sl d u k s o 0 := ⟨h.1, fun j => (h.2 j).trans ⟨fun w => Or.inl ⟨by omega, w.2⟩, fun w => w.elim (fun w => ⟨by omega, w.2⟩) (fun ⟨_, _, i, hi, _⟩ => by omega)⟩⟩
theorem whI.no (h : whI un bu sl d u k s o r) (q : ¬ (un o = u ∧ bu o / pw4 r % 2 = 1 ∧ (sl o + r) % d = k)) : whI un bu sl d u k s o (r + 1) := ⟨h.1, fun j => (h.2 j).trans ⟨fun w => w.imp id (fun ⟨e, w, i, hi, x⟩ => ⟨e, w, i, by omega, x⟩), fun w => w.imp id (fun ⟨e, w, i, hi, x⟩ => ⟨e, w, i, by
  by_cases c : i = r
  · rw [c] at x
    exact absurd ⟨w, x⟩ q
  · omega, x⟩)⟩⟩
theorem whI.out (h : whI un bu sl d u k s o 4) : whB un bu sl d u k s ((o + 1 : Nat) : Int) := ⟨h.1, fun j => by
  rw [h.2 j]
  constructor
  · rintro (w | ⟨e, w, x⟩)
    · exact ⟨by omega, w.2⟩
    · subst e
      exact ⟨by omega, w, usB_iff.mp x⟩
  · rintro ⟨a, b, c⟩
    by_cases e : j = o
    · subst e
      exact Or.inr ⟨rfl, b, usB_iff.mpr c⟩
    · exact Or.inl ⟨by omega, b, c⟩⟩
theorem whB.eq {un' bu' sl' : Nat → Int} {x y z : Int} (h : whB un bu sl d u k x z) (g : whB un' bu' sl' d u k y z) (e : ∀ j : Nat, (j : Int) < z → un j = un' j ∧ bu j = bu' j ∧ sl j = sl' j) : x = y := Bt_ext h.1 g.1 (fun j _ => by
  rw [h.2 j, g.2 j]
  constructor
  · rintro ⟨a, b, c⟩
    obtain ⟨e1, e2, e3⟩ := e j a
    rw [e1] at b
    rw [e2, e3] at c
    exact ⟨a, b, c⟩
  · rintro ⟨a, b, c⟩
    obtain ⟨e1, e2, e3⟩ := e j a
    rw [← e1] at b
    rw [← e2, ← e3] at c
    exact ⟨a, b, c⟩)
end WHI
end RCY
end
section
/-! laid by wip/hand/tg.py: gate, pays, squeeze of the class, exactly -/
def PyX (d e l r : Int) : Prop := (1 ≤ r ∧ r ≤ 40 ∧ cyN d e r < r * l ∧ ∀ k : Int, 1 ≤ k → k < r → ¬ cyN d e k < k * l) ∨ (r = -1 ∧ ∀ k : Int, 1 ≤ k → k ≤ 40 → ¬ cyN d e k < k * l)
theorem PyX.eq {d e l r r' : Int} (h : PyX d e l r) (g : PyX d e l r') : r = r' := by
  rcases h with ⟨h1, h2, h3, h4⟩ | ⟨h1, h2⟩
  · rcases g with ⟨g1, g2, g3, g4⟩ | ⟨g1, g2⟩
    · by_cases q : r < r'
      · exact absurd h3 (g4 r h1 q)
      · by_cases q2 : r' < r
        · exact absurd g3 (h4 r' g1 q2)
        · omega
    · exact absurd h3 (g2 r h1 h2)
  · rcases g with ⟨g1, g2, g3, g4⟩ | ⟨g1, g2⟩
    · exact absurd g3 (h2 r' g1 g2)
    · omega
def NmF (m : MM) (d : Int) (T : Nat → Int) : Int := smF (fun o => cpF (m 2 o) (lvN (csN m) (sAC m) (sBC m) T d (T o + cLa m o) o (m 1 0).toNat) d) (m 1 0).toNat
theorem FiC.nm {m : MM} {d : Int} {Q : Nat} (h : FiC m d Q) : m Q 6 = NmF m d (m (Q + 2)) := by
  obtain ⟨-, -, -, -, -, -, x3, -, -, xl, ⟨n5, n6, n7⟩, -⟩ := h
  rw [n6]
  unfold NmF
  refine smF_cg _ (fun o ho => ?_)
  rw [n5 o (by omega), xl o (by omega), x3 o (by omega)]
theorem NmF.cg {m m' : MM} {d : Int} {T : Nat → Int} (e : ∀ A i, (0 < A ∧ A < 9 ∧ ¬ A = 4) → m' A i = m A i) : NmF m' d T = NmF m d T := by
  have c1 : csN m' = csN m := funext fun o => by unfold csN; rw [e 2 o (by omega)]
  have c2 : sAC m' = sAC m := funext fun u => funext fun k => e 3 _ (by omega)
  have c3 : sBC m' = sBC m := funext fun u => funext fun k => e 3 _ (by omega)
  have c4 : cLa m' = cLa m := cLa.cg e
  have k2 : m' 2 = m 2 := funext fun i => e 2 i (by omega)
  unfold NmF
  rw [c1, c2, c3, c4, k2, e 1 0 (by omega)]
def SqN (m : MM) (k z : Int) : Prop := NoD m k ∨ ∃ s T, FiT m k s T ∧ z < NmF m k T
def SqX (m : MM) (z r : Int) : Prop := (1 ≤ r ∧ r ≤ 12 ∧ (∃ s T, FiT m r s T ∧ NmF m r T ≤ z) ∧ ∀ k : Int, 1 ≤ k → k < r → SqN m k z) ∨ (r = -1 ∧ ∀ k : Int, 1 ≤ k → k ≤ 12 → SqN m k z)
theorem FiT.fr {m m' : MM} {d : Int} {s T : Nat → Int} {Q : Nat} (h : FiT m d s T) (hF : Frm (p85 Q) m m') (hq : 38 ≤ Q) : FiT m' d s T := by
  obtain ⟨h1, h2, h3⟩ := h
  refine ⟨h1.fr (fun A i a b => hF A i (by unfold p85; omega)), h2.fr (fun A i q => hF A i (by unfold p85; omega)), ?_⟩
  rw [CPb.cg (fun A i q => hF A i (by unfold p85; omega)), hF 9 5 (by unfold p85; omega), hF 9 6 (by unfold p85; omega)]
  exact h3
theorem SqN.fr {m m' : MM} {k z : Int} {Q : Nat} (h : SqN m k z) (hF : Frm (p85 Q) m m') (hq : 38 ≤ Q) : SqN m' k z := h.imp (fun w => w.fr hF hq) (fun ⟨s, T, w, x⟩ => ⟨s, T, w.fr hF hq, by rw [NmF.cg (fun A i q => hF A i (by unfold p85; omega))]; exact x⟩)
theorem SqN.of {m : MM} {d z : Int} {Q : Nat} (h : FiC m d Q) (e : z < m Q 6) : SqN m d z := Or.inr ⟨_, _, h.t, by rw [← h.nm]; exact e⟩
end
section
/-! waits for loads that come late: a model -/
def LtP : Type := (Nat → Int) × (Nat → Int) × (Nat → Int → Int) × (Nat → Int) × (Nat → Nat → Int) × (Nat → Nat → Int) × Int × Int × Nat
def LtP.T (p : LtP) : Nat → Int := p.1
def LtP.sl (p : LtP) : Nat → Int := p.2.1
def LtP.dl (p : LtP) : Nat → Int → Int := p.2.2.1
def LtP.cs (p : LtP) : Nat → Int := p.2.2.2.1
def LtP.sa (p : LtP) : Nat → Nat → Int := p.2.2.2.2.1
def LtP.sb (p : LtP) : Nat → Nat → Int := p.2.2.2.2.2.1
def LtP.d (p : LtP) : Int := p.2.2.2.2.2.2.1
def LtP.n (p : LtP) : Int := p.2.2.2.2.2.2.2.1
def LtP.N (p : LtP) : Nat := p.2.2.2.2.2.2.2.2
def LtP.Ok (p : LtP) : Prop := (1 ≤ p.d ∧ p.d ≤ 12) ∧ (∀ o, o < p.N → 0 ≤ p.T o ∧ p.T o % p.d = p.sl o) ∧ ∀ o k : Nat, o < p.N → (k : Int) < p.cs o → 0 ≤ p.sa o k → (p.sa o k).toNat < p.N ∧ 0 ≤ p.sb o k ∧ p.T (p.sa o k).toNat + 1 ≤ p.T o + p.d * p.sb o k ∧ ∀ t, 1 ≤ p.dl (p.sa o k).toNat t ∧ p.T (p.sa o k).toNat + p.dl (p.sa o k).toNat t ≤ p.T o + p.d * p.sb o k + 9
def dlC (m : MM) (M E : Int) (a : Nat) (t : Int) : Int := cLa m a + if m 2 a = 4 ∧ (t + plcB m a) % M = 0 then E else 0
def lyC (m : MM) (d : Int) (Q : Nat) (M E n : Int) : LtP := (m (Q + 2), m (Q + 1), dlC m M E, csN m, sAC m, sBC m, d, n, (m 1 0).toNat)
theorem lyC.fr {m m' : MM} {d M E n : Int} {Q : Nat} (fr : ∀ A i, ¬ A = 141 → ¬ A = 142 → m' A i = m A i) (hq : Q ≤ 122) : lyC m' d Q M E n = lyC m d Q M E n := by
  have r1 : m' (Q + 1) = m (Q + 1) := funext fun i => fr _ i (by omega) (by omega)
  have r2 : m' (Q + 2) = m (Q + 2) := funext fun i => fr _ i (by omega) (by omega)
  have c1 : csN m' = csN m := funext fun o => by unfold csN; rw [fr 2 o (by omega) (by omega)]
  have c2 : sAC m' = sAC m := funext fun u => funext fun k => fr 3 _ (by omega) (by omega)
  have c3 : sBC m' = sBC m := funext fun u => funext fun k => fr 3 _ (by omega) (by omega)
  have c4 : dlC m' M E = dlC m M E := funext fun a => funext fun t => by
    unfold dlC cLa plcB
    rw [fr 2 a (by omega) (by omega), fr 6 _ (by omega) (by omega), fr 3 _ (by omega) (by omega), fr 3 _ (by omega) (by omega)]
  unfold lyC
  rw [r1, r2, c1, c2, c3, c4, fr 1 0 (by omega) (by omega)]
end
section
/-! late of the reference, exactly -/
def LtE (p q : LtP) : Prop := p.N = q.N ∧ p.d = q.d ∧ p.n = q.n ∧ ∀ o, o < p.N → p.T o = q.T o ∧ p.sl o = q.sl o ∧ p.cs o = q.cs o ∧ p.cs o ≤ 2 ∧ (∀ t, p.dl o t = q.dl o t) ∧ ∀ k : Nat, k < 2 → p.sa o k = q.sa o k ∧ p.sb o k = q.sb o k
theorem LtE.ok {p q : LtP} (h : LtE p q) (hp : p.Ok) : q.Ok := by
  obtain ⟨hd, hT, hS⟩ := hp
  refine ⟨by rw [← h.2.1]; exact hd, fun o ho => ?_, fun o k ho hk hs => ?_⟩
  · have ho' : o < p.N := by rw [h.1]; exact ho
    have e := h.2.2.2 o ho'
    rw [← e.1, ← e.2.1, ← h.2.1]
    exact hT o ho'
  · have ho' : o < p.N := by rw [h.1]; exact ho
    have e := h.2.2.2 o ho'
    rw [← e.2.2.1] at hk
    have k2 : k < 2 := by have := e.2.2.2.1; omega
    have ek := e.2.2.2.2.2 k k2
    rw [← ek.1] at hs
    obtain ⟨a1, a2, a3, a4⟩ := hS o k ho' hk hs
    have ea := h.2.2.2 _ a1
    rw [← ek.1, ← ek.2, ← h.1, ← h.2.1, ← e.1, ← ea.1]
    exact ⟨a1, a2, a3, fun t => by rw [← ea.2.2.2.2.1]; exact a4 t⟩
end
