/-! canBe: no ring of whole turns above 0 -/
/-- edges: turns that a way asks for, by slots -/
def UE (m : MM) (k : Nat) (d : Int) (a b : Nat) (x : Int) : Prop := a < k ∧ b < k ∧ ¬ WM m 158 a b = -1000 ∧ d * (x - 1) < WM m 158 a b + m 160 a - m 160 b ∧ WM m 158 a b + m 160 a - m 160 b ≤ d * x
def CanOK (m : MM) (d : Int) (k : Nat) : Prop := FwI 20000 (UE m k d) 162 k m k 0 0 ∧ ∀ o, o < k → WM m 162 o o ≤ 0
theorem UE.fr {m m' : MM} (h : Fr1 162 m m') (k : Nat) (d : Int) : UE m' k d = UE m k d := by
  funext a b x
  unfold UE WM
  simp only [h 158 _ (by omega), h 160 _ (by omega)]
theorem ceil1 {d t x y : Int} (hd : 0 < d) (h1 : d * (x - 1) < t) (h2 : t ≤ d * y) : x ≤ y := by
  have : d * (x - 1) < d * y := by omega
  have := Int.lt_of_mul_lt_mul_left this (by omega)
  omega
section CAN
variable {S : Nat × (Nat → Int32)} {n : Nat} {m0 : MM} {d : Int} {k : Nat}
theorem cb_217 {mem : MM} (hk : k ≤ 8) {Kk : WK} (H1 : (∀ o, o < k → WM mem 162 o o ≤ 0) → Kk (some 1) mem) (H0 : Kk (some 0) mem) : ∀ (N : Nat) (o : Nat), o ≤ k → k - o < N → (∀ o2, o2 < o → WM mem 162 o2 o2 ≤ 0) → Wx (Ex S (n + 1)) S M_274 Kk 217 [some (.inr 143), some (.inl (k : Int)), some (.inl d), some (.inl (o : Int)), none, none, none, none] [] mem := by
  intro N
  induction N with
  | zero => intros; omega
  | succ N ih =>
    intro o ho hN hA
    refine w_274_217 (Ex.mono S (n + 1)) ⟨fun q => H1 (fun o2 h2 => hA o2 (by omega)), fun q => ⟨by unfold InI; omega, by unfold InI; omega, by omega, fun v e _ => ?_⟩⟩
    have e : v = WM mem 162 o o := by rw [e, ix8]; rfl
    refine ⟨fun q2 => ⟨by unfold InI; omega, ih (o + 1) (by omega) (by omega) (fun o2 h2 => ?_)⟩, fun _ => H0⟩
    by_cases e3 : o2 = o
    · subst e3; omega
    · exact hA o2 (by omega)
theorem cb_108 (hk : k ≤ 8) {Kk : WK} (H1 : ∀ m', Fr1 162 m0 m' → CanOK m' d k → Kk (some 1) m') (H0 : ∀ m', Fr1 162 m0 m' → Kk (some 0) m') : ∀ (N : Nat) (m a b : Nat) (mem : MM), m < k → a < k → b ≤ k → 81 * (k - m) + 9 * (k - a) + (k - b) < N → Fr1 162 m0 mem → FwI 20000 (UE m0 k d) 162 k mem m a b → Wx (Ex S (n + 1)) S M_274 Kk 108 [some (.inr 143), some (.inl (k : Int)), some (.inl d), some (.inl (m : Int)), some (.inl (a : Int)), some (.inl (b : Int)), none, none] [] mem := by
  intro N
  induction N with
  | zero => intros; omega
  | succ N ih =>
    intro m a b mem hm ha hb hNN hF hI
    have go : ∀ mem', Fr1 162 mem mem' → b < k → FwI 20000 (UE m0 k d) 162 k mem' m a (b + 1) → InI ((b : Int) + 1) ∧ Wx (Ex S (n + 1)) S M_274 Kk 108 [some (.inr 143), some (.inl (k : Int)), some (.inl d), some (.inl (m : Int)), some (.inl (a : Int)), some (.inl ((b : Int) + 1)), none, none] [] mem' := fun mem' h1 h2 h3 => ⟨by unfold InI; omega, ih m a (b + 1) mem' hm ha (by omega) (by omega) (hF.tr h1) h3⟩
    refine w_274_108 (Ex.mono S (n + 1)) ⟨fun q => ⟨by unfold InI; omega, ?_⟩, fun q => ?_⟩
    · rw [show b = k by omega] at hI
      have hI := hI.nextA
      refine w_274_99 (Ex.mono S (n + 1)) ⟨fun q2 => ⟨by unfold InI; omega, ?_⟩, fun q2 => ?_⟩
      · rw [show a + 1 = k by omega] at hI
        have hI := hI.nextM
        refine w_274_91 (Ex.mono S (n + 1)) ⟨fun q3 => ?_, fun q3 => ?_⟩
        · rw [show m + 1 = k by omega] at hI
          refine cb_217 hk (fun hD => H1 mem hF ⟨?_, hD⟩) (H0 mem hF) 9 0 (by omega) (by omega) (fun o2 h => by omega)
          rw [UE.fr hF]; exact hI
        · refine w_274_99 (Ex.mono S (n + 1)) ⟨fun q4 => by omega, fun q4 => ?_⟩
          exact ih (m + 1) 0 0 mem (by omega) (by omega) (by omega) (by omega) hF hI
      · exact ih m (a + 1) 0 mem hm (by omega) (by omega) (by omega) hF hI
    · have hb2 : b < k := by omega
      have r1 := hI.1 a m ha hm
      have r2 := hI.1 m b hm hb2
      have r0 := hI.1 a b ha hb2
      have hi : ∀ x y : Nat, x < k → y < k → InI (8 * (x : Int)) ∧ InI (8 * (x : Int) + y) ∧ (0 ≤ 8 * (x : Int) + y ∧ 8 * (x : Int) + y < 64) := fun x y h1 h2 => by unfold InI; omega
      obtain ⟨i1, i2, i3⟩ := hi a m ha hm
      obtain ⟨j1, j2, j3⟩ := hi m b hm hb2
      obtain ⟨k1, k2, k3⟩ := hi a b ha hb2
      refine ⟨i1, i2, i3, fun v2 e2 _ => ⟨j1, j2, j3, fun v3 e3 _ => ?_⟩⟩
      have e2 : v2 = WM mem 162 a m := by rw [e2, ix8]; rfl
      have e3 : v3 = WM mem 162 m b := by rw [e3, ix8]; rfl
      refine ⟨fun q2 => go mem Fr1.rf hb2 (hI.skip hm ha hb2 (Or.inl (by omega))), fun q2 => ⟨fun q3 => go mem Fr1.rf hb2 (hI.skip hm ha hb2 (Or.inr (by omega))), fun q3 => ⟨k1, k2, k1, k2, k3, fun v4 e4 _ => ⟨by unfold InI; omega, ?_⟩⟩⟩⟩
      have e4 : v4 = WM mem 162 a b := by rw [e4, ix8]; rfl
      refine f_258 (fun _ _ => f_257 (fun _ _ => ⟨k3, ?_⟩))
      rw [ix8, e2, e3, e4]
      exact go _ Fr1.up hb2 (hI.upd (by omega) hk hm ha hb2 (by omega) (by omega))
/-- an entry as it is first: no way, or turns rounded up -/
def UE0 (m0 : MM) (k : Nat) (d : Int) (mem : MM) (a b : Nat) : Prop := (WM m0 158 a b = -1000 ∧ WM mem 162 a b = -1000) ∨ UE m0 k d a b (WM mem 162 a b)
theorem cb_10 (hk : k ≤ 8) (hd : 1 ≤ d ∧ d ≤ 12) (hW : ∀ a b, a < k → b < k → -5000 ≤ WM m0 158 a b ∧ WM m0 158 a b ≤ 5000) (hs : ∀ o, o < 8 → -1 ≤ m0 160 o ∧ m0 160 o ≤ 12) {Kk : WK} (H1 : ∀ m', Fr1 162 m0 m' → CanOK m' d k → Kk (some 1) m') (H0 : ∀ m', Fr1 162 m0 m' → Kk (some 0) m') : ∀ (N : Nat) (a b : Nat) (mem : MM), a < k → b ≤ k → 9 * (k - a) + (k - b) < N → Fr1 162 m0 mem → (∀ a' b', a' < k → b' < k → (a' < a ∨ (a' = a ∧ b' < b)) → UE0 m0 k d mem a' b') → Wx (Ex S (n + 1)) S M_274 Kk 10 [some (.inr 143), some (.inl (k : Int)), some (.inl d), some (.inl (a : Int)), some (.inl (b : Int)), none, none, none] [] mem := by
  intro N
  induction N with
  | zero => intros; omega
  | succ N ih =>
    intro a b mem ha hb hNN hF hU
    refine w_274_10 (Ex.mono S (n + 1)) ⟨fun q => ⟨by unfold InI; omega, ?_⟩, fun q => ?_⟩
    · refine w_274_2 (Ex.mono S (n + 1)) ⟨fun q2 => ?_, fun q2 => ?_⟩
      · have hall : ∀ a' b', a' < k → b' < k → UE0 m0 k d mem a' b' := fun a' b' h1 h2 => hU a' b' h1 h2 (by omega)
        have hI : FwI 20000 (UE m0 k d) 162 k mem 0 0 0 := by
          have uniq : ∀ a' b' x, UE m0 k d a' b' x → WM mem 162 a' b' = x := fun a' b' x hx => by
            rcases hall a' b' hx.1 hx.2.1 with ⟨g, -⟩ | g
            · exact absurd g hx.2.2.1
            · have l1 := ceil1 (by omega) g.2.2.2.1 hx.2.2.2.2
              have l2 := ceil1 (by omega) hx.2.2.2.1 g.2.2.2.2
              omega
          refine ⟨fun a' b' h1 h2 => ?_, fun hu a' b' h1 h2 p v n1 n2 n3 n4 => ?_, fun hu a' b' h1 h2 q => by omega, fun φ hφ a' b' h1 h2 hg => ?_, fun a' b' x h1 h2 hx => ?_⟩
          · rcases hall a' b' h1 h2 with ⟨-, g⟩ | g
            · omega
            · obtain ⟨-, -, -, g4, g5⟩ := g
              have w1 := hW a' b' h1 h2
              have s1 := hs a' (by omega)
              have s2 := hs b' (by omega)
              constructor
              · by_cases c : -20000 ≤ WM mem 162 a' b'
                · exact c
                · have := Int.mul_le_mul_of_nonpos_right hd.1 (show WM mem 162 a' b' ≤ 0 by omega)
                  omega
              · by_cases c : WM mem 162 a' b' ≤ 20000
                · exact c
                · have := Int.mul_le_mul_of_nonneg_right hd.1 (show 0 ≤ WM mem 162 a' b' - 1 by omega)
                  omega
          · cases p with
            | nil => rw [uniq a' b' v n3]; exact Int.le_refl _
            | cons c p => exact absurd (n2 c List.mem_cons_self) (by omega)
          · rcases hall a' b' h1 h2 with ⟨-, g⟩ | g
            · omega
            · exact hφ _ _ _ g
          · rw [uniq a' b' x hx]; exact Int.le_refl _
        refine w_274_91 (Ex.mono S (n + 1)) ⟨fun q3 => ?_, fun q3 => ?_⟩
        · omega
        · refine w_274_99 (Ex.mono S (n + 1)) ⟨fun q4 => by omega, fun q4 => ?_⟩
          exact cb_108 hk H1 H0 (81 * 8 + 9 * 8 + 8 + 1) 0 0 0 mem (by omega) (by omega) (by omega) (by omega) hF hI
      · exact ih (a + 1) 0 mem (by omega) (by omega) (by omega) hF (fun a' b' h1 h2 h3 => hU a' b' h1 h2 (by omega))
    · have hb2 : b < k := by omega
      have k1 : InI (8 * (a : Int)) := by unfold InI; omega
      have k2 : InI (8 * (a : Int) + b) := by unfold InI; omega
      have k3 : 0 ≤ 8 * (a : Int) + b ∧ 8 * (a : Int) + b < 64 := by omega
      have w1 := hW a b ha hb2
      have s1 := hs a (by omega)
      have s2 := hs b (by omega)
      have ew : ∀ x i j, j < 8 → WM (upm mem 162 (8 * a + b) x) 162 i j = if i = a ∧ j = b then x else WM mem 162 i j := fun x i j hj => WM_up (by omega) hj
      have go : ∀ x, UE0 m0 k d (upm mem 162 (8 * a + b) x) a b → InI ((b : Int) + 1) ∧ Wx (Ex S (n + 1)) S M_274 Kk 10 [some (.inr 143), some (.inl (k : Int)), some (.inl d), some (.inl (a : Int)), some (.inl ((b : Int) + 1)), none, none, none] [] (upm mem 162 (8 * a + b) x) := fun x hx => by
        refine ⟨by unfold InI; omega, ih a (b + 1) _ ha (by omega) (by omega) (hF.tr Fr1.up) (fun a' b' h1 h2 h3 => ?_)⟩
        by_cases e : a' = a ∧ b' = b
        · obtain ⟨rfl, rfl⟩ := e; exact hx
        · have := hU a' b' h1 h2 (by omega)
          unfold UE0 at this ⊢
          rw [ew x a' b' (by omega), if_neg e]; exact this
      refine ⟨k1, k2, k3, fun v1 e1 _ => ⟨k1, k2, fun q2 => ?_, fun q2 => ?_⟩⟩
      · have e1 : v1 = WM m0 158 a b := by rw [e1, ix8, hF 158 _ (by omega)]; rfl
        refine ⟨by omega, fun v2 e2 _ => ?_⟩
        rw [Int.toNat_natCast, hF 160 _ (by omega)] at e2
        refine ⟨by unfold InI; omega, by omega, fun v3 e3 _ => ?_⟩
        rw [Int.toNat_natCast, hF 160 _ (by omega)] at e3
        refine ⟨by unfold InI; omega, f_275 ⟨by omega, by omega⟩ ⟨by omega, by omega⟩ (fun u h1 h2 _ => ⟨k3, ?_⟩)⟩
        rw [ix8]
        refine go u (Or.inr ?_)
        rw [ew u a b (by omega), if_pos ⟨rfl, rfl⟩]
        exact ⟨ha, hb2, by omega, by rw [← e1, ← e2, ← e3]; exact h1, by rw [← e1, ← e2, ← e3]; exact h2⟩
      · have e1 : v1 = WM m0 158 a b := by rw [e1, ix8, hF 158 _ (by omega)]; rfl
        refine ⟨k3, ?_⟩
        rw [ix8]
        refine go _ (Or.inl ⟨by omega, ?_⟩)
        rw [ew _ a b (by omega), if_pos ⟨rfl, rfl⟩]
theorem f_274 {K : Int → MM → Prop} (hk : 1 ≤ k ∧ k ≤ 8) (hd : 1 ≤ d ∧ d ≤ 12) (hW : ∀ a b, a < k → b < k → -5000 ≤ WM m0 158 a b ∧ WM m0 158 a b ≤ 5000) (hs : ∀ o, o < 8 → -1 ≤ m0 160 o ∧ m0 160 o ≤ 12) (H1 : ∀ m', Fr1 162 m0 m' → CanOK m' d k → K 1 m') (H0 : ∀ m', Fr1 162 m0 m' → K 0 m') : CWI (Ex S (n + 2)) 274 [.inr 143, .inl (k : Int), .inl d] m0 K := by
  refine CW.of (k := 5) mt_274 rfl rfl (w_274_0 (Ex.mono S (n + 1)) (w_274_2 (Ex.mono S (n + 1)) ⟨fun q => by omega, fun q => ?_⟩))
  exact cb_10 hk.2 hd hW hs (fun m' h1 h2 => ⟨_, rfl, H1 m' h1 h2⟩) (fun m' h1 => ⟨_, rfl, H0 m' h1⟩) (9 * 8 + 8 + 1) 0 0 m0 (by omega) (by omega) (by omega) Fr1.rf (fun a' b' h1 h2 h3 => by omega)
end CAN
