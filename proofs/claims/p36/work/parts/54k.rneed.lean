/-! the reference's needs, exactly -/
def rq (m : MM) (i : Nat) : Q4 := (m 154 i, m 155 i, m 156 i, m 157 i)
def set4r (m : MM) (k : Nat) (a b d l : Int) : MM := upm (upm (upm (upm m 154 k a) 155 k b) 156 k d) 157 k l
theorem set4r_q {m : MM} {k : Nat} {a b d l : Int} : rq (set4r m k a b d l) k = (a, b, d, l) := by
  unfold rq set4r
  rw [upm_ne (A := 157) (B := 154) (by omega), upm_ne (A := 156) (B := 154) (by omega), upm_ne (A := 155) (B := 154) (by omega), upm_eq, upm_ne (A := 157) (B := 155) (by omega), upm_ne (A := 156) (B := 155) (by omega), upm_eq, upm_ne (A := 157) (B := 156) (by omega), upm_eq, upm_eq]
theorem set4r_ne {m : MM} {k A i : Nat} {a b d l : Int} (h : ¬ (154 ≤ A ∧ A ≤ 157 ∧ i = k)) : set4r m k a b d l A i = m A i := by
  unfold set4r
  rw [upm_ne (by omega), upm_ne (by omega), upm_ne (by omega), upm_ne (by omega)]
theorem set4r_o {m : MM} {k i : Nat} {a b d l : Int} (h : ¬ i = k) : rq (set4r m k a b d l) i = rq m i := by
  unfold rq
  rw [set4r_ne (by omega), set4r_ne (by omega), set4r_ne (by omega), set4r_ne (by omega)]
theorem rq_12 {m : MM} {z : Int} {i : Nat} : rq (upm m 143 12 z) i = rq m i := by
  unfold rq
  rw [upm_ne (by omega), upm_ne (by omega), upm_ne (by omega), upm_ne (by omega)]
/-- the needs, by the reference's cells -/
def NdF (m : MM) (x : Q4) : Prop := (∃ o k : Nat, (o : Int) < m 143 1 ∧ (k : Int) < srcN m o ∧ 0 ≤ srcA m o k ∧ x = (srcA m o k, (o : Int), srcB m o k, latF m (srcA m o k).toNat)) ∨ ∃ s o : Nat, (s : Int) < m 143 1 ∧ (o : Int) < m 143 1 ∧ ¬ o = s ∧ NdR (m 144) (rowF m) (plcF m) (latF m) s o x
section RND
variable {S : Nat × (Nat → Int32)} {n : Nat} {mem : MM} {Pn : Int → Int → Int → Int → Prop} {P : Q4 → Prop} {a b d l : Int}
theorem f_248e {K : Int → MM → Prop} {k : Int} (h : 0 ≤ k ∧ k < 48) (H : ∀ r, (r = 0 ∨ r = 1) → (r = 1 ↔ lt4 (a, b, d, l) (rq mem k.toNat)) → K r mem) : CWI (Ex S (n + 1)) 248 [.inr 143, .inl k, .inl a, .inl b, .inl d, .inl l] mem K := by
  have H : ∀ r, (r = 0 ∨ r = 1) → (r = 1 ↔ (a < mem 154 k.toNat ∨ (a = mem 154 k.toNat ∧ (b < mem 155 k.toNat ∨ (b = mem 155 k.toNat ∧ (d < mem 156 k.toNat ∨ (d = mem 156 k.toNat ∧ l < mem 157 k.toNat))))))) → K r mem := fun r h1 h2 => H r h1 h2
  have h0 : ¬ (a < mem 154 k.toNat ∨ (a = mem 154 k.toNat ∧ (b < mem 155 k.toNat ∨ (b = mem 155 k.toNat ∧ (d < mem 156 k.toNat ∨ (d = mem 156 k.toNat ∧ l < mem 157 k.toNat)))))) → ∃ y, some (0 : Int) = some y ∧ K y mem := fun q => ⟨_, rfl, H _ (Or.inl rfl) ⟨fun z => by omega, fun z => absurd z q⟩⟩
  have h1 : (a < mem 154 k.toNat ∨ (a = mem 154 k.toNat ∧ (b < mem 155 k.toNat ∨ (b = mem 155 k.toNat ∧ (d < mem 156 k.toNat ∨ (d = mem 156 k.toNat ∧ l < mem 157 k.toNat)))))) → ∃ y, some (1 : Int) = some y ∧ K y mem := fun q => ⟨_, rfl, H _ (Or.inr rfl) ⟨fun _ => q, fun _ => rfl⟩⟩
  refine CW.of (k := 0) mt_248 rfl rfl (w_248_0 (Ex.mono S n) ⟨h, fun v1 e1 _ => ⟨fun q1 => ⟨h, fun v2 e2 _ => ⟨fun q2 => ⟨h, fun v3 e3 _ => ⟨fun q3 => ⟨h, fun v4 e4 _ => ⟨fun _ => h0 (by omega), fun _ => h1 (by omega)⟩⟩, fun q3 => ⟨h, fun v4 e4 _ => ⟨fun _ => h0 (by omega), fun _ => h1 (by omega)⟩⟩⟩⟩, fun q2 => ⟨h, fun v4 e4 _ => ⟨fun _ => h0 (by omega), fun _ => h1 (by omega)⟩⟩⟩⟩, fun q1 => ⟨h, fun v4 e4 _ => ⟨fun _ => h0 (by omega), fun _ => h1 (by omega)⟩⟩⟩⟩)
/-- the place is made -/
theorem cn_70e {m0 : MM} {c : Int} (hc : 0 ≤ c ∧ c < 48) (h12 : m0 143 12 = c) (hP : Pn a b d l) (hr : Rg a b d l) (hA0 : NdAll Pn m0 c) (hE : Enum (rq m0) c.toNat P) (hne : ∀ j : Nat, (j : Int) < c → ¬ rq m0 j = (a, b, d, l)) {Kk : WK} (H : ∀ m', FrN m0 m' → R4 m0 m' → m' 143 12 = c + 1 → NdAll Pn m' (c + 1) → Enum (rq m') (c + 1).toNat (fun x => P x ∨ x = (a, b, d, l)) → Kk none m') : ∀ (N : Nat) (k : Int) (mem : MM), 0 ≤ k → k ≤ c → k.toNat < N → FrN m0 mem → R4 m0 mem → mem 143 12 = c → (∀ j : Nat, (j : Int) < k → rq mem j = rq m0 j) → (∀ j : Nat, k < j → (j : Int) ≤ c → rq mem j = rq m0 (j - 1)) → (∀ j : Nat, k ≤ j → (j : Int) < c → lt4 (a, b, d, l) (rq m0 j)) → Wx (Ex S (n + 1)) S M_247 Kk 70 [some (.inr 143), some (.inl a), some (.inl b), some (.inl d), some (.inl l), some (.inl k)] [] mem := by
  intro N
  induction N with
  | zero => intros; omega
  | succ N ih =>
    intro k mem hk1 hk2 hN hF h4r hc2 cA cB hi
    have hk : 0 ≤ k ∧ k < 48 := by omega
    have pn : ∀ {m : MM} {i : Nat} {x : Q4}, rq m i = x → Pn x.1 x.2.1 x.2.2.1 x.2.2.2 → Pn (m 154 i) (m 155 i) (m 156 i) (m 157 i) := fun e h => by rw [← e] at h; exact h
    have rg : ∀ {m : MM} {i : Nat} {x : Q4}, rq m i = x → Rg x.1 x.2.1 x.2.2.1 x.2.2.2 → Rg (m 154 i) (m 155 i) (m 156 i) (m 157 i) := fun e h => by rw [← e] at h; exact h
    have fin : (∀ j : Nat, (j : Int) < k → lt4 (rq m0 j) (a, b, d, l)) → ∀ v1 : Int, v1 = (upm (upm (upm (upm mem 154 (Int.toNat k) a) 155 (Int.toNat k) b) 156 (Int.toNat k) d) 157 (Int.toNat k) l) 143 12 → InI v1 → (InI (v1 + 1)) ∧ (Kk none (upm (upm (upm (upm (upm mem 154 (Int.toNat k) a) 155 (Int.toNat k) b) 156 (Int.toNat k) d) 157 (Int.toNat k) l) 143 12 (v1 + 1))) := by
      intro lo v1 e _
      have e : v1 = c := by rw [e, upm_ne (by omega), upm_ne (by omega), upm_ne (by omega), upm_ne (by omega)]; exact hc2
      subst e
      have at_ : ∀ j : Nat, (j : Int) ≤ m0 143 12 → (j = k.toNat ∧ rq (upm (set4r mem k.toNat a b d l) 143 12 (v1 + 1)) j = (a, b, d, l)) ∨ ((j : Int) < k ∧ rq (upm (set4r mem k.toNat a b d l) 143 12 (v1 + 1)) j = rq m0 j) ∨ (k < j ∧ rq (upm (set4r mem k.toNat a b d l) 143 12 (v1 + 1)) j = rq m0 (j - 1)) := fun j hj => by
        rw [rq_12]
        by_cases w : j = k.toNat
        · subst w; exact Or.inl ⟨rfl, set4r_q⟩
        · rw [set4r_o w]
          by_cases w2 : (j : Int) < k
          · exact Or.inr (Or.inl ⟨w2, cA j w2⟩)
          · exact Or.inr (Or.inr ⟨by omega, cB j (by omega) (by omega)⟩)
      refine ⟨by unfold InI; omega, H (upm (set4r mem k.toNat a b d l) 143 12 (v1 + 1)) ?_ ?_ upm_eq ?_ ?_⟩
      · intro A i h1 h2 h3 h4 h5
        rw [upm_ne h5, set4r_ne (by omega)]
        exact hF A i h1 h2 h3 h4 h5
      · intro h0 j hj
        have := h4r h0 j hj
        rw [upm_ne (by omega), upm_ne (by omega), upm_ne (by omega), upm_ne (by omega)]
        by_cases hjk : j = k.toNat
        · subst hjk; exact rg set4r_q hr
        · rw [set4r_ne (by omega), set4r_ne (by omega), set4r_ne (by omega), set4r_ne (by omega)]; exact this
      · intro j hj
        rcases at_ j (by omega) with ⟨-, e⟩ | ⟨w, e⟩ | ⟨w, e⟩
        · exact pn e hP
        · exact pn e (hA0 j (by omega))
        · exact pn e (hA0 (j - 1) (by omega))
      · rw [show (v1 + 1).toNat = v1.toNat + 1 by omega]
        refine hE.ins (t := k.toNat) (by omega) (fun j hj => lo j (by omega)) (fun j w1 w2 => hi j (by omega) (by omega)) (fun j hj => ?_) ?_ (fun j w1 w2 => ?_)
        · rcases at_ j (by omega) with ⟨w, e⟩ | ⟨w, e⟩ | ⟨w, e⟩
          · omega
          · exact e
          · omega
        · rcases at_ k.toNat (by omega) with ⟨w, e⟩ | ⟨w, e⟩ | ⟨w, e⟩
          · exact e
          · omega
          · omega
        · rcases at_ (j + 1) (by omega) with ⟨w, e⟩ | ⟨w, e⟩ | ⟨w, e⟩
          · omega
          · omega
          · exact e
    refine w_247_70 (Ex.mono S (n + 1)) ⟨fun q => ⟨hk, hk, hk, hk, fin (fun j hj => by omega)⟩, fun q => ⟨by unfold InI; omega, f_248e ⟨by omega, by omega⟩ (fun r g0 g1 _ => ⟨fun z => ⟨hk, hk, hk, hk, fin (fun j hj => ?_)⟩, fun z => ?_⟩)⟩⟩
    · rw [cA (k - 1).toNat (by omega)] at g1
      have l1 : lt4 (rq m0 (k - 1).toNat) (a, b, d, l) := by
        rcases lt4.tri (a, b, d, l) (rq m0 (k - 1).toNat) with e | e | e
        · have := g1.mpr e; omega
        · exact absurd e.symm (hne _ (by omega))
        · exact e
      by_cases w : j = (k - 1).toNat
      · rw [w]; exact l1
      · exact (hE.1 j (k - 1).toNat (by omega) (by omega)).tr l1
    have hk3 : 0 ≤ k - 1 ∧ k - 1 < 48 := by omega
    have hI : InI (k - 1) := by unfold InI; omega
    refine ⟨hI, hk3, fun v5 e5 _ => ⟨hk, hI, hk3, fun v6 e6 _ => ⟨hk, hI, hk3, fun v7 e7 _ => ⟨hk, hI, hk3, fun v8 e8 _ => ⟨hk, by unfold InI; omega, ?_⟩⟩⟩⟩⟩
    rw [upm_ne (by omega)] at e6
    rw [upm_ne (by omega), upm_ne (by omega)] at e7
    rw [upm_ne (by omega), upm_ne (by omega), upm_ne (by omega)] at e8
    have ev : rq mem (k - 1).toNat = (v5, v6, v7, v8) := by rw [e5, e6, e7, e8]; rfl
    rw [show k + -1 = k - 1 by omega]
    have g2 : lt4 (a, b, d, l) (rq m0 (k - 1).toNat) := by
      rw [← cA (k - 1).toNat (by omega)]
      exact g1.mp (by omega)
    refine ih (k - 1) (set4r mem k.toNat v5 v6 v7 v8) (by omega) (by omega) (by omega) ?_ ?_ (by rw [set4r_ne (by omega)]; exact hc2) (fun j hj => ?_) (fun j w1 w2 => ?_) (fun j w1 w2 => ?_)
    · intro A i h1 h2 h3 h4 h5
      rw [set4r_ne (by omega)]
      exact hF A i h1 h2 h3 h4 h5
    · intro h0 j hj
      have := h4r h0 j hj
      by_cases hjk : j = k.toNat
      · subst hjk
        have g := h4r h0 (k - 1).toNat (by omega)
        rw [← e5, ← e6, ← e7, ← e8] at g
        exact rg set4r_q g
      · rw [set4r_ne (by omega), set4r_ne (by omega), set4r_ne (by omega), set4r_ne (by omega)]; exact this
    · rw [set4r_o (by omega)]; exact cA j (by omega)
    · by_cases w : j = k.toNat
      · subst w
        rw [set4r_q, ← ev, cA (k - 1).toNat (by omega)]
        congr 1
        omega
      · rw [set4r_o w]; exact cB j (by omega) w2
    · by_cases w : j = (k - 1).toNat
      · rw [w]; exact g2
      · exact hi j (by omega) w2
/-- one more need, or it was there -/
theorem f_247e {K : MM → Prop} (hc : 0 ≤ mem 143 12 ∧ mem 143 12 < 48) (hP : Pn a b d l) (hr : Rg a b d l) (hA : NdAll Pn mem (mem 143 12)) (hE : Enum (rq mem) (mem 143 12).toNat P) (H : ∀ m', FrN mem m' → R4 mem m' → mem 143 12 ≤ m' 143 12 → m' 143 12 ≤ mem 143 12 + 1 → NdAll Pn m' (m' 143 12) → Enum (rq m') (m' 143 12).toNat (fun x => P x ∨ x = (a, b, d, l)) → K m') : CWV (Ex S (n + 2)) 247 [.inr 143, .inl a, .inl b, .inl d, .inl l] mem K := by
  refine CW.of (k := 1) mt_247 rfl rfl (w_247_0 (Ex.mono S (n + 1)) ?_)
  have key : ∀ (N : Nat) (k : Int), 0 ≤ k → k ≤ mem 143 12 → (mem 143 12 - k).toNat < N → (∀ j : Nat, (j : Int) < k → ¬ rq mem j = (a, b, d, l)) → Wx (Ex S (n + 1)) S M_247 (fun r m => r = none ∧ K m) 3 [some (.inr 143), some (.inl a), some (.inl b), some (.inl d), some (.inl l), some (.inl k)] [] mem := by
    intro N
    induction N with
    | zero => intros; omega
    | succ N ih =>
      intro k hk1 hk2 hN hne
      refine w_247_3 (Ex.mono S (n + 1)) (fun v e _ => ⟨fun q v2 e2 _ => ?_, fun q => ?_⟩)
      · subst e2
        refine cn_70e hc rfl hP hr hA hE (fun j hj => hne j (by omega)) (m0 := mem) (fun m' h1 h4 h2 h3 h5 => ⟨rfl, H m' h1 h4 (by omega) (by omega) (by rw [h2]; exact h3) (by rw [h2]; exact h5)⟩) _ _ mem hc.1 (Int.le_refl _) (Nat.lt_succ_self _) FrN.rf R4.rf rfl (fun j _ => rfl) (fun j h1 h2 => by omega) (fun j h1 h2 => by omega)
      · have hk : 0 ≤ k ∧ k < 48 := by omega
        have nx : ¬ (mem 154 k.toNat = a ∧ mem 155 k.toNat = b ∧ mem 156 k.toNat = d ∧ mem 157 k.toNat = l) → InI (k + 1) ∧ Wx (Ex S (n + 1)) S M_247 (fun r m => r = none ∧ K m) 3 [some (.inr 143), some (.inl a), some (.inl b), some (.inl d), some (.inl l), some (.inl (k + 1))] [] mem := fun ne => ⟨by unfold InI; omega, ih (k + 1) (by omega) (by omega) (by omega) (fun j hj => by
          by_cases w : (j : Int) < k
          · exact hne j w
          · rw [show j = k.toNat by omega]
            unfold rq
            simp only [Prod.mk.injEq]
            exact ne)⟩
        refine ⟨hk, fun v3 e3 _ => ⟨fun _ => nx (by omega), fun q3 => ⟨hk, fun v4 e4 _ => ⟨fun _ => nx (by omega), fun q4 => ⟨hk, fun v5 e5 _ => ⟨fun _ => nx (by omega), fun q5 => ⟨hk, fun v6 e6 _ => ⟨fun _ => nx (by omega), fun q6 => ⟨rfl, H mem FrN.rf R4.rf (by omega) (by omega) hA (hE.cg rfl (fun _ _ => rfl) (fun x => ⟨Or.inl, fun w => w.elim id (fun e => ?_)⟩))⟩⟩⟩⟩⟩⟩⟩⟩⟩
        have : rq mem k.toNat = (a, b, d, l) := by
          unfold rq
          simp only [Prod.mk.injEq]
          omega
        rw [e, ← this]
        exact hE.2.1 k.toNat (by omega)
  exact key _ 0 (by omega) hc.1 (Nat.lt_succ_self _) (fun j hj => by omega)
end RND
