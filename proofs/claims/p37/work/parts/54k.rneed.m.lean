section
/-! the reference's needs, exactly -/
def rq (m : MM) (i : Nat) : Q4 := (m 154 i, m 155 i, m 156 i, m 157 i)
def set4r (m : MM) (k : Nat) (a b d l : Int) : MM := upm (upm (upm (upm m 154 k a) 155 k b) 156 k d) 157 k l
theorem set4r_q {m : MM} {k : Nat} {a b d l : Int} : rq (set4r m k a b d l) k = (a, b, d, l) := by
  unfold rq set4r
  rw [upm_ne (A := 157) (B := 154) (by omega), upm_ne (A := 156) (B := 154) (by omega), upm_ne (A := 155) (B := 154) (by omega), upm_eq, upm_ne (A := 157) (B := 155) (by omega), upm_ne (A := 156) (B := 155) (by omega), upm_eq, upm_ne (A := 157) (B := 156) (by omega), upm_eq, upm_eq]
theorem set4r_ne {m : MM} {k A i : Nat} {a b d l : Int} (h : ¬ (154 ≤ A ∧ A ≤ 157 ∧ i = k)) : set4r m k a b d l A i = m A i := by
  unfold set4r
  rw [upm_ne (by omega), upm_ne (by omega), upm_ne (by omega), upm_ne (by omega)]
theorem set4r_o {m : MM} {k i : Nat} {a b d l : Int} (h : ¬ i = k) : rq (set4r m k a b d l) i = rq m i := by
  unfold rq
  rw [set4r_ne (by omega), set4r_ne (by omega), set4r_ne (by omega), set4r_ne (by omega)]
theorem rq_12 {m : MM} {z : Int} {i : Nat} : rq (upm m 143 12 z) i = rq m i := by
  unfold rq
  rw [upm_ne (by omega), upm_ne (by omega), upm_ne (by omega), upm_ne (by omega)]
def NdF (m : MM) (x : Q4) : Prop := (∃ o k : Nat, (o : Int) < m 143 1 ∧ (k : Int) < srcN m o ∧ 0 ≤ srcA m o k ∧ x = (srcA m o k, (o : Int), srcB m o k, latF m (srcA m o k).toNat)) ∨ ∃ s o : Nat, (s : Int) < m 143 1 ∧ (o : Int) < m 143 1 ∧ ¬ o = s ∧ NdR (m 144) (rowF m) (plcF m) (latF m) s o x
section RND
variable {S : Nat × (Nat → Int32)} {n : Nat} {mem : MM} {Pn : Int → Int → Int → Int → Prop} {P : Q4 → Prop} {a b d l : Int}
theorem f_248e {K : Int → MM → Prop} {k : Int} (h : 0 ≤ k ∧ k < 48) (H : ∀ r, (r = 0 ∨ r = 1) → (r = 1 ↔ lt4 (a, b, d, l) (rq mem k.toNat)) → K r mem) : CWI (Ex S (n + 1)) 248 [.inr 143, .inl k, .inl a, .inl b, .inl d, .inl l] mem K := by
  have H : ∀ r, (r = 0 ∨ r = 1) → (r = 1 ↔ (a < mem 154 k.toNat ∨ (a = mem 154 k.toNat ∧ (b < mem 155 k.toNat ∨ (b = mem 155 k.toNat ∧ (d < mem 156 k.toNat ∨ (d = mem 156 k.toNat ∧ l < mem 157 k.toNat))))))) → K r mem := fun r h1 h2 => H r h1 h2
  have h0 : ¬ (a < mem 154 k.toNat ∨ (a = mem 154 k.toNat ∧ (b < mem 155 k.toNat ∨ (b = mem 155 k.toNat ∧ (d < mem 156 k.toNat ∨ (d = mem 156 k.toNat ∧ l < mem 157 k.toNat)))))) → ∃ y, some (0 : Int) = some y ∧ K y mem := fun q => ⟨_, rfl, H _ (Or.inl rfl) ⟨fun z => by omega, fun z => absurd z q⟩⟩
  have h1 : (a < mem 154 k.toNat ∨ (a = mem 154 k.toNat ∧ (b < mem 155 k.toNat ∨ (b = mem 155 k.toNat ∧ (d < mem 156 k.toNat ∨ (d = mem 156 k.toNat ∧ l < mem 157 k.toNat)))))) → ∃ y, some (1 : Int) = some y ∧ K y mem := fun q => ⟨_, rfl, H _ (Or.inr rfl) ⟨fun _ => q, fun _ => rfl⟩⟩
  refine CW.of (k := 0) mt_248 rfl rfl (w_248_0 (Ex.mono S n) ⟨h, fun v1 e1 _ => ⟨fun q1 => ⟨h, fun v2 e2 _ => ⟨fun q2 => ⟨h, fun v3 e3 _ => ⟨fun q3 => ⟨h, fun v4 e4 _ => ⟨fun _ => h0 (by omega), fun _ => h1 (by omega)⟩⟩, fun q3 => ⟨h, fun v4 e4 _ => ⟨fun _ => h0 (by omega), fun _ => h1 (by omega)⟩⟩⟩⟩, fun q2 => ⟨h, fun v4 e4 _ => ⟨fun _ => h0 (by omega), fun _ => h1 (by omega)⟩⟩⟩⟩, fun q1 => ⟨h, fun v4 e4 _ => ⟨fun _ => h0 (by omega), fun _ => h1 (by omega)⟩⟩⟩⟩)
theorem cn_70e {m0 : MM} {c : Int} (hc : 0 ≤ c ∧ c < 48) (h12 : m0 143 12 = c) (hP : Pn a b d l) (hr : Rg a b d l) (hA0 : NdAll Pn m0 c) (hE : Enum (rq m0) c.toNat P) (hne : ∀ j : Nat, (j : Int) < c → ¬ rq m0 j = (a, b, d, l)) {Kk : WK} (H : ∀ m', FrN m0 m' → R4 m0 m' → m' 143 12 = c + 1 → NdAll Pn m' (c + 1) → Enum (rq m') (c + 1).toNat (fun x => P x ∨ x = (a, b, d, l)) → Kk none m') : ∀ (N : Nat) (k : Int) (mem : MM), 0 ≤ k → k ≤ c → k.toNat < N → FrN m0 mem → R4 m0 mem → mem 143 12 = c → (∀ j : Nat, (j : Int) < k → rq mem j = rq m0 j) → (∀ j : Nat, k < j → (j : Int) ≤ c → rq mem j = rq m0 (j - 1)) → (∀ j : Nat, k ≤ j → (j : Int) < c → lt4 (a, b, d, l) (rq m0 j)) → Wx (Ex S (n + 1)) S M_247 Kk 70 [some (.inr 143), some (.inl a), some (.inl b), some (.inl d), some (.inl l), some (.inl k)] [] mem := by
  intro N
  induction N with
  | zero => intros; omega
  | succ N ih =>
    intro k mem hk1 hk2 hN hF h4r hc2 cA cB hi
    have hk : 0 ≤ k ∧ k < 48 := by omega
    have pn : ∀ {m : MM} {i : Nat} {x : Q4}, rq m i = x → Pn x.1 x.2.1 x.2.2.1 x.2.2.2 → Pn (m 154 i) (m 155 i) (m 156 i) (m 157 i) := fun e h => by rw [← e] at h; exact h
    have rg : ∀ {m : MM} {i : Nat} {x : Q4}, rq m i = x → Rg x.1 x.2.1 x.2.2.1 x.2.2.2 → Rg (m 154 i) (m 155 i) (m 156 i) (m 157 i) := fun e h => by rw [← e] at h; exact h
    have fin : (∀ j : Nat, (j : Int) < k → lt4 (rq m0 j) (a, b, d, l)) → ∀ v1 : Int, v1 = (upm (upm (upm (upm mem 154 (Int.toNat k) a) 155 (Int.toNat k) b) 156 (Int.toNat k) d) 157 (Int.toNat k) l) 143 12 → InI v1 → (InI (v1 + 1)) ∧ (Kk none (upm (upm (upm (upm (upm mem 154 (Int.toNat k) a) 155 (Int.toNat k) b) 156 (Int.toNat k) d) 157 (Int.toNat k) l) 143 12 (v1 + 1))) := by
      intro lo v1 e _
      have e : v1 = c := by rw [e, upm_ne (by omega), upm_ne (by omega), upm_ne (by omega), upm_ne (by omega)]; exact hc2
      subst e
      have at_ : ∀ j : Nat, (j : Int) ≤ m0 143 12 → (j = k.toNat ∧ rq (upm (set4r mem k.toNat a b d l) 143 12 (v1 + 1)) j = (a, b, d, l)) ∨ ((j : Int) < k ∧ rq (upm (set4r mem k.toNat a b d l) 143 12 (v1 + 1)) j = rq m0 j) ∨ (k < j ∧ rq (upm (set4r mem k.toNat a b d l) 143 12 (v1 + 1)) j = rq m0 (j - 1)) := fun j hj => by
        rw [rq_12]
        by_cases w : j = k.toNat
        · subst w; exact Or.inl ⟨rfl, set4r_q⟩
        · rw [set4r_o w]
          by_cases w2 : (j : Int) < k
          · exact Or.inr (Or.inl ⟨w2, cA j w2⟩)
          · exact Or.inr (Or.inr ⟨by omega, cB j (by omega) (by omega)⟩)
      refine ⟨by unfold InI; omega, H (upm (set4r mem k.toNat a b d l) 143 12 (v1 + 1)) ?_ ?_ upm_eq ?_ ?_⟩
      · intro A i h1 h2 h3 h4 h5
        rw [upm_ne h5, set4r_ne (by omega)]
        exact hF A i h1 h2 h3 h4 h5
      · intro h0 j hj
        have := h4r h0 j hj
        rw [upm_ne (by omega), upm_ne (by omega), upm_ne (by omega), upm_ne (by omega)]
        by_cases hjk : j = k.toNat
        · subst hjk; exact rg set4r_q hr
        · rw [set4r_ne (by omega), set4r_ne (by omega), set4r_ne (by omega), set4r_ne (by omega)]; exact this
      · intro j hj
        rcases at_ j (by omega) with ⟨-, e⟩ | ⟨w, e⟩ | ⟨w, e⟩
        · exact pn e hP
        · exact pn e (hA0 j (by omega))
        · exact pn e (hA0 (j - 1) (by omega))
      · rw [show (v1 + 1).toNat = v1.toNat + 1 by omega]
        refine hE.ins (t := k.toNat) (by omega) (fun j hj => lo j (by omega)) (fun j w1 w2 => hi j (by omega) (by omega)) (fun j hj => ?_) ?_ (fun j w1 w2 => ?_)
        · rcases at_ j (by omega) with ⟨w, e⟩ | ⟨w, e⟩ | ⟨w, e⟩
          · omega
          · exact e
          · omega
        · rcases at_ k.toNat (by omega) with ⟨w, e⟩ | ⟨w, e⟩ | ⟨w, e⟩
          · exact e
          · omega
          · omega
        · rcases at_ (j + 1) (by omega) with ⟨w, e⟩ | ⟨w, e⟩ | ⟨w, e⟩
          · omega
          · omega
          · exact e
    refine w_247_70 (Ex.mono S (n + 1)) ⟨fun q => ⟨hk, hk, hk, hk, fin (fun j hj => by omega)⟩, fun q => ⟨by unfold InI; omega, f_248e ⟨by omega, by omega⟩ (fun r g0 g1 _ => ⟨fun z => ⟨hk, hk, hk, hk, fin (fun j hj => ?_)⟩, fun z => ?_⟩)⟩⟩
    · rw [cA (k - 1).toNat (by omega)] at g1
      have l1 : lt4 (rq m0 (k - 1).toNat) (a, b, d, l) := by
        rcases lt4.tri (a, b, d, l) (rq m0 (k - 1).toNat) with e | e | e
        · have := g1.mpr e; omega
        · exact absurd e.symm (hne _ (by omega))
        · exact e
      by_cases w : j = (k - 1).toNat
      · rw [w]; exact l1
      · exact (hE.1 j (k - 1).toNat (by omega) (by omega)).tr l1
    have hk3 : 0 ≤ k - 1 ∧ k - 1 < 48 := by omega
    have hI : InI (k - 1) := by unfold InI; omega
    refine ⟨hI, hk3, fun v5 e5 _ => ⟨hk, hI, hk3, fun v6 e6 _ => ⟨hk, hI, hk3, fun v7 e7 _ => ⟨hk, hI, hk3, fun v8 e8 _ => ⟨hk, by unfold InI; omega, ?_⟩⟩⟩⟩⟩
    rw [upm_ne (by omega)] at e6
    rw [upm_ne (by omega), upm_ne (by omega)] at e7
    rw [upm_ne (by omega), upm_ne (by omega), upm_ne (by omega)] at e8
    have ev : rq mem (k - 1).toNat = (v5, v6, v7, v8) := by rw [e5, e6, e7, e8]; rfl
    rw [show k + -1 = k - 1 by omega]
    have g2 : lt4 (a, b, d, l) (rq m0 (k - 1).toNat) := by
      rw [← cA (k - 1).toNat (by omega)]
      exact g1.mp (by omega)
    refine ih (k - 1) (set4r mem k.toNat v5 v6 v7 v8) (by omega) (by omega) (by omega) ?_ ?_ (by rw [set4r_ne (by omega)]; exact hc2) (fun j hj => ?_) (fun j w1 w2 => ?_) (fun j w1 w2 => ?_)
    · intro A i h1 h2 h3 h4 h5
      rw [set4r_ne (by omega)]
      exact hF A i h1 h2 h3 h4 h5
    · intro h0 j hj
      have := h4r h0 j hj
      by_cases hjk : j = k.toNat
      · subst hjk
        have g := h4r h0 (k - 1).toNat (by omega)
        rw [← e5, ← e6, ← e7, ← e8] at g
        exact rg set4r_q g
      · rw [set4r_ne (by omega), set4r_ne (by omega), set4r_ne (by omega), set4r_ne (by omega)]; exact this
    · rw [set4r_o (by omega)]; exact cA j (by omega)
    · by_cases w : j = k.toNat
      · subst w
        rw [set4r_q, ← ev, cA (k - 1).toNat (by omega)]
        congr 1
        omega
      · rw [set4r_o w]; exact cB j (by omega) w2
    · by_cases w : j = (k - 1).toNat
      · rw [w]; exact g2
      · exact hi j (by omega) w2
theorem f_247e {K : MM → Prop} (hc : 0 ≤ mem 143 12 ∧ mem 143 12 < 48) (hP : Pn a b d l) (hr : Rg a b d l) (hA : NdAll Pn mem (mem 143 12)) (hE : Enum (rq mem) (mem 143 12).toNat P) (H : ∀ m', FrN mem m' → R4 mem m' → mem 143 12 ≤ m' 143 12 → m' 143 12 ≤ mem 143 12 + 1 → NdAll Pn m' (m' 143 12) → Enum (rq m') (m' 143 12).toNat (fun x => P x ∨ x = (a, b, d, l)) → K m') : CWV (Ex S (n + 2)) 247 [.inr 143, .inl a, .inl b, .inl d, .inl l] mem K := by
  refine CW.of (k := 1) mt_247 rfl rfl (w_247_0 (Ex.mono S (n + 1)) ?_)
  have key : ∀ (N : Nat) (k : Int), 0 ≤ k → k ≤ mem 143 12 → (mem 143 12 - k).toNat < N → (∀ j : Nat, (j : Int) < k → ¬ rq mem j = (a, b, d, l)) → Wx (Ex S (n + 1)) S M_247 (fun r m => r = none ∧ K m) 3 [some (.inr 143), some (.inl a), some (.inl b), some (.inl d), some (.inl l), some (.inl k)] [] mem := by
    intro N
    induction N with
    | zero => intros; omega
    | succ N ih =>
      intro k hk1 hk2 hN hne
      refine w_247_3 (Ex.mono S (n + 1)) (fun v e _ => ⟨fun q v2 e2 _ => ?_, fun q => ?_⟩)
      · subst e2
        refine cn_70e hc rfl hP hr hA hE (fun j hj => hne j (by omega)) (m0 := mem) (fun m' h1 h4 h2 h3 h5 => ⟨rfl, H m' h1 h4 (by omega) (by omega) (by rw [h2]; exact h3) (by rw [h2]; exact h5)⟩) _ _ mem hc.1 (Int.le_refl _) (Nat.lt_succ_self _) FrN.rf R4.rf rfl (fun j _ => rfl) (fun j h1 h2 => by omega) (fun j h1 h2 => by omega)
      · have hk : 0 ≤ k ∧ k < 48 := by omega
        have nx : ¬ (mem 154 k.toNat = a ∧ mem 155 k.toNat = b ∧ mem 156 k.toNat = d ∧ mem 157 k.toNat = l) → InI (k + 1) ∧ Wx (Ex S (n + 1)) S M_247 (fun r m => r = none ∧ K m) 3 [some (.inr 143), some (.inl a), some (.inl b), some (.inl d), some (.inl l), some (.inl (k + 1))] [] mem := fun ne => ⟨by unfold InI; omega, ih (k + 1) (by omega) (by omega) (by omega) (fun j hj => by
          by_cases w : (j : Int) < k
          · exact hne j w
          · rw [show j = k.toNat by omega]
            unfold rq
            simp only [Prod.mk.injEq]
            exact ne)⟩
        refine ⟨hk, fun v3 e3 _ => ⟨fun _ => nx (by omega), fun q3 => ⟨hk, fun v4 e4 _ => ⟨fun _ => nx (by omega), fun q4 => ⟨hk, fun v5 e5 _ => ⟨fun _ => nx (by omega), fun q5 => ⟨hk, fun v6 e6 _ => ⟨fun _ => nx (by omega), fun q6 => ⟨rfl, H mem FrN.rf R4.rf (by omega) (by omega) hA (hE.cg rfl (fun _ _ => rfl) (fun x => ⟨Or.inl, fun w => w.elim id (fun e => ?_)⟩))⟩⟩⟩⟩⟩⟩⟩⟩⟩
        have : rq mem k.toNat = (a, b, d, l) := by
          unfold rq
          simp only [Prod.mk.injEq]
          omega
        rw [e, ← this]
        exact hE.2.1 k.toNat (by omega)
  exact key _ 0 (by omega) hc.1 (Nat.lt_succ_self _) (fun j hj => by omega)
end RND
end
section
/-! the reference lays its needs, exactly -/
section RLY
variable {S : Nat × (Nat → Int32)} {n : Nat} {m0 : MM}
def nsF (m : MM) (o k : Nat) (x : Q4) : Prop := (k : Int) < srcN m o ∧ 0 ≤ srcA m o k ∧ x = (srcA m o k, (o : Int), srcB m o k, latF m (srcA m o k).toNat)
def nrF (m : MM) (s o : Nat) (x : Q4) : Prop := NdR (m 144) (rowF m) (plcF m) (latF m) s o x
def PBf (m : MM) (s o : Nat) (x : Q4) : Prop := (∃ o k : Nat, (o : Int) < m 143 1 ∧ nsF m o k x) ∨ ∃ s' o' : Nat, (s' : Int) < m 143 1 ∧ (o' : Int) < m 143 1 ∧ ¬ o' = s' ∧ (s' < s ∨ (s' = s ∧ o' < o)) ∧ nrF m s' o' x
def PAf (m : MM) (o : Nat) (k : Int) (x : Q4) : Prop := ∃ o' k' : Nat, (o' < o ∨ (o' = o ∧ (k' : Int) < k)) ∧ (o' : Int) < m 143 1 ∧ nsF m o' k' x
theorem ln_86e (hO : OpsOK m0) {Kk : WK} (H : ∀ m', FrN m0 m' → R4 m0 m' → 0 ≤ m' 143 12 → m' 143 12 ≤ 44 → NdAll (PN (m0 143 1)) m' (m' 143 12) → Enum (rq m') (m' 143 12).toNat (NdF m0) → Kk none m') : ∀ (N : Nat) (s o : Nat) (mem : MM), (s : Int) < m0 143 1 → (o : Int) ≤ m0 143 1 → (9 * (m0 143 1 - s) + (9 - o)).toNat < N → FrN m0 mem → R4 m0 mem → 0 ≤ mem 143 12 → mem 143 12 ≤ 16 + smN (fun s => smN (cNd m0 s) (m0 143 1).toNat) s + smN (cNd m0 s) o → NdAll (PN (m0 143 1)) mem (mem 143 12) → Enum (rq mem) (mem 143 12).toNat (PBf m0 s o) → Wx (Ex S (n + 2)) S M_245 Kk 86 [some (.inr 143), some (.inl (s : Int)), some (.inl (o : Int)), none, none, none] [] mem := by
  intro N
  induction N with
  | zero => intros; omega
  | succ N ih =>
    intro s o mem hs ho hN hF hR4 hn0 hn1 hA hE
    have hO2 := hF.ops hO
    have h8 := hO.1
    have eops : mem 143 1 = m0 143 1 := hF _ _ (by omega) (by omega) (by omega) (by omega) (by omega)
    have e144 : ∀ i, mem 144 i = m0 144 i := fun i => hF _ _ (by omega) (by omega) (by omega) (by omega) (by omega)
    have e145 : ∀ i, mem 145 i = m0 145 i := fun i => hF _ _ (by omega) (by omega) (by omega) (by omega) (by omega)
    have e146 : ∀ i, mem 146 i = m0 146 i := fun i => hF _ _ (by omega) (by omega) (by omega) (by omega) (by omega)
    have e147 : ∀ i, mem 147 i = m0 147 i := fun i => hF _ _ (by omega) (by omega) (by omega) (by omega) (by omega)
    have e148 : ∀ i, mem 148 i = m0 148 i := fun i => hF _ _ (by omega) (by omega) (by omega) (by omega) (by omega)
    have epl : ∀ i, plcF mem i = plcF m0 i := fun i => by unfold plcF; rw [e144, e146, e148]
    have ero : ∀ i, rowF mem i = rowF m0 i := fun i => by unfold rowF; rw [e144, e145, e147]
    have elat : ∀ i, latF mem i = latF m0 i := fun i => by
      unfold latF
      rw [e144]
      exact hF _ _ (by omega) (by omega) (by omega) (by omega) (by omega)
    have hs8 : 0 ≤ (s : Int) ∧ (s : Int) < 8 := by omega
    -- the next of s
    have outer : (∀ o' : Nat, o ≤ o' → (o' : Int) < m0 143 1 → ∀ x, ¬ nrF m0 s o' x) → Wx (Ex S (n + 2)) S M_245 Kk 76 [some (.inr 143), some (.inl ((s : Int) + 1)), none, none, none, none] [] mem := by
      intro hno
      have hle : smN (cNd m0 s) o ≤ smN (cNd m0 s) (m0 143 1).toNat := smN_up (by omega)
      have hn2 : mem 143 12 ≤ 16 + smN (fun s => smN (cNd m0 s) (m0 143 1).toNat) (s + 1) := by simp only [smN]; omega
      have eP : ∀ x, PBf m0 s o x ↔ PBf m0 (s + 1) 0 x := fun x => by
        refine or_congr Iff.rfl ⟨?_, ?_⟩
        · rintro ⟨s', o', h1, h2, h3, h4, h5⟩
          exact ⟨s', o', h1, h2, h3, by omega, h5⟩
        · rintro ⟨s', o', h1, h2, h3, h4, h5⟩
          by_cases w : s' = s ∧ o ≤ o'
          · obtain ⟨rfl, w⟩ := w
            exact absurd h5 (hno o' w h2 x)
          · exact ⟨s', o', h1, h2, h3, by omega, h5⟩
      refine w_245_76 (Ex.mono S (n + 2)) (fun v e _ => ⟨fun q => H mem hF hR4 hn0 ?_ hA (hE.cg rfl (fun _ _ => rfl) (fun x => (eP x).trans (or_congr ⟨?_, ?_⟩ ⟨?_, ?_⟩))), fun q => ?_⟩)
      · have := pairs28 (cNd_self m0) (cNd_anti m0) (m0 143 1).toNat (by omega)
        rw [show s + 1 = (m0 143 1).toNat by omega] at hn2
        omega
      · exact fun ⟨a, b, c, d⟩ => ⟨a, b, c, d⟩
      · exact fun ⟨a, b, c, d⟩ => ⟨a, b, c, d⟩
      · exact fun ⟨s', o', h1, h2, h3, _, h5⟩ => ⟨s', o', h1, h2, h3, h5⟩
      · exact fun ⟨s', o', h1, h2, h3, h5⟩ => ⟨s', o', h1, h2, h3, by omega, h5⟩
      · exact ih (s + 1) 0 mem (by omega) (by omega) (by omega) hF hR4 hn0 (by simp only [smN] at hn2 ⊢; omega) hA (hE.cg rfl (fun _ _ => rfl) eP)
    -- the next of o
    have inner : ∀ m', FrN mem m' → R4 mem m' → 0 ≤ m' 143 12 → m' 143 12 ≤ mem 143 12 + cNd m0 s o → NdAll (PN (m0 143 1)) m' (m' 143 12) → (o : Int) < m0 143 1 → Enum (rq m') (m' 143 12).toNat (PBf m0 s (o + 1)) → InI ((o : Int) + 1) ∧ Wx (Ex S (n + 2)) S M_245 Kk 86 [some (.inr 143), some (.inl (s : Int)), some (.inl ((o : Int) + 1)), none, none, none] [] m' := fun m' h1 hr h2 h3 h4 h5 h6 => by
      refine ⟨by unfold InI; omega, ih s (o + 1) m' hs (by omega) (by omega) (hF.tr h1) (hR4.tr hr) h2 ?_ h4 h6⟩
      simp only [smN]; omega
    have stp : (o : Int) < m0 143 1 → ¬ o = s → ∀ x, (PBf m0 s o x ∨ nrF m0 s o x) ↔ PBf m0 s (o + 1) x := fun ho hos x => by
      constructor
      · rintro ((h | ⟨s', o', h1, h2, h3, h4, h5⟩) | h)
        · exact Or.inl h
        · exact Or.inr ⟨s', o', h1, h2, h3, by omega, h5⟩
        · exact Or.inr ⟨s, o, hs, ho, hos, by omega, h⟩
      · rintro (h | ⟨s', o', h1, h2, h3, h4, h5⟩)
        · exact Or.inl (Or.inl h)
        · by_cases w : s' = s ∧ o' = o
          · obtain ⟨rfl, rfl⟩ := w
            exact Or.inr h5
          · exact Or.inl (Or.inr ⟨s', o', h1, h2, h3, by omega, h5⟩)
    refine w_245_86 (Ex.mono S (n + 2)) (fun v e _ => ⟨fun q => ⟨by unfold InI; omega, outer (fun o' h1 h2 => by omega)⟩, fun q => ⟨hs8, fun v2 e2 _ => ⟨fun q2 => ⟨by unfold InI; omega, outer (fun o' _ _ x hx => ?_)⟩, fun q2 => ?_⟩⟩⟩)
    · have := hx.1
      have := e144 s
      simp only [Int.toNat_natCast] at e2
      omega
    have ho2 : (o : Int) < m0 143 1 := by omega
    have ho8 : 0 ≤ (o : Int) ∧ (o : Int) < 8 := by omega
    have same : (¬ o = s → ∀ x, ¬ nrF m0 s o x) → _ := fun hn => inner mem FrN.rf R4.rf hn0 (by omega) hA ho2 (hE.cg rfl (fun _ _ => rfl) (fun x => by
      by_cases w : o = s
      · refine or_congr Iff.rfl ⟨?_, ?_⟩
        · rintro ⟨s', o', h1, h2, h3, h4, h5⟩
          exact ⟨s', o', h1, h2, h3, by omega, h5⟩
        · rintro ⟨s', o', h1, h2, h3, h4, h5⟩
          exact ⟨s', o', h1, h2, h3, by omega, h5⟩
      · exact Iff.trans ⟨Or.inl, fun h => h.elim id (fun h => absurd h (hn w x))⟩ (stp ho2 w x)))
    refine ⟨fun q3 => same (fun w => absurd (by omega) w), fun q3 => ?_⟩
    have ks : m0 144 s = 5 := by
      have := e144 s
      simp only [Int.toNat_natCast] at e2
      omega
    have nso : ¬ o = s := by omega
    have nk : ¬ mem 144 o = 4 → ¬ mem 144 o = 5 → ∀ x, ¬ nrF m0 s o x := fun w1 w2 x hx => by
      have kE := e144 o
      obtain ⟨h1, h2, ⟨h3, h4, h5⟩ | ⟨h3, h4, h5⟩ | ⟨h3, h4, h5⟩⟩ := hx <;> omega
    refine f_249 ho8 (fun q4 _ => ⟨fun q5 => by omega, fun _ => ?_⟩) (fun w1 w2 _ => ⟨fun _ => same (fun _ => nk (by simpa only [Int.toNat_natCast] using w1) (by simpa only [Int.toNat_natCast] using w2)), fun q5 => absurd rfl q5⟩)
    refine f_250 ho8 (fun _ => f_250 hs8 (fun _ => ⟨fun q5 => ?_, fun q5 => same (fun _ x hx => q5 (by
      simp only [Int.toNat_natCast]
      rw [ero, ero]
      exact hx.2.1))⟩))
    refine f_251 hs8 (fun _ => f_251 ho8 (fun _ => ?_))
    simp only [Int.toNat_natCast] at q4 q5 ⊢
    rw [ero, ero] at q5
    have hps : 0 ≤ plcF mem s ∧ plcF mem s ≤ 7 := by
      obtain ⟨-, -, -, h4, h5⟩ := hO2.2.1 s (by omega)
      have := h5 (by rw [e144]; exact ks)
      unfold plcF; rw [if_neg (by rw [e144]; omega)]; omega
    have hpo : 0 ≤ plcF mem o ∧ plcF mem o ≤ 7 := by
      obtain ⟨-, -, -, h4, h5⟩ := hO2.2.1 o (by omega)
      unfold plcF
      split
      · have := h4 (by assumption); omega
      · have := h5 (by omega); omega
    have hls := hO2.lat (o := s) (by omega)
    have c48 : mem 143 12 < 48 := by
      have h1 := pairs28 (cNd_self m0) (cNd_anti m0) (m0 143 1).toNat (by omega)
      have h2 : smN (cNd m0 s) o ≤ smN (cNd m0 s) (m0 143 1).toNat := smN_up (by omega)
      have h3 : smN (fun s => smN (cNd m0 s) (m0 143 1).toNat) (s + 1) ≤ smN (fun s => smN (cNd m0 s) (m0 143 1).toNat) (m0 143 1).toNat := smN_up (by omega)
      simp only [smN] at h3
      omega
    -- a need comes
    have put : ∀ a b d l : Int, PN (m0 143 1) a b d l → cNd m0 s o = 1 → (∀ x, x = (a, b, d, l) ↔ nrF m0 s o x) → CWV (Ex S (n + 2)) 247 [.inr 143, .inl a, .inl b, .inl d, .inl l] mem fun m' => InI ((o : Int) + 1) ∧ Wx (Ex S (n + 2)) S M_245 Kk 86 [some (.inr 143), some (.inl (s : Int)), some (.inl ((o : Int) + 1)), none, none, none] [] m' := fun a b d l hp hc hx =>
      f_247e (Pn := PN (m0 143 1)) ⟨hn0, c48⟩ hp (by unfold PN at hp; unfold Rg; omega) hA hE (fun m' h1 hr h2 h3 h4 h5 => inner m' h1 hr (by omega) (by omega) h4 ho2 (h5.cg rfl (fun _ _ => rfl) (fun x => (or_congr Iff.rfl (hx x)).trans (stp ho2 nso x))))
    have bk : ∀ y : Q4, nrF m0 s o y → (∀ x, nrF m0 s o x → x = y) → ∀ x, x = y ↔ nrF m0 s o x := fun y h1 h2 x => ⟨fun e => by rw [e]; exact h1, h2 x⟩
    have sub7 : ∀ x y : Int, 0 ≤ x ∧ x ≤ 7 → 0 ≤ y ∧ y ≤ 7 → InI (x - y) := fun x y h1 h2 => by unfold InI; omega
    have at170 : ∀ ah : Int, (ah = 1 ∧ (plcF m0 o < plcF m0 s ∨ (plcF m0 s = plcF m0 o ∧ s < o))) ∨ (ah = 0 ∧ ¬ (plcF m0 o < plcF m0 s ∨ (plcF m0 s = plcF m0 o ∧ s < o))) → Wx (Ex S (n + 2)) S M_245 Kk 170 [some (.inr 143), some (.inl (s : Int)), some (.inl (o : Int)), some (.inl (plcF mem s)), some (.inl (plcF mem o)), some (.inl ah)] [] mem := by
      intro ah hah
      have kE := e144 o
      have pE := epl o
      have pS := epl s
      have c4 : m0 144 o = 4 → cNd m0 s o = 1 := fun h => by unfold cNd; rw [if_pos ⟨ks, nso, Or.inl h⟩]
      have c5 : m0 144 o = 5 → ah = 1 → cNd m0 s o = 1 := fun h h2 => by unfold cNd; rw [if_pos ⟨ks, nso, Or.inr ⟨h, by omega⟩⟩]
      refine w_245_170 (Ex.mono S (n + 2)) ⟨ho8, fun v1 g1 _ => ⟨fun z1 => ⟨ho8, fun v2 g2 _ => ⟨fun z2 => ⟨fun z3 => same (fun _ x hx => ?_), fun z3 => ⟨sub7 _ _ hps hpo, put _ _ _ _ ?_ ?_ ?_⟩⟩, fun z2 => ?_⟩⟩, fun z1 => ⟨fun z2 => ⟨ho8, fun v2 g2 _ => ⟨fun z3 => ?_, fun z3 => ⟨sub7 _ _ hpo hps, f_246 hO2 hs8 (fun _ => ⟨?_, put _ _ _ _ ?_ ?_ ?_⟩)⟩⟩⟩, fun z2 => ⟨sub7 _ _ hps hpo, f_246 hO2 hs8 (fun _ => put _ _ _ _ ?_ ?_ ?_)⟩⟩⟩⟩
      · simp only [Int.toNat_natCast] at g1 g2
        obtain ⟨h1, h2, ⟨h3, h4, h5⟩ | ⟨h3, h4, h5⟩ | ⟨h3, h4, h5⟩⟩ := hx <;> omega
      · simp only [Int.toNat_natCast] at g1 g2; unfold PN; omega
      · simp only [Int.toNat_natCast] at g1 g2; exact c5 (by omega) (by omega)
      · simp only [Int.toNat_natCast] at g1 g2
        rw [pE, pS]
        refine bk _ ⟨ks, q5, Or.inr (Or.inr ⟨by omega, by omega, rfl⟩)⟩ (fun x => ?_)
        rintro ⟨h1, h2, ⟨h3, h4, h5⟩ | ⟨h3, h4, h5⟩ | ⟨h3, h4, h5⟩⟩ <;> first | exact h5 | (exfalso; omega)
      · exfalso; omega
      · exfalso; omega
      · simp only [Int.toNat_natCast]; unfold InI; omega
      · simp only [Int.toNat_natCast] at g1 g2 ⊢; unfold PN; omega
      · simp only [Int.toNat_natCast] at g1 g2; exact c4 (by omega)
      · simp only [Int.toNat_natCast] at g1 g2 ⊢
        rw [pE, pS, elat]
        refine bk _ ⟨ks, q5, Or.inr (Or.inl ⟨by omega, by omega, rfl⟩)⟩ (fun x => ?_)
        rintro ⟨h1, h2, ⟨h3, h4, h5⟩ | ⟨h3, h4, h5⟩ | ⟨h3, h4, h5⟩⟩ <;> first | exact h5 | (exfalso; omega)
      · simp only [Int.toNat_natCast] at g1 ⊢; unfold PN; omega
      · simp only [Int.toNat_natCast] at g1; exact c4 (by omega)
      · simp only [Int.toNat_natCast] at g1 ⊢
        rw [pE, pS, elat]
        refine bk _ ⟨ks, q5, Or.inl ⟨by omega, by omega, rfl⟩⟩ (fun x => ?_)
        rintro ⟨h1, h2, ⟨h3, h4, h5⟩ | ⟨h3, h4, h5⟩ | ⟨h3, h4, h5⟩⟩ <;> first | exact h5 | (exfalso; omega)
    have pE := epl o
    have pS := epl s
    exact w_245_146 (Ex.mono S (n + 2)) ⟨fun z => at170 1 (Or.inl ⟨rfl, by omega⟩), fun z => ⟨fun z2 => at170 0 (Or.inr ⟨rfl, by omega⟩), fun z2 => ⟨fun z3 => at170 0 (Or.inr ⟨rfl, by omega⟩), fun z3 => at170 1 (Or.inl ⟨rfl, by omega⟩)⟩⟩⟩
theorem ln_17e (hO : OpsOK m0) (hS : SoundM m0) {Kk : WK} (H : ∀ m', FrN m0 m' → R4 m0 m' → 0 ≤ m' 143 12 → m' 143 12 ≤ 44 → NdAll (PN (m0 143 1)) m' (m' 143 12) → Enum (rq m') (m' 143 12).toNat (NdF m0) → Kk none m') : ∀ (N : Nat) (o : Nat) (k : Int) (mem : MM), (o : Int) < m0 143 1 → 0 ≤ k → k ≤ 2 → (3 * (m0 143 1 - o) + (3 - k)).toNat < N → FrN m0 mem → R4 m0 mem → 0 ≤ mem 143 12 → mem 143 12 ≤ 2 * o + k → NdAll (PN (m0 143 1)) mem (mem 143 12) → Enum (rq mem) (mem 143 12).toNat (PAf m0 o k) → Wx (Ex S (n + 2)) S M_245 Kk 17 [some (.inr 143), some (.inl (o : Int)), some (.inl k), none, none, none] [] mem := by
  intro N
  induction N with
  | zero => intros; omega
  | succ N ih =>
    intro o k mem ho hk1 hk2 hN hF hR4 hn0 hn1 hA hE
    have hO2 := hF.ops hO
    have h8 := hO.1
    have eops : mem 143 1 = m0 143 1 := hF _ _ (by omega) (by omega) (by omega) (by omega) (by omega)
    have e : ∀ A i, (A = 144 ∨ A = 145 ∨ A = 146 ∨ A = 147 ∨ A = 148 ∨ A = 151) → mem A i = m0 A i := fun A i q => hF A i (by omega) (by omega) (by omega) (by omega) (by omega)
    have esN : srcN mem o = srcN m0 o := by unfold srcN; rw [e 144 _ (by omega)]
    have esA : srcA mem o k = srcA m0 o k := by unfold srcA; rw [e 145 _ (by omega), e 147 _ (by omega)]
    have esB : srcB mem o k = srcB m0 o k := by unfold srcB; rw [e 146 _ (by omega), e 148 _ (by omega)]
    have elat : ∀ i, latF mem i = latF m0 i := fun i => by unfold latF; rw [e 144 _ (by omega), e 151 _ (by omega)]
    have ho8 : 0 ≤ (o : Int) ∧ (o : Int) < 8 := by omega
    refine w_245_17 (Ex.mono S (n + 2)) (f_241 ho8 (fun _ => ⟨fun q => ⟨by unfold InI; omega, ?_⟩, fun q => ?_⟩))
    · have q : srcN m0 o ≤ k := by rw [← esN]; simpa only [Int.toNat_natCast] using q
      have eP : ∀ x, PAf m0 o k x ↔ PAf m0 (o + 1) 0 x := fun x => by
        constructor
        · rintro ⟨o', k', h1, h2, h3⟩
          exact ⟨o', k', by omega, h2, h3⟩
        · rintro ⟨o', k', h1, h2, h3⟩
          have := h3.1
          by_cases w : o' = o
          · subst w; exact ⟨o', k', by omega, h2, h3⟩
          · exact ⟨o', k', by omega, h2, h3⟩
      refine w_245_7 (Ex.mono S (n + 2)) (fun v ev _ => ⟨fun q2 => ?_, fun q2 => ?_⟩)
      · have eQ : ∀ x, PAf m0 o k x ↔ PBf m0 0 0 x := fun x => (eP x).trans (by
          constructor
          · rintro ⟨o', k', h1, h2, h3⟩
            exact Or.inl ⟨o', k', h2, h3⟩
          · rintro (⟨o', k', h2, h3⟩ | ⟨s', o', -, -, -, h4, -⟩)
            · exact ⟨o', k', by omega, h2, h3⟩
            · omega)
        refine w_245_76 (Ex.mono S (n + 2)) (fun v ev _ => ⟨fun q3 => ?_, fun q3 => ?_⟩)
        · omega
        · exact ln_86e hO H _ 0 0 mem (by omega) (by omega) (Nat.lt_succ_self _) hF hR4 hn0 (by simp only [smN]; omega) hA (hE.cg rfl (fun _ _ => rfl) eQ)
      · exact ih (o + 1) 0 mem (by omega) (by omega) (by omega) (by omega) hF hR4 hn0 (by omega) hA (hE.cg rfl (fun _ _ => rfl) eP)
    · simp only [Int.toNat_natCast] at q
      have hs := hO2.src (o := o) (by omega) hk1 (by omega)
      have hS2 := hS o ho k hk1 (by omega)
      have hnn : srcN mem o ≤ 2 := by unfold srcN; split <;> (try split) <;> omega
      have ek : ((k.toNat : Nat) : Int) = k := by omega
      have stp : ∀ x, (PAf m0 o k x ∨ nsF m0 o k.toNat x) ↔ PAf m0 o (k + 1) x := fun x => by
        constructor
        · rintro (⟨o', k', h1, h2, h3⟩ | h)
          · exact ⟨o', k', by omega, h2, h3⟩
          · exact ⟨o, k.toNat, by omega, ho, h⟩
        · rintro ⟨o', k', h1, h2, h3⟩
          by_cases w : o' = o ∧ k' = k.toNat
          · obtain ⟨rfl, rfl⟩ := w
            exact Or.inr h3
          · exact Or.inl ⟨o', k', by omega, h2, h3⟩
      have nx : ∀ m', FrN mem m' → R4 mem m' → 0 ≤ m' 143 12 → m' 143 12 ≤ mem 143 12 + 1 → NdAll (PN (m0 143 1)) m' (m' 143 12) → Enum (rq m') (m' 143 12).toNat (PAf m0 o (k + 1)) → InI (k + 1) ∧ Wx (Ex S (n + 2)) S M_245 Kk 17 [some (.inr 143), some (.inl (o : Int)), some (.inl (k + 1)), none, none, none] [] m' := fun m' h1 hr h2 h3 h4 h5 => ⟨by unfold InI; omega, ih o (k + 1) m' ho (by omega) (by omega) (by omega) (hF.tr h1) (hR4.tr hr) h2 (by omega) h4 h5⟩
      refine f_242 ho8 (fun _ => ⟨fun q2 => nx mem FrN.rf R4.rf hn0 (by omega) hA (hE.cg rfl (fun _ _ => rfl) (fun x => Iff.trans ⟨Or.inl, fun h => h.elim id (fun h => ?_)⟩ (stp x))), fun q2 => ?_⟩)
      · have := h.2.1
        rw [ek, ← esA] at this
        simp only [Int.toNat_natCast] at q2
        omega
      simp only [Int.toNat_natCast] at q2
      have hA7 : 0 ≤ srcA mem o k ∧ srcA mem o k < 8 := by unfold srcOK at hs; omega
      have hl := hO2.lat (o := (srcA mem o k).toNat) (by omega)
      refine f_242 ho8 (fun _ => f_243 ho8 (fun _ => f_242 ho8 (fun _ => f_246 hO2 (by simpa only [Int.toNat_natCast] using hA7) (fun _ => ?_))))
      simp only [Int.toNat_natCast]
      have hpn : PN (m0 143 1) (srcA mem o k) (o : Int) (srcB mem o k) (latF mem (srcA mem o k).toNat) := by
        unfold SrcS at hS2
        unfold srcOK at hs
        unfold PN
        omega
      refine f_247e (Pn := PN (m0 143 1)) ⟨hn0, by omega⟩ hpn (by unfold PN at hpn; unfold Rg; omega) hA hE (fun m' h1 hr h2 h3 h4 h5 => nx m' h1 hr (by omega) (by omega) h4 (h5.cg rfl (fun _ _ => rfl) (fun x => (or_congr Iff.rfl ?_).trans (stp x))))
      unfold nsF
      rw [ek, ← esN, ← esA, ← esB, ← elat]
      exact ⟨fun e => ⟨by omega, by omega, e⟩, fun h => h.2.2⟩
theorem f_245e {K : MM → Prop} (hO : OpsOK m0) (hS : SoundM m0) (H : ∀ m', FrN m0 m' → R4 m0 m' → 0 ≤ m' 143 12 → m' 143 12 ≤ 44 → NdAll (PN (m0 143 1)) m' (m' 143 12) → Enum (rq m') (m' 143 12).toNat (NdF m0) → K m') : CWV (Ex S (n + 3)) 245 [.inr 143] m0 K := by
  have hF : FrN m0 (upm m0 143 12 0) := fun A i _ _ _ _ h => upm_ne h
  have hR : R4 m0 (upm m0 143 12 0) := R4.same (fun A i e => upm_ne (by omega))
  refine CW.of (k := 5) mt_245 rfl rfl (w_245_0 (Ex.mono S (n + 2)) (w_245_7 (Ex.mono S (n + 2)) (fun v e _ => ⟨fun q => ?_, fun q => ?_⟩)))
  · have e : v = m0 143 1 := by rw [e]; simp [upm]
    refine w_245_76 (Ex.mono S (n + 2)) (fun v2 e2 _ => ⟨fun q3 => ⟨rfl, H _ hF hR (by simp [upm]) (by simp [upm]) ?_ ?_⟩, fun q3 => ?_⟩)
    · intro j hj; simp [upm] at hj; omega
    · rw [upm_eq]
      refine (Enum.nil (c := fun _ => (0, 0, 0, 0))).cg rfl (fun i hi => by omega) (fun x => ⟨fun h => h.elim, ?_⟩)
      rintro (⟨o, k, h1, -⟩ | ⟨s, o, h1, -⟩) <;> omega
    · have e2 : v2 = m0 143 1 := by rw [e2]; simp [upm]
      omega
  · have e : v = m0 143 1 := by rw [e]; simp [upm]
    refine ln_17e hO hS (fun m' h1 hr h2 h3 h4 h5 => ⟨rfl, H m' h1 hr h2 h3 h4 h5⟩) _ 0 0 _ (by omega) (by omega) (by omega) (Nat.lt_succ_self _) hF hR (by simp [upm]) (by simp [upm]) (by intro j hj; simp [upm] at hj; omega) ?_
    rw [upm_eq]
    refine (Enum.nil (c := fun _ => (0, 0, 0, 0))).cg rfl (fun i hi => by omega) (fun x => ⟨fun h => h.elim, ?_⟩)
    rintro ⟨o', k', h1, -⟩
    omega
end RLY
end
section
/-! rings of needs, in the order in which both sides go round them -/
def pmK : List Int → Int32
  | [] => 0
  | o :: l => pmK l ||| X1 o
theorem pmK_mem {p : Int} (hp : 0 ≤ p ∧ p < 8) : ∀ l : List Int, (∀ o ∈ l, 0 ≤ o ∧ o < 8) → (¬ pmK l &&& X1 p = 0 ↔ p ∈ l)
  | [], _ => by
    show ¬ (0 : Int32) &&& X1 p = 0 ↔ p ∈ []
    rw [Int32.zero_and]
    exact ⟨fun h => absurd rfl h, fun h => absurd h List.not_mem_nil⟩
  | o :: l, h => by
    have ih := pmK_mem hp l (fun q hq => h q (List.mem_cons_of_mem _ hq))
    have ho := h o List.mem_cons_self
    show ¬ (pmK l ||| X1 o) &&& X1 p = 0 ↔ p ∈ o :: l
    rw [i32_dist, List.mem_cons]
    by_cases e : p = o
    · subst e
      rw [Int32.and_self]
      exact ⟨fun _ => Or.inl rfl, fun _ q => X1_on ho (Int32.or_eq_zero_iff.mp q).2⟩
    · rw [X1_off ho hp (fun z => e z.symm), Int32.or_zero, ih]
      exact ⟨Or.inr, fun q => q.resolve_left e⟩
abbrev Rg3 : Type := Int × Int × Int32
def dfE (st at_ : Int) (vis : List Int) (D W : Int) (rec : Int → List Int → Int → Int → List Rg3) (x : Q4) : List Rg3 := if ¬ x.1 = at_ ∨ x.2.1 < st then [] else if x.2.1 = st then [(D + x.2.2.2, W + x.2.2.1, X1 st ||| pmK vis)] else if x.2.1 ∈ vis then [] else rec x.2.1 (x.2.1 :: vis) (D + x.2.2.2) (W + x.2.2.1)
def fmN (f : Nat → List Rg3) : Nat → List Rg3
  | 0 => []
  | i + 1 => fmN f i ++ f i
def dfs (c : Nat → Q4) (n : Nat) (st : Int) : Nat → Int → List Int → Int → Int → List Rg3
  | 0, _, _, _, _ => []
  | f + 1, at_, vis, D, W => fmN (fun i => dfE st at_ vis D W (dfs c n st f) (c i)) n
def ringsAll (c : Nat → Q4) (n : Nat) : Nat → List Rg3
  | 0 => []
  | o + 1 => ringsAll c n o ++ dfs c n (o : Int) 9 (o : Int) [] 0 0
theorem fmN_cg {f g : Nat → List Rg3} : ∀ n, (∀ i, i < n → f i = g i) → fmN f n = fmN g n
  | 0, _ => rfl
  | n + 1, h => by
    show fmN f n ++ f n = fmN g n ++ g n
    rw [fmN_cg n (fun i hi => h i (by omega)), h n (by omega)]
theorem dfs_cg {c c' : Nat → Q4} {n : Nat} (h : ∀ i, i < n → c i = c' i) {st : Int} : ∀ f at_ vis D W, dfs c n st f at_ vis D W = dfs c' n st f at_ vis D W
  | 0, _, _, _, _ => rfl
  | f + 1, at_, vis, D, W => by
    show fmN _ n = fmN _ n
    refine fmN_cg n (fun i hi => ?_)
    have e : dfs c n st f = dfs c' n st f := funext fun a => funext fun b => funext fun d => funext fun w => dfs_cg h f a b d w
    rw [h i hi, e]
theorem ringsAll_cg {c c' : Nat → Q4} {n : Nat} (h : ∀ i, i < n → c i = c' i) : ∀ o, ringsAll c n o = ringsAll c' n o
  | 0 => rfl
  | o + 1 => by
    show ringsAll c n o ++ _ = ringsAll c' n o ++ _
    rw [ringsAll_cg h o, dfs_cg h]
def wRg (s : Int × Int × Int) (r : Rg3) : Int × Int × Int := if r.1 ≤ 0 ∨ r.2.1 ≤ 0 then s else if 0 < r.1 * s.2.1 - s.1 * r.2.1 then (r.1, r.2.1, r.2.2.toInt) else if r.1 * s.2.1 - s.1 * r.2.1 = 0 then (s.1, s.2.1, min s.2.2 r.2.2.toInt) else s
def wst (m : MM) (W : Nat) : Int × Int × Int := (m W 5, m W 6, m W 7)
section RTE
variable {S : Nat × (Nat → Int32)} {n : Nat} {mem : MM}
theorem f_28e {K : MM → Prop} {W : Nat} (hW : WebSh W) (hT : WtOK mem W) {x y : Int} {k : Int32} (hx : x ≤ 80) (hy : y ≤ 80) (H : ∀ m', FrWc W mem m' → WtOK m' W → wst m' W = wRg (wst mem W) (x, y, k) → K m') : CWV (Ex S (n + 2)) 28 [.inr W, .inl k.toInt, .inl x, .inl y] mem K := by
  have same : wRg (wst mem W) (x, y, k) = wst mem W → none = (none : Option Int) ∧ K mem := fun e => ⟨rfl, H mem FrWc.rf hT e.symm⟩
  obtain ⟨h5, h6⟩ := hT
  refine CW.of (k := 1) mt_28 rfl rfl (w_28_0 (Ex.mono S (n + 1)) hW ⟨fun q => same (if_pos (Or.inl q)), fun q => ⟨fun q2 v1 e1 _ => ?_, fun q2 => same (if_pos (Or.inr (show y ≤ 0 by omega)))⟩⟩)
  have p1 : 0 ≤ x * v1 ∧ x * v1 ≤ 6400 := by
    have a1 : 0 ≤ x * v1 := Int.mul_nonneg (by omega) (by omega)
    have a2 : x * v1 ≤ 80 * v1 := Int.mul_le_mul_of_nonneg_right hx (by omega)
    omega
  refine ⟨by unfold InI; omega, fun v3 e3 _ => ?_⟩
  have p2 : 0 ≤ v3 * y ∧ v3 * y ≤ 6400 := by
    have a1 : 0 ≤ v3 * y := Int.mul_nonneg (by omega) (by omega)
    have a2 : v3 * y ≤ v3 * 80 := Int.mul_le_mul_of_nonneg_left hy (by omega)
    omega
  have ew : wRg (wst mem W) (x, y, k) = if 0 < x * v1 - v3 * y then (x, y, k.toInt) else if x * v1 - v3 * y = 0 then (v3, v1, min (mem W 7) k.toInt) else wst mem W := by
    unfold wRg wst
    rw [if_neg (show ¬ (x ≤ 0 ∨ y ≤ 0) by omega), e1, e3]
  refine ⟨by unfold InI; omega, by unfold InI; omega, fun z => ⟨fun z2 => same ?_, fun z2 v5 e5 _ => f_29 (fun _ => ⟨rfl, H _ (fun A i e => upm_ne (by omega)) ⟨?_, ?_⟩ ?_⟩)⟩, fun z => ⟨rfl, H _ (fun A i e => ?_) ⟨?_, ?_⟩ ?_⟩⟩
  · rw [ew, if_neg (by omega), if_neg z2]
  · rw [upm_ne (by omega)]; exact h5
  · rw [upm_ne (by omega)]; exact h6
  · rw [ew, if_neg (by omega), if_pos (Classical.not_not.mp z2)]
    unfold wst
    rw [upm_ne (by omega), upm_ne (by omega), upm_eq, ← e1, ← e3, e5]
  · rw [upm_ne (by omega), upm_ne (by omega), upm_ne (by omega)]
  · rw [upm_ne (by omega), upm_ne (by omega), upm_eq]; omega
  · rw [upm_ne (by omega), upm_eq]; omega
  · rw [ew, if_pos (by omega)]
    unfold wst
    rw [upm_ne (by omega), upm_ne (by omega), upm_eq, upm_ne (by omega), upm_eq, upm_eq]
def beenI (st : Int) (vis : List Int) : Int := (X1 st ||| pmK vis).toInt
theorem tb_been {st p : Int} {vis : List Int} (hs : 0 ≤ st ∧ st < 8) (hv : ∀ o ∈ vis, 0 ≤ o ∧ o < 8) (hp : 0 ≤ p ∧ p < 8) : tb (beenI st vis) p ↔ p = st ∨ p ∈ vis := by
  unfold tb beenI
  rw [Int32.ofInt_toInt, i32_dist]
  have q := pmK_mem hp vis hv
  by_cases e : p = st
  · subst e
    rw [Int32.and_self]
    exact ⟨fun _ => Or.inl rfl, fun _ z => X1_on hs (Int32.or_eq_zero_iff.mp z).1⟩
  · rw [X1_off hs hp (fun z => e z.symm), Int32.zero_or, q]
    exact ⟨Or.inr, fun z => z.resolve_left e⟩
theorem been_or {st o b1 t' : Int} {vis : List Int} (e1 : b1 = ((fun (x y : Int32) => x <<< (y &&& 31)) (Int32.ofInt 1) (Int32.ofInt o)).toInt) (e2 : t' = ((fun (x y : Int32) => x ||| y) (Int32.ofInt (beenI st vis)) (Int32.ofInt b1)).toInt) : t' = beenI st (o :: vis) := by
  have e1 : b1 = (X1 o).toInt := e1
  rw [e2, e1]
  show (Int32.ofInt (X1 st ||| pmK vis).toInt ||| Int32.ofInt (X1 o).toInt).toInt = (X1 st ||| (pmK vis ||| X1 o)).toInt
  rw [Int32.ofInt_toInt, Int32.ofInt_toInt, Int32.or_assoc]
theorem go_3e {W : Nat} (hW : WebSh W) {s a x y : Int} {vis : List Int} {m0 : MM} {K : MM → Prop} {E : Nat} {rec : Int → List Int → Int → Int → List Rg3} (hs : 0 ≤ s ∧ s < 8) (hv : ∀ o ∈ vis, 0 ≤ o ∧ o < 8) (hO : WbOK m0 W) (x1 : -74 ≤ x) (x2 : x ≤ 74) (y1 : 0 ≤ y) (y2 : y ≤ 73) (H : ∀ m', FrWc W m0 m' → WtOK m' W → wst m' W = (fmN (fun i => dfE s a vis x y rec (cwq m0 W i)) (m0 W 0).toNat).foldl wRg (wst m0 W) → K m') (hrec : ∀ (m : MM) (K : MM → Prop) (v l e : Int), FrWc W m0 m → WtOK m W → 0 ≤ v → v ≤ 7 → -5 ≤ l → l ≤ 6 → 0 ≤ e → e ≤ 7 → ¬ v = s → ¬ v ∈ vis → (∀ m', FrWc W m m' → WtOK m' W → wst m' W = (rec v (v :: vis) (x + l) (y + e)).foldl wRg (wst m W) → K m') → CWV (Ex S (E + 2)) 27 [.inr W, .inl s, .inl v, .inl (beenI s (v :: vis)), .inl (x + l), .inl (y + e)] m K) : ∀ (N : Nat) (i : Nat) (m : MM), 64 - i < N → (i : Int) ≤ m0 W 0 → FrWc W m0 m → WtOK m W → wst m W = (fmN (fun i => dfE s a vis x y rec (cwq m0 W i)) i).foldl wRg (wst m0 W) → Wx (Ex S (E + 2)) S M_27 (fun r m => r = none ∧ K m) 3 [some (.inr W), some (.inl s), some (.inl a), some (.inl (beenI s vis)), some (.inl x), some (.inl y), some (.inl (i : Int))] [] m := by
  intro N
  induction N with
  | zero => intros; omega
  | succ N ih =>
    intro i m hN hin hF hT hE
    have hO' := hF.wb hO
    have es : m W 0 = m0 W 0 := hF W 0 (by omega)
    refine w_27_3 (Ex.mono S (E + 2)) hW (fun v1 e1 _ => ⟨fun q => ⟨rfl, H m hF hT (by rw [hE, show (m0 W 0).toNat = i by omega])⟩, fun q => ?_⟩)
    have hi : 0 ≤ (i : Int) ∧ (i : Int) < 64 := by have := hO'.2; omega
    obtain ⟨g1, g2, g3, g4⟩ := hO'.1 i (by omega)
    have ecw : cwq m W i = cwq m0 W i := by
      unfold cwq
      rw [hF (W + 1) i (by omega), hF (W + 2) i (by omega), hF (W + 3) i (by omega), hF (W + 4) i (by omega)]
    have nx : ∀ m', FrWc W m0 m' → WtOK m' W → wst m' W = (dfE s a vis x y rec (cwq m0 W i)).foldl wRg (wst m W) → InI ((i : Int) + 1) ∧ Wx (Ex S (E + 2)) S M_27 (fun r m => r = none ∧ K m) 3 [some (.inr W), some (.inl s), some (.inl a), some (.inl (beenI s vis)), some (.inl x), some (.inl y), some (.inl ((i : Int) + 1))] [] m' := fun m' z1 z2 z3 => ⟨by unfold InI; omega, ih (i + 1) m' (by omega) (by omega) z1 z2 (by
      rw [z3, hE, ← List.foldl_append]
      rfl)⟩
    have no : dfE s a vis x y rec (cwq m0 W i) = [] → InI ((i : Int) + 1) ∧ Wx (Ex S (E + 2)) S M_27 (fun r m => r = none ∧ K m) 3 [some (.inr W), some (.inl s), some (.inl a), some (.inl (beenI s vis)), some (.inl x), some (.inl y), some (.inl ((i : Int) + 1))] [] m := fun e => nx m hF hT (by rw [e]; rfl)
    rw [← ecw] at no nx
    have c1 : (cwq m W i).1 = m (W + 1) i := rfl
    have c2 : (cwq m W i).2.1 = m (W + 2) i := rfl
    have c3 : (cwq m W i).2.2.1 = m (W + 3) i := rfl
    have c4 : (cwq m W i).2.2.2 = m (W + 4) i := rfl
    rw [Int.toNat_natCast]
    refine ⟨hi, fun v2 e2 _ => ⟨fun z => no (if_pos (Or.inl (by rw [c1, ← e2]; exact z))), fun za => ⟨hi, fun v3 e3 _ => ⟨fun zb => ⟨hi, fun v4 e4 _ => ⟨fun zc => ⟨hi, fun v5 e5 _ b6 e6 _ b7 e7 _ => ⟨fun zd => no ?_, fun z => ⟨hi, fun v8 e8 _ => ⟨hi, fun v9 e9 _ b10 e10 _ b11 e11 _ => ⟨hi, fun v12 e12 _ => ⟨by unfold InI; omega, hi, fun v13 e13 _ => ⟨by unfold InI; omega, ?_⟩⟩⟩⟩⟩⟩⟩, fun zc => ⟨hi, fun v15 e15 _ => ⟨by unfold InI; omega, hi, fun v16 e16 _ => ⟨by unfold InI; omega, f_28e (k := X1 s ||| pmK vis) hW hT (by omega) (by omega) (fun m' k1 k2 k3 => nx m' (hF.tr k1) k2 ?_)⟩⟩⟩⟩⟩, fun zb => no (if_pos (Or.inr (by rw [c2, ← e3]; omega)))⟩⟩⟩⟩
    · have h58 : v5 = v4 := by rw [e5, e4]
      rw [h58] at e6
      have ht := tb_of e6 e7
      have hin2 : tb (beenI s vis) v4 := Classical.byContradiction (fun w => zd (ht.mpr w))
      have hm := ((tb_been hs hv (by omega)).mp hin2).resolve_left zc
      unfold dfE
      rw [if_neg (by rw [c1, c2, ← e2, ← e3]; omega), if_neg (by rw [c2, ← e4]; exact zc), if_pos (by rw [c2, ← e4]; exact hm)]
    · have h59 : v9 = v8 := by rw [e9, e8]
      have h58 : v5 = v8 := by rw [e5, e8]
      have h48 : v4 = v8 := by rw [e4, e8]
      subst h59
      rw [h58] at e6
      rw [h48] at zc
      have hnt : ¬ tb (beenI s vis) v9 := (tb_of e6 e7).mp (Classical.not_not.mp z)
      have hnv : ¬ v9 ∈ vis := fun w => hnt ((tb_been hs hv (by omega)).mpr (Or.inr w))
      have eb := been_or e10 e11
      rw [eb]
      refine hrec m _ v9 v12 v13 hF hT (by omega) (by omega) (by omega) (by omega) (by omega) (by omega) zc hnv (fun m' k1 k2 k3 => nx m' (hF.tr k1) k2 ?_)
      rw [k3]
      unfold dfE
      rw [if_neg (by rw [c1, c2, ← e2, ← e9]; omega), if_neg (by rw [c2, ← e9]; exact zc), if_neg (by rw [c2, ← e9]; exact hnv), c2, c3, c4, ← e9, ← e12, ← e13]
    · rw [k3]
      unfold dfE
      rw [if_neg (by rw [c1, c2, ← e2, ← e3]; omega), if_pos (by rw [c2, ← e4]; exact Classical.not_not.mp zc), c3, c4, ← e15, ← e16]
      rfl
theorem f_27e {W : Nat} (hW : WebSh W) {s : Int} (hs : 0 ≤ s ∧ s < 8) : ∀ (c : Nat) (mem : MM) (K : MM → Prop) (a x y : Int) (vis : List Int), (∀ o ∈ vis, 0 ≤ o ∧ o < 8) → WbOK mem W → WtOK mem W → cnt (beenI s vis) ≤ c → c ≤ 8 → -6 * (9 - (c : Int)) ≤ x → x ≤ 6 * (9 - (c : Int)) → 0 ≤ y → y ≤ 7 * (9 - (c : Int)) → (∀ m', FrWc W mem m' → WtOK m' W → wst m' W = (dfs (cwq mem W) (mem W 0).toNat s (c + 1) a vis x y).foldl wRg (wst mem W) → K m') → CWV (Ex S (n + c + 3)) 27 [.inr W, .inl s, .inl a, .inl (beenI s vis), .inl x, .inl y] mem K := by
  have b1 : ∀ v : Int, ∃ b1 : Int, b1 = ((fun (x y : Int32) => x <<< (y &&& 31)) (Int32.ofInt 1) (Int32.ofInt v)).toInt := fun v => ⟨_, rfl⟩
  have grow : ∀ (vis : List Int) (v : Int), (∀ o ∈ vis, 0 ≤ o ∧ o < 8) → 0 ≤ v → v ≤ 7 → ¬ v = s → ¬ v ∈ vis → cnt (beenI s (v :: vis)) < cnt (beenI s vis) := fun vis v hv v1 v2 ne nv => by
    obtain ⟨b, e1⟩ := b1 v
    have e2 := been_or (st := s) (vis := vis) e1 rfl
    rw [← e2]
    exact cnt_set e1 rfl ⟨v1, by omega⟩ (fun z => ((tb_been hs hv ⟨v1, by omega⟩).mp z).elim ne nv)
  intro c
  induction c with
  | zero =>
    intro mem K a x y vis hv hO hT hc hc8 x1 x2 y1 y2 H
    refine CW.of (k := 1) mt_27 rfl rfl (w_27_0 (Ex.mono S (n + 0 + 2)) hW (go_3e (rec := dfs (cwq mem W) (mem W 0).toNat s 0) hW hs hv hO (by omega) (by omega) y1 (by omega) H (fun m K v l e _ _ v1 v2 _ _ _ _ ne nv _ => ?_) 65 0 mem (by omega) hO.2.1 FrWc.rf hT rfl))
    have := grow vis v hv v1 v2 ne nv
    omega
  | succ c ihc =>
    intro mem K a x y vis hv hO hT hc hc8 x1 x2 y1 y2 H
    refine CW.of (k := 1) mt_27 rfl rfl (w_27_0 (Ex.mono S (n + (c + 1) + 2)) hW (go_3e (rec := dfs (cwq mem W) (mem W 0).toNat s (c + 1)) hW hs hv hO (by omega) (by omega) y1 (by omega) H (fun m K v l e hF hT' v1 v2 l1 l2 d1 d2 ne nv H' => ?_) 65 0 mem (by omega) hO.2.1 FrWc.rf hT rfl))
    have := grow vis v hv v1 v2 ne nv
    have e0 : m W 0 = mem W 0 := hF W 0 (by omega)
    have ec : cwq m W = cwq mem W := funext fun i => by
      unfold cwq
      rw [hF (W + 1) i (by omega), hF (W + 2) i (by omega), hF (W + 3) i (by omega), hF (W + 4) i (by omega)]
    refine ihc m K v (x + l) (y + e) (v :: vis) (fun o ho => (List.mem_cons.mp ho).elim (fun z => by rw [z]; omega) (hv o)) (hF.wb hO) hT' (by omega) (by omega) (by omega) (by omega) (by omega) (by omega) (fun m' k1 k2 k3 => H' m' k1 k2 (by rw [k3, ec, e0]))
end RTE
end
section
/-! the rate of rings, reduced, as both sides come to it -/
def GcD (r a b : Int) : Prop := 0 < r ∧ r ∣ a ∧ r ∣ b ∧ ∀ d : Int, d ∣ a → d ∣ b → d ∣ r
theorem eu_step {x y : Int} (d : Int) : (d ∣ y ∧ d ∣ x.tmod y) ↔ (d ∣ x ∧ d ∣ y) := by
  constructor
  · rintro ⟨h1, h2⟩
    refine ⟨?_, h1⟩
    have k := Int.dvd_add (Int.dvd_mul_of_dvd_left (c := x.tdiv y) h1) h2
    rw [Int.mul_tdiv_add_tmod] at k
    exact k
  · rintro ⟨h1, h2⟩
    refine ⟨h2, ?_⟩
    rw [Int.tmod_def]
    exact Int.dvd_sub h1 (Int.dvd_mul_of_dvd_left h2)
theorem GcD.fin {a b x : Int} (hx : 0 < x) (h : ∀ d : Int, (d ∣ x ∧ d ∣ 0) ↔ (d ∣ a ∧ d ∣ b)) : GcD x a b := ⟨hx, ((h x).mp ⟨Int.dvd_refl _, Int.dvd_zero _⟩).1, ((h x).mp ⟨Int.dvd_refl _, Int.dvd_zero _⟩).2, fun d h1 h2 => ((h d).mpr ⟨h1, h2⟩).1⟩
theorem GcD.red {r a b : Int} (h : GcD r a b) (ha : 0 ≤ a) (hb : 0 < b) : a = r * a.tdiv r ∧ b = r * b.tdiv r ∧ 0 ≤ a.tdiv r ∧ 1 ≤ b.tdiv r ∧ GcD 1 (a.tdiv r) (b.tdiv r) ∧ (0 < a → 0 < a.tdiv r) := by
  obtain ⟨h1, h2, h3, h4⟩ := h
  have ea := Int.mul_tdiv_cancel' h2
  have eb := Int.mul_tdiv_cancel' h3
  have pa := (tdiv_r ha h1).1
  have pb := (tdiv_r (Int.le_of_lt hb) h1).1
  have nb : ¬ b.tdiv r = 0 := fun z => by
    rw [z, Int.mul_zero] at eb
    omega
  refine ⟨ea.symm, eb.symm, pa, by omega, ⟨by omega, ⟨_, (Int.one_mul _).symm⟩, ⟨_, (Int.one_mul _).symm⟩, fun d d1 d2 => ?_⟩, fun z => ?_⟩
  · have k1 := Int.mul_dvd_mul_left r d1
    have k2 := Int.mul_dvd_mul_left r d2
    rw [ea] at k1
    rw [eb] at k2
    have k := h4 (r * d) k1 k2
    exact Int.dvd_of_mul_dvd_mul_left (a := r) (by omega) (by rw [Int.mul_one]; exact k)
  · have na : ¬ a.tdiv r = 0 := fun w => by
      rw [w, Int.mul_zero] at ea
      omega
    omega
theorem GcD.uq {g r u l : Int} (hg : 0 < g) (h1 : GcD 1 u l) (h : GcD r (g * u) (g * l)) : r = g := by
  obtain ⟨r0, r1, r2, r3⟩ := h
  obtain ⟨k, ek⟩ := r3 g (Int.dvd_mul_right _ _) (Int.dvd_mul_right _ _)
  subst ek
  have k1 : k ∣ u := Int.dvd_of_mul_dvd_mul_left (a := g) (by omega) r1
  have k2 : k ∣ l := Int.dvd_of_mul_dvd_mul_left (a := g) (by omega) r2
  have kd := h1.2.2.2 k k1 k2
  have kp : 0 ≤ k := by
    rcases Int.lt_or_le k 0 with z | z
    · have := Int.mul_nonpos_of_nonneg_of_nonpos (Int.le_of_lt hg) (Int.le_of_lt z)
      omega
    · exact z
  rw [Int.eq_one_of_dvd_one kp kd, Int.mul_one]
theorem GcD.gs {u l p : Int} (h : GcD 1 u l) (hd : u ∣ p * l) : u ∣ p := by
  have g : Int.gcd u l = 1 := Int.gcd_eq_one_iff.mpr h.2.2.2
  have k := Int.dvd_mul_gcd_iff_dvd_mul.mpr hd
  rw [g] at k
  have e : p * ((1 : Nat) : Int) = p := Int.mul_one p
  rw [e] at k
  exact k
theorem GcD.same {u l p q : Int} (hu : 0 ≤ u) (hp : 0 < p) (h1 : GcD 1 u l) (h2 : GcD 1 p q) (e : p * l = u * q) : u = p ∧ l = q := by
  have c := Int.dvd_antisymm hu (Int.le_of_lt hp) (h1.gs ⟨q, e⟩) (h2.gs ⟨l, e.symm⟩)
  refine ⟨c, ?_⟩
  rw [c] at e
  exact Int.eq_of_mul_eq_mul_left (by omega) e
def RtR (s : Int × Int × Int) (u l c : Int) : Prop := (∃ g : Int, 0 < g ∧ s.1 = g * u ∧ s.2.1 = g * l ∧ GcD 1 u l) ∧ 0 ≤ u ∧ 1 ≤ l ∧ s.2.2 = c ∧ (0 < u → 1 ≤ c)
theorem RtR.ini : RtR (0, 1, 0) 0 1 0 := ⟨⟨1, by omega, rfl, rfl, by omega, ⟨0, rfl⟩, ⟨1, rfl⟩, fun _ _ h => h⟩, by omega, by omega, rfl, fun h => by omega⟩
theorem RtR.step {s : Int × Int × Int} {u l c D W : Int} {M : Int32} (h : RtR s u l c) (hW : 1 ≤ W) (hM : 1 ≤ M.toInt) : (D ≤ 0 ∨ D * l - u * W < 0 → RtR (wRg s (D, W, M)) u l c) ∧ (0 < D → 0 ≤ D * l - u * W → ∀ r, GcD r D W → ∀ c', (0 < D * l - u * W → c' = M.toInt) → (D * l - u * W = 0 → (c = 0 → c' = M.toInt) ∧ (¬ c = 0 → c' = min c M.toInt)) → RtR (wRg s (D, W, M)) (D.tdiv r) (W.tdiv r) c') := by
  obtain ⟨s1, s2, s3⟩ := s
  obtain ⟨⟨g, g0, g1, g2, g3⟩, hu, hl, hc, h1⟩ := h
  have g1 : s1 = g * u := g1
  have g2 : s2 = g * l := g2
  have hc : s3 = c := hc
  subst g1
  subst g2
  subst hc
  have e1 : D * (g * l) = g * (D * l) := Int.mul_left_comm D g l
  have e2 : g * u * W = g * (u * W) := Int.mul_assoc g u W
  have em : D * (g * l) - g * u * W = g * (D * l - u * W) := by rw [e1, e2, Int.mul_sub]
  have ew : wRg (g * u, g * l, s3) (D, W, M) = if D ≤ 0 ∨ W ≤ 0 then (g * u, g * l, s3) else if 0 < D * (g * l) - g * u * W then (D, W, M.toInt) else if D * (g * l) - g * u * W = 0 then (g * u, g * l, min s3 M.toInt) else (g * u, g * l, s3) := rfl
  rw [ew, em]
  have same : RtR (g * u, g * l, s3) u l s3 := ⟨⟨g, g0, rfl, rfl, g3⟩, hu, hl, rfl, h1⟩
  generalize hz : D * l - u * W = z
  refine ⟨fun q => ?_, fun hD hz0 r hr c' k1 k2 => ?_⟩
  · by_cases q2 : D ≤ 0
    · rw [if_pos (Or.inl q2)]; exact same
    · have gz : g * z < 0 := Int.mul_neg_of_pos_of_neg g0 (by omega)
      rw [if_neg (by omega), if_neg (by omega), if_neg (by omega)]; exact same
  · obtain ⟨ea, eb, pa, pb, gc, pp⟩ := hr.red (by omega) (by omega)
    rw [if_neg (by omega)]
    by_cases q : 0 < z
    · have gz : 0 < g * z := Int.mul_pos g0 q
      rw [if_pos gz]
      exact ⟨⟨r, hr.1, ea, eb, gc⟩, pa, pb, (k1 q).symm, fun _ => by rw [k1 q]; exact hM⟩
    · have z0 : z = 0 := by omega
      have gz : g * z = 0 := by rw [z0]; exact Int.mul_zero _
      rw [if_neg (by omega), if_pos gz]
      have up : 0 < u := by
        have d1 : 0 < D * l := Int.mul_pos hD (by omega)
        by_cases w : u = 0
        · rw [w, Int.zero_mul] at hz
          omega
        · omega
      have c1 := h1 up
      have e : D.tdiv r * l = u * W.tdiv r := Int.eq_of_mul_eq_mul_left (a := r) (by have := hr.1; omega) (by
        have a1 : r * (D.tdiv r * l) = D * l := by rw [← Int.mul_assoc, ← ea]
        have a2 : r * (u * W.tdiv r) = u * W := by rw [Int.mul_left_comm, ← eb]
        rw [a1, a2]
        omega)
      obtain ⟨x1, x2⟩ := GcD.same hu (pp hD) g3 gc e
      rw [← x1, ← x2]
      have ck := (k2 z0).2 (by omega)
      exact ⟨⟨g, g0, rfl, rfl, g3⟩, hu, hl, ck.symm, fun _ => by omega⟩
def RtL (L : List Rg3) (m : MM) (W : Nat) : Prop := ∃ r, GcD r (L.foldl wRg (0, 1, 0)).1 (L.foldl wRg (0, 1, 0)).2.1 ∧ m W 5 = (L.foldl wRg (0, 1, 0)).1.tdiv r ∧ m W 6 = (L.foldl wRg (0, 1, 0)).2.1.tdiv r ∧ m W 7 = (L.foldl wRg (0, 1, 0)).2.2
theorem RtL.eq {L : List Rg3} {m : MM} {W : Nat} {u l c : Int} (h : RtL L m W) (h2 : RtR (L.foldl wRg (0, 1, 0)) u l c) : m W 5 = u ∧ m W 6 = l ∧ m W 7 = c := by
  obtain ⟨r, h3, h4, h5, h6⟩ := h
  obtain ⟨⟨g, g0, g1, g2, g3⟩, -, -, g4, -⟩ := h2
  rw [g1, g2] at h3
  have e := GcD.uq g0 g3 h3
  subst e
  rw [h4, h5, h6, g1, g2, g4]
  exact ⟨Int.mul_tdiv_cancel_left _ (by omega), Int.mul_tdiv_cancel_left _ (by omega), rfl⟩
section RTW
variable {S : Nat × (Nat → Int32)} {n : Nat} {mem : MM}
theorem f_30e {K : Int → MM → Prop} {a b : Int} (ha : 0 ≤ a ∧ a ≤ 80) (hb : 1 ≤ b ∧ b ≤ 80) (H : ∀ r, GcD r a b → K r mem) : CWI (Ex S (n + 1)) 30 [.inl a, .inl b] mem K := by
  have key : ∀ (N : Nat) (x y i : Int), 0 < x ∨ (x = 0 ∧ 0 < y) → 0 ≤ y → 0 ≤ x → 0 ≤ i → y ≤ 80 - i → (100 - i).toNat < N → (∀ d : Int, (d ∣ x ∧ d ∣ y) ↔ (d ∣ a ∧ d ∣ b)) → Wx (Ex S n) S M_30 (fun r m => ∃ y, r = some y ∧ K y m) 7 [some (.inl a), some (.inl b), some (.inl x), some (.inl y), some (.inl i), none] [] mem := by
    intro N
    induction N with
    | zero => intros; omega
    | succ N ih =>
      intro x y i h0 hy hx hi hyi hN hd
      refine w_30_7 (Ex.mono S n) ⟨fun q _ => by omega, fun q => ⟨fun q2 _ => ⟨_, rfl, H x (GcD.fin (by omega) (by subst q2; exact hd))⟩, fun q2 => ⟨by omega, by unfold InI; omega, ?_⟩⟩⟩
      have r := tmod_r hx (show 0 < y by omega)
      exact ih y _ (i + 1) (by omega) r.1 hy (by omega) (by omega) (by omega) (fun d => (eu_step d).trans (hd d))
  exact CW.of (k := 4) mt_30 rfl rfl (w_30_0 (Ex.mono S n) (key 101 a b 0 (by omega) (by omega) ha.1 (by omega) (by omega) (by omega) (fun d => Iff.rfl)))
theorem f_26e {K : MM → Prop} {W : Nat} (hW : WebSh W) (hO : WbOK mem W) {c : Int} (hc : 0 ≤ c ∧ c ≤ 8) (H : ∀ m', FrWc W mem m' → WtOK m' W → RtL (ringsAll (cwq mem W) (mem W 0).toNat c.toNat) m' W → K m') : CWV (Ex S (n + 12)) 26 [.inr W, .inl c] mem K := by
  have key : ∀ (N : Nat) (o : Nat) (m : MM), 8 - o < N → (o : Int) ≤ c → FrWc W mem m → WtOK m W → wst m W = (ringsAll (cwq mem W) (mem W 0).toNat o).foldl wRg (0, 1, 0) → Wx (Ex S (n + 11)) S M_26 (fun r m => r = none ∧ K m) 17 [some (.inr W), some (.inl c), some (.inl (o : Int))] [] m := by
    intro N
    induction N with
    | zero => intros; omega
    | succ N ih =>
      intro o m hN hoc hF hT hE
      refine w_26_17 (Ex.mono S (n + 11)) hW ⟨fun q v1 e1 _ v2 e2 _ => ?_, fun q b7 e7 _ => ?_⟩
      · have eo : o = c.toNat := by omega
        subst eo
        obtain ⟨h5, h6⟩ := hT
        generalize hL : ringsAll (cwq mem W) (mem W 0).toNat c.toNat = L at H hE
        unfold RtL at H
        generalize hs : L.foldl wRg (0, 1, 0) = s at H hE
        subst hE
        have hv1 : v1 = (wst m W).1 := e1
        have hv2 : v2 = (wst m W).2.1 := e2
        refine f_30e ⟨by omega, by omega⟩ ⟨by omega, by omega⟩ (fun r hr _ => ?_)
        rw [hv1, hv2] at hr
        refine ⟨fun q1 => ⟨rfl, H m hF ⟨h5, h6⟩ ⟨r, hr, ?_, ?_, rfl⟩⟩, fun _ v5 e5 _ => ⟨hr.1, fun v6 e6 _ => ⟨hr.1, rfl, H _ (fun A i e => ?_) ⟨?_, ?_⟩ ⟨r, hr, ?_, ?_, ?_⟩⟩⟩⟩
        · have r1 : r = 1 := by have := hr.1; omega
          rw [r1, Int.tdiv_one]; rfl
        · have r1 : r = 1 := by have := hr.1; omega
          rw [r1, Int.tdiv_one]; rfl
        · rw [upm_ne (by omega), upm_ne (by omega)]; exact hF A i e
        · rw [upm_ne (by omega), upm_eq]
          have := tdiv_r (show 0 ≤ v5 by omega) hr.1
          omega
        · rw [upm_ne (by omega)] at e6
          have g := hr.red (show 0 ≤ (wst m W).1 from h5.1) (show 0 < (wst m W).2.1 from by show 0 < m W 6; omega)
          have g1 : 1 ≤ (m W 6).tdiv r := g.2.2.2.1
          have := tdiv_r (show 0 ≤ m W 6 by omega) hr.1
          rw [upm_eq, e6]; omega
        · rw [upm_ne (by omega), upm_eq, e5]; rfl
        · rw [upm_ne (by omega)] at e6
          rw [upm_eq, e6]; rfl
        · rw [upm_ne (by omega), upm_ne (by omega)]; rfl
      · have e0 : m W 0 = mem W 0 := hF W 0 (by omega)
        have ec : cwq m W = cwq mem W := funext fun i => by
          unfold cwq
          rw [hF (W + 1) i (by omega), hF (W + 2) i (by omega), hF (W + 3) i (by omega), hF (W + 4) i (by omega)]
        have eb : b7 = beenI (o : Int) [] := by
          have e7 : b7 = (X1 (o : Int)).toInt := e7
          rw [e7]
          show (X1 (o : Int)).toInt = (X1 (o : Int) ||| 0).toInt
          rw [Int32.or_zero]
        rw [eb]
        refine f_27e hW (s := (o : Int)) ⟨by omega, by omega⟩ 8 m _ (o : Int) 0 0 [] (fun _ h => absurd h List.not_mem_nil) (hF.wb hO) hT (cnt_le _) (by omega) (by omega) (by omega) (by omega) (by omega) (fun m' k1 k2 k3 => ⟨by unfold InI; omega, ih (o + 1) m' (by omega) (by omega) (hF.tr k1) k2 ?_⟩)
        rw [k3, hE, ec, e0, ← List.foldl_append]
        rfl
  refine CW.of (k := 1) mt_26 rfl rfl (w_26_0 (Ex.mono S (n + 11)) hW (key 9 0 _ (by omega) (by omega) (fun A i e => ?_) ⟨?_, ?_⟩ ?_))
  · rw [upm_ne (by omega), upm_ne (by omega), upm_ne (by omega)]
  · rw [upm_ne (by omega), upm_ne (by omega), upm_eq]; omega
  · rw [upm_ne (by omega), upm_eq]; omega
  · unfold wst
    rw [upm_ne (by omega), upm_ne (by omega), upm_eq, upm_ne (by omega), upm_eq, upm_eq]
    rfl
end RTW
def RtX (m : MM) : Prop := WtOK m 9 ∧ RtL (ringsAll (cwq m 9) (m 9 0).toNat (m 1 0).toNat) m 9
theorem RtX.fr {m m' : MM} (h : RtX m) (e : ∀ A i, (A = 9 ∧ (i = 0 ∨ i = 5 ∨ i = 6 ∨ i = 7)) ∨ (10 ≤ A ∧ A ≤ 13) ∨ (A = 1 ∧ i = 0) → m' A i = m A i) : RtX m' := by
  have ec : cwq m' 9 = cwq m 9 := funext fun i => by
    unfold cwq
    rw [e (9 + 1) i (by omega), e (9 + 2) i (by omega), e (9 + 3) i (by omega), e (9 + 4) i (by omega)]
  unfold RtX RtL WtOK
  rw [ec, e 9 0 (by omega), e 1 0 (by omega), e 9 5 (by omega), e 9 6 (by omega), e 9 7 (by omega)]
  exact h
def WbX (m : MM) : Prop := WbS m ∧ Enum (cwq m 9) (m 9 0).toNat (NdC m (-1)) ∧ RtX m
theorem WbX.fr {m m' : MM} (h : WbX m) (e : ∀ A i, (A = 9 ∧ (i = 0 ∨ i = 5 ∨ i = 6 ∨ i = 7)) ∨ (10 ≤ A ∧ A ≤ 13) ∨ (0 < A ∧ A < 9 ∧ ¬ A = 4) → m' A i = m A i) : WbX m' := by
  have y := WbY.fr ⟨h.1, h.2.1⟩ (fun A i q => e A i (by omega))
  exact ⟨y.1, y.2, h.2.2.fr (fun A i q => e A i (by omega))⟩
end
section
/-! the reference goes round the same rings, edge by edge -/
theorem i32_255 {x : Int32} (h : x &&& 255 = x) : 0 ≤ x.toInt := by
  have h2 : x.toBitVec &&& 255#32 = x.toBitVec := congrArg Int32.toBitVec h
  have h3 : x.toBitVec.toNat ≤ 255 := by
    rw [← h2, BitVec.toNat_and]
    exact Nat.and_le_right
  have h4 : x.toBitVec.toInt = x.toBitVec.toNat := BitVec.toInt_eq_toNat_of_lt (by omega)
  have h5 : x.toInt = x.toBitVec.toInt := rfl
  omega
theorem X1_255 {o : Int} (ho : 0 ≤ o ∧ o < 8) : X1 o &&& 255 = X1 o := by
  have a : o = 0 ∨ o = 1 ∨ o = 2 ∨ o = 3 ∨ o = 4 ∨ o = 5 ∨ o = 6 ∨ o = 7 := by omega
  rcases a with a | a | a | a | a | a | a | a <;> subst a <;> decide
theorem pmK_255 : ∀ l : List Int, (∀ o ∈ l, 0 ≤ o ∧ o < 8) → pmK l &&& 255 = pmK l
  | [], _ => by
    show (0 : Int32) &&& 255 = 0
    exact Int32.zero_and
  | o :: l, h => by
    show (pmK l ||| X1 o) &&& 255 = pmK l ||| X1 o
    rw [i32_dist, pmK_255 l (fun q hq => h q (List.mem_cons_of_mem _ hq)), X1_255 (h o List.mem_cons_self)]
theorem pmK_pos {p : Int} {l : List Int} (h : ∀ o ∈ l, 0 ≤ o ∧ o < 8) (hp : p ∈ l) : 1 ≤ (pmK l).toInt := by
  have a := i32_255 (pmK_255 l h)
  have b : ¬ pmK l = 0 := fun z => (pmK_mem (h p hp) l h).mpr hp (by rw [z, Int32.zero_and])
  have c : ¬ (pmK l).toInt = 0 := fun z => b ((tI0 _).mp z)
  omega
def chD (m : MM) : Nat → Int
  | 0 => 0
  | i + 1 => chD m i + m 157 (m 170 i).toNat
def chW (m : MM) : Nat → Int
  | 0 => 0
  | i + 1 => chW m i + m 156 (m 170 i).toNat
def chV (m : MM) : Nat → List Int
  | 0 => []
  | i + 1 => m 155 (m 170 i).toNat :: chV m i
theorem chV_mem {m : MM} {x : Int} : ∀ j, x ∈ chV m j ↔ ∃ i, i < j ∧ x = m 155 (m 170 i).toNat
  | 0 => ⟨fun h => absurd h List.not_mem_nil, fun ⟨i, h, _⟩ => by omega⟩
  | j + 1 => by
    show x ∈ m 155 (m 170 j).toNat :: chV m j ↔ _
    rw [List.mem_cons, chV_mem j]
    constructor
    · rintro (h | ⟨i, h1, h2⟩)
      · exact ⟨j, by omega, h⟩
      · exact ⟨i, by omega, h2⟩
    · rintro ⟨i, h1, h2⟩
      by_cases e : i = j
      · subst e; exact Or.inl h2
      · exact Or.inr ⟨i, by omega, h2⟩
theorem ch_cg {m m' : MM} (h : FrE m m') : ∀ k, (∀ i, i < k → m' 170 i = m 170 i) → chD m' k = chD m k ∧ chW m' k = chW m k ∧ chV m' k = chV m k
  | 0, _ => ⟨rfl, rfl, rfl⟩
  | k + 1, he => by
    have q := ch_cg h k (fun i hi => he i (by omega))
    have e := he k (by omega)
    have e5 := h 155 (m 170 k).toNat (by omega) (by omega)
    have e6 := h 156 (m 170 k).toNat (by omega) (by omega)
    have e7 := h 157 (m 170 k).toNat (by omega) (by omega)
    refine ⟨?_, ?_, ?_⟩
    · show chD m' k + m' 157 (m' 170 k).toNat = chD m k + m 157 (m 170 k).toNat
      rw [q.1, e, e7]
    · show chW m' k + m' 156 (m' 170 k).toNat = chW m k + m 156 (m 170 k).toNat
      rw [q.2.1, e, e6]
    · show m' 155 (m' 170 k).toNat :: chV m' k = m 155 (m 170 k).toNat :: chV m k
      rw [q.2.2, e, e5]
theorem chP_cg {m m' : MM} {b : Int} (h : FrE m m') {j : Nat} (he : ∀ i, i < j → m' 170 i = m 170 i) : chP m' b j = chP m b j := by
  unfold chP
  split
  · rfl
  · rw [he (j - 1) (by omega), h 155 _ (by omega) (by omega)]
theorem rq_cg {m m' : MM} (h : FrE m m') : rq m' = rq m := funext fun i => by
  unfold rq
  rw [h 154 i (by omega) (by omega), h 155 i (by omega) (by omega), h 156 i (by omega) (by omega), h 157 i (by omega) (by omega)]
def fmR (f : Nat → List Rg3) : Nat → Nat → List Rg3
  | _, 0 => []
  | i, k + 1 => f i ++ fmR f (i + 1) k
theorem fmN_R (f : Nat → List Rg3) : ∀ k i, fmN f (i + k) = fmN f i ++ fmR f i k
  | 0, i => (List.append_nil _).symm
  | k + 1, i => by
    have e := fmN_R f k (i + 1)
    have e2 : fmN f (i + 1) = fmN f i ++ f i := rfl
    have e3 : fmR f i (k + 1) = f i ++ fmR f (i + 1) k := rfl
    exact (congrArg (fmN f) (show i + (k + 1) = i + 1 + k by omega)).trans (e.trans (by rw [e2, e3, List.append_assoc]))
theorem fmR_s {f : Nat → List Rg3} {i c : Nat} (h : i < c) : fmR f i (c - i) = f i ++ fmR f (i + 1) (c - (i + 1)) := by
  obtain ⟨k, rfl⟩ : ∃ k, c = i + (k + 1) := ⟨c - i - 1, by omega⟩
  rw [show i + (k + 1) - i = k + 1 by omega, show i + (k + 1) - (i + 1) = k by omega]
  rfl
def lvl (m : MM) (b : Int) (c : Nat) (j : Nat) (i : Nat) : List Rg3 := dfE b (chP m b j) (chV m j) (chD m j) (chW m j) (dfs (rq m) c b (8 - j)) (rq m i)
def odR (m : MM) (b : Int) (c : Nat) : Nat → List Rg3
  | 0 => []
  | j + 1 => fmR (lvl m b c j) (m 170 j + 1).toNat (c - (m 170 j + 1).toNat) ++ odR m b c j
theorem lvl_cg {m m' : MM} {b : Int} {c j : Nat} (h : FrE m m') (he : ∀ i, i < j → m' 170 i = m 170 i) : lvl m' b c j = lvl m b c j := funext fun i => by
  have q := ch_cg h j he
  unfold lvl
  rw [chP_cg h he, q.1, q.2.1, q.2.2, rq_cg h]
theorem odR_cg {m m' : MM} {b : Int} {c : Nat} (h : FrE m m') : ∀ j, (∀ i, i < j → m' 170 i = m 170 i) → odR m' b c j = odR m b c j
  | 0, _ => rfl
  | j + 1, he => by
    show fmR (lvl m' b c j) (m' 170 j + 1).toNat (c - (m' 170 j + 1).toNat) ++ odR m' b c j = fmR (lvl m b c j) (m 170 j + 1).toNat (c - (m 170 j + 1).toNat) ++ odR m b c j
    rw [lvl_cg h (fun i hi => he i (by omega)), odR_cg h j (fun i hi => he i (by omega)), he j (by omega)]
theorem odR_end {m : MM} {b : Int} {c j : Nat} (hk : c ≤ (m 170 j + 1).toNat) : odR m b c (j + 1) = odR m b c j := by
  show fmR (lvl m b c j) (m 170 j + 1).toNat (c - (m 170 j + 1).toNat) ++ odR m b c j = odR m b c j
  rw [Nat.sub_eq_zero_of_le hk]
  rfl
theorem odR_next {m : MM} {b : Int} {c j : Nat} (h0 : -1 ≤ m 170 j) (hk : (m 170 j + 1).toNat < c) : odR m b c (j + 1) = lvl m b c j (m 170 j + 1).toNat ++ odR (upm m 170 j (m 170 j + 1)) b c (j + 1) := by
  have e : odR (upm m 170 j (m 170 j + 1)) b c (j + 1) = fmR (lvl m b c j) ((m 170 j + 1).toNat + 1) (c - ((m 170 j + 1).toNat + 1)) ++ odR m b c j := by
    show fmR (lvl (upm m 170 j (m 170 j + 1)) b c j) (upm m 170 j (m 170 j + 1) 170 j + 1).toNat (c - (upm m 170 j (m 170 j + 1) 170 j + 1).toNat) ++ odR (upm m 170 j (m 170 j + 1)) b c j = _
    rw [lvl_cg FrE.up (fun i hi => upm_ne (by omega)), odR_cg FrE.up j (fun i hi => upm_ne (by omega)), upm_eq, show (m 170 j + 1 + 1).toNat = (m 170 j + 1).toNat + 1 by omega]
  rw [e]
  show fmR (lvl m b c j) (m 170 j + 1).toNat (c - (m 170 j + 1).toNat) ++ odR m b c j = _
  rw [fmR_s hk, List.append_assoc]
theorem odR_push {m : MM} {b : Int} {c j : Nat} (hj : j ≤ 7) : odR (upm m 170 (j + 1) (-1)) b c (j + 2) = dfs (rq m) c b (8 - j) (m 155 (m 170 j).toNat) (m 155 (m 170 j).toNat :: chV m j) (chD m j + m 157 (m 170 j).toNat) (chW m j + m 156 (m 170 j).toNat) ++ odR m b c (j + 1) := by
  have X : fmR (lvl m b c (j + 1)) 0 c = dfs (rq m) c b (8 - j) (m 155 (m 170 j).toNat) (m 155 (m 170 j).toNat :: chV m j) (chD m j + m 157 (m 170 j).toNat) (chW m j + m 156 (m 170 j).toNat) := by
    have e := fmN_R (lvl m b c (j + 1)) c 0
    rw [Nat.zero_add] at e
    have e2 : fmN (lvl m b c (j + 1)) 0 ++ fmR (lvl m b c (j + 1)) 0 c = fmR (lvl m b c (j + 1)) 0 c := rfl
    have cp : chP m b (j + 1) = m 155 (m 170 j).toNat := by
      unfold chP
      rw [if_neg (by omega)]
      rfl
    rw [← e2, ← e, show 8 - j = 8 - (j + 1) + 1 by omega, ← cp]
    rfl
  show fmR (lvl (upm m 170 (j + 1) (-1)) b c (j + 1)) (upm m 170 (j + 1) (-1) 170 (j + 1) + 1).toNat (c - (upm m 170 (j + 1) (-1) 170 (j + 1) + 1).toNat) ++ odR (upm m 170 (j + 1) (-1)) b c (j + 1) = _
  rw [lvl_cg FrE.up (fun i hi => upm_ne (by omega)), odR_cg FrE.up (j + 1) (fun i hi => upm_ne (by omega)), upm_eq]
  have z : ((-1 : Int) + 1).toNat = 0 := rfl
  rw [z, Nat.sub_zero, X]
section RRATE
variable {S : Nat × (Nat → Int32)} {n : Nat}
theorem cr_67e {m0 : MM} {x1 x2 x3 x4 c' : Int} (h1 : 0 < x1 ∧ x1 ≤ 100) (h2 : 0 < x2 ∧ x2 ≤ 100) {Kk : WK} (H : ∀ m' r, FrR m0 m' → RtOK m' → GcD r x1 x2 → m' 143 31 = x1.tdiv r → m' 143 32 = x2.tdiv r → m' 143 33 = c' → Kk none m') : ∀ (N : Nat) (x5 x6 : Int) (mem : MM), 0 < x5 → 0 ≤ x6 → x6.toNat < N → (∀ d : Int, (d ∣ x5 ∧ d ∣ x6) ↔ (d ∣ x1 ∧ d ∣ x2)) → FrR m0 mem → mem 143 33 = c' → Wx (Ex S n) S M_347 Kk 67 [some (.inr 143), some (.inl x1), some (.inl x2), some (.inl x3), some (.inl x4), some (.inl x5), some (.inl x6), none] [] mem := by
  intro N
  induction N with
  | zero => intros; omega
  | succ N ih =>
    intro x5 x6 mem h5 h6 hN hd hF hc
    refine w_347_67 (Ex.mono S n) ⟨fun q => ?_, fun q => ⟨by omega, ?_⟩⟩
    · subst q
      have g := GcD.fin h5 hd
      have gr := g.red (Int.le_of_lt h1.1) h2.1
      refine ⟨h5, h5, H _ x5 (fun A i e => ?_) ?_ g ?_ ?_ ?_⟩
      · rw [upm_ne (by omega), upm_ne (by omega)]; exact hF A i e
      · have r1 := tdiv_r (Int.le_of_lt h1.1) h5
        have r2 := tdiv_r (Int.le_of_lt h2.1) h5
        have r3 := gr.2.2.2.1
        unfold RtOK
        rw [upm_ne (by omega), upm_eq, upm_eq]
        omega
      · rw [upm_ne (by omega), upm_eq]
      · rw [upm_eq]
      · rw [upm_ne (by omega), upm_ne (by omega)]; exact hc
    · have r := tmod_r (Int.le_of_lt h5) (show 0 < x6 by omega)
      exact ih x6 _ mem (by omega) r.1 (by omega) (fun d => (eu_step d).trans (hd d)) hF hc
theorem f_347e {m0 : MM} {K : MM → Prop} {s : Int × Int × Int} {x1 x2 : Int} {M : Int32} (h1 : -100 ≤ x1 ∧ x1 ≤ 100) (h2 : 0 < x2 ∧ x2 ≤ 100) (hM : 1 ≤ M.toInt) (hR : RtOK m0) (hs : RtR s (m0 143 31) (m0 143 32) (m0 143 33)) (H : ∀ m', FrR m0 m' → RtOK m' → RtR (wRg s (x1, x2, M)) (m' 143 31) (m' 143 32) (m' 143 33) → K m') : CWV (Ex S (n + 2)) 347 [.inr 143, .inl x1, .inl x2, .inl M.toInt] m0 K := by
  have st := hs.step (D := x1) (W := x2) (M := M) (by omega) hM
  obtain ⟨r1, r2, r3, r4⟩ := hR
  have hR : RtOK m0 := ⟨r1, r2, r3, r4⟩
  refine CW.of (k := 4) mt_347 rfl rfl (w_347_0 (Ex.mono S (n + 1)) (fun v1 e1 _ => ?_))
  have p1 : -10000 ≤ x1 * v1 ∧ x1 * v1 ≤ 10000 := by
    have a1 : -100 * v1 ≤ x1 * v1 := Int.mul_le_mul_of_nonneg_right h1.1 (by omega)
    have a2 : x1 * v1 ≤ 100 * v1 := Int.mul_le_mul_of_nonneg_right h1.2 (by omega)
    omega
  refine ⟨by unfold InI; omega, fun v2 e2 _ => ?_⟩
  have p2 : 0 ≤ v2 * x2 ∧ v2 * x2 ≤ 10000 := by
    have a1 : 0 ≤ v2 * x2 := Int.mul_nonneg (by omega) (by omega)
    have a2 : v2 * x2 ≤ v2 * 100 := Int.mul_le_mul_of_nonneg_left h2.2 (by omega)
    omega
  rw [← e1, ← e2] at st
  have fin : ∀ z, 0 < x1 → 0 ≤ x1 * v1 - v2 * x2 → (0 < x1 * v1 - v2 * x2 → z = M.toInt) → (x1 * v1 - v2 * x2 = 0 → (m0 143 33 = 0 → z = M.toInt) ∧ (¬ m0 143 33 = 0 → z = min (m0 143 33) M.toInt)) → Wx (Ex S (n + 1)) S M_347 (fun r m => r = none ∧ K m) 67 [some (.inr 143), some (.inl x1), some (.inl x2), some (.inl M.toInt), some (.inl ((x1 * v1) - (v2 * x2))), some (.inl x1), some (.inl x2), none] [] (upm m0 143 33 z) := fun z q a k1 k2 =>
    cr_67e (m0 := m0) (c' := z) ⟨q, h1.2⟩ h2 (fun m' r f1 f2 g g1 g2 g3 => ⟨rfl, H m' f1 f2 (by rw [g1, g2, g3]; exact st.2 q a r g z k1 k2)⟩) _ _ _ _ q (by omega) (Nat.lt_succ_self _) (fun d => Iff.rfl) (fun A i e => upm_ne (by omega)) upm_eq
  refine ⟨by unfold InI; omega, by unfold InI; omega, fun q => ⟨rfl, H m0 FrR.rf hR (by rw [← e1, ← e2]; exact st.1 (Or.inl q))⟩, fun q => ⟨fun q2 => ⟨fun q3 v3 e3 _ => ⟨fun q4 v4 e4 _ => f_258 (fun _ _ => fin _ (by omega) q2 (fun w => by omega) (fun _ => ⟨fun w => by omega, fun _ => by rw [e4]⟩)), fun q4 => fin _ (by omega) q2 (fun w => by omega) (fun _ => ⟨fun _ => rfl, fun w => by omega⟩)⟩, fun q3 => fin _ (by omega) q2 (fun _ => rfl) (fun w => by omega)⟩, fun q2 => ⟨rfl, H m0 FrR.rf hR (by rw [← e1, ← e2]; exact st.1 (Or.inr (by omega)))⟩⟩⟩
theorem f_346e {m0 : MM} {K : MM → Prop} {s : Int × Int × Int} {k : Nat} {b : Int} (hk : k ≤ 7) (hN : NdsOK m0) (hc : ChOK m0 b (k + 1)) (hl : m0 155 (m0 170 k).toNat = b) (hR : RtOK m0) (hs : RtR s (m0 143 31) (m0 143 32) (m0 143 33)) (H : ∀ m', FrR m0 m' → RtOK m' → RtR (wRg s (chD m0 k + m0 157 (m0 170 k).toNat, chW m0 k + m0 156 (m0 170 k).toNat, X1 b ||| pmK (chV m0 k))) (m' 143 31) (m' 143 32) (m' 143 33) → K m') : CWV (Ex S (n + 3)) 346 [.inr 143, .inl (k : Int), .inl b] m0 K := by
  refine CW.of (k := 4) mt_346 rfl rfl (w_346_0 (Ex.mono S (n + 2)) ?_)
  have h48 := hN.2.1
  have em : pmK (chV m0 (k + 1)) = X1 b ||| pmK (chV m0 k) := by
    show pmK (chV m0 k) ||| X1 (m0 155 (m0 170 k).toNat) = _
    rw [hl, Int32.or_comm]
  have hM : 1 ≤ (pmK (chV m0 (k + 1))).toInt := by
    refine pmK_pos (p := b) (fun o ho => ?_) ((chV_mem (k + 1)).mpr ⟨k, by omega, hl.symm⟩)
    obtain ⟨i, hi, e⟩ := (chV_mem (k + 1)).mp ho
    obtain ⟨c1, c2, -⟩ := hc i hi
    obtain ⟨-, -, n3, n4, -⟩ := hN.2.2 (m0 170 i).toNat (by omega)
    have := hN.1
    omega
  have key : ∀ (N : Nat) (i : Nat), i ≤ k + 1 → k + 1 - i < N → -5 * (i : Int) ≤ chD m0 i → chD m0 i ≤ 6 * i → 0 ≤ chW m0 i → chW m0 i ≤ 7 * i → (1 ≤ chW m0 i ∨ b < chP m0 b i ∨ i = 0) → Wx (Ex S (n + 2)) S M_346 (fun r m => r = none ∧ K m) 11 [some (.inr 143), some (.inl (k : Int)), some (.inl b), some (.inl (chD m0 i)), some (.inl (chW m0 i)), some (.inl (pmK (chV m0 i)).toInt), some (.inl (i : Int))] [] m0 := by
    intro N
    induction N with
    | zero => intros; omega
    | succ N ih =>
      intro i hi hNN b1 b2 b3 b4 b5
      refine w_346_11 (Ex.mono S (n + 2)) ⟨fun q => ?_, fun q => ?_⟩
      · have e : i = k + 1 := by omega
        subst e
        have : chP m0 b (k + 1) = b := by unfold chP; rw [if_neg (by omega)]; exact hl
        refine f_347e ⟨by omega, by omega⟩ ⟨by omega, by omega⟩ hM hR hs (fun m' a c d => ⟨rfl, H m' a c ?_⟩)
        rw [em] at d
        exact d
      · obtain ⟨c1, c2, c3⟩ := hc i (by omega)
        have hi9 : 0 ≤ (i : Int) ∧ (i : Int) < 9 := by omega
        have pn := hN.2.2 (m0 170 i).toNat (by omega)
        obtain ⟨n1, n2, n3, n4, n5, n6, n7, n8, n9⟩ := pn
        simp only [Int.toNat_natCast]
        refine ⟨hi9, fun v2 e2 _ => ?_⟩
        subst e2
        have he : 0 ≤ m0 170 i ∧ m0 170 i < 48 := by omega
        refine ⟨he, fun v3 e3 _ => ⟨by unfold InI; omega, hi9, fun v4 e4 _ => ?_⟩⟩
        subst e4
        refine ⟨he, fun v5 e5 _ => ⟨by unfold InI; omega, hi9, fun v6 e6 _ => ?_⟩⟩
        subst e6
        refine ⟨he, fun v7 e7 _ b8 e8 _ b9 e9 _ => ⟨by unfold InI; omega, ?_⟩⟩
        have hp : chP m0 b (i + 1) = m0 155 (m0 170 i).toNat := by unfold chP; rw [if_neg (by omega)]; rfl
        have hp0 : i = 0 → chP m0 b i = b := fun z => by unfold chP; rw [if_pos z]
        have h9 : b9 = (pmK (chV m0 (i + 1))).toInt := by
          have e8 : b8 = (X1 v7).toInt := e8
          have e9 : b9 = (Int32.ofInt (pmK (chV m0 i)).toInt ||| Int32.ofInt b8).toInt := e9
          rw [e8, Int32.ofInt_toInt, Int32.ofInt_toInt, e7] at e9
          exact e9
        have hd : chD m0 (i + 1) = chD m0 i + v3 := by rw [e3]; rfl
        have hw : chW m0 (i + 1) = chW m0 i + v5 := by rw [e5]; rfl
        rw [← hd, ← hw, h9]
        refine ih (i + 1) (by omega) (by omega) (by omega) (by omega) (by omega) (by omega) ?_
        rw [hp, hw]
        by_cases z : i = 0
        · have := hp0 z; omega
        · omega
  exact key _ 0 (by omega) (Nat.lt_succ_self _) (by show -5 * ((0 : Nat) : Int) ≤ 0; omega) (by show (0 : Int) ≤ 6 * ((0 : Nat) : Int); omega) (by show (0 : Int) ≤ 0; omega) (by show (0 : Int) ≤ 7 * ((0 : Nat) : Int); omega) (by omega)
theorem rf_9e {m0 : MM} {b c : Int} {T : Int × Int × Int} (hb : 0 ≤ b) (hN : NdsOK m0) (hc : m0 143 12 = c) (hc1 : 0 < c ∧ c ≤ 48) {Kk : WK} (H : ∀ m', FrE m0 m' → RtOK m' → RtR T (m' 143 31) (m' 143 32) (m' 143 33) → Kk none m') : ∀ (N : Nat) (j : Nat) (mem : MM) (s : Int × Int × Int), odE mem c (j + 1) < N → FrE m0 mem → RtOK mem → RfI mem b j → -1 ≤ mem 170 j → mem 170 j < c → RtR s (mem 143 31) (mem 143 32) (mem 143 33) → (odR mem b c.toNat (j + 1)).foldl wRg s = T → Wx (Ex S (n + 3)) S M_345 Kk 9 [some (.inr 143), some (.inl b), some (.inl (j : Int)), none, none, none, none] [] mem := by
  intro N
  induction N with
  | zero => intros; omega
  | succ N ih =>
    intro j mem s hNN hF hR hI hs1 hs2 hS hT
    have hj7 := hI.le hb (hF.nds hN)
    have hj9 : 0 ≤ (j : Int) ∧ (j : Int) < 9 := by omega
    have pw : 1 ≤ 50 ^ (9 - j) := Nat.one_le_pow _ _ (by omega)
    have hod : odE mem c (j + 1) = odE mem c j + (c - mem 170 j).toNat * 50 ^ (9 - j) := rfl
    generalize hM1 : upm mem 170 j (mem 170 j + 1) = M1
    have hF1 : FrE m0 M1 := by rw [← hM1]; exact hF.tr FrE.up
    have hR1 : RtOK M1 := by
      rw [← hM1]; unfold RtOK
      rw [upm_ne (by omega), upm_ne (by omega)]; exact hR
    have q1 : ∀ i, M1 170 i = if i = j then mem 170 j + 1 else mem 170 i := fun i => by
      rw [← hM1]
      by_cases e : i = j
      · subst e; rw [upm_eq, if_pos rfl]
      · rw [upm_ne (fun z => e z.2), if_neg e]
    have hI1 : RfI M1 b j := hI.congr (by rw [← hM1]; exact FrE.up) (fun i hi => by rw [q1, if_neg (by omega)])
    have hN1 := hF1.nds hN
    have e12 : M1 143 12 = c := by rw [hF1 143 12 (by omega) (by omega)]; exact hc
    have hS1 : RtR s (M1 143 31) (M1 143 32) (M1 143 33) := by
      rw [← hM1, upm_ne (by omega), upm_ne (by omega), upm_ne (by omega)]; exact hS
    have nxt : mem 170 j + 1 < c → (odR M1 b c.toNat (j + 1)).foldl wRg ((lvl M1 b c.toNat j (M1 170 j).toNat).foldl wRg s) = T := fun w => by
      have e := odR_next (m := mem) (b := b) (c := c.toNat) (j := j) hs1 (by omega)
      rw [hM1] at e
      have l : lvl M1 b c.toNat j = lvl mem b c.toNat j := lvl_cg (by rw [← hM1]; exact FrE.up) (fun i hi => by rw [q1, if_neg (by omega)])
      rw [q1, if_pos rfl, l, ← List.foldl_append, ← e]
      exact hT
    have lv : ∀ i : Nat, lvl M1 b c.toNat j i = dfE b (chP M1 b j) (chV M1 j) (chD M1 j) (chW M1 j) (dfs (rq M1) c.toNat b (8 - j)) (M1 154 i, M1 155 i, M1 156 i, M1 157 i) := fun i => rfl
    -- again at the same place
    have stay : ∀ m s', FrE M1 m → RtOK m → (∀ i, m 170 i = M1 170 i) → mem 170 j + 1 < c → RtR s' (m 143 31) (m 143 32) (m 143 33) → (odR M1 b c.toNat (j + 1)).foldl wRg s' = T → Wx (Ex S (n + 3)) S M_345 Kk 9 [some (.inr 143), some (.inl b), some (.inl (j : Int)), none, none, none, none] [] m := by
      intro m s' k1 k2 k3 k4 k5 k6
      refine ih j m s' ?_ (hF1.tr k1) k2 (hI1.congr k1 (fun i _ => k3 i)) (by rw [k3, q1, if_pos rfl]; omega) (by rw [k3, q1, if_pos rfl]; omega) k5 (by rw [odR_cg k1 (j + 1) (fun i _ => k3 i)]; exact k6)
      have e5 : odE m c (j + 1) = odE m c j + (c - m 170 j).toNat * 50 ^ (9 - j) := rfl
      have e6 : odE m c j = odE mem c j := odE_eq (fun i hi => by rw [k3, q1, if_neg (by omega)])
      have e7 : (c - m 170 j).toNat + 1 = (c - mem 170 j).toNat := by rw [k3, q1, if_pos rfl]; omega
      rw [← e7, Nat.add_mul, Nat.one_mul] at hod
      omega
    have rest : ∀ v8 : Int, v8 = chP M1 b j → ((0 : Int) ≤ (j : Int) ∧ ((j : Int) : Int) < 9) ∧ ∀ v9 : Int, v9 = M1 170 (Int.toNat (j : Int)) → InI v9 → ∀ v10 : Int, v10 = M1 143 12 → InI v10 → ((v9 < v10 → ((0 : Int) ≤ (j : Int) ∧ ((j : Int) : Int) < 9) ∧ ∀ v11 : Int, v11 = M1 170 (Int.toNat (j : Int)) → InI v11 → ((0 : Int) ≤ v11 ∧ (v11 : Int) < 48) ∧ ∀ v12 : Int, v12 = M1 154 (Int.toNat v11) → InI v12 → ((¬ v12 = v8 → (Wx (Ex S (n + 3)) S M_345 Kk 9 [some (.inr 143), some (.inl b), some (.inl (j : Int)), none, none, none, none] [] M1)) ∧ (¬ (¬ v12 = v8) → ((0 : Int) ≤ v11 ∧ (v11 : Int) < 48) ∧ ∀ v13 : Int, v13 = M1 155 (Int.toNat v11) → InI v13 → ((b ≤ v13 → ((0 : Int) ≤ v11 ∧ (v11 : Int) < 48) ∧ ∀ v14 : Int, v14 = M1 155 (Int.toNat v11) → InI v14 → ((¬ v14 = b → (Wx (Ex S (n + 3)) S M_345 Kk 136 [some (.inr 143), some (.inl b), some (.inl (j : Int)), some (.inl v8), some (.inl v11), some (.inl 0), some (.inl 0)] [] M1)) ∧ (¬ (¬ v14 = b) → (CWV (Ex S (n + 3)) 346 [.inr 143, .inl (j : Int), .inl b] M1 fun m15 => (Wx (Ex S (n + 3)) S M_345 Kk 9 [some (.inr 143), some (.inl b), some (.inl (j : Int)), none, none, none, none] [] m15))))) ∧ (¬ (b ≤ v13) → (Wx (Ex S (n + 3)) S M_345 Kk 9 [some (.inr 143), some (.inl b), some (.inl (j : Int)), none, none, none, none] [] M1)))))) ∧ (¬ (v9 < v10) → (InI ((j : Int) + (-1))) ∧ (Wx (Ex S (n + 3)) S M_345 Kk 9 [some (.inr 143), some (.inl b), some (.inl ((j : Int) + (-1))), none, none, none, none] [] M1))) := by
      intro v8 e8
      simp only [Int.toNat_natCast]
      have q1j := q1 j
      rw [if_pos rfl] at q1j
      have no : mem 170 j + 1 < c → lvl M1 b c.toNat j (M1 170 j).toNat = [] → (odR M1 b c.toNat (j + 1)).foldl wRg s = T := fun w e => by
        have := nxt w
        rw [e] at this
        exact this
      refine ⟨hj9, fun v9 e9 _ v10 e10 _ => ⟨fun q => ⟨hj9, fun v11 e11 _ => ⟨by omega, fun v12 e12' _ => ⟨fun z => stay M1 s FrE.rf hR1 (fun _ => rfl) (by omega) hS1 (no (by omega) (by rw [lv]; exact if_pos (Or.inl (by show ¬ M1 154 (M1 170 j).toNat = chP M1 b j; rw [← e11, ← e12', ← e8]; exact z)))), fun z => ⟨by omega, fun v13 e13 _ => ⟨fun z2 => ⟨by omega, fun v14 e14 _ => ⟨fun z3 => ?_, fun z3 => ?_⟩⟩, fun z2 => stay M1 s FrE.rf hR1 (fun _ => rfl) (by omega) hS1 (no (by omega) (by rw [lv]; exact if_pos (Or.inr (by show M1 155 (M1 170 j).toNat < b; rw [← e11, ← e13]; omega))))⟩⟩⟩⟩⟩, fun q => ⟨by unfold InI; omega, ?_⟩⟩⟩
      · -- has it been seen
        have nf : ¬ (¬ M1 154 (M1 170 j).toNat = chP M1 b j ∨ M1 155 (M1 170 j).toNat < b) := by
          rw [← e11, ← e12', ← e13, ← e8]; omega
        have nb : ¬ M1 155 (M1 170 j).toNat = b := by
          rw [← e11, ← e14]; exact z3
        have psh : (∀ i, i < j → ¬ M1 155 (M1 170 i).toNat = M1 155 (M1 170 j).toNat) → (InI ((j : Int) + 1)) ∧ ((0 : Int) ≤ ((j : Int) + 1) ∧ (((j : Int) + 1) : Int) < 9) ∧ (Wx (Ex S (n + 3)) S M_345 Kk 9 [some (.inr 143), some (.inl b), some (.inl ((j : Int) + 1)), none, none, none, none] [] (upm M1 170 (Int.toNat ((j : Int) + 1)) (-1))) := by
          intro hd
          have hP : RfI M1 b (j + 1) := hI1.push (by omega) (by omega) (by rw [← e11]; omega) (by rw [← e11]; omega) hd
          have := hP.le hb hN1
          refine ⟨by unfold InI; omega, by omega, ?_⟩
          rw [show ((j : Int) + 1) = ((j + 1 : Nat) : Int) by omega, Int.toNat_natCast]
          have q2 : ∀ i, upm M1 170 (j + 1) (-1) 170 i = if i = j + 1 then -1 else M1 170 i := fun i => by
            by_cases e : i = j + 1
            · subst e; rw [upm_eq, if_pos rfl]
            · rw [upm_ne (fun z => e z.2), if_neg e]
          have nv : ¬ M1 155 (M1 170 j).toNat ∈ chV M1 j := fun w => by
            obtain ⟨i, hi, e⟩ := (chV_mem j).mp w
            exact hd i hi e.symm
          refine ih (j + 1) _ s ?_ (hF1.tr FrE.up) (by unfold RtOK; rw [upm_ne (by omega), upm_ne (by omega)]; exact hR1) (hP.congr FrE.up (fun i hi => by rw [q2, if_neg (by omega)])) (by rw [q2, if_pos rfl]; omega) (by rw [q2, if_pos rfl]; omega) (by rw [upm_ne (by omega), upm_ne (by omega), upm_ne (by omega)]; exact hS1) (by
            have w := nxt (by omega)
            have le : lvl M1 b c.toNat j (M1 170 j).toNat = dfs (rq M1) c.toNat b (8 - j) (M1 155 (M1 170 j).toNat) (M1 155 (M1 170 j).toNat :: chV M1 j) (chD M1 j + M1 157 (M1 170 j).toNat) (chW M1 j + M1 156 (M1 170 j).toNat) := by
              rw [lv]
              unfold dfE
              rw [if_neg nf, if_neg nb, if_neg nv]
            rw [odR_push (by omega), List.foldl_append, ← le]
            exact w)
          have e5 : odE (upm M1 170 (j + 1) (-1)) c (j + 1 + 1) = odE (upm M1 170 (j + 1) (-1)) c j + (c - upm M1 170 (j + 1) (-1) 170 j).toNat * 50 ^ (9 - j) + (c - upm M1 170 (j + 1) (-1) 170 (j + 1)).toNat * 50 ^ (9 - (j + 1)) := rfl
          have e6 : odE (upm M1 170 (j + 1) (-1)) c j = odE mem c j := odE_eq (fun i hi => by rw [q2, if_neg (by omega), q1, if_neg (by omega)])
          have e7 : (c - upm M1 170 (j + 1) (-1) 170 j).toNat + 1 = (c - mem 170 j).toNat := by rw [q2, if_neg (by omega), q1, if_pos rfl]; omega
          have e8 : (c - upm M1 170 (j + 1) (-1) 170 (j + 1)).toNat ≤ 49 := by rw [q2, if_pos rfl]; omega
          have e9 : 50 ^ (9 - j) = 50 ^ (9 - (j + 1)) * 50 := by rw [show 9 - j = (9 - (j + 1)) + 1 by omega, Nat.pow_succ]
          have e10 := Nat.mul_le_mul_right (50 ^ (9 - (j + 1))) e8
          have p2 : 1 ≤ 50 ^ (9 - (j + 1)) := Nat.one_le_pow _ _ (by omega)
          rw [← e7, Nat.add_mul, Nat.one_mul] at hod
          omega
        have loop : ∀ (N' i : Nat) (x5 : Int), i ≤ j → j - i < N' → (x5 = 0 → ∀ i', i' < i → ¬ M1 155 (M1 170 i').toNat = M1 155 (M1 170 j).toNat) → (¬ x5 = 0 → ∃ i', i' < j ∧ M1 155 (M1 170 j).toNat = M1 155 (M1 170 i').toNat) → Wx (Ex S (n + 3)) S M_345 Kk 136 [some (.inr 143), some (.inl b), some (.inl (j : Int)), some (.inl v8), some (.inl v11), some (.inl x5), some (.inl (i : Int))] [] M1 := by
          intro N'
          induction N' with
          | zero => intros; omega
          | succ N' ih2 =>
            intro i x5 hi hN' h5 h6
            refine w_345_136 (Ex.mono S (n + 3)) ⟨fun z4 => ⟨fun z5 => psh (fun i' hi' => h5 z5 i' (by omega)), fun z5 => stay M1 s FrE.rf hR1 (fun _ => rfl) (by omega) hS1 (no (by omega) (by
              rw [lv]
              unfold dfE
              rw [if_neg nf, if_neg nb, if_pos ((chV_mem j).mpr (h6 z5))]))⟩, fun z4 => ⟨fun z5 => ⟨by clear h5 h6; unfold InI; omega, ih2 (i + 1) 1 (by clear h5 h6; omega) (by clear h5 h6; omega) (fun z6 => absurd z6 (by decide)) (fun _ => h6 z5)⟩, fun z5 => ?_⟩⟩
            have hi9 : 0 ≤ (i : Int) ∧ (i : Int) < 9 := by omega
            obtain ⟨c1, c2, -⟩ := hI1.1 i (by omega)
            rw [Int.toNat_natCast]
            refine ⟨hi9, fun w1 f1 _ => ⟨by omega, fun w2 f2 _ => ⟨by omega, fun w3 f3 _ => ⟨fun z6 => ⟨by clear h5 h6; unfold InI; omega, ih2 (i + 1) 0 (by clear h5 h6; omega) (by clear h5 h6; omega) (fun _ i' hi' => ?_) (fun z7 => by clear h5 h6; omega)⟩, fun z6 => ⟨by clear h5 h6; unfold InI; omega, ih2 (i + 1) 1 (by clear h5 h6; omega) (by clear h5 h6; omega) (fun z7 => by clear h5 h6; omega) (fun _ => ⟨i, by omega, ?_⟩)⟩⟩⟩⟩⟩
            · by_cases e : i' = i
              · subst e
                rw [← f1, ← e11, ← f2, ← f3]; exact z6
              · exact h5 (by omega) i' (by omega)
            · rw [← f1, ← e11, ← f2, ← f3]; omega
        exact loop _ 0 0 (by omega) (Nat.lt_succ_self _) (fun _ i' hi' => by omega) (fun z7 => absurd rfl z7)
      · have lb : M1 155 (M1 170 j).toNat = b := by rw [← e11]; omega
        have le : lvl M1 b c.toNat j (M1 170 j).toNat = [(chD M1 j + M1 157 (M1 170 j).toNat, chW M1 j + M1 156 (M1 170 j).toNat, X1 b ||| pmK (chV M1 j))] := by
          rw [lv]
          unfold dfE
          rw [if_neg (by
            show ¬ (¬ M1 154 (M1 170 j).toNat = chP M1 b j ∨ M1 155 (M1 170 j).toNat < b)
            rw [← e11, ← e12', ← e13, ← e8]; omega), if_pos lb]
        have w := nxt (by omega)
        rw [le] at w
        refine f_346e (by omega) hN1 (fun i hi => ?_) lb hR1 hS1 (fun m15 k1 k2 k3 => stay m15 _ k1.e k2 (fun i => k1 170 i (by omega)) (by omega) k3 w)
        by_cases e : i = j
        · subst e
          exact ⟨by omega, by omega, by rw [← e11]; omega⟩
        · exact hI1.1 i (by omega)
      · have we : (odR M1 b c.toNat j).foldl wRg s = T := by
          rw [odR_cg (m := mem) (by rw [← hM1]; exact FrE.up) j (fun i hi => by rw [q1, if_neg (by omega)]), ← odR_end (by omega)]
          exact hT
        by_cases e : j = 0
        · refine w_345_9 (Ex.mono S (n + 3)) ⟨fun _ => H M1 hF1 hR1 ?_, fun z => ?_⟩
          · subst e
            have we : s = T := we
            rw [← we]; exact hS1
          · omega
        · rw [show (j : Int) + -1 = ((j - 1 : Nat) : Int) by omega]
          have hh := hI1.1 (j - 1) (by omega)
          refine ih (j - 1) M1 s ?_ hF1 hR1 (hI1.lower (by omega)) (by omega) (by omega) hS1 (by rw [show j - 1 + 1 = j by omega]; exact we)
          have e6 : odE M1 c j = odE mem c j := odE_eq (fun i hi => by rw [q1, if_neg (by omega)])
          rw [show j - 1 + 1 = j by omega, e6]
          have e7 : (c - mem 170 j).toNat = 1 := by omega
          rw [e7, Nat.one_mul] at hod
          omega
    refine w_345_9 (Ex.mono S (n + 3)) ⟨fun q => by omega, fun q => ⟨hj9, fun v1 e1 _ => ?_⟩⟩
    rw [Int.toNat_natCast] at e1
    subst e1
    refine ⟨by unfold InI; omega, hj9, fun q2 => ?_, fun q2 => ?_⟩
    · simp only [Int.toNat_natCast]
      rw [hM1]
      refine fun v2 e2 _ => ⟨by unfold InI; omega, by unfold InI; omega, by omega, fun v3 e3 _ => f_257 (fun _ _ => f_258 (fun _ _ => ?_))⟩
      obtain ⟨c1, c2, -⟩ := hI1.1 (j - 1) (by omega)
      rw [show ((j : Int) - 1).toNat = j - 1 by omega] at e3
      have e8 : min (v2 - 1) (max 0 v3) = M1 170 (j - 1) := by omega
      rw [e8]
      refine ⟨by omega, fun v8 e8 _ => ?_⟩
      have := rest v8 (by rw [e8]; unfold chP; rw [if_neg (by omega)])
      simp only [Int.toNat_natCast] at this
      exact this
    · have := rest b (by unfold chP; rw [if_pos (by omega)])
      simp only [Int.toNat_natCast] at this ⊢
      rw [hM1]
      exact this
theorem f_345e {m0 : MM} {K : MM → Prop} {s : Int × Int × Int} {b : Int} (hb : 0 ≤ b) (hN : NdsOK m0) (hc : 0 < m0 143 12) (hR : RtOK m0) (hS : RtR s (m0 143 31) (m0 143 32) (m0 143 33)) (H : ∀ m', FrE m0 m' → RtOK m' → RtR ((dfs (rq m0) (m0 143 12).toNat b 9 b [] 0 0).foldl wRg s) (m' 143 31) (m' 143 32) (m' 143 33) → K m') : CWV (Ex S (n + 4)) 345 [.inr 143, .inl b] m0 K := by
  refine CW.of (k := 5) mt_345 rfl rfl (w_345_0 (Ex.mono S (n + 3)) ⟨by omega, ?_⟩)
  rw [show (0 : Int).toNat = 0 from rfl]
  refine rf_9e hb hN rfl ⟨hc, hN.2.1.2⟩ (fun m' a c d => ⟨rfl, H m' a c d⟩) _ 0 _ s (Nat.lt_succ_self _) FrE.up (by unfold RtOK; rw [upm_ne (by omega), upm_ne (by omega)]; exact hR) ⟨fun i hi => by omega, fun i hi => by omega, fun p q h1 h2 => by omega⟩ (by rw [upm_eq]; omega) (by rw [upm_eq]; omega) (by rw [upm_ne (by omega), upm_ne (by omega), upm_ne (by omega)]; exact hS) ?_
  show (fmR (lvl (upm m0 170 0 (-1)) b (m0 143 12).toNat 0) (upm m0 170 0 (-1) 170 0 + 1).toNat ((m0 143 12).toNat - (upm m0 170 0 (-1) 170 0 + 1).toNat) ++ []).foldl wRg s = _
  rw [lvl_cg FrE.up (fun i hi => by omega), upm_eq, List.append_nil]
  have z : ((-1 : Int) + 1).toNat = 0 := rfl
  rw [z, Nat.sub_zero]
  have e := fmN_R (lvl m0 b (m0 143 12).toNat 0) (m0 143 12).toNat 0
  rw [Nat.zero_add] at e
  have e2 : fmN (lvl m0 b (m0 143 12).toNat 0) 0 ++ fmR (lvl m0 b (m0 143 12).toNat 0) 0 (m0 143 12).toNat = fmR (lvl m0 b (m0 143 12).toNat 0) 0 (m0 143 12).toNat := rfl
  rw [← e2, ← e]
  rfl
theorem ringsAll_0 {c : Nat → Q4} : ∀ o, ringsAll c 0 o = []
  | 0 => rfl
  | o + 1 => by
    show ringsAll c 0 o ++ dfs c 0 (o : Int) 9 (o : Int) [] 0 0 = []
    rw [ringsAll_0 o]
    rfl
theorem f_344e {m0 : MM} {K : MM → Prop} (hO : OpsOK m0) (hSd : SoundM m0) (H : ∀ m', FrL m0 m' → RN m0 m' → NdsOK m' → RtOK m' → Enum (rq m') (m' 143 12).toNat (NdF m0) → RtR ((ringsAll (rq m') (m' 143 12).toNat (m0 143 1).toNat).foldl wRg (0, 1, 0)) (m' 143 31) (m' 143 32) (m' 143 33) → K m') : CWV (Ex S (n + 5)) 344 [.inr 143] m0 K := by
  refine CW.of (k := 1) mt_344 rfl rfl (w_344_0 (Ex.mono S (n + 4)) (f_245e hO hSd (fun m1 g1 g5 g2 g3 g4 gE => ?_)))
  have hN1 := NdsOK.of hO g1 g2 g3 g4
  have eo : m1 143 1 = m0 143 1 := g1 143 1 (by omega) (by omega) (by omega) (by omega) (by omega)
  generalize hm2 : upm (upm (upm m1 143 31 0) 143 32 1) 143 33 0 = m2
  have hE : FrE m1 m2 := by
    rw [← hm2]
    intro A i e1 e2
    rw [upm_ne (by omega), upm_ne (by omega), upm_ne (by omega)]
  have r31 : m2 143 31 = 0 := by rw [← hm2, upm_ne (by omega), upm_ne (by omega), upm_eq]
  have r32 : m2 143 32 = 1 := by rw [← hm2, upm_ne (by omega), upm_eq]
  have r33 : m2 143 33 = 0 := by rw [← hm2, upm_eq]
  have hR2 : RtOK m2 := by
    unfold RtOK
    omega
  have key : ∀ (N : Nat) (o : Nat) (mem : MM), 8 - o < N → (o : Int) ≤ m0 143 1 → FrE m1 mem → RtOK mem → RtR ((ringsAll (rq m1) (m1 143 12).toNat o).foldl wRg (0, 1, 0)) (mem 143 31) (mem 143 32) (mem 143 33) → Wx (Ex S (n + 4)) S M_344 (fun r m => r = none ∧ K m) 21 [some (.inr 143), some (.inl (o : Int))] [] mem := by
    intro N
    induction N with
    | zero => intros; have := hO.1; omega
    | succ N ih =>
      intro o mem hNN ho hF hR hS
      have e12 : mem 143 12 = m1 143 12 := hF 143 12 (by omega) (by omega)
      have e1 : mem 143 1 = m0 143 1 := (hF 143 1 (by omega) (by omega)).trans eo
      have fin : RtR ((ringsAll (rq m1) (m1 143 12).toNat (m0 143 1).toNat).foldl wRg (0, 1, 0)) (mem 143 31) (mem 143 32) (mem 143 33) → K mem := fun h => H mem (g1.l.tr hF.l) ((show RN m0 m1 from ⟨g5, fun _ => ⟨g2, g3⟩⟩).tr hF.rn) (hF.nds hN1) hR (by rw [e12, rq_cg hF]; exact gE) (by rw [e12, rq_cg hF]; exact h)
      have h8 := (hF.nds hN1).1
      refine w_344_21 (Ex.mono S (n + 4)) (fun v1 e1' _ => ⟨fun q => ⟨rfl, fin (by rw [show (m0 143 1).toNat = o by omega]; exact hS)⟩, fun q v2 e2 _ => ⟨fun q2 => ⟨rfl, fin ?_⟩, fun q2 => ?_⟩⟩)
      · have z : (m1 143 12).toNat = 0 := by omega
        rw [z, ringsAll_0] at hS ⊢
        exact hS
      · refine f_345e (b := (o : Int)) (by omega) (hF.nds hN1) (by omega) hR hS (fun m3 k1 k2 k3 => ⟨by unfold InI; omega, ih (o + 1) m3 (by omega) (by omega) (hF.tr k1) k2 ?_⟩)
        rw [e12, rq_cg hF, ← List.foldl_append] at k3
        exact k3
  exact key 9 0 m2 (by omega) (by have := hO.1; omega) hE hR2 (by rw [r31, r32, r33]; exact RtR.ini)
end RRATE
end
section
/-! quotients, upwards -/
def upV (a b : Int) : Int := (a + b - 1) / b
theorem upV_rg {a b : Int} (hb : 0 < b) (ha : 0 ≤ a) : 0 ≤ upV a b ∧ upV a b ≤ a := by
  have d1 := Int.mul_ediv_add_emod (a + b - 1) b
  have d2 := Int.emod_nonneg (a + b - 1) (show b ≠ 0 by omega)
  have d3 := Int.emod_lt_of_pos (a + b - 1) hb
  have e : upV a b = (a + b - 1) / b := rfl
  rw [← e] at d1
  exact up_rng hb ha (by rw [Int.mul_sub, Int.mul_one]; omega) (by omega)
end
section
/-! rings that are gone round, edge by edge, are the closed walks: no ring is above d times its distances just if no closed walk is above 0 -/
def EdQ (c : Nat → Q4) (n : Nat) (d : Int) (a b : Nat) (x : Int) : Prop := ∃ j : Nat, j < n ∧ (c j).1 = a ∧ (c j).2.1 = b ∧ x = (c j).2.2.2 - d * (c j).2.2.1
def NoUp (E : Nat → Nat → Int → Prop) : Prop := ∀ a p v, p.Nodup → Wk E a p a v → v ≤ 0
end
section
/-! rounds of the reference, exactly: the least d by which no closed walk is above 0 -/
def RdsM (E : Int → Nat → Nat → Int → Prop) (r : Int) : Prop := NoUp (E r) ∧ ∀ d, 0 ≤ d → d < r → ¬ NoUp (E d)
theorem upV_le {U L d : Int} (hU : 0 ≤ U) (hL : 0 < L) (hd : 0 ≤ d) : upV U L ≤ d ↔ U ≤ d * L := by
  have d1 := Int.mul_ediv_add_emod (U + L - 1) L
  have d2 := Int.emod_nonneg (U + L - 1) (show L ≠ 0 by omega)
  have d3 := Int.emod_lt_of_pos (U + L - 1) hL
  have e : upV U L = (U + L - 1) / L := rfl
  rw [← e] at d1
  rw [Int.mul_comm] at d1
  constructor
  · intro h
    have := Int.mul_le_mul_of_nonneg_right h (Int.le_of_lt hL)
    omega
  · intro h
    have e2 : (d + 1) * L = d * L + L := by rw [Int.add_mul, Int.one_mul]
    have := Int.lt_of_mul_lt_mul_right (show upV U L * L < (d + 1) * L by omega) (Int.le_of_lt hL)
    omega
theorem RdsM.eq {E : Int → Nat → Nat → Int → Prop} {r U L : Int} (h : RdsM E r) (hr : 0 ≤ r) (hU : 0 ≤ U) (hL : 0 < L) (hE : ∀ d, 0 ≤ d → (NoUp (E d) ↔ U ≤ d * L)) : r = upV U L := by
  have g0 := (upV_rg hL hU).1
  have a1 := (upV_le hU hL hr).mpr ((hE r hr).mp h.1)
  by_cases q : upV U L < r
  · exact absurd ((hE _ g0).mpr ((upV_le hU hL g0).mp (Int.le_refl _))) (h.2 _ g0 q)
  · omega
theorem NdE.q {m : MM} (h18 : m 143 18 = -1) (h12 : 0 ≤ m 143 12) {d : Int} : NdE m d = EdQ (rq m) (m 143 12).toNat d := by
  funext a b x
  refine propext ⟨?_, ?_⟩
  · rintro ⟨j, h1, -, h2, h3, h4⟩
    exact ⟨j, by omega, h2, h3, h4⟩
  · rintro ⟨j, h1, h2, h3, h4⟩
    exact ⟨j, by omega, by omega, h2, h3, h4⟩
end
section
/-! the class between its calls: what holds, and what each part of it leaves -/
theorem ChtOK.fr3 {m m' : MM} {Q : Nat} (h : ChtOK m Q) (e : ∀ A i, (A = Q ∧ 0 < i ∧ i < 4) ∨ (Q < A ∧ A ≤ Q + 3) → m' A i = m A i) : ChtOK m' Q := by
  refine ⟨?_, fun o ho => ?_⟩
  · rw [e Q 1 (by omega), e Q 2 (by omega), e Q 3 (by omega)]; exact h.1
  · rw [e (Q + 1) o (by omega), e (Q + 2) o (by omega), e (Q + 3) o (by omega)]; exact h.2 o ho
theorem HsOK.fr {m m' : MM} (h : HsOK m) (e : ∀ A i, 129 ≤ A → A ≤ 133 → m' A i = m A i) : HsOK m' := by
  obtain ⟨h1, h2, h3, h4⟩ := h
  refine ⟨fun o ho => ?_, ?_, ?_, ?_⟩
  · rw [e 130 o (by omega) (by omega), e 131 o (by omega) (by omega)]; exact h1 o ho
  · rw [e 129 0 (by omega) (by omega)]; exact h2
  · rw [e 129 1 (by omega) (by omega)]; exact h3
  · rw [e 129 2 (by omega) (by omega)]; exact h4
theorem ChSh.ap {Q Q' : Nat} (h : ChSh Q) (h' : ChSh Q') : Q = Q' ∨ Q + 7 ≤ Q' ∨ Q' + 7 ≤ Q := by
  obtain ⟨⟨k, h1, h2⟩, -⟩ := h
  obtain ⟨⟨k', h1', h2'⟩, -⟩ := h'
  omega
def CJ (m : MM) : Prop := BodyOK m ∧ WbOK m 9 ∧ WbOK m 14 ∧ (0 ≤ m 19 0 ∧ m 19 0 ≤ 8) ∧ HsOK m ∧ (∀ o, o < 8 → (0 ≤ m 24 o ∧ m 24 o ≤ 2) ∧ 0 ≤ m 22 o ∧ m 22 o ≤ 11) ∧ (∀ Q, ChSh Q → ChtOK m Q) ∧ (0 ≤ m 0 10 ∧ m 0 10 ≤ 1) ∧ 0 ≤ m 0 11 ∧ m 0 11 ≤ 1
theorem CJ.b {m : MM} (h : CJ m) : BodyOK m := h.1
theorem CJ.w {m : MM} (h : CJ m) : WbOK m 9 := h.2.1
theorem CJ.w2 {m : MM} (h : CJ m) : WbOK m 14 := h.2.2.1
theorem CJ.r {m : MM} (h : CJ m) : 0 ≤ m 19 0 ∧ m 19 0 ≤ 8 := h.2.2.2.1
theorem CJ.hs {m : MM} (h : CJ m) : HsOK m := h.2.2.2.2.1
theorem CJ.us {m : MM} (h : CJ m) : ∀ o, o < 8 → (0 ≤ m 24 o ∧ m 24 o ≤ 2) ∧ 0 ≤ m 22 o ∧ m 22 o ≤ 11 := h.2.2.2.2.2.1
theorem CJ.ch {m : MM} (h : CJ m) : ∀ Q, ChSh Q → ChtOK m Q := h.2.2.2.2.2.2.1
theorem CJ.so {m : MM} (h : CJ m) : 0 ≤ m 0 10 ∧ m 0 10 ≤ 1 := h.2.2.2.2.2.2.2.1
theorem CJ.st {m : MM} (h : CJ m) : 0 ≤ m 0 11 ∧ m 0 11 ≤ 1 := h.2.2.2.2.2.2.2.2
def ClS (m : MM) : Prop := CJ m ∧ (m 0 11 = 0 → m 0 10 = 1 → WbX m) ∧ (m 0 11 = 0 → (m 0 10 = 1 ↔ SndX m))
def RfC (m : MM) : Prop := CJ m ∧ m 0 11 = 0 ∧ (m 0 10 = 1 → WbX m) ∧ (m 0 10 = 1 ↔ SndX m)
def Rdy (m : MM) : Prop := CJ m ∧ m 0 11 = 0 ∧ m 0 10 = 1 ∧ WbX m ∧ SndX m
theorem RfC.cs {m : MM} (h : RfC m) : ClS m := ⟨h.1, fun _ q => h.2.2.1 q, fun _ => h.2.2.2⟩
theorem RfC.rdy {m : MM} (h : RfC m) (q : m 0 10 = 1) : Rdy m := ⟨h.1, h.2.1, q, h.2.2.1 q, h.2.2.2.mp q⟩
theorem Rdy.cs {m : MM} (h : Rdy m) : ClS m := ⟨h.1, fun _ _ => h.2.2.2.1, fun _ => ⟨fun _ => h.2.2.2.2, fun _ => h.2.2.1⟩⟩
def pCl (A _i : Nat) : Prop := A < 143
def pNb (A _i : Nat) : Prop := A < 143 ∧ ¬ (0 < A ∧ A < 9)
def pHs (A _i : Nat) : Prop := 129 ≤ A ∧ A ≤ 133
def pW9c (A i : Nat) : Prop := A = 9 ∧ (i = 5 ∨ i = 6 ∨ i = 7)
def pW14c (A i : Nat) : Prop := A = 14 ∧ (i = 5 ∨ i = 6 ∨ i = 7)
def p11 (A i : Nat) : Prop := A = 0 ∧ i = 11
def p10 (A i : Nat) : Prop := A = 0 ∧ i = 10
def p191 (A i : Nat) : Prop := A = 19 ∧ i = 1
def p129 (A i : Nat) : Prop := A = 129 ∧ i = 0
def pQ0 (Q A i : Nat) : Prop := A = Q ∧ i = 0
def pQ1 (Q A i : Nat) : Prop := A = Q ∧ i = 1
def pBd (A i : Nat) : Prop := (0 < A ∧ A < 9) ∨ (A = 0 ∧ i = 11)
def p4f (A _i : Nat) : Prop := A = 4
theorem CJ.e_span {m m' : MM} (h : CJ m) (hF : Frm pRe m m') (hz : 0 ≤ m' 19 0 ∧ m' 19 0 ≤ 8) : CJ m' := by
  exact ⟨h.b.fr (fun A i a b => hF A i (by unfold pRe; omega)), h.w.fr (fun A i a b => hF A i (by unfold pRe; omega)), h.w2.fr (fun A i a b => hF A i (by unfold pRe; omega)), hz, h.hs.fr (fun A i a b => hF A i (by unfold pRe; omega)), fun o ho => by rw [hF 24 o (by unfold pRe; omega), hF 22 o (by unfold pRe; omega)]; exact h.us o ho, fun Q' hQ' => (h.ch Q' hQ').fr3 (fun A i q => hF A i (by have := hQ'.rg; unfold pRe; omega)), by rw [hF 0 10 (by unfold pRe; omega)]; exact h.so, by rw [hF 0 11 (by unfold pRe; omega)]; exact h.st⟩
theorem Rdy.e_span {m m' : MM} (h : Rdy m) (hF : Frm pRe m m') (hz : 0 ≤ m' 19 0 ∧ m' 19 0 ≤ 8) : Rdy m' := by
  exact ⟨CJ.e_span h.1 hF hz, by rw [hF 0 11 (by unfold pRe; omega)]; exact h.2.1, by rw [hF 0 10 (by unfold pRe; omega)]; exact h.2.2.1, h.2.2.2.1.fr (fun A i q => hF A i (by unfold pRe; omega)), h.2.2.2.2.fr (fun A i a b => hF A i (by unfold pRe; omega))⟩
theorem RfC.e_span {m m' : MM} (h : RfC m) (hF : Frm pRe m m') (hz : 0 ≤ m' 19 0 ∧ m' 19 0 ≤ 8) : RfC m' := by
  exact ⟨CJ.e_span h.1 hF hz, by rw [hF 0 11 (by unfold pRe; omega)]; exact h.2.1, fun z => by
    rw [hF 0 10 (by unfold pRe; omega)] at z
    exact (h.2.2.1 z).fr (fun A i q => hF A i (by unfold pRe; omega)), SX.fr h.2.2.2 (hF 0 10 (by unfold pRe; omega)) (fun A i a b => hF A i (by unfold pRe; omega))⟩
theorem CJ.e_seek {m m' : MM} (h : CJ m) (hF : Frm pHs m m') (hz : HsOK m') : CJ m' := by
  exact ⟨h.b.fr (fun A i a b => hF A i (by unfold pHs; omega)), h.w.fr (fun A i a b => hF A i (by unfold pHs; omega)), h.w2.fr (fun A i a b => hF A i (by unfold pHs; omega)), by rw [hF 19 0 (by unfold pHs; omega)]; exact h.r, hz, fun o ho => by rw [hF 24 o (by unfold pHs; omega), hF 22 o (by unfold pHs; omega)]; exact h.us o ho, fun Q' hQ' => (h.ch Q' hQ').fr3 (fun A i q => hF A i (by have := hQ'.rg; unfold pHs; omega)), by rw [hF 0 10 (by unfold pHs; omega)]; exact h.so, by rw [hF 0 11 (by unfold pHs; omega)]; exact h.st⟩
theorem Rdy.e_seek {m m' : MM} (h : Rdy m) (hF : Frm pHs m m') (hz : HsOK m') : Rdy m' := by
  exact ⟨CJ.e_seek h.1 hF hz, by rw [hF 0 11 (by unfold pHs; omega)]; exact h.2.1, by rw [hF 0 10 (by unfold pHs; omega)]; exact h.2.2.1, h.2.2.2.1.fr (fun A i q => hF A i (by unfold pHs; omega)), h.2.2.2.2.fr (fun A i a b => hF A i (by unfold pHs; omega))⟩
theorem RfC.e_seek {m m' : MM} (h : RfC m) (hF : Frm pHs m m') (hz : HsOK m') : RfC m' := by
  exact ⟨CJ.e_seek h.1 hF hz, by rw [hF 0 11 (by unfold pHs; omega)]; exact h.2.1, fun z => by
    rw [hF 0 10 (by unfold pHs; omega)] at z
    exact (h.2.2.1 z).fr (fun A i q => hF A i (by unfold pHs; omega)), SX.fr h.2.2.2 (hF 0 10 (by unfold pHs; omega)) (fun A i a b => hF A i (by unfold pHs; omega))⟩
theorem CJ.e_hold {m m' : MM} (h : CJ m) (hF : Frm pT6 m m') (hu : ∀ o, o < 8 → 0 ≤ m' 24 o ∧ m' 24 o ≤ 2) (hz : ∀ o, m' 22 o = m 22 o ∨ (0 ≤ m' 22 o ∧ m' 22 o ≤ 11)) : CJ m' := by
  exact ⟨h.b.fr (fun A i a b => hF A i (by unfold pT6; omega)), h.w.fr (fun A i a b => hF A i (by unfold pT6; omega)), h.w2.fr (fun A i a b => hF A i (by unfold pT6; omega)), by rw [hF 19 0 (by unfold pT6; omega)]; exact h.r, h.hs.fr (fun A i a b => hF A i (by unfold pT6; omega)), fun o ho => ⟨hu o ho, by have := hz o; have := (h.us o ho).2; omega⟩, fun Q' hQ' => (h.ch Q' hQ').fr3 (fun A i q => hF A i (by have := hQ'.rg; unfold pT6; omega)), by rw [hF 0 10 (by unfold pT6; omega)]; exact h.so, by rw [hF 0 11 (by unfold pT6; omega)]; exact h.st⟩
theorem Rdy.e_hold {m m' : MM} (h : Rdy m) (hF : Frm pT6 m m') (hu : ∀ o, o < 8 → 0 ≤ m' 24 o ∧ m' 24 o ≤ 2) (hz : ∀ o, m' 22 o = m 22 o ∨ (0 ≤ m' 22 o ∧ m' 22 o ≤ 11)) : Rdy m' := by
  exact ⟨CJ.e_hold h.1 hF hu hz, by rw [hF 0 11 (by unfold pT6; omega)]; exact h.2.1, by rw [hF 0 10 (by unfold pT6; omega)]; exact h.2.2.1, h.2.2.2.1.fr (fun A i q => hF A i (by unfold pT6; omega)), h.2.2.2.2.fr (fun A i a b => hF A i (by unfold pT6; omega))⟩
theorem RfC.e_hold {m m' : MM} (h : RfC m) (hF : Frm pT6 m m') (hu : ∀ o, o < 8 → 0 ≤ m' 24 o ∧ m' 24 o ≤ 2) (hz : ∀ o, m' 22 o = m 22 o ∨ (0 ≤ m' 22 o ∧ m' 22 o ≤ 11)) : RfC m' := by
  exact ⟨CJ.e_hold h.1 hF hu hz, by rw [hF 0 11 (by unfold pT6; omega)]; exact h.2.1, fun z => by
    rw [hF 0 10 (by unfold pT6; omega)] at z
    exact (h.2.2.1 z).fr (fun A i q => hF A i (by unfold pT6; omega)), SX.fr h.2.2.2 (hF 0 10 (by unfold pT6; omega)) (fun A i a b => hF A i (by unfold pT6; omega))⟩
theorem CJ.e_find {m m' : MM} (h : CJ m) (hF : Frm pSk m m') (hz : ∀ o, m' 22 o = m 22 o ∨ (0 ≤ m' 22 o ∧ m' 22 o ≤ 11)) : CJ m' := by
  exact ⟨h.b.fr (fun A i a b => hF A i (by unfold pSk; omega)), h.w.fr (fun A i a b => hF A i (by unfold pSk; omega)), h.w2.fr (fun A i a b => hF A i (by unfold pSk; omega)), by rw [hF 19 0 (by unfold pSk; omega)]; exact h.r, h.hs.fr (fun A i a b => hF A i (by unfold pSk; omega)), fun o ho => ⟨by rw [hF 24 o (by unfold pSk; omega)]; exact (h.us o ho).1, by have := hz o; have := (h.us o ho).2; omega⟩, fun Q' hQ' => (h.ch Q' hQ').fr3 (fun A i q => hF A i (by have := hQ'.rg; unfold pSk; omega)), by rw [hF 0 10 (by unfold pSk; omega)]; exact h.so, by rw [hF 0 11 (by unfold pSk; omega)]; exact h.st⟩
theorem Rdy.e_find {m m' : MM} (h : Rdy m) (hF : Frm pSk m m') (hz : ∀ o, m' 22 o = m 22 o ∨ (0 ≤ m' 22 o ∧ m' 22 o ≤ 11)) : Rdy m' := by
  exact ⟨CJ.e_find h.1 hF hz, by rw [hF 0 11 (by unfold pSk; omega)]; exact h.2.1, by rw [hF 0 10 (by unfold pSk; omega)]; exact h.2.2.1, h.2.2.2.1.fr (fun A i q => hF A i (by unfold pSk; omega)), h.2.2.2.2.fr (fun A i a b => hF A i (by unfold pSk; omega))⟩
theorem RfC.e_find {m m' : MM} (h : RfC m) (hF : Frm pSk m m') (hz : ∀ o, m' 22 o = m 22 o ∨ (0 ≤ m' 22 o ∧ m' 22 o ≤ 11)) : RfC m' := by
  exact ⟨CJ.e_find h.1 hF hz, by rw [hF 0 11 (by unfold pSk; omega)]; exact h.2.1, fun z => by
    rw [hF 0 10 (by unfold pSk; omega)] at z
    exact (h.2.2.1 z).fr (fun A i q => hF A i (by unfold pSk; omega)), SX.fr h.2.2.2 (hF 0 10 (by unfold pSk; omega)) (fun A i a b => hF A i (by unfold pSk; omega))⟩
theorem CJ.e_draw {Q : Nat} (hQ : ChSh Q) {m m' : MM} (h : CJ m) (hF : Frm (pCh Q) m m') (hz : ChtOK m' Q) : CJ m' := by
  have hq := hQ.rg
  exact ⟨h.b.fr (fun A i a b => hF A i (by unfold pCh; omega)), h.w.fr (fun A i a b => hF A i (by unfold pCh; omega)), h.w2.fr (fun A i a b => hF A i (by unfold pCh; omega)), by rw [hF 19 0 (by unfold pCh; omega)]; exact h.r, h.hs.fr (fun A i a b => hF A i (by unfold pCh; omega)), fun o ho => by rw [hF 24 o (by unfold pCh; omega), hF 22 o (by unfold pCh; omega)]; exact h.us o ho, fun Q' hQ' => by
    have := hQ'.rg
    rcases ChSh.ap hQ hQ' with e | e
    · subst e; exact hz
    · exact (h.ch Q' hQ').fr3 (fun A i q => hF A i (by unfold pCh; omega)), by rw [hF 0 10 (by unfold pCh; omega)]; exact h.so, by rw [hF 0 11 (by unfold pCh; omega)]; exact h.st⟩
theorem Rdy.e_draw {Q : Nat} (hQ : ChSh Q) {m m' : MM} (h : Rdy m) (hF : Frm (pCh Q) m m') (hz : ChtOK m' Q) : Rdy m' := by
  have hq := hQ.rg
  exact ⟨CJ.e_draw hQ h.1 hF hz, by rw [hF 0 11 (by unfold pCh; omega)]; exact h.2.1, by rw [hF 0 10 (by unfold pCh; omega)]; exact h.2.2.1, h.2.2.2.1.fr (fun A i q => hF A i (by unfold pCh; omega)), h.2.2.2.2.fr (fun A i a b => hF A i (by unfold pCh; omega))⟩
theorem RfC.e_draw {Q : Nat} (hQ : ChSh Q) {m m' : MM} (h : RfC m) (hF : Frm (pCh Q) m m') (hz : ChtOK m' Q) : RfC m' := by
  have hq := hQ.rg
  exact ⟨CJ.e_draw hQ h.1 hF hz, by rw [hF 0 11 (by unfold pCh; omega)]; exact h.2.1, fun z => by
    rw [hF 0 10 (by unfold pCh; omega)] at z
    exact (h.2.2.1 z).fr (fun A i q => hF A i (by unfold pCh; omega)), SX.fr h.2.2.2 (hF 0 10 (by unfold pCh; omega)) (fun A i a b => hF A i (by unfold pCh; omega))⟩
theorem CJ.e_fit {Q : Nat} (hQ : ChSh Q) {m m' : MM} (h : CJ m) (hF : Frm (pQ1 Q) m m') (hz : ChtOK m' Q) : CJ m' := by
  have hq := hQ.rg
  exact ⟨h.b.fr (fun A i a b => hF A i (by unfold pQ1; omega)), h.w.fr (fun A i a b => hF A i (by unfold pQ1; omega)), h.w2.fr (fun A i a b => hF A i (by unfold pQ1; omega)), by rw [hF 19 0 (by unfold pQ1; omega)]; exact h.r, h.hs.fr (fun A i a b => hF A i (by unfold pQ1; omega)), fun o ho => by rw [hF 24 o (by unfold pQ1; omega), hF 22 o (by unfold pQ1; omega)]; exact h.us o ho, fun Q' hQ' => by
    have := hQ'.rg
    rcases ChSh.ap hQ hQ' with e | e
    · subst e; exact hz
    · exact (h.ch Q' hQ').fr3 (fun A i q => hF A i (by unfold pQ1; omega)), by rw [hF 0 10 (by unfold pQ1; omega)]; exact h.so, by rw [hF 0 11 (by unfold pQ1; omega)]; exact h.st⟩
theorem Rdy.e_fit {Q : Nat} (hQ : ChSh Q) {m m' : MM} (h : Rdy m) (hF : Frm (pQ1 Q) m m') (hz : ChtOK m' Q) : Rdy m' := by
  have hq := hQ.rg
  exact ⟨CJ.e_fit hQ h.1 hF hz, by rw [hF 0 11 (by unfold pQ1; omega)]; exact h.2.1, by rw [hF 0 10 (by unfold pQ1; omega)]; exact h.2.2.1, h.2.2.2.1.fr (fun A i q => hF A i (by unfold pQ1; omega)), h.2.2.2.2.fr (fun A i a b => hF A i (by unfold pQ1; omega))⟩
theorem RfC.e_fit {Q : Nat} (hQ : ChSh Q) {m m' : MM} (h : RfC m) (hF : Frm (pQ1 Q) m m') (hz : ChtOK m' Q) : RfC m' := by
  have hq := hQ.rg
  exact ⟨CJ.e_fit hQ h.1 hF hz, by rw [hF 0 11 (by unfold pQ1; omega)]; exact h.2.1, fun z => by
    rw [hF 0 10 (by unfold pQ1; omega)] at z
    exact (h.2.2.1 z).fr (fun A i q => hF A i (by unfold pQ1; omega)), SX.fr h.2.2.2 (hF 0 10 (by unfold pQ1; omega)) (fun A i a b => hF A i (by unfold pQ1; omega))⟩
theorem CJ.e_try {Q : Nat} (hQ : ChSh Q) {m m' : MM} (h : CJ m) (hF : Frm (pQ0 Q) m m') : CJ m' := by
  have hq := hQ.rg
  exact ⟨h.b.fr (fun A i a b => hF A i (by unfold pQ0; omega)), h.w.fr (fun A i a b => hF A i (by unfold pQ0; omega)), h.w2.fr (fun A i a b => hF A i (by unfold pQ0; omega)), by rw [hF 19 0 (by unfold pQ0; omega)]; exact h.r, h.hs.fr (fun A i a b => hF A i (by unfold pQ0; omega)), fun o ho => by rw [hF 24 o (by unfold pQ0; omega), hF 22 o (by unfold pQ0; omega)]; exact h.us o ho, fun Q' hQ' => by
    have := hQ'.rg
    rcases ChSh.ap hQ hQ' with e | e
    · subst e; exact (h.ch Q hQ).fr3 (fun A i q => hF A i (by unfold pQ0; omega))
    · exact (h.ch Q' hQ').fr3 (fun A i q => hF A i (by unfold pQ0; omega)), by rw [hF 0 10 (by unfold pQ0; omega)]; exact h.so, by rw [hF 0 11 (by unfold pQ0; omega)]; exact h.st⟩
theorem Rdy.e_try {Q : Nat} (hQ : ChSh Q) {m m' : MM} (h : Rdy m) (hF : Frm (pQ0 Q) m m') : Rdy m' := by
  have hq := hQ.rg
  exact ⟨CJ.e_try hQ h.1 hF , by rw [hF 0 11 (by unfold pQ0; omega)]; exact h.2.1, by rw [hF 0 10 (by unfold pQ0; omega)]; exact h.2.2.1, h.2.2.2.1.fr (fun A i q => hF A i (by unfold pQ0; omega)), h.2.2.2.2.fr (fun A i a b => hF A i (by unfold pQ0; omega))⟩
theorem RfC.e_try {Q : Nat} (hQ : ChSh Q) {m m' : MM} (h : RfC m) (hF : Frm (pQ0 Q) m m') : RfC m' := by
  have hq := hQ.rg
  exact ⟨CJ.e_try hQ h.1 hF , by rw [hF 0 11 (by unfold pQ0; omega)]; exact h.2.1, fun z => by
    rw [hF 0 10 (by unfold pQ0; omega)] at z
    exact (h.2.2.1 z).fr (fun A i q => hF A i (by unfold pQ0; omega)), SX.fr h.2.2.2 (hF 0 10 (by unfold pQ0; omega)) (fun A i a b => hF A i (by unfold pQ0; omega))⟩
theorem CJ.e_play {m m' : MM} (h : CJ m) (hF : Frm pPl m m') : CJ m' := by
  exact ⟨h.b.fr (fun A i a b => hF A i (by unfold pPl; omega)), h.w.fr (fun A i a b => hF A i (by unfold pPl; omega)), h.w2.fr (fun A i a b => hF A i (by unfold pPl; omega)), by rw [hF 19 0 (by unfold pPl; omega)]; exact h.r, h.hs.fr (fun A i a b => hF A i (by unfold pPl; omega)), fun o ho => by rw [hF 24 o (by unfold pPl; omega), hF 22 o (by unfold pPl; omega)]; exact h.us o ho, fun Q' hQ' => (h.ch Q' hQ').fr3 (fun A i q => hF A i (by have := hQ'.rg; unfold pPl; omega)), by rw [hF 0 10 (by unfold pPl; omega)]; exact h.so, by rw [hF 0 11 (by unfold pPl; omega)]; exact h.st⟩
theorem Rdy.e_play {m m' : MM} (h : Rdy m) (hF : Frm pPl m m') : Rdy m' := by
  exact ⟨CJ.e_play h.1 hF , by rw [hF 0 11 (by unfold pPl; omega)]; exact h.2.1, by rw [hF 0 10 (by unfold pPl; omega)]; exact h.2.2.1, h.2.2.2.1.fr (fun A i q => hF A i (by unfold pPl; omega)), h.2.2.2.2.fr (fun A i a b => hF A i (by unfold pPl; omega))⟩
theorem RfC.e_play {m m' : MM} (h : RfC m) (hF : Frm pPl m m') : RfC m' := by
  exact ⟨CJ.e_play h.1 hF , by rw [hF 0 11 (by unfold pPl; omega)]; exact h.2.1, fun z => by
    rw [hF 0 10 (by unfold pPl; omega)] at z
    exact (h.2.2.1 z).fr (fun A i q => hF A i (by unfold pPl; omega)), SX.fr h.2.2.2 (hF 0 10 (by unfold pPl; omega)) (fun A i a b => hF A i (by unfold pPl; omega))⟩
theorem CJ.e_whl {m m' : MM} (h : CJ m) (hF : Frm p140 m m') : CJ m' := by
  exact ⟨h.b.fr (fun A i a b => hF A i (by unfold p140; omega)), h.w.fr (fun A i a b => hF A i (by unfold p140; omega)), h.w2.fr (fun A i a b => hF A i (by unfold p140; omega)), by rw [hF 19 0 (by unfold p140; omega)]; exact h.r, h.hs.fr (fun A i a b => hF A i (by unfold p140; omega)), fun o ho => by rw [hF 24 o (by unfold p140; omega), hF 22 o (by unfold p140; omega)]; exact h.us o ho, fun Q' hQ' => (h.ch Q' hQ').fr3 (fun A i q => hF A i (by have := hQ'.rg; unfold p140; omega)), by rw [hF 0 10 (by unfold p140; omega)]; exact h.so, by rw [hF 0 11 (by unfold p140; omega)]; exact h.st⟩
theorem Rdy.e_whl {m m' : MM} (h : Rdy m) (hF : Frm p140 m m') : Rdy m' := by
  exact ⟨CJ.e_whl h.1 hF , by rw [hF 0 11 (by unfold p140; omega)]; exact h.2.1, by rw [hF 0 10 (by unfold p140; omega)]; exact h.2.2.1, h.2.2.2.1.fr (fun A i q => hF A i (by unfold p140; omega)), h.2.2.2.2.fr (fun A i a b => hF A i (by unfold p140; omega))⟩
theorem RfC.e_whl {m m' : MM} (h : RfC m) (hF : Frm p140 m m') : RfC m' := by
  exact ⟨CJ.e_whl h.1 hF , by rw [hF 0 11 (by unfold p140; omega)]; exact h.2.1, fun z => by
    rw [hF 0 10 (by unfold p140; omega)] at z
    exact (h.2.2.1 z).fr (fun A i q => hF A i (by unfold p140; omega)), SX.fr h.2.2.2 (hF 0 10 (by unfold p140; omega)) (fun A i a b => hF A i (by unfold p140; omega))⟩
theorem CJ.e_pat {m m' : MM} (h : CJ m) (hF : Frm pPa m m') : CJ m' := by
  exact ⟨h.b.fr (fun A i a b => hF A i (by unfold pPa; omega)), h.w.fr (fun A i a b => hF A i (by unfold pPa; omega)), h.w2.fr (fun A i a b => hF A i (by unfold pPa; omega)), by rw [hF 19 0 (by unfold pPa; omega)]; exact h.r, h.hs.fr (fun A i a b => hF A i (by unfold pPa; omega)), fun o ho => by rw [hF 24 o (by unfold pPa; omega), hF 22 o (by unfold pPa; omega)]; exact h.us o ho, fun Q' hQ' => (h.ch Q' hQ').fr3 (fun A i q => hF A i (by have := hQ'.rg; unfold pPa; omega)), by rw [hF 0 10 (by unfold pPa; omega)]; exact h.so, by rw [hF 0 11 (by unfold pPa; omega)]; exact h.st⟩
theorem Rdy.e_pat {m m' : MM} (h : Rdy m) (hF : Frm pPa m m') : Rdy m' := by
  exact ⟨CJ.e_pat h.1 hF , by rw [hF 0 11 (by unfold pPa; omega)]; exact h.2.1, by rw [hF 0 10 (by unfold pPa; omega)]; exact h.2.2.1, h.2.2.2.1.fr (fun A i q => hF A i (by unfold pPa; omega)), h.2.2.2.2.fr (fun A i a b => hF A i (by unfold pPa; omega))⟩
theorem RfC.e_pat {m m' : MM} (h : RfC m) (hF : Frm pPa m m') : RfC m' := by
  exact ⟨CJ.e_pat h.1 hF , by rw [hF 0 11 (by unfold pPa; omega)]; exact h.2.1, fun z => by
    rw [hF 0 10 (by unfold pPa; omega)] at z
    exact (h.2.2.1 z).fr (fun A i q => hF A i (by unfold pPa; omega)), SX.fr h.2.2.2 (hF 0 10 (by unfold pPa; omega)) (fun A i a b => hF A i (by unfold pPa; omega))⟩
theorem CJ.e_sp1 {m m' : MM} (h : CJ m) (hF : Frm p14 m m') (hz : WbOK m' 14) : CJ m' := by
  exact ⟨h.b.fr (fun A i a b => hF A i (by unfold p14; omega)), h.w.fr (fun A i a b => hF A i (by unfold p14; omega)), hz, by rw [hF 19 0 (by unfold p14; omega)]; exact h.r, h.hs.fr (fun A i a b => hF A i (by unfold p14; omega)), fun o ho => by rw [hF 24 o (by unfold p14; omega), hF 22 o (by unfold p14; omega)]; exact h.us o ho, fun Q' hQ' => (h.ch Q' hQ').fr3 (fun A i q => hF A i (by have := hQ'.rg; unfold p14; omega)), by rw [hF 0 10 (by unfold p14; omega)]; exact h.so, by rw [hF 0 11 (by unfold p14; omega)]; exact h.st⟩
theorem Rdy.e_sp1 {m m' : MM} (h : Rdy m) (hF : Frm p14 m m') (hz : WbOK m' 14) : Rdy m' := by
  exact ⟨CJ.e_sp1 h.1 hF hz, by rw [hF 0 11 (by unfold p14; omega)]; exact h.2.1, by rw [hF 0 10 (by unfold p14; omega)]; exact h.2.2.1, h.2.2.2.1.fr (fun A i q => hF A i (by unfold p14; omega)), h.2.2.2.2.fr (fun A i a b => hF A i (by unfold p14; omega))⟩
theorem RfC.e_sp1 {m m' : MM} (h : RfC m) (hF : Frm p14 m m') (hz : WbOK m' 14) : RfC m' := by
  exact ⟨CJ.e_sp1 h.1 hF hz, by rw [hF 0 11 (by unfold p14; omega)]; exact h.2.1, fun z => by
    rw [hF 0 10 (by unfold p14; omega)] at z
    exact (h.2.2.1 z).fr (fun A i q => hF A i (by unfold p14; omega)), SX.fr h.2.2.2 (hF 0 10 (by unfold p14; omega)) (fun A i a b => hF A i (by unfold p14; omega))⟩
theorem CJ.e_sp2 {m m' : MM} (h : CJ m) (hF : Frm pW14c m m') : CJ m' := by
  exact ⟨h.b.fr (fun A i a b => hF A i (by unfold pW14c; omega)), h.w.fr (fun A i a b => hF A i (by unfold pW14c; omega)), ⟨fun j hj => by
    rw [hF _ _ (by unfold pW14c; omega), hF _ _ (by unfold pW14c; omega), hF _ _ (by unfold pW14c; omega), hF _ _ (by unfold pW14c; omega)]; exact h.w2.1 j hj, by rw [hF 14 0 (by unfold pW14c; omega)]; exact h.w2.2⟩, by rw [hF 19 0 (by unfold pW14c; omega)]; exact h.r, h.hs.fr (fun A i a b => hF A i (by unfold pW14c; omega)), fun o ho => by rw [hF 24 o (by unfold pW14c; omega), hF 22 o (by unfold pW14c; omega)]; exact h.us o ho, fun Q' hQ' => (h.ch Q' hQ').fr3 (fun A i q => hF A i (by have := hQ'.rg; unfold pW14c; omega)), by rw [hF 0 10 (by unfold pW14c; omega)]; exact h.so, by rw [hF 0 11 (by unfold pW14c; omega)]; exact h.st⟩
theorem Rdy.e_sp2 {m m' : MM} (h : Rdy m) (hF : Frm pW14c m m') : Rdy m' := by
  exact ⟨CJ.e_sp2 h.1 hF , by rw [hF 0 11 (by unfold pW14c; omega)]; exact h.2.1, by rw [hF 0 10 (by unfold pW14c; omega)]; exact h.2.2.1, h.2.2.2.1.fr (fun A i q => hF A i (by unfold pW14c; omega)), h.2.2.2.2.fr (fun A i a b => hF A i (by unfold pW14c; omega))⟩
theorem RfC.e_sp2 {m m' : MM} (h : RfC m) (hF : Frm pW14c m m') : RfC m' := by
  exact ⟨CJ.e_sp2 h.1 hF , by rw [hF 0 11 (by unfold pW14c; omega)]; exact h.2.1, fun z => by
    rw [hF 0 10 (by unfold pW14c; omega)] at z
    exact (h.2.2.1 z).fr (fun A i q => hF A i (by unfold pW14c; omega)), SX.fr h.2.2.2 (hF 0 10 (by unfold pW14c; omega)) (fun A i a b => hF A i (by unfold pW14c; omega))⟩
theorem CJ.e_wv {m m' : MM} (h : CJ m) (hF : Frm p9w m m') (hz : WbOK m' 9) : CJ m' := by
  exact ⟨h.b.fr (fun A i a b => hF A i (by unfold p9w; omega)), hz, h.w2.fr (fun A i a b => hF A i (by unfold p9w; omega)), by rw [hF 19 0 (by unfold p9w; omega)]; exact h.r, h.hs.fr (fun A i a b => hF A i (by unfold p9w; omega)), fun o ho => by rw [hF 24 o (by unfold p9w; omega), hF 22 o (by unfold p9w; omega)]; exact h.us o ho, fun Q' hQ' => (h.ch Q' hQ').fr3 (fun A i q => hF A i (by have := hQ'.rg; unfold p9w; omega)), by rw [hF 0 10 (by unfold p9w; omega)]; exact h.so, by rw [hF 0 11 (by unfold p9w; omega)]; exact h.st⟩
theorem CJ.e_wg {m m' : MM} (h : CJ m) (hF : Frm pW9c m m') : CJ m' := by
  exact ⟨h.b.fr (fun A i a b => hF A i (by unfold pW9c; omega)), ⟨fun j hj => by
    rw [hF _ _ (by unfold pW9c; omega), hF _ _ (by unfold pW9c; omega), hF _ _ (by unfold pW9c; omega), hF _ _ (by unfold pW9c; omega)]; exact h.w.1 j hj, by rw [hF 9 0 (by unfold pW9c; omega)]; exact h.w.2⟩, h.w2.fr (fun A i a b => hF A i (by unfold pW9c; omega)), by rw [hF 19 0 (by unfold pW9c; omega)]; exact h.r, h.hs.fr (fun A i a b => hF A i (by unfold pW9c; omega)), fun o ho => by rw [hF 24 o (by unfold pW9c; omega), hF 22 o (by unfold pW9c; omega)]; exact h.us o ho, fun Q' hQ' => (h.ch Q' hQ').fr3 (fun A i q => hF A i (by have := hQ'.rg; unfold pW9c; omega)), by rw [hF 0 10 (by unfold pW9c; omega)]; exact h.so, by rw [hF 0 11 (by unfold pW9c; omega)]; exact h.st⟩
theorem CJ.e_st {m m' : MM} (h : CJ m) (hF : Frm p11 m m') (hz : 0 ≤ m' 0 11 ∧ m' 0 11 ≤ 1) : CJ m' := by
  exact ⟨h.b.fr (fun A i a b => hF A i (by unfold p11; omega)), h.w.fr (fun A i a b => hF A i (by unfold p11; omega)), h.w2.fr (fun A i a b => hF A i (by unfold p11; omega)), by rw [hF 19 0 (by unfold p11; omega)]; exact h.r, h.hs.fr (fun A i a b => hF A i (by unfold p11; omega)), fun o ho => by rw [hF 24 o (by unfold p11; omega), hF 22 o (by unfold p11; omega)]; exact h.us o ho, fun Q' hQ' => (h.ch Q' hQ').fr3 (fun A i q => hF A i (by have := hQ'.rg; unfold p11; omega)), by rw [hF 0 10 (by unfold p11; omega)]; exact h.so, hz⟩
theorem CJ.e_so {m m' : MM} (h : CJ m) (hF : Frm p10 m m') (hz : 0 ≤ m' 0 10 ∧ m' 0 10 ≤ 1) : CJ m' := by
  exact ⟨h.b.fr (fun A i a b => hF A i (by unfold p10; omega)), h.w.fr (fun A i a b => hF A i (by unfold p10; omega)), h.w2.fr (fun A i a b => hF A i (by unfold p10; omega)), by rw [hF 19 0 (by unfold p10; omega)]; exact h.r, h.hs.fr (fun A i a b => hF A i (by unfold p10; omega)), fun o ho => by rw [hF 24 o (by unfold p10; omega), hF 22 o (by unfold p10; omega)]; exact h.us o ho, fun Q' hQ' => (h.ch Q' hQ').fr3 (fun A i q => hF A i (by have := hQ'.rg; unfold p10; omega)), hz, by rw [hF 0 11 (by unfold p10; omega)]; exact h.st⟩
theorem CJ.e_rs {m m' : MM} (h : CJ m) (hF : Frm p191 m m') : CJ m' := by
  exact ⟨h.b.fr (fun A i a b => hF A i (by unfold p191; omega)), h.w.fr (fun A i a b => hF A i (by unfold p191; omega)), h.w2.fr (fun A i a b => hF A i (by unfold p191; omega)), by rw [hF 19 0 (by unfold p191; omega)]; exact h.r, h.hs.fr (fun A i a b => hF A i (by unfold p191; omega)), fun o ho => by rw [hF 24 o (by unfold p191; omega), hF 22 o (by unfold p191; omega)]; exact h.us o ho, fun Q' hQ' => (h.ch Q' hQ').fr3 (fun A i q => hF A i (by have := hQ'.rg; unfold p191; omega)), by rw [hF 0 10 (by unfold p191; omega)]; exact h.so, by rw [hF 0 11 (by unfold p191; omega)]; exact h.st⟩
theorem Rdy.e_rs {m m' : MM} (h : Rdy m) (hF : Frm p191 m m') : Rdy m' := by
  exact ⟨CJ.e_rs h.1 hF , by rw [hF 0 11 (by unfold p191; omega)]; exact h.2.1, by rw [hF 0 10 (by unfold p191; omega)]; exact h.2.2.1, h.2.2.2.1.fr (fun A i q => hF A i (by unfold p191; omega)), h.2.2.2.2.fr (fun A i a b => hF A i (by unfold p191; omega))⟩
theorem RfC.e_rs {m m' : MM} (h : RfC m) (hF : Frm p191 m m') : RfC m' := by
  exact ⟨CJ.e_rs h.1 hF , by rw [hF 0 11 (by unfold p191; omega)]; exact h.2.1, fun z => by
    rw [hF 0 10 (by unfold p191; omega)] at z
    exact (h.2.2.1 z).fr (fun A i q => hF A i (by unfold p191; omega)), SX.fr h.2.2.2 (hF 0 10 (by unfold p191; omega)) (fun A i a b => hF A i (by unfold p191; omega))⟩
theorem CJ.e_h0 {m m' : MM} (h : CJ m) (hF : Frm p129 m m') (hz : 0 ≤ m' 129 0 ∧ m' 129 0 ≤ 12) : CJ m' := by
  exact ⟨h.b.fr (fun A i a b => hF A i (by unfold p129; omega)), h.w.fr (fun A i a b => hF A i (by unfold p129; omega)), h.w2.fr (fun A i a b => hF A i (by unfold p129; omega)), by rw [hF 19 0 (by unfold p129; omega)]; exact h.r, ⟨fun o ho => by rw [hF 130 o (by unfold p129; omega), hF 131 o (by unfold p129; omega)]; exact h.hs.1 o ho, hz, by rw [hF 129 1 (by unfold p129; omega)]; exact h.hs.2.2.1, by rw [hF 129 2 (by unfold p129; omega)]; exact h.hs.2.2.2⟩, fun o ho => by rw [hF 24 o (by unfold p129; omega), hF 22 o (by unfold p129; omega)]; exact h.us o ho, fun Q' hQ' => (h.ch Q' hQ').fr3 (fun A i q => hF A i (by have := hQ'.rg; unfold p129; omega)), by rw [hF 0 10 (by unfold p129; omega)]; exact h.so, by rw [hF 0 11 (by unfold p129; omega)]; exact h.st⟩
theorem Rdy.e_h0 {m m' : MM} (h : Rdy m) (hF : Frm p129 m m') (hz : 0 ≤ m' 129 0 ∧ m' 129 0 ≤ 12) : Rdy m' := by
  exact ⟨CJ.e_h0 h.1 hF hz, by rw [hF 0 11 (by unfold p129; omega)]; exact h.2.1, by rw [hF 0 10 (by unfold p129; omega)]; exact h.2.2.1, h.2.2.2.1.fr (fun A i q => hF A i (by unfold p129; omega)), h.2.2.2.2.fr (fun A i a b => hF A i (by unfold p129; omega))⟩
theorem RfC.e_h0 {m m' : MM} (h : RfC m) (hF : Frm p129 m m') (hz : 0 ≤ m' 129 0 ∧ m' 129 0 ≤ 12) : RfC m' := by
  exact ⟨CJ.e_h0 h.1 hF hz, by rw [hF 0 11 (by unfold p129; omega)]; exact h.2.1, fun z => by
    rw [hF 0 10 (by unfold p129; omega)] at z
    exact (h.2.2.1 z).fr (fun A i q => hF A i (by unfold p129; omega)), SX.fr h.2.2.2 (hF 0 10 (by unfold p129; omega)) (fun A i a b => hF A i (by unfold p129; omega))⟩
theorem CJ.e_bd {m m' : MM} (h : CJ m) (hF : Frm pBd m m') (hz : BodyOK m') (ht : 0 ≤ m' 0 11 ∧ m' 0 11 ≤ 1) : CJ m' := by
  exact ⟨hz, h.w.fr (fun A i a b => hF A i (by unfold pBd; omega)), h.w2.fr (fun A i a b => hF A i (by unfold pBd; omega)), by rw [hF 19 0 (by unfold pBd; omega)]; exact h.r, h.hs.fr (fun A i a b => hF A i (by unfold pBd; omega)), fun o ho => by rw [hF 24 o (by unfold pBd; omega), hF 22 o (by unfold pBd; omega)]; exact h.us o ho, fun Q' hQ' => (h.ch Q' hQ').fr3 (fun A i q => hF A i (by have := hQ'.rg; unfold pBd; omega)), by rw [hF 0 10 (by unfold pBd; omega)]; exact h.so, ht⟩
theorem up1F {P : Nat → Nat → Prop} {m : MM} {A i : Nat} {x : Int} (q : P A i) : Frm P m (upm m A i x) := Frm.up Frm.rf q
theorem ClS.bd {m m' : MM} (h : ClS m) (hF : Frm pBd m m') (hz : BodyOK m') (ht : m' 0 11 = 1) : ClS m' := ⟨CJ.e_bd h.1 hF hz (by omega), fun q => by omega, fun q => by omega⟩
theorem ClS.fi {m m' : MM} (h : ClS m) (hF : Frm p4f m m') : ClS m' := by
  have hB : BodyOK m' := by
    obtain ⟨h1, h2, h3, h4, h5, h6⟩ := h.1.b
    refine ⟨by rw [hF 1 0 (by unfold p4f; omega)]; exact h1, fun o ho => ?_, fun k hk => by rw [hF 5 k (by unfold p4f; omega)]; exact h3 k hk, fun k hk => by rw [hF 6 k (by unfold p4f; omega)]; exact h4 k hk, fun k hk => by rw [hF 7 k (by unfold p4f; omega)]; exact h5 k hk, fun k hk => by rw [hF 8 k (by unfold p4f; omega)]; exact h6 k hk⟩
    unfold BOp
    rw [hF 2 o (by unfold p4f; omega), hF 3 (4 * o) (by unfold p4f; omega), hF 3 (4 * o + 1) (by unfold p4f; omega), hF 3 (4 * o + 2) (by unfold p4f; omega), hF 3 (4 * o + 3) (by unfold p4f; omega)]
    exact h2 o ho
  refine ⟨CJ.e_bd h.1 (hF.mono (fun A i q => by unfold p4f at q; unfold pBd; omega)) hB (by rw [hF 0 11 (by unfold p4f; omega)]; exact h.1.st), fun a b => ?_, fun a => SX.fr (h.2.2 (by rw [hF 0 11 (by unfold p4f; omega)] at a; exact a)) (hF 0 10 (by unfold p4f; omega)) (fun A i a b => hF A i (by unfold p4f; omega))⟩
  rw [hF 0 11 (by unfold p4f; omega)] at a
  rw [hF 0 10 (by unfold p4f; omega)] at b
  exact (h.2.1 a b).fr (fun A i q => hF A i (by unfold p4f; omega))
end
