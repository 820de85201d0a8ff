/-! lives, copies, names paired: what they come to, and their bounds -/
def ceilF (t d : Int) : Int := -((-t) / d)
theorem ceilF_sp (t : Int) {d : Int} (hd : 0 < d) : d * (ceilF t d - 1) < t ∧ t ≤ d * ceilF t d := by
  unfold ceilF
  have e := Int.mul_ediv_add_emod (-t) d
  have h1 := Int.emod_lt_of_pos (-t) hd
  have h2 := Int.emod_nonneg (-t) (show d ≠ 0 by omega)
  have e2 : d * (-((-t) / d) - 1) = -(d * ((-t) / d)) - d := by rw [Int.mul_sub, Int.mul_neg, Int.mul_one]
  have e3 : d * (-((-t) / d)) = -(d * ((-t) / d)) := Int.mul_neg _ _
  omega
theorem ceilF_eq {t d u : Int} (hd : 0 < d) (h1 : d * (u - 1) < t) (h2 : t ≤ d * u) : u = ceilF t d := by
  obtain ⟨g1, g2⟩ := ceilF_sp t hd
  have := ceil1 hd h1 g2
  have := ceil1 hd g1 h2
  omega
def lst1 (m : MM) (o : Nat) (d : Int) (u : Nat) (k : Int) (l : Int) : Int := if srcA m u k = o then max l (m 161 u + d * srcB m u k) else l
/-- over the first k sources of u -/
def lstK (m : MM) (o : Nat) (d : Int) (u : Nat) (l : Int) : Nat → Int
  | 0 => l
  | k + 1 => lst1 m o d u k (lstK m o d u l k)
def lstN (m : MM) (o : Nat) (d : Int) : Nat → Int
  | 0 => -1
  | u + 1 => lstK m o d u (lstN m o d u) (srcN m u).toNat
def lifeF (m : MM) (o : Nat) (d : Int) : Int := if m 144 o = 5 then 0 else if lstN m o d (m 143 1).toNat = -1 then 0 else lstN m o d (m 143 1).toNat - (m 161 o + latF m o) + 1
def copF (m : MM) (o : Nat) (d : Int) : Int := if m 144 o = 5 then 0 else max 1 (ceilF (lifeF m o d) d)
theorem d3 {d x : Int} (hd : 1 ≤ d ∧ d ≤ 12) (hx : 0 ≤ x ∧ x ≤ 3) : 0 ≤ d * x ∧ d * x ≤ 3 * d := by
  have h1 := Int.mul_nonneg (show 0 ≤ d by omega) hx.1
  have h2 := Int.mul_le_mul_of_nonneg_left hx.2 (show 0 ≤ d by omega)
  omega
theorem srcN_le (m : MM) (u : Nat) : 0 ≤ srcN m u ∧ srcN m u ≤ 2 := by unfold srcN; split <;> (try split) <;> omega
section LIFE
variable {S : Nat × (Nat → Int32)} {n : Nat} {mem : MM} {d : Int}
theorem lst1_rng (hO : OpsOK mem) (hT : TmOK mem d) (hd : 1 ≤ d ∧ d ≤ 12) {o u : Nat} {k l : Int} (hu : (u : Int) < mem 143 1) (hk : 0 ≤ k ∧ k < srcN mem u) (hl : -1 ≤ l ∧ l ≤ 33 + 12 * d) : -1 ≤ lst1 mem o d u k l ∧ lst1 mem o d u k l ≤ 33 + 12 * d := by
  unfold lst1
  split
  · have hs := hO.src (o := u) (by have := hO.1; omega) hk.1 hk.2
    have ht := hT u hu
    have hb : 0 ≤ srcB mem u k ∧ srcB mem u k ≤ 3 := by unfold srcOK at hs; omega
    have := d3 hd hb
    omega
  · exact hl
theorem lstK_rng (hO : OpsOK mem) (hT : TmOK mem d) (hd : 1 ≤ d ∧ d ≤ 12) {o u : Nat} {l : Int} (hu : (u : Int) < mem 143 1) (hl : -1 ≤ l ∧ l ≤ 33 + 12 * d) : ∀ k : Nat, (k : Int) ≤ srcN mem u → -1 ≤ lstK mem o d u l k ∧ lstK mem o d u l k ≤ 33 + 12 * d
  | 0, _ => hl
  | k + 1, h => lst1_rng hO hT hd hu (by omega) (lstK_rng hO hT hd hu hl k (by omega))
theorem lstN_rng (hO : OpsOK mem) (hT : TmOK mem d) (hd : 1 ≤ d ∧ d ≤ 12) {o : Nat} : ∀ u : Nat, (u : Int) ≤ mem 143 1 → -1 ≤ lstN mem o d u ∧ lstN mem o d u ≤ 33 + 12 * d
  | 0, _ => by simp only [lstN]; omega
  | u + 1, h => lstK_rng hO hT hd (by omega) (lstN_rng hO hT hd u (by omega)) _ (by have := srcN_le mem u; omega)
theorem lifeF_rng (hO : OpsOK mem) (hT : TmOK mem d) (hd : 1 ≤ d ∧ d ≤ 12) {o : Nat} (ho : (o : Int) < mem 143 1) : -1000 ≤ lifeF mem o d ∧ lifeF mem o d ≤ 33 + 12 * d := by
  unfold lifeF
  have h8 := hO.1
  have h1 := lstN_rng hO hT hd (o := o) (mem 143 1).toNat (by omega)
  have h2 := hT o ho
  have h3 := hO.lat (o := o) (by omega)
  split
  · omega
  · split <;> omega
theorem copF_rng (hO : OpsOK mem) (hT : TmOK mem d) (hd : 1 ≤ d ∧ d ≤ 12) {o : Nat} (ho : (o : Int) < mem 143 1) : 0 ≤ copF mem o d ∧ copF mem o d ≤ 45 ∧ (¬ mem 144 o = 5 → 1 ≤ copF mem o d) := by
  unfold copF
  split
  · omega
  · obtain ⟨h1, h2⟩ := lifeF_rng hO hT hd ho
    obtain ⟨g1, g2⟩ := ceilF_sp (lifeF mem o d) (show 0 < d by omega)
    have : ceilF (lifeF mem o d) d ≤ 45 := by
      by_cases h : ceilF (lifeF mem o d) d ≤ 45
      · exact h
      · have := Int.mul_le_mul_of_nonneg_left (show (45 : Int) ≤ ceilF (lifeF mem o d) d - 1 by omega) (show 0 ≤ d by omega)
        omega
    omega
theorem f_299 {K : Int → MM → Prop} (hO : OpsOK mem) {o : Int} (ho : 0 ≤ o ∧ o < mem 143 1) (hT : -1000000 ≤ mem 161 o.toNat ∧ mem 161 o.toNat ≤ 1000000) (H : K (mem 161 o.toNat + latF mem o.toNat) mem) : CWI (Ex S (n + 2)) 299 [.inr 143, .inl o] mem K := by
  have h8 := hO.1
  have hl := hO.lat (o := o.toNat) (by omega)
  refine CW.of (k := 0) mt_299 rfl rfl (w_299_0 (Ex.mono S (n + 1)) ⟨by omega, fun v e _ => f_246 hO (by omega) (fun _ => ⟨by unfold InI; omega, fun _ => ⟨_, rfl, ?_⟩⟩)⟩)
  rw [e]; exact H
theorem lf_29 (hO : OpsOK mem) (hT : TmOK mem d) (hd : 1 ≤ d ∧ d ≤ 12) {o : Nat} (ho : (o : Int) < mem 143 1) (hk5 : ¬ mem 144 o = 5) {Kk : WK} (H : Kk (some (lifeF mem o d)) mem) : ∀ (N : Nat) (u k : Nat), (u : Int) < mem 143 1 → (k : Int) ≤ srcN mem u → 3 * (mem 143 1 - u) + (2 - k) < N → Wx (Ex S (n + 2)) S M_298 Kk 29 [some (.inr 143), some (.inl (o : Int)), some (.inl d), some (.inl (lstK mem o d u (lstN mem o d u) k)), some (.inl (u : Int)), some (.inl (k : Int))] [] mem := by
  intro N
  induction N with
  | zero => intro u k hu hk hN; have := srcN_le mem u; omega
  | succ N ih =>
    intro u k hu hk hN
    have h8 := hO.1
    have hu8 : 0 ≤ (u : Int) ∧ (u : Int) < 8 := by omega
    have hsn := srcN_le mem u
    refine w_298_29 (Ex.mono S (n + 2)) (f_241 hu8 (fun _ => ⟨fun q => ⟨by unfold InI; omega, ?_⟩, fun q => ?_⟩))
    · rw [Int.toNat_natCast] at q
      have ek : k = (srcN mem u).toNat := by omega
      subst ek
      have eN : lstK mem o d u (lstN mem o d u) (srcN mem u).toNat = lstN mem o d (u + 1) := rfl
      rw [eN]
      refine w_298_17 (Ex.mono S (n + 2)) (fun v e _ => ⟨fun q2 => ?_, fun q2 => ?_⟩)
      · have eu : u + 1 = (mem 143 1).toNat := by omega
        have hl := lstN_rng hO hT hd (o := o) (mem 143 1).toNat (by omega)
        have ht := hT o ho
        have hla := hO.lat (o := o) (by omega)
        unfold lifeF at H
        rw [if_neg hk5] at H
        rw [eu]
        refine ⟨fun q3 => f_299 hO (by omega) (by rw [Int.toNat_natCast]; omega) (fun _ => ?_), fun q3 _ => ?_⟩
        · rw [Int.toNat_natCast]
          rw [if_neg q3] at H
          exact ⟨by unfold InI; omega, by unfold InI; omega, fun _ => H⟩
        · rw [if_pos (by omega)] at H; exact H
      · exact ih (u + 1) 0 (by omega) (by have := srcN_le mem (u + 1); omega) (by omega)
    · rw [Int.toNat_natCast] at q
      have ek : lstK mem o d u (lstN mem o d u) (k + 1) = lst1 mem o d u k (lstK mem o d u (lstN mem o d u) k) := rfl
      have nx := ih u (k + 1) hu (by omega) (by omega)
      rw [ek] at nx
      have hs := hO.src (o := u) (by omega) (k := k) (by omega) (by omega)
      refine f_242 hu8 (fun _ => ⟨fun q2 => ⟨by unfold InI; omega, ?_⟩, fun q2 => ⟨hu8, fun v5 e5 _ => f_243 hu8 (fun _ => ?_)⟩⟩)
      · rw [Int.toNat_natCast] at q2
        unfold lst1 at nx
        rw [if_neg q2] at nx
        exact nx
      · rw [Int.toNat_natCast] at q2 e5
        rw [Int.toNat_natCast]
        have hb : 0 ≤ srcB mem u k ∧ srcB mem u k ≤ 3 := by unfold srcOK at hs; omega
        have hd3 := d3 hd hb
        have ht := hT u hu
        refine ⟨by unfold InI; omega, by unfold InI; omega, f_257 (fun _ _ => ⟨by unfold InI; omega, ?_⟩)⟩
        unfold lst1 at nx
        rw [if_pos (by omega)] at nx
        rw [e5]; exact nx
theorem f_298 {K : Int → MM → Prop} (hO : OpsOK mem) (hT : TmOK mem d) (hd : 1 ≤ d ∧ d ≤ 12) {o : Nat} (ho : (o : Int) < mem 143 1) (H : K (lifeF mem o d) mem) : CWI (Ex S (n + 3)) 298 [.inr 143, .inl (o : Int), .inl d] mem K := by
  have h8 := hO.1
  refine CW.of (k := 3) mt_298 rfl rfl (w_298_0 (Ex.mono S (n + 2)) ⟨by omega, fun v e _ => ⟨fun q => ?_, fun q _ => ⟨_, rfl, ?_⟩⟩⟩)
  · rw [Int.toNat_natCast] at e
    refine w_298_17 (Ex.mono S (n + 2)) (fun v e _ => ⟨fun q2 => by omega, fun q2 => ?_⟩)
    exact lf_29 hO hT hd ho (by omega) ⟨_, rfl, H⟩ 27 0 0 (by omega) (by have := srcN_le mem 0; omega) (by omega)
  · rw [Int.toNat_natCast] at e
    unfold lifeF at H
    rw [if_pos (by omega)] at H; exact H
theorem f_297 {K : Int → MM → Prop} (hO : OpsOK mem) (hT : TmOK mem d) (hd : 1 ≤ d ∧ d ≤ 12) {o : Nat} (ho : (o : Int) < mem 143 1) (H : K (copF mem o d) mem) : CWI (Ex S (n + 4)) 297 [.inr 143, .inl (o : Int), .inl d] mem K := by
  have h8 := hO.1
  have hl := lifeF_rng hO hT hd ho
  refine CW.of (k := 0) mt_297 rfl rfl (w_297_0 (Ex.mono S (n + 3)) ⟨by omega, fun v e _ => ⟨fun q => f_298 hO hT hd ho (fun _ => f_275 ⟨by omega, by omega⟩ ⟨by omega, by omega⟩ (fun u h1 h2 _ => f_257 (fun _ _ _ => ⟨_, rfl, ?_⟩))), fun q _ => ⟨_, rfl, ?_⟩⟩⟩)
  · rw [Int.toNat_natCast] at e
    unfold copF at H
    rw [if_neg (by omega)] at H
    rw [ceilF_eq (by omega) h1 h2]; exact H
  · rw [Int.toNat_natCast] at e
    unfold copF at H
    rw [if_pos (by omega)] at H; exact H
theorem f_296 {K : Int → MM → Prop} (hO : OpsOK mem) (hT : TmOK mem d) (hd : 1 ≤ d ∧ d ≤ 12) (H : ∀ r, 1 ≤ r → r ≤ 45 → (∀ o : Nat, (o : Int) < mem 143 1 → copF mem o d ≤ r) → K r mem) : CWI (Ex S (n + 5)) 296 [.inr 143, .inl d] mem K := by
  have h8 := hO.1
  refine CW.of (k := 2) mt_296 rfl rfl (w_296_0 (Ex.mono S (n + 4)) ?_)
  have key : ∀ (N : Nat) (o : Nat) (r : Int), (o : Int) ≤ mem 143 1 → mem 143 1 - o < N → 1 ≤ r → r ≤ 45 → (∀ o2 : Nat, o2 < o → copF mem o2 d ≤ r) → Wx (Ex S (n + 4)) S M_296 (fun r m => ∃ y, r = some y ∧ K y m) 4 [some (.inr 143), some (.inl d), some (.inl r), some (.inl (o : Int))] [] mem := by
    intro N
    induction N with
    | zero => intros; omega
    | succ N ih =>
      intro o r ho hN r1 r2 hA
      refine w_296_4 (Ex.mono S (n + 4)) (fun v e _ => ⟨fun q _ => ⟨_, rfl, H r r1 r2 (fun o2 h2 => hA o2 (by omega))⟩, fun q => ?_⟩)
      have ho2 : (o : Int) < mem 143 1 := by omega
      have hc := copF_rng hO hT hd ho2
      refine f_297 hO hT hd ho2 (fun _ => f_257 (fun _ _ => ⟨by unfold InI; omega, ih (o + 1) _ (by omega) (by omega) (by omega) (by omega) (fun o2 h2 => ?_)⟩))
      by_cases e3 : o2 = o
      · subst e3; omega
      · have := hA o2 (by omega); omega
  exact key 9 0 1 (by omega) (by omega) (by omega) (by omega) (fun o2 h => by omega)
theorem f_295 {K : Int → MM → Prop} (hO : OpsOK mem) (hT : TmOK mem d) (hd : 1 ≤ d ∧ d ≤ 12) {o : Nat} (ho : (o : Int) < mem 143 1) (H : ∀ r, 0 ≤ r → r ≤ 45 → (¬ mem 144 o = 5 → 1 ≤ r) → K r mem) : CWI (Ex S (n + 6)) 295 [.inr 143, .inl (o : Int), .inl d] mem K := by
  have h8 := hO.1
  have hc := copF_rng hO hT hd ho
  refine CW.of (k := 2) mt_295 rfl rfl (w_295_0 (Ex.mono S (n + 5)) ⟨by omega, fun v e _ => ⟨fun q => f_296 hO hT hd (fun r r1 r2 r3 _ => f_297 hO hT hd ho (fun _ => ?_)), fun q _ => ⟨_, rfl, H 0 (by omega) (by omega) (fun z => ?_)⟩⟩⟩)
  · rw [Int.toNat_natCast] at e
    have key : ∀ (N : Nat) (k : Int), 1 ≤ k → k ≤ r → r - k < N → Wx (Ex S (n + 5)) S M_295 (fun r m => ∃ y, r = some y ∧ K y m) 26 [some (.inr 143), some (.inl (o : Int)), some (.inl d), some (.inl r), some (.inl k)] [] mem := by
      intro N
      induction N with
      | zero => intros; omega
      | succ N ih =>
        intro k k1 k2 hN
        refine w_295_26 (Ex.mono S (n + 5)) ⟨by omega, fun q2 _ => ⟨_, rfl, H k (by omega) (by omega) (fun _ => k1)⟩, fun q2 => ⟨by unfold InI; omega, ih (k + 1) (by omega) ?_ (by omega)⟩⟩
        by_cases e2 : k = r
        · subst e2
          rw [Int.tmod_self] at q2
          exact absurd rfl q2
        · omega
    have h1 := hc.2.2 (by omega)
    exact key 46 _ h1 (r3 o ho) (by omega)
  · rw [Int.toNat_natCast] at e
    omega
end LIFE
