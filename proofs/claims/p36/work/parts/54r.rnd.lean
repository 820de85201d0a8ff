/-! rounds of the reference, exactly: the least d by which no closed walk is above 0 -/
def RdsM (E : Int → Nat → Nat → Int → Prop) (r : Int) : Prop := NoUp (E r) ∧ ∀ d, 0 ≤ d → d < r → ¬ NoUp (E d)
theorem upV_le {U L d : Int} (hU : 0 ≤ U) (hL : 0 < L) (hd : 0 ≤ d) : upV U L ≤ d ↔ U ≤ d * L := by
  have d1 := Int.mul_ediv_add_emod (U + L - 1) L
  have d2 := Int.emod_nonneg (U + L - 1) (show L ≠ 0 by omega)
  have d3 := Int.emod_lt_of_pos (U + L - 1) hL
  have e : upV U L = (U + L - 1) / L := rfl
  rw [← e] at d1
  rw [Int.mul_comm] at d1
  constructor
  · intro h
    have := Int.mul_le_mul_of_nonneg_right h (Int.le_of_lt hL)
    omega
  · intro h
    have e2 : (d + 1) * L = d * L + L := by rw [Int.add_mul, Int.one_mul]
    have := Int.lt_of_mul_lt_mul_right (show upV U L * L < (d + 1) * L by omega) (Int.le_of_lt hL)
    omega
theorem RdsM.eq {E : Int → Nat → Nat → Int → Prop} {r U L : Int} (h : RdsM E r) (hr : 0 ≤ r) (hU : 0 ≤ U) (hL : 0 < L) (hE : ∀ d, 0 ≤ d → (NoUp (E d) ↔ U ≤ d * L)) : r = upV U L := by
  have g0 := (upV_rg hL hU).1
  have a1 := (upV_le hU hL hr).mpr ((hE r hr).mp h.1)
  by_cases q : upV U L < r
  · exact absurd ((hE _ g0).mpr ((upV_le hU hL g0).mp (Int.le_refl _))) (h.2 _ g0 q)
  · omega
theorem WayOK.noup {m : MM} {d : Int} (hN : NdsOK m) (hd : 0 ≤ d ∧ d ≤ 48) (hW : WayOK m d) : (∀ o : Nat, (o : Int) < m 143 1 → WM m 158 o o ≤ 0) ↔ NoUp (NdE m d) := by
  have hV : ∀ a b x, NdE m d a b x → a < (m 143 1).toNat ∧ b < (m 143 1).toNat := fun a b x h => by
    have := NdE.rng hN hd h; omega
  have h8 := hN.1
  have aup := NdE.aup hN hd
  constructor
  · intro h a p v hn hw
    obtain ⟨k1, -, k3⟩ := Wk.ends hV hw
    have hl := nd_len (k := 8) hn (fun x hx => by have := k3 x hx; omega)
    by_cases q : -999 + 99 * (p.length : Int) ≤ v
    · have := hW.2.1 aup a a k1 k1 p v hn k3 hw q
      have := h a (by omega)
      omega
    · omega
  · intro h o ho
    obtain ⟨φ, -, h2⟩ := pot (E := NdE m d) (k := (m 143 1).toNat) (B := 99) hV (fun a p v _ hn _ hw => h a p v hn hw) (fun a p b v hb hn hp hw => aup a p b v (List.nodup_cons.mp (List.nodup_cons.mp hn).2).2 (fun c hc => by have := hp c (List.mem_cons_of_mem _ hc); omega) hw)
    by_cases q : -1000 < WM m 158 o o
    · have := hW.2.2.2.1 φ h2 o o (by omega) (by omega) q
      omega
    · omega
/-- edges of the needs, none left out -/
theorem NdE.q {m : MM} (h18 : m 143 18 = -1) (h12 : 0 ≤ m 143 12) {d : Int} : NdE m d = EdQ (rq m) (m 143 12).toNat d := by
  funext a b x
  refine propext ⟨?_, ?_⟩
  · rintro ⟨j, h1, -, h2, h3, h4⟩
    exact ⟨j, by omega, h2, h3, h4⟩
  · rintro ⟨j, h1, h2, h3, h4⟩
    exact ⟨j, by omega, by omega, h2, h3, h4⟩
theorem NdsOK.v {m : MM} (h : NdsOK m) : EdV (rq m) (m 143 12).toNat (m 143 1).toNat := by
  intro j hj
  obtain ⟨p1, p2, p3, p4, p5, p6, p7, p8, p9⟩ := h.2.2 j (by omega)
  refine ⟨⟨(m 154 j).toNat, (m 155 j).toNat, ?_, ?_, by omega, by omega⟩, p5, fun z => ?_⟩
  · show m 154 j = _; omega
  · show m 155 j = _; omega
  · have z : m 156 j = 0 := z
    show m 154 j < m 155 j
    omega
theorem EdQ_cg {c c' : Nat → Q4} {n : Nat} {d : Int} (h : ∀ i, i < n → c i = c' i) : EdQ c n d = EdQ c' n d := by
  funext a b x
  refine propext ⟨?_, ?_⟩
  · rintro ⟨j, h1, h2, h3, h4⟩
    exact ⟨j, h1, by rw [← h j h1]; exact h2, by rw [← h j h1]; exact h3, by rw [← h j h1]; exact h4⟩
  · rintro ⟨j, h1, h2, h3, h4⟩
    exact ⟨j, h1, by rw [h j h1]; exact h2, by rw [h j h1]; exact h3, by rw [h j h1]; exact h4⟩
/-- what the class holds of a web's rings -/
theorem RtL.noup {c : Nat → Q4} {n o : Nat} {m : MM} {W : Nat} (ho : o ≤ 8) (hV : EdV c n o) (h : RtL (ringsAll c n o) m W) {d : Int} (hd : 0 ≤ d) : NoUp (EdQ c n d) ↔ m W 5 ≤ d * m W 6 := (rings_noup ho hV).symm.trans (h.rnd (fun _ hr => ring_dist hV hr) hd)
section RND2
variable {S : Nat × (Nat → Int32)} {n : Nat} {mem : MM} {K : Int → MM → Prop}
theorem f_255e (hN : NdsOK mem) (H : ∀ r m', 0 ≤ r → r ≤ 48 → Fr1 158 mem m' → RdsM (NdE mem) r → K r m') : CWI (Ex S (n + 3)) 255 [.inr 143] mem K := by
  have key : ∀ (N : Nat) (d : Int) (m : MM), 0 ≤ d → d ≤ 48 → 48 - d < N → Fr1 158 mem m → WayOK m d → (∀ d', 0 ≤ d' → d' < d → ¬ NoUp (NdE mem d')) → Wx (Ex S (n + 2)) S M_255 (fun r m => ∃ y, r = some y ∧ K y m) 7 [some (.inr 143), some (.inl d)] [] m := by
    intro N
    induction N with
    | zero => intros; omega
    | succ N ih =>
      intro d m hd1 hd2 hNN hF hW hL
      have hN2 := hN.fr hF
      have hup := WayOK.noup hN2 ⟨hd1, hd2⟩ hW
      rw [NdE.fr hF] at hup
      refine w_255_7 (Ex.mono S (n + 2)) (f_259 hN2.1 (fun hyes _ => ⟨fun _ _ => ⟨_, rfl, H d m hd1 hd2 hF ⟨hup.mp hyes, hL⟩⟩, fun q => absurd (by decide) q⟩) (fun hno _ => ⟨fun q => absurd rfl q, fun _ => ?_⟩))
      have hd3 : d < 48 := by
        by_cases e : d = 48
        · subst e
          exact absurd (fun o ho => diag48 hN2 hW o ho) hno
        · omega
      refine ⟨by unfold InI; omega, f_256 hN2 ⟨by omega, by omega⟩ (fun m' h1 h2 => ?_)⟩
      refine ih (d + 1) m' (by omega) (by omega) (by omega) (hF.tr h1) h2 (fun d' g1 g2 => ?_)
      by_cases e : d' = d
      · subst e; exact fun z => hno (hup.mpr z)
      · exact hL d' g1 (by omega)
  exact CW.of (k := 1) mt_255 rfl rfl (w_255_0 (Ex.mono S (n + 2)) (f_256 hN ⟨by omega, by omega⟩ (fun m' h1 h2 => key 49 0 m' (by omega) (by omega) (by omega) h1 h2 (fun d' g1 g2 => by omega))))
/-- isLess, exactly -/
theorem f_254e {d : Int} (hO : OpsOK mem) (H1 : ∀ m', FrW mem m' → RN mem m' → (SoundM mem → NdsOK m' ∧ m' 143 12 ≤ 44 ∧ Enum (rq m') (m' 143 12).toNat (NdF mem) ∧ ∃ r, 0 ≤ r ∧ RdsM (NdE m') r ∧ d < r) → K 1 m') (H0 : ∀ m', FrW mem m' → RN mem m' → SoundM mem → NdsOK m' → m' 143 12 ≤ 44 → Enum (rq m') (m' 143 12).toNat (NdF mem) → (∃ r, 0 ≤ r ∧ RdsM (NdE m') r ∧ r ≤ d) → K 0 m') : CWI (Ex S (n + 4)) 254 [.inr 143, .inl d] mem K := by
  refine CW.of (k := 0) mt_254 rfl rfl (w_254_0 (Ex.mono S (n + 3)) (f_240 hO (fun hS _ => ⟨fun _ => ?_, fun q => absurd (by decide) q⟩) (fun hS _ => ⟨fun q => absurd rfl q, fun _ => ⟨_, rfl, H1 mem FrW.rf RN.rf (fun z => absurd z hS)⟩⟩)))
  refine f_245e hO hS (fun m1 g1 g5 g2 g3 g4 gE => ?_)
  have hRN : RN mem m1 := ⟨g5, fun _ => ⟨g2, g3⟩⟩
  have hN := NdsOK.of hO g1 g2 g3 g4
  refine f_255e hN (fun r m2 r1 r2 k1 kR => ?_)
  have e12 : m2 143 12 = m1 143 12 := k1 143 12 (by omega)
  have eq : rq m2 = rq m1 := funext fun i => by
    unfold rq
    rw [k1 154 i (by omega), k1 155 i (by omega), k1 156 i (by omega), k1 157 i (by omega)]
  have eE : Enum (rq m2) (m2 143 12).toNat (NdF mem) := by rw [eq, e12]; exact gE
  have eR : RdsM (NdE m2) r := by
    have : NdE m2 = NdE m1 := funext fun d => NdE.fr k1 d
    rw [this]; exact kR
  exact fun _ => ⟨fun q => ⟨_, rfl, H0 m2 (g1.w.tr k1.w) (hRN.tr (k1.rn (by omega))) hS (hN.fr k1) (by omega) eE ⟨r, r1, eR, by omega⟩⟩, fun q => ⟨_, rfl, H1 m2 (g1.w.tr k1.w) (hRN.tr (k1.rn (by omega))) (fun _ => ⟨hN.fr k1, by omega, eE, r, r1, eR, by omega⟩)⟩⟩
end RND2
