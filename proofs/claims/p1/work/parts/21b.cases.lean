/-! law's cases: what is common -/
abbrev c_at : Nat := 223
abbrev s_at : Nat := 7250
def env6 : EV := [(iLo, iHi), (iLo, iHi), (iLo, iHi), (iLo, iHi), (iLo, iHi), (iLo, iHi)]
def lv6 : LW := [.inr (.inr (.retAddr 0)), .inr (.inr (.ref 0)), .inr (.inr (.ref p_at)), .inr (.inr (.ref 173)), .inl (.ofNat 0), aU, aU]
def rt6 : RT := fun _ q _ _ => match q with
  | .inl (some (.inl 1)) => true
  | _ => false
noncomputable def cas (T : List (Nat × OPF)) (pc : Nat) : Bool := aB (6, M_368, []) T mtW (aM 6 100000 mtW 20) rt6 100000 env6 pc T lv6 [] n_at h_at c_at s_at
def Q1 (r : Rs) (_ : PH) : Prop := r = .inl (some (.int 1))
theorem rt6_ok {θ : Nat → Int32} : RTOK θ rt6 Q1 := by
  intro env q m h H he r h' hr hh
  unfold rt6 at H
  split at H
  · rcases r with w | e
    · obtain ⟨w1, r', e1, ⟨y, e2, ey⟩, e3⟩ := (show A2 (vR θ) [.inl 1] w.toList from hr)
      cases w with
      | none => cases e1
      | some w =>
        cases e1
        have ey1 : y = 1 := toInt_inj (by rw [ey]; decide)
        rw [e2, ey1]
        rfl
    · exact (show False from hr).elim
  · cases H
theorem env6_ok (θ : Nat → Int32) : eR θ env6 := by
  intro t r h
  have : r = (iLo, iHi) := by
    have := List.mem_of_getElem? h
    simpa [env6] using this
  subst this
  exact i32_rng (θ t)
theorem law_inc : tInc (pT M_368) = true := by decide +kernel
theorem law_sok {θ : Nat → Int32} {L n : Nat} {Q : Rs → PH → Prop} {T : List (Nat × OPF)} {seg : List TE} (hT : T = seg.map (mkM [])) (hs : ∀ te ∈ seg, te ∈ pT M_368) : ∀ e ∈ T, SOK θ L (Ex (L, θ) (n + 4)) M_368 [] Q e.1 e.2 := by
  intro e he
  rw [hT] at he
  obtain ⟨te, h5, rfl⟩ := List.mem_map.mp he
  exact SOK.tab (Ex.mono _ _) law_inc (fun q hq => by cases hq) (hs te h5)
theorem dt {a b : Nat} {l : List TE} {te : TE} (h : te ∈ (l.drop a).take b) : te ∈ l := List.mem_of_mem_drop (List.mem_of_mem_take h)
theorem law_mem {a b : Nat} : ∀ te ∈ ((pT M_368).drop a).take b ++ (((pT M_368).drop 2260).take 2 ++ (((pT M_368).drop 13).take 6 ++ ((pT M_368).drop 2262).take 2)), te ∈ pT M_368 := by
  intro te h
  rcases List.mem_append.mp h with h | h
  · exact dt h
  · rcases List.mem_append.mp h with h | h
    · exact dt h
    · rcases List.mem_append.mp h with h | h
      · exact dt h
      · exact dt h
def CASE (pc : Nat) : Prop := ∀ (θ : Nat → Int32) (lv' : LV) (h' : PH), lR θ lv6 lv' → hR θ n_at h_at h' → Vx (Ex (6, θ) 24) (6, θ) M_368 [] Q1 pc lv' [] h' c_at s_at
theorem CASE.of {a b pc : Nat} {T : List (Nat × OPF)} (hT : T = (((pT M_368).drop a).take b ++ (((pT M_368).drop 2260).take 2 ++ (((pT M_368).drop 13).take 6 ++ ((pT M_368).drop 2262).take 2))).map (mkM [])) (H : cas T pc = true) : CASE pc := by
  intro θ lv' h' hlv hh
  exact aB_ok (C := Ex (6, θ) (20 + 4)) (Ex.mono _ _) (law_sok hT law_mem) (aM_ok mtW_ok 20) rt6_ok _ _ _ _ _ _ _ _ _ _ H (law_sok hT law_mem) (env6_ok θ) _ _ _ hlv rfl hh
