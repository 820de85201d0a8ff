/-! every instruction, with unknown arguments -/
theorem s_int {θ : Nat → Int32} {env : EV} (he : eR θ env) {x : AN} {r : List AV} {st' : List Value} (h : A2 (vR θ) (.inr x :: r) st') : ∃ xv r', st' = .int xv :: r' ∧ vR θ (.inr x) (.int xv) ∧ A2 (vR θ) r r' := by
  obtain ⟨w, r', rfl, hw, hr⟩ := h
  obtain ⟨xv, rfl, -⟩ := rng_of he hw
  exact ⟨xv, r', rfl, hw, hr⟩
theorem s_val {θ : Nat → Int32} {v : Value} {r : List AV} {st' : List Value} (h : A2 (vR θ) (.inl v :: r) st') : ∃ r', st' = v :: r' ∧ A2 (vR θ) r r' := by
  obtain ⟨w, r', rfl, hw, hr⟩ := h
  exact ⟨r', by rw [show w = v from hw], hr⟩
theorem c_0 {θ : Nat → Int32} {l : List AV} {y : PE} (h : cR θ (.inl (0, l)) y) : ∃ g, y = .inl (0, l.length, .inl g) ∧ ∀ (j : Nat) (a : AV), l[j]? = some a → vR θ a (.int (g j)) := by
  rcases y with ⟨t, n, g | g | g | g | g⟩ | ⟨ci, fs⟩
  · rcases t with _ | t
    · obtain ⟨rfl, h⟩ := h; exact ⟨g, rfl, h⟩
    · exact h.elim
  all_goals (first | exact h.elim | (rcases t with _ | _ | _ | _ | t <;> exact h.elim))
theorem c_1 {θ : Nat → Int32} {l : List AV} {y : PE} (h : cR θ (.inl (1, l)) y) : ∃ g, y = .inl (1, l.length, .inr (.inl g)) ∧ ∀ (j : Nat) (a : AV), l[j]? = some a → vR θ a (.long (g j)) := by
  rcases y with ⟨t, n, g | g | g | g | g⟩ | ⟨ci, fs⟩
  · rcases t with _ | _ | t <;> exact h.elim
  · rcases t with _ | _ | t
    · exact h.elim
    · obtain ⟨rfl, h⟩ := h; exact ⟨g, rfl, h⟩
    · exact h.elim
  all_goals (first | exact h.elim | (rcases t with _ | _ | _ | _ | t <;> exact h.elim))
theorem c_2 {θ : Nat → Int32} {l : List AV} {y : PE} (h : cR θ (.inl (2, l)) y) : ∃ g, y = .inl (2, l.length, .inr (.inr (.inr (.inr g)))) ∧ ∀ (j : Nat) (a : AV), l[j]? = some a → vR θ a (va_rf (g j)) := by
  rcases y with ⟨t, n, g | g | g | g | g⟩ | ⟨ci, fs⟩
  · rcases t with _ | _ | _ | t <;> exact h.elim
  · rcases t with _ | _ | _ | t <;> exact h.elim
  · rcases t with _ | _ | _ | t <;> exact h.elim
  · rcases t with _ | _ | _ | t <;> exact h.elim
  · rcases t with _ | _ | _ | t
    · exact h.elim
    · exact h.elim
    · obtain ⟨rfl, h⟩ := h; exact ⟨g, rfl, h⟩
    · exact h.elim
  · exact h.elim
theorem c_3 {θ : Nat → Int32} {l : List AV} {y : PE} (h : cR θ (.inl (3, l)) y) : ∃ g, y = .inl (3, l.length, .inr (.inr (.inr (.inr g)))) ∧ ∀ (j : Nat) (a : AV), l[j]? = some a → vR θ a (va_rf (g j)) := by
  rcases y with ⟨t, n, g | g | g | g | g⟩ | ⟨ci, fs⟩
  · rcases t with _ | _ | _ | _ | t <;> exact h.elim
  · rcases t with _ | _ | _ | _ | t <;> exact h.elim
  · rcases t with _ | _ | _ | _ | t <;> exact h.elim
  · rcases t with _ | _ | _ | _ | t <;> exact h.elim
  · rcases t with _ | _ | _ | _ | t
    · exact h.elim
    · exact h.elim
    · exact h.elim
    · obtain ⟨rfl, h⟩ := h; exact ⟨g, rfl, h⟩
    · exact h.elim
  · exact h.elim
theorem c_o {θ : Nat → Int32} {ci : Nat} {fs : List AV} {y : PE} (h : cR θ (.inr (ci, fs)) y) : ∃ gs, y = .inr (ci, gs) ∧ A2 (vR θ) fs gs := by
  rcases y with ⟨t, n, g⟩ | ⟨cj, gs⟩
  · exact (show False from by rcases t with _ | _ | _ | _ | t <;> rcases g with g | g | g | g | g <;> exact h).elim
  · obtain ⟨rfl, h⟩ := h; exact ⟨gs, rfl, h⟩
theorem c_set0 {θ : Nat → Int32} {l : List AV} {g : Nat → Int32} (hg : ∀ (j : Nat) (a : AV), l[j]? = some a → vR θ a (.int (g j))) {j : Nat} {v : AV} {x : Int32} (hv : vR θ v (.int x)) : cR θ (.inl (0, l.set j v)) (.inl (0, l.length, .inl (upd g j x))) := by
  refine ⟨by simp, fun i a hi => ?_⟩
  by_cases h : j = i
  · subst h
    rw [List.getElem?_set] at hi
    simp only [if_true] at hi
    split at hi
    · cases hi; rw [show upd g j x j = x from if_pos rfl]; exact hv
    · cases hi
  · rw [List.getElem?_set_ne h] at hi
    rw [show upd g j x i = g i from if_neg (fun q => h q.symm)]
    exact hg i a hi
theorem c_set1 {θ : Nat → Int32} {l : List AV} {g : Nat → Int64} (hg : ∀ (j : Nat) (a : AV), l[j]? = some a → vR θ a (.long (g j))) {j : Nat} {x : Int64} : cR θ (.inl (1, l.set j (.inl (.long x)))) (.inl (1, l.length, .inr (.inl (vp_updL g j x)))) := by
  refine ⟨by simp, fun i a hi => ?_⟩
  by_cases h : j = i
  · subst h
    rw [List.getElem?_set] at hi
    simp only [if_true] at hi
    split at hi
    · cases hi; rw [show vp_updL g j x j = x from if_pos rfl]; rfl
    · cases hi
  · rw [List.getElem?_set_ne h] at hi
    rw [show vp_updL g j x i = g i from if_neg (fun q => h q.symm)]
    exact hg i a hi
theorem c_set2 {θ : Nat → Int32} {l : List AV} {g : Nat → Option Nat} (hg : ∀ (j : Nat) (a : AV), l[j]? = some a → vR θ a (va_rf (g j))) {j v : Nat} : cR θ (.inl (2, l.set j (.inl (.ref v)))) (.inl (2, l.length, .inr (.inr (.inr (.inr (va_up g j (some v))))))) := by
  refine ⟨by simp, fun i a hi => ?_⟩
  by_cases h : j = i
  · subst h
    rw [List.getElem?_set] at hi
    simp only [if_true] at hi
    split at hi
    · cases hi; rw [show va_up g j (some v) j = some v from if_pos rfl]; rfl
    · cases hi
  · rw [List.getElem?_set_ne h] at hi
    rw [show va_up g j (some v) i = g i from if_neg (fun q => h q.symm)]
    exact hg i a hi
theorem bm {a : Int} (h1 : -2147483648 ≤ a) (h2 : a ≤ 2147483647) : a.bmod (2 ^ 32) = a := by
  rw [Int.bmod_def]
  omega
theorem rf_ref {o : Option Nat} {a : Nat} (h : vR (fun _ => 0) (.inl (.ref a)) (va_rf o)) : o = some a := by
  cases o with
  | none => cases (show va_rf none = .ref a from h)
  | some b => cases (show va_rf (some b) = .ref a from h); rfl
theorem dflt_R {θ : Nat → Int32} (ci : Nat) : A2 (vR θ) ((dflt ci).map (fun v => match v with | .int x => aK x.toInt | v => .inl v)) (dflt ci) := by
  generalize dflt ci = l
  induction l with
  | nil => rfl
  | cons v l ih =>
    refine ⟨v, l, rfl, ?_, ih⟩
    cases v <;> first | exact vR_K _ | rfl
theorem rep_0 {θ : Nat → Int32} (n : Nat) : cR θ (.inl (0, List.replicate n (aK 0))) (.inl (0, n, .inl (fun _ => 0))) := by
  refine ⟨by simp, fun j a hj => ?_⟩
  rw [List.getElem?_replicate] at hj
  split at hj
  · cases hj; exact vR_K 0
  · cases hj
section AIO
variable {θ : Nat → Int32} {C : Nat → List Value → PH → (Rs → PH → Prop) → Prop} {S : Nat × (Nat → Int32)} {M : PM} {hd : List (Nat × Nat × Nat × Int)} {Q : Rs → PH → Prop} {K : Kt} {te : TE} {lv' : LV} {st' : List Value} {h' : PH} {c s : Nat} {env : EV} {sp : Bool} {L : Nat} {lv : AL} {st : List AV} {h : AH}
theorem ci32 {a : Int} {n : Int32} (h1 : a ≤ n.toInt) (h2 : n.toInt ≤ a) (h0 : 0 ≤ a) : ¬ n < 0 ∧ n.toNatClampNeg = a.toNat := by
  have h3 : n.toInt = a := by omega
  refine ⟨fun q => ?_, ?_⟩
  · rw [Int32.lt_iff_toInt_lt] at q
    have : (0 : Int32).toInt = 0 := by decide
    omega
  · show n.toInt.toNat = _
    rw [h3]
set_option maxHeartbeats 4000000 in
theorem aI_ok (hS : S = (L, θ)) (he : eR θ env) (hlv : A2 (qR θ) lv lv') (hst : A2 (vR θ) st st') (hh : A2 (cR θ) h h') : aOK θ C S M hd Q K te lv' st' h' c s (aI sp L M hd env te lv st h c s) := by
  subst hS
  obtain ⟨pc, ins, ta, tb⟩ := te
  unfold aI
  dsimp only
  split
  · exact aOK.go (fun k => k _ _ _ hlv ⟨_, _, rfl, vR_K _, hst⟩ hh)
  · exact aOK.go (fun k => k _ _ _ hlv ⟨_, _, rfl, vR_K _, hst⟩ hh)
  · exact aOK.go (fun k => k _ _ _ hlv ⟨_, _, rfl, vR_K _, hst⟩ hh)
  · exact aOK.go (fun k => k _ _ _ hlv ⟨_, _, rfl, rfl, hst⟩ hh)
  · split
    · rename_i q hq
      split
      · rename_i h0
        exact aOK.go (fun k => ⟨q, hq, h0, k _ _ _ hlv ⟨_, _, rfl, vR_K _, hst⟩ hh⟩)
      · trivial
    · trivial
  · split
    · rename_i q hq
      split
      · rename_i h0
        exact aOK.go (fun k => ⟨q, hq, h0, k _ _ _ hlv ⟨_, _, rfl, vR_K _, hst⟩ hh⟩)
      · trivial
    · trivial
  · split
    · rename_i x hx
      obtain ⟨w, hw, hv⟩ := ag_R hlv hx
      obtain ⟨xv, rfl, -⟩ := rng_of he hv
      exact aOK.go (fun k => ⟨xv, hw, k _ _ _ hlv ⟨_, _, rfl, hv, hst⟩ hh⟩)
    · trivial
  · split
    · rename_i x hx
      obtain ⟨w, hw, hv⟩ := ag_R hlv hx
      obtain ⟨xv, rfl, -⟩ := rng_of he hv
      exact aOK.go (fun k => ⟨xv, hw, k _ _ _ hlv ⟨_, _, rfl, hv, hst⟩ hh⟩)
    · trivial
  · split
    · rename_i x hx
      obtain ⟨w, hw, hv⟩ := ag_R hlv hx
      exact aOK.go (fun k => ⟨w, hw, ⟨_, Or.inl hv⟩, k _ _ _ hlv ⟨_, _, rfl, hv, hst⟩ hh⟩)
    · rename_i x hx
      obtain ⟨w, hw, hv⟩ := ag_R hlv hx
      exact aOK.go (fun k => ⟨w, hw, ⟨_, Or.inr hv⟩, k _ _ _ hlv ⟨_, _, rfl, hv, hst⟩ hh⟩)
    · trivial
  · split
    · rename_i x hx
      obtain ⟨w, hw, hv⟩ := ag_R hlv hx
      exact aOK.go (fun k => ⟨w, hw, ⟨_, Or.inl hv⟩, k _ _ _ hlv ⟨_, _, rfl, hv, hst⟩ hh⟩)
    · rename_i x hx
      obtain ⟨w, hw, hv⟩ := ag_R hlv hx
      exact aOK.go (fun k => ⟨w, hw, ⟨_, Or.inr hv⟩, k _ _ _ hlv ⟨_, _, rfl, hv, hst⟩ hh⟩)
    · trivial
  · -- istore
    obtain ⟨xv, r', rfl, hv, hr⟩ := s_int he hst
    split
    · rename_i hi
      exact aOK.go (fun k => ⟨hi, k _ _ _ (as1_R hlv _ hv) hr hh⟩)
    · trivial
  · obtain ⟨xv, r', rfl, hv, hr⟩ := s_int he hst
    split
    · rename_i hi
      exact aOK.go (fun k => ⟨hi, k _ _ _ (as1_R hlv _ hv) hr hh⟩)
    · trivial
  · obtain ⟨r', rfl, hr⟩ := s_val hst
    split
    · rename_i hi
      exact aOK.go (fun k => ⟨hi, k _ _ _ (as1_R hlv _ (show vR θ (.inl (.ref _)) (.ref _) from rfl)) hr hh⟩)
    · trivial
  · obtain ⟨r', rfl, hr⟩ := s_val hst
    split
    · rename_i hi
      exact aOK.go (fun k => ⟨hi, k _ _ _ (as1_R hlv _ (show vR θ (.inl (.ref _)) (.ref _) from rfl)) hr hh⟩)
    · trivial
  · -- iinc
    rename_i i z _
    split
    · rename_i x hx
      obtain ⟨w, hw, hv⟩ := ag_R hlv hx
      obtain ⟨xv, rfl, -⟩ := rng_of he hv
      split
      · rename_i hi
        by_cases hz : -2147483648 ≤ z ∧ z ≤ 2147483647
        · have hzz : (Int32.ofInt z).toInt = z := by rw [Int32.toInt_ofInt]; exact bm hz.1 hz.2
          refine aOK.sum (yv := Int32.ofInt z) he hv ?_ (fun g1 g2 g3 g4 g5 g6 => ?_) (fun v hv2 => aOK.go (fun k => ⟨hi, xv, hw, k _ _ _ (as1_R hlv _ hv2) hst hh⟩))
          · exact ⟨Int32.ofInt z, rfl, by rw [hzz]; exact Int.le_refl _, by rw [hzz]; exact Int.le_refl _⟩
          · rw [Int32.toInt_add, hzz, bm (by omega) (by omega)]
            omega
        · sorry
      · trivial
    · trivial
  all_goals sorry
end AIO
