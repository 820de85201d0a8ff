/-! the words at an instruction; what the forms of the stack say -/
theorem cl_lt {ci : Nat} (h : ci < 11) : ∃ r, vwCl[ci]? = some r := ⟨_, List.getElem?_eq_getElem (show ci < vwCl.length from h)⟩
theorem fnum_eq {ci : Nat} {r : vw_C} (h : vwCl[ci]? = some r) : fnum ci = r.2.2 := by unfold fnum; rw [h]
theorem LY_in {ci : Nat} {r : vw_C} (h : vwCl[ci]? = some r) : ∀ w ∈ u_ws r.1 r.2.1 r.2.2, w ∈ TBL := fun w hw => TBL_of (LY_ok r (List.mem_of_getElem? h) w hw)
theorem ftyX_ok : ∀ {ci : Nat} {r : vw_C}, vwCl[ci]? = some r → ∀ k, k < r.2.2 → parseFieldDescriptor (r.2.1 k).2.2.1 = some (ftyX ci k)
  | 0, _, h => by cases h; exact tyX0_ok
  | 1, _, h => by cases h; exact tyX1_ok
  | 2, _, h => by cases h; exact tyX2_ok
  | 3, _, h => by cases h; exact tyX3_ok
  | 4, _, h => by cases h; exact tyX4_ok
  | 5, _, h => by cases h; exact tyX5_ok
  | 6, _, h => by cases h; exact tyX6_ok
  | 7, _, h => by cases h; exact tyX7_ok
  | 8, _, h => by cases h; exact tyX8_ok
  | 9, _, h => by cases h; exact tyX9_ok
  | 10, _, h => by cases h; exact tyX10_ok
  | n + 11, _, h => by simp [vwCl] at h
theorem nmX_ok : ∀ {ci : Nat} {r : vw_C}, vwCl[ci]? = some r → ∀ a, a < r.2.2 → ∀ b, b < r.2.2 → a ≠ b → (r.2.1 a).2.1 ≠ (r.2.1 b).2.1
  | 0, _, h => by cases h; exact nmX0
  | 1, _, h => by cases h; exact nmX1
  | 2, _, h => by cases h; exact nmX2
  | 3, _, h => by cases h; exact nmX3
  | 4, _, h => by cases h; exact nmX4
  | 5, _, h => by cases h; exact nmX5
  | 6, _, h => by cases h; exact nmX6
  | 7, _, h => by cases h; exact nmX7
  | 8, _, h => by cases h; exact nmX8
  | 9, _, h => by cases h; exact nmX9
  | 10, _, h => by cases h; exact nmX10
  | n + 11, _, h => by simp [vwCl] at h
theorem owX_ok : ∀ {ci : Nat} {r : vw_C}, vwCl[ci]? = some r → cnm.getD ci "" = r.1 ∧ ∀ k, k < r.2.2 → (r.2.1 k).1 = r.1
  | 0, _, h => by cases h; exact ⟨rfl, by decide +kernel⟩
  | 1, _, h => by cases h; exact ⟨rfl, by decide +kernel⟩
  | 2, _, h => by cases h; exact ⟨rfl, by decide +kernel⟩
  | 3, _, h => by cases h; exact ⟨rfl, by decide +kernel⟩
  | 4, _, h => by cases h; exact ⟨rfl, by decide +kernel⟩
  | 5, _, h => by cases h; exact ⟨rfl, by decide +kernel⟩
  | 6, _, h => by cases h; exact ⟨rfl, by decide +kernel⟩
  | 7, _, h => by cases h; exact ⟨rfl, by decide +kernel⟩
  | 8, _, h => by cases h; exact ⟨rfl, by decide +kernel⟩
  | 9, _, h => by cases h; exact ⟨rfl, by decide +kernel⟩
  | 10, _, h => by cases h; exact ⟨rfl, by decide +kernel⟩
  | n + 11, _, h => by simp [vwCl] at h
theorem fl_0 {o i ci k : Nat} {r : vw_C} (hc : vwCl[ci]? = some r) (h : (o, i, ci, k, 0) ∈ FLs) : Cond.fieldLink (cnm.getD o "") i (r.2.1 k).1 (r.2.1 k).2.1 (r.2.1 k).2.2.1 ∈ TBL := by
  have h1 := FL_ok _ h
  have e : flW (o, i, ci, k, 0) = Cond.fieldLink (cnm.getD o "") i (r.2.1 k).1 (r.2.1 k).2.1 (r.2.1 k).2.2.1 := by unfold flW; rw [hc]; rfl
  rw [e] at h1
  exact TBL_of ⟨h1.1, rfl⟩
theorem fl_1 {o i ci k : Nat} {r : vw_C} (hc : vwCl[ci]? = some r) (h : (o, i, ci, k, 1) ∈ FLs) : Cond.fieldLinkNest (cnm.getD o "") i (r.2.1 k).1 (r.2.1 k).2.1 (r.2.1 k).2.2.1 "OverlapMill" ∈ lw_tbl := by
  have h1 := FL_ok _ h
  have e : flW (o, i, ci, k, 1) = Cond.fieldLinkNest (cnm.getD o "") i (r.2.1 k).1 (r.2.1 k).2.1 (r.2.1 k).2.2.1 "OverlapMill" := by unfold flW; rw [hc]; rfl
  rw [e] at h1
  exact h1.1
theorem kl_in {q : Nat × Nat × Int32} {k : Nat} (h : KLs[k]? = some q) : Cond.constant (cnm.getD q.1 "") q.2.1 q.2.2 ∈ TBL := TBL_of ⟨(KL_ok q (List.mem_of_getElem? h)).1, rfl⟩
theorem cl_in {o i a : Nat} (ha : a < 11) (h : (o, i, a) ∈ CLs) : Cond.classLink (cnm.getD o "") i (cnm.getD a "") ∈ TBL := by
  have h1 := CL_ok _ h
  have e : clW (o, i, a) = Cond.classLink (cnm.getD o "") i (cnm.getD a "") := by
    unfold clW
    rw [if_neg (show ¬ (o, i, a).2.2 = 90 by show ¬ a = 90; omega), if_neg (show ¬ (o, i, a).2.2 = 91 by show ¬ a = 91; omega)]
  rw [e] at h1
  exact TBL_of ⟨h1.1, rfl⟩
theorem p_iald_i {S : Nat × (Nat → Int32)} {h : PH} {st : List Value} {k : List Value → Prop} (H : p_iald S h st k) : (∃ i a r n g, st = .int i :: .ref a :: r ∧ h[a]? = some (.inl (0, n, .inl g)) ∧ vp_in i n ∧ k (.int (g i.toNatClampNeg) :: r)) ∨ (∃ i a r, st = .int i :: .retAddr a :: r ∧ vp_in i S.1 ∧ k (.int (S.2 i.toNatClampNeg) :: r)) := by
  unfold p_iald at H
  split at H
  · split at H
    · exact Or.inl ⟨_, _, _, _, _, rfl, ‹_›, H.1, H.2⟩
    · exact H.elim
  · exact Or.inr ⟨_, _, _, rfl, H.1, H.2⟩
  · exact H.elim
theorem p_iast_i {h : PH} {st : List Value} {k : List Value → PH → Prop} (H : p_iast h st k) : ∃ x i a r n g, st = .int x :: .int i :: .ref a :: r ∧ h[a]? = some (.inl (0, n, .inl g)) ∧ vp_in i n ∧ k r (h.set a (.inl (0, n, .inl (upd g i.toNatClampNeg x)))) := by
  unfold p_iast at H
  split at H
  · split at H
    · exact ⟨_, _, _, _, _, _, rfl, ‹_›, H.1, H.2⟩
    · exact H.elim
  · exact H.elim
theorem p_lald_i {h : PH} {st : List Value} {k : List Value → Prop} (H : p_lald h st k) : ∃ i a r n g, st = .int i :: .ref a :: r ∧ h[a]? = some (.inl (1, n, .inr (.inl g))) ∧ vp_in i n ∧ k (.long (g i.toNatClampNeg) :: r) := by
  unfold p_lald at H
  split at H
  · split at H
    · exact ⟨_, _, _, _, _, rfl, ‹_›, H.1, H.2⟩
    · exact H.elim
  · exact H.elim
theorem p_last_i {h : PH} {st : List Value} {k : List Value → PH → Prop} (H : p_last h st k) : ∃ x i a r n g, st = .long x :: .int i :: .ref a :: r ∧ h[a]? = some (.inl (1, n, .inr (.inl g))) ∧ vp_in i n ∧ k r (h.set a (.inl (1, n, .inr (.inl (vp_updL g i.toNatClampNeg x))))) := by
  unfold p_last at H
  split at H
  · split at H
    · exact ⟨_, _, _, _, _, _, rfl, ‹_›, H.1, H.2⟩
    · exact H.elim
  · exact H.elim
theorem p_aald_i {h : PH} {st : List Value} {k : List Value → Prop} (H : p_aald h st k) : ∃ i a r t n g q, st = .int i :: .ref a :: r ∧ h[a]? = some (.inl (t, n, .inr (.inr (.inr (.inr g))))) ∧ (t = 2 ∨ t = 3) ∧ vp_in i n ∧ g i.toNatClampNeg = some q ∧ k (.ref q :: r) := by
  unfold p_aald at H
  split at H
  · split at H
    · obtain ⟨h1, h2, q, h3, h4⟩ := H
      exact ⟨_, _, _, _, _, _, q, rfl, ‹_›, h1, h2, h3, h4⟩
    · exact H.elim
  · exact H.elim
theorem p_aast_i {h : PH} {st : List Value} {k : List Value → PH → Prop} (H : p_aast h st k) : ∃ v i a r n g fs, st = .ref v :: .int i :: .ref a :: r ∧ h[a]? = some (.inl (2, n, .inr (.inr (.inr (.inr g))))) ∧ h[v]? = some (.inr (1, fs)) ∧ vp_in i n ∧ k r (h.set a (.inl (2, n, .inr (.inr (.inr (.inr (va_up g i.toNatClampNeg (some v)))))))) := by
  unfold p_aast at H
  split at H
  · split at H
    · exact ⟨_, _, _, _, _, _, _, rfl, ‹_›, ‹_›, H.1, H.2⟩
    · exact H.elim
  · exact H.elim
theorem p_alen_i {S : Nat × (Nat → Int32)} {h : PH} {st : List Value} {k : List Value → Prop} (H : p_alen S h st k) : (∃ a r t x, st = .ref a :: r ∧ h[a]? = some (.inl (t, x)) ∧ t < 4 ∧ k (.int (Int32.ofNat x.1) :: r)) ∨ (∃ a r, st = .retAddr a :: r ∧ k (.int (Int32.ofNat S.1) :: r)) := by
  unfold p_alen at H
  split at H
  · split at H
    · exact Or.inl ⟨_, _, _, _, rfl, ‹_›, H.1, H.2⟩
    · exact H.elim
  · exact Or.inr ⟨_, _, rfl, H⟩
  · exact H.elim
theorem p_get_i {h : PH} {ci f : Nat} {st : List Value} {k : List Value → Prop} (H : p_get h ci f st k) : ∃ a r fs v, st = .ref a :: r ∧ h[a]? = some (.inr (ci, fs)) ∧ f < fnum ci ∧ fs[f]? = some v ∧ k (v :: r) := by
  unfold p_get at H
  split at H
  · split at H
    · obtain ⟨rfl, h2, v, h3, h4⟩ := H
      exact ⟨_, _, _, v, rfl, ‹_›, h2, h3, h4⟩
    · exact H.elim
  · exact H.elim
theorem p_put_i {h : PH} {ci f : Nat} {st : List Value} {k : List Value → PH → Prop} (H : p_put h ci f st k) : ∃ v a r fs, st = v :: .ref a :: r ∧ h[a]? = some (.inr (ci, fs)) ∧ f < fnum ci ∧ f < fs.length ∧ narrow (ftyX ci f) v = v ∧ fits (ftyX ci f) v = true ∧ k r (h.set a (.inr (ci, fs.set f v))) := by
  unfold p_put at H
  split at H
  · split at H
    · obtain ⟨rfl, h2, h3, h4, h5, h6⟩ := H
      exact ⟨_, _, _, _, rfl, ‹_›, h2, h3, h4, h5, h6⟩
    · exact H.elim
  · exact H.elim
theorem p_copy_i {h : PH} {st : List Value} {k : List Value → PH → Prop} (H : p_copy h st k) : ∃ n dp a1 sp a0 r n0 f n1 g, st = .int n :: .int dp :: .ref a1 :: .int sp :: .ref a0 :: r ∧ h[a0]? = some (.inl (0, n0, .inl f)) ∧ h[a1]? = some (.inl (0, n1, .inl g)) ∧ ¬ sp < 0 ∧ ¬ dp < 0 ∧ ¬ n < 0 ∧ sp.toNatClampNeg + n.toNatClampNeg ≤ n0 ∧ dp.toNatClampNeg + n.toNatClampNeg ≤ n1 ∧ k r (h.set a1 (.inl (0, n1, .inl (va_cpy f g sp.toNatClampNeg dp.toNatClampNeg n.toNatClampNeg)))) := by
  unfold p_copy at H
  split at H
  · split at H
    · obtain ⟨h1, h2, h3, h4, h5, h6⟩ := H
      exact ⟨_, _, _, _, _, _, _, _, _, _, rfl, ‹_›, ‹_›, h1, h2, h3, h4, h5, h6⟩
    · exact H.elim
  · exact H.elim
theorem p_new2_i {h : PH} {st : List Value} {k : List Value → PH → Nat → Nat → Prop} (H : p_new2 h st k) : ∃ m n r, st = .int m :: .int n :: r ∧ ¬ n < 0 ∧ ¬ m < 0 ∧ n.toNatClampNeg ≤ 1000 ∧ m.toNatClampNeg ≤ 1000 ∧
      k (.ref h.length :: r) ((h ++ [.inl (3, n.toNatClampNeg, .inr (.inr (.inr (.inr (fun i => if i < n.toNatClampNeg then some (h.length + 1 + i) else none)))))]) ++ List.replicate n.toNatClampNeg (.inl (0, m.toNatClampNeg, .inl (fun _ => 0)))) (1 + n.toNatClampNeg) (n.toNatClampNeg + n.toNatClampNeg * m.toNatClampNeg) := by
  unfold p_new2 at H
  split at H
  · exact ⟨_, _, _, rfl, H⟩
  · exact H.elim
theorem p_call_i {C : Nat → List Value → PH → (Rs → PH → Prop) → Prop} {M : PM} {hd : List (Nat × Nat × Nat × Int)} {Q : Rs → PH → Prop} {K : Kt} {pc μ : Nat} {virt : Bool} {lv : LV} {st : List Value} {h : PH} {c s : Nat} (H : p_call C M hd Q K pc μ virt lv st h c s) : ∃ N, MT[μ]? = some N ∧ pN N ≤ st.length ∧ ((st.drop (pN N)).map Value.category).sum ≤ 8 ∧ c + pC N ≤ pC M ∧ s + pS N ≤ pS M ∧
      (virt = true → ∃ a fs, (st.take (pN N)).getLast? = some (.ref a) ∧ h[a]? = some (.inr (pO N, fs))) ∧
      C μ (st.take (pN N)).reverse h (p_back M hd Q K pc lv (st.drop (pN N)) (c + pC N) (s + pS N)) := by
  unfold p_call at H
  split at H
  · exact H.elim
  · exact ⟨_, ‹_›, H⟩
theorem nf_of {ρ : List Nat} {b : Option Nat} {v w : Value} {ty : FieldType} (h : rv ρ b v w) (h1 : narrow ty v = v) (h2 : fits ty v = true) : narrow ty w = w ∧ fits ty w = true := by
  cases v with
  | ref i =>
    obtain ⟨a, -, rfl⟩ := h
    cases ty <;> simp_all [fits, narrow]
  | retAddr i => cases ty <;> simp [fits] at h2
  | _ => rw [show w = _ from h]; exact ⟨h1, h2⟩
theorem rv_dflt {ρ : List Nat} {b : Option Nat} (ty : FieldType) : rv ρ b (defaultValue ty) (defaultValue ty) := by cases ty <;> rfl
theorem A2_refl {ρ : List Nat} {b : Option Nat} : ∀ {l : List Value}, (∀ v ∈ l, rv ρ b v v) → A2 (rv ρ b) l l
  | [], _ => rfl
  | a :: as, h => ⟨a, as, rfl, h a List.mem_cons_self, A2_refl (fun v hv => h v (List.mem_cons_of_mem _ hv))⟩
theorem dflt_rv {ρ : List Nat} {b : Option Nat} (ci : Nat) : A2 (rv ρ b) (dflt ci) (dflt ci) := A2_refl fun v hv => by
  obtain ⟨j, -, rfl⟩ := List.mem_map.mp hv
  exact rv_dflt _
theorem dflt_V (ci : Nat) {j : Nat} (hj : j < fnum ci) : defaultValue (ftyX ci j) = vp_V (dflt ci) j := by
  unfold vp_V dflt
  simp [List.getD, hj]
