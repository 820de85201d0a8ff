/-! a table of functions is that of a method -/
noncomputable def mkM (ml : List (Nat × MAF)) (te : TE) : Nat × OPF := (te.1, match ml.find? (fun q => q.1 == te.1) with
  | some q => o_mac q.2 (mkO te)
  | none => mkO te)
def EOK (θ : Nat → Int32) (L μ : Nat) (N : MEn) : Prop := MT[μ]? = some N.1 ∧ N.2.1 = (if pK N.1 = 3 then hdOf μ else []) ∧ (∀ v ∈ N.2.2.1, v = aU) ∧ pN N.1 ≤ pL N.1 ∧ ∀ (n : Nat) (Q : Rs → PH → Prop), ∀ e ∈ N.2.2.2, SOK θ L (Ex (L, θ) (n + 4)) N.1 N.2.1 Q e.1 e.2
theorem SOK.tab {θ : Nat → Int32} {L : Nat} {C : Nat → List Value → PH → (Rs → PH → Prop) → Prop} {M : PM} {hd : HD4} {Q : Rs → PH → Prop} {ml : List (Nat × MAF)} (hC : Cmono C) (ht : tInc (pT M) = true) (hml : ∀ q ∈ ml, MOK θ L C M hd Q q.1 q.2) {te : TE} (hte : te ∈ pT M) : SOK θ L C M hd Q (mkM ml te).1 (mkM ml te).2 := by
  have hf := tInc.find ht hte
  have h0 : SOK θ L C M hd Q te.1 (mkO te) := SOK.of hC hf
  unfold mkM
  dsimp only
  split
  · rename_i q hq
    have h1 := hml q (List.mem_of_find?_eq_some hq)
    have h2 : q.1 = te.1 := by have h3 := List.find?_some hq; simpa using h3
    rw [h2] at h1
    exact SOK.mac h1 h0
  · exact h0
theorem EOK.of {θ : Nat → Int32} {L μ : Nat} {M : PM} {hd : HD4} {pad : LW} {T : List (Nat × OPF)} {ml : List (Nat × MAF)} (h1 : MT[μ]? = some M) (h2 : hd = if pK M = 3 then hdOf μ else []) (h3 : pad.all isU = true) (h4 : Nat.ble (pN M) (pL M) = true) (hT : T = (pT M).map (mkM ml)) (ht : tInc (pT M) = true) (hml : ∀ (n : Nat) (Q : Rs → PH → Prop), ∀ q ∈ ml, MOK θ L (Ex (L, θ) (n + 4)) M hd Q q.1 q.2) : EOK θ L μ (M, hd, pad, T) := by
  refine ⟨h1, h2, fun v hv => isU_ok (List.all_eq_true.mp h3 v hv), Nat.le_of_ble_eq_true h4, fun n Q e he => ?_⟩
  have he : e ∈ T := he
  rw [hT] at he
  obtain ⟨te, h5, rfl⟩ := List.mem_map.mp he
  exact SOK.tab (Ex.mono _ _) ht (hml n Q) h5
def ROKa (θ : Nat → Int32) (L : Nat) : Nat → List MEn → Prop
  | _, [] => True
  | k, N :: l => (N.2.2.2 = [] ∨ EOK θ L k N) ∧ ROKa θ L (k + 1) l
theorem ROKa.get {θ : Nat → Int32} {L : Nat} : ∀ {l : List MEn} {k j : Nat} {N : MEn}, ROKa θ L k l → l[j]? = some N → N.2.2.2 = [] ∨ EOK θ L (k + j) N
  | [], k, j, N, _, h => by simp at h
  | M :: l, k, 0, N, h, hN => by simp at hN; subst hN; exact h.1
  | M :: l, k, j + 1, N, h, hN => by
    have := ROKa.get h.2 (show l[j]? = some N by simpa using hN)
    rwa [show k + 1 + j = k + (j + 1) by omega] at this
def RRa (θ : Nat → Int32) (L : Nat) : Nat → List (List MEn) → Prop
  | _, [] => True
  | r, l :: rs => ROKa θ L (20 * r) l ∧ RRa θ L (r + 1) rs
theorem RRa.get {θ : Nat → Int32} {L : Nat} : ∀ {rs : List (List MEn)} {r j : Nat} {l : List MEn}, RRa θ L r rs → rs[j]? = some l → ROKa θ L (20 * (r + j)) l
  | [], r, j, l, _, h => by simp at h
  | x :: rs, r, 0, l, h, hl => by simp at hl; subst hl; exact h.1
  | x :: rs, r, j + 1, l, h, hl => by
    have := RRa.get h.2 (show rs[j]? = some l by simpa using hl)
    rwa [show r + 1 + j = r + (j + 1) by omega] at this
theorem mtOK_of {θ : Nat → Int32} {L : Nat} {mt : List (List MEn)} (h : RRa θ L 0 mt) : mtOK θ L mt := by
  intro μ N hN
  unfold mget at hN
  rw [lget_eq] at hN
  split at hN
  · rename_i r hr
    rw [lget_eq] at hN
    have h1 := (RRa.get h hr).get hN
    have e : 20 * (0 + μ.div 20) + μ.mod 20 = μ := by
      have := Nat.div_add_mod μ 20
      show 20 * (0 + μ / 20) + μ % 20 = μ
      omega
    rw [e] at h1
    exact h1
  · cases hN
