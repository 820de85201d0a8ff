/-! the run with unknown arguments, whole -/
def tInc : List TE → Bool
  | [] => true
  | [_] => true
  | a :: b :: r => decide (a.1 < b.1) && tInc (b :: r)
theorem tInc.lt {a : TE} : ∀ {r : List TE}, tInc (a :: r) = true → ∀ e ∈ r, a.1 < e.1
  | [], _, e, h => by cases h
  | b :: r, h, e, he => by
    simp only [tInc, Bool.and_eq_true, decide_eq_true_eq] at h
    rcases List.mem_cons.mp he with rfl | h2
    · exact h.1
    · exact Nat.lt_trans h.1 (tInc.lt h.2 e h2)
theorem tInc.tail {a : TE} : ∀ {r : List TE}, tInc (a :: r) = true → tInc r = true
  | [], _ => rfl
  | b :: r, h => by simp only [tInc, Bool.and_eq_true] at h; exact h.2
theorem tInc.find : ∀ {l : List TE} {e : TE}, tInc l = true → e ∈ l → l.find? (fun q => q.1 == e.1) = some e
  | a :: r, e, h, he => by
    rcases List.mem_cons.mp he with rfl | h2
    · simp
    · have h3 := tInc.lt h e h2
      rw [List.find?_cons_of_neg (by simp; omega)]
      exact tInc.find (tInc.tail h) h2
theorem fnd_ok {pc : Nat} : ∀ {l : List TE} {e : TE} {r : List TE}, fnd pc l = some (e, r) → e ∈ l ∧ e.1 = pc ∧ ∀ x ∈ r, x ∈ l
  | [], _, _, h => by cases h
  | a :: l, e, r, h => by
    unfold fnd at h
    split at h
    · rename_i h1
      cases h
      exact ⟨List.mem_cons_self, by simpa using h1, fun x hx => List.mem_cons_of_mem _ hx⟩
    · obtain ⟨h1, h2, h3⟩ := fnd_ok h
      exact ⟨List.mem_cons_of_mem _ h1, h2, fun x hx => List.mem_cons_of_mem _ (h3 x hx)⟩
theorem fetch_ok {tab : List TE} {pc : Nat} {rest : List TE} {e : TE} {r : List TE} (hs : ∀ x ∈ rest, x ∈ tab) (h : fetch tab pc rest = some (e, r)) : e ∈ tab ∧ e.1 = pc ∧ ∀ x ∈ r, x ∈ tab := by
  unfold fetch at h
  split at h
  · split at h
    · rename_i h1
      cases h
      exact ⟨hs _ List.mem_cons_self, by simpa using h1, fun x hx => hs x (List.mem_cons_of_mem _ hx)⟩
    · exact fnd_ok h
  · exact fnd_ok h
theorem flatO_ok {α β : Type} {f : α → Option (List β)} : ∀ {l : List α} {m : List β}, flatO f l = some m → ∀ a ∈ l, ∃ x, f a = some x ∧ ∀ y ∈ x, y ∈ m
  | [], _, _, a, h => by cases h
  | b :: l, m, h, a, ha => by
    unfold flatO at h
    split at h
    · cases h
    · rename_i x hx
      split at h
      · cases h
      · rename_i m2 hm2
        cases h
        rcases List.mem_cons.mp ha with rfl | ha
        · exact ⟨x, hx, fun y hy => List.mem_append_left _ hy⟩
        · obtain ⟨z, h1, h2⟩ := flatO_ok hm2 a ha
          exact ⟨z, h1, fun y hy => List.mem_append_right _ (h2 y hy)⟩
def mlOK (θ : Nat → Int32) (C : Nat → List Value → PH → (Rs → PH → Prop) → Prop) (S : Nat × (Nat → Int32)) (M : PM) (hd : List (Nat × Nat × Nat × Int)) (ml : MF) : Prop :=
  ∀ (Q : Rs → PH → Prop) (pc : Nat) (env : EV) (lv : AL) (st : List AV) (h : AH) (pc2 : Nat) (lv2 : AL) (st2 : List AV) (h2 : AH) (c s : Nat), mGet ml pc env lv st h = some (pc2, lv2, st2, h2) → eR θ env →
    ∀ lv' st' h', A2 (qR θ) lv lv' → A2 (vR θ) st st' → A2 (cR θ) h h' → (∀ lv2' st2' h2', A2 (qR θ) lv2 lv2' → A2 (vR θ) st2 st2' → A2 (cR θ) h2 h2' → Vx C S M hd Q pc2 lv2' st2' h2' c s) → Vx C S M hd Q pc lv' st' h' c s
def calOK (θ : Nat → Int32) (C : Nat → List Value → PH → (Rs → PH → Prop) → Prop) (cal : Nat → List AV → AH → EV → Option (List AO)) : Prop :=
  ∀ μ args h env outs, cal μ args h env = some outs → eR θ env → ∀ args' h', A2 (vR θ) args args' → A2 (cR θ) h h' → C μ args' h' (fun r h2 => ∃ o ∈ outs, oR θ o r h2)
theorem aRecv_R {θ : Nat → Int32} {virt : Bool} {l : List AV} {l' : List Value} {o : Nat} {h : AH} {h' : PH} (hl : A2 (vR θ) l l') (hh : A2 (cR θ) h h') (H : aRecv virt l o h = true) : virt = true → ∃ a fs, l'.getLast? = some (.ref a) ∧ h'[a]? = some (.inr (o, fs)) := by
  intro hv
  subst hv
  simp only [aRecv, Bool.not_true, Bool.false_or] at H
  split at H
  · rename_i a ha
    have hr := hl.rev
    rw [List.getLast?_eq_head?_reverse] at ha ⊢
    split at H
    · rename_i cj fs hc
      obtain ⟨y, hy, hcy⟩ := hh.get hc
      obtain ⟨gs, rfl, -⟩ := c_o hcy
      have e : cj = o := by simpa using H
      subst e
      refine ⟨a, gs, ?_, hy⟩
      cases hrev : l.reverse with
      | nil => rw [hrev] at ha; cases ha
      | cons x xs =>
        rw [hrev] at ha hr
        cases ha
        obtain ⟨r', e2, -⟩ := s_val hr
        rw [e2]
        rfl
    · cases H
  · cases H
section ASO
variable {θ : Nat → Int32} {C : Nat → List Value → PH → (Rs → PH → Prop) → Prop} {S : Nat × (Nat → Int32)} {M : PM} {hd : List (Nat × Nat × Nat × Int)} {sp : Bool} {L : Nat} {ml : MF} {cal : Nat → List AV → AH → EV → Option (List AO)}
theorem aB_ok (hS : S = (L, θ)) (hC : Cmono C) (ht : tInc (pT M) = true) (hml : mlOK θ C S M hd ml) (hcal : calOK θ C cal) : ∀ (k : Nat) (env : EV) (pc : Nat) (rest : List TE) (lv : AL) (st : List AV) (h : AH) (c s : Nat) (outs : List AO), aB sp ml L cal M hd k env pc rest lv st h c s = some outs → (∀ x ∈ rest, x ∈ pT M) → eR θ env → ∀ lv' st' h', A2 (qR θ) lv lv' → A2 (vR θ) st st' → A2 (cR θ) h h' → Vx C S M hd (fun r h2 => ∃ o ∈ outs, oR θ o r h2) pc lv' st' h' c s := by
  intro k
  induction k with
  | zero => intro env pc rest lv st h c s outs H; cases H
  | succ k ih =>
    intro env pc rest lv st h c s outs H hrest he lv' st' h' hlv hst hh
    rw [aB] at H
    split at H
    · rename_i pc2 lv2 st2 h2 hm
      exact hml _ _ _ _ _ _ _ _ _ _ _ _ hm he lv' st' h' hlv hst hh (fun a b d h1 h2 h3 => ih _ _ _ _ _ _ _ _ _ H hrest he _ _ _ h1 h2 h3)
    · split at H
      · cases H
      · rename_i te r hf
        obtain ⟨hte, hpc, hr⟩ := fetch_ok hrest hf
        subst hpc
        have hfind := tInc.find ht hte
        have hte2 : ∀ x ∈ te :: r, x ∈ pT M := fun x hx => by rcases List.mem_cons.mp hx with rfl | hx; exact hte; exact hr x hx
        have hI := fun K => aI_ok (C := C) (M := M) (hd := hd) (Q := fun r h2 => ∃ o ∈ outs, oR θ o r h2) (K := K) (te := te) (c := c) (s := s) (sp := sp) hS he hlv hst hh
        split at H
        · cases H
        · rename_i envs ha
          have h1 := hI (fun _ _ _ _ _ _ => True)
          rw [ha] at h1
          obtain ⟨env', hm, he'⟩ := h1
          obtain ⟨x, h2, h3⟩ := flatO_ok H env' hm
          exact Vx.mono hC (fun r h ⟨o, ho, q⟩ => ⟨o, h3 o ho, q⟩) (ih _ _ _ _ _ _ _ _ _ h2 hte2 he' _ _ _ hlv hst hh)
        · rename_i pc2 lv2 st2 h2 c2 s2 ha
          refine Vx.go hC hfind ?_
          have h1 := hI (Vx C S M hd (fun r h2 => ∃ o ∈ outs, oR θ o r h2))
          rw [ha] at h1
          exact h1 (fun a b d q1 q2 q3 => ih _ _ _ _ _ _ _ _ _ H hr he _ _ _ q1 q2 q3)
        · rename_i μ virt ha
          refine Vx.go hC hfind ?_
          have h1 := hI (Vx C S M hd (fun r h2 => ∃ o ∈ outs, oR θ o r h2))
          rw [ha] at h1
          refine h1 ?_
          split at H
          · cases H
          · rename_i N hN
            split at H
            · rename_i hg
              obtain ⟨g1, g2, g3, g4, g5⟩ := hg
              split at H
              · cases H
              · rename_i outs2 ho2
                unfold p_call
                simp only [hN]
                have hargs := (hst.take (pN N)).rev
                refine ⟨by rw [hst.len]; exact g1, by rw [(hst.drop (pN N)).acats]; exact g2, g3, g4, aRecv_R (hst.take (pN N)) hh g5, ?_⟩
                refine hC _ _ _ _ _ ?_ (hcal _ _ _ _ _ ho2 he _ _ hargs hh)
                intro r h2 ⟨o, hom, ho⟩
                obtain ⟨oe, ores, oh⟩ := o
                obtain ⟨e1, e2, e3⟩ := ho
                obtain ⟨x, hx, hsub⟩ := flatO_ok H _ hom
                cases ores with
                | inl v =>
                  cases r with
                  | inr e => exact e2.elim
                  | inl w => exact Vx.mono hC (fun r h ⟨o, ho, q⟩ => ⟨o, hsub o ho, q⟩) (ih _ _ _ _ _ _ _ _ _ hx hr e1 _ _ _ hlv (A2.app (hst.drop (pN N)) e2) e3)
                | inr e' =>
                  cases r with
                  | inl w => exact e2.elim
                  | inr e =>
                    cases (show e = e' from e2)
                    cases hx
                    have hmem := hsub _ List.mem_cons_self
                    unfold p_back
                    simp only
                    split
                    · rename_i z hz
                      refine ⟨_, hmem, e1, ?_, e3⟩
                      simp only [aBack, hz]
                      exact A2.one (vR_K _)
                    · rename_i hz
                      refine ⟨_, hmem, e1, ?_, e3⟩
                      simp only [aBack, hz]
                      exact rfl
            · cases H
        · rename_i res ha
          refine Vx.go hC hfind ?_
          have h1 := hI (Vx C S M hd (fun r h2 => ∃ o ∈ outs, oR θ o r h2))
          rw [ha] at h1
          cases H
          exact h1 (fun r hres => ⟨_, List.mem_cons_self, he, hres, hh⟩)
end ASO
def cmOK (θ : Nat → Int32) (S : Nat × (Nat → Int32)) (cm : Nat → List AV → AH → Option (List ((Option AV ⊕ Nat) × AH))) : Prop := ∀ n μ args h outs, cm μ args h = some outs → ∀ args' h', A2 (vR θ) args args' → A2 (cR θ) h h' → Ex S (n + 1) μ args' h' (fun r h2 => ∃ o ∈ outs, resR θ o.1 r ∧ A2 (cR θ) o.2 h2)
theorem aEx_ok {θ : Nat → Int32} {S : Nat × (Nat → Int32)} {sp : Bool} {L fuel : Nat} {mac : Nat → MF} {cm : Nat → List AV → AH → Option (List ((Option AV ⊕ Nat) × AH))} (hS : S = (L, θ)) (htab : ∀ (μ : Nat) (M : PM), MT[μ]? = some M → tInc (pT M) = true) (hmac : ∀ (n μ : Nat) (M : PM), MT[μ]? = some M → mlOK θ (Ex S n) S M (if pK M = 3 then hdOf μ else []) (mac μ)) (hcm : cmOK θ S cm) : ∀ n, calOK θ (Ex S n) (aEx sp mac cm L fuel n) := by
  intro n
  induction n with
  | zero => intro μ args h env outs H; cases H
  | succ n ih =>
    intro μ args h env outs H he args' h' ha hh
    rw [aEx] at H
    split at H
    · rename_i outs2 hc
      cases H
      refine Ex.mono S _ _ _ _ _ _ ?_ (hcm n _ _ _ _ hc _ _ ha hh)
      intro r h2 ⟨o, ho, q1, q2⟩
      exact ⟨(env, o), List.mem_map_of_mem ho, he, q1, q2⟩
    · split at H
      · cases H
      · rename_i M hM
        split at H
        · rename_i hg
          refine ⟨M, hM, by rw [ha.acats]; exact hg, ?_⟩
          exact aB_ok hS (Ex.mono S n) (htab _ _ hM) (hmac n _ _ hM) ih _ _ _ _ _ _ _ _ _ _ H (fun x hx => hx) he _ _ _ (aArgs_R 0 ha) rfl hh
        · cases H
