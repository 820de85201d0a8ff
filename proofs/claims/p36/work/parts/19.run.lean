/-! the run of the quick evaluator, whole -/
def RTOK (θ : Nat → Int32) (ret : RT) (Q : Rs → PH → Prop) : Prop := ∀ env q m h, ret env q m h = true → eR θ env → ∀ r h', resR θ q r → hR θ m h h' → Q r h'
def SOK (θ : Nat → Int32) (L : Nat) (C : Nat → List Value → PH → (Rs → PH → Prop) → Prop) (M : PM) (hd : HD4) (Q : Rs → PH → Prop) (pc : Nat) (f : OPF) : Prop :=
  ∀ (env : EV) (lv st : LW) (m : Nat) (h : HT) (c s : Nat) (go : GO) (cut : List EV → Bool) (call : Nat → Bool → Bool) (ret : AQ → Bool) (lv' : LV) (st' : List Value) (h' : PH),
    eR θ env → lR θ lv lv' → A2 (vR θ) st st' → hR θ m h h' →
    (∀ pc2 lv2 st2 m2 h2 c2 s2, go pc2 lv2 st2 m2 h2 c2 s2 = true → ∀ lv2' st2' h2', lR θ lv2 lv2' → A2 (vR θ) st2 st2' → hR θ m2 h2 h2' → Vx C (L, θ) M hd Q pc2 lv2' st2' h2' c2 s2) →
    (∀ μ virt, call μ virt = true → p_call C M hd Q (Vx C (L, θ) M hd Q) pc μ virt lv' st' h' c s) →
    (∀ q, ret q = true → ∀ r, resR θ q r → Q r h') →
    f (L, M, hd) env lv st m h c s go cut call ret = true →
    CUT θ cut ∨ Vx C (L, θ) M hd Q pc lv' st' h' c s
theorem SOK.of {θ : Nat → Int32} {L : Nat} {C : Nat → List Value → PH → (Rs → PH → Prop) → Prop} {M : PM} {hd : HD4} {Q : Rs → PH → Prop} (hC : Cmono C) {te : TE} (hf : (pT M).find? (fun e => e.1 == te.1) = some te) : SOK θ L C M hd Q te.1 (mkO te) := by
  intro env lv st m h c s go cut call ret lv' st' h' he hlv hst hh hgo hcall hret H
  rcases mkO_ok (K := Vx C (L, θ) M hd Q) te env lv st m h c s go cut call ret lv' st' h' he hlv hst hh hgo hcall hret H with q | q
  · exact Or.inl q
  · exact Or.inr (Vx.go hC hf q)
def calOK (θ : Nat → Int32) (C : Nat → List Value → PH → (Rs → PH → Prop) → Prop) (mt : List (List MEn)) (cal : CAL) : Prop :=
  ∀ μ N env args m h ret, mget mt μ = some N → cal μ N env args m h ret = true → MT[μ]? = some N.1 ∧ (∀ v ∈ N.2.2.1, v = aU) ∧
    ∀ (Q : Rs → PH → Prop) (args' : List Value) (h' : PH), eR θ env → lR θ args (lv_args 0 args') → (args'.map Value.category).sum = pN N.1 → hR θ m h h' → RTOK θ ret Q → C μ args' h' Q
theorem ffnd_ok {pc : Nat} {k : OPF → List (Nat × OPF) → Bool} {no : Bool} : ∀ {l : List (Nat × OPF)}, ffnd pc l k no = true → (∃ f r, (pc, f) ∈ l ∧ (∀ x ∈ r, x ∈ l) ∧ k f r = true) ∨ no = true
  | [], h => Or.inr h
  | e :: l, h => by
    have h1 : (Bool.rec (ffnd pc l k no) (k e.2 l) (Nat.beq e.1 pc) : Bool) = true := h
    cases hb : Nat.beq e.1 pc with
    | true =>
      rw [hb] at h1
      refine Or.inl ⟨e.2, l, ?_, fun x hx => List.mem_cons_of_mem _ hx, h1⟩
      rw [← beq_iff.mp hb]; exact List.mem_cons_self
    | false =>
      rw [hb] at h1
      rcases ffnd_ok (show ffnd pc l k no = true from h1) with ⟨f, r, q1, q2, q3⟩ | q
      · exact Or.inl ⟨f, r, List.mem_cons_of_mem _ q1, fun x hx => List.mem_cons_of_mem _ (q2 x hx), q3⟩
      · exact Or.inr q
theorem lAll_ok {f : EV → Bool} : ∀ {l : List EV}, lAll f l = true → ∀ e ∈ l, f e = true
  | [], _, e, he => by cases he
  | a :: l, h, e, he => by
    have h1 : (Bool.rec false (lAll f l) (f a) : Bool) = true := h
    cases hb : f a with
    | true =>
      rw [hb] at h1
      rcases List.mem_cons.mp he with rfl | he
      · exact hb
      · exact lAll_ok (show lAll f l = true from h1) e he
    | false => rw [hb] at h1; cases (show false = true from h1)
theorem tkr_ok : ∀ {n : Nat} {st acc : LW} {k : LW → LW → Bool}, tkr n st acc k = true → n ≤ st.length ∧ (∀ x ∈ st.take n, w1 x = true) ∧ k ((st.take n).reverse ++ acc) (st.drop n) = true
  | 0, st, acc, k, h => ⟨Nat.zero_le _, by intro x hx; simp at hx, by have h : k acc st = true := h; simpa using h⟩
  | n + 1, [], acc, k, h => by cases (show false = true from h)
  | n + 1, x :: r, acc, k, h => by
    have h1 : (match w1 x with | true => tkr n r (x :: acc) k | false => false) = true := h
    split at h1
    · rename_i hw
      obtain ⟨g1, g2, g3⟩ := tkr_ok h1
      refine ⟨by simp; exact g1, fun y hy => ?_, ?_⟩
      · rw [List.take_succ_cons] at hy
        rcases List.mem_cons.mp hy with rfl | hy
        · exact hw
        · exact g2 y hy
      · rw [List.take_succ_cons, List.reverse_cons, List.append_assoc, List.drop_succ_cons]
        exact g3
    · cases h1
theorem pg_args : ∀ {l : List Value} {k i : Nat} {w : Value}, (∀ v ∈ l, v.category = 1) → l[i]? = some w → px_g (lv_args k l) (k + i) = some w
  | [], k, i, w, _, h => by simp at h
  | v :: l, k, 0, w, hc, h => by
    simp at h
    subst h
    simp [px_g, lv_args]
  | v :: l, k, i + 1, w, hc, h => by
    have h1 : l[i]? = some w := by simpa using h
    have ih := pg_args (k := k + 1) (fun u hu => hc u (List.mem_cons_of_mem _ hu)) h1
    have e : lv_args k (v :: l) = (k, v) :: lv_args (k + 1) l := by
      have := hc v List.mem_cons_self
      simp [lv_args, this]
    rw [e]
    simp only [px_g, List.find?] at ih ⊢
    rw [show (k == k + (i + 1)) = false by simp]
    rw [show k + (i + 1) = k + 1 + i by omega]
    exact ih
theorem A2.cat1 {θ : Nat → Int32} : ∀ {l : LW} {l' : List Value}, A2 (vR θ) l l' → (∀ x ∈ l, w1 x = true) → ∀ v ∈ l', v.category = 1
  | [], _, h, _, v, hv => by rw [show _ = [] from h] at hv; cases hv
  | a :: as, _, ⟨b, bs, e, q, t⟩, hw, v, hv => by
    subst e
    rcases List.mem_cons.mp hv with rfl | hv
    · exact w1_ok (hw a List.mem_cons_self) q
    · exact A2.cat1 t (fun x hx => hw x (List.mem_cons_of_mem _ hx)) v hv
theorem lR_args {θ : Nat → Int32} {l pad : LW} {l' : List Value} (h : A2 (vR θ) l l') (hw : ∀ x ∈ l, w1 x = true) (hp : ∀ v ∈ pad, v = aU) : lR θ (l ++ pad) (lv_args 0 l') := by
  have hc := h.cat1 hw
  intro i v hv
  rw [List.getElem?_append] at hv
  split at hv
  · obtain ⟨w, h1, h2⟩ := h.get hv
    refine Or.inr ⟨w, ?_, h2, hc w (List.mem_of_getElem? h1)⟩
    have := pg_args (k := 0) hc h1
    rwa [Nat.zero_add] at this
  · exact Or.inl (hp v (List.mem_of_getElem? hv))
theorem sum1 : ∀ {l : List Value}, (∀ v ∈ l, v.category = 1) → (l.map Value.category).sum = l.length
  | [], _ => rfl
  | v :: l, h => by rw [List.map_cons, List.sum_cons, h v List.mem_cons_self, sum1 (fun u hu => h u (List.mem_cons_of_mem _ hu)), List.length_cons]; omega
theorem wRecv_ok {θ : Nat → Int32} {virt : Bool} {o : Nat} {args : LW} {h : HT} {k : Bool} {m : Nat} {h' : PH} (hh : hR θ m h h') (H : wRecv virt o args h k = true) : k = true ∧ (virt = true → ∃ a r fs, args = .inr (.inr (.ref a)) :: r ∧ h'[a]? = some (.inr (o, fs))) := by
  unfold wRecv at H
  split at H
  · exact ⟨H, fun q => by cases q⟩
  · split at H
    · rename_i a r
      split at H
      · rename_i cj fs hl
        split at H
        · rename_i hb
          rw [beq_iff] at hb
          subst hb
          obtain ⟨y, hy, hc⟩ := hh.at hl (by intro q; cases q)
          obtain ⟨gs, rfl, -⟩ := c_o hc
          exact ⟨H, fun _ => ⟨a, r, gs, rfl, hy⟩⟩
        · cases H
      · cases H
    · cases H
theorem aB_succ (X : CX9) (T : List (Nat × OPF)) (mt : List (List MEn)) (cal : CAL) (ret : RT) (k : Nat) (env : EV) (pc : Nat) (rest : List (Nat × OPF)) (lv st : LW) (m : Nat) (h : HT) (c s : Nat) : aB X T mt cal ret (k + 1) env pc rest lv st m h c s = ffch pc T rest fun f r => f X env lv st m h c s (fun pc lv st m h c s => aB X T mt cal ret k env pc r lv st m h c s) (fun l => lAll (fun env => aB X T mt cal ret k env pc rest lv st m h c s) l)
      (fun μ virt => match mget mt μ with
        | some N => tkr (pN N.1) st N.2.2.1 fun args rst => (match Nat.ble (cats rst) 8 && (Nat.ble (c + pC N.1) (pC X.2.1) && Nat.ble (s + pS N.1) (pS X.2.1)) with
          | true => natF (c + pC N.1) fun c1 => natF (s + pS N.1) fun s1 => wRecv virt (pO N.1) args h (cal μ N env args m h (fun env q m h => match q with
            | .inl (some x) => aB X T mt cal ret k env (pc + 3) r lv (x :: rst) m h c1 s1
            | .inl none => aB X T mt cal ret k env (pc + 3) r lv rst m h c1 s1
            | .inr e => ret env (wBack X.2.2 pc e) m h))
          | false => false)
        | none => false)
      (fun q => ret env q m h) := rfl
theorem aB_ok {θ : Nat → Int32} {L : Nat} {C : Nat → List Value → PH → (Rs → PH → Prop) → Prop} {M : PM} {hd : HD4} {Q : Rs → PH → Prop} {T : List (Nat × OPF)} {mt : List (List MEn)} {cal : CAL} {ret : RT} (hC : Cmono C) (hT : ∀ e ∈ T, SOK θ L C M hd Q e.1 e.2) (hcal : calOK θ C mt cal) (hret : RTOK θ ret Q) : ∀ (k : Nat) (env : EV) (pc : Nat) (rest : List (Nat × OPF)) (lv st : LW) (m : Nat) (h : HT) (c s : Nat), aB (L, M, hd) T mt cal ret k env pc rest lv st m h c s = true → (∀ e ∈ rest, SOK θ L C M hd Q e.1 e.2) → eR θ env → ∀ lv' st' h', lR θ lv lv' → A2 (vR θ) st st' → hR θ m h h' → Vx C (L, θ) M hd Q pc lv' st' h' c s := by
  intro k
  induction k with
  | zero => intro env pc rest lv st m h c s H; cases (show false = true from H)
  | succ k ih =>
    intro env pc rest lv st m h c s H hrest he lv' st' h' hlv hst hh
    have key : ∃ f r, SOK θ L C M hd Q pc f ∧ (∀ e ∈ r, SOK θ L C M hd Q e.1 e.2) ∧ f (L, M, hd) env lv st m h c s (fun pc lv st m h c s => aB (L, M, hd) T mt cal ret k env pc r lv st m h c s) (fun l => lAll (fun env => aB (L, M, hd) T mt cal ret k env pc rest lv st m h c s) l)
      (fun μ virt => match mget mt μ with
        | some N => tkr (pN N.1) st N.2.2.1 fun args rst => (match Nat.ble (cats rst) 8 && (Nat.ble (c + pC N.1) (pC M) && Nat.ble (s + pS N.1) (pS M)) with
          | true => natF (c + pC N.1) fun c1 => natF (s + pS N.1) fun s1 => wRecv virt (pO N.1) args h (cal μ N env args m h (fun env q m h => match q with
            | .inl (some x) => aB (L, M, hd) T mt cal ret k env (pc + 3) r lv (x :: rst) m h c1 s1
            | .inl none => aB (L, M, hd) T mt cal ret k env (pc + 3) r lv rst m h c1 s1
            | .inr e => ret env (wBack hd pc e) m h))
          | false => false)
        | none => false)
      (fun q => ret env q m h) = true := by
      rw [aB_succ] at H
      unfold ffch at H
      rcases ffnd_ok H with ⟨f, r, q1, q2, q3⟩ | q
      · exact ⟨f, r, hrest _ q1, fun e he => hrest e (q2 e he), q3⟩
      · rcases ffnd_ok q with ⟨f, r, q1, q2, q3⟩ | q
        · exact ⟨f, r, hT _ q1, fun e he => hT e (q2 e he), q3⟩
        · cases q
    obtain ⟨f, r, hf, hr, H⟩ := key
    refine Or.elim (hf env lv st m h c s _ _ _ _ lv' st' h' he hlv hst hh (fun pc2 lv2 st2 m2 h2 c2 s2 H2 lv2' st2' h2' g1 g2 g3 => ih env pc2 r lv2 st2 m2 h2 c2 s2 H2 hr he lv2' st2' h2' g1 g2 g3) ?_ (fun q H2 r hres => hret env q m h H2 he r h' hres hh) H) (fun ⟨l, hl, e, hel, hee⟩ => ih e pc rest lv st m h c s (lAll_ok hl e hel) hrest hee lv' st' h' hlv hst hh) (fun q => q)
    · intro μ virt H2
      try dsimp only at H2
      split at H2
      · rename_i N hN
        obtain ⟨g1, g2, g3⟩ := tkr_ok H2
        try dsimp only at g3
        split at g3
        · rename_i hb
          rw [Bool.and_eq_true, Bool.and_eq_true, Nat.ble_eq, Nat.ble_eq, Nat.ble_eq] at hb
          obtain ⟨b1, b2, b3⟩ := hb
          have g4 := natF_ok (natF_ok g3)
          obtain ⟨g5, g6⟩ := wRecv_ok hh g4
          obtain ⟨hM, hpad, hcall⟩ := hcal μ N _ _ _ _ _ hN g5
          have hA := (hst.take (pN N.1)).rev
          have hw : ∀ x ∈ (st.take (pN N.1)).reverse, w1 x = true := fun x hx => g2 x (List.mem_reverse.mp hx)
          unfold p_call
          rw [hM]
          refine ⟨by rw [hst.len]; exact g1, by rw [cats_ok (hst.drop (pN N.1))]; exact b1, b2, b3, ?_, ?_⟩
          · intro hv
            obtain ⟨a, r2, fs, e1, e2⟩ := g6 hv
            refine ⟨a, fs, ?_, e2⟩
            rw [List.getLast?_eq_head?_reverse]
            cases hrev : (st.take (pN N.1)).reverse with
            | nil =>
              rw [hrev] at e1
              have := hpad _ (by rw [List.nil_append] at e1; rw [e1]; exact List.mem_cons_self)
              cases this
            | cons x xs =>
              rw [hrev] at e1 hA
              obtain ⟨w, ws, e3, e4, -⟩ := hA
              cases e1
              rw [e3]
              rw [show w = .ref a from e4]
              rfl
          · refine hcall _ _ _ he (lR_args hA hw hpad) ?_ hh ?_
            · rw [sum1 (hA.cat1 hw), List.length_reverse, List.length_take, hst.len]; omega
            · intro env2 q2 m2 h2 H3 he2 r2 h2' hres2 hh2
              unfold p_back
              rcases q2 with (_ | x) | e
              · rcases r2 with w | e2
                · have hnil : w.toList = [] := hres2
                  cases w with
                  | some w => cases hnil
                  | none => exact ih _ _ _ _ _ _ _ _ _ H3 hr he2 _ _ _ hlv (hst.drop (pN N.1)) hh2
                · exact hres2.elim
              · rcases r2 with w | e2
                · exact ih _ _ _ _ _ _ _ _ _ H3 hr he2 _ _ _ hlv (A2.app (hst.drop (pN N.1)) hres2) hh2
                · exact hres2.elim
              · rcases r2 with w | e2
                · exact hres2.elim
                · obtain rfl : e2 = e := hres2
                  have H4 : ret env2 (wBack hd pc e2) m2 h2 = true := H3
                  unfold wBack at H4
                  simp only
                  split at H4
                  · rename_i z hz
                    try rw [hz]
                    exact hret _ _ _ _ H4 he2 _ _ (A2.one (kK _)) hh2
                  · rename_i hz
                    try rw [hz]
                    exact hret _ _ _ _ H4 he2 _ _ rfl hh2
        · cases g3
      · cases H2
def mtOK (θ : Nat → Int32) (L : Nat) (mt : List (List MEn)) : Prop := ∀ μ N, mget mt μ = some N → N.2.2.2 = [] ∨ (MT[μ]? = some N.1 ∧ N.2.1 = (if pK N.1 = 3 then hdOf μ else []) ∧ (∀ v ∈ N.2.2.1, v = aU) ∧ pN N.1 ≤ pL N.1 ∧ ∀ (n : Nat) (Q : Rs → PH → Prop), ∀ e ∈ N.2.2.2, SOK θ L (Ex (L, θ) (n + 4)) N.1 N.2.1 Q e.1 e.2)
theorem aM_ok {θ : Nat → Int32} {L fuel : Nat} {mt : List (List MEn)} (hmt : mtOK θ L mt) : ∀ n, calOK θ (Ex (L, θ) (n + 4)) mt (aM L fuel mt n) := by
  intro n
  induction n with
  | zero => intro μ N env args m h ret hN H; cases (show false = true from H)
  | succ n ih =>
    intro μ N env args m h ret hN H
    have H : aB (L, N.1, N.2.1) N.2.2.2 mt (aM L fuel mt n) ret fuel env 0 N.2.2.2 args [] m h 0 0 = true := H
    rcases hmt μ N hN with q | ⟨h1, h2, h3, h4, h5⟩
    · exfalso
      rw [q] at H
      cases fuel with
      | zero => cases (show false = true from H)
      | succ k => cases (show false = true from H)
    · refine ⟨h1, h3, fun Q args' h' he hlv hsum hh hret => ?_⟩
      rw [show n + 1 + 4 = n + 4 + 1 by omega]
      refine ⟨N.1, h1, by rw [hsum]; exact h4, ?_⟩
      rw [← h2]
      exact aB_ok (Ex.mono _ _) (h5 n Q) ih hret _ _ _ _ _ _ _ _ _ _ H (h5 n Q) he _ _ _ hlv rfl hh
