/-! the pure picture beside the machine: values, cells, lists of them -/
def A2 {α β : Type} (R : α → β → Prop) : List α → List β → Prop
  | [], l => l = []
  | a :: as, l => ∃ b bs, l = b :: bs ∧ R a b ∧ A2 R as bs
theorem A2.len {α β : Type} {R : α → β → Prop} : ∀ {l : List α} {l' : List β}, A2 R l l' → l'.length = l.length
  | [], _, h => by rw [show _ = [] from h]; rfl
  | _ :: _, _, ⟨_, _, e, _, h⟩ => by rw [e]; simp [A2.len h]
theorem A2.get {α β : Type} {R : α → β → Prop} : ∀ {l : List α} {l' : List β} {i : Nat} {x : α}, A2 R l l' → l[i]? = some x → ∃ y, l'[i]? = some y ∧ R x y
  | [], _, _, _, _, h => by simp at h
  | a :: as, _, 0, x, ⟨b, bs, e, r, _⟩, h => by simp at h; subst h; subst e; exact ⟨b, rfl, r⟩
  | a :: as, _, i + 1, x, ⟨b, bs, e, _, t⟩, h => by subst e; simp at h; simpa using A2.get t h
theorem A2.set {α β : Type} {R : α → β → Prop} {x : α} {y : β} (r : R x y) : ∀ {l : List α} {l' : List β} {i : Nat}, A2 R l l' → A2 R (l.set i x) (l'.set i y)
  | [], _, _, h => by rw [show _ = [] from h]; rfl
  | a :: as, _, 0, ⟨b, bs, e, _, t⟩ => by subst e; exact ⟨y, bs, rfl, r, t⟩
  | a :: as, _, i + 1, ⟨b, bs, e, q, t⟩ => by subst e; exact ⟨b, bs.set i y, rfl, q, A2.set r t⟩
theorem A2.app {α β : Type} {R : α → β → Prop} {m : List α} {m' : List β} (hm : A2 R m m') : ∀ {l : List α} {l' : List β}, A2 R l l' → A2 R (l ++ m) (l' ++ m')
  | [], _, h => by rw [show _ = [] from h]; simpa using hm
  | a :: as, _, ⟨b, bs, e, q, t⟩ => by subst e; exact ⟨b, bs ++ m', rfl, q, A2.app hm t⟩
theorem A2.mono {α β : Type} {R R' : α → β → Prop} (hr : ∀ x y, R x y → R' x y) : ∀ {l : List α} {l' : List β}, A2 R l l' → A2 R' l l'
  | [], _, h => h
  | a :: as, _, ⟨b, bs, e, q, t⟩ => ⟨b, bs, e, hr _ _ q, A2.mono hr t⟩
theorem A2.take {α β : Type} {R : α → β → Prop} : ∀ {l : List α} {l' : List β} (n : Nat), A2 R l l' → A2 R (l.take n) (l'.take n)
  | [], _, n, h => by rw [show _ = [] from h]; simp [A2]
  | a :: as, l', 0, h => by simp [A2]
  | a :: as, _, n + 1, ⟨b, bs, e, q, t⟩ => by subst e; exact ⟨b, bs.take n, rfl, q, A2.take n t⟩
theorem A2.drop {α β : Type} {R : α → β → Prop} : ∀ {l : List α} {l' : List β} (n : Nat), A2 R l l' → A2 R (l.drop n) (l'.drop n)
  | [], _, n, h => by rw [show _ = [] from h]; simp [A2]
  | a :: as, l', 0, h => by simpa using h
  | a :: as, _, n + 1, ⟨b, bs, e, q, t⟩ => by subst e; simpa using A2.drop n t
theorem A2.one {α β : Type} {R : α → β → Prop} {x : α} {y : β} (r : R x y) : A2 R [x] [y] := ⟨y, [], rfl, r, rfl⟩
theorem A2.rev {α β : Type} {R : α → β → Prop} : ∀ {l : List α} {l' : List β}, A2 R l l' → A2 R l.reverse l'.reverse
  | [], _, h => by rw [show _ = [] from h]; simp [A2]
  | a :: as, _, ⟨b, bs, e, q, t⟩ => by subst e; rw [List.reverse_cons, List.reverse_cons]; exact A2.app (A2.one q) (A2.rev t)
theorem A2.rep {α β : Type} {R : α → β → Prop} {x : α} {y : β} (r : R x y) : ∀ n : Nat, A2 R (List.replicate n x) (List.replicate n y)
  | 0 => rfl
  | n + 1 => ⟨y, List.replicate n y, rfl, r, A2.rep r n⟩
theorem A2.mapr {α β γ : Type} {R : α → γ → Prop} {f : β → γ} : ∀ {l : List α} {l' : List β}, A2 (fun x y => R x (f y)) l l' → A2 R l (l'.map f)
  | [], _, h => by rw [show _ = [] from h]; rfl
  | a :: as, _, ⟨b, bs, e, q, t⟩ => by subst e; exact ⟨f b, bs.map f, rfl, q, A2.mapr t⟩
/-- a value beside the machine's; b: where the script lies -/
def rv (ρ : List Nat) (b : Option Nat) (v w : Value) : Prop := match v with
  | .ref i => ∃ a, ρ[i]? = some a ∧ w = .ref a
  | .retAddr _ => ∃ a, b = some a ∧ w = .ref a
  | v => w = v
def rf (ρ : List Nat) (f f' : Nat → Option Nat) : Prop := ∀ j, match f j with
  | none => f' j = none
  | some i => ∃ a, ρ[i]? = some a ∧ f' j = some a
def rE (cy : Nat → ClassId) (ρ : List Nat) (b : Option Nat) (x : PE) (e : va_E) : Prop := match x with
  | .inl (t, n, .inl f) => e = .inl (cy t, n, .inl f)
  | .inl (t, n, .inr (.inl f)) => e = .inl (cy t, n, .inr (.inl f))
  | .inl (t, n, .inr (.inr (.inr (.inr f)))) => ∃ f', e = .inl (cy t, n, .inr (.inr (.inr (.inr f')))) ∧ rf ρ f f'
  | .inl _ => False
  | .inr (ci, fs) => ∃ fs', e = .inr (ci, fs') ∧ A2 (rv ρ b) fs fs'
def rL (ρ : List Nat) (b : Option Nat) (q q' : Nat × Value) : Prop := q'.1 = q.1 ∧ rv ρ b q.2 q'.2
def rO (ρ : List Nat) (b : Option Nat) (v v' : Option Value) : Prop := A2 (rv ρ b) v.toList v'.toList
abbrev ext (ρ ρ' : List Nat) : Prop := ∀ (i a : Nat), ρ[i]? = some a → ρ'[i]? = some a
theorem rv.mono {ρ ρ' : List Nat} {b : Option Nat} (hx : ext ρ ρ') (v w : Value) (h : rv ρ b v w) : rv ρ' b v w := by
  cases v with
  | ref i => obtain ⟨a, h1, h2⟩ := h; exact ⟨a, hx _ _ h1, h2⟩
  | _ => exact h
theorem rf.mono {ρ ρ' : List Nat} (hx : ext ρ ρ') {f f' : Nat → Option Nat} (h : rf ρ f f') : rf ρ' f f' := by
  intro j
  have hj := h j
  cases hf : f j with
  | none => simpa [hf] using hj
  | some i =>
    rw [hf] at hj
    obtain ⟨a, h1, h2⟩ := hj
    exact ⟨a, hx _ _ h1, h2⟩
theorem rE.mono {cy : Nat → ClassId} {ρ ρ' : List Nat} {b : Option Nat} (hx : ext ρ ρ') (x : PE) (e : va_E) (h : rE cy ρ b x e) : rE cy ρ' b x e := by
  rcases x with ⟨t, n, f | f | f | f | f⟩ | ⟨ci, fs⟩
  · exact h
  · exact h
  · exact h
  · exact h
  · obtain ⟨f', h1, h2⟩ := h; exact ⟨f', h1, h2.mono hx⟩
  · obtain ⟨fs', h1, h2⟩ := h; exact ⟨fs', h1, h2.mono (rv.mono hx)⟩
theorem rv.cat {ρ : List Nat} {b : Option Nat} {v w : Value} (h : rv ρ b v w) : w.category = v.category := by
  cases v with
  | ref i => obtain ⟨a, _, h2⟩ := h; rw [h2]; rfl
  | retAddr i => obtain ⟨a, _, h2⟩ := h; rw [h2]; rfl
  | _ => rw [show w = _ from h]
theorem A2.cats {ρ : List Nat} {b : Option Nat} : ∀ {l l' : List Value}, A2 (rv ρ b) l l' → (l'.map fun v => v.category) = l.map Value.category
  | [], _, h => by rw [show _ = [] from h]
  | a :: as, _, ⟨_, _, e, q, t⟩ => by subst e; simp [q.cat, A2.cats t]
theorem A2.filt {ρ : List Nat} {b : Option Nat} {P : Nat × Value → Bool} (hP : ∀ q q', rL ρ b q q' → P q' = P q) : ∀ {l l' : LV}, A2 (rL ρ b) l l' → A2 (rL ρ b) (l.filter P) (l'.filter P)
  | [], _, h => by rw [show _ = [] from h]; rfl
  | a :: as, _, ⟨c, cs, e, q, t⟩ => by
    subst e
    rw [List.filter_cons, List.filter_cons, hP _ _ q]
    by_cases hp : P a = true
    · rw [if_pos hp, if_pos hp]; exact ⟨c, _, rfl, q, A2.filt hP t⟩
    · rw [if_neg hp, if_neg hp]; exact A2.filt hP t
theorem rl_s1 {ρ : List Nat} {b : Option Nat} {lv lv' : LV} (h : A2 (rL ρ b) lv lv') (i : Nat) {v w : Value} (hv : rv ρ b v w) : A2 (rL ρ b) (px_s1 lv i v) ((i, w) :: lv'.filter (fun q => !(q.1 == i) && !(q.1 + 1 == i && q.2.category == 2))) :=
  ⟨(i, w), _, rfl, ⟨rfl, hv⟩, A2.filt (fun q q' hq => by rw [hq.1, hq.2.cat]) h⟩
theorem rl_s2 {ρ : List Nat} {b : Option Nat} {lv lv' : LV} (h : A2 (rL ρ b) lv lv') (i : Nat) {v w : Value} (hv : rv ρ b v w) : A2 (rL ρ b) (px_s2 lv i v) ((i, w) :: lv'.filter (fun q => !(q.1 == i) && (!(q.1 == i + 1) && !(q.1 + 1 == i && q.2.category == 2)))) :=
  ⟨(i, w), _, rfl, ⟨rfl, hv⟩, A2.filt (fun q q' hq => by rw [hq.1, hq.2.cat]) h⟩
theorem rl_g {ρ : List Nat} {b : Option Nat} {i : Nat} {v : Value} : ∀ {lv lv' : LV}, A2 (rL ρ b) lv lv' → px_g lv i = some v → ∃ (k : Nat) (w : Value), lv'[k]? = some (i, w) ∧ rv ρ b v w
  | [], _, _, h => by simp [px_g] at h
  | a :: as, _, ⟨c, cs, e, q, t⟩, h => by
    subst e
    by_cases ha : (a.1 == i) = true
    · simp [px_g, List.find?, ha] at h
      subst h
      refine ⟨0, c.2, ?_, q.2⟩
      rw [beq_iff_eq] at ha
      simp [← ha, ← q.1]
    · have h' : px_g as i = some v := by
        simp only [px_g, List.find?] at h ⊢
        simpa [ha] using h
      obtain ⟨k, w, h1, h2⟩ := rl_g t h'
      exact ⟨k + 1, w, by simpa using h1, h2⟩
theorem rl_args {ρ : List Nat} {b : Option Nat} : ∀ {l l' : List Value} (i : Nat), A2 (rv ρ b) l l' → A2 (rL ρ b) (lv_args i l) (lv_args i l')
  | [], _, i, h => by rw [show _ = [] from h]; rfl
  | a :: as, _, i, ⟨c, cs, e, q, t⟩ => by
    subst e
    refine ⟨(i, c), _, rfl, ⟨rfl, q⟩, ?_⟩
    rw [q.cat]
    exact rl_args _ t
/-- what the stack's forms say -/
theorem on1_i {st : List Value} {f : Int32 → List Value → Prop} (h : on1 st f) : ∃ x r, st = .int x :: r ∧ f x r := by
  unfold on1 at h
  split at h
  · exact ⟨_, _, rfl, h⟩
  · exact h.elim
theorem on2_i {st : List Value} {f : Int32 → Int32 → List Value → Prop} (h : on2 st f) : ∃ x y r, st = .int y :: .int x :: r ∧ f x y r := by
  unfold on2 at h
  split at h
  · exact ⟨_, _, _, rfl, h⟩
  · exact h.elim
theorem onL2_i {st : List Value} {f : Int64 → Int64 → List Value → Prop} (h : onL2 st f) : ∃ x y r, st = .long y :: .long x :: r ∧ f x y r := by
  unfold onL2 at h
  split at h
  · exact ⟨_, _, _, rfl, h⟩
  · exact h.elim
theorem onLI_i {st : List Value} {f : Int64 → Int32 → List Value → Prop} (h : onLI st f) : ∃ x y r, st = .int y :: .long x :: r ∧ f x y r := by
  unfold onLI at h
  split at h
  · exact ⟨_, _, _, rfl, h⟩
  · exact h.elim
theorem onR_i {st : List Value} {f : Nat → List Value → Prop} (h : onR st f) : ∃ a r, st = .ref a :: r ∧ f a r := by
  unfold onR at h
  split at h
  · exact ⟨_, _, rfl, h⟩
  · exact h.elim
theorem a_1 {ρ : List Nat} {b : Option Nat} {x : Int32} {r st' : List Value} (h : A2 (rv ρ b) (.int x :: r) st') : ∃ r', st' = .int x :: r' ∧ A2 (rv ρ b) r r' := by
  obtain ⟨w, r', e, h1, h2⟩ := h
  exact ⟨r', by rw [e, show w = .int x from h1], h2⟩
theorem a_2 {ρ : List Nat} {b : Option Nat} {x y : Int32} {r st' : List Value} (h : A2 (rv ρ b) (.int y :: .int x :: r) st') : ∃ r', st' = .int y :: .int x :: r' ∧ A2 (rv ρ b) r r' := by
  obtain ⟨r1, e, h1⟩ := a_1 h
  obtain ⟨r2, e2, h2⟩ := a_1 h1
  exact ⟨r2, by rw [e, e2], h2⟩
theorem a_l {ρ : List Nat} {b : Option Nat} {x : Int64} {r st' : List Value} (h : A2 (rv ρ b) (.long x :: r) st') : ∃ r', st' = .long x :: r' ∧ A2 (rv ρ b) r r' := by
  obtain ⟨w, r', e, h1, h2⟩ := h
  exact ⟨r', by rw [e, show w = .long x from h1], h2⟩
theorem a_r {ρ : List Nat} {b : Option Nat} {i : Nat} {r st' : List Value} (h : A2 (rv ρ b) (.ref i :: r) st') : ∃ a r', ρ[i]? = some a ∧ st' = .ref a :: r' ∧ A2 (rv ρ b) r r' := by
  obtain ⟨w, r', e, ⟨a, h1, h3⟩, h2⟩ := h
  exact ⟨a, r', h1, by rw [e, h3], h2⟩
theorem a_c {ρ : List Nat} {b : Option Nat} {v : Value} {r st' : List Value} (h : A2 (rv ρ b) (v :: r) st') : ∃ w r', st' = w :: r' ∧ rv ρ b v w ∧ A2 (rv ρ b) r r' := h
theorem a_i {ρ : List Nat} {b : Option Nat} (x : Int32) {r r' : List Value} (h : A2 (rv ρ b) r r') : A2 (rv ρ b) (.int x :: r) (.int x :: r') := ⟨_, _, rfl, rfl, h⟩
theorem a_L {ρ : List Nat} {b : Option Nat} (x : Int64) {r r' : List Value} (h : A2 (rv ρ b) r r') : A2 (rv ρ b) (.long x :: r) (.long x :: r') := ⟨_, _, rfl, rfl, h⟩
