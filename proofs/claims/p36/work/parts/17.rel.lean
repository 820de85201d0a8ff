/-! the run with unknown arguments stands for all runs: what a picture means -/
def vV (θ : Nat → Int32) (v w : Value) : Prop := match v with
  | .double z => ∃ y : Int32, w = .long y.toInt64 ∧ y.toInt = dA z * (θ (dT z)).toInt + dB z
  | v => w = v
def vR (θ : Nat → Int32) (a : AV) (w : Value) : Prop := match a with
  | .inl x => ∃ y : Int32, w = .int y ∧ y.toInt = x
  | .inr (.inl (0, lo, hi)) => ∃ y : Int32, w = .int y ∧ lo ≤ y.toInt ∧ y.toInt ≤ hi
  | .inr (.inl (t + 1, a, b)) => ∃ y : Int32, w = .int y ∧ y.toInt = a * (θ t).toInt + b
  | .inr (.inr v) => vV θ v w
def eR (θ : Nat → Int32) (env : EV) : Prop := ∀ t r, env[t]? = some r → r.1 ≤ (θ t).toInt ∧ (θ t).toInt ≤ r.2
def cR (θ : Nat → Int32) (x : AE) (y : PE) : Prop := match x, y with
  | .inl (0, l), .inl (0, n, .inl g) => n = l.length ∧ ∀ (j : Nat) (a : AV), l[j]? = some a → vR θ a (.int (g j))
  | .inl (1, l), .inl (1, n, .inr (.inl g)) => n = l.length ∧ ∀ (j : Nat) (a : AV), l[j]? = some a → vR θ a (.long (g j))
  | .inl (2, l), .inl (2, n, .inr (.inr (.inr (.inr g)))) => n = l.length ∧ ∀ (j : Nat) (a : AV), l[j]? = some a → vR θ a (va_rf (g j))
  | .inl (3, l), .inl (3, n, .inr (.inr (.inr (.inr g)))) => n = l.length ∧ ∀ (j : Nat) (a : AV), l[j]? = some a → vR θ a (va_rf (g j))
  | .inr (ci, fs), .inr (cj, gs) => cj = ci ∧ A2 (vR θ) fs gs
  | _, _ => False
def lR (θ : Nat → Int32) (lv : LW) (lv' : LV) : Prop := ∀ i v, lv[i]? = some v → v = aU ∨ ∃ w, px_g lv' i = some w ∧ vR θ v w ∧ w.category = 1
def hR (θ : Nat → Int32) (m : Nat) (h : HT) (h' : PH) : Prop := h'.length = m ∧ ∀ a c, hget h a = some c → c = .inl (99, []) ∨ ∃ y, h'[a]? = some y ∧ cR θ c y
def resR (θ : Nat → Int32) (q : AQ) (r : Rs) : Prop := match q, r with
  | .inl v, .inl w => A2 (vR θ) v.toList w.toList
  | .inr e, .inr f => f = e
  | _, _ => False
def CUT (θ : Nat → Int32) (cut : List EV → Bool) : Prop := ∃ l, cut l = true ∧ ∃ e ∈ l, eR θ e
/-! lists -/
theorem lget_eq {α : Type} : ∀ (l : List α) (i : Nat), lget l i = l[i]?
  | [], i => by simp [lget]
  | a :: l, 0 => rfl
  | a :: l, i + 1 => by
    have h := lget_eq l i
    show lget l i = _
    rw [h]; simp
theorem lset_ok {α : Type} {v : α} : ∀ {l : List α} {i : Nat} {k : List α → Bool}, lset l i v k = true → i < l.length ∧ k (l.set i v) = true
  | [], i, k, h => by cases (show false = true from h)
  | a :: l, 0, k, h => ⟨by simp, h⟩
  | a :: l, i + 1, k, h => by
    have h1 := lset_ok (l := l) (i := i) (k := fun t' => k (a :: t')) h
    exact ⟨by simp; exact h1.1, h1.2⟩
theorem ldrop_eq {α : Type} : ∀ (l : List α) (i : Nat), ldrop l i = l.drop i
  | [], i => by simp [ldrop]
  | a :: l, 0 => rfl
  | a :: l, i + 1 => by
    have h := ldrop_eq l i
    show ldrop l i = _
    rw [h]; simp
theorem hset_ok {h : HT} {a : Nat} {v : AE} {k : HT → Bool} (H : hset h a v k = true) : ∃ h2, k h2 = true ∧ (∃ x, hget h a = some x) ∧ ∀ b, hget h2 b = if b = a then some v else hget h b := by
  unfold hset at H
  split at H
  · rename_i r hr
    obtain ⟨h1, H⟩ := lset_ok H
    obtain ⟨h2, H⟩ := lset_ok H
    rw [lget_eq] at hr
    refine ⟨_, H, ⟨r[a % 16], ?_⟩, fun b => ?_⟩
    · unfold hget
      rw [lget_eq, hr]
      simp only
      rw [lget_eq]
      exact List.getElem?_eq_getElem h1
    · unfold hget
      rw [lget_eq, lget_eq]
      by_cases hd : Nat.div b 16 = Nat.div a 16
      · rw [hd, List.getElem?_set_self h2, hr]
        simp only
        rw [lget_eq, lget_eq]
        by_cases hm : Nat.mod b 16 = Nat.mod a 16
        · have hba : b = a := by
            have e1 := Nat.div_add_mod b 16
            have e2 := Nat.div_add_mod a 16
            have hd' : b / 16 = a / 16 := hd
            have hm' : b % 16 = a % 16 := hm
            omega
          rw [if_pos hba, hm, List.getElem?_set_self h1]
        · have hba : ¬ b = a := fun q => hm (by rw [q])
          rw [if_neg hba, List.getElem?_set_ne (fun q => hm q.symm)]
      · have hba : ¬ b = a := fun q => hd (by rw [q])
        rw [if_neg hba, List.getElem?_set_ne (fun q => hd q.symm)]
  · cases H
theorem repF_ok {α : Type} {v : α} : ∀ {n : Nat} {k : List α → Bool}, repF v n k = true → k (List.replicate n v) = true
  | 0, k, h => h
  | n + 1, k, h => repF_ok (n := n) (k := fun l => k (v :: l)) h
theorem natF_ok {n : Nat} {k : Nat → Bool} (h : natF n k = true) : k n = true := by cases n <;> exact h
theorem iF_ok {x : Int} {k : Int → Bool} (h : iF x k = true) : k x = true := by cases x <;> exact h
theorem blt_iff {a b : Nat} : Nat.blt a b = true ↔ a < b := by
  show Nat.ble (a + 1) b = true ↔ _
  rw [Nat.ble_eq]; omega
theorem bLt_iff {x y : Int} : bLt x y = true ↔ x < y := by
  cases x with
  | ofNat a => cases y with
    | ofNat b => show Nat.blt a b = true ↔ _; rw [blt_iff]; simp
    | negSucc b => show false = true ↔ _; constructor
                   · intro h; cases h
                   · intro h; exfalso; have := Int.negSucc_lt_zero b; have := Int.natCast_nonneg a; simp at h; omega
  | negSucc a => cases y with
    | ofNat b => show true = true ↔ _; constructor
                 · intro _; have := Int.negSucc_lt_zero a; have := Int.natCast_nonneg b; simp; omega
                 · intro _; rfl
    | negSucc b => show Nat.blt b a = true ↔ _; rw [blt_iff]; omega
theorem bEq_iff {x y : Int} : bEq x y = true ↔ x = y := by
  cases x with
  | ofNat a => cases y with
    | ofNat b => show Nat.beq a b = true ↔ _; rw [Nat.beq_eq]; exact ⟨fun h => by rw [h], fun h => Int.ofNat.inj h⟩
    | negSucc b => show false = true ↔ _; simp
  | negSucc a => cases y with
    | ofNat b => show false = true ↔ _; simp
    | negSucc b => show Nat.beq a b = true ↔ _; rw [Nat.beq_eq]; simp
theorem bLt_no {x y : Int} : bLt x y = false ↔ y ≤ x := by
  rw [← Bool.not_eq_true, bLt_iff]; omega
theorem bEq_no {x y : Int} : bEq x y = false ↔ ¬ x = y := by
  rw [← Bool.not_eq_true, bEq_iff]
theorem bLe_iff {x y : Int} : bLe x y = true ↔ x ≤ y := by
  unfold bLe; rw [Bool.not_eq_true', bLt_no]
theorem inI_iff {lo hi : Int} : inI lo hi = true ↔ -2147483648 ≤ lo ∧ hi ≤ 2147483647 := by
  unfold inI; rw [Bool.and_eq_true, bLe_iff, bLe_iff]
theorem beq_iff {a b : Nat} : Nat.beq a b = true ↔ a = b := by rw [Nat.beq_eq]
theorem i32_rng (x : Int32) : -2147483648 ≤ x.toInt ∧ x.toInt ≤ 2147483647 := ⟨by have := Int32.le_toInt x; omega, by have := Int32.toInt_lt x; omega⟩
theorem bm {a : Int} (h1 : -2147483648 ≤ a) (h2 : a ≤ 2147483647) : a.bmod 4294967296 = a := by
  rw [Int.bmod_def]
  omega
theorem toInt_inj {x y : Int32} (h : x.toInt = y.toInt) : x = y := by rw [← Int32.ofInt_toInt x, h, Int32.ofInt_toInt]
/-! numbers -/
section NUM
variable {θ : Nat → Int32} {env : EV} {cut : List EV → Bool}
theorem mul_neg_rng {a lo hi x : Int} (ha : a < 0) (h1 : lo ≤ x) (h2 : x ≤ hi) : a * hi ≤ a * x ∧ a * x ≤ a * lo := by
  have e1 := Int.mul_le_mul_of_nonpos_left (Int.le_of_lt ha) h2
  have e2 := Int.mul_le_mul_of_nonpos_left (Int.le_of_lt ha) h1
  exact ⟨e1, e2⟩
theorem mul_pos_rng {a lo hi x : Int} (ha : 0 ≤ a) (h1 : lo ≤ x) (h2 : x ≤ hi) : a * lo ≤ a * x ∧ a * x ≤ a * hi :=
  ⟨Int.mul_le_mul_of_nonneg_left h1 ha, Int.mul_le_mul_of_nonneg_left h2 ha⟩
theorem rKY {t : Nat} {a b : Int} {k : Int → Int → Bool} (he : eR θ env) (h : rK env (aY t a b) k = true) : ∃ lo hi, lo ≤ a * (θ t).toInt + b ∧ a * (θ t).toInt + b ≤ hi ∧ k lo hi = true := by
  simp only [rK, lget_eq] at h
  split at h
  · rename_i r hr
    obtain ⟨h1, h2⟩ := he _ _ hr
    split at h
    · rename_i ha
      obtain ⟨g1, g2⟩ := mul_pos_rng (bLt_no.mp ha) h1 h2
      exact ⟨_, _, by omega, by omega, h⟩
    · rename_i ha
      obtain ⟨g1, g2⟩ := mul_neg_rng (bLt_iff.mp ha) h1 h2
      exact ⟨_, _, by omega, by omega, h⟩
  · cases h
theorem rK_ok {v : AV} {w : Value} {k : Int → Int → Bool} (he : eR θ env) (hv : vR θ v w) (h : rK env v k = true) : ∃ (y : Int32) (lo hi : Int), w = .int y ∧ lo ≤ y.toInt ∧ y.toInt ≤ hi ∧ k lo hi = true := by
  rcases v with x | ⟨t, a, b⟩ | v
  · obtain ⟨y, rfl, e⟩ := hv
    exact ⟨y, x, x, rfl, by omega, by omega, h⟩
  · cases t with
    | zero => obtain ⟨y, rfl, e1, e2⟩ := hv; exact ⟨y, a, b, rfl, e1, e2, h⟩
    | succ t =>
      obtain ⟨y, rfl, e⟩ := hv
      obtain ⟨lo, hi, h1, h2, h3⟩ := rKY he h
      exact ⟨y, lo, hi, rfl, by omega, by omega, h3⟩
  · cases (show false = true from h)
def lZ (θ : Nat → Int32) (p : AN) (z : Int) : Prop := match p.1 with
  | 0 => z = p.2.2 ∧ p.2.1 = 0
  | t + 1 => z = p.2.1 * (θ t).toInt + p.2.2
theorem lin_ok {v : AV} {w : Value} {k : AN → Bool} {no : Bool} (he : eR θ env) (hv : vR θ v w) (h : lin env v k no = true) : (∃ (y : Int32) (p : AN), w = .int y ∧ lZ θ p y.toInt ∧ k p = true) ∨ no = true := by
  rcases v with x | ⟨t, a, b⟩ | v
  · obtain ⟨y, rfl, e⟩ := hv
    exact Or.inl ⟨y, (0, 0, x), rfl, ⟨e, rfl⟩, h⟩
  · cases t with
    | zero =>
      obtain ⟨y, rfl, e1, e2⟩ := hv
      simp only [lin] at h
      split at h
      · rename_i hb
        rw [bEq_iff] at hb
        exact Or.inl ⟨y, (0, 0, a), rfl, ⟨by show _ = a; omega, rfl⟩, h⟩
      · exact Or.inr h
    | succ t =>
      obtain ⟨y, rfl, e⟩ := hv
      simp only [lin, lget_eq] at h
      split at h
      · rename_i r hr
        obtain ⟨h1, h2⟩ := he _ _ hr
        split at h
        · rename_i hb
          rw [bEq_iff] at hb
          have h3 : (θ t).toInt = r.1 := by omega
          exact Or.inl ⟨y, (0, 0, a * r.1 + b), rfl, ⟨by show _ = a * r.1 + b; rw [e, h3], rfl⟩, iF_ok h⟩
        · exact Or.inl ⟨y, (t + 1, a, b), rfl, e, h⟩
      · exact Or.inr h
  · exact Or.inr h
theorem eR.set {env : EV} (he : eR θ env) {t : Nat} {q : Int × Int} (h : q.1 ≤ (θ t).toInt ∧ (θ t).toInt ≤ q.2) : eR θ (env.set t q) := by
  intro t' r hr
  by_cases ht : t = t'
  · subst ht
    rw [List.getElem?_set] at hr
    simp only [if_true] at hr
    split at hr
    · cases hr; exact h
    · cases hr
  · rw [List.getElem?_set_ne ht] at hr
    exact he t' r hr
theorem cutLe_ok {t : Nat} {z : Int} (he : eR θ env) (h : cutLe env t z cut = true) : CUT θ cut := by
  unfold cutLe at h
  rw [lget_eq] at h
  split at h
  · rename_i r hr
    obtain ⟨h1, h2⟩ := he _ _ hr
    split at h
    · obtain ⟨-, h⟩ := lset_ok h
      obtain ⟨-, h⟩ := lset_ok h
      refine ⟨_, h, ?_⟩
      rcases Int.lt_or_le z (θ t).toInt with q | q
      · exact ⟨_, List.mem_cons_of_mem _ List.mem_cons_self, he.set ⟨by show z + 1 ≤ _; omega, h2⟩⟩
      · exact ⟨_, List.mem_cons_self, he.set ⟨h1, q⟩⟩
    · cases h
  · cases h
theorem cutAll1_ok {t : Nat} {lo : Int} (he : eR θ env) : ∀ {n : Nat} {acc : List EV}, cutAll1 env t lo cut n acc = true → (∃ e ∈ acc, eR θ e) ∨ (lo ≤ (θ t).toInt ∧ (θ t).toInt < lo + n) → CUT θ cut
  | 0, acc, h, hc => ⟨acc, h, hc.resolve_right (by intro q; omega)⟩
  | n + 1, acc, h, hc => by
    have h1 := iF_ok (show iF (lo + Int.ofNat n) (fun z => lset env t (z, z) fun e => cutAll1 env t lo cut n (e :: acc)) = true from h)
    obtain ⟨-, h2⟩ := lset_ok h1
    refine cutAll1_ok he h2 ?_
    rcases hc with ⟨e, he1, he2⟩ | ⟨q1, q2⟩
    · exact Or.inl ⟨e, List.mem_cons_of_mem _ he1, he2⟩
    · by_cases hq : (θ t).toInt = lo + Int.ofNat n
      · exact Or.inl ⟨_, List.mem_cons_self, he.set ⟨by show lo + Int.ofNat n ≤ _; omega, by show _ ≤ lo + Int.ofNat n; omega⟩⟩
      · exact Or.inr ⟨q1, by simp at hq; omega⟩
theorem cutAll_ok {t : Nat} (he : eR θ env) (h : cutAll env t cut = true) : CUT θ cut := by
  unfold cutAll at h
  rw [lget_eq] at h
  split at h
  · rename_i r hr
    obtain ⟨h1, h2⟩ := he _ _ hr
    split at h
    · rename_i w hw
      split at h
      · refine cutAll1_ok he h (Or.inr ⟨h1, ?_⟩)
        have hw' : r.2 - r.1 = (w : Int) := hw
        omega
      · cases h
    · cases h
  · cases h
theorem cutSm_ok {t u : Nat} (he : eR θ env) (h : cutSm env t u cut = true) : CUT θ cut := by
  unfold cutSm widK at h
  split at h
  · split at h
    · dsimp only at h
      split at h
      · exact cutAll_ok he h
      · exact cutAll_ok he h
    · cases h
  · cases h
def ccZ (c : ClassFile.Cond) (x y : Int) : Prop := match c with
  | .eq => x = y
  | .ne => ¬ x = y
  | .lt => x < y
  | .ge => y ≤ x
  | .gt => y < x
  | .le => x ≤ y
theorem ccI_iff {c : ClassFile.Cond} {x y : Int32} : ccI c x y ↔ ccZ c x.toInt y.toInt := by
  cases c <;> simp only [ccI, ccZ, Int32.lt_iff_toInt_lt, Int32.le_iff_toInt_le]
  · exact ⟨fun h => by rw [h], toInt_inj⟩
  · exact ⟨fun h q => h (toInt_inj q), fun h q => h (by rw [q])⟩
theorem ccZ_sub {c : ClassFile.Cond} {x y : Int} : ccZ c x y ↔ ccZ c (x - y) 0 := by cases c <;> simp only [ccZ] <;> omega
theorem cmpK_iff {c : ClassFile.Cond} {x y : Int} : cmpK c x y = true ↔ ccZ c x y := by
  cases c <;> simp only [cmpK, ccZ, Bool.not_eq_true', bLt_iff, bEq_iff, bLt_no, bEq_no]
theorem cmpR_ok {c : ClassFile.Cond} {a b a' b' x y : Int} (h1 : a ≤ x) (h2 : x ≤ b) (h3 : a' ≤ y) (h4 : y ≤ b') {v : Bool} (h : cmpR c a b a' b' = some v) : ccZ c x y ↔ v = true := by
  cases c <;> simp only [cmpR] at h <;> (split at h) <;> (try (split at h)) <;> (first | (cases h; done) | skip) <;> cases h <;> rename_i q1 <;> (try rename_i q2) <;> simp only [Bool.or_eq_true, Bool.and_eq_true, Bool.or_eq_false_iff, Bool.and_eq_false_imp, bLt_iff, bEq_iff, bLt_no, bEq_no] at * <;> simp only [ccZ, iff_true, Bool.false_eq_true, iff_false] <;> omega
theorem cutC_ok {c : ClassFile.Cond} {t : Nat} {a b : Int} (he : eR θ env) (h : cutC env c t a b cut = true) : CUT θ cut := by
  unfold cutC at h
  split at h
  · split at h
    · have h := iF_ok h
      split at h
      · exact cutLe_ok he h
      · exact cutLe_ok he h
    · cases h
  · split at h
    · have h := iF_ok h
      split at h
      · exact cutLe_ok he h
      · exact cutLe_ok he h
    · cases h
  · exact cutLe_ok he (iF_ok h)
theorem wBrL_ok {c : ClassFile.Cond} {t : Nat} {a b z : Int} {y n : Bool} (he : eR θ env) (hz : lZ θ (t, a, b) z) (h : wBrL env c t a b cut y n = true) : (ccZ c z 0 ∧ y = true) ∨ (¬ ccZ c z 0 ∧ n = true) ∨ CUT θ cut := by
  have key : ∀ {b : Int}, z = b → (match cmpK c b 0 with | true => y | false => n) = true → (ccZ c z 0 ∧ y = true) ∨ (¬ ccZ c z 0 ∧ n = true) ∨ CUT θ cut := by
    intro b e h
    subst e
    split at h
    · rename_i q; exact Or.inl ⟨cmpK_iff.mp q, h⟩
    · rename_i q; exact Or.inr (Or.inl ⟨fun q2 => (by rw [cmpK_iff.mpr q2] at q; cases q), h⟩)
  cases t with
  | zero => exact key hz.1 h
  | succ t =>
    simp only [wBrL] at h
    split at h
    · rename_i ha
      rw [bEq_iff] at ha
      have hz' : z = a * (θ t).toInt + b := hz
      rw [ha, Int.zero_mul, Int.zero_add] at hz'
      exact key hz' h
    · have hz' : z = a * (θ t).toInt + b := hz
      obtain ⟨lo, hi, h1, h2, h⟩ := rKY he h
      rw [← hz'] at h1 h2
      split at h
      · rename_i q; exact Or.inl ⟨(cmpR_ok h1 h2 (Int.le_refl 0) (Int.le_refl 0) q).mpr rfl, h⟩
      · rename_i q; exact Or.inr (Or.inl ⟨fun q2 => (by have := (cmpR_ok h1 h2 (Int.le_refl 0) (Int.le_refl 0) q).mp q2; cases this), h⟩)
      · exact Or.inr (Or.inr (cutC_ok he h))
theorem lZ_l {p q : AN} {x y : Int} (g : Int → Int → Int) (hg : ∀ a b a' b' u : Int, g (a * u + b) (a' * u + b') = g a a' * u + g b b') (hx : lZ θ p x) (hy : lZ θ q y) (h : Nat.beq p.1 0 = true) : lZ θ (q.1, g p.2.1 q.2.1, g p.2.2 q.2.2) (g x y) ∨ g 0 0 ≠ 0 := by
  by_cases h00 : g 0 0 = 0
  · left
    obtain ⟨t, a, b⟩ := p
    obtain ⟨t', a', b'⟩ := q
    have ht : t = 0 := beq_iff.mp h
    subst ht
    obtain ⟨rfl, ha⟩ := hx
    have ha : a = 0 := ha
    subst ha
    cases t' with
    | zero =>
      obtain ⟨rfl, ha'⟩ := hy
      have ha' : a' = 0 := ha'
      subst ha'
      exact ⟨rfl, h00⟩
    | succ t' =>
      have hy : y = a' * (θ t').toInt + b' := hy
      show g x y = g 0 a' * (θ t').toInt + g x b'
      have := hg 0 x a' b' (θ t').toInt
      rw [Int.zero_mul, Int.zero_add] at this
      rw [hy, this]
  · exact Or.inr h00
theorem lZ_r {p q : AN} {x y : Int} (g : Int → Int → Int) (hg : ∀ a b a' b' u : Int, g (a * u + b) (a' * u + b') = g a a' * u + g b b') (hx : lZ θ p x) (hy : lZ θ q y) (h : Nat.beq q.1 0 = true) : lZ θ (p.1, g p.2.1 q.2.1, g p.2.2 q.2.2) (g x y) ∨ g 0 0 ≠ 0 := by
  by_cases h00 : g 0 0 = 0
  · left
    obtain ⟨t, a, b⟩ := p
    obtain ⟨t', a', b'⟩ := q
    have ht : t' = 0 := beq_iff.mp h
    subst ht
    obtain ⟨rfl, ha⟩ := hy
    have ha : a' = 0 := ha
    subst ha
    cases t with
    | zero =>
      obtain ⟨rfl, ha'⟩ := hx
      have ha' : a = 0 := ha'
      subst ha'
      exact ⟨rfl, h00⟩
    | succ t =>
      have hx : x = a * (θ t).toInt + b := hx
      show g x y = g a 0 * (θ t).toInt + g b y
      have := hg a b 0 y (θ t).toInt
      rw [Int.zero_mul, Int.zero_add] at this
      rw [hx, this]
  · exact Or.inr h00
theorem lZ_s {p q : AN} {x y : Int} (g : Int → Int → Int) (hg : ∀ a b a' b' u : Int, g (a * u + b) (a' * u + b') = g a a' * u + g b b') (h00 : g 0 0 = 0) (hx : lZ θ p x) (hy : lZ θ q y) (h : Nat.beq p.1 q.1 = true) : lZ θ (p.1, g p.2.1 q.2.1, g p.2.2 q.2.2) (g x y) := by
  obtain ⟨t, a, b⟩ := p
  obtain ⟨t', a', b'⟩ := q
  have ht : t = t' := beq_iff.mp h
  subst ht
  cases t with
  | zero =>
    obtain ⟨rfl, ha⟩ := hx
    obtain ⟨rfl, ha'⟩ := hy
    have ha : a = 0 := ha
    have ha' : a' = 0 := ha'
    subst ha
    subst ha'
    exact ⟨rfl, h00⟩
  | succ t =>
    have hx : x = a * (θ t).toInt + b := hx
    have hy : y = a' * (θ t).toInt + b' := hy
    show g x y = g a a' * (θ t).toInt + g b b'
    rw [hx, hy, hg]
theorem g_add (a b a' b' u : Int) : (a * u + b) + (a' * u + b') = (a + a') * u + (b + b') := by rw [Int.add_mul]; omega
theorem g_sub (a b a' b' u : Int) : (a * u + b) - (a' * u + b') = (a - a') * u + (b - b') := by rw [Int.sub_mul]; omega
theorem wBr2_ok {c : ClassFile.Cond} {x y : AV} {xv yv : Int32} {t f : Bool} (he : eR θ env) (hx : vR θ x (.int xv)) (hy : vR θ y (.int yv)) (h : wBr2 env c x y cut t f = true) : (ccI c xv yv ∧ t = true) ∨ (¬ ccI c xv yv ∧ f = true) ∨ CUT θ cut := by
  unfold wBr2 at h
  obtain ⟨x1, a, b, e1, a1, a2, h⟩ := rK_ok he hx h
  cases e1
  obtain ⟨y1, a', b', e2, b1, b2, h⟩ := rK_ok he hy h
  cases e2
  have fin : ∀ {z : Int} {t' : Nat} {a b : Int}, z = xv.toInt - yv.toInt → lZ θ (t', a, b) z → wBrL env c t' a b cut t f = true → (ccI c xv yv ∧ t = true) ∨ (¬ ccI c xv yv ∧ f = true) ∨ CUT θ cut := by
    intro z t' a b ez hz h
    rw [ccI_iff, ccZ_sub, ← ez]
    exact wBrL_ok he hz h
  split at h
  · rename_i q
    rw [ccI_iff]
    exact Or.inl ⟨(cmpR_ok a1 a2 b1 b2 q).mpr rfl, h⟩
  · rename_i q
    rw [ccI_iff]
    exact Or.inr (Or.inl ⟨fun q2 => (by have := (cmpR_ok a1 a2 b1 b2 q).mp q2; cases this), h⟩)
  · rcases lin_ok he hx h with ⟨x2, p, e1, hp, h⟩ | h
    · cases e1
      rcases lin_ok he hy h with ⟨y2, q, e2, hq, h⟩ | h
      · cases e2
        split at h
        · rename_i hp0
          exact fin rfl ((lZ_l (· - ·) g_sub hp hq hp0).resolve_right (by simp)) h
        · rename_i hq0 _
          exact fin rfl ((lZ_r (· - ·) g_sub hp hq hq0).resolve_right (by simp)) h
        · split at h
          · rename_i hpq
            exact fin rfl (lZ_s (· - ·) g_sub (by simp) hp hq hpq) h
          · exact Or.inr (Or.inr (cutSm_ok he h))
      · exact Or.inr (Or.inr (cutAll_ok he h))
    · rcases lin_ok he hy h with ⟨y2, q, e2, hq, h⟩ | h
      · exact Or.inr (Or.inr (cutAll_ok he h))
      · cases h
theorem wBr_ok {c : ClassFile.Cond} {x y : AV} {wx wy : Value} {t f : Bool} (he : eR θ env) (hx : vR θ x wx) (hy : vR θ y wy) (h : wBr env c x y cut t f = true) : ∃ xv yv, wx = .int xv ∧ wy = .int yv ∧ ((ccI c xv yv ∧ t = true) ∨ (¬ ccI c xv yv ∧ f = true) ∨ CUT θ cut) := by
  have gen : wBr2 env c x y cut t f = true → ∃ xv yv, wx = .int xv ∧ wy = .int yv ∧ ((ccI c xv yv ∧ t = true) ∨ (¬ ccI c xv yv ∧ f = true) ∨ CUT θ cut) := by
    intro h
    have h0 := h
    unfold wBr2 at h0
    obtain ⟨xv, a, b, rfl, a1, a2, h1⟩ := rK_ok he hx h0
    obtain ⟨yv, a', b', rfl, b1, b2, h2⟩ := rK_ok he hy h1
    exact ⟨xv, yv, rfl, rfl, wBr2_ok he hx hy h⟩
  unfold wBr at h
  split at h
  · obtain ⟨xv, rfl, e1⟩ := hx
    obtain ⟨yv, rfl, e2⟩ := hy
    refine ⟨xv, yv, rfl, rfl, ?_⟩
    rw [ccI_iff, e1, e2]
    split at h
    · rename_i q; exact Or.inl ⟨cmpK_iff.mp q, h⟩
    · rename_i q; exact Or.inr (Or.inl ⟨fun q2 => (by rw [cmpK_iff.mpr q2] at q; cases q), h⟩)
  · exact gen h
theorem kInt_ok {z : Int} {k : AV → Bool} (h : kInt z k = true) : k (.inl (z.bmod 4294967296)) = true := by
  unfold kInt at h
  split at h
  · rename_i q
    rw [inI_iff] at q
    rw [bm q.1 q.2]
    exact iF_ok h
  · exact iF_ok h
theorem mkL_ok {t : Nat} {a b z : Int} {k : AV → Bool} {els : Bool} {zv : Int32} (he : eR θ env) (hz : lZ θ (t, a, b) z) (hzv : zv.toInt = z.bmod 4294967296) (h : mkL env t a b k els = true) : (∃ v, k v = true ∧ vR θ v (.int zv)) ∨ els = true := by
  cases t with
  | zero =>
    have e : z = b := hz.1
    subst e
    exact Or.inl ⟨_, kInt_ok h, zv, rfl, hzv⟩
  | succ t =>
    have hz' : z = a * (θ t).toInt + b := hz
    simp only [mkL] at h
    split at h
    · rename_i ha
      rw [bEq_iff] at ha
      rw [ha, Int.zero_mul, Int.zero_add] at hz'
      subst hz'
      exact Or.inl ⟨_, kInt_ok h, zv, rfl, hzv⟩
    · obtain ⟨lo, hi, h1, h2, h⟩ := rKY he h
      split at h
      · rename_i q
        rw [inI_iff] at q
        refine Or.inl ⟨_, h, zv, rfl, ?_⟩
        rw [hzv, hz', bm (by omega) (by omega)]
      · exact Or.inr h
theorem top_R (x : Int32) : vR θ aTop (.int x) := ⟨x, rfl, (i32_rng x).1, (i32_rng x).2⟩
theorem isNum_ok {v : AV} {w : Value} (h : isNum v = true) (hv : vR θ v w) : ∃ y : Int32, w = .int y := by
  rcases v with x | ⟨_ | t, a, b⟩ | v
  · obtain ⟨y, rfl, -⟩ := hv; exact ⟨y, rfl⟩
  · obtain ⟨y, rfl, -⟩ := hv; exact ⟨y, rfl⟩
  · obtain ⟨y, rfl, -⟩ := hv; exact ⟨y, rfl⟩
  · cases (show false = true from h)
theorem wAdd_ok {x y : AV} {wx wy : Value} {k : AV → Bool} (he : eR θ env) (hx : vR θ x wx) (hy : vR θ y wy) (h : wAdd env x y cut k = true) : ∃ xv yv, wx = .int xv ∧ wy = .int yv ∧ ((∃ v, k v = true ∧ vR θ v (.int (xv + yv))) ∨ CUT θ cut) := by
  unfold wAdd at h
  split at h
  · obtain ⟨xv, rfl, e1⟩ := hx
    obtain ⟨yv, rfl, e2⟩ := hy
    exact ⟨xv, yv, rfl, rfl, Or.inl ⟨_, kInt_ok h, xv + yv, rfl, by rw [Int32.toInt_add, e1, e2]⟩⟩
  · split at h
    · cases h
    · rename_i hn
      rw [Bool.and_eq_true] at hn
      obtain ⟨xv, rfl⟩ := isNum_ok hn.1 hx
      obtain ⟨yv, rfl⟩ := isNum_ok hn.2 hy
      refine ⟨xv, yv, rfl, rfl, ?_⟩
      have top : k aTop = true → (∃ v, k v = true ∧ vR θ v (.int (xv + yv))) ∨ CUT θ cut := fun h => Or.inl ⟨_, h, top_R _⟩
      have fin : ∀ {t : Nat} {a b : Int}, lZ θ (t, a, b) (xv.toInt + yv.toInt) → mkL env t a b k (k aTop) = true → (∃ v, k v = true ∧ vR θ v (.int (xv + yv))) ∨ CUT θ cut := by
        intro t a b hz h
        rcases mkL_ok (zv := xv + yv) he hz (by rw [Int32.toInt_add]) h with q | q
        · exact Or.inl q
        · exact top q
      rcases lin_ok he hx h with ⟨x2, p, e1, hp, h⟩ | h
      · cases e1
        rcases lin_ok he hy h with ⟨y2, q, e2, hq, h⟩ | h
        · cases e2
          split at h
          · rename_i hp0
            exact fin ((lZ_l (· + ·) g_add hp hq hp0).resolve_right (by simp)) h
          · rename_i hq0 _
            exact fin ((lZ_r (· + ·) g_add hp hq hq0).resolve_right (by simp)) h
          · split at h
            · rename_i hpq
              exact fin (lZ_s (· + ·) g_add (by simp) hp hq hpq) h
            · exact Or.inr (cutSm_ok he h)
        · exact top h
      · exact top h
theorem wSub_ok {x y : AV} {wx wy : Value} {k : AV → Bool} (he : eR θ env) (hx : vR θ x wx) (hy : vR θ y wy) (h : wSub env x y cut k = true) : ∃ xv yv, wx = .int xv ∧ wy = .int yv ∧ ((∃ v, k v = true ∧ vR θ v (.int (xv - yv))) ∨ CUT θ cut) := by
  unfold wSub at h
  split at h
  · obtain ⟨xv, rfl, e1⟩ := hx
    obtain ⟨yv, rfl, e2⟩ := hy
    exact ⟨xv, yv, rfl, rfl, Or.inl ⟨_, kInt_ok h, xv - yv, rfl, by rw [Int32.toInt_sub, e1, e2]⟩⟩
  · split at h
    · cases h
    · rename_i hn
      rw [Bool.and_eq_true] at hn
      obtain ⟨xv, rfl⟩ := isNum_ok hn.1 hx
      obtain ⟨yv, rfl⟩ := isNum_ok hn.2 hy
      refine ⟨xv, yv, rfl, rfl, ?_⟩
      have top : k aTop = true → (∃ v, k v = true ∧ vR θ v (.int (xv - yv))) ∨ CUT θ cut := fun h => Or.inl ⟨_, h, top_R _⟩
      have fin : ∀ {t : Nat} {a b : Int}, lZ θ (t, a, b) (xv.toInt - yv.toInt) → mkL env t a b k (k aTop) = true → (∃ v, k v = true ∧ vR θ v (.int (xv - yv))) ∨ CUT θ cut := by
        intro t a b hz h
        rcases mkL_ok (zv := xv - yv) he hz (by rw [Int32.toInt_sub]) h with q | q
        · exact Or.inl q
        · exact top q
      rcases lin_ok he hx h with ⟨x2, p, e1, hp, h⟩ | h
      · cases e1
        rcases lin_ok he hy h with ⟨y2, q, e2, hq, h⟩ | h
        · cases e2
          split at h
          · rename_i hp0
            exact fin ((lZ_l (· - ·) g_sub hp hq hp0).resolve_right (by simp)) h
          · rename_i hq0 _
            exact fin ((lZ_r (· - ·) g_sub hp hq hq0).resolve_right (by simp)) h
          · split at h
            · rename_i hpq
              exact fin (lZ_s (· - ·) g_sub (by simp) hp hq hpq) h
            · exact Or.inr (cutSm_ok he h)
        · exact top h
      · exact top h
theorem lZ_ml {p q : AN} {x y : Int} (hx : lZ θ p x) (hy : lZ θ q y) (h : Nat.beq p.1 0 = true) : lZ θ (q.1, p.2.2 * q.2.1, p.2.2 * q.2.2) (x * y) := by
  obtain ⟨t, a, b⟩ := p
  obtain ⟨t', a', b'⟩ := q
  have ht : t = 0 := beq_iff.mp h
  subst ht
  obtain ⟨rfl, -⟩ := hx
  cases t' with
  | zero =>
    obtain ⟨rfl, ha'⟩ := hy
    have ha' : a' = 0 := ha'
    subst ha'
    exact ⟨rfl, Int.mul_zero _⟩
  | succ t' =>
    have hy : y = a' * (θ t').toInt + b' := hy
    show x * y = x * a' * (θ t').toInt + x * b'
    rw [hy, Int.mul_add, Int.mul_assoc]
theorem lZ_mr {p q : AN} {x y : Int} (hx : lZ θ p x) (hy : lZ θ q y) (h : Nat.beq q.1 0 = true) : lZ θ (p.1, p.2.1 * q.2.2, p.2.2 * q.2.2) (x * y) := by
  obtain ⟨t, a, b⟩ := p
  obtain ⟨t', a', b'⟩ := q
  have ht : t' = 0 := beq_iff.mp h
  subst ht
  obtain ⟨rfl, -⟩ := hy
  cases t with
  | zero =>
    obtain ⟨rfl, ha'⟩ := hx
    have ha' : a = 0 := ha'
    subst ha'
    exact ⟨rfl, Int.zero_mul _⟩
  | succ t =>
    have hx : x = a * (θ t).toInt + b := hx
    show x * y = a * y * (θ t).toInt + b * y
    rw [hx, Int.add_mul, Int.mul_right_comm]
theorem wMul_ok {x y : AV} {wx wy : Value} {k : AV → Bool} (he : eR θ env) (hx : vR θ x wx) (hy : vR θ y wy) (h : wMul env x y cut k = true) : ∃ xv yv, wx = .int xv ∧ wy = .int yv ∧ ((∃ v, k v = true ∧ vR θ v (.int (xv * yv))) ∨ CUT θ cut) := by
  unfold wMul at h
  split at h
  · obtain ⟨xv, rfl, e1⟩ := hx
    obtain ⟨yv, rfl, e2⟩ := hy
    exact ⟨xv, yv, rfl, rfl, Or.inl ⟨_, kInt_ok h, xv * yv, rfl, by rw [Int32.toInt_mul, e1, e2]⟩⟩
  · split at h
    · cases h
    · rename_i hn
      rw [Bool.and_eq_true] at hn
      obtain ⟨xv, rfl⟩ := isNum_ok hn.1 hx
      obtain ⟨yv, rfl⟩ := isNum_ok hn.2 hy
      refine ⟨xv, yv, rfl, rfl, ?_⟩
      have top : k aTop = true → (∃ v, k v = true ∧ vR θ v (.int (xv * yv))) ∨ CUT θ cut := fun h => Or.inl ⟨_, h, top_R _⟩
      have fin : ∀ {t : Nat} {a b : Int}, lZ θ (t, a, b) (xv.toInt * yv.toInt) → mkL env t a b k (k aTop) = true → (∃ v, k v = true ∧ vR θ v (.int (xv * yv))) ∨ CUT θ cut := by
        intro t a b hz h
        rcases mkL_ok (zv := xv * yv) he hz (by rw [Int32.toInt_mul]) h with q | q
        · exact Or.inl q
        · exact top q
      rcases lin_ok he hx h with ⟨x2, p, e1, hp, h⟩ | h
      · cases e1
        rcases lin_ok he hy h with ⟨y2, q, e2, hq, h⟩ | h
        · cases e2
          split at h
          · rename_i hp0
            exact fin (lZ_ml hp hq hp0) h
          · rename_i hq0 _
            exact fin (lZ_mr hp hq hq0) h
          · exact Or.inr (cutSm_ok he h)
        · exact top h
      · exact top h
theorem known {x : Int32} {a b : Int} (h1 : a ≤ x.toInt) (h2 : x.toInt ≤ b) (h : a = b) : x = Int32.ofInt a := by
  have h3 : x.toInt = a := by omega
  rw [← h3, Int32.ofInt_toInt]
theorem wAny_ok {x y : AV} {wx wy : Value} {f : Int32 → Int32 → Int32} {k : AV → Bool} (he : eR θ env) (hx : vR θ x wx) (hy : vR θ y wy) (h : wAny env x y f k = true) : ∃ xv yv, wx = .int xv ∧ wy = .int yv ∧ ∃ v, k v = true ∧ vR θ v (.int (f xv yv)) := by
  unfold wAny at h
  obtain ⟨xv, a, b, rfl, a1, a2, h⟩ := rK_ok he hx h
  obtain ⟨yv, a', b', rfl, b1, b2, h⟩ := rK_ok he hy h
  refine ⟨xv, yv, rfl, rfl, ?_⟩
  split at h
  · rename_i q
    rw [Bool.and_eq_true, bEq_iff, bEq_iff] at q
    refine ⟨_, iF_ok h, f xv yv, rfl, ?_⟩
    unfold bin
    rw [← known a1 a2 q.1, ← known b1 b2 q.2]
  · exact ⟨_, h, top_R _⟩
theorem wNz_ok {y : AV} {wy : Value} {k : Bool} (he : eR θ env) (hy : vR θ y wy) (h : wNz env y k = true) : k = true ∧ ∀ yv, wy = .int yv → ¬ yv = 0 := by
  unfold wNz at h
  obtain ⟨yv, a, b, rfl, a1, a2, h⟩ := rK_ok he hy h
  split at h
  · rename_i q
    refine ⟨h, fun y' e q2 => ?_⟩
    cases e
    subst q2
    rw [Bool.or_eq_true, bLt_iff, bLt_iff] at q
    have : (0 : Int32).toInt = 0 := by decide
    omega
  · cases h
/-- a place -/
theorem idx_of {iv : Int32} {j : Nat} (h : iv.toInt = (j : Int)) : iv.toNatClampNeg = j := by
  show iv.toInt.toNat = j
  rw [h]; rfl
theorem wIdx_ok {v : AV} {w : Value} {k : Nat → Bool} (he : eR θ env) (hv : vR θ v w) (h : wIdx env v cut k = true) : ∃ iv, w = .int iv ∧ ((∃ j : Nat, iv.toInt = (j : Int) ∧ k j = true) ∨ CUT θ cut) := by
  unfold wIdx at h
  split at h
  · obtain ⟨iv, rfl, e⟩ := hv
    exact ⟨iv, rfl, Or.inl ⟨_, e, h⟩⟩
  · rcases lin_ok he hv h with ⟨iv, p, rfl, hp, h⟩ | h
    · refine ⟨iv, rfl, ?_⟩
      obtain ⟨t, a, b⟩ := p
      split at h
      · rename_i j e1 e2
        have e1 : t = 0 := e1
        have e2 : b = Int.ofNat j := e2
        subst e1
        exact Or.inl ⟨j, hp.1.trans e2, h⟩
      · cases h
      · exact Or.inr (cutAll_ok he h)
    · cases h
theorem vin {iv : Int32} {j n : Nat} (h : iv.toInt = (j : Int)) (hj : j < n) : vp_in iv n := vp_in_iff.mpr ⟨by omega, by omega⟩
theorem linChk_ok : ∀ {n : Nat} {l : LW} {x c : Int}, linChk n l x c = true → ∀ i, i < n → l[i]? = some (.inl (x + c * (i : Int)))
  | 0, _, _, _, _, i, hi => by omega
  | n + 1, [], x, c, h, i, hi => by cases (show false = true from h)
  | n + 1, .inr b :: r, x, c, h, i, hi => by cases (show false = true from h)
  | n + 1, .inl y :: r, x, c, h, i, hi => by
    have h1 : (match bEq y x with
        | true => iF (x + c) fun z => linChk n r z c
        | false => false) = true := h
    split at h1
    · rename_i q
      rw [bEq_iff] at q
      subst q
      have h2 := iF_ok h1
      cases i with
      | zero => simp
      | succ i =>
        have := linChk_ok h2 i (by omega)
        rw [List.getElem?_cons_succ, this]
        have e : y + c + c * (i : Int) = y + c * ((i + 1 : Nat) : Int) := by
          rw [Int.natCast_add, Int.mul_add]; simp; omega
        rw [e]
    · cases h1
end NUM
