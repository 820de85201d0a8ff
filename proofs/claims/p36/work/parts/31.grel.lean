/-! the careful evaluator: what its pictures mean -/
def adR (rs : RS) (θ : Nat → Int32) (n e A : Nat) : Prop := ∃ q, rs[e / 65536]? = some q ∧ ((isOne q.1 = true ∧ q.1[0]? = some A) ∨ (isOne q.1 = false ∧ e % 65536 < n ∧ 0 ≤ (θ (e % 65536)).toInt ∧ q.1[(θ (e % 65536)).toInt.toNat]? = some A))
def asR (rs : RS) (i : Nat) (a : AS) (w : Value) : Prop := match a with
  | .inl (lo, hi) => ∃ y : Int32, w = .int y ∧ lo ≤ y.toInt ∧ y.toInt ≤ hi
  | .inr k => ∃ q A, rs[k]? = some q ∧ q.1[if isOne q.1 = true then 0 else i]? = some A ∧ w = .ref A
def csR (rs : RS) (i : Nat) (c : CS) (y : PE) : Prop := match c with
  | .inl (z, sd, rl) => ∃ g, y = .inl (0, z, .inl g) ∧ ∀ j, j < z → ∃ r, rl[j % sd]? = some r ∧ r.1 ≤ (g j).toInt ∧ (g j).toInt ≤ r.2
  | .inr (.inl z) => ∃ g, y = .inl (1, z, .inr (.inl g))
  | .inr (.inr (.inl (t, k))) => (t = 2 ∨ t = 3) ∧ ∃ q g, rs[k]? = some q ∧ isOne q.1 = false ∧ y = .inl (t, q.1.length, .inr (.inr (.inr (.inr g)))) ∧ ∀ (j A : Nat), q.1[j]? = some A → g j = some A
  | .inr (.inr (.inr (ci, fs))) => ∃ gs, y = .inr (ci, gs) ∧ gs.length = fs.length ∧ ∀ (f : Nat) (a : AS), fs[f]? = some a → ∃ w, gs[f]? = some w ∧ asR rs i a w
def HOK (rs : RS) (h : PH) : Prop := ∀ (k : Nat) (q : List Nat × CS) (i A : Nat), rs[k]? = some q → q.1[i]? = some A → ∃ y, h[A]? = some y ∧ csR rs i q.2 y
def DJ (rs : RS) : Prop := ∀ (k k' : Nat) (q q' : List Nat × CS) (i i' A : Nat), rs[k]? = some q → q.1[i]? = some A → rs[k']? = some q' → q'.1[i']? = some A → k = k' ∧ i = i'
def vG (rs : RS) (θ : Nat → Int32) (n : Nat) (a : AV) (w : Value) : Prop := match a with
  | .inl x => ∃ y : Int32, w = .int y ∧ y.toInt = x
  | .inr (.inl (0, lo, hi)) => ∃ y : Int32, w = .int y ∧ lo ≤ y.toInt ∧ y.toInt ≤ hi
  | .inr (.inl (t + 1, a, b)) => t < n ∧ ∃ y : Int32, w = .int y ∧ y.toInt = a * (θ t).toInt + b
  | .inr (.inr (.retAddr e)) => ∃ A, adR rs θ n e A ∧ w = .ref A
  | .inr (.inr (.double _)) => ∃ x : Int64, w = .long x
  | .inr (.inr v) => w = v
def eG (θ : Nat → Int32) (env : EW) : Prop := env.2.length = env.1 ∧ ∀ (i : Nat) (r : Int × Int), env.2[i]? = some r → r.1 ≤ (θ (env.1 - 1 - i)).toInt ∧ (θ (env.1 - 1 - i)).toInt ≤ r.2
/-- places hold numbers, references or longs alone -/
def plain1 (v : AV) : Bool := isNum v || (match v with
  | .inr (.inr (.retAddr _)) => true
  | .inr (.inr (.double _)) => true
  | .inr (.inr .null) => true
  | .inr (.inr (.int _)) => true
  | _ => false)
def lG (rs : RS) (θ : Nat → Int32) (n : Nat) (lv : LW) (lv' : LV) : Prop := ∀ i v, lv[i]? = some v → plain1 v = true ∧ (v = aU ∨ ∃ w, px_g lv' i = some w ∧ vG rs θ n v w)
def cellAt (h : PH) (A j : Nat) (w : Value) : Prop := (∃ z g, h[A]? = some (.inl (0, z, .inl g)) ∧ w = .int (g j)) ∨ ∃ ci gs, h[A]? = some (.inr (ci, gs)) ∧ gs[j]? = some w
def mG (rs : RS) (θ : Nat → Int32) (n : Nat) (m : MW) (h : PH) : Prop := ∀ f ∈ m, ∃ (A : Nat) (j : Int32) (w : Value), adR rs θ n f.1 A ∧ vG rs θ n f.2.1 (.int j) ∧ 0 ≤ j.toInt ∧ cellAt h A j.toInt.toNat w ∧ vG rs θ n f.2.2 w
/-- region k's place f may be written -/
def wIn (wr : WL) (k f : Nat) : Prop := ∃ x ∈ wr, x.1 = k ∧ (x.2 = 0 ∨ x.2 = f + 1)
/-- what isn't named is as it was -/
def wrR (rs : RS) (wr : WL) (h0 h : PH) : Prop := ∀ (k : Nat) (q : List Nat × CS) (i A : Nat), rs[k]? = some q → q.1[i]? = some A → ∀ (f : Nat) (w : Value), ¬ wIn wr k f → cellAt h0 A f w → cellAt h A f w
def HW (rs : RS) (wr : WL) (h0 h : PH) : Prop := HOK rs h ∧ wrR rs wr h0 h
def resG (rs : RS) (θ : Nat → Int32) (n : Nat) (q : AQ) (r : Rs) : Prop := match q, r with
  | .inl v, .inl w => A2 (vG rs θ n) v.toList w.toList
  | .inr e, .inr f => f = e
  | _, _ => False
/-- more symbols, the old ones as they were -/
def Ext (θ : Nat → Int32) (n : Nat) (θ2 : Nat → Int32) (n2 : Nat) : Prop := n ≤ n2 ∧ ∀ t, t < n → θ2 t = θ t
section GR1
variable {rs : RS} {θ θ2 : Nat → Int32} {n n2 : Nat} {env : EW}
theorem Ext.rf : Ext θ n θ n := ⟨Nat.le_refl _, fun _ _ => rfl⟩
theorem adR.ext (h : Ext θ n θ2 n2) {e A : Nat} (H : adR rs θ n e A) : adR rs θ2 n2 e A := by
  obtain ⟨q, h1, h2⟩ := H
  refine ⟨q, h1, ?_⟩
  rcases h2 with h2 | ⟨g1, g2, g3, g4⟩
  · exact Or.inl h2
  · exact Or.inr ⟨g1, Nat.lt_of_lt_of_le g2 h.1, by rw [h.2 _ g2]; exact g3, by rw [h.2 _ g2]; exact g4⟩
theorem vG.ext (h : Ext θ n θ2 n2) {a : AV} {w : Value} (H : vG rs θ n a w) : vG rs θ2 n2 a w := by
  rcases a with x | ⟨_ | t, a, b⟩ | v
  · exact H
  · exact H
  · obtain ⟨h1, y, h2, h3⟩ := H
    exact ⟨Nat.lt_of_lt_of_le h1 h.1, y, h2, by rw [h.2 _ h1]; exact h3⟩
  · cases v
    case retAddr e => obtain ⟨A, h1, h2⟩ := H; exact ⟨A, h1.ext h, h2⟩
    all_goals exact H
theorem A2.gext (h : Ext θ n θ2 n2) {l : LW} {l' : List Value} (H : A2 (vG rs θ n) l l') : A2 (vG rs θ2 n2) l l' := H.mono (fun _ _ q => q.ext h)
theorem lG.ext (h : Ext θ n θ2 n2) {lv : LW} {lv' : LV} (H : lG rs θ n lv lv') : lG rs θ2 n2 lv lv' := fun i v hv => ⟨(H i v hv).1, (H i v hv).2.imp id (fun ⟨w, h1, h2⟩ => ⟨w, h1, h2.ext h⟩)⟩
theorem mG.ext (h : Ext θ n θ2 n2) {m : MW} {h' : PH} (H : mG rs θ n m h') : mG rs θ2 n2 m h' := fun f hf => by
  obtain ⟨A, j, w, h1, h2, h3, h4, h5⟩ := H f hf
  exact ⟨A, j, w, h1.ext h, h2.ext h, h3, h4, h5.ext h⟩
theorem eget_ok (he : eG θ env) {t : Nat} {r : Int × Int} (h : eget env t = some r) : t < env.1 ∧ r.1 ≤ (θ t).toInt ∧ (θ t).toInt ≤ r.2 := by
  unfold eget at h
  split at h
  · rename_i hb
    rw [blt_iff] at hb
    rw [lget_eq] at h
    have h1 := he.2 _ _ h
    have e : env.1 - 1 - (Nat.sub (Nat.sub env.1 1) t) = t := by
      show env.1 - 1 - (env.1 - 1 - t) = t
      omega
    rw [e] at h1
    exact ⟨hb, h1.1, h1.2⟩
  · cases h
theorem eset_ok (he : eG θ env) {t : Nat} {r : Int × Int} {k : EW → Bool} (hr : r.1 ≤ (θ t).toInt ∧ (θ t).toInt ≤ r.2) (h : eset env t r k = true) : ∃ env2, k env2 = true ∧ env2.1 = env.1 ∧ eG θ env2 := by
  unfold eset at h
  split at h
  · rename_i hb
    rw [blt_iff] at hb
    obtain ⟨hl, h⟩ := lset_ok h
    refine ⟨_, h, rfl, by show (List.set _ _ _).length = _; rw [List.length_set]; exact he.1, fun i r2 hi => ?_⟩
    by_cases hj : Nat.sub (Nat.sub env.1 1) t = i
    · subst hj
      have hi2 : (env.2.set (Nat.sub (Nat.sub env.1 1) t) r)[Nat.sub (Nat.sub env.1 1) t]? = some r2 := hi
      rw [List.getElem?_set_self hl] at hi2
      cases hi2
      have e : env.1 - 1 - (Nat.sub (Nat.sub env.1 1) t) = t := by
        show env.1 - 1 - (env.1 - 1 - t) = t
        omega
      show r.1 ≤ (θ (env.1 - 1 - _)).toInt ∧ (θ (env.1 - 1 - _)).toInt ≤ r.2
      rw [e]
      exact hr
    · have hi2 : (env.2.set (Nat.sub (Nat.sub env.1 1) t) r)[i]? = some r2 := hi
      rw [List.getElem?_set_ne hj] at hi2
      exact he.2 i r2 hi2
  · cases h
def th (θ : Nat → Int32) (n : Nat) (v : Int32) : Nat → Int32 := fun t => if t = n then v else θ t
theorem frs_ok (he : eG θ env) {lo hi : Int} {k : EW → AV → Bool} {v : Int32} (h1 : lo ≤ v.toInt) (h2 : v.toInt ≤ hi) (h : frs env lo hi k = true) : ∃ env2 a θ2, k env2 a = true ∧ Ext θ env.1 θ2 env2.1 ∧ eG θ2 env2 ∧ vG rs θ2 env2.1 a (.int v) := by
  have h := natF_ok (iF_ok (iF_ok h))
  refine ⟨_, _, th θ env.1 v, h, ⟨Nat.le_succ _, fun t ht => if_neg (by omega)⟩, ⟨by show (_ :: env.2).length = _; rw [List.length_cons, he.1], fun i r hi => ?_⟩, ?_⟩
  · cases i with
    | zero =>
      cases hi
      show lo ≤ (th θ env.1 v (env.1 + 1 - 1 - 0)).toInt ∧ (th θ env.1 v (env.1 + 1 - 1 - 0)).toInt ≤ hi
      rw [show th θ env.1 v (env.1 + 1 - 1 - 0) = v from if_pos (by omega)]
      exact ⟨h1, h2⟩
    | succ i =>
      have hi2 : env.2[i]? = some r := by simpa using hi
      have hl : i < env.2.length := (List.getElem?_eq_some_iff.mp hi2).1
      rw [he.1] at hl
      have h3 := he.2 i r hi2
      show r.1 ≤ (th θ env.1 v (env.1 + 1 - 1 - (i + 1))).toInt ∧ (th θ env.1 v (env.1 + 1 - 1 - (i + 1))).toInt ≤ r.2
      rw [show th θ env.1 v (env.1 + 1 - 1 - (i + 1)) = θ (env.1 - 1 - i) from by
        unfold th; rw [if_neg (by omega)]; congr 1; omega]
      exact h3
  · refine ⟨Nat.lt_succ_self _, v, rfl, ?_⟩
    show v.toInt = 1 * (th θ env.1 v env.1).toInt + 0
    rw [show th θ env.1 v env.1 = v from if_pos rfl]; omega
theorem gKY {t : Nat} {a b : Int} {k : Int → Int → Bool} (he : eG θ env) (h : gK env (aY t a b) k = true) : t < env.1 ∧ ∃ lo hi, lo ≤ a * (θ t).toInt + b ∧ a * (θ t).toInt + b ≤ hi ∧ k lo hi = true := by
  simp only [gK] at h
  split at h
  · rename_i r hr
    obtain ⟨h0, h1, h2⟩ := eget_ok he hr
    refine ⟨h0, ?_⟩
    split at h
    · rename_i ha
      obtain ⟨g1, g2⟩ := mul_pos_rng (bLt_no.mp ha) h1 h2
      exact ⟨_, _, by omega, by omega, iF_ok (iF_ok h)⟩
    · rename_i ha
      obtain ⟨g1, g2⟩ := mul_neg_rng (bLt_iff.mp ha) h1 h2
      exact ⟨_, _, by omega, by omega, iF_ok (iF_ok h)⟩
  · cases h
theorem gK_ok {v : AV} {w : Value} {k : Int → Int → Bool} (he : eG θ env) (hv : vG rs θ env.1 v w) (h : gK env v k = true) : ∃ (y : Int32) (lo hi : Int), w = .int y ∧ lo ≤ y.toInt ∧ y.toInt ≤ hi ∧ k lo hi = true := by
  rcases v with x | ⟨t, a, b⟩ | v
  · obtain ⟨y, rfl, e⟩ := hv
    exact ⟨y, x, x, rfl, by omega, by omega, h⟩
  · cases t with
    | zero => obtain ⟨y, rfl, e1, e2⟩ := hv; exact ⟨y, a, b, rfl, e1, e2, h⟩
    | succ t =>
      obtain ⟨-, y, rfl, e⟩ := hv
      obtain ⟨-, lo, hi, h1, h2, h3⟩ := gKY he h
      exact ⟨y, lo, hi, rfl, by omega, by omega, h3⟩
  · cases (show false = true from h)
theorem gnum {v : AV} {w : Value} (h : isNum v = true) (hv : vG rs θ n v w) : ∃ y : Int32, w = .int y := by
  rcases v with x | ⟨_ | t, a, b⟩ | v
  · obtain ⟨y, rfl, -⟩ := hv; exact ⟨y, rfl⟩
  · obtain ⟨y, rfl, -⟩ := hv; exact ⟨y, rfl⟩
  · obtain ⟨-, y, rfl, -⟩ := hv; exact ⟨y, rfl⟩
  · cases (show false = true from h)
theorem rfn_ok {v : AV} {x : Int32} {lo hi : Int} {k : EW → Bool} (he : eG θ env) (hv : vG rs θ env.1 v (.int x)) (h1 : lo ≤ x.toInt) (h2 : x.toInt ≤ hi) (h : rfn env v lo hi k = true) : ∃ env2, k env2 = true ∧ env2.1 = env.1 ∧ eG θ env2 := by
  unfold rfn at h
  split at h
  · obtain ⟨y, e, ey⟩ := hv
    cases e
    split at h
    · exact ⟨env, h, rfl, he⟩
    · rename_i q
      exfalso
      rw [← ey, show (bLe lo x.toInt && bLe x.toInt hi) = true by rw [Bool.and_eq_true, bLe_iff, bLe_iff]; exact ⟨h1, h2⟩] at q
      cases q
  · rename_i t b
    obtain ⟨-, y, e, ey⟩ := hv
    cases e
    have ey : x.toInt = 1 * (θ t).toInt + b := ey
    split at h
    · rename_i r hr
      obtain ⟨-, g1, g2⟩ := eget_ok he hr
      have h := iF_ok (iF_ok h)
      split at h
      · exact eset_ok he ⟨by show max _ _ ≤ _; omega, by show _ ≤ min _ _; omega⟩ h
      · rename_i q
        exfalso
        have : bLe (max r.1 (lo - b)) (min r.2 (hi - b)) = true := by rw [bLe_iff]; omega
        rw [this] at q
        cases q
    · cases h
  · rename_i t b
    obtain ⟨-, y, e, ey⟩ := hv
    cases e
    have ey : x.toInt = -1 * (θ t).toInt + b := ey
    split at h
    · rename_i r hr
      obtain ⟨-, g1, g2⟩ := eget_ok he hr
      have h := iF_ok (iF_ok h)
      split at h
      · exact eset_ok he ⟨by show max _ _ ≤ _; omega, by show _ ≤ min _ _; omega⟩ h
      · rename_i q
        exfalso
        have : bLe (max r.1 (b - hi)) (min r.2 (b - lo)) = true := by rw [bLe_iff]; omega
        rw [this] at q
        cases q
    · cases h
  · exact ⟨env, h, rfl, he⟩
theorem ccZ_ng {c : ClassFile.Cond} {x y : Int} : ccZ (ngC c) x y ↔ ¬ ccZ c x y := by cases c <;> simp only [ngC, ccZ] <;> omega
theorem rfC_ok {c : ClassFile.Cond} {x y : AV} {xv yv : Int32} {a b a' b' : Int} {k : EW → Bool} (he : eG θ env) (hx : vG rs θ env.1 x (.int xv)) (hy : vG rs θ env.1 y (.int yv)) (h1 : a ≤ xv.toInt) (h2 : xv.toInt ≤ b) (h3 : a' ≤ yv.toInt) (h4 : yv.toInt ≤ b') (hc : ccZ c xv.toInt yv.toInt) (h : rfC env c x y a b a' b' k = true) : ∃ env2, k env2 = true ∧ env2.1 = env.1 ∧ eG θ env2 := by
  have hX := i32_rng xv
  have hY := i32_rng yv
  have two : ∀ {l1 u1 l2 u2 : Int}, l1 ≤ xv.toInt → xv.toInt ≤ u1 → l2 ≤ yv.toInt → yv.toInt ≤ u2 → (rfn env x l1 u1 fun env => rfn env y l2 u2 k) = true → ∃ env2, k env2 = true ∧ env2.1 = env.1 ∧ eG θ env2 := by
    intro l1 u1 l2 u2 g1 g2 g3 g4 h
    obtain ⟨e1, h, i1, i2⟩ := rfn_ok he hx g1 g2 h
    obtain ⟨e2, h, j1, j2⟩ := rfn_ok i2 (by rw [i1]; exact hy) g3 g4 h
    exact ⟨e2, h, j1.trans i1, j2⟩
  unfold rfC at h
  cases c <;> simp only [ccZ] at hc <;> dsimp only at h
  · exact two (by omega) (by omega) (by omega) (by omega) h
  · split at h
    · rename_i q
      rw [bEq_iff] at q
      split at h
      · rename_i q2
        rw [bEq_iff] at q2
        exact rfn_ok he hx (by omega) hX.2 h
      · split at h
        · rename_i q3
          rw [bEq_iff] at q3
          exact rfn_ok he hx hX.1 (by omega) h
        · exact ⟨env, h, rfl, he⟩
    · exact ⟨env, h, rfl, he⟩
  all_goals exact two (by first | omega | exact hX.1 | exact hX.2 | exact hY.1 | exact hY.2) (by first | omega | exact hX.1 | exact hX.2 | exact hY.1 | exact hY.2) (by first | omega | exact hX.1 | exact hX.2 | exact hY.1 | exact hY.2) (by first | omega | exact hX.1 | exact hX.2 | exact hY.1 | exact hY.2) h
theorem gBr_ok {c : ClassFile.Cond} {x y : AV} {wx wy : Value} {t f : EW → Bool} (he : eG θ env) (hx : vG rs θ env.1 x wx) (hy : vG rs θ env.1 y wy) (h : gBr env c x y t f = true) : ∃ xv yv, wx = .int xv ∧ wy = .int yv ∧ ((ccI c xv yv ∧ ∃ env2, t env2 = true ∧ env2.1 = env.1 ∧ eG θ env2) ∨ (¬ ccI c xv yv ∧ ∃ env2, f env2 = true ∧ env2.1 = env.1 ∧ eG θ env2)) := by
  unfold gBr at h
  obtain ⟨xv, a, b, rfl, a1, a2, h⟩ := gK_ok he hx h
  obtain ⟨yv, a', b', rfl, b1, b2, h⟩ := gK_ok he hy h
  refine ⟨xv, yv, rfl, rfl, ?_⟩
  rw [ccI_iff]
  split at h
  · rename_i q
    exact Or.inl ⟨(cmpR_ok a1 a2 b1 b2 q).mpr rfl, env, h, rfl, he⟩
  · rename_i q
    exact Or.inr ⟨fun q2 => (by have := (cmpR_ok a1 a2 b1 b2 q).mp q2; cases this), env, h, rfl, he⟩
  · split at h
    · rename_i ht
      by_cases hc : ccZ c xv.toInt yv.toInt
      · exact Or.inl ⟨hc, rfC_ok he hx hy a1 a2 b1 b2 hc ht⟩
      · exact Or.inr ⟨hc, rfC_ok he hx hy a1 a2 b1 b2 (ccZ_ng.mpr hc) h⟩
    · cases h
/-- what a computed number owes -/
def GN (rs : RS) (θ : Nat → Int32) (env : EW) (k : EW → AV → Bool) (z : Int32) : Prop := ∃ env2 v θ2, k env2 v = true ∧ Ext θ env.1 θ2 env2.1 ∧ eG θ2 env2 ∧ vG rs θ2 env2.1 v (.int z)
theorem gRng_ok (he : eG θ env) {lo hi : Int} {k : EW → AV → Bool} {z : Int32} (hz : -2147483648 ≤ lo → hi ≤ 2147483647 → lo ≤ z.toInt ∧ z.toInt ≤ hi) (h : gRng env lo hi k = true) : GN rs θ env k z := by
  unfold gRng at h
  split at h
  · rename_i q
    rw [Bool.and_eq_true, bEq_iff, inI_iff] at q
    have h1 := hz q.2.1 q.2.2
    exact ⟨env, _, θ, iF_ok h, Ext.rf, he, z, rfl, by omega⟩
  · split at h
    · rename_i q
      rw [inI_iff] at q
      have h1 := hz q.1 q.2
      exact frs_ok he h1.1 h1.2 h
    · exact frs_ok he (i32_rng z).1 (i32_rng z).2 h
theorem gLin_ok (he : eG θ env) {t : Nat} {a b : Int} {k : EW → AV → Bool} {z : Int32} (hz : z.toInt = (a * (θ t).toInt + b).bmod 4294967296) (h : gLin env t a b k = true) : GN rs θ env k z := by
  unfold gLin at h
  obtain ⟨h0, lo, hi, h1, h2, h⟩ := gKY he h
  split at h
  · rename_i q
    rw [inI_iff] at q
    exact ⟨env, _, θ, iF_ok (iF_ok h), Ext.rf, he, h0, z, rfl, by rw [hz, bm (by omega) (by omega)]⟩
  · exact frs_ok he (i32_rng z).1 (i32_rng z).2 h
theorem kInt_g (he : eG θ env) {z : Int} {k : EW → AV → Bool} {zv : Int32} (hz : zv.toInt = z.bmod 4294967296) (h : (kInt z fun v => k env v) = true) : GN rs θ env k zv := ⟨env, _, θ, kInt_ok h, Ext.rf, he, zv, rfl, hz⟩
theorem gAdd_ok {x y : AV} {wx wy : Value} {k : EW → AV → Bool} (he : eG θ env) (hx : vG rs θ env.1 x wx) (hy : vG rs θ env.1 y wy) (h : gAdd env x y k = true) : ∃ xv yv, wx = .int xv ∧ wy = .int yv ∧ GN rs θ env k (xv + yv) := by
  unfold gAdd at h
  split at h
  · obtain ⟨xv, rfl, e1⟩ := hx
    obtain ⟨yv, rfl, e2⟩ := hy
    exact ⟨xv, yv, rfl, rfl, kInt_g he (by rw [Int32.toInt_add, e1, e2]) h⟩
  · obtain ⟨-, xv, rfl, e1⟩ := hx
    obtain ⟨yv, rfl, e2⟩ := hy
    exact ⟨xv, yv, rfl, rfl, gLin_ok he (by rw [Int32.toInt_add, e1, e2]; congr 1; omega) h⟩
  · obtain ⟨xv, rfl, e1⟩ := hx
    obtain ⟨-, yv, rfl, e2⟩ := hy
    exact ⟨xv, yv, rfl, rfl, gLin_ok he (by rw [Int32.toInt_add, e1, e2]; congr 1; omega) h⟩
  · obtain ⟨xv, a, b, rfl, a1, a2, h⟩ := gK_ok he hx h
    obtain ⟨yv, a', b', rfl, b1, b2, h⟩ := gK_ok he hy h
    exact ⟨xv, yv, rfl, rfl, gRng_ok he (fun q1 q2 => by rw [Int32.toInt_add]; show _ ≤ (xv.toInt + yv.toInt).bmod 4294967296 ∧ (xv.toInt + yv.toInt).bmod 4294967296 ≤ _; rw [bm (by omega) (by omega)]; omega) h⟩
theorem gSub_ok {x y : AV} {wx wy : Value} {k : EW → AV → Bool} (he : eG θ env) (hx : vG rs θ env.1 x wx) (hy : vG rs θ env.1 y wy) (h : gSub env x y k = true) : ∃ xv yv, wx = .int xv ∧ wy = .int yv ∧ GN rs θ env k (xv - yv) := by
  unfold gSub at h
  split at h
  · obtain ⟨xv, rfl, e1⟩ := hx
    obtain ⟨yv, rfl, e2⟩ := hy
    exact ⟨xv, yv, rfl, rfl, kInt_g he (by rw [Int32.toInt_sub, e1, e2]) h⟩
  · obtain ⟨-, xv, rfl, e1⟩ := hx
    obtain ⟨yv, rfl, e2⟩ := hy
    exact ⟨xv, yv, rfl, rfl, gLin_ok he (by rw [Int32.toInt_sub, e1, e2]; congr 1; omega) h⟩
  · rename_i z t a b
    obtain ⟨xv, rfl, e1⟩ := hx
    obtain ⟨-, yv, rfl, e2⟩ := hy
    exact ⟨xv, yv, rfl, rfl, gLin_ok he (by rw [Int32.toInt_sub, e1, e2, Int.neg_mul]; congr 1; omega) h⟩
  · obtain ⟨xv, a, b, rfl, a1, a2, h⟩ := gK_ok he hx h
    obtain ⟨yv, a', b', rfl, b1, b2, h⟩ := gK_ok he hy h
    exact ⟨xv, yv, rfl, rfl, gRng_ok he (fun q1 q2 => by rw [Int32.toInt_sub]; show _ ≤ (xv.toInt - yv.toInt).bmod 4294967296 ∧ (xv.toInt - yv.toInt).bmod 4294967296 ≤ _; rw [bm (by omega) (by omega)]; omega) h⟩
theorem seg {a b x y : Int} (h1 : a ≤ x) (h2 : x ≤ b) : (a * y ≤ x * y ∧ x * y ≤ b * y) ∨ (b * y ≤ x * y ∧ x * y ≤ a * y) := by
  rcases Int.le_total 0 y with h | h
  · exact Or.inl ⟨Int.mul_le_mul_of_nonneg_right h1 h, Int.mul_le_mul_of_nonneg_right h2 h⟩
  · exact Or.inr ⟨Int.mul_le_mul_of_nonpos_right h2 h, Int.mul_le_mul_of_nonpos_right h1 h⟩
theorem mul_rng {a b c d x y : Int} (h1 : a ≤ x) (h2 : x ≤ b) (h3 : c ≤ y) (h4 : y ≤ d) : mn4 (a * c) (a * d) (b * c) (b * d) ≤ x * y ∧ x * y ≤ mx4 (a * c) (a * d) (b * c) (b * d) := by
  have s1 := seg (y := y) h1 h2
  have s2 := seg (y := a) h3 h4
  have s3 := seg (y := b) h3 h4
  rw [Int.mul_comm c a, Int.mul_comm y a, Int.mul_comm d a] at s2
  rw [Int.mul_comm c b, Int.mul_comm y b, Int.mul_comm d b] at s3
  unfold mn4 mx4
  omega
theorem gMul_ok {x y : AV} {wx wy : Value} {k : EW → AV → Bool} (he : eG θ env) (hx : vG rs θ env.1 x wx) (hy : vG rs θ env.1 y wy) (h : gMul env x y k = true) : ∃ xv yv, wx = .int xv ∧ wy = .int yv ∧ GN rs θ env k (xv * yv) := by
  unfold gMul at h
  split at h
  · obtain ⟨xv, rfl, e1⟩ := hx
    obtain ⟨yv, rfl, e2⟩ := hy
    exact ⟨xv, yv, rfl, rfl, kInt_g he (by rw [Int32.toInt_mul, e1, e2]) h⟩
  · obtain ⟨-, xv, rfl, e1⟩ := hx
    obtain ⟨yv, rfl, e2⟩ := hy
    exact ⟨xv, yv, rfl, rfl, gLin_ok he (by rw [Int32.toInt_mul, e1, e2, Int.add_mul, Int.mul_right_comm]) h⟩
  · obtain ⟨xv, rfl, e1⟩ := hx
    obtain ⟨-, yv, rfl, e2⟩ := hy
    exact ⟨xv, yv, rfl, rfl, gLin_ok he (by rw [Int32.toInt_mul, e1, e2, Int.mul_comm, Int.add_mul, Int.mul_right_comm]) h⟩
  · obtain ⟨xv, a, b, rfl, a1, a2, h⟩ := gK_ok he hx h
    obtain ⟨yv, a', b', rfl, b1, b2, h⟩ := gK_ok he hy h
    have hm := mul_rng a1 a2 b1 b2
    exact ⟨xv, yv, rfl, rfl, gRng_ok he (fun q1 q2 => by rw [Int32.toInt_mul]; show _ ≤ (xv.toInt * yv.toInt).bmod 4294967296 ∧ (xv.toInt * yv.toInt).bmod 4294967296 ≤ _; rw [bm (by omega) (by omega)]; exact hm) h⟩
end GR1
/-! division -/
section GR2
variable {rs : RS} {θ : Nat → Int32} {env : EW}
theorem gPos_ok {y : AV} {wy : Value} {k : Int → Bool} (he : eG θ env) (hy : vG rs θ env.1 y wy) (h : gPos env y k = true) : ∃ (yv : Int32) (m : Int), wy = .int yv ∧ 0 < yv.toInt ∧ yv.toInt ≤ m ∧ k m = true := by
  unfold gPos at h
  obtain ⟨yv, a, b, rfl, a1, a2, h⟩ := gK_ok he hy h
  split at h
  · rename_i q
    rw [bLt_iff] at q
    exact ⟨yv, b, rfl, by omega, a2, h⟩
  · cases h
theorem nz_of {y : Int32} (h : y.toInt ≠ 0) : ¬ y = 0 := fun q => h (by rw [q]; decide)
theorem dv_toInt {x y : Int32} (hy : 0 < y.toInt) : (x / y).toInt = x.toInt.tdiv y.toInt := by
  have hx := i32_rng x
  rw [Int32.toInt_div]
  show (x.toInt.tdiv y.toInt).bmod 4294967296 = _
  have h1 : x.toInt.tdiv y.toInt ≤ 2147483647 ∧ -2147483648 ≤ x.toInt.tdiv y.toInt := by
    rcases Int.le_total 0 x.toInt with h | h
    · have e1 := Int.tdiv_le_self (a := x.toInt) y.toInt h
      have e2 := Int.tdiv_nonneg h (Int.le_of_lt hy)
      omega
    · have e0 : x.toInt.tdiv y.toInt = -((-x.toInt).tdiv y.toInt) := by rw [Int.neg_tdiv, Int.neg_neg]
      have e1 := Int.tdiv_le_self (a := -x.toInt) y.toInt (by omega)
      have e2 := Int.tdiv_nonneg (a := -x.toInt) (by omega) (Int.le_of_lt hy)
      omega
  exact bm h1.2 h1.1
theorem div_rng {x y : Int32} {a b : Int} (hy : 0 < y.toInt) (h1 : a ≤ x.toInt) (h2 : x.toInt ≤ b) : min a 0 ≤ (x / y).toInt ∧ (x / y).toInt ≤ max b 0 := by
  rw [dv_toInt hy]
  rcases Int.le_total 0 x.toInt with h | h
  · have e1 := Int.tdiv_le_self (a := x.toInt) y.toInt h
    have e2 := Int.tdiv_nonneg h (Int.le_of_lt hy)
    omega
  · have e0 : x.toInt.tdiv y.toInt = -((-x.toInt).tdiv y.toInt) := by rw [Int.neg_tdiv, Int.neg_neg]
    have e1 := Int.tdiv_le_self (a := -x.toInt) y.toInt (by omega)
    have e2 := Int.tdiv_nonneg (a := -x.toInt) (by omega) (Int.le_of_lt hy)
    omega
theorem rm_toInt {x y : Int32} (hy : 0 < y.toInt) : (x - x / y * y).toInt = x.toInt.tmod y.toInt := by
  have hx := i32_rng x
  have hY := i32_rng y
  have e := Int.tmod_add_mul_tdiv x.toInt y.toInt
  rw [Int32.toInt_sub, Int32.toInt_mul, dv_toInt hy]
  show (x.toInt - (x.toInt.tdiv y.toInt * y.toInt).bmod 4294967296).bmod 4294967296 = _
  have hm : -y.toInt < x.toInt.tmod y.toInt ∧ x.toInt.tmod y.toInt < y.toInt := ⟨Int.lt_tmod_of_pos _ hy, Int.tmod_lt_of_pos _ hy⟩
  have hs : (0 ≤ x.toInt → 0 ≤ x.toInt.tmod y.toInt) ∧ (x.toInt ≤ 0 → x.toInt.tmod y.toInt ≤ 0) := ⟨fun h => Int.tmod_nonneg _ h, fun h => by
    have := Int.tmod_nonneg (a := -x.toInt) y.toInt (by omega)
    rw [Int.neg_tmod] at this; omega⟩
  have hc : x.toInt.tdiv y.toInt * y.toInt = x.toInt - x.toInt.tmod y.toInt := by rw [Int.mul_comm]; omega
  rw [hc]
  have hb : (x.toInt - x.toInt.tmod y.toInt).bmod 4294967296 = x.toInt - x.toInt.tmod y.toInt := by
    rcases Int.le_total 0 x.toInt with h | h
    · have := hs.1 h; exact bm (by omega) (by omega)
    · have := hs.2 h; exact bm (by omega) (by omega)
  rw [hb, bm (by omega) (by omega)]
  omega
theorem gDiv_ok {x y : AV} {wx wy : Value} {k : EW → AV → Bool} (he : eG θ env) (hx : vG rs θ env.1 x wx) (hy : vG rs θ env.1 y wy) (h : gDiv env x y k = true) : ∃ xv yv, wx = .int xv ∧ wy = .int yv ∧ ¬ yv = 0 ∧ GN rs θ env k (xv / yv) := by
  unfold gDiv at h
  split at h
  · obtain ⟨xv, rfl, e1⟩ := hx
    obtain ⟨yv, rfl, e2⟩ := hy
    split at h
    · cases h
    · rename_i q
      rw [bEq_no] at q
      refine ⟨xv, yv, rfl, rfl, nz_of (by rw [e2]; exact q), env, _, θ, iF_ok h, Ext.rf, he, xv / yv, rfl, ?_⟩
      unfold bin; rw [← e1, ← e2, Int32.ofInt_toInt, Int32.ofInt_toInt]
  · obtain ⟨yv, m, rfl, y1, y2, h⟩ := gPos_ok he hy h
    obtain ⟨xv, a, b, rfl, a1, a2, h⟩ := gK_ok he hx h
    exact ⟨xv, yv, rfl, rfl, nz_of (by omega), gRng_ok he (fun _ _ => div_rng y1 a1 a2) h⟩
theorem gRem_ok {x y : AV} {wx wy : Value} {k : EW → AV → Bool} (he : eG θ env) (hx : vG rs θ env.1 x wx) (hy : vG rs θ env.1 y wy) (h : gRem env x y k = true) : ∃ xv yv, wx = .int xv ∧ wy = .int yv ∧ ¬ yv = 0 ∧ GN rs θ env k (xv - xv / yv * yv) := by
  unfold gRem at h
  split at h
  · obtain ⟨xv, rfl, e1⟩ := hx
    obtain ⟨yv, rfl, e2⟩ := hy
    split at h
    · cases h
    · rename_i q
      rw [bEq_no] at q
      refine ⟨xv, yv, rfl, rfl, nz_of (by rw [e2]; exact q), env, _, θ, iF_ok h, Ext.rf, he, xv - xv / yv * yv, rfl, ?_⟩
      unfold bin; rw [← e1, ← e2, Int32.ofInt_toInt, Int32.ofInt_toInt]
  · obtain ⟨yv, m, rfl, y1, y2, h⟩ := gPos_ok he hy h
    obtain ⟨xv, a, b, rfl, a1, a2, h⟩ := gK_ok he hx h
    have hm : -yv.toInt < xv.toInt.tmod yv.toInt ∧ xv.toInt.tmod yv.toInt < yv.toInt := ⟨Int.lt_tmod_of_pos _ y1, Int.tmod_lt_of_pos _ y1⟩
    refine ⟨xv, yv, rfl, rfl, nz_of (by omega), ?_⟩
    split at h
    · exact gRng_ok he (fun _ _ => by rw [rm_toInt y1]; omega) h
    · rename_i q
      rw [bLt_no] at q
      have := Int.tmod_nonneg (a := xv.toInt) yv.toInt (by omega)
      have hle : xv.toInt.tmod yv.toInt ≤ xv.toInt := by
        rcases (show xv.toInt < yv.toInt ∨ yv.toInt ≤ xv.toInt by omega) with hlt | hge
        · rw [Int.tmod_eq_of_lt (by omega) hlt]; omega
        · omega
      exact gRng_ok he (fun _ _ => by rw [rm_toInt y1]; omega) h
theorem gAny_ok {x y : AV} {wx wy : Value} {f : Int32 → Int32 → Int32} {k : EW → AV → Bool} (he : eG θ env) (hx : vG rs θ env.1 x wx) (hy : vG rs θ env.1 y wy) (h : gAny env x y f k = true) : ∃ xv yv, wx = .int xv ∧ wy = .int yv ∧ GN rs θ env k (f xv yv) := by
  unfold gAny at h
  obtain ⟨xv, a, b, rfl, a1, a2, h⟩ := gK_ok he hx h
  obtain ⟨yv, a', b', rfl, b1, b2, h⟩ := gK_ok he hy h
  refine ⟨xv, yv, rfl, rfl, ?_⟩
  split at h
  · rename_i q
    rw [Bool.and_eq_true, bEq_iff, bEq_iff] at q
    refine ⟨env, _, θ, iF_ok h, Ext.rf, he, f xv yv, rfl, ?_⟩
    unfold bin
    rw [← known a1 a2 q.1, ← known b1 b2 q.2]
  · exact frs_ok he (i32_rng _).1 (i32_rng _).2 h
end GR2
