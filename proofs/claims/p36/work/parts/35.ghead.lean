/-! the careful evaluator: what holds at a place, and how a state is seen to keep it -/
/-- number of symbols and their ranges (newest first); locals; facts; where each symbol is found (newest first): 0 a local, 1 a local's place in its region, 2 a cell's field; measure: a number, and a factor for symbols -/
abbrev GA : Type := EW × LW × MW × List (Nat × Nat × Nat) × (Int × List (Nat × Int))
noncomputable def sget (n : Nat) (σ : LW) (t : Nat) : Option AV := match Nat.blt t n with
  | true => lget σ (Nat.sub (Nat.sub n 1) t)
  | false => none
noncomputable def sg1 (lv : LW) (m : MW) (x : Nat × Nat × Nat) (k : AV → Bool) : Bool := match x.1 with
  | 0 => (match lget lv x.2.1 with
    | some v => (match isNum v with
      | true => k v
      | false => false)
    | none => false)
  | 1 => (match lget lv x.2.1 with
    | some (.inr (.inr (.retAddr e))) => natF (Nat.mod e 65536) fun u => k (aY u 1 0)
    | _ => false)
  | _ => mfind m x.2.1 (.inl (.ofNat x.2.2)) (fun v => match isNum v with
      | true => k v
      | false => false) false
noncomputable def sgS (env : EW) (lv : LW) (m : MW) (l : List (Nat × Nat × Nat)) : List (Int × Int) → (LW → Bool) → Bool := List.rec (fun R k => match R with
    | [] => k []
    | _ => false) (fun x _ ih R k => match R with
    | r :: R => sg1 lv m x fun v => gSub2 env v r.1 r.2 (ih R fun σ => k (v :: σ))
    | [] => false) l
noncomputable def sgk (n : Nat) (σ : LW) (e : Nat) (k : Nat → Bool) : Bool := match Nat.beq (Nat.mod e 65536) 65535 with
  | true => k e
  | false => (match sget n σ (Nat.mod e 65536) with
    | some (.inr (.inl (u + 1, 1, 0))) => natF (Nat.div e 65536 * 65536 + u) k
    | _ => false)
noncomputable def sgv (env : EW) (n : Nat) (σ : LW) (a v : AV) : Bool := match a with
  | .inl x => gSub2 env v x x true
  | .inr (.inl (t + 1, 1, 0)) => (match sget n σ t with
    | some u => aEq u v
    | none => false)
  | .inr (.inr .null) => true
  | .inr (.inr (.double _)) => isL v
  | .inr (.inr (.retAddr e)) => (match v with
    | .inr (.inr (.retAddr e2)) => sgk n σ e fun e3 => Nat.beq e3 e2
    | _ => false)
  | _ => false
noncomputable def sgl (env : EW) (n : Nat) (σ : LW) (ls : LW) : LW → Bool := List.rec (fun _ => true) (fun a _ ih cur => match cur with
    | v :: r => (match sgv env n σ a v with
      | true => ih r
      | false => false)
    | [] => (match sgv env n σ a aU with
      | true => ih []
      | false => false)) ls
noncomputable def sgm (env : EW) (n : Nat) (σ : LW) (m fs : MW) : Bool := List.rec true (fun f _ ih => match f.2.1 with
    | .inl x => sgk n σ f.1 fun e => mfind m e (.inl x) (fun v => match isNum f.2.2 && sgv env n σ f.2.2 v with
      | true => ih
      | false => false) false
    | _ => false) fs
noncomputable def sgA (A : GA) (env : EW) (lv : LW) (m : MW) (k : LW → Bool) : Bool := match Nat.ble env.1 65535 && Nat.beq A.1.2.length A.1.1 with
  | true => sgS env lv m A.2.2.2.1 A.1.2 fun σ => (match sgl env A.1.1 σ A.2.1 lv && sgm env A.1.1 σ m A.2.2.1 with
    | true => k σ
    | false => false)
  | false => false
/-! sums -/
def lval (θ : Nat → Int32) : List (Nat × Int) → Int
  | [] => 0
  | x :: l => x.2 * (θ x.1).toInt + lval θ l
noncomputable def ladd (u : Nat) (c : Int) (l : List (Nat × Int)) : (List (Nat × Int) → Bool) → Bool := List.rec (fun k => k [(u, c)]) (fun x r ih k => match Nat.beq x.1 u with
    | true => iF (x.2 + c) fun z => k ((x.1, z) :: r)
    | false => ih fun r2 => k (x :: r2)) l
noncomputable def lmin (env : EW) (l : List (Nat × Int)) : Int → (Int → Bool) → Bool := List.rec (fun z k => k z) (fun x _ ih z k => gK env (aY x.1 x.2 0) fun lo _ => iF (z + lo) fun z => ih z k) l
noncomputable def msub (n : Nat) (σ : LW) (bs : List (Nat × Int)) : Int → List (Nat × Int) → (Int → List (Nat × Int) → Bool) → Bool := List.rec (fun z l k => k z l) (fun x _ ih z l k => match sget n σ x.1 with
    | some (.inl y) => iF (z - x.2 * y) fun z => ih z l k
    | some (.inr (.inl (u + 1, a, b))) => iF (z - x.2 * b) fun z => iF (0 - x.2 * a) fun d => ladd u d l fun l => ih z l k
    | _ => false) bs
/-- a state keeps B; k is told what ma is above B's measure, at least -/
noncomputable def sgB (ma : Int × List (Nat × Int)) (B : GA) (env : EW) (lv : LW) (m : MW) (k : Int → Bool) : Bool := sgA B env lv m fun σ => iF (ma.1 - B.2.2.2.2.1) fun z => msub B.1.1 σ B.2.2.2.2.2 z ma.2 fun z l => lmin env l z k
/-- the measure -/
def gms (A : GA) (θ : Nat → Int32) : Int := A.2.2.2.2.1 + lval θ A.2.2.2.2.2
section GHEAD
variable {rs : RS} {θ θ0 : Nat → Int32} {env : EW} {n : Nat} {σ : LW}
def SGM (rs : RS) (θ : Nat → Int32) (k : Nat) (θ0 : Nat → Int32) (n : Nat) (σ : LW) : Prop := ∀ t v, sget n σ t = some v → t < n ∧ vG rs θ k v (.int (θ0 t))
theorem lG.look {lv : LW} {lv' : LV} (h : lG rs θ n lv lv') {i : Nat} {v : AV} (hv : lv[i]? = some v) (hn : isNum v = true) : ∃ y : Int32, px_g lv' i = some (.int y) ∧ vG rs θ n v (.int y) := by
  rcases (h i v hv).2 with rfl | ⟨w, h1, h2⟩
  · cases hn
  · obtain ⟨y, rfl⟩ := gnum hn h2
    exact ⟨y, h1, h2⟩
theorem sg1_ok {lv : LW} {lv' : LV} {m : MW} {h : PH} (hlv : lG rs θ env.1 lv lv') (hm : mG rs θ env.1 m h) {x : Nat × Nat × Nat} {k : AV → Bool} (H : sg1 lv m x k = true) : ∃ v, k v = true ∧ ((∃ y : Int32, vG rs θ env.1 v (.int y)) ∨ ∃ u, v = aY u 1 0) := by
  unfold sg1 at H
  split at H
  · split at H
    · rename_i v hv
      rw [lget_eq] at hv
      split at H
      · rename_i hn
        obtain ⟨y, -, q⟩ := hlv.look hv hn
        exact ⟨v, H, Or.inl ⟨y, q⟩⟩
      · cases H
    · cases H
  · split at H
    · exact ⟨_, natF_ok H, Or.inr ⟨_, rfl⟩⟩
    · cases H
  · rcases mfind_ok H with q | ⟨f, hf, -, -, q⟩
    · cases q
    · split at q
      · rename_i hn
        obtain ⟨A, j, w, -, -, -, -, g⟩ := hm f hf
        obtain ⟨y, rfl⟩ := gnum hn g
        exact ⟨_, q, Or.inl ⟨y, g⟩⟩
      · cases q
theorem gSub2_Y {u : Nat} {lo hi : Int} {k : Bool} (he : eG θ env) (h : gSub2 env (aY u 1 0) lo hi k = true) : vG rs θ env.1 (aY u 1 0) (.int (θ u)) := by
  unfold gSub2 at h
  obtain ⟨h1, -⟩ := gKY he h
  exact ⟨h1, _, rfl, by omega⟩
theorem sgS_ok {lv : LW} {lv' : LV} {m : MW} {h : PH} (he : eG θ env) (hlv : lG rs θ env.1 lv lv') (hm : mG rs θ env.1 m h) : ∀ {l : List (Nat × Nat × Nat)} {R : List (Int × Int)} {k : LW → Bool}, sgS env lv m l R k = true → ∃ σ ys, k σ = true ∧ A2 (fun (v : AV) (y : Int32) => vG rs θ env.1 v (.int y)) σ ys ∧ A2 (fun (r : Int × Int) (y : Int32) => r.1 ≤ y.toInt ∧ y.toInt ≤ r.2) R ys
  | [], [], k, H => ⟨[], [], H, rfl, rfl⟩
  | [], r :: R, k, H => by cases (show false = true from H)
  | x :: l, [], k, H => by cases (show false = true from H)
  | x :: l, r :: R, k, H => by
    have H : sg1 lv m x (fun v => gSub2 env v r.1 r.2 (sgS env lv m l R fun σ => k (v :: σ))) = true := H
    obtain ⟨v, H, hv⟩ := sg1_ok hlv hm H
    have hv2 : ∃ y : Int32, vG rs θ env.1 v (.int y) := by
      rcases hv with q | ⟨u, rfl⟩
      · exact q
      · exact ⟨_, gSub2_Y he H⟩
    obtain ⟨y, hy⟩ := hv2
    obtain ⟨H, y2, e, h1, h2⟩ := gSub2_ok he hy H
    cases e
    obtain ⟨σ, ys, g1, g2, g3⟩ := sgS_ok he hlv hm H
    exact ⟨v :: σ, y :: ys, g1, ⟨y, ys, rfl, hy, g2⟩, ⟨y, ys, rfl, ⟨h1, h2⟩, g3⟩⟩
theorem sgk_ok (hb : env.1 ≤ 65535) (hs : SGM rs θ env.1 θ0 n σ) {e : Nat} {k : Nat → Bool} (H : sgk n σ e k = true) : ∃ e2, k e2 = true ∧ ∀ A, adR rs θ env.1 e2 A → adR rs θ0 n e A := by
  unfold sgk at H
  split at H
  · rename_i q
    have q : e % 65536 = 65535 := beq_iff.mp q
    refine ⟨e, H, fun A ⟨p, h1, h2⟩ => ⟨p, h1, h2.imp id (fun w => ?_)⟩⟩
    exfalso
    have := w.2.1
    omega
  · split at H
    · rename_i u hu
      obtain ⟨h1, h2, y, h3, h4⟩ := hs _ _ hu
      have h3 : y = θ0 (e % 65536) := by cases h3; rfl
      subst h3
      have e1 : (e / 65536 * 65536 + u) / 65536 = e / 65536 := by omega
      have e2 : (e / 65536 * 65536 + u) % 65536 = u := by omega
      refine ⟨_, natF_ok H, fun A ⟨p, g1, g2⟩ => ?_⟩
      rw [show Nat.div e 65536 = e / 65536 from rfl, e1] at g1
      rw [show Nat.div e 65536 = e / 65536 from rfl, e2] at g2
      have h5 : (θ0 (e % 65536)).toInt = (θ u).toInt := by omega
      refine ⟨p, g1, g2.imp id (fun w => ⟨w.1, h1, ?_, ?_⟩)⟩
      · rw [h5]; exact w.2.2.1
      · rw [h5]; exact w.2.2.2
    · cases H
theorem sgv_ok (he : eG θ env) (hb : env.1 ≤ 65535) (hs : SGM rs θ env.1 θ0 n σ) {a v : AV} {w : Value} (hv : vG rs θ env.1 v w) (H : sgv env n σ a v = true) : a = aU ∨ vG rs θ0 n a w := by
  unfold sgv at H
  split at H
  · rename_i x
    obtain ⟨-, y, rfl, h1, h2⟩ := gSub2_ok he hv H
    exact Or.inr ⟨y, rfl, by omega⟩
  · rename_i t
    split at H
    · rename_i u hu
      obtain ⟨h1, h2⟩ := hs _ _ hu
      have := aEq_one H h2 hv
      subst this
      exact Or.inr ⟨h1, _, rfl, by omega⟩
    · cases H
  · exact Or.inl rfl
  · unfold isL at H
    split at H
    · exact Or.inr hv
    · cases H
  · split at H
    · rename_i e2
      obtain ⟨A, h1, rfl⟩ := hv
      obtain ⟨e3, h2, h3⟩ := sgk_ok hb hs H
      rw [beq_iff] at h2
      subst h2
      exact Or.inr ⟨A, h3 A h1, rfl⟩
    · cases H
  · cases H
theorem sgv_plain {a v : AV} (H : sgv env n σ a v = true) : plain1 a = true := by
  unfold sgv at H
  split at H <;> first | rfl | cases H
theorem sgv_null {a : AV} (H : sgv env n σ a aU = true) : a = aU := by
  unfold sgv at H
  split at H
  · cases (show false = true from H)
  · split at H
    · rename_i u hu
      exfalso
      rcases u with x | ⟨t, a, b⟩ | u <;> cases (show false = true from H)
    · cases H
  · rfl
  · cases (show false = true from H)
  · cases (show false = true from H)
  · cases H
theorem sgl_at : ∀ {ls cur : LW} {i : Nat} {a : AV}, sgl env n σ ls cur = true → ls[i]? = some a → sgv env n σ a (cur[i]?.getD aU) = true
  | [], cur, i, a, _, h => by simp at h
  | b :: ls, [], i, a, H, h => by
    have H : (match sgv env n σ b aU with | true => sgl env n σ ls [] | false => false) = true := H
    split at H
    · rename_i q
      cases i with
      | zero => simp at h; subst h; simpa using q
      | succ i =>
        have := sgl_at (i := i) H (by simpa using h)
        simpa using this
    · cases H
  | b :: ls, v :: r, i, a, H, h => by
    have H : (match sgv env n σ b v with | true => sgl env n σ ls r | false => false) = true := H
    split at H
    · rename_i q
      cases i with
      | zero => simp at h; subst h; simpa using q
      | succ i =>
        have := sgl_at (i := i) H (by simpa using h)
        simpa using this
    · cases H
theorem sgl_ok (he : eG θ env) (hb : env.1 ≤ 65535) (hs : SGM rs θ env.1 θ0 n σ) {ls cur : LW} {lv' : LV} (hlv : lG rs θ env.1 cur lv') (H : sgl env n σ ls cur = true) : lG rs θ0 n ls lv' := by
  intro i a ha
  have h1 := sgl_at H ha
  refine ⟨sgv_plain h1, ?_⟩
  cases hc : cur[i]? with
  | none => rw [hc] at h1; exact Or.inl (sgv_null h1)
  | some v =>
    rw [hc] at h1
    have h1 : sgv env n σ a v = true := h1
    rcases (hlv i v hc).2 with rfl | ⟨w, g1, g2⟩
    · exact Or.inl (sgv_null h1)
    · exact (sgv_ok he hb hs g2 h1).imp id (fun q => ⟨w, g1, q⟩)
theorem sgm_ok (he : eG θ env) (hb : env.1 ≤ 65535) (hs : SGM rs θ env.1 θ0 n σ) {m : MW} {h : PH} (hm : mG rs θ env.1 m h) : ∀ {fs : MW}, sgm env n σ m fs = true → mG rs θ0 n fs h
  | [], _ => fun f hf => by cases hf
  | g :: fs, H => by
    have H : (match g.2.1 with | .inl x => sgk n σ g.1 fun e => mfind m e (.inl x) (fun v => match isNum g.2.2 && sgv env n σ g.2.2 v with | true => sgm env n σ m fs | false => false) false | _ => false) = true := H
    split at H
    · rename_i x hx
      obtain ⟨e, H, hk⟩ := sgk_ok hb hs H
      rcases mfind_ok H with q | ⟨f, hf, e1, e2, q⟩
      · cases q
      · split at q
        · rename_i q2
          rw [Bool.and_eq_true] at q2
          obtain ⟨A, j, w, g1, g2, g3, g4, g5⟩ := hm f hf
          rw [e1] at g1
          rw [aEq_ok e2] at g2
          intro f2 hf2
          rcases List.mem_cons.mp hf2 with rfl | hf2
          · refine ⟨A, j, w, hk A g1, by rw [hx]; exact g2, g3, g4, ?_⟩
            rcases sgv_ok he hb hs g5 q2.2 with q3 | q3
            · rw [q3] at q2; cases q2.1
            · exact q3
          · exact sgm_ok he hb hs hm q f2 hf2
        · cases q
    · cases H
theorem sgA_ok {A : GA} {lv : LW} {lv' : LV} {m : MW} {h : PH} {k : LW → Bool} (he : eG θ env) (hlv : lG rs θ env.1 lv lv') (hm : mG rs θ env.1 m h) (H : sgA A env lv m k = true) : ∃ σ θ0, k σ = true ∧ SGM rs θ env.1 θ0 A.1.1 σ ∧ eG θ0 A.1 ∧ lG rs θ0 A.1.1 A.2.1 lv' ∧ mG rs θ0 A.1.1 A.2.2.1 h := by
  unfold sgA at H
  split at H
  · rename_i q
    rw [Bool.and_eq_true, Nat.ble_eq, beq_iff] at q
    obtain ⟨σ, ys, H, g1, g2⟩ := sgS_ok he hlv hm H
    have l1 : ys.length = A.1.1 := by rw [g2.len]; exact q.2
    have hs : SGM rs θ env.1 (fun t => (ys[A.1.1 - 1 - t]?).getD 0) A.1.1 σ := by
      intro t v hv
      unfold sget at hv
      split at hv
      · rename_i ht
        rw [blt_iff] at ht
        rw [lget_eq] at hv
        obtain ⟨y, h1, h2⟩ := g1.get hv
        refine ⟨ht, ?_⟩
        have h1 : ys[A.1.1 - 1 - t]? = some y := h1
        show vG rs θ env.1 v (.int ((ys[A.1.1 - 1 - t]?).getD 0))
        rw [h1]
        exact h2
      · cases hv
    split at H
    · rename_i q2
      rw [Bool.and_eq_true] at q2
      refine ⟨σ, _, H, hs, ⟨q.2, ?_⟩, sgl_ok he q.1 hs hlv q2.1, sgm_ok he q.1 hs hm q2.2⟩
      intro i r hr
      obtain ⟨y, h1, h2⟩ := g2.get hr
      have hi : i < ys.length := (List.getElem?_eq_some_iff.mp h1).1
      have e : A.1.1 - 1 - (A.1.1 - 1 - i) = i := by omega
      simp only [e, h1]
      exact h2
    · cases H
  · cases H
theorem ladd_ok {u : Nat} {c : Int} : ∀ {l : List (Nat × Int)} {k : List (Nat × Int) → Bool}, ladd u c l k = true → ∃ l2, k l2 = true ∧ lval θ l2 = lval θ l + c * (θ u).toInt
  | [], k, h => ⟨[(u, c)], h, by simp [lval]⟩
  | x :: l, k, h => by
    have h : (match Nat.beq x.1 u with | true => iF (x.2 + c) fun z => k ((x.1, z) :: l) | false => ladd u c l fun r2 => k (x :: r2)) = true := h
    split at h
    · rename_i q
      rw [beq_iff] at q
      refine ⟨_, iF_ok h, ?_⟩
      simp only [lval]
      rw [q, Int.add_mul]
      omega
    · obtain ⟨l2, g1, g2⟩ := ladd_ok h
      exact ⟨_, g1, by simp only [lval]; omega⟩
theorem lmin_ok (he : eG θ env) : ∀ {l : List (Nat × Int)} {z : Int} {k : Int → Bool}, lmin env l z k = true → (∀ x ∈ l, x.1 < env.1) ∧ ∃ y, y ≤ z + lval θ l ∧ k y = true
  | [], z, k, h => ⟨fun x hx => (by cases hx), z, (by simp [lval]), h⟩
  | x :: l, z, k, h => by
    have h : (gK env (aY x.1 x.2 0) fun lo _ => iF (z + lo) fun z => lmin env l z k) = true := h
    obtain ⟨h1, lo, hi, h2, -, h⟩ := gKY he h
    obtain ⟨g1, y, g2, g3⟩ := lmin_ok he (iF_ok h)
    refine ⟨fun x2 hx => ?_, y, by simp only [lval]; omega, g3⟩
    rcases List.mem_cons.mp hx with rfl | hx
    · exact h1
    · exact g1 x2 hx
theorem msub_ok {k0 : Nat} (hs : SGM rs θ k0 θ0 n σ) : ∀ {bs l : List (Nat × Int)} {z : Int} {k : Int → List (Nat × Int) → Bool}, msub n σ bs z l k = true → ∃ z2 l2, k z2 l2 = true ∧ z2 + lval θ l2 = z + lval θ l - lval θ0 bs
  | [], l, z, k, h => ⟨z, l, h, by simp [lval]⟩
  | x :: bs, l, z, k, h => by
    have h : (match sget n σ x.1 with | some (.inl y) => iF (z - x.2 * y) fun z => msub n σ bs z l k | some (.inr (.inl (u + 1, a, b))) => iF (z - x.2 * b) fun z => iF (0 - x.2 * a) fun d => ladd u d l fun l => msub n σ bs z l k | _ => false) = true := h
    split at h
    · rename_i y hy
      obtain ⟨-, w, e1, e2⟩ := hs _ _ hy
      cases e1
      obtain ⟨z2, l2, g1, g2⟩ := msub_ok hs (iF_ok h)
      exact ⟨z2, l2, g1, by simp only [lval]; rw [e2]; omega⟩
    · rename_i u a b hy
      obtain ⟨-, -, w, e1, e2⟩ := hs _ _ hy
      cases e1
      obtain ⟨l3, h3, h4⟩ := ladd_ok (θ := θ) (iF_ok (iF_ok h))
      obtain ⟨z2, l2, g1, g2⟩ := msub_ok hs h3
      refine ⟨z2, l2, g1, ?_⟩
      simp only [lval]
      rw [e2, Int.mul_add, ← Int.mul_assoc]
      rw [Int.sub_mul, Int.zero_mul] at h4
      omega
    · cases h
theorem lval_ag {θ2 : Nat → Int32} : ∀ {l : List (Nat × Int)}, (∀ x ∈ l, θ x.1 = θ2 x.1) → lval θ l = lval θ2 l
  | [], _ => rfl
  | x :: l, h => by simp only [lval]; rw [h x List.mem_cons_self, lval_ag (fun y hy => h y (List.mem_cons_of_mem _ hy))]
theorem sgB_ok {ma : Int × List (Nat × Int)} {B : GA} {lv : LW} {lv' : LV} {m : MW} {h : PH} {k : Int → Bool} (he : eG θ env) (hlv : lG rs θ env.1 lv lv') (hm : mG rs θ env.1 m h) (H : sgB ma B env lv m k = true) : ∃ θ0 y, eG θ0 B.1 ∧ lG rs θ0 B.1.1 B.2.1 lv' ∧ mG rs θ0 B.1.1 B.2.2.1 h ∧ y ≤ ma.1 + lval θ ma.2 - gms B θ0 ∧ k y = true := by
  unfold sgB at H
  obtain ⟨σ, θ0, H, hs, h1, h2, h3⟩ := sgA_ok he hlv hm H
  obtain ⟨z, l, H, g1⟩ := msub_ok hs (iF_ok H)
  obtain ⟨-, y, g2, g3⟩ := lmin_ok he H
  exact ⟨θ0, y, h1, h2, h3, by unfold gms; omega, g3⟩
end GHEAD
