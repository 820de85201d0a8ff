/-! the careful evaluator: instructions -/
def PG (n0 : Nat) (θ0 : Nat → Int32) (h0 : PH) (C : Nat → List Value → PH → (Rs → PH → Prop) → Prop) (S : Nat × (Nat → Int32)) (M : PM) (hd : HD4) (rs : RS) (wr : WL) (Q : Rs → PH → Prop) (K : Kt) (f : GPF) (te : TE) : Prop :=
  ∀ (env : EW) (lv st : LW) (m : MW) (c s : Nat) (go : GG) (call : Nat → Bool → Bool) (ret : AQ → Bool) (θ : Nat → Int32) (lv' : LV) (st' : List Value) (h' : PH),
    (∀ t, t < n0 → θ t = θ0 t) → n0 ≤ env.1 → eG θ env → lG rs θ env.1 lv lv' → A2 (vG rs θ env.1) st st' → mG rs θ env.1 m h' → HW rs wr h0 h' →
    (∀ pc2 env2 lv2 st2 m2 c2 s2, go pc2 env2 lv2 st2 m2 c2 s2 = true → ∀ θ2 lv2' st2' h2', (∀ t, t < n0 → θ2 t = θ0 t) → n0 ≤ env2.1 → eG θ2 env2 → lG rs θ2 env2.1 lv2 lv2' → A2 (vG rs θ2 env2.1) st2 st2' → mG rs θ2 env2.1 m2 h2' → HW rs wr h0 h2' → K pc2 lv2' st2' h2' c2 s2) →
    (∀ μ virt, call μ virt = true → p_call C M hd Q K te.1 μ virt lv' st' h' c s) →
    (∀ q, ret q = true → ∀ r, resG rs θ env.1 q r → Q r h') →
    f (M, hd, rs, wr) env lv st m c s go call ret = true → pmI C S M hd Q K te lv' st' h' c s
section GOPS
variable {n0 : Nat} {θ0 : Nat → Int32} {C : Nat → List Value → PH → (Rs → PH → Prop) → Prop} {S : Nat × (Nat → Int32)} {M : PM} {hd : HD4} {rs : RS} {wr : WL} {h0 : PH} {Q : Rs → PH → Prop} {K : Kt} {pc ta tb : Nat}
theorem ag_ext {θ θ2 : Nat → Int32} {n n2 : Nat} (hag : ∀ t, t < n0 → θ t = θ0 t) (hn : n0 ≤ n) (hx : Ext θ n θ2 n2) : (∀ t, t < n0 → θ2 t = θ0 t) ∧ n0 ≤ n2 := ⟨fun t ht => (hx.2 t (Nat.lt_of_lt_of_le ht hn)).trans (hag t ht), Nat.le_trans hn hx.1⟩
theorem po_no {te : TE} : PG n0 θ0 h0 C S M hd rs wr Q K g_no te := by
  intro env lv st m c s go call ret θ lv' st' h' hag hn0 he hlv hst hm hh hgo hcall hret H
  cases (show false = true from H)
theorem po_push {te : TE} {v : AV} {w : Value} {n : Nat} (hv : ∀ θ k, vG rs θ k v w) (hp : ∀ (lv' : LV) (st' : List Value) (h' : PH) (c s : Nat), K n lv' (w :: st') h' c s → pmI C S M hd Q K te lv' st' h' c s) : PG n0 θ0 h0 C S M hd rs wr Q K (g_push v n) te := by
  intro env lv st m c s go call ret θ lv' st' h' hag hn0 he hlv hst hm hh hgo hcall hret H
  exact hp _ _ _ _ _ (hgo _ _ _ _ _ _ _ H _ _ _ _ hag hn0 he hlv ⟨_, _, rfl, hv _ _, hst⟩ hm hh)
theorem po_iload {te : TE} {i n : Nat} (hp : ∀ (lv' : LV) (st' : List Value) (h' : PH) (c s : Nat), (∃ x, px_g lv' i = some (.int x) ∧ K n lv' (.int x :: st') h' c s) → pmI C S M hd Q K te lv' st' h' c s) : PG n0 θ0 h0 C S M hd rs wr Q K (g_iload i n) te := by
  intro env lv st m c s go call ret θ lv' st' h' hag hn0 he hlv hst hm hh hgo hcall hret H
  unfold g_iload at H
  rw [lget_eq] at H
  split at H
  · rename_i v hv
    split at H
    · rename_i hn
      rcases (hlv _ _ hv).2 with rfl | ⟨w, hw, hvw⟩
      · cases (show false = true from hn)
      · obtain ⟨y, rfl⟩ := gnum hn hvw
        exact hp _ _ _ _ _ ⟨y, hw, hgo _ _ _ _ _ _ _ H _ _ _ _ hag hn0 he hlv ⟨_, _, rfl, hvw, hst⟩ hm hh⟩
    · cases H
  · cases H
theorem po_lload {i : Nat} : PG n0 θ0 h0 C S M hd rs wr Q K (g_lload i (pc + 2)) (pc, .lload i, ta, tb) := by
  intro env lv st m c s go call ret θ lv' st' h' hag hn0 he hlv hst hm hh hgo hcall hret H
  unfold g_lload at H
  rw [lget_eq] at H
  split at H
  · rename_i v hv
    split at H
    · rename_i hn
      rcases (hlv _ _ hv).2 with rfl | ⟨w, hw, hvw⟩
      · cases (show false = true from hn)
      · have hL : ∃ x, w = .long x := by
          rcases v with x | x | v
          · cases hn
          · cases hn
          · cases v <;> first | exact hvw | cases hn
        obtain ⟨x, rfl⟩ := hL
        exact ⟨x, hw, hgo _ _ _ _ _ _ _ H _ _ _ _ hag hn0 he hlv ⟨_, _, rfl, hvw, hst⟩ hm hh⟩
    · cases H
  · cases H
theorem po_aload {te : TE} {i n : Nat} (hp : ∀ (lv' : LV) (st' : List Value) (h' : PH) (c s : Nat), (∃ v, px_g lv' i = some v ∧ (∃ a, v = .ref a ∨ v = .retAddr a) ∧ K n lv' (v :: st') h' c s) → pmI C S M hd Q K te lv' st' h' c s) : PG n0 θ0 h0 C S M hd rs wr Q K (g_aload i n) te := by
  intro env lv st m c s go call ret θ lv' st' h' hag hn0 he hlv hst hm hh hgo hcall hret H
  unfold g_aload at H
  rw [lget_eq] at H
  split at H
  · rename_i e hv
    rcases (hlv _ _ hv).2 with q | ⟨w, hw, hvw⟩
    · cases q
    · have hvw0 := hvw
      obtain ⟨A, -, rfl⟩ := hvw
      exact hp _ _ _ _ _ ⟨_, hw, ⟨A, Or.inl rfl⟩, hgo _ _ _ _ _ _ _ H _ _ _ _ hag hn0 he hlv ⟨_, _, rfl, hvw0, hst⟩ hm hh⟩
  · cases H
theorem noL_ok {lv : LW} {i : Nat} {k : Bool} {θ : Nat → Int32} {n : Nat} (h : noL lv i k = true) : k = true ∧ ∀ j u, j + 1 = i → lv[j]? = some u → isL u = false := by
  unfold noL at h
  split at h
  · exact ⟨h, fun j u hj => by omega⟩
  · rename_i j
    rw [lget_eq] at h
    split at h
    · rename_i v hv
      split at h
      · cases h
      · rename_i q
        refine ⟨h, fun j2 u hj hu => ?_⟩
        have : j2 = j := by omega
        subst this
        cases hv.symm.trans hu
        exact q
    · rename_i hv
      refine ⟨h, fun j2 u hj hu => ?_⟩
      have : j2 = j := by omega
      subst this
      rw [hv] at hu
      cases hu
theorem num_pl {v : AV} (h : isNum v = true) : plain1 v = true := by unfold plain1; rw [h]; rfl
theorem po_istore {te : TE} {i n : Nat} (hp : ∀ (lv' : LV) (st' : List Value) (h' : PH) (c s : Nat), (i < pL M ∧ on1 st' fun x r => K n (px_s1 lv' i (.int x)) r h' c s) → pmI C S M hd Q K te lv' st' h' c s) : PG n0 θ0 h0 C S M hd rs wr Q K (g_istore2 i n) te := by
  intro env lv st m c s go call ret θ lv' st' h' hag hn0 he hlv hst hm hh hgo hcall hret H
  obtain ⟨H, hnl⟩ := noL_ok (θ := θ) (n := n0) (show noL lv i _ = true from H)
  unfold g_istore at H
  split at H
  · obtain ⟨w, r', rfl, hw, hr⟩ := hst
    split at H
    · rename_i hn
      rw [Bool.and_eq_true, blt_iff] at hn
      obtain ⟨y, rfl⟩ := gnum hn.1 hw
      obtain ⟨-, H⟩ := lset_ok H
      exact hp _ _ _ _ _ ⟨hn.2, hgo _ _ _ _ _ _ _ H _ _ _ _ hag hn0 he (hlv.set (num_pl hn.1) hw hnl) hr hm hh⟩
    · cases H
  · cases H
theorem po_astore {te : TE} {i n : Nat} (hp : ∀ (lv' : LV) (st' : List Value) (h' : PH) (c s : Nat), (i < pL M ∧ onR st' fun x r => K n (px_s1 lv' i (.ref x)) r h' c s) → pmI C S M hd Q K te lv' st' h' c s) : PG n0 θ0 h0 C S M hd rs wr Q K (g_astore2 i n) te := by
  intro env lv st m c s go call ret θ lv' st' h' hag hn0 he hlv hst hm hh hgo hcall hret H
  obtain ⟨H, hnl⟩ := noL_ok (θ := θ) (n := n0) (show noL lv i _ = true from H)
  unfold g_astore at H
  split at H
  · obtain ⟨w, r', rfl, hw, hr⟩ := hst
    have hw0 := hw
    obtain ⟨A, -, rfl⟩ := hw
    split at H
    · rename_i hn
      rw [blt_iff] at hn
      obtain ⟨-, H⟩ := lset_ok H
      exact hp _ _ _ _ _ ⟨hn, hgo _ _ _ _ _ _ _ H _ _ _ _ hag hn0 he (hlv.set rfl hw0 hnl) hr hm hh⟩
    · cases H
  · cases H
theorem po_lstore {i : Nat} : PG n0 θ0 h0 C S M hd rs wr Q K (g_lstore i (pc + 2)) (pc, .lstore i, ta, tb) := by
  intro env lv st m c s go call ret θ lv' st' h' hag hn0 he hlv hst hm hh hgo hcall hret H
  unfold g_lstore at H
  split at H
  · rename_i v r
    obtain ⟨w, r', rfl, hw, hr⟩ := hst
    split at H
    · rename_i hn
      rw [Bool.and_eq_true, blt_iff] at hn
      obtain ⟨H, hnl⟩ := noL_ok (θ := θ) (n := n0) H
      have hL : (∃ x, w = .long x) ∧ plain1 v = true := by
        rcases v with x | x | v
        · cases hn.1
        · cases hn.1
        · cases v <;> first | exact ⟨hw, rfl⟩ | cases hn.1
      obtain ⟨⟨x, rfl⟩, hpl⟩ := hL
      obtain ⟨-, H⟩ := lset_ok H
      obtain ⟨-, H⟩ := lset_ok H
      exact ⟨hn.2, x, r', rfl, hgo _ _ _ _ _ _ _ H _ _ _ _ hag hn0 he (hlv.set2 hpl hw hnl) hr hm hh⟩
    · cases H
  · cases H
theorem po_iinc {i : Nat} {z : Int} (hz : inI z z = true) : PG n0 θ0 h0 C S M hd rs wr Q K (g_iinc2 i z (pc + 3)) (pc, .iinc i z, ta, tb) := by
  intro env lv st m c s go call ret θ lv' st' h' hag hn0 he hlv hst hm hh hgo hcall hret H
  obtain ⟨H, hnl⟩ := noL_ok (θ := θ) (n := n0) (show noL lv i _ = true from H)
  unfold g_iinc at H
  rw [lget_eq] at H
  split at H
  · rename_i v hv
    split at H
    · rename_i hn
      rw [Bool.and_eq_true, blt_iff] at hn
      rcases (hlv _ _ hv).2 with rfl | ⟨w, hw, hvw⟩
      · cases (show false = true from hn.1)
      · rw [inI_iff] at hz
        have hzz : (Int32.ofInt z).toInt = z := (Int32.toInt_ofInt (n := z)).trans (bm hz.1 hz.2)
        obtain ⟨xv, yv, rfl, ey, env2, v2, θ2, H, hx2, he2, hv2⟩ := gAdd_ok (y := .inl z) (wy := .int (Int32.ofInt z)) he hvw ⟨_, rfl, hzz⟩ H
        cases ey
        obtain ⟨-, H⟩ := lset_ok H
        obtain ⟨a1, a2⟩ := ag_ext hag hn0 hx2
        have hpl : plain1 v2 = true := by
          rcases v2 with x | x | v2
          · rfl
          · rfl
          · cases v2
            case retAddr e => rfl
            case double e => rfl
            case int x => rfl
            case null => rfl
            all_goals cases (show Value.int _ = _ from hv2)
        exact ⟨hn.2, xv, hw, hgo _ _ _ _ _ _ _ H _ _ _ _ a1 a2 he2 ((hlv.ext hx2).set hpl hv2 hnl) (hst.gext hx2) (hm.ext hx2) hh⟩
    · cases H
  · cases H
theorem po_bin {te : TE} {n : Nat} {f : EW → AV → AV → (EW → AV → Bool) → Bool} {op : Int32 → Int32 → Int32} {P : Int32 → Prop} (hf : ∀ {θ : Nat → Int32} {env : EW} {x y : AV} {wx wy : Value} {k : EW → AV → Bool}, eG θ env → vG rs θ env.1 x wx → vG rs θ env.1 y wy → f env x y k = true → ∃ xv yv, wx = .int xv ∧ wy = .int yv ∧ P yv ∧ GN rs θ env k (op xv yv)) (hp : ∀ (lv' : LV) (r : List Value) (x y : Int32) (h' : PH) (c s : Nat), P y → K n lv' (.int (op x y) :: r) h' c s → pmI C S M hd Q K te lv' (.int y :: .int x :: r) h' c s) : PG n0 θ0 h0 C S M hd rs wr Q K (g_bin f n) te := by
  intro env lv st m c s go call ret θ lv' st' h' hag hn0 he hlv hst hm hh hgo hcall hret H
  unfold g_bin at H
  split at H
  · obtain ⟨w, _, rfl, hy, w2, r', rfl, hx, hr⟩ := hst
    obtain ⟨xv, yv, rfl, rfl, hP, env2, v2, θ2, H, hx2, he2, hv2⟩ := hf he hx hy H
    obtain ⟨a1, a2⟩ := ag_ext hag hn0 hx2
    exact hp _ _ _ _ _ _ _ hP (hgo _ _ _ _ _ _ _ H _ _ _ _ a1 a2 he2 (hlv.ext hx2) ⟨_, _, rfl, hv2, hr.gext hx2⟩ (hm.ext hx2) hh)
  · cases H
theorem tr5 {rs : RS} {θ : Nat → Int32} {env : EW} {wx wy : Value} {k : EW → AV → Bool} {op : Int32 → Int32 → Int32} (h : ∃ xv yv, wx = .int xv ∧ wy = .int yv ∧ GN rs θ env k (op xv yv)) : ∃ xv yv, wx = .int xv ∧ wy = .int yv ∧ True ∧ GN rs θ env k (op xv yv) := by
  obtain ⟨x, y, h1, h2, h3⟩ := h; exact ⟨x, y, h1, h2, trivial, h3⟩
theorem po_neg : PG n0 θ0 h0 C S M hd rs wr Q K (g_neg (pc + 1)) (pc, .ineg, ta, tb) := by
  intro env lv st m c s go call ret θ lv' st' h' hag hn0 he hlv hst hm hh hgo hcall hret H
  unfold g_neg at H
  split at H
  · obtain ⟨w, r', rfl, hx, hr⟩ := hst
    obtain ⟨xv, yv, e1, rfl, env2, v2, θ2, H, hx2, he2, hv2⟩ := gSub_ok (x := .inl 0) (wx := .int 0) he ⟨0, rfl, by decide⟩ hx H
    cases e1
    obtain ⟨a1, a2⟩ := ag_ext hag hn0 hx2
    have e0 : (0 : Int32) - yv = -yv := by
      apply toInt_inj; rw [Int32.toInt_sub, Int32.toInt_neg, show (0 : Int32).toInt = 0 by decide, Int.zero_sub]
    rw [e0] at hv2
    exact hgo _ _ _ _ _ _ _ H _ _ _ _ a1 a2 he2 (hlv.ext hx2) ⟨_, _, rfl, hv2, hr.gext hx2⟩ (hm.ext hx2) hh
  · cases H
theorem long_of {θ : Nat → Int32} {n : Nat} {v : AV} {w : Value} (h : isL v = true) (hv : vG rs θ n v w) : ∃ x, w = .long x := by
  rcases v with x | x | v
  · cases h
  · cases h
  · cases v <;> first | exact hv | cases h
theorem long_any {θ θ2 : Nat → Int32} {n n2 : Nat} {v : AV} (h : isL v = true) (x : Int64) : vG rs θ n v (.long x) := by
  rcases v with y | y | v
  · cases h
  · cases h
  · cases v <;> first | exact ⟨x, rfl⟩ | cases h
theorem po_i2l : PG n0 θ0 h0 C S M hd rs wr Q K (g_i2l (pc + 1)) (pc, .i2l, ta, tb) := by
  intro env lv st m c s go call ret θ lv' st' h' hag hn0 he hlv hst hm hh hgo hcall hret H
  unfold g_i2l at H
  split at H
  · obtain ⟨w, r', rfl, hx, hr⟩ := hst
    split at H
    · rename_i hn
      obtain ⟨y, rfl⟩ := gnum hn hx
      exact hgo _ _ _ _ _ _ _ H _ _ _ _ hag hn0 he hlv ⟨_, _, rfl, ⟨_, rfl⟩, hr⟩ hm hh
    · cases H
  · cases H
theorem po_lbin {te : TE} {n : Nat} (hp : ∀ (lv' : LV) (r : List Value) (x y : Int64) (h' : PH) (c s : Nat), (∀ z, K n lv' (.long z :: r) h' c s) → pmI C S M hd Q K te lv' (.long y :: .long x :: r) h' c s) : PG n0 θ0 h0 C S M hd rs wr Q K (g_lbin n) te := by
  intro env lv st m c s go call ret θ lv' st' h' hag hn0 he hlv hst hm hh hgo hcall hret H
  unfold g_lbin at H
  split at H
  · obtain ⟨w, _, rfl, hy, w2, r', rfl, hx, hr⟩ := hst
    split at H
    · rename_i hn
      rw [Bool.and_eq_true] at hn
      obtain ⟨x, rfl⟩ := long_of hn.1 hx
      obtain ⟨y, rfl⟩ := long_of hn.2 hy
      exact hp _ _ _ _ _ _ _ (fun z => hgo _ _ _ _ _ _ _ H _ _ _ _ hag hn0 he hlv ⟨_, _, rfl, long_any (θ2 := θ) (n2 := n0) hn.1 z, hr⟩ hm hh)
    · cases H
  · cases H
theorem po_lshl : PG n0 θ0 h0 C S M hd rs wr Q K (g_lshl (pc + 1)) (pc, .lshl, ta, tb) := by
  intro env lv st m c s go call ret θ lv' st' h' hag hn0 he hlv hst hm hh hgo hcall hret H
  unfold g_lshl at H
  split at H
  · obtain ⟨w, _, rfl, hy, w2, r', rfl, hx, hr⟩ := hst
    split at H
    · rename_i hn
      rw [Bool.and_eq_true] at hn
      obtain ⟨x, rfl⟩ := long_of hn.1 hx
      obtain ⟨y, rfl⟩ := gnum hn.2 hy
      exact hgo _ _ _ _ _ _ _ H _ _ _ _ hag hn0 he hlv ⟨_, _, rfl, long_any (θ2 := θ) (n2 := n0) hn.1 _, hr⟩ hm hh
    · cases H
  · cases H
theorem lg_rng (x y : Int64) : -1 ≤ (lg_cmp x y).toInt ∧ (lg_cmp x y).toInt ≤ 1 := by
  unfold lg_cmp
  split
  · decide
  · split <;> decide
theorem po_lcmp : PG n0 θ0 h0 C S M hd rs wr Q K (g_lcmp (pc + 1)) (pc, .lcmp, ta, tb) := by
  intro env lv st m c s go call ret θ lv' st' h' hag hn0 he hlv hst hm hh hgo hcall hret H
  unfold g_lcmp at H
  split at H
  · obtain ⟨w, _, rfl, hy, w2, r', rfl, hx, hr⟩ := hst
    split at H
    · rename_i hn
      rw [Bool.and_eq_true] at hn
      obtain ⟨x, rfl⟩ := long_of hn.1 hx
      obtain ⟨y, rfl⟩ := long_of hn.2 hy
      obtain ⟨env2, v2, θ2, H, hx2, he2, hv2⟩ := frs_ok (rs := rs) he (lg_rng x y).1 (lg_rng x y).2 H
      obtain ⟨a1, a2⟩ := ag_ext hag hn0 hx2
      exact hgo _ _ _ _ _ _ _ H _ _ _ _ a1 a2 he2 (hlv.ext hx2) ⟨_, _, rfl, hv2, hr.gext hx2⟩ (hm.ext hx2) hh
    · cases H
  · cases H
theorem po_dup : PG n0 θ0 h0 C S M hd rs wr Q K (g_dup (pc + 1)) (pc, .dup, ta, tb) := by
  intro env lv st m c s go call ret θ lv' st' h' hag hn0 he hlv hst hm hh hgo hcall hret H
  unfold g_dup at H
  split at H
  · obtain ⟨w, r', rfl, hx, hr⟩ := hst
    split at H
    · rename_i hn
      exact ⟨w, r', rfl, g1_ok hn hx, hgo _ _ _ _ _ _ _ H _ _ _ _ hag hn0 he hlv ⟨_, _, rfl, hx, _, _, rfl, hx, hr⟩ hm hh⟩
    · cases H
  · cases H
theorem po_dup2 : PG n0 θ0 h0 C S M hd rs wr Q K (g_dup2 (pc + 1)) (pc, .dup2, ta, tb) := by
  intro env lv st m c s go call ret θ lv' st' h' hag hn0 he hlv hst hm hh hgo hcall hret H
  unfold g_dup2 at H
  split at H
  · obtain ⟨w, _, rfl, hx, w2, r', rfl, hy, hr⟩ := hst
    split at H
    · rename_i hn
      rw [Bool.and_eq_true] at hn
      exact ⟨w, w2, r', rfl, g1_ok hn.1 hx, g1_ok hn.2 hy, hgo _ _ _ _ _ _ _ H _ _ _ _ hag hn0 he hlv ⟨_, _, rfl, hx, _, _, rfl, hy, _, _, rfl, hx, _, _, rfl, hy, hr⟩ hm hh⟩
    · cases H
  · cases H
theorem po_pop : PG n0 θ0 h0 C S M hd rs wr Q K (g_pop (pc + 1)) (pc, .pop, ta, tb) := by
  intro env lv st m c s go call ret θ lv' st' h' hag hn0 he hlv hst hm hh hgo hcall hret H
  unfold g_pop at H
  split at H
  · obtain ⟨w, r', rfl, hx, hr⟩ := hst
    split at H
    · rename_i hn
      exact ⟨w, r', rfl, g1_ok hn hx, hgo _ _ _ _ _ _ _ H _ _ _ _ hag hn0 he hlv hr hm hh⟩
    · cases H
  · cases H
theorem po_goto {z : Int} (hz0 : 0 ≤ (pc : Int) + z) : PG n0 θ0 h0 C S M hd rs wr Q K (g_goto ((pc : Int) + z).toNat) (pc, .goto z, ta, tb) := by
  intro env lv st m c s go call ret θ lv' st' h' hag hn0 he hlv hst hm hh hgo hcall hret H
  exact ⟨hz0, hgo _ _ _ _ _ _ _ H _ _ _ _ hag hn0 he hlv hst hm hh⟩
theorem po_if {cc : ClassFile.Cond} {z : Int} (hz0 : 0 ≤ (pc : Int) + z) : PG n0 θ0 h0 C S M hd rs wr Q K (g_if cc ((pc : Int) + z).toNat (pc + 3)) (pc, .ifCond cc z, ta, tb) := by
  intro env lv st m c s go call ret θ lv' st' h' hag hn0 he hlv hst hm hh hgo hcall hret H
  unfold g_if at H
  split at H
  · obtain ⟨w, r', rfl, hx, hr⟩ := hst
    obtain ⟨xv, yv, rfl, ey, q⟩ := gBr_ok (y := .inl 0) (wy := .int 0) he hx ⟨0, rfl, by decide⟩ H
    cases ey
    rcases q with ⟨hc, env2, H, e1, he2⟩ | ⟨hc, env2, H, e1, he2⟩
    · exact ⟨hz0, fun _ => hgo _ _ _ _ _ _ _ H _ _ _ _ hag (by rw [e1]; exact hn0) he2 (by rw [e1]; exact hlv) (by rw [e1]; exact hr) (by rw [e1]; exact hm) hh, fun q => absurd hc q⟩
    · exact ⟨hz0, fun q => absurd q hc, fun _ => hgo _ _ _ _ _ _ _ H _ _ _ _ hag (by rw [e1]; exact hn0) he2 (by rw [e1]; exact hlv) (by rw [e1]; exact hr) (by rw [e1]; exact hm) hh⟩
  · cases H
theorem po_icmp {cc : ClassFile.Cond} {z : Int} (hz0 : 0 ≤ (pc : Int) + z) : PG n0 θ0 h0 C S M hd rs wr Q K (g_icmp cc ((pc : Int) + z).toNat (pc + 3)) (pc, .if_icmp cc z, ta, tb) := by
  intro env lv st m c s go call ret θ lv' st' h' hag hn0 he hlv hst hm hh hgo hcall hret H
  unfold g_icmp at H
  split at H
  · obtain ⟨w, _, rfl, hy, w2, r', rfl, hx, hr⟩ := hst
    obtain ⟨xv, yv, rfl, rfl, q⟩ := gBr_ok he hx hy H
    rcases q with ⟨hc, env2, H, e1, he2⟩ | ⟨hc, env2, H, e1, he2⟩
    · exact ⟨hz0, fun _ => hgo _ _ _ _ _ _ _ H _ _ _ _ hag (by rw [e1]; exact hn0) he2 (by rw [e1]; exact hlv) (by rw [e1]; exact hr) (by rw [e1]; exact hm) hh, fun q => absurd hc q⟩
    · exact ⟨hz0, fun q => absurd q hc, fun _ => hgo _ _ _ _ _ _ _ H _ _ _ _ hag (by rw [e1]; exact hn0) he2 (by rw [e1]; exact hlv) (by rw [e1]; exact hr) (by rw [e1]; exact hm) hh⟩
  · cases H
end GOPS
