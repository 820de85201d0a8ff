/-! the careful evaluator: rows, objects, ends -/
section GOPH
variable {n0 : Nat} {θ0 : Nat → Int32} {C : Nat → List Value → PH → (Rs → PH → Prop) → Prop} {S : Nat × (Nat → Int32)} {M : PM} {hd : HD4} {rs : RS} {wr : WL} {h0 : PH} {Q : Rs → PH → Prop} {K : Kt} {pc ta tb : Nat}
theorem g_sw1_ok {θ : Nat → Int32} {env : EW} {x : AV} {go : Nat → EW → Bool} {xv : Int32} (he : eG θ env) (hx : vG rs θ env.1 x (.int xv)) : ∀ {ts : List Nat} {j : Int}, g_sw1 env x go ts j = true → ∀ (i t : Nat), ts[i]? = some t → xv.toInt = j + (i : Int) → ∃ env2, go t env2 = true ∧ env2.1 = env.1 ∧ eG θ env2
  | [], j, _, i, t, ht, _ => by simp at ht
  | t0 :: ts, j, h, i, t, ht, hj => by
    have h1 : (match rfn env x j j (go t0) with | true => iF (j + 1) (g_sw1 env x go ts) | false => false) = true := h
    split at h1
    · rename_i hr
      cases i with
      | zero =>
        simp at ht
        subst ht
        exact rfn_ok he hx (by simp at hj; omega) (by simp at hj; omega) hr
      | succ i =>
        have h2 := iF_ok h1
        exact g_sw1_ok he hx h2 i t (by simpa using ht) (by omega)
    · cases h1
theorem po_sw {d lo hi : Int} {offs : Array Int} (h1 : offs.toList.all (fun o => decide (0 ≤ (pc : Int) + o)) = true) (h2 : hi - lo + 1 = offs.size) (hz0 : 0 ≤ (pc : Int) + d) : PG n0 θ0 h0 C S M hd rs wr Q K (g_sw ((pc : Int) + d).toNat lo hi (offs.toList.map fun o => ((pc : Int) + o).toNat)) (pc, .tableswitch d lo hi offs, ta, tb) := by
  intro env lv st m c s go call ret θ lv' st' h' hag hn0 he hlv hst hm hh hgo hcall hret H
  unfold g_sw at H
  split at H
  · obtain ⟨w, r', rfl, hx, hr⟩ := hst
    obtain ⟨xv, a, b, rfl, a1, a2, H⟩ := gK_ok he hx H
    split at H
    · rename_i hgd
      refine ⟨fun _ => ⟨hz0, hgo _ _ _ _ _ _ _ hgd _ _ _ _ hag hn0 he hlv hr hm hh⟩, fun q1 q2 => ?_⟩
      have hlt : (xv.toInt - lo).toNat < offs.size := by omega
      have hoff : 0 ≤ (pc : Int) + offs[(xv.toInt - lo).toNat] := by
        have := List.all_eq_true.mp h1 offs[(xv.toInt - lo).toNat] (by simp)
        simpa using this
      obtain ⟨env2, H2, e1, he2⟩ := g_sw1_ok he hx H (xv.toInt - lo).toNat ((pc : Int) + offs[(xv.toInt - lo).toNat]).toNat (by rw [List.getElem?_map, Array.getElem?_toList, Array.getElem?_eq_getElem hlt]; rfl) (by omega)
      exact ⟨offs[(xv.toInt - lo).toNat], Array.getElem?_eq_getElem hlt, hoff, hgo _ _ _ _ _ _ _ H2 _ _ _ _ hag (by rw [e1]; exact hn0) he2 (by rw [e1]; exact hlv) (by rw [e1]; exact hr) (by rw [e1]; exact hm) hh⟩
    · cases H
  · cases H
theorem gIn_ok {θ : Nat → Int32} {env : EW} {i : AV} {w : Value} {z : Nat} {k : Bool} (he : eG θ env) (hi : vG rs θ env.1 i w) (h : gIn env i z k = true) : k = true ∧ ∃ iv : Int32, w = .int iv ∧ 0 ≤ iv.toInt ∧ iv.toInt < z := by
  unfold gIn at h
  obtain ⟨iv, a, b, rfl, a1, a2, h⟩ := gK_ok he hi h
  split at h
  · rename_i q
    rw [Bool.and_eq_true, bLe_iff, bLt_iff] at q
    have q2 : b < (z : Int) := q.2
    exact ⟨h, iv, rfl, by omega, by omega⟩
  · cases h
theorem gSub2_ok {θ : Nat → Int32} {env : EW} {v : AV} {w : Value} {lo hi : Int} {k : Bool} (he : eG θ env) (hv : vG rs θ env.1 v w) (h : gSub2 env v lo hi k = true) : k = true ∧ ∃ y : Int32, w = .int y ∧ lo ≤ y.toInt ∧ y.toInt ≤ hi := by
  unfold gSub2 at h
  obtain ⟨y, a, b, rfl, a1, a2, h⟩ := gK_ok he hv h
  split at h
  · rename_i q
    rw [Bool.and_eq_true, bLe_iff, bLe_iff] at q
    exact ⟨h, y, rfl, by omega, by omega⟩
  · cases h
theorem vin2 {iv : Int32} {n : Nat} (h1 : 0 ≤ iv.toInt) (h2 : iv.toInt < n) : vp_in iv n := vp_in_iff.mpr ⟨h1, h2⟩
theorem mG.cons {θ : Nat → Int32} {n e A : Nat} {p v : AV} {j : Int32} {w : Value} {m : MW} {h : PH} (H : mG rs θ n m h) (h1 : adR rs θ n e A) (h2 : vG rs θ n p (.int j)) (h3 : 0 ≤ j.toInt) (h4 : cellAt h A j.toInt.toNat w) (h5 : vG rs θ n v w) : mG rs θ n ((e, p, v) :: m) h := by
  intro f hf
  rcases List.mem_cons.mp hf with rfl | hf
  · exact ⟨A, j, w, h1, h2, h3, h4, h5⟩
  · exact H f hf
theorem rsel_ok {θ : Nat → Int32} {n sd : Nat} {rl : List (Int × Int)} {i : AV} {iv : Int32} {k : Int → Int → Bool} (hi : vG rs θ n i (.int iv)) (h0 : 0 ≤ iv.toInt) (H : rsel sd rl i k = true) : ∃ r, rl[iv.toInt.toNat % sd]? = some r ∧ k r.1 r.2 = true := by
  unfold rsel at H
  split at H
  · rename_i q hq
    split at H
    · rename_i r hr
      refine ⟨r, ?_, H⟩
      rw [lget_eq] at hr
      have : iv.toInt.toNat % sd = q := by
        unfold resid at hq
        split at hq
        · rename_i h1
          rw [beq_iff] at h1
          subst h1
          cases hq
          exact Nat.mod_one _
        · split at hq
          · obtain ⟨y, e1, e2⟩ := hi
            cases e1
            cases hq
            rw [e2]; rfl
          · rename_i t a b
            split at hq
            · rename_i ha
              rw [bEq_iff] at ha
              obtain ⟨-, y, e1, e2⟩ := hi
              cases e1
              cases hq
              have ha : a % (sd : Int) = 0 := ha
              have h3 : iv.toInt % (sd : Int) = b % (sd : Int) := by
                rw [e2, Int.add_emod, Int.mul_emod, ha]; simp
              show _ = (b % (sd : Int)).toNat
              rw [← h3, Int.toNat_emod h0 (by omega)]
              rfl
            · cases hq
          · cases hq
      rw [this]; exact hr
    · cases H
  · cases H
theorem rselR_ok {θ : Nat → Int32} {n sd : Nat} {rl : List (Int × Int)} {i : AV} {iv x : Int32} {k : Int → Int → Bool} (hi : vG rs θ n i (.int iv)) (h0 : 0 ≤ iv.toInt) (hx : ∃ r, rl[iv.toInt.toNat % sd]? = some r ∧ r.1 ≤ x.toInt ∧ x.toInt ≤ r.2) (H : rselR sd rl i k = true) : ∃ lo hi, lo ≤ x.toInt ∧ x.toInt ≤ hi ∧ k lo hi = true := by
  unfold rselR at H
  split at H
  · obtain ⟨r1, hr1, H⟩ := rsel_ok hi h0 H
    obtain ⟨r0, hr0, hb⟩ := hx
    cases hr0.symm.trans hr1
    exact ⟨_, _, hb.1, hb.2, H⟩
  · have a := x.le_toInt
    have b := x.toInt_lt
    exact ⟨iLo, iHi, by show (-2147483648 : Int) ≤ _; omega, by show _ ≤ (2147483647 : Int); omega, H⟩
theorem one_r {lo hi v : Int} {j : Nat} : (∃ r, [(lo, hi)][j % 1]? = some r ∧ r.1 ≤ v ∧ v ≤ r.2) ↔ lo ≤ v ∧ v ≤ hi := by
  rw [Nat.mod_one]
  constructor
  · rintro ⟨r, h1, h2⟩
    cases h1
    exact h2
  · intro h
    exact ⟨_, rfl, h⟩
theorem po_iald : PG n0 θ0 h0 C S M hd rs wr Q K (g_iald (pc + 1)) (pc, .iaload, ta, tb) := by
  intro env lv st m c s go call ret θ lv' st' h' hag hn0 he hlv hst hm hh hgo hcall hret H
  unfold g_iald at H
  split at H
  · rename_i i e r
    obtain ⟨w, _, rfl, hi, w2, r', rfl, hx, hr⟩ := hst
    obtain ⟨A, hA, rfl⟩ := hx
    split at H
    · rename_i l z sd rl hq
      obtain ⟨i0, y, g1, g2, g, rfl, g3⟩ := hA.cell hh.1 hq
      obtain ⟨H, iv, rfl, i1, i2⟩ := gIn_ok he hi H
      have hj : iv.toNatClampNeg = iv.toInt.toNat := rfl
      refine iald_mk (S := S) (k := fun st => K (pc + 1) lv' st h' c s) g2 (vin2 i1 i2) ?_
      rw [hj]
      rcases mfind_ok H with H | ⟨f, f1, f2, f3, H⟩
      · obtain ⟨lo, hi2, b1, b2, H⟩ := rselR_ok hi i1 (g3 iv.toInt.toNat (by omega)) H
        obtain ⟨env2, v2, θ2, H, hx2, he2, hv2⟩ := frs_ok (rs := rs) he b1 b2 H
        obtain ⟨a1, a2⟩ := ag_ext hag hn0 hx2
        exact hgo _ _ _ _ _ _ _ H _ _ _ _ a1 a2 he2 (hlv.ext hx2) ⟨_, _, rfl, hv2, hr.gext hx2⟩ ((hm.ext hx2).cons (hA.ext hx2) (hi.ext hx2) i1 (Or.inl ⟨_, _, g2, rfl⟩) hv2) hh
      · obtain ⟨B, j2, w3, m1, m2, m3, m4, m5⟩ := hm f f1
        rw [f2] at m1
        cases m1.one hA
        cases aEq_one f3 m2 hi
        have hw3 : w3 = .int (g iv.toInt.toNat) := by
          rcases m4 with ⟨z2, g4, b1, b2⟩ | ⟨ci, gs, b1, b2⟩
          · cases g2.symm.trans b1; exact b2
          · cases g2.symm.trans b1
        rw [hw3] at m5
        exact hgo _ _ _ _ _ _ _ H _ _ _ _ hag hn0 he hlv ⟨_, _, rfl, m5, hr⟩ hm hh
    · cases H
  · cases H
theorem po_iast (hdj : DJ rs) : PG n0 θ0 h0 C S M hd rs wr Q K (g_iast (pc + 1)) (pc, .iastore, ta, tb) := by
  intro env lv st m c s go call ret θ lv' st' h' hag hn0 he hlv hst hm hh hgo hcall hret H
  unfold g_iast at H
  split at H
  · rename_i v i e r
    obtain ⟨w0, _, rfl, hv, w, _, rfl, hi, w2, r', rfl, hx, hr⟩ := hst
    obtain ⟨A, hA, rfl⟩ := hx
    split at H
    · rename_i l z sd rl hq
      obtain ⟨i0, y, g1, g2, g, rfl, g3⟩ := hA.cell hh.1 hq
      obtain ⟨H, iv, rfl, i1, i2⟩ := gIn_ok he hi H
      obtain ⟨r0, hr0, H⟩ := rsel_ok hi i1 H
      obtain ⟨H, xv, rfl, x1, x2⟩ := gSub2_ok he hv H
      obtain ⟨H, hwr⟩ := wAll_ok H
      obtain ⟨m2, H, hm2⟩ := mdrop_ok H
      have hk : rs[e / 65536]? = some (l, .inl (z, sd, rl)) := by unfold kspec at hq; rw [lget_eq] at hq; exact hq
      have hl : A < h'.length := (List.getElem?_eq_some_iff.mp g2).1
      refine iast_mk (k := fun st h => K (pc + 1) lv' st h c s) g2 (vin2 i1 i2) ?_
      have hj : iv.toNatClampNeg = iv.toInt.toNat := rfl
      rw [hj]
      have hcell : cellAt (h'.set A (.inl (0, z, .inl (upd g iv.toInt.toNat xv)))) A iv.toInt.toNat (.int xv) := Or.inl ⟨_, _, List.getElem?_set_self hl, by rw [show upd g iv.toInt.toNat xv iv.toInt.toNat = xv from if_pos rfl]⟩
      refine hgo _ _ _ _ _ _ _ H _ _ _ _ hag hn0 he hlv hr ((hm.keep hdj hk g1 hi i1 hm2 ?_).cons hA hi i1 hcell hv) (hh.set hdj hk g1 ⟨_, rfl, fun j hj => ?_⟩ (fun f hf => absurd (wIn_all hwr f) hf))
      · intro j2 w3 hne hc
        rcases hc with ⟨z2, g4, b1, b2⟩ | ⟨ci, gs, b1, b2⟩
        · cases g2.symm.trans b1
          exact Or.inl ⟨_, _, List.getElem?_set_self hl, by rw [b2, show upd g iv.toInt.toNat xv j2 = g j2 from if_neg hne]⟩
        · cases g2.symm.trans b1
      · unfold upd
        split
        · rename_i hjj
          exact ⟨r0, by rw [hjj]; exact hr0, x1, x2⟩
        · exact g3 j hj
    · cases H
  · cases H
theorem po_last (hdj : DJ rs) : PG n0 θ0 h0 C S M hd rs wr Q K (g_last (pc + 1)) (pc, .lastore, ta, tb) := by
  intro env lv st m c s go call ret θ lv' st' h' hag hn0 he hlv hst hm hh hgo hcall hret H
  unfold g_last at H
  split at H
  · rename_i x i e r
    obtain ⟨w0, _, rfl, ⟨xv, rfl⟩, w, _, rfl, hi, w2, r', rfl, hx, hr⟩ := hst
    obtain ⟨A, hA, rfl⟩ := hx
    split at H
    · rename_i l z hq
      obtain ⟨i0, y, g1, g2, g, rfl⟩ := hA.cell hh.1 hq
      obtain ⟨H, iv, rfl, i1, i2⟩ := gIn_ok he hi H
      have hk : rs[e / 65536]? = some (l, .inr (.inl z)) := by unfold kspec at hq; rw [lget_eq] at hq; exact hq
      refine last_mk (k := fun st h => K (pc + 1) lv' st h c s) g2 (vin2 i1 i2) ?_
      refine hgo _ _ _ _ _ _ _ H _ _ _ _ hag hn0 he hlv hr ?_ (hh.set hdj hk g1 ⟨_, rfl⟩ (fun f hf w hc => by rcases hc with ⟨z2, g4, b1, b2⟩ | ⟨ci, gs, b1, b2⟩ <;> cases g2.symm.trans b1))
      intro f hf
      obtain ⟨B, j2, w3, m1, m2, m3, m4, m5⟩ := hm f hf
      refine ⟨B, j2, w3, m1, m2, m3, ?_, m5⟩
      have hAB : ¬ A = B := fun q => by
        subst q
        rcases m4 with ⟨z2, g4, b1, b2⟩ | ⟨ci, gs, b1, b2⟩ <;> cases g2.symm.trans b1
      rcases m4 with ⟨z2, g4, b1, b2⟩ | ⟨ci, gs, b1, b2⟩
      · exact Or.inl ⟨_, _, by rw [List.getElem?_set_ne hAB]; exact b1, b2⟩
      · exact Or.inr ⟨_, _, by rw [List.getElem?_set_ne hAB]; exact b1, b2⟩
    · cases H
  · cases H
theorem po_alen : PG n0 θ0 h0 C S M hd rs wr Q K (g_alen (pc + 1)) (pc, .arraylength, ta, tb) := by
  intro env lv st m c s go call ret θ lv' st' h' hag hn0 he hlv hst hm hh hgo hcall hret H
  unfold g_alen at H
  split at H
  · rename_i e r
    obtain ⟨w, r', rfl, hx, hr⟩ := hst
    obtain ⟨A, hA, rfl⟩ := hx
    split at H
    · rename_i l z lo hi2 hq
      split at H
      · rename_i hz
        rw [blt_iff] at hz
        obtain ⟨i0, y, g1, g2, g, rfl, g3⟩ := hA.cell hh.1 hq
        exact alen_mk (S := S) (k := fun st => K (pc + 1) lv' st h' c s) g2 (by omega) (hgo _ _ _ _ _ _ _ H _ _ _ _ hag hn0 he hlv ⟨_, _, rfl, ⟨_, rfl, Int32.toInt_ofNat_of_lt (by omega)⟩, hr⟩ hm hh)
      · cases H
    · cases H
  · cases H
theorem kto_ok {θ : Nat → Int32} {n e A i k : Nat} {c : Nat → Bool} {w : Value} (hA : adR rs θ n e A) {q : List Nat × CS} (hq : kspec rs e = some q) (hi : q.1[i]? = some A) (hnd : DJ rs) (hw : asR rs i (.inr k) w) (h : kto rs e k c = true) : ∃ e2, c e2 = true ∧ vG rs θ n (aC e2) w := by
  obtain ⟨q2, B, b1, b2, rfl⟩ := hw
  unfold kto at h
  rw [lget_eq, b1] at h
  dsimp only at h
  split at h
  · rename_i ho
    rw [if_pos ho] at b2
    refine ⟨_, natF_ok h, B, ⟨q2, ?_, Or.inl ⟨ho, b2⟩⟩, rfl⟩
    rw [show (k * 65536 + 65535) / 65536 = k by omega]; exact b1
  · rename_i ho
    rw [hq] at h
    dsimp only at h
    rw [if_neg (by rw [ho]; simp)] at b2
    split at h
    · rename_i hlen
      rw [beq_iff] at hlen
      have hk : rs[e / 65536]? = some q := by unfold kspec at hq; rw [lget_eq] at hq; exact hq
      obtain ⟨q3, a1, a2⟩ := hA
      cases hk.symm.trans a1
      rcases a2 with ⟨a2, a3⟩ | ⟨a2, a3, a4, a5⟩
      · exfalso
        have h1 : q.1.length = 1 := by
          unfold isOne at a2
          split at a2
          · rename_i hl; rw [hl]; rfl
          · cases a2
        have h2 : q2.1.length = 1 := by rw [← hlen]; exact h1
        unfold isOne at ho
        split at ho
        · cases ho
        · rename_i hno
          cases hl : q2.1 with
          | nil => rw [hl] at h2; cases h2
          | cons x xs =>
            cases xs with
            | nil => exact hno x hl
            | cons y ys => rw [hl] at h2; simp at h2
      · obtain ⟨-, ei⟩ := hnd _ _ _ _ _ _ _ hk hi hk a5
        refine ⟨_, natF_ok h, B, ⟨q2, ?_, Or.inr ⟨ho, ?_, ?_, ?_⟩⟩, rfl⟩
        · rw [show (k * 65536 + Nat.mod e 65536) / 65536 = k by have := Nat.mod_lt e (show 0 < 65536 by omega); show (k * 65536 + e % 65536) / 65536 = k; omega]; exact b1
        all_goals rw [show (k * 65536 + Nat.mod e 65536) % 65536 = e % 65536 by show (k * 65536 + e % 65536) % 65536 = _; omega]
        · exact a3
        · exact a4
        · rw [← ei]; exact b2
    · cases h
theorem fnum_lt (ci : Nat) : fnum ci < 100 := by
  unfold fnum
  split
  · rename_i r2 hr2
    have := List.all_eq_true.mp (show vwCl.all (fun r => decide (r.2.2 < 100)) = true by decide) r2 (List.mem_of_getElem? hr2)
    simpa using this
  · omega
theorem po_get (hdj : DJ rs) {i : Nat} (hf : tb < fnum ta) : PG n0 θ0 h0 C S M hd rs wr Q K (g_get ta tb (pc + 3)) (pc, .getfield i, ta, tb) := by
  intro env lv st m c s go call ret θ lv' st' h' hag hn0 he hlv hst hm hh hgo hcall hret H
  unfold g_get at H
  split at H
  · rename_i e r
    obtain ⟨w, r', rfl, hx, hr⟩ := hst
    obtain ⟨A, hA, rfl⟩ := hx
    split at H
    · rename_i l cj fs hq
      split at H
      · rename_i hn
        rw [beq_iff] at hn
        subst hn
        obtain ⟨i0, y, g1, g2, gs, rfl, g3, g4⟩ := hA.cell hh.1 hq
        rw [lget_eq] at H
        split at H
        · rename_i lo hi2 hfs
          obtain ⟨w2, hw2, hw3⟩ := g4 _ _ hfs
          refine get_mk (k := fun st => K (pc + 3) lv' st h' c s) g2 hf hw2 ?_
          rcases mfind_ok H with H | ⟨f, f1, f2, f3, H⟩
          · obtain ⟨yv, rfl, y1, y2⟩ := hw3
            obtain ⟨env2, v2, θ2, H, hx2, he2, hv2⟩ := frs_ok (rs := rs) he y1 y2 H
            obtain ⟨a1, a2⟩ := ag_ext hag hn0 hx2
            have hb : tb < 2147483648 := by have := fnum_lt cj; omega
            exact hgo _ _ _ _ _ _ _ H _ _ _ _ a1 a2 he2 (hlv.ext hx2) ⟨_, _, rfl, hv2, hr.gext hx2⟩ ((hm.ext hx2).cons (hA.ext hx2) (j := Int32.ofNat tb) ⟨_, rfl, Int32.toInt_ofNat_of_lt (by omega)⟩ (by rw [Int32.toInt_ofNat_of_lt (by omega)]; omega) (Or.inr ⟨_, _, g2, by rw [Int32.toInt_ofNat_of_lt (by omega)]; exact hw2⟩) hv2) hh
          · obtain ⟨B, j2, w4, m1, m2, m3, m4, m5⟩ := hm f f1
            rw [f2] at m1
            cases m1.one hA
            have ef := aEq_ok f3
            rw [ef] at m2
            obtain ⟨j3, e3, e4⟩ := m2
            cases e3
            have e4 : j2.toInt = (tb : Int) := e4
            have hw4 : w4 = w2 := by
              rcases m4 with ⟨z2, g5, b1, b2⟩ | ⟨ci, gs2, b1, b2⟩
              · cases g2.symm.trans b1
              · cases g2.symm.trans b1
                rw [e4] at b2
                exact Option.some.inj (b2.symm.trans hw2)
            rw [hw4] at m5
            exact hgo _ _ _ _ _ _ _ H _ _ _ _ hag hn0 he hlv ⟨_, _, rfl, m5, hr⟩ hm hh
        · rename_i k hfs
          obtain ⟨w2, hw2, hw3⟩ := g4 _ _ hfs
          obtain ⟨e2, H, hv2⟩ := kto_ok hA hq g1 hdj hw3 H
          exact get_mk (k := fun st => K (pc + 3) lv' st h' c s) g2 hf hw2 (hgo _ _ _ _ _ _ _ H _ _ _ _ hag hn0 he hlv ⟨_, _, rfl, hv2, hr⟩ hm hh)
        · cases H
      · cases H
    · cases H
  · cases H
theorem bit01 {y : Int32} (h1 : 0 ≤ y.toInt) (h2 : y.toInt ≤ 1) : y = 0 ∨ y = 1 := by
  rcases (show y.toInt = 0 ∨ y.toInt = 1 by omega) with q | q
  · exact Or.inl (toInt_inj (by rw [q]; decide))
  · exact Or.inr (toInt_inj (by rw [q]; decide))
theorem put_core (hdj : DJ rs) {i : Nat} (hf : tb < fnum ta) {env : EW} {lv st : LW} {m : MW} {c s : Nat} {go : GG} {call : Nat → Bool → Bool} {ret : AQ → Bool} {θ : Nat → Int32} {lv' : LV} {st' : List Value} {h' : PH} (hag : ∀ t, t < n0 → θ t = θ0 t) (hn0 : n0 ≤ env.1) (he : eG θ env) (hlv : lG rs θ env.1 lv lv') (hst : A2 (vG rs θ env.1) st st') (hm : mG rs θ env.1 m h') (hh : HW rs wr h0 h') (hgo : ∀ pc2 env2 lv2 st2 m2 c2 s2, go pc2 env2 lv2 st2 m2 c2 s2 = true → ∀ θ2 lv2' st2' h2', (∀ t, t < n0 → θ2 t = θ0 t) → n0 ≤ env2.1 → eG θ2 env2 → lG rs θ2 env2.1 lv2 lv2' → A2 (vG rs θ2 env2.1) st2 st2' → mG rs θ2 env2.1 m2 h2' → HW rs wr h0 h2' → K pc2 lv2' st2' h2' c2 s2) (hty : ∀ (y : Int32) (r : List Value), st' = .int y :: r → narrow (ftyX ta tb) (.int y) = .int y ∧ fits (ftyX ta tb) (.int y) = true) (H : g_put ta tb (pc + 3) (M, hd, rs, wr) env lv st m c s go call ret = true) : pmI C S M hd Q K (pc, .putfield i, ta, tb) lv' st' h' c s := by
  unfold g_put at H
  split at H
  · rename_i v e r
    obtain ⟨w0, _, rfl, hv, w, r', rfl, hx, hr⟩ := hst
    obtain ⟨A, hA, rfl⟩ := hx
    split at H
    · rename_i l cj fs hq
      split at H
      · rename_i hn
        rw [beq_iff] at hn
        subst hn
        obtain ⟨i0, y, g1, g2, gs, rfl, g3, g4⟩ := hA.cell hh.1 hq
        rw [lget_eq] at H
        split at H
        · rename_i lo hi2 hfs
          obtain ⟨H, xv, rfl, x1, x2⟩ := gSub2_ok he hv H
          obtain ⟨H, hwr⟩ := wHas_ok H
          obtain ⟨m2, H, hm2⟩ := mdrop_ok H
          obtain ⟨t1, t2⟩ := hty xv _ rfl
          have hk : rs[e / 65536]? = some (l, .inr (.inr (.inr (cj, fs)))) := by unfold kspec at hq; rw [lget_eq] at hq; exact hq
          have hl : A < h'.length := (List.getElem?_eq_some_iff.mp g2).1
          have hfl : tb < gs.length := by rw [g3]; exact (List.getElem?_eq_some_iff.mp hfs).1
          have hb : tb < 2147483648 := by have := fnum_lt cj; omega
          have htb : (Int32.ofNat tb).toInt = (tb : Int) := Int32.toInt_ofNat_of_lt (by omega)
          have hpl : vG rs θ env.1 (.inl (.ofNat tb)) (.int (Int32.ofNat tb)) := ⟨_, rfl, htb⟩
          have hoth : ∀ (j2 : Nat) (w3 : Value), ¬ j2 = tb → cellAt h' A j2 w3 → cellAt (h'.set A (.inr (cj, gs.set tb (.int xv)))) A j2 w3 := by
            intro j2 w3 hne hc
            rcases hc with ⟨z2, g5, b1, b2⟩ | ⟨ci, gs2, b1, b2⟩
            · cases g2.symm.trans b1
            · cases g2.symm.trans b1
              exact Or.inr ⟨_, _, List.getElem?_set_self hl, by rw [List.getElem?_set_ne (fun q => hne q.symm)]; exact b2⟩
          refine put_mk (k := fun st h => K (pc + 3) lv' st h c s) g2 hf hfl t1 t2 ?_
          refine hgo _ _ _ _ _ _ _ H _ _ _ _ hag hn0 he hlv hr ((hm.keep hdj hk g1 hpl (by omega) hm2 ?_).cons hA hpl (by omega) (Or.inr ⟨_, _, List.getElem?_set_self hl, by rw [htb]; exact List.getElem?_set_self hfl⟩) hv) (hh.set hdj hk g1 ⟨_, rfl, by rw [List.length_set]; exact g3, fun f a hfa => ?_⟩ (fun f hf w hc => hoth f w (fun q => hf (by rw [q]; exact hwr)) hc))
          · intro j2 w3 hne hc
            rw [htb] at hne
            exact hoth j2 w3 hne hc
          · by_cases hft : tb = f
            · subst hft
              cases hfs.symm.trans hfa
              exact ⟨.int xv, List.getElem?_set_self hfl, xv, rfl, x1, x2⟩
            · obtain ⟨w5, h5, h6⟩ := g4 f a hfa
              exact ⟨w5, by rw [List.getElem?_set_ne hft]; exact h5, h6⟩
        · cases H
      · cases H
    · cases H
  · cases H
theorem po_puti (hdj : DJ rs) {i : Nat} (hf : tb < fnum ta) (hty : ftyX ta tb = .int) : PG n0 θ0 h0 C S M hd rs wr Q K (g_put ta tb (pc + 3)) (pc, .putfield i, ta, tb) := by
  intro env lv st m c s go call ret θ lv' st' h' hag hn0 he hlv hst hm hh hgo hcall hret H
  exact put_core hdj hf hag hn0 he hlv hst hm hh hgo (fun y r _ => by rw [hty]; exact ⟨rfl, rfl⟩) H
theorem po_putb (hdj : DJ rs) {i : Nat} (hf : tb < fnum ta) (hty : ftyX ta tb = .boolean) : PG n0 θ0 h0 C S M hd rs wr Q K (g_putb ta tb (pc + 3)) (pc, .putfield i, ta, tb) := by
  intro env lv st m c s go call ret θ lv' st' h' hag hn0 he hlv hst hm hh hgo hcall hret H
  unfold g_putb at H
  split at H
  · have hst0 := hst
    obtain ⟨w, r', rfl, hx, hr⟩ := hst
    obtain ⟨H, yv, rfl, y1, y2⟩ := gSub2_ok he hx H
    refine put_core hdj hf hag hn0 he hlv hst0 hm hh hgo (fun y r hy => ?_) H
    cases hy
    rw [hty]
    rcases bit01 y1 y2 with rfl | rfl <;> exact ⟨rfl, rfl⟩
  · cases H
theorem frs_x {θ : Nat → Int32} {env : EW} (he : eG θ env) {lo hi : Int} {k : EW → AV → Bool} {v : Int32} (h1 : lo ≤ v.toInt) (h2 : v.toInt ≤ hi) (h : frs env lo hi k = true) : k (env.1 + 1, (lo, hi) :: env.2) (aY env.1 1 0) = true ∧ Ext θ env.1 (th θ env.1 v) (env.1 + 1) ∧ eG (th θ env.1 v) (env.1 + 1, (lo, hi) :: env.2) := by
  have h := natF_ok (iF_ok (iF_ok h))
  refine ⟨h, ⟨Nat.le_succ _, fun t ht => if_neg (by omega)⟩, ⟨by show (_ :: env.2).length = _; rw [List.length_cons, he.1], fun i r hi => ?_⟩⟩
  cases i with
  | zero =>
    cases hi
    show lo ≤ (th θ env.1 v (env.1 + 1 - 1 - 0)).toInt ∧ (th θ env.1 v (env.1 + 1 - 1 - 0)).toInt ≤ hi
    rw [show th θ env.1 v (env.1 + 1 - 1 - 0) = v from if_pos (by omega)]
    exact ⟨h1, h2⟩
  | succ i =>
    have hi2 : env.2[i]? = some r := by simpa using hi
    have hl : i < env.2.length := (List.getElem?_eq_some_iff.mp hi2).1
    rw [he.1] at hl
    have h3 := he.2 i r hi2
    show r.1 ≤ (th θ env.1 v (env.1 + 1 - 1 - (i + 1))).toInt ∧ (th θ env.1 v (env.1 + 1 - 1 - (i + 1))).toInt ≤ r.2
    rw [show th θ env.1 v (env.1 + 1 - 1 - (i + 1)) = θ (env.1 - 1 - i) from by
      unfold th; rw [if_neg (by omega)]; congr 1; omega]
    exact h3
theorem ad_mk {θ : Nat → Int32} {n k u A : Nat} {q : List Nat × CS} (hu : u < 65536) (hq : rs[k]? = some q) (h0 : isOne q.1 = false) (hun : u < n) (h1 : 0 ≤ (θ u).toInt) (h2 : q.1[(θ u).toInt.toNat]? = some A) : adR rs θ n (k * 65536 + u) A := by
  refine ⟨q, ?_, Or.inr ⟨h0, ?_, ?_, ?_⟩⟩
  · rw [show (k * 65536 + u) / 65536 = k by omega]; exact hq
  all_goals rw [show (k * 65536 + u) % 65536 = u by omega]
  · exact hun
  · exact h1
  · exact h2
theorem po_aald : PG n0 θ0 h0 C S M hd rs wr Q K (g_aald (pc + 1)) (pc, .aaload, ta, tb) := by
  intro env lv st m c s go call ret θ lv' st' h' hag hn0 he hlv hst hm hh hgo hcall hret H
  unfold g_aald at H
  split at H
  · rename_i i e r
    obtain ⟨w, _, rfl, hi, w2, r', rfl, hx, hr⟩ := hst
    obtain ⟨A, hA, rfl⟩ := hx
    split at H
    · rename_i l t k hq
      obtain ⟨i0, y, g1, g2, ht, q, g, b1, b0, rfl, b2⟩ := hA.cell hh.1 hq
      rw [lget_eq, b1] at H
      dsimp only at H
      split at H
      · rename_i u
        split at H
        · rename_i hu
          rw [blt_iff] at hu
          obtain ⟨H, iv, rfl, i1, i2⟩ := gIn_ok he hi H
          have H := natF_ok H
          have hlt : iv.toInt.toNat < q.1.length := by omega
          have hg := b2 iv.toInt.toNat q.1[iv.toInt.toNat] (List.getElem?_eq_getElem hlt)
          obtain ⟨hun, iv2, e1, e2⟩ := hi
          cases e1
          have e2 : iv.toInt = 1 * (θ u).toInt + 0 := e2
          have e3 : (θ u).toInt = iv.toInt := by omega
          refine aald_mk (k := fun st => K (pc + 1) lv' st h' c s) g2 ht (vin2 i1 i2) hg ?_
          exact hgo _ _ _ _ _ _ _ H _ _ _ _ hag hn0 he hlv ⟨_, _, rfl, ⟨q.1[iv.toInt.toNat], ad_mk hu b1 b0 hun (by omega) (by rw [e3]; exact List.getElem?_eq_getElem hlt), rfl⟩, hr⟩ hm hh
        · cases H
      · split at H
        · rename_i hu
          rw [blt_iff] at hu
          obtain ⟨H, iv, rfl, i1, i2⟩ := gIn_ok he hi H
          have hlt : iv.toInt.toNat < q.1.length := by omega
          have hg := b2 iv.toInt.toNat q.1[iv.toInt.toNat] (List.getElem?_eq_getElem hlt)
          obtain ⟨iv2, lo, hi2, e1, a1, a2, H⟩ := gK_ok he hi H
          cases e1
          obtain ⟨H, hx2, he2⟩ := frs_x he a1 a2 H
          have H := natF_ok H
          obtain ⟨c1, c2⟩ := ag_ext hag hn0 hx2
          have e3 : th θ env.1 iv env.1 = iv := if_pos rfl
          refine aald_mk (k := fun st => K (pc + 1) lv' st h' c s) g2 ht (vin2 i1 i2) hg ?_
          exact hgo _ _ _ _ _ _ _ H _ _ _ _ c1 c2 he2 (hlv.ext hx2) ⟨_, _, rfl, ⟨q.1[iv.toInt.toNat], ad_mk hu b1 b0 (Nat.lt_succ_self _) (by rw [e3]; exact i1) (by rw [e3]; exact List.getElem?_eq_getElem hlt), rfl⟩, hr.gext hx2⟩ (hm.ext hx2) hh
        · cases H
    · cases H
  · cases H
theorem po_throw {i : Nat} {x : Nat × Nat × Nat × Nat × Nat × Nat} (h1 : tb = 1) (hx : XLs[ta]? = some x) : PG n0 θ0 h0 C S M hd rs wr Q K (g_throw x.2.2.1) (pc, .new i, ta, tb) := by
  intro env lv st m c s go call ret θ lv' st' h' hag hn0 he hlv hst hm hh hgo hcall hret H
  unfold g_throw at H
  split at H
  · rename_i hhd
    split at H
    · rename_i hn
      rw [Bool.and_eq_true, Bool.and_eq_true, Nat.ble_eq, Nat.ble_eq, Nat.ble_eq] at hn
      exact Or.inr ⟨h1, hhd, hn.1, hn.2.1, by rw [gcats_ok hst]; exact hn.2.2, x, hx, hret _ H _ rfl⟩
    · cases H
  · cases H
theorem po_iret : PG n0 θ0 h0 C S M hd rs wr Q K g_iret (pc, .ireturn, ta, tb) := by
  intro env lv st m c s go call ret θ lv' st' h' hag hn0 he hlv hst hm hh hgo hcall hret H
  unfold g_iret at H
  split at H
  · obtain ⟨w, r', rfl, hx, hr⟩ := hst
    cases (show r' = [] from hr)
    split at H
    · rename_i hR
      split at H
      · rename_i hn
        obtain ⟨xv, rfl⟩ := gnum hn hx
        exact ⟨xv, rfl, ⟨_, hR, rfl⟩, hret _ H _ (A2.one hx)⟩
      · cases H
    · rename_i hR
      obtain ⟨H, yv, rfl, y1, y2⟩ := gSub2_ok he hx H
      exact ⟨yv, rfl, ⟨_, hR, by rcases bit01 y1 y2 with rfl | rfl <;> rfl⟩, hret _ H _ (A2.one hx)⟩
    · cases H
  · cases H
theorem po_lret : PG n0 θ0 h0 C S M hd rs wr Q K g_lret (pc, .lreturn, ta, tb) := by
  intro env lv st m c s go call ret θ lv' st' h' hag hn0 he hlv hst hm hh hgo hcall hret H
  unfold g_lret at H
  split at H
  · obtain ⟨w, r', rfl, hx, hr⟩ := hst
    cases (show r' = [] from hr)
    split at H
    · rename_i hR
      split at H
      · rename_i hn
        obtain ⟨x, rfl⟩ := long_of hn hx
        exact ⟨x, rfl, hR, hret _ H _ (A2.one hx)⟩
      · cases H
    · cases H
  · cases H
theorem po_aret : PG n0 θ0 h0 C S M hd rs wr Q K g_aret (pc, .areturn, ta, tb) := by
  intro env lv st m c s go call ret θ lv' st' h' hag hn0 he hlv hst hm hh hgo hcall hret H
  unfold g_aret at H
  split at H
  · obtain ⟨w, r', rfl, hx, hr⟩ := hst
    have hx0 := hx
    obtain ⟨A, hA, rfl⟩ := hx
    cases (show r' = [] from hr)
    split at H
    · rename_i hR
      exact ⟨_, rfl, ⟨_, hR⟩, hret _ H _ (A2.one hx0)⟩
    · cases H
  · cases H
theorem po_ret : PG n0 θ0 h0 C S M hd rs wr Q K g_ret (pc, .return_, ta, tb) := by
  intro env lv st m c s go call ret θ lv' st' h' hag hn0 he hlv hst hm hh hgo hcall hret H
  unfold g_ret at H
  split at H
  · cases (show st' = [] from hst)
    split at H
    · rename_i hR
      exact ⟨rfl, hR, hret _ H _ rfl⟩
    · cases H
  · cases H
theorem po_copy (hdj : DJ rs) {i : Nat} (h7 : tb = 7) : PG n0 θ0 h0 C S M hd rs wr Q K (g_copy (pc + 3)) (pc, .invokestatic i, ta, tb) := by
  intro env lv st m c s go call ret θ lv' st' h' hag hn0 he hlv hst hm hh hgo hcall hret H
  unfold g_copy at H
  split at H
  · rename_i z dp e1 sp e0 r
    obtain ⟨wz, _, rfl, hz, wd, _, rfl, hdp, w1, _, rfl, hx1, ws, _, rfl, hsp, w0, r', rfl, hx0, hr⟩ := hst
    obtain ⟨A1, hA1, rfl⟩ := hx1
    obtain ⟨A0, hA0, rfl⟩ := hx0
    split at H
    · rename_i l0 n0' lo0 hi0 hq0
      split at H
      · rename_i l1 n1' lo1 hi1 hq1
        obtain ⟨j0, y0, a1, a2, f, rfl, a3⟩ := hA0.cell hh.1 hq0
        obtain ⟨j1, y1, b1, b2, g, rfl, b3⟩ := hA1.cell hh.1 hq1
        obtain ⟨zv, za, zb, rfl, z1, z2, H⟩ := gK_ok he hz H
        obtain ⟨dv, da, db, rfl, d1, d2, H⟩ := gK_ok he hdp H
        obtain ⟨sv, sa, sb, rfl, s1, s2, H⟩ := gK_ok he hsp H
        split at H
        · rename_i hb
          simp only [Bool.and_eq_true, bLe_iff, Nat.ble_eq] at hb
          obtain ⟨⟨c1, c2, c3⟩, ⟨c4, c5⟩, ⟨c6, c7⟩, c8⟩ := hb
          have c4 : sb + zb ≤ (n0' : Int) := c4
          have c5 : db + zb ≤ (n1' : Int) := c5
          obtain ⟨H, hwr⟩ := wAll_ok H
          obtain ⟨m2, H, hm2⟩ := mdrop_ok H
          have hk : rs[e1 / 65536]? = some (l1, .inl (n1', 1, [(lo1, hi1)])) := by unfold kspec at hq1; rw [lget_eq] at hq1; exact hq1
          have ng : ∀ {x : Int32}, 0 ≤ x.toInt → ¬ x < 0 := fun h q => by
            rw [Int32.lt_iff_toInt_lt] at q
            have : (0 : Int32).toInt = 0 := by decide
            omega
          have tn : ∀ x : Int32, x.toNatClampNeg = x.toInt.toNat := fun _ => rfl
          refine Or.inl ⟨h7, copy_mk (k := fun st h => (st.map Value.category).sum ≤ 8 ∧ K (pc + 3) lv' st h c s) a2 b2 (ng (by omega)) (ng (by omega)) (ng (by omega)) (by rw [tn, tn]; omega) (by rw [tn, tn]; omega) ⟨by rw [gcats_ok hr]; exact c8, ?_⟩⟩
          refine hgo _ _ _ _ _ _ _ H _ _ _ _ hag hn0 he hlv hr ?_ (hh.set hdj hk b1 ⟨_, rfl, fun j hj => ?_⟩ (fun f hf => absurd (wIn_all hwr f) hf))
          · intro f2 hf2
            obtain ⟨k1, k2⟩ := hm2 f2 hf2
            obtain ⟨B, j2, w3, m1, m3, m4, m5, m6⟩ := hm f2 k1
            refine ⟨B, j2, w3, m1, m3, m4, ?_, m6⟩
            have hAB : ¬ A1 = B := fun q => by
              subst q
              obtain ⟨q2, i2, e1', e2', -⟩ := m1.get
              obtain ⟨e3', -⟩ := hdj _ _ _ _ _ _ _ e1' e2' hk b1
              exact absurd (k2 e3').2.1 (by decide)
            rcases m5 with ⟨z2, g4, q1, q2⟩ | ⟨ci, gs, q1, q2⟩
            · exact Or.inl ⟨_, _, by rw [List.getElem?_set_ne hAB]; exact q1, q2⟩
            · exact Or.inr ⟨_, _, by rw [List.getElem?_set_ne hAB]; exact q1, q2⟩
          · unfold va_cpy
            split
            · rename_i hin
              have := one_r.mp (a3 (sv.toNatClampNeg + (j - dv.toNatClampNeg)) (by rw [tn, tn] at hin; rw [tn, tn]; omega))
              exact one_r.mpr (by omega)
            · exact b3 j hj
        · cases H
      · cases H
    · cases H
  · cases H
set_option maxHeartbeats 1000000 in
theorem mkG_ok (hdj : DJ rs) (te : TE) : PG n0 θ0 h0 C S M hd rs wr Q K (mkG te) te := by
  obtain ⟨pc, ins, ta, tb⟩ := te
  have kk : ∀ (x : Int32) θ k, vG rs θ k (.inl x.toInt) (.int x) := fun x _ _ => ⟨x, rfl, rfl⟩
  unfold mkG
  dsimp only
  split
  · exact po_push (kk _) (fun _ _ _ _ _ q => q)
  · exact po_push (kk _) (fun _ _ _ _ _ q => q)
  · exact po_push (kk _) (fun _ _ _ _ _ q => q)
  · rename_i n
    exact po_push (w := .long (Int64.ofNat n)) (fun _ _ => ⟨_, rfl⟩) (fun _ _ _ _ _ q => q)
  · split
    · rename_i q hq
      split
      · rename_i h0
        exact po_push (kk q.2.2) (fun _ _ _ _ _ w => ⟨q, hq, h0, w⟩)
      · exact po_no
    · exact po_no
  · split
    · rename_i q hq
      split
      · rename_i h0
        exact po_push (kk q.2.2) (fun _ _ _ _ _ w => ⟨q, hq, h0, w⟩)
      · exact po_no
    · exact po_no
  · exact po_iload (fun _ _ _ _ _ q => q)
  · exact po_iload (fun _ _ _ _ _ q => q)
  · exact po_lload
  · exact po_aload (fun _ _ _ _ _ q => q)
  · exact po_aload (fun _ _ _ _ _ q => q)
  · exact po_istore (fun _ _ _ _ _ q => q)
  · exact po_istore (fun _ _ _ _ _ q => q)
  · exact po_lstore
  · exact po_astore (fun _ _ _ _ _ q => q)
  · exact po_astore (fun _ _ _ _ _ q => q)
  · split
    · rename_i hz; exact po_iinc hz
    · exact po_no
  · exact po_bin (op := (· + ·)) (P := fun _ => True) (fun a b d e => tr5 (op := (· + ·)) (gAdd_ok a b d e)) (fun _ _ _ _ _ _ _ _ q => q)
  · exact po_bin (op := (· - ·)) (P := fun _ => True) (fun a b d e => tr5 (op := (· - ·)) (gSub_ok a b d e)) (fun _ _ _ _ _ _ _ _ q => q)
  · exact po_bin (op := (· * ·)) (P := fun _ => True) (fun a b d e => tr5 (op := (· * ·)) (gMul_ok a b d e)) (fun _ _ _ _ _ _ _ _ q => q)
  · exact po_bin (op := (· / ·)) (P := fun y => ¬ y = 0) (fun a b d e => gDiv_ok a b d e) (fun _ _ _ _ _ _ _ p q => ⟨p, q⟩)
  · exact po_bin (op := fun x y => x - x / y * y) (P := fun y => ¬ y = 0) (fun a b d e => gRem_ok a b d e) (fun _ _ _ _ _ _ _ p q => ⟨p, q⟩)
  · exact po_neg
  · exact po_bin (op := fun x y => x <<< (y &&& 31)) (P := fun _ => True) (fun a b d e => tr5 (op := fun x y => x <<< (y &&& 31)) (gAny_ok a b d e)) (fun _ _ _ _ _ _ _ _ q => q)
  · exact po_bin (op := fun x y => x >>> (y &&& 31)) (P := fun _ => True) (fun a b d e => tr5 (op := fun x y => x >>> (y &&& 31)) (gAny_ok a b d e)) (fun _ _ _ _ _ _ _ _ q => q)
  · exact po_bin (op := fun x y => (x.toUInt32 >>> (y.toUInt32 &&& Int32.toUInt32 31)).toInt32) (P := fun _ => True) (fun a b d e => tr5 (op := fun x y => (x.toUInt32 >>> (y.toUInt32 &&& Int32.toUInt32 31)).toInt32) (gAny_ok a b d e)) (fun _ _ _ _ _ _ _ _ q => q)
  · exact po_bin (op := (· &&& ·)) (P := fun _ => True) (fun a b d e => tr5 (op := (· &&& ·)) (gAny_ok a b d e)) (fun _ _ _ _ _ _ _ _ q => q)
  · exact po_bin (op := (· ||| ·)) (P := fun _ => True) (fun a b d e => tr5 (op := (· ||| ·)) (gAny_ok a b d e)) (fun _ _ _ _ _ _ _ _ q => q)
  · exact po_bin (op := (· ^^^ ·)) (P := fun _ => True) (fun a b d e => tr5 (op := (· ^^^ ·)) (gAny_ok a b d e)) (fun _ _ _ _ _ _ _ _ q => q)
  · exact po_i2l
  · exact po_lcmp
  · exact po_lshl
  · exact po_lbin (fun _ _ _ _ _ _ _ q => q _)
  · exact po_lbin (fun _ _ _ _ _ _ _ q => q _)
  · exact po_dup
  · exact po_dup2
  · exact po_pop
  · unfold jG
    split
    · rename_i h0; exact po_goto h0
    · exact po_no
  · unfold jG
    split
    · rename_i h0; exact po_if h0
    · exact po_no
  · unfold jG
    split
    · rename_i h0; exact po_icmp h0
    · exact po_no
  · split
    · rename_i h1
      unfold jG
      split
      · rename_i h0; exact po_sw h1.1 h1.2 h0
      · exact po_no
    · exact po_no
  · exact po_iald
  · exact po_iast hdj
  · exact po_last hdj
  · exact po_aald
  · exact po_alen
  · split
    · rename_i hf; exact po_get hdj hf
    · exact po_no
  · split
    · rename_i hf
      split
      · rename_i hty; exact po_puti hdj hf hty
      · rename_i hty; exact po_putb hdj hf hty
      · exact po_no
    · exact po_no
  · split
    · rename_i h1
      split
      · rename_i x hx; exact po_throw h1 hx
      · exact po_no
    · exact po_no
  · intro env lv st m c s go call ret θ lv' st' h' hag hn0 he hlv hst hm hh hgo hcall hret H
    exact hcall _ _ H
  · split
    · rename_i h7; exact po_copy hdj h7
    · rename_i h7
      intro env lv st m c s go call ret θ lv' st' h' hag hn0 he hlv hst hm hh hgo hcall hret H
      exact Or.inr ⟨h7, hcall _ _ H⟩
  · exact po_iret
  · exact po_lret
  · exact po_aret
  · exact po_ret
  · exact po_no
end GOPH
