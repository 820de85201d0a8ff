/-! loops over no ops, as the evaluator takes them -/
/-- an object's field that is 0 -/
noncomputable def fz (h : HT) (a ci f : Nat) (k els : Bool) : Bool := match hget h a with
  | some (.inr (cj, fs)) => (match Nat.beq cj ci with
    | true => (match lget fs f with
      | some (.inl 0) => k
      | _ => els)
    | false => els)
  | _ => els
theorem fz_ok {θ : Nat → Int32} {m : Nat} {h : HT} {h' : PH} (hh : hR θ m h h') {a ci f : Nat} {k els : Bool} (H : fz h a ci f k els = true) : els = true ∨ (k = true ∧ ∃ gs z, h'[a]? = some (.inr (ci, gs)) ∧ gs[f]? = some (.int z) ∧ z.toInt = 0) := by
  unfold fz at H
  split at H
  · rename_i cj fs hl
    split at H
    · rename_i hb
      rw [beq_iff] at hb
      subst hb
      split at H
      · rename_i hv
        rw [lget_eq] at hv
        obtain ⟨y, hy, hc⟩ := hh.at hl (by intro q; cases q)
        obtain ⟨gs, rfl, hgs⟩ := c_o hc
        obtain ⟨w, hw, z, rfl, hz⟩ := hgs.get hv
        exact Or.inr ⟨H, gs, z, hy, hw, hz⟩
      · exact Or.inl H
    · exact Or.inl H
  · exact Or.inl H
/-- a number that is above x -/
theorem gtx {θ : Nat → Int32} {env : EV} {cut : List EV → Bool} {x : Int} {v : AV} {nv xv : Int32} {t f : Bool} (he : eR θ env) (hxv : xv.toInt = x) (hv : vR θ v (.int nv)) (H : wBr env .lt (.inl x) v cut t f = true) : f = true ∨ CUT θ cut ∨ (t = true ∧ x < nv.toInt) := by
  obtain ⟨x1, y1, e1, e2, q⟩ := wBr_ok (x := .inl x) (wx := .int xv) he ⟨xv, rfl, hxv⟩ hv H
  cases e1
  cases e2
  rcases q with ⟨hc, q⟩ | ⟨-, q⟩ | q
  · rw [ccI_iff, hxv] at hc
    exact Or.inr (Or.inr ⟨q, hc⟩)
  · exact Or.inl q
  · exact Or.inr (Or.inl q)
section MLP
variable {θ : Nat → Int32} {L : Nat} {hd : HD4} {Q : Rs → PH → Prop}
noncomputable def x_161_43 : MAF := fun env lv st h cut go els => match lv, st with
  | [x0, .inr (.inr (.ref b)), v, .inl 0, _], [] => (match isNum v with
    | true => fz h b 0 0 (wBr env .lt (.inl 0) v cut (go 92 [x0, .inr (.inr (.ref b)), v, aU, aU] [] h) els) els
    | false => els)
  | _, _ => els
theorem m_161_43 {C : Nat → List Value → PH → (Rs → PH → Prop) → Prop} (hC : Cmono C) : MOK θ L C M_161 hd Q 43 x_161_43 := by
  intro env lv st m h c s cut go els lv' st' h' he hlv hst hh hgo hcs H
  unfold x_161_43 at H
  split at H
  · split at H
    · rename_i hn
      rcases fz_ok hh H with H | ⟨H, gs, z, ha, hg, hz⟩
      · exact Or.inl H
      obtain ⟨nv, p2, r2⟩ := hlv.num (i := 2) rfl hn
      obtain ⟨i0, p3, _, e3, r3⟩ := hlv.num (i := 3) rfl rfl
      cases e3
      rcases gtx (xv := 0) he (by decide) r2 H with q | q | ⟨H, hpos⟩
      · exact Or.inl q
      · exact Or.inr (Or.inl q)
      cases (show st' = [] from hst)
      refine Or.inr (Or.inr ?_)
      have hnn : nv.toInt = ((nv.toInt.toNat : Nat) : Int) := by omega
      refine l161 hC ha hg hz hnn (hlv.ref (i := 1) rfl) p2 (fun lx y hy py hk => hgo _ _ _ _ H _ _ _ (hlv.keep hk (fun i hi => ?_) (fun i hi v2 hv2 => ?_)) rfl hh) nv.toInt.toNat 0 i0 lv' (by omega) r3 p3 Keep.rfl'
      · rcases i with _ | _ | _ | _ | _ | i
        all_goals first | rfl | exact absurd (by decide) hi
      · have hi2 : i = 3 ∨ i = 4 := by simpa using hi
        rcases hi2 with rfl | rfl <;> (cases hv2; exact Or.inl rfl)
    · exact Or.inl H
  · exact Or.inl H
noncomputable def x_328_6 : MAF := fun env lv st h cut go els => match lv, st with
  | [.inr (.inr (.ref a)), v, .inl 0, _, x4], [] => (match isNum v with
    | true => fz h a 10 1 (wBr env .lt (.inl 0) v cut (go 87 [.inr (.inr (.ref a)), v, aU, aU, x4] [] h) els) els
    | false => els)
  | _, _ => els
theorem m_328_6 {C : Nat → List Value → PH → (Rs → PH → Prop) → Prop} (hC : Cmono C) : MOK θ L C M_328 hd Q 6 x_328_6 := by
  intro env lv st m h c s cut go els lv' st' h' he hlv hst hh hgo hcs H
  unfold x_328_6 at H
  split at H
  · split at H
    · rename_i hn
      rcases fz_ok hh H with H | ⟨H, gs, z, ha, hg, hz⟩
      · exact Or.inl H
      obtain ⟨nv, p1, r1⟩ := hlv.num (i := 1) rfl hn
      obtain ⟨i0, p2, _, e2, r2⟩ := hlv.num (i := 2) rfl rfl
      cases e2
      rcases gtx (xv := 0) he (by decide) r1 H with q | q | ⟨H, hpos⟩
      · exact Or.inl q
      · exact Or.inr (Or.inl q)
      cases (show st' = [] from hst)
      refine Or.inr (Or.inr ?_)
      have hnn : nv.toInt = ((nv.toInt.toNat : Nat) : Int) := by omega
      refine l328 hC ha hg hz hnn (hlv.ref (i := 0) rfl) p1 (fun lx y hy py hk => hgo _ _ _ _ H _ _ _ (hlv.keep hk (fun i hi => ?_) (fun i hi v2 hv2 => ?_)) rfl hh) nv.toInt.toNat 0 i0 lv' (by omega) r2 p2 Keep.rfl'
      · rcases i with _ | _ | _ | _ | _ | i
        all_goals first | rfl | exact absurd (by decide) hi
      · have hi2 : i = 2 ∨ i = 3 := by simpa using hi
        rcases hi2 with rfl | rfl <;> (cases hv2; exact Or.inl rfl)
    · exact Or.inl H
  · exact Or.inl H
/-- a number that is at most x -/
noncomputable def atM (env : EV) (v : AV) (x : Int) (k els : Bool) : Bool := rK env v fun _ hi => match bLe hi x with
  | true => k
  | false => els
theorem atM_ok {env : EV} {v : AV} {x : Int} {k els : Bool} {nv : Int32} (he : eR θ env) (hv : vR θ v (.int nv)) (H : atM env v x k els = true) : els = true ∨ (k = true ∧ nv.toInt ≤ x) := by
  unfold atM at H
  obtain ⟨y, lo, hi, e, h1, h2, H⟩ := rK_ok he hv H
  cases e
  split at H
  · rename_i hb
    rw [bLe_iff] at hb
    exact Or.inr ⟨H, by omega⟩
  · exact Or.inl H
noncomputable def x_317_75 : MAF := fun env lv st h cut go els => match lv, st with
  | [.inr (.inr (.ref a)), x1, x2, v, .inl 0, _], [] => (match isNum v with
    | true => fz h a 10 1 (wBr env .lt (.inl (-1)) v cut (atM env v 100000 (go 222 [.inr (.inr (.ref a)), x1, x2, v, aU, aU] [] h) els) els) els
    | false => els)
  | _, _ => els
theorem m_317_75 {C : Nat → List Value → PH → (Rs → PH → Prop) → Prop} (hC : Cmono C) : MOK θ L C M_317 hd Q 75 x_317_75 := by
  intro env lv st m h c s cut go els lv' st' h' he hlv hst hh hgo hcs H
  unfold x_317_75 at H
  split at H
  · split at H
    · rename_i hn
      rcases fz_ok hh H with H | ⟨H, gs, z, ha, hg, hz⟩
      · exact Or.inl H
      obtain ⟨nv, p3, r3⟩ := hlv.num (i := 3) rfl hn
      obtain ⟨i0, p4, _, e4, r4⟩ := hlv.num (i := 4) rfl rfl
      cases e4
      rcases gtx (xv := -1) he (by decide) r3 H with q | q | ⟨H, hpos⟩
      · exact Or.inl q
      · exact Or.inr (Or.inl q)
      rcases atM_ok he r3 H with q | ⟨H, hle⟩
      · exact Or.inl q
      cases (show st' = [] from hst)
      refine Or.inr (Or.inr ?_)
      have hnn : nv.toInt = ((nv.toInt.toNat : Nat) : Int) := by omega
      refine l317 hC ha hg hz hnn (by omega) (hlv.ref (i := 0) rfl) p3 (fun lx y hy py hk => hgo _ _ _ _ H _ _ _ (hlv.keep hk (fun i hi => ?_) (fun i hi v2 hv2 => ?_)) rfl hh) (nv.toInt.toNat + 1) 0 i0 lv' (by omega) r4 p4 Keep.rfl'
      · rcases i with _ | _ | _ | _ | _ | _ | i
        all_goals first | rfl | exact absurd (by decide) hi
      · have hi2 : i = 4 ∨ i = 5 := by simpa using hi
        rcases hi2 with rfl | rfl <;> (cases hv2; exact Or.inl rfl)
    · exact Or.inl H
  · exact Or.inl H
noncomputable def x_215_31 : MAF := fun env lv st h cut go els => match lv, st with
  | [.inr (.inr (.ref a)), x1, .inr (.inr (.ref b)), x3, x4, x5, v, .inl 0, .inl 0, _, x10], [] => (match isNum v with
    | true => fz h b 1 2 (wBr env .lt (.inl 0) v cut (atM env v 1024 (match hget h a with
      | some (.inr (3, fs)) => (match lget fs 0 with
        | some (.inr (.inr (.ref w))) => (match hget h w with
          | some (.inl (0, l)) => (match Nat.beq l.length 1024 && linChk 1024 l 0 0 with
            | true => go 108 [.inr (.inr (.ref a)), x1, .inr (.inr (.ref b)), x3, x4, x5, v, .inl 0, aU, aU, x10] [] h
            | false => els)
          | _ => els)
        | _ => els)
      | _ => els) els) els) els
    | false => els)
  | _, _ => els
theorem m_215_31 {C : Nat → List Value → PH → (Rs → PH → Prop) → Prop} (hC : Cmono C) : MOK θ L C M_215 hd Q 31 x_215_31 := by
  intro env lv st m h c s cut go els lv' st' h' he hlv hst hh hgo hcs H
  unfold x_215_31 at H
  split at H
  · split at H
    · rename_i hn
      rcases fz_ok hh H with H | ⟨H, gs, z, hb, hg, hz⟩
      · exact Or.inl H
      obtain ⟨nv, p6, r6⟩ := hlv.num (i := 6) rfl hn
      obtain ⟨x7, p7, _, e7, r7⟩ := hlv.num (i := 7) rfl rfl
      cases e7
      obtain ⟨i0, p8, _, e8, r8⟩ := hlv.num (i := 8) rfl rfl
      cases e8
      rcases gtx (xv := 0) he (by decide) r6 H with q | q | ⟨H, hpos⟩
      · exact Or.inl q
      · exact Or.inr (Or.inl q)
      rcases atM_ok he r6 H with q | ⟨H, hle⟩
      · exact Or.inl q
      split at H
      · rename_i fs hfs
        split at H
        · rename_i w hw
          split at H
          · rename_i l hl
            split at H
            · rename_i hchk
              rw [Bool.and_eq_true, beq_iff] at hchk
              obtain ⟨hlen, hlin⟩ := hchk
              rw [lget_eq] at hw
              obtain ⟨ya, hya, hca⟩ := hh.at hfs (by intro q; cases q)
              obtain ⟨gs2, rfl, hgs2⟩ := c_o hca
              obtain ⟨ww, hww, hvw⟩ := hgs2.get hw
              obtain rfl : ww = .ref w := hvw
              obtain ⟨y, hy, hc⟩ := hh.at hl (by intro q; cases q)
              obtain ⟨g, rfl, hgl⟩ := c_0 hc
              rw [hlen] at hy
              have hgz : ∀ j, j < 1024 → g j = x7 := by
                intro j hj
                have h1 := linChk_ok hlin j hj
                rw [Int.zero_mul, Int.add_zero] at h1
                obtain ⟨u, e, hu⟩ := hgl j _ h1
                cases e
                exact toInt_inj (by rw [hu, r7])
              cases (show st' = [] from hst)
              refine Or.inr (Or.inr ?_)
              have hnn : nv.toInt = ((nv.toInt.toNat : Nat) : Int) := by omega
              refine l215 hC hya hww hy hgz hb hg hz hnn (by omega) (hlv.ref (i := 0) rfl) (hlv.ref (i := 2) rfl) p6 p7 (fun lx y hy py hk => hgo _ _ _ _ H _ _ _ (hlv.keep hk (fun i hi => ?_) (fun i hi v2 hv2 => ?_)) rfl hh) nv.toInt.toNat 0 i0 lv' (by omega) r8 p8 Keep.rfl'
              · rcases i with _ | _ | _ | _ | _ | _ | _ | _ | _ | _ | _ | i
                all_goals first | rfl | exact absurd (by decide) hi
              · have hi2 : i = 8 ∨ i = 9 := by simpa using hi
                rcases hi2 with rfl | rfl <;> (cases hv2; exact Or.inl rfl)
            · exact Or.inl H
          · exact Or.inl H
        · exact Or.inl H
      · exact Or.inl H
    · exact Or.inl H
  · exact Or.inl H
noncomputable def x_211_11 : MAF := fun env lv st h cut go els => match lv, st with
  | [.inr (.inr (.ref a)), x1, .inl 0, v, .inl 0], [] => (match isNum v && isNum x1 with
    | true => fz h a 1 2 (wBr env .lt (.inl 0) v cut (go 36 [.inr (.inr (.ref a)), x1, v, v, aU] [] h) els) els
    | false => els)
  | _, _ => els
theorem vR_eq {v : AV} {x y : Int32} (hv : vR θ v (.int x)) (h : y.toInt = x.toInt) : vR θ v (.int y) := by rw [toInt_inj h]; exact hv
theorem m_211_11 {n : Nat} : MOK θ L (Ex (L, θ) (n + 4)) M_211 hd Q 11 x_211_11 := by
  intro env lv st m h c s cut go els lv' st' h' he hlv hst hh hgo hcs H
  unfold x_211_11 at H
  split at H
  · split at H
    · rename_i hn
      rw [Bool.and_eq_true] at hn
      rcases fz_ok hh H with H | ⟨H, gs, z, ha, hg, hz⟩
      · exact Or.inl H
      obtain ⟨nv, p3, r3⟩ := hlv.num (i := 3) rfl hn.1
      obtain ⟨x1, p1, -⟩ := hlv.num (i := 1) rfl hn.2
      obtain ⟨i2, p2, _, e2, r2⟩ := hlv.num (i := 2) rfl rfl
      cases e2
      obtain ⟨i0, p4, _, e4, r4⟩ := hlv.num (i := 4) rfl rfl
      cases e4
      have e24 : i2 = i0 := toInt_inj (by rw [r2, r4])
      subst e24
      rcases gtx (xv := 0) he (by decide) r3 H with q | q | ⟨H, hpos⟩
      · exact Or.inl q
      · exact Or.inr (Or.inl q)
      cases (show st' = [] from hst)
      refine Or.inr (Or.inr ?_)
      have hnn : nv.toInt = ((nv.toInt.toNat : Nat) : Int) := by omega
      refine l211 hcs ha hg hz hnn (hlv.ref (i := 0) rfl) p1 p3 (fun lx y hy py pd hk => hgo _ _ _ _ H _ _ _ (hlv.keep hk (fun i hi => ?_) (fun i hi v2 hv2 => ?_)) rfl hh) nv.toInt.toNat 0 i2 lv' (by omega) r4 p4 p2 Keep.rfl'
      · rcases i with _ | _ | _ | _ | _ | i
        all_goals first | rfl | exact absurd (by decide) hi
      · have hi2 : i = 2 ∨ i = 4 := by simpa using hi
        rcases hi2 with rfl | rfl
        · cases hv2
          exact Or.inr ⟨_, pd, vR_eq r3 (by rw [hy]; exact hnn.symm), rfl⟩
        · cases hv2; exact Or.inl rfl
    · exact Or.inl H
  · exact Or.inl H
/-- the distance known and small, the turns an argument above 1 -/
noncomputable def dnK (env : EV) (d nn : AV) (cut : List EV → Bool) (k : AV → Bool) (els : Bool) : Bool := lin env d (fun p => match p.1, nn with
  | 0, .inr (.inl (t + 1, 1, 0)) => (match bLt 0 p.2.2 && bLe p.2.2 1000 with
    | true => wBr env .lt (.inl 1) nn cut (atM env nn 1000 (k (aY t p.2.2 (-p.2.2))) els) els
    | false => els)
  | _, _ => els) els
theorem mul_small {d x : Int} (h1 : 0 < d) (h2 : d ≤ 1000) (h3 : 1 < x) (h4 : x ≤ 1000) : d ≤ d * (x - 1) ∧ d * (x - 1) ≤ 1000000 := by
  have e1 : d * 1 ≤ d * (x - 1) := Int.mul_le_mul_of_nonneg_left (by omega) (by omega)
  have e2 : d * (x - 1) ≤ 1000 * (x - 1) := Int.mul_le_mul_of_nonneg_right h2 (by omega)
  omega
theorem dnK_ok {env : EV} {d nn : AV} {cut : List EV → Bool} {k : AV → Bool} {els : Bool} {dv xv : Int32} (he : eR θ env) (hd : vR θ d (.int dv)) (hn : vR θ nn (.int xv)) (H : dnK env d nn cut k els = true) : els = true ∨ CUT θ cut ∨ ∃ v, k v = true ∧ vR θ v (.int (dv * (xv - Int32.ofInt 1) + Int32.ofInt 0)) ∧ ¬ xv = 0 ∧ 0 < (dv * (xv - Int32.ofInt 1) + Int32.ofInt 0).toInt := by
  unfold dnK at H
  rcases lin_ok he hd H with ⟨y, p, e, hp, H⟩ | H
  · cases e
    obtain ⟨pt, pa, pb⟩ := p
    split at H
    · rename_i t e1 _
      have e1 : pt = 0 := e1
      subst e1
      have e2 : dv.toInt = pb := hp.1
      split at H
      · rename_i hb
        rw [Bool.and_eq_true, bLt_iff, bLe_iff] at hb
        obtain ⟨b1, b2⟩ := hb
        have b1 : 0 < pb := b1
        have b2 : pb ≤ 1000 := b2
        rcases gtx (xv := 1) he (by decide) hn H with q | q | ⟨H, hpos⟩
        · exact Or.inl q
        · exact Or.inr (Or.inl q)
        rcases atM_ok he hn H with q | ⟨H, hle⟩
        · exact Or.inl q
        obtain ⟨x2, ex, hx⟩ := hn
        cases ex
        have hx : xv.toInt = 1 * (θ t).toInt + 0 := hx
        have m1 := mul_small b1 b2 hpos hle
        have h1 : (Int32.ofInt 1).toInt = 1 := by decide
        have h0 : (Int32.ofInt 0).toInt = 0 := by decide
        have hval : (dv * (xv - Int32.ofInt 1) + Int32.ofInt 0).toInt = pb * (xv.toInt - 1) := by
          rw [Int32.toInt_add, Int32.toInt_mul, Int32.toInt_sub, h1, h0, e2]
          show ((pb * (xv.toInt - 1).bmod 4294967296).bmod 4294967296 + 0).bmod 4294967296 = _
          rw [bm (a := xv.toInt - 1) (by omega) (by omega), Int.add_zero, bm (a := pb * (xv.toInt - 1)) (by omega) (by omega), bm (by omega) (by omega)]
        refine Or.inr (Or.inr ⟨_, H, ⟨_, rfl, ?_⟩, fun q => ?_, by rw [hval]; omega⟩)
        · rw [hval, hx]
          show pb * (1 * (θ t).toInt + 0 - 1) = pb * (θ t).toInt + (-pb)
          rw [Int.one_mul, Int.add_zero, Int.mul_sub, Int.mul_one]; omega
        · rw [q] at hpos
          have : (0 : Int32).toInt = 0 := by decide
          omega
      · exact Or.inl H
    · exact Or.inl H
  · exact Or.inl H
noncomputable def x_362_24 : MAF := fun env lv st h cut go els => match lv, st with
  | [.inr (.inr (.ref a)), d, nn, .inl 0, .inl 0], [] => (match isNum d && isNum nn with
    | true => fz h a 10 1 (dnK env d nn cut (fun v => go 60 [.inr (.inr (.ref a)), d, nn, v, aU] [] h) els) els
    | false => els)
  | _, _ => els
theorem m_362_24 {n : Nat} : MOK θ L (Ex (L, θ) (n + 4)) M_362 hd Q 24 x_362_24 := by
  intro env lv st m h c s cut go els lv' st' h' he hlv hst hh hgo hcs H
  unfold x_362_24 at H
  split at H
  · split at H
    · rename_i hn
      rw [Bool.and_eq_true] at hn
      rcases fz_ok hh H with H | ⟨H, gs, z, ha, hg, hz⟩
      · exact Or.inl H
      obtain ⟨dv, p1, r1⟩ := hlv.num (i := 1) rfl hn.1
      obtain ⟨xv, p2, r2⟩ := hlv.num (i := 2) rfl hn.2
      obtain ⟨i2, p3, _, e3, r3⟩ := hlv.num (i := 3) rfl rfl
      cases e3
      obtain ⟨i0, p4, _, e4, r4⟩ := hlv.num (i := 4) rfl rfl
      cases e4
      have e24 : i2 = i0 := toInt_inj (by rw [r3, r4])
      subst e24
      rcases dnK_ok he r1 r2 H with q | q | ⟨v, H, hv, hx0, hpos⟩
      · exact Or.inl q
      · exact Or.inr (Or.inl q)
      cases (show st' = [] from hst)
      refine Or.inr (Or.inr ?_)
      have hnn : (dv * (xv - Int32.ofInt 1) + Int32.ofInt 0).toInt = (((dv * (xv - Int32.ofInt 1) + Int32.ofInt 0).toInt.toNat : Nat) : Int) := by omega
      refine l362 hcs ha hg hz hx0 hnn (hlv.ref (i := 0) rfl) p1 p2 (fun lx y hy py pd hk => hgo _ _ _ _ H _ _ _ (hlv.keep hk (fun i hi => ?_) (fun i hi v2 hv2 => ?_)) rfl hh) _ 0 i2 lv' (Nat.zero_add _) r4 p4 p3 Keep.rfl'
      · rcases i with _ | _ | _ | _ | _ | i
        all_goals first | rfl | exact absurd (by decide) hi
      · have hi2 : i = 3 ∨ i = 4 := by simpa using hi
        rcases hi2 with rfl | rfl
        · cases hv2
          exact Or.inr ⟨_, pd, vR_eq hv (by rw [hy]; exact hnn.symm), rfl⟩
        · cases hv2; exact Or.inl rfl
    · exact Or.inl H
  · exact Or.inl H
noncomputable def x_364_50 : MAF := fun env lv st h cut go els => match lv, st with
  | [.inr (.inr (.ref a)), d, nn, x3, x4, .inl 0, .inl 0, _, _, x9, x10], [] => (match isNum d && isNum nn with
    | true => fz h a 10 1 (dnK env d nn cut (fun _ => go 275 [.inr (.inr (.ref a)), d, nn, x3, x4, .inl 0, aU, aU, aU, x9, x10] [] h) els) els
    | false => els)
  | _, _ => els
theorem m_364_50 {n : Nat} : MOK θ L (Ex (L, θ) (n + 4)) M_364 hd Q 50 x_364_50 := by
  intro env lv st m h c s cut go els lv' st' h' he hlv hst hh hgo hcs H
  unfold x_364_50 at H
  split at H
  · split at H
    · rename_i hn
      rw [Bool.and_eq_true] at hn
      rcases fz_ok hh H with H | ⟨H, gs, z, ha, hg, hz⟩
      · exact Or.inl H
      obtain ⟨dv, p1, r1⟩ := hlv.num (i := 1) rfl hn.1
      obtain ⟨xv, p2, r2⟩ := hlv.num (i := 2) rfl hn.2
      obtain ⟨i5, p5, _, e5, r5⟩ := hlv.num (i := 5) rfl rfl
      cases e5
      obtain ⟨i0, p6, _, e6, r6⟩ := hlv.num (i := 6) rfl rfl
      cases e6
      rcases dnK_ok he r1 r2 H with q | q | ⟨v, H, hv, hx0, hpos⟩
      · exact Or.inl q
      · exact Or.inr (Or.inl q)
      cases (show st' = [] from hst)
      refine Or.inr (Or.inr ?_)
      have hnn : (dv * (xv - Int32.ofInt 1) + Int32.ofInt 0).toInt = (((dv * (xv - Int32.ofInt 1) + Int32.ofInt 0).toInt.toNat : Nat) : Int) := by omega
      refine l364 hcs ha hg hz hx0 hnn (hlv.ref (i := 0) rfl) p1 p2 (fun lx y hy py pw hk => hgo _ _ _ _ H _ _ _ (hlv.keep hk (fun i hi => ?_) (fun i hi v2 hv2 => ?_)) rfl hh) _ 0 i0 lv' (Nat.zero_add _) r6 p6 ⟨i5, p5, r5⟩ Keep.rfl'
      · rcases i with _ | _ | _ | _ | _ | _ | _ | _ | _ | _ | _ | i
        all_goals first | rfl | exact absurd (by decide) hi
      · have hi2 : i = 5 ∨ i = 6 ∨ i = 7 ∨ i = 8 := by simpa using hi
        rcases hi2 with rfl | rfl | rfl | rfl
        · cases hv2
          obtain ⟨w, g1, g2⟩ := pw
          exact Or.inr ⟨_, g1, ⟨w, rfl, g2⟩, rfl⟩
        all_goals (cases hv2; exact Or.inl rfl)
    · exact Or.inl H
  · exact Or.inl H
end MLP
