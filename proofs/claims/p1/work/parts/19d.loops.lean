/-! rows filled with one number -/
section LPS2
variable {C : Nat → List Value → PH → (Rs → PH → Prop) → Prop} {S : Nat × (Nat → Int32)} {hd : HD4} {Q : Rs → PH → Prop} {c s : Nat} {lv' : LV} {h0 : PH}
theorem f256 (hC : Cmono C) {a w : Nat} {gs : List Value} {z : PE} (ha : h0[a]? = some (.inr (10, gs))) (hw : gs[17]? = some (.ref w)) (hz : h0[w]? = some z) (haw : ¬ w = a)
    (fin : ∀ (lx : LV) (g : Nat → Int32), px_g lx 2 = some (.int ((Int8.ofInt 64).toInt32)) → (∀ j, j < 64 → g j = (Int16.ofInt (-1000)).toInt32) → Keep [2] lv' lx → Vx C S M_256 hd Q 23 lx [] (h0.set w (.inl (0, 64, .inl g))) c s)
    (p0 : px_g lv' 0 = some (.ref a)) :
    ∀ (k i : Nat) (y : Int32) (lx : LV) (g : Nat → Int32), i + k = 64 → y.toInt = (i : Int) → px_g lx 2 = some (.int y) → (∀ j, j < i → g j = (Int16.ofInt (-1000)).toInt32) → Keep [2] lv' lx → Vx C S M_256 hd Q 2 lx [] (h0.set w (.inl (0, 64, .inl g))) c s := by
  intro k
  have hN : ((Int8.ofInt 64).toInt32).toInt = 64 := by decide
  have ha2 : ∀ y : PE, (h0.set w y)[a]? = some (.inr (10, gs)) := fun y => by rw [List.getElem?_set_ne haw]; exact ha
  induction k with
  | zero =>
    intro i y lx g hik hy p2 hg hk
    have e : y = (Int8.ofInt 64).toInt32 := toInt_inj (by omega)
    subst e
    refine Vx.go hC (te := (2, .iload_n 2, 0, 0)) rfl ⟨_, p2, ?_⟩
    refine Vx.go hC (te := (3, .bipush 64, 0, 0)) rfl ?_
    refine V_icmp hC (cc := .ge) (z := 18) (ta := 0) (tb := 0) rfl (by decide) (fun _ => fin lx g p2 (fun j hj => hg j (by omega)) hk) (fun q => absurd ((ge_of hy hN).mpr (by omega)) q)
  | succ k ih =>
    intro i y lx g hik hy p2 hg hk
    refine Vx.go hC (te := (2, .iload_n 2, 0, 0)) rfl ⟨_, p2, ?_⟩
    refine Vx.go hC (te := (3, .bipush 64, 0, 0)) rfl ?_
    refine V_icmp hC (cc := .ge) (z := 18) (ta := 0) (tb := 0) rfl (by decide) (fun q => absurd q (fun q => by have := (ge_of hy hN).mp q; omega)) (fun _ => ?_)
    refine Vx.go hC (te := (8, .aload_n 0, 0, 0)) rfl ⟨_, hk 0 (by decide) _ p0 rfl, ⟨_, Or.inl rfl⟩, ?_⟩
    refine V_get hC (i := 52) (ta := 10) (tb := 17) rfl (ha2 _) (by decide) hw ?_
    refine Vx.go hC (te := (12, .iload_n 2, 0, 0)) rfl ⟨_, p2, ?_⟩
    refine Vx.go hC (te := (13, .sipush (-1000), 0, 0)) rfl ?_
    refine V_iast hC (ta := 0) (tb := 0) rfl (set_get hz) (vin hy (by omega)) ?_
    rw [List.set_set, idx_of hy]
    refine Vx.go hC (te := (17, .iinc 2 1, 0, 0)) rfl ⟨by decide, _, p2, ?_⟩
    refine Vx.go hC (te := (20, .goto (-18), 0, 0)) rfl ⟨by decide, ?_⟩
    exact ih (i + 1) _ _ _ (by omega) (one_add hy (by omega)) (pg_self _ _ _) (upd_lt hg) (hk.set (by decide) _)
theorem f270 (hC : Cmono C) {a w : Nat} {gs : List Value} {z : PE} (ha : h0[a]? = some (.inr (10, gs))) (hw : gs[19]? = some (.ref w)) (hz : h0[w]? = some z) (haw : ¬ w = a)
    (fin : ∀ (lx : LV) (g : Nat → Int32), px_g lx 1 = some (.int ((Int8.ofInt 36).toInt32)) → (∀ j, j < 36 → g j = Int32.ofInt 0) → Keep [1] lv' lx → Vx C S M_270 hd Q 21 lx [] (h0.set w (.inl (0, 36, .inl g))) c s)
    (p0 : px_g lv' 0 = some (.ref a)) :
    ∀ (k i : Nat) (y : Int32) (lx : LV) (g : Nat → Int32), i + k = 36 → y.toInt = (i : Int) → px_g lx 1 = some (.int y) → (∀ j, j < i → g j = Int32.ofInt 0) → Keep [1] lv' lx → Vx C S M_270 hd Q 2 lx [] (h0.set w (.inl (0, 36, .inl g))) c s := by
  intro k
  have hN : ((Int8.ofInt 36).toInt32).toInt = 36 := by decide
  have ha2 : ∀ y : PE, (h0.set w y)[a]? = some (.inr (10, gs)) := fun y => by rw [List.getElem?_set_ne haw]; exact ha
  induction k with
  | zero =>
    intro i y lx g hik hy p2 hg hk
    have e : y = (Int8.ofInt 36).toInt32 := toInt_inj (by omega)
    subst e
    refine Vx.go hC (te := (2, .iload_n 1, 0, 0)) rfl ⟨_, p2, ?_⟩
    refine Vx.go hC (te := (3, .bipush 36, 0, 0)) rfl ?_
    refine V_icmp hC (cc := .ge) (z := 16) (ta := 0) (tb := 0) rfl (by decide) (fun _ => fin lx g p2 (fun j hj => hg j (by omega)) hk) (fun q => absurd ((ge_of hy hN).mpr (by omega)) q)
  | succ k ih =>
    intro i y lx g hik hy p2 hg hk
    refine Vx.go hC (te := (2, .iload_n 1, 0, 0)) rfl ⟨_, p2, ?_⟩
    refine Vx.go hC (te := (3, .bipush 36, 0, 0)) rfl ?_
    refine V_icmp hC (cc := .ge) (z := 16) (ta := 0) (tb := 0) rfl (by decide) (fun q => absurd q (fun q => by have := (ge_of hy hN).mp q; omega)) (fun _ => ?_)
    refine Vx.go hC (te := (8, .aload_n 0, 0, 0)) rfl ⟨_, hk 0 (by decide) _ p0 rfl, ⟨_, Or.inl rfl⟩, ?_⟩
    refine V_get hC (i := 59) (ta := 10) (tb := 19) rfl (ha2 _) (by decide) hw ?_
    refine Vx.go hC (te := (12, .iload_n 1, 0, 0)) rfl ⟨_, p2, ?_⟩
    refine Vx.go hC (te := (13, .iconst 0, 0, 0)) rfl ?_
    refine V_iast hC (ta := 0) (tb := 0) rfl (set_get hz) (vin hy (by omega)) ?_
    rw [List.set_set, idx_of hy]
    refine Vx.go hC (te := (15, .iinc 1 1, 0, 0)) rfl ⟨by decide, _, p2, ?_⟩
    refine Vx.go hC (te := (18, .goto (-16), 0, 0)) rfl ⟨by decide, ?_⟩
    exact ih (i + 1) _ _ _ (by omega) (one_add hy (by omega)) (pg_self _ _ _) (upd_lt hg) (hk.set (by decide) _)
end LPS2
noncomputable def x_256_2 : MAF := fun _ lv st h _ go els => match lv, st with
  | [.inr (.inr (.ref a)), x1, .inl 0, x3, x4, x5, x6], [] => (match hget h a with
    | some (.inr (10, fs)) => (match lget fs 17 with
      | some (.inr (.inr (.ref w))) => (match hget h w with
        | some (.inl (0, l)) => (match Nat.beq l.length 64 with
          | true => repF (.inl (.negSucc 999)) 64 fun l2 => hset h w (.inl (0, l2)) fun h => go 23 [.inr (.inr (.ref a)), x1, .inl (.ofNat 64), x3, x4, x5, x6] [] h
          | false => els)
        | _ => els)
      | _ => els)
    | _ => els)
  | _, _ => els
theorem m_256_2 {θ : Nat → Int32} {L : Nat} {C : Nat → List Value → PH → (Rs → PH → Prop) → Prop} (hC : Cmono C) {hd : HD4} {Q : Rs → PH → Prop} : MOK θ L C M_256 hd Q 2 x_256_2 := by
  intro env lv st m h c s cut go els lv' st' h' he hlv hst hh hgo hcs H
  unfold x_256_2 at H
  split at H
  · rename_i a x1 x3 x4 x5 x6
    split at H
    · rename_i fs hfs
      split at H
      · rename_i w hw
        split at H
        · rename_i l hl
          split at H
          · rename_i hb
            rw [beq_iff] at hb
            obtain ⟨h2, H, -, hs⟩ := hset_ok (repF_ok H)
            rw [lget_eq] at hw
            obtain ⟨ya, hya, hca⟩ := hh.at hfs (by intro q; cases q)
            obtain ⟨gs, rfl, hgs⟩ := c_o hca
            obtain ⟨ww, hww, hvw⟩ := hgs.get hw
            obtain rfl : ww = .ref w := hvw
            obtain ⟨y, hy, hc⟩ := hh.at hl (by intro q; cases q)
            obtain ⟨g, rfl, hg⟩ := c_0 hc
            rw [hb] at hy
            have haw : ¬ w = a := fun q => by rw [q, hya] at hy; cases hy
            obtain ⟨i0, p2, r2⟩ := hlv.num (i := 2) rfl rfl
            obtain ⟨_, e2, r2⟩ := r2
            cases e2
            cases (show st' = [] from hst)
            refine Or.inr (Or.inr ?_)
            have key := f256 (S := (L, θ)) (hd := hd) (Q := Q) (c := c) (s := s) (lv' := lv') hC hya hww hy haw (fun lx g q2 hg2 hk => hgo _ _ _ _ H _ _ _ (hlv.keep hk (mods := [2]) (fun i hi => ?_) (fun i hi v2 hv2 => ?_)) rfl (hh.set hy hs (cR_rep ⟨_, rfl, by decide⟩ hg2))) (hlv.ref (i := 0) rfl) 64 0 i0 lv' g (by omega) r2 p2 (fun j hj => by omega) Keep.rfl'
            · rw [set_self hy] at key
              exact key
            · rcases i with _ | _ | _ | _ | _ | _ | _ | i
              all_goals first | rfl | exact absurd (by decide) hi
            · obtain rfl : i = 2 := by simpa using hi
              cases hv2
              exact Or.inr ⟨_, q2, ⟨_, rfl, by decide⟩, rfl⟩
          · exact Or.inl H
        · exact Or.inl H
      · exact Or.inl H
    · exact Or.inl H
  · exact Or.inl H
noncomputable def x_270_2 : MAF := fun _ lv st h _ go els => match lv, st with
  | [.inr (.inr (.ref a)), .inl 0], [] => (match hget h a with
    | some (.inr (10, fs)) => (match lget fs 19 with
      | some (.inr (.inr (.ref w))) => (match hget h w with
        | some (.inl (0, l)) => (match Nat.beq l.length 36 with
          | true => repF (.inl (.ofNat 0)) 36 fun l2 => hset h w (.inl (0, l2)) fun h => go 21 [.inr (.inr (.ref a)), .inl (.ofNat 36)] [] h
          | false => els)
        | _ => els)
      | _ => els)
    | _ => els)
  | _, _ => els
theorem m_270_2 {θ : Nat → Int32} {L : Nat} {C : Nat → List Value → PH → (Rs → PH → Prop) → Prop} (hC : Cmono C) {hd : HD4} {Q : Rs → PH → Prop} : MOK θ L C M_270 hd Q 2 x_270_2 := by
  intro env lv st m h c s cut go els lv' st' h' he hlv hst hh hgo hcs H
  unfold x_270_2 at H
  split at H
  · rename_i a 
    split at H
    · rename_i fs hfs
      split at H
      · rename_i w hw
        split at H
        · rename_i l hl
          split at H
          · rename_i hb
            rw [beq_iff] at hb
            obtain ⟨h2, H, -, hs⟩ := hset_ok (repF_ok H)
            rw [lget_eq] at hw
            obtain ⟨ya, hya, hca⟩ := hh.at hfs (by intro q; cases q)
            obtain ⟨gs, rfl, hgs⟩ := c_o hca
            obtain ⟨ww, hww, hvw⟩ := hgs.get hw
            obtain rfl : ww = .ref w := hvw
            obtain ⟨y, hy, hc⟩ := hh.at hl (by intro q; cases q)
            obtain ⟨g, rfl, hg⟩ := c_0 hc
            rw [hb] at hy
            have haw : ¬ w = a := fun q => by rw [q, hya] at hy; cases hy
            obtain ⟨i0, p2, r2⟩ := hlv.num (i := 1) rfl rfl
            obtain ⟨_, e2, r2⟩ := r2
            cases e2
            cases (show st' = [] from hst)
            refine Or.inr (Or.inr ?_)
            have key := f270 (S := (L, θ)) (hd := hd) (Q := Q) (c := c) (s := s) (lv' := lv') hC hya hww hy haw (fun lx g q2 hg2 hk => hgo _ _ _ _ H _ _ _ (hlv.keep hk (mods := [1]) (fun i hi => ?_) (fun i hi v2 hv2 => ?_)) rfl (hh.set hy hs (cR_rep ⟨_, rfl, by decide⟩ hg2))) (hlv.ref (i := 0) rfl) 36 0 i0 lv' g (by omega) r2 p2 (fun j hj => by omega) Keep.rfl'
            · rw [set_self hy] at key
              exact key
            · rcases i with _ | _ | i
              all_goals first | rfl | exact absurd (by decide) hi
            · obtain rfl : i = 1 := by simpa using hi
              cases hv2
              exact Or.inr ⟨_, q2, ⟨_, rfl, by decide⟩, rfl⟩
          · exact Or.inl H
        · exact Or.inl H
      · exact Or.inl H
    · exact Or.inl H
  · exact Or.inl H
