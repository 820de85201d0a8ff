/-! loops that are known whole: rows that are filled -/
section LPS
variable {C : Nat → List Value → PH → (Rs → PH → Prop) → Prop} {S : Nat × (Nat → Int32)} {hd : HD4} {Q : Rs → PH → Prop} {c s : Nat} {lv' : LV} {h0 : PH}
theorem set_get {a : Nat} {z y : PE} (hz : h0[a]? = some z) : (h0.set a y)[a]? = some y := List.getElem?_set_self (List.getElem?_eq_some_iff.mp hz).1
theorem cR_rep {θ : Nat → Int32} {n : Nat} {v : AV} {vv : Int32} {g : Nat → Int32} (hv : vR θ v (.int vv)) (hg : ∀ j, j < n → g j = vv) : cR θ (.inl (0, List.replicate n v)) (.inl (0, n, .inl g)) := by
  refine ⟨by simp, fun j a hj => ?_⟩
  rw [List.getElem?_replicate] at hj
  split at hj
  · rename_i h; cases hj; rw [hg j h]; exact hv
  · cases hj
theorem upd_lt {g : Nat → Int32} {i : Nat} {v : Int32} (hg : ∀ j, j < i → g j = v) : ∀ j, j < i + 1 → upd g i v j = v := by
  intro j hj
  unfold upd
  split
  · rfl
  · exact hg j (by omega)
theorem f76 (hC : Cmono C) {a n : Nat} {vv nv : Int32} {z : PE} (hz : h0[a]? = some z) (hn : nv.toInt = (n : Int))
    (fin : ∀ (lx : LV) (g : Nat → Int32), px_g lx 2 = some (.int nv) → (∀ j, j < n → g j = vv) → Keep [2] lv' lx → Vx C S M_76 hd Q 20 lx [] (h0.set a (.inl (0, n, .inl g))) c s)
    (p0 : px_g lv' 0 = some (.ref a)) (p1 : px_g lv' 1 = some (.int vv)) (p3 : px_g lv' 3 = some (.int nv)) :
    ∀ (k i : Nat) (y : Int32) (lx : LV) (g : Nat → Int32), i + k = n → y.toInt = (i : Int) → px_g lx 2 = some (.int y) → (∀ j, j < i → g j = vv) → Keep [2] lv' lx → Vx C S M_76 hd Q 5 lx [] (h0.set a (.inl (0, n, .inl g))) c s := by
  intro k
  induction k with
  | zero =>
    intro i y lx g hik hy p2 hg hk
    have e : y = nv := toInt_inj (by omega)
    subst e
    refine Vx.go hC (te := (5, .iload_n 2, 0, 0)) rfl ⟨_, p2, ?_⟩
    refine Vx.go hC (te := (6, .iload_n 3, 0, 0)) rfl ⟨_, hk 3 (by decide) _ p3 rfl, ?_⟩
    refine V_icmp hC (cc := .ge) (z := 13) (ta := 0) (tb := 0) rfl (by decide) (fun _ => fin lx g p2 (fun j hj => hg j (by omega)) hk) (fun q => absurd ((ge_of hy hn).mpr (by omega)) q)
  | succ k ih =>
    intro i y lx g hik hy p2 hg hk
    have hb := (i32_rng nv).2
    refine Vx.go hC (te := (5, .iload_n 2, 0, 0)) rfl ⟨_, p2, ?_⟩
    refine Vx.go hC (te := (6, .iload_n 3, 0, 0)) rfl ⟨_, hk 3 (by decide) _ p3 rfl, ?_⟩
    refine V_icmp hC (cc := .ge) (z := 13) (ta := 0) (tb := 0) rfl (by decide) (fun q => absurd ((ge_of hy hn).mp q) (by omega)) (fun _ => ?_)
    refine Vx.go hC (te := (10, .aload_n 0, 0, 0)) rfl ⟨_, hk 0 (by decide) _ p0 rfl, ⟨_, Or.inl rfl⟩, ?_⟩
    refine Vx.go hC (te := (11, .iload_n 2, 0, 0)) rfl ⟨_, p2, ?_⟩
    refine Vx.go hC (te := (12, .iload_n 1, 0, 0)) rfl ⟨_, hk 1 (by decide) _ p1 rfl, ?_⟩
    refine V_iast hC (ta := 0) (tb := 0) rfl (set_get hz) (vin hy (by omega)) ?_
    rw [List.set_set, idx_of hy]
    refine Vx.go hC (te := (14, .iinc 2 1, 0, 0)) rfl ⟨by decide, _, p2, ?_⟩
    refine Vx.go hC (te := (17, .goto (-12), 0, 0)) rfl ⟨by decide, ?_⟩
    exact ih (i + 1) _ _ _ (by omega) (one_add hy (by omega)) (pg_self _ _ _) (upd_lt hg) (hk.set (by decide) _)
end LPS
noncomputable def x_76_5 : MAF := fun _ lv st h _ go els => match lv, st with
  | [.inr (.inr (.ref a)), v, .inl 0, .inl (.ofNat n)], [] => (match isNum v with
    | true => (match hget h a with
      | some (.inl (0, l)) => (match Nat.beq l.length n with
        | true => repF v n fun l2 => hset h a (.inl (0, l2)) fun h => go 20 [.inr (.inr (.ref a)), v, .inl (.ofNat n), .inl (.ofNat n)] [] h
        | false => els)
      | _ => els)
    | false => els)
  | _, _ => els
theorem m_76_5 {θ : Nat → Int32} {L : Nat} {C : Nat → List Value → PH → (Rs → PH → Prop) → Prop} (hC : Cmono C) {hd : HD4} {Q : Rs → PH → Prop} : MOK θ L C M_76 hd Q 5 x_76_5 := by
  intro env lv st m h c s cut go els lv' st' h' he hlv hst hh hgo hcs H
  unfold x_76_5 at H
  split at H
  · rename_i a v n
    split at H
    · rename_i hn
      split at H
      · rename_i l hl
        split at H
        · rename_i hb
          rw [beq_iff] at hb
          obtain ⟨h2, H, -, hs⟩ := hset_ok (repF_ok H)
          obtain ⟨y, hy, hc⟩ := hh.at hl (by intro q; cases q)
          obtain ⟨g, rfl, hg⟩ := c_0 hc
          rw [hb] at hy
          obtain ⟨vv, p1, r1⟩ := hlv.num (i := 1) rfl hn
          obtain ⟨i0, p2, r2⟩ := hlv.num (i := 2) rfl rfl
          obtain ⟨nv, p3, r3⟩ := hlv.num (i := 3) rfl rfl
          obtain ⟨_, e2, r2⟩ := r2
          cases e2
          obtain ⟨_, e3, r3⟩ := r3
          cases e3
          cases (show st' = [] from hst)
          refine Or.inr (Or.inr ?_)
          have key := f76 (S := (L, θ)) (hd := hd) (Q := Q) (c := c) (s := s) (lv' := lv') hC hy r3 (fun lx g q2 hg2 hk => hgo _ _ _ _ H _ _ _ (hlv.keep hk (mods := [2]) (fun i hi => ?_) (fun i hi v2 hv2 => ?_)) rfl (hh.set hy hs (cR_rep r1 hg2))) (hlv.ref (i := 0) rfl) p1 p3 n 0 i0 lv' g (by omega) r2 p2 (fun j hj => by omega) Keep.rfl'
          · rw [set_self hy] at key
            exact key
          · rcases i with _ | _ | _ | _ | i
            · rfl
            · rfl
            · exact absurd (by decide) hi
            · rfl
            · rfl
          · obtain rfl : i = 2 := by simpa using hi
            cases hv2
            exact Or.inr ⟨_, q2, ⟨_, rfl, r3⟩, rfl⟩
        · exact Or.inl H
      · exact Or.inl H
    · exact Or.inl H
  · exact Or.inl H
