/-! the two rows of places -/
theorem n3 {y : Int32} {i : Nat} (hy : y.toInt = (i : Int)) (hi : i < 64) : (Int32.ofInt 3 * y + Int32.ofInt 1).toInt = 3 * (i : Int) + 1 := by
  have h3 : (Int32.ofInt 3).toInt = 3 := by decide
  have h1 : (Int32.ofInt 1).toInt = 1 := by decide
  rw [Int32.toInt_add, Int32.toInt_mul, h3, h1, hy]
  show ((3 * (i : Int)).bmod 4294967296 + 1).bmod 4294967296 = _
  rw [bm (a := 3 * (i : Int)) (by omega) (by omega), bm (by omega) (by omega)]
theorem n7 {y : Int32} {i : Nat} (hy : y.toInt = (i : Int)) (hi : i < 64) : ((Int8.ofInt 7).toInt32 * y - Int32.ofInt 5).toInt = 7 * (i : Int) - 5 := by
  have h3 : ((Int8.ofInt 7).toInt32).toInt = 7 := by decide
  have h1 : (Int32.ofInt 5).toInt = 5 := by decide
  rw [Int32.toInt_sub, Int32.toInt_mul, h3, h1, hy]
  show ((7 * (i : Int)).bmod 4294967296 - 5).bmod 4294967296 = _
  rw [bm (a := 7 * (i : Int)) (by omega) (by omega), bm (by omega) (by omega)]
theorem n64 {y : Int32} {i : Nat} (hy : y.toInt = (i : Int)) (hi : i < 64) : ((Int8.ofInt 64).toInt32 + y).toInt = ((64 + i : Nat) : Int) := by
  have h3 : ((Int8.ofInt 64).toInt32).toInt = 64 := by decide
  rw [Int32.toInt_add, h3, hy]
  show ((64 : Int) + (i : Int)).bmod 4294967296 = _
  rw [bm (by omega) (by omega)]
  omega
def rw3 : LW := [.inl (.ofNat 1), .inl (.ofNat 4), .inl (.ofNat 7), .inl (.ofNat 10), .inl (.ofNat 13), .inl (.ofNat 16), .inl (.ofNat 19), .inl (.ofNat 22), .inl (.ofNat 25), .inl (.ofNat 28), .inl (.ofNat 31), .inl (.ofNat 34), .inl (.ofNat 37), .inl (.ofNat 40), .inl (.ofNat 43), .inl (.ofNat 46), .inl (.ofNat 49), .inl (.ofNat 52), .inl (.ofNat 55), .inl (.ofNat 58), .inl (.ofNat 61), .inl (.ofNat 64), .inl (.ofNat 67), .inl (.ofNat 70), .inl (.ofNat 73), .inl (.ofNat 76), .inl (.ofNat 79), .inl (.ofNat 82), .inl (.ofNat 85), .inl (.ofNat 88), .inl (.ofNat 91), .inl (.ofNat 94), .inl (.ofNat 97), .inl (.ofNat 100), .inl (.ofNat 103), .inl (.ofNat 106), .inl (.ofNat 109), .inl (.ofNat 112), .inl (.ofNat 115), .inl (.ofNat 118), .inl (.ofNat 121), .inl (.ofNat 124), .inl (.ofNat 127), .inl (.ofNat 130), .inl (.ofNat 133), .inl (.ofNat 136), .inl (.ofNat 139), .inl (.ofNat 142), .inl (.ofNat 145), .inl (.ofNat 148), .inl (.ofNat 151), .inl (.ofNat 154), .inl (.ofNat 157), .inl (.ofNat 160), .inl (.ofNat 163), .inl (.ofNat 166), .inl (.ofNat 169), .inl (.ofNat 172), .inl (.ofNat 175), .inl (.ofNat 178), .inl (.ofNat 181), .inl (.ofNat 184), .inl (.ofNat 187), .inl (.ofNat 190)]
def rw7 : LW := [.inl (.negSucc 4), .inl (.ofNat 2), .inl (.ofNat 9), .inl (.ofNat 16), .inl (.ofNat 23), .inl (.ofNat 30), .inl (.ofNat 37), .inl (.ofNat 44), .inl (.ofNat 51), .inl (.ofNat 58), .inl (.ofNat 65), .inl (.ofNat 72), .inl (.ofNat 79), .inl (.ofNat 86), .inl (.ofNat 93), .inl (.ofNat 100), .inl (.ofNat 107), .inl (.ofNat 114), .inl (.ofNat 121), .inl (.ofNat 128), .inl (.ofNat 135), .inl (.ofNat 142), .inl (.ofNat 149), .inl (.ofNat 156), .inl (.ofNat 163), .inl (.ofNat 170), .inl (.ofNat 177), .inl (.ofNat 184), .inl (.ofNat 191), .inl (.ofNat 198), .inl (.ofNat 205), .inl (.ofNat 212), .inl (.ofNat 219), .inl (.ofNat 226), .inl (.ofNat 233), .inl (.ofNat 240), .inl (.ofNat 247), .inl (.ofNat 254), .inl (.ofNat 261), .inl (.ofNat 268), .inl (.ofNat 275), .inl (.ofNat 282), .inl (.ofNat 289), .inl (.ofNat 296), .inl (.ofNat 303), .inl (.ofNat 310), .inl (.ofNat 317), .inl (.ofNat 324), .inl (.ofNat 331), .inl (.ofNat 338), .inl (.ofNat 345), .inl (.ofNat 352), .inl (.ofNat 359), .inl (.ofNat 366), .inl (.ofNat 373), .inl (.ofNat 380), .inl (.ofNat 387), .inl (.ofNat 394), .inl (.ofNat 401), .inl (.ofNat 408), .inl (.ofNat 415), .inl (.ofNat 422), .inl (.ofNat 429), .inl (.ofNat 436)]
def rw37 : LW := [.inl (.ofNat 1), .inl (.ofNat 4), .inl (.ofNat 7), .inl (.ofNat 10), .inl (.ofNat 13), .inl (.ofNat 16), .inl (.ofNat 19), .inl (.ofNat 22), .inl (.ofNat 25), .inl (.ofNat 28), .inl (.ofNat 31), .inl (.ofNat 34), .inl (.ofNat 37), .inl (.ofNat 40), .inl (.ofNat 43), .inl (.ofNat 46), .inl (.ofNat 49), .inl (.ofNat 52), .inl (.ofNat 55), .inl (.ofNat 58), .inl (.ofNat 61), .inl (.ofNat 64), .inl (.ofNat 67), .inl (.ofNat 70), .inl (.ofNat 73), .inl (.ofNat 76), .inl (.ofNat 79), .inl (.ofNat 82), .inl (.ofNat 85), .inl (.ofNat 88), .inl (.ofNat 91), .inl (.ofNat 94), .inl (.ofNat 97), .inl (.ofNat 100), .inl (.ofNat 103), .inl (.ofNat 106), .inl (.ofNat 109), .inl (.ofNat 112), .inl (.ofNat 115), .inl (.ofNat 118), .inl (.ofNat 121), .inl (.ofNat 124), .inl (.ofNat 127), .inl (.ofNat 130), .inl (.ofNat 133), .inl (.ofNat 136), .inl (.ofNat 139), .inl (.ofNat 142), .inl (.ofNat 145), .inl (.ofNat 148), .inl (.ofNat 151), .inl (.ofNat 154), .inl (.ofNat 157), .inl (.ofNat 160), .inl (.ofNat 163), .inl (.ofNat 166), .inl (.ofNat 169), .inl (.ofNat 172), .inl (.ofNat 175), .inl (.ofNat 178), .inl (.ofNat 181), .inl (.ofNat 184), .inl (.ofNat 187), .inl (.ofNat 190), .inl (.negSucc 4), .inl (.ofNat 2), .inl (.ofNat 9), .inl (.ofNat 16), .inl (.ofNat 23), .inl (.ofNat 30), .inl (.ofNat 37), .inl (.ofNat 44), .inl (.ofNat 51), .inl (.ofNat 58), .inl (.ofNat 65), .inl (.ofNat 72), .inl (.ofNat 79), .inl (.ofNat 86), .inl (.ofNat 93), .inl (.ofNat 100), .inl (.ofNat 107), .inl (.ofNat 114), .inl (.ofNat 121), .inl (.ofNat 128), .inl (.ofNat 135), .inl (.ofNat 142), .inl (.ofNat 149), .inl (.ofNat 156), .inl (.ofNat 163), .inl (.ofNat 170), .inl (.ofNat 177), .inl (.ofNat 184), .inl (.ofNat 191), .inl (.ofNat 198), .inl (.ofNat 205), .inl (.ofNat 212), .inl (.ofNat 219), .inl (.ofNat 226), .inl (.ofNat 233), .inl (.ofNat 240), .inl (.ofNat 247), .inl (.ofNat 254), .inl (.ofNat 261), .inl (.ofNat 268), .inl (.ofNat 275), .inl (.ofNat 282), .inl (.ofNat 289), .inl (.ofNat 296), .inl (.ofNat 303), .inl (.ofNat 310), .inl (.ofNat 317), .inl (.ofNat 324), .inl (.ofNat 331), .inl (.ofNat 338), .inl (.ofNat 345), .inl (.ofNat 352), .inl (.ofNat 359), .inl (.ofNat 366), .inl (.ofNat 373), .inl (.ofNat 380), .inl (.ofNat 387), .inl (.ofNat 394), .inl (.ofNat 401), .inl (.ofNat 408), .inl (.ofNat 415), .inl (.ofNat 422), .inl (.ofNat 429), .inl (.ofNat 436)]
theorem rw3_at : ∀ j, j < 64 → rw3[j]? = some (.inl (3 * (j : Int) + 1)) := fun j hj => by
  have h : linChk 64 rw3 1 3 = true := rfl
  rw [linChk_ok h j hj, Int.add_comm]
theorem rw7_at : ∀ j, j < 64 → rw7[j]? = some (.inl (7 * (j : Int) - 5)) := fun j hj => by
  have h : linChk 64 rw7 (-5) 7 = true := rfl
  rw [linChk_ok h j hj, Int.add_comm]; rfl
theorem rw37_eq : rw37 = rw3 ++ rw7 := rfl
theorem upd_at {g : Nat → Int32} {i j : Nat} {x : Int32} : upd g i x j = if j = i then x else g j := rfl
section LPS3
variable {C : Nat → List Value → PH → (Rs → PH → Prop) → Prop} {S : Nat × (Nat → Int32)} {hd : HD4} {Q : Rs → PH → Prop} {c s : Nat} {lv' : LV} {h0 : PH}
theorem f318 (hC : Cmono C) {a w : Nat} {gs : List Value} {z : PE} (ha : h0[a]? = some (.inr (10, gs))) (hw : gs[26]? = some (.ref w)) (hz : h0[w]? = some z) (haw : ¬ w = a)
    (fin : ∀ (lx : LV) (g : Nat → Int32), px_g lx 1 = some (.int ((Int8.ofInt 64).toInt32)) → (∀ j, j < 64 → (g j).toInt = 3 * (j : Int) + 1 ∧ (g (64 + j)).toInt = 7 * (j : Int) - 5) → Keep [1] lv' lx → Vx C S M_318 hd Q 40 lx [] (h0.set w (.inl (0, 128, .inl g))) c s)
    (p0 : px_g lv' 0 = some (.ref a)) :
    ∀ (k i : Nat) (y : Int32) (lx : LV) (g : Nat → Int32), i + k = 64 → y.toInt = (i : Int) → px_g lx 1 = some (.int y) → (∀ j, j < i → (g j).toInt = 3 * (j : Int) + 1 ∧ (g (64 + j)).toInt = 7 * (j : Int) - 5) → Keep [1] lv' lx → Vx C S M_318 hd Q 2 lx [] (h0.set w (.inl (0, 128, .inl g))) c s := by
  intro k
  have hN : ((Int8.ofInt 64).toInt32).toInt = 64 := by decide
  have ha2 : ∀ y : PE, (h0.set w y)[a]? = some (.inr (10, gs)) := fun y => by rw [List.getElem?_set_ne haw]; exact ha
  induction k with
  | zero =>
    intro i y lx g hik hy p2 hg hk
    have e : y = (Int8.ofInt 64).toInt32 := toInt_inj (by omega)
    subst e
    refine Vx.go hC (te := (2, .iload_n 1, 0, 0)) rfl ⟨_, p2, ?_⟩
    refine Vx.go hC (te := (3, .bipush 64, 0, 0)) rfl ?_
    refine V_icmp hC (cc := .ge) (z := 35) (ta := 0) (tb := 0) rfl (by decide) (fun _ => fin lx g p2 (fun j hj => hg j (by omega)) hk) (fun q => absurd ((ge_of hy hN).mpr (by omega)) q)
  | succ k ih =>
    intro i y lx g hik hy p2 hg hk
    refine Vx.go hC (te := (2, .iload_n 1, 0, 0)) rfl ⟨_, p2, ?_⟩
    refine Vx.go hC (te := (3, .bipush 64, 0, 0)) rfl ?_
    refine V_icmp hC (cc := .ge) (z := 35) (ta := 0) (tb := 0) rfl (by decide) (fun q => absurd q (fun q => by have := (ge_of hy hN).mp q; omega)) (fun _ => ?_)
    refine Vx.go hC (te := (8, .aload_n 0, 0, 0)) rfl ⟨_, hk 0 (by decide) _ p0 rfl, ⟨_, Or.inl rfl⟩, ?_⟩
    refine V_get hC (i := 77) (ta := 10) (tb := 26) rfl (ha2 _) (by decide) hw ?_
    refine Vx.go hC (te := (12, .iload_n 1, 0, 0)) rfl ⟨_, p2, ?_⟩
    refine Vx.go hC (te := (13, .iconst 3, 0, 0)) rfl ?_
    refine Vx.go hC (te := (14, .iload_n 1, 0, 0)) rfl ⟨_, p2, ?_⟩
    refine Vx.go hC (te := (15, .imul, 0, 0)) rfl ?_
    refine Vx.go hC (te := (16, .iconst 1, 0, 0)) rfl ?_
    refine Vx.go hC (te := (17, .iadd, 0, 0)) rfl ?_
    refine V_iast hC (ta := 0) (tb := 0) rfl (set_get hz) (vin hy (by omega)) ?_
    rw [List.set_set, idx_of hy]
    refine Vx.go hC (te := (19, .aload_n 0, 0, 0)) rfl ⟨_, hk 0 (by decide) _ p0 rfl, ⟨_, Or.inl rfl⟩, ?_⟩
    refine V_get hC (i := 77) (ta := 10) (tb := 26) rfl (ha2 _) (by decide) hw ?_
    refine Vx.go hC (te := (23, .bipush 64, 0, 0)) rfl ?_
    refine Vx.go hC (te := (25, .iload_n 1, 0, 0)) rfl ⟨_, p2, ?_⟩
    refine Vx.go hC (te := (26, .iadd, 0, 0)) rfl ?_
    refine Vx.go hC (te := (27, .bipush 7, 0, 0)) rfl ?_
    refine Vx.go hC (te := (29, .iload_n 1, 0, 0)) rfl ⟨_, p2, ?_⟩
    refine Vx.go hC (te := (30, .imul, 0, 0)) rfl ?_
    refine Vx.go hC (te := (31, .iconst 5, 0, 0)) rfl ?_
    refine Vx.go hC (te := (32, .isub, 0, 0)) rfl ?_
    refine V_iast hC (ta := 0) (tb := 0) rfl (set_get hz) (vin (n64 hy (by omega)) (by omega)) ?_
    rw [List.set_set, idx_of (n64 hy (by omega))]
    refine Vx.go hC (te := (34, .iinc 1 1, 0, 0)) rfl ⟨by decide, _, p2, ?_⟩
    refine Vx.go hC (te := (37, .goto (-35), 0, 0)) rfl ⟨by decide, ?_⟩
    refine ih (i + 1) _ _ _ (by omega) (one_add hy (by omega)) (pg_self _ _ _) ?_ (hk.set (by decide) _)
    intro j hj
    rw [upd_at, upd_at, upd_at, upd_at]
    by_cases hji : j = i
    · subst hji
      rw [if_neg (by omega), if_pos rfl, if_pos rfl]
      exact ⟨n3 hy (by omega), n7 hy (by omega)⟩
    · rw [if_neg (by omega), if_neg hji, if_neg (by omega), if_neg (by omega)]
      exact hg j (by omega)
theorem f161 (hC : Cmono C) {a w r0 r1 : Nat} {gs : List Value} {gr : Nat → Option Nat} {z0 z1 : PE} (ha : h0[a]? = some (.inr (4, gs))) (hw : gs[0]? = some (.ref w)) (hr : h0[w]? = some (.inl (3, 2, .inr (.inr (.inr (.inr gr)))))) (hr0 : gr 0 = some r0) (hr1 : gr 1 = some r1) (hz0 : h0[r0]? = some z0) (hz1 : h0[r1]? = some z1) (h01 : ¬ r0 = r1) (n0a : ¬ r0 = a) (n1a : ¬ r1 = a) (n0w : ¬ r0 = w) (n1w : ¬ r1 = w)
    (fin : ∀ (lx : LV) (g0 g1 : Nat → Int32), px_g lx 3 = some (.int ((Int8.ofInt 64).toInt32)) → (∀ j, j < 64 → (g0 j).toInt = 3 * (j : Int) + 1 ∧ (g1 j).toInt = 7 * (j : Int) - 5) → Keep [3] lv' lx → Vx C S M_161 hd Q 41 lx [] ((h0.set r0 (.inl (0, 64, .inl g0))).set r1 (.inl (0, 64, .inl g1))) c s)
    (p0 : px_g lv' 0 = some (.ref a)) :
    ∀ (k i : Nat) (y : Int32) (lx : LV) (g0 g1 : Nat → Int32), i + k = 64 → y.toInt = (i : Int) → px_g lx 3 = some (.int y) → (∀ j, j < i → (g0 j).toInt = 3 * (j : Int) + 1 ∧ (g1 j).toInt = 7 * (j : Int) - 5) → Keep [3] lv' lx → Vx C S M_161 hd Q 2 lx [] ((h0.set r0 (.inl (0, 64, .inl g0))).set r1 (.inl (0, 64, .inl g1))) c s := by
  intro k
  have hN : ((Int8.ofInt 64).toInt32).toInt = 64 := by decide
  have i0 : (Int32.ofInt 0).toInt = ((0 : Nat) : Int) := by decide
  have i1 : (Int32.ofInt 1).toInt = ((1 : Nat) : Int) := by decide
  have ha2 : ∀ y0 y1 : PE, ((h0.set r0 y0).set r1 y1)[a]? = some (.inr (4, gs)) := fun y0 y1 => by rw [List.getElem?_set_ne n1a, List.getElem?_set_ne n0a]; exact ha
  have hr2 : ∀ y0 y1 : PE, ((h0.set r0 y0).set r1 y1)[w]? = some (.inl (3, 2, .inr (.inr (.inr (.inr gr))))) := fun y0 y1 => by rw [List.getElem?_set_ne n1w, List.getElem?_set_ne n0w]; exact hr
  have hl0 := (List.getElem?_eq_some_iff.mp hz0).1
  have hl1 := (List.getElem?_eq_some_iff.mp hz1).1
  have g0r : ∀ y0 y1 : PE, ((h0.set r0 y0).set r1 y1)[r0]? = some y0 := fun y0 y1 => by rw [List.getElem?_set_ne (fun q => h01 q.symm), List.getElem?_set_self hl0]
  have g1r : ∀ y0 y1 : PE, ((h0.set r0 y0).set r1 y1)[r1]? = some y1 := fun y0 y1 => by rw [List.getElem?_set_self (by rw [List.length_set]; exact hl1)]
  have s0 : ∀ y0 y1 y2 : PE, ((h0.set r0 y0).set r1 y1).set r0 y2 = (h0.set r0 y2).set r1 y1 := fun y0 y1 y2 => by rw [List.set_comm _ _ (fun q => h01 q.symm), List.set_set]
  induction k with
  | zero =>
    intro i y lx g0 g1 hik hy p2 hg hk
    have e : y = (Int8.ofInt 64).toInt32 := toInt_inj (by omega)
    subst e
    refine Vx.go hC (te := (2, .iload_n 3, 0, 0)) rfl ⟨_, p2, ?_⟩
    refine Vx.go hC (te := (3, .bipush 64, 0, 0)) rfl ?_
    refine V_icmp hC (cc := .ge) (z := 36) (ta := 0) (tb := 0) rfl (by decide) (fun _ => fin lx g0 g1 p2 (fun j hj => hg j (by omega)) hk) (fun q => absurd ((ge_of hy hN).mpr (by omega)) q)
  | succ k ih =>
    intro i y lx g0 g1 hik hy p2 hg hk
    refine Vx.go hC (te := (2, .iload_n 3, 0, 0)) rfl ⟨_, p2, ?_⟩
    refine Vx.go hC (te := (3, .bipush 64, 0, 0)) rfl ?_
    refine V_icmp hC (cc := .ge) (z := 36) (ta := 0) (tb := 0) rfl (by decide) (fun q => absurd q (fun q => by have := (ge_of hy hN).mp q; omega)) (fun _ => ?_)
    refine Vx.go hC (te := (8, .aload_n 0, 0, 0)) rfl ⟨_, hk 0 (by decide) _ p0 rfl, ⟨_, Or.inl rfl⟩, ?_⟩
    refine V_get hC (i := 11) (ta := 4) (tb := 0) rfl (ha2 _ _) (by decide) hw ?_
    refine Vx.go hC (te := (12, .iconst 0, 0, 0)) rfl ?_
    refine V_aald hC (ta := 0) (tb := 0) rfl (hr2 _ _) (Or.inr rfl) (vin i0 (by omega)) (by rw [idx_of i0]; exact hr0) ?_
    refine Vx.go hC (te := (14, .iload_n 3, 0, 0)) rfl ⟨_, p2, ?_⟩
    refine Vx.go hC (te := (15, .iconst 3, 0, 0)) rfl ?_
    refine Vx.go hC (te := (16, .iload_n 3, 0, 0)) rfl ⟨_, p2, ?_⟩
    refine Vx.go hC (te := (17, .imul, 0, 0)) rfl ?_
    refine Vx.go hC (te := (18, .iconst 1, 0, 0)) rfl ?_
    refine Vx.go hC (te := (19, .iadd, 0, 0)) rfl ?_
    refine V_iast hC (ta := 0) (tb := 0) rfl (g0r _ _) (vin hy (by omega)) ?_
    rw [s0, idx_of hy]
    refine Vx.go hC (te := (21, .aload_n 0, 0, 0)) rfl ⟨_, hk 0 (by decide) _ p0 rfl, ⟨_, Or.inl rfl⟩, ?_⟩
    refine V_get hC (i := 11) (ta := 4) (tb := 0) rfl (ha2 _ _) (by decide) hw ?_
    refine Vx.go hC (te := (25, .iconst 1, 0, 0)) rfl ?_
    refine V_aald hC (ta := 0) (tb := 0) rfl (hr2 _ _) (Or.inr rfl) (vin i1 (by omega)) (by rw [idx_of i1]; exact hr1) ?_
    refine Vx.go hC (te := (27, .iload_n 3, 0, 0)) rfl ⟨_, p2, ?_⟩
    refine Vx.go hC (te := (28, .bipush 7, 0, 0)) rfl ?_
    refine Vx.go hC (te := (30, .iload_n 3, 0, 0)) rfl ⟨_, p2, ?_⟩
    refine Vx.go hC (te := (31, .imul, 0, 0)) rfl ?_
    refine Vx.go hC (te := (32, .iconst 5, 0, 0)) rfl ?_
    refine Vx.go hC (te := (33, .isub, 0, 0)) rfl ?_
    refine V_iast hC (ta := 0) (tb := 0) rfl (g1r _ _) (vin hy (by omega)) ?_
    rw [List.set_set, idx_of hy]
    refine Vx.go hC (te := (35, .iinc 3 1, 0, 0)) rfl ⟨by decide, _, p2, ?_⟩
    refine Vx.go hC (te := (38, .goto (-36), 0, 0)) rfl ⟨by decide, ?_⟩
    refine ih (i + 1) _ _ _ _ (by omega) (one_add hy (by omega)) (pg_self _ _ _) ?_ (hk.set (by decide) _)
    intro j hj
    rw [upd_at, upd_at]
    by_cases hji : j = i
    · subst hji
      rw [if_pos rfl, if_pos rfl]
      exact ⟨n3 hy (by omega), n7 hy (by omega)⟩
    · rw [if_neg hji, if_neg hji]
      exact hg j (by omega)
end LPS3
noncomputable def x_318_2 : MAF := fun _ lv st h _ go els => match lv, st with
  | [.inr (.inr (.ref a)), .inl 0], [] => (match hget h a with
    | some (.inr (10, fs)) => (match lget fs 26 with
      | some (.inr (.inr (.ref w))) => (match hget h w with
        | some (.inl (0, l)) => (match Nat.beq l.length 128 with
          | true => hset h w (.inl (0, rw37)) fun h => go 40 [.inr (.inr (.ref a)), .inl (.ofNat 64)] [] h
          | false => els)
        | _ => els)
      | _ => els)
    | _ => els)
  | _, _ => els
theorem cR_37 {θ : Nat → Int32} {g : Nat → Int32} (hg : ∀ j, j < 64 → (g j).toInt = 3 * (j : Int) + 1 ∧ (g (64 + j)).toInt = 7 * (j : Int) - 5) : cR θ (.inl (0, rw37)) (.inl (0, 128, .inl g)) := by
  refine ⟨rfl, fun j a hj => ?_⟩
  rw [rw37_eq, List.getElem?_append] at hj
  split at hj
  · rename_i hl
    have hl : j < 64 := hl
    rw [rw3_at j hl] at hj
    cases hj
    exact ⟨_, rfl, (hg j hl).1⟩
  · rename_i hl
    have hl : ¬ j < 64 := hl
    have hj2 : rw7[j - 64]? = some a := hj
    have hlt : j - 64 < 64 := (List.getElem?_eq_some_iff.mp hj2).1
    rw [rw7_at (j - 64) hlt] at hj2
    cases hj2
    have := (hg (j - 64) hlt).2
    rw [show 64 + (j - 64) = j by omega] at this
    exact ⟨_, rfl, this⟩
theorem cR_1 {θ : Nat → Int32} {g : Nat → Int32} {l : LW} {f : Nat → Int} (hlen : l.length = 64) (hl : ∀ j, j < 64 → l[j]? = some (.inl (f j))) (hg : ∀ j, j < 64 → (g j).toInt = f j) : cR θ (.inl (0, l)) (.inl (0, 64, .inl g)) := by
  refine ⟨hlen.symm, fun j a hj => ?_⟩
  have hlt : j < 64 := by rw [← hlen]; exact (List.getElem?_eq_some_iff.mp hj).1
  rw [hl j hlt] at hj
  cases hj
  exact ⟨_, rfl, hg j hlt⟩
theorem m_318_2 {θ : Nat → Int32} {L : Nat} {C : Nat → List Value → PH → (Rs → PH → Prop) → Prop} (hC : Cmono C) {hd : HD4} {Q : Rs → PH → Prop} : MOK θ L C M_318 hd Q 2 x_318_2 := by
  intro env lv st m h c s cut go els lv' st' h' he hlv hst hh hgo hcs H
  unfold x_318_2 at H
  split at H
  · rename_i a
    split at H
    · rename_i fs hfs
      split at H
      · rename_i w hw
        split at H
        · rename_i l hl
          split at H
          · rename_i hb
            rw [beq_iff] at hb
            obtain ⟨h2, H, -, hs⟩ := hset_ok H
            rw [lget_eq] at hw
            obtain ⟨ya, hya, hca⟩ := hh.at hfs (by intro q; cases q)
            obtain ⟨gs, rfl, hgs⟩ := c_o hca
            obtain ⟨ww, hww, hvw⟩ := hgs.get hw
            obtain rfl : ww = .ref w := hvw
            obtain ⟨y, hy, hc⟩ := hh.at hl (by intro q; cases q)
            obtain ⟨g, rfl, hg⟩ := c_0 hc
            rw [hb] at hy
            have haw : ¬ w = a := fun q => by rw [q, hya] at hy; cases hy
            obtain ⟨i0, p2, r2⟩ := hlv.num (i := 1) rfl rfl
            obtain ⟨_, e2, r2⟩ := r2
            cases e2
            cases (show st' = [] from hst)
            refine Or.inr (Or.inr ?_)
            have key := f318 (S := (L, θ)) (hd := hd) (Q := Q) (c := c) (s := s) (lv' := lv') hC hya hww hy haw (fun lx g q2 hg2 hk => hgo _ _ _ _ H _ _ _ (hlv.keep hk (mods := [1]) (fun i hi => ?_) (fun i hi v2 hv2 => ?_)) rfl (hh.set hy hs (cR_37 hg2))) (hlv.ref (i := 0) rfl) 64 0 i0 lv' g (by omega) r2 p2 (fun j hj => by omega) Keep.rfl'
            · rw [set_self hy] at key
              exact key
            · rcases i with _ | _ | i
              all_goals first | rfl | exact absurd (by decide) hi
            · obtain rfl : i = 1 := by simpa using hi
              cases hv2
              exact Or.inr ⟨_, q2, ⟨_, rfl, by decide⟩, rfl⟩
          · exact Or.inl H
        · exact Or.inl H
      · exact Or.inl H
    · exact Or.inl H
  · exact Or.inl H
noncomputable def x_161_2 : MAF := fun _ lv st h _ go els => match lv, st with
  | [.inr (.inr (.ref a)), x1, x2, .inl 0, x4], [] => (match hget h a with
    | some (.inr (4, fs)) => (match lget fs 0 with
      | some (.inr (.inr (.ref w))) => (match hget h w with
        | some (.inl (3, [.inr (.inr (.ref r0)), .inr (.inr (.ref r1))])) => (match hget h r0 with
          | some (.inl (0, l0)) => (match hget h r1 with
            | some (.inl (0, l1)) => (match Nat.beq l0.length 64 && (Nat.beq l1.length 64 && !(Nat.beq r0 r1)) with
              | true => hset h r0 (.inl (0, rw3)) fun h => hset h r1 (.inl (0, rw7)) fun h => go 41 [.inr (.inr (.ref a)), x1, x2, .inl (.ofNat 64), x4] [] h
              | false => els)
            | _ => els)
          | _ => els)
        | _ => els)
      | _ => els)
    | _ => els)
  | _, _ => els
theorem m_161_2 {θ : Nat → Int32} {L : Nat} {C : Nat → List Value → PH → (Rs → PH → Prop) → Prop} (hC : Cmono C) {hd : HD4} {Q : Rs → PH → Prop} : MOK θ L C M_161 hd Q 2 x_161_2 := by
  intro env lv st m h c s cut go els lv' st' h' he hlv hst hh hgo hcs H
  unfold x_161_2 at H
  split at H
  · rename_i a x1 x2 x4
    split at H
    · rename_i fs hfs
      split at H
      · rename_i w hw
        split at H
        · rename_i r0 r1 hrr
          split at H
          · rename_i l0 hl0
            split at H
            · rename_i l1 hl1
              split at H
              · rename_i hb
                rw [Bool.and_eq_true, Bool.and_eq_true, beq_iff, beq_iff, Bool.not_eq_true'] at hb
                obtain ⟨b1, b2, b3⟩ := hb
                have h01 : ¬ r0 = r1 := fun q => by rw [beq_iff.mpr q] at b3; cases b3
                obtain ⟨h2, H, -, hs⟩ := hset_ok H
                obtain ⟨h3, H, -, hs3⟩ := hset_ok H
                rw [lget_eq] at hw
                obtain ⟨ya, hya, hca⟩ := hh.at hfs (by intro q; cases q)
                obtain ⟨gs, rfl, hgs⟩ := c_o hca
                obtain ⟨ww, hww, hvw⟩ := hgs.get hw
                obtain rfl : ww = .ref w := hvw
                obtain ⟨yr, hyr, hcr⟩ := hh.at hrr (by intro q; cases q)
                obtain ⟨gr, rfl, hgr⟩ := c_3 hcr
                have e0 := rf_some (hgr 0 _ rfl)
                have e1 := rf_some (hgr 1 _ rfl)
                obtain ⟨y0, hy0, hc0⟩ := hh.at hl0 (by intro q; cases q)
                obtain ⟨g0, rfl, hg0⟩ := c_0 hc0
                obtain ⟨y1, hy1, hc1⟩ := hh.at hl1 (by intro q; cases q)
                obtain ⟨g1, rfl, hg1⟩ := c_0 hc1
                rw [b1] at hy0
                rw [b2] at hy1
                obtain ⟨i0, p2, r2⟩ := hlv.num (i := 3) rfl rfl
                obtain ⟨_, e2, r2⟩ := r2
                cases e2
                cases (show st' = [] from hst)
                refine Or.inr (Or.inr ?_)
                have key := f161 (S := (L, θ)) (hd := hd) (Q := Q) (c := c) (s := s) (lv' := lv') hC hya hww hyr e0 e1 hy0 hy1 h01 (fun q => by rw [q, hya] at hy0; cases hy0) (fun q => by rw [q, hya] at hy1; cases hy1) (fun q => by rw [q, hyr] at hy0; cases hy0) (fun q => by rw [q, hyr] at hy1; cases hy1) (fun lx g0 g1 q2 hg2 hk => hgo _ _ _ _ H _ _ _ (hlv.keep hk (mods := [3]) (fun i hi => ?_) (fun i hi v2 hv2 => ?_)) rfl ((hh.set hy0 hs (cR_1 rfl rw3_at (fun j hj => (hg2 j hj).1))).set (by rw [List.getElem?_set_ne h01]; exact hy1) hs3 (cR_1 rfl rw7_at (fun j hj => (hg2 j hj).2)))) (hlv.ref (i := 0) rfl) 64 0 i0 lv' g0 g1 (by omega) r2 p2 (fun j hj => by omega) Keep.rfl'
                · rw [set_self hy0, set_self hy1] at key
                  exact key
                · rcases i with _ | _ | _ | _ | _ | i
                  all_goals first | rfl | exact absurd (by decide) hi
                · obtain rfl : i = 3 := by simpa using hi
                  cases hv2
                  exact Or.inr ⟨_, q2, ⟨_, rfl, by decide⟩, rfl⟩
              · exact Or.inl H
            · exact Or.inl H
          · exact Or.inl H
        · exact Or.inl H
      · exact Or.inl H
    · exact Or.inl H
  · exact Or.inl H
