/-! loops over no ops -/
section LPS4
variable {S : Nat × (Nat → Int32)} {hd : HD4} {Q : Rs → PH → Prop} {c s : Nat} {lv' : LV} {h0 : PH}
theorem z00 {z : Int32} (hz : z.toInt = 0) : ccI .ge (Int32.ofInt 0) z := (ge_of (show (Int32.ofInt 0).toInt = 0 by decide) hz).mpr (by omega)
theorem gt_of {x y : Int32} {i n : Int} (hx : x.toInt = i) (hy : y.toInt = n) : ccI .gt x y ↔ n < i := by rw [ccI_iff, hx, hy]; exact Iff.rfl
theorem l161 {C : Nat → List Value → PH → (Rs → PH → Prop) → Prop} (hC : Cmono C) {b n : Nat} {gs : List Value} {z nv : Int32} (hb : h0[b]? = some (.inr (0, gs))) (hg : gs[0]? = some (.int z)) (hz : z.toInt = 0) (hn : nv.toInt = (n : Int)) (p1 : px_g lv' 1 = some (.ref b)) (p2 : px_g lv' 2 = some (.int nv))
    (fin : ∀ (lx : LV) (y : Int32), y.toInt = ((n : Nat) : Int) → px_g lx 3 = some (.int y) → Keep [3, 4] lv' lx → Vx C S M_161 hd Q 92 lx [] h0 c s) :
    ∀ (k i : Nat) (y : Int32) (lx : LV), i + k = n → y.toInt = (i : Int) → px_g lx 3 = some (.int y) → Keep [3, 4] lv' lx → Vx C S M_161 hd Q 43 lx [] h0 c s := by
  intro k
  induction k with
  | zero =>
    intro i y lx hik hy pc  hk
    refine Vx.go hC (te := (43, .iload_n 3, 0, 0)) rfl ⟨_, pc, ?_⟩
    refine Vx.go hC (te := (44, .iload_n 2, 0, 0)) rfl ⟨_, hk 2 (by decide) _ p2 rfl, ?_⟩
    refine V_icmp hC (cc := .ge) (z := 47) (ta := 0) (tb := 0) rfl (by decide) (fun _ => fin lx y (by omega) pc hk) (fun q => absurd ((ge_of hy hn).mpr (by omega)) q)
  | succ k ih =>
    intro i y lx hik hy pc  hk
    refine Vx.go hC (te := (43, .iload_n 3, 0, 0)) rfl ⟨_, pc, ?_⟩
    refine Vx.go hC (te := (44, .iload_n 2, 0, 0)) rfl ⟨_, hk 2 (by decide) _ p2 rfl, ?_⟩
    refine V_icmp hC (cc := .ge) (z := 47) (ta := 0) (tb := 0) rfl (by decide) (fun q => absurd q (fun q => by have := (ge_of hy hn).mp q; omega)) (fun _ => ?_)
    refine Vx.go hC (te := (48, .iconst 0, 0, 0)) rfl ?_
    refine Vx.go hC (te := (49, .istore 4, 0, 0)) rfl ⟨by decide, ?_⟩
    refine Vx.go hC (te := (51, .iload 4, 0, 0)) rfl ⟨_, pg_self _ _ _, ?_⟩
    refine Vx.go hC (te := (53, .aload_n 1, 0, 0)) rfl ⟨_, (hk.set (i := 4) (by decide) _) 1 (by decide) _ p1 rfl, ⟨_, Or.inl rfl⟩, ?_⟩
    refine V_get hC (i := 20) (ta := 0) (tb := 0) rfl hb (by decide) hg ?_
    refine V_icmp hC (cc := .ge) (z := 29) (ta := 0) (tb := 0) rfl (by decide) (fun _ => ?_) (fun q => absurd (z00 hz) q)
    refine Vx.go hC (te := (86, .iinc 3 1, 0, 0)) rfl ⟨by decide, _, pg_ne (by decide) pc rfl, ?_⟩
    refine Vx.go hC (te := (89, .goto (-46), 0, 0)) rfl ⟨by decide, ?_⟩
    exact ih (i + 1) _ _ (by omega) (one_add hy (by have := (i32_rng nv).2; omega)) (pg_self _ _ _) ((hk.set (by decide) _).set (by decide) _)
theorem l328 {C : Nat → List Value → PH → (Rs → PH → Prop) → Prop} (hC : Cmono C) {a n : Nat} {gs : List Value} {z nv : Int32} (ha : h0[a]? = some (.inr (10, gs))) (hg : gs[1]? = some (.int z)) (hz : z.toInt = 0) (hn : nv.toInt = (n : Int)) (p0 : px_g lv' 0 = some (.ref a)) (p1 : px_g lv' 1 = some (.int nv))
    (fin : ∀ (lx : LV) (y : Int32), y.toInt = ((n : Nat) : Int) → px_g lx 2 = some (.int y) → Keep [2, 3] lv' lx → Vx C S M_328 hd Q 87 lx [] h0 c s) :
    ∀ (k i : Nat) (y : Int32) (lx : LV), i + k = n → y.toInt = (i : Int) → px_g lx 2 = some (.int y) → Keep [2, 3] lv' lx → Vx C S M_328 hd Q 6 lx [] h0 c s := by
  intro k
  induction k with
  | zero =>
    intro i y lx hik hy pc  hk
    refine Vx.go hC (te := (6, .iload_n 2, 0, 0)) rfl ⟨_, pc, ?_⟩
    refine Vx.go hC (te := (7, .iload_n 1, 0, 0)) rfl ⟨_, hk 1 (by decide) _ p1 rfl, ?_⟩
    refine V_icmp hC (cc := .ge) (z := 79) (ta := 0) (tb := 0) rfl (by decide) (fun _ => fin lx y (by omega) pc hk) (fun q => absurd ((ge_of hy hn).mpr (by omega)) q)
  | succ k ih =>
    intro i y lx hik hy pc  hk
    refine Vx.go hC (te := (6, .iload_n 2, 0, 0)) rfl ⟨_, pc, ?_⟩
    refine Vx.go hC (te := (7, .iload_n 1, 0, 0)) rfl ⟨_, hk 1 (by decide) _ p1 rfl, ?_⟩
    refine V_icmp hC (cc := .ge) (z := 79) (ta := 0) (tb := 0) rfl (by decide) (fun q => absurd q (fun q => by have := (ge_of hy hn).mp q; omega)) (fun _ => ?_)
    refine Vx.go hC (te := (11, .iconst 0, 0, 0)) rfl ?_
    refine Vx.go hC (te := (12, .istore_n 3, 0, 0)) rfl ⟨by decide, ?_⟩
    refine Vx.go hC (te := (13, .iload_n 3, 0, 0)) rfl ⟨_, pg_self _ _ _, ?_⟩
    refine Vx.go hC (te := (14, .aload_n 0, 0, 0)) rfl ⟨_, (hk.set (i := 3) (by decide) _) 0 (by decide) _ p0 rfl, ⟨_, Or.inl rfl⟩, ?_⟩
    refine V_get hC (i := 108) (ta := 10) (tb := 1) rfl ha (by decide) hg ?_
    refine V_icmp hC (cc := .ge) (z := 63) (ta := 0) (tb := 0) rfl (by decide) (fun _ => ?_) (fun q => absurd (z00 hz) q)
    refine Vx.go hC (te := (81, .iinc 2 1, 0, 0)) rfl ⟨by decide, _, pg_ne (by decide) pc rfl, ?_⟩
    refine Vx.go hC (te := (84, .goto (-78), 0, 0)) rfl ⟨by decide, ?_⟩
    exact ih (i + 1) _ _ (by omega) (one_add hy (by have := (i32_rng nv).2; omega)) (pg_self _ _ _) ((hk.set (by decide) _).set (by decide) _)
theorem l317 {C : Nat → List Value → PH → (Rs → PH → Prop) → Prop} (hC : Cmono C) {a n : Nat} {gs : List Value} {z nv : Int32} (ha : h0[a]? = some (.inr (10, gs))) (hg : gs[1]? = some (.int z)) (hz : z.toInt = 0) (hn : nv.toInt = (n : Int)) (hb : n < 200000) (p0 : px_g lv' 0 = some (.ref a)) (p3 : px_g lv' 3 = some (.int nv))
    (fin : ∀ (lx : LV) (y : Int32), y.toInt = ((n + 1 : Nat) : Int) → px_g lx 4 = some (.int y) → Keep [4, 5] lv' lx → Vx C S M_317 hd Q 222 lx [] h0 c s) :
    ∀ (k i : Nat) (y : Int32) (lx : LV), i + k = n + 1 → y.toInt = (i : Int) → px_g lx 4 = some (.int y) → Keep [4, 5] lv' lx → Vx C S M_317 hd Q 75 lx [] h0 c s := by
  intro k
  induction k with
  | zero =>
    intro i y lx hik hy pc  hk
    refine Vx.go hC (te := (75, .iload 4, 0, 0)) rfl ⟨_, pc, ?_⟩
    refine Vx.go hC (te := (77, .iload_n 3, 0, 0)) rfl ⟨_, hk 3 (by decide) _ p3 rfl, ?_⟩
    refine V_icmp hC (cc := .gt) (z := 144) (ta := 0) (tb := 0) rfl (by decide) (fun _ => fin lx y (by omega) pc hk) (fun q => absurd ((gt_of hy hn).mpr (by omega)) q)
  | succ k ih =>
    intro i y lx hik hy pc  hk
    refine Vx.go hC (te := (75, .iload 4, 0, 0)) rfl ⟨_, pc, ?_⟩
    refine Vx.go hC (te := (77, .iload_n 3, 0, 0)) rfl ⟨_, hk 3 (by decide) _ p3 rfl, ?_⟩
    refine V_icmp hC (cc := .gt) (z := 144) (ta := 0) (tb := 0) rfl (by decide) (fun q => absurd q (fun q => by have := (gt_of hy hn).mp q; omega)) (fun _ => ?_)
    refine Vx.go hC (te := (81, .iconst 0, 0, 0)) rfl ?_
    refine Vx.go hC (te := (82, .istore 5, 0, 0)) rfl ⟨by decide, ?_⟩
    refine Vx.go hC (te := (84, .iload 5, 0, 0)) rfl ⟨_, pg_self _ _ _, ?_⟩
    refine Vx.go hC (te := (86, .aload_n 0, 0, 0)) rfl ⟨_, (hk.set (i := 5) (by decide) _) 0 (by decide) _ p0 rfl, ⟨_, Or.inl rfl⟩, ?_⟩
    refine V_get hC (i := 108) (ta := 10) (tb := 1) rfl ha (by decide) hg ?_
    refine V_icmp hC (cc := .ge) (z := 45) (ta := 0) (tb := 0) rfl (by decide) (fun _ => ?_) (fun q => absurd (z00 hz) q)
    refine Vx.go hC (te := (135, .iconst 0, 0, 0)) rfl ?_
    refine Vx.go hC (te := (136, .istore 5, 0, 0)) rfl ⟨by decide, ?_⟩
    refine Vx.go hC (te := (138, .iload 5, 0, 0)) rfl ⟨_, pg_self _ _ _, ?_⟩
    refine Vx.go hC (te := (140, .aload_n 0, 0, 0)) rfl ⟨_, ((hk.set (i := 5) (by decide) _).set (i := 5) (by decide) _) 0 (by decide) _ p0 rfl, ⟨_, Or.inl rfl⟩, ?_⟩
    refine V_get hC (i := 108) (ta := 10) (tb := 1) rfl ha (by decide) hg ?_
    refine V_icmp hC (cc := .ge) (z := 72) (ta := 0) (tb := 0) rfl (by decide) (fun _ => ?_) (fun q => absurd (z00 hz) q)
    refine Vx.go hC (te := (216, .iinc 4 1, 0, 0)) rfl ⟨by decide, _, pg_ne (by decide) (pg_ne (by decide) pc rfl) rfl, ?_⟩
    refine Vx.go hC (te := (219, .goto (-144), 0, 0)) rfl ⟨by decide, ?_⟩
    exact ih (i + 1) _ _ (by omega) (one_add hy (by omega)) (pg_self _ _ _) (((hk.set (by decide) _).set (by decide) _).set (by decide) _)
theorem l215 {C : Nat → List Value → PH → (Rs → PH → Prop) → Prop} (hC : Cmono C) {a b w n : Nat} {gs fs : List Value} {g : Nat → Int32} {z x7 nv : Int32} (ha : h0[a]? = some (.inr (3, fs))) (hf : fs[0]? = some (.ref w)) (hw : h0[w]? = some (.inl (0, 1024, .inl g))) (hgz : ∀ j, j < 1024 → g j = x7) (hb : h0[b]? = some (.inr (1, gs))) (hg : gs[2]? = some (.int z)) (hz : z.toInt = 0) (hn : nv.toInt = (n : Int)) (hl : n ≤ 1024) (p0 : px_g lv' 0 = some (.ref a)) (p2 : px_g lv' 2 = some (.ref b)) (p6 : px_g lv' 6 = some (.int nv)) (p7 : px_g lv' 7 = some (.int x7))
    (fin : ∀ (lx : LV) (y : Int32), y.toInt = ((n : Nat) : Int) → px_g lx 8 = some (.int y) → Keep [8, 9] lv' lx → Vx C S M_215 hd Q 108 lx [] h0 c s) :
    ∀ (k i : Nat) (y : Int32) (lx : LV), i + k = n → y.toInt = (i : Int) → px_g lx 8 = some (.int y) → Keep [8, 9] lv' lx → Vx C S M_215 hd Q 31 lx [] h0 c s := by
  intro k
  induction k with
  | zero =>
    intro i y lx hik hy pc  hk
    refine Vx.go hC (te := (31, .iload 8, 0, 0)) rfl ⟨_, pc, ?_⟩
    refine Vx.go hC (te := (33, .iload 6, 0, 0)) rfl ⟨_, hk 6 (by decide) _ p6 rfl, ?_⟩
    refine V_icmp hC (cc := .ge) (z := 73) (ta := 0) (tb := 0) rfl (by decide) (fun _ => fin lx y (by omega) pc hk) (fun q => absurd ((ge_of hy hn).mpr (by omega)) q)
  | succ k ih =>
    intro i y lx hik hy pc  hk
    refine Vx.go hC (te := (31, .iload 8, 0, 0)) rfl ⟨_, pc, ?_⟩
    refine Vx.go hC (te := (33, .iload 6, 0, 0)) rfl ⟨_, hk 6 (by decide) _ p6 rfl, ?_⟩
    refine V_icmp hC (cc := .ge) (z := 73) (ta := 0) (tb := 0) rfl (by decide) (fun q => absurd q (fun q => by have := (ge_of hy hn).mp q; omega)) (fun _ => ?_)
    refine Vx.go hC (te := (38, .iconst 0, 0, 0)) rfl ?_
    refine Vx.go hC (te := (39, .istore 9, 0, 0)) rfl ⟨by decide, ?_⟩
    refine Vx.go hC (te := (41, .iload 9, 0, 0)) rfl ⟨_, pg_self _ _ _, ?_⟩
    refine Vx.go hC (te := (43, .aload_n 2, 0, 0)) rfl ⟨_, (hk.set (i := 9) (by decide) _) 2 (by decide) _ p2 rfl, ⟨_, Or.inl rfl⟩, ?_⟩
    refine V_get hC (i := 34) (ta := 1) (tb := 2) rfl hb (by decide) hg ?_
    refine V_icmp hC (cc := .ge) (z := 46) (ta := 0) (tb := 0) rfl (by decide) (fun _ => ?_) (fun q => absurd (z00 hz) q)
    refine Vx.go hC (te := (93, .aload_n 0, 0, 0)) rfl ⟨_, (hk.set (i := 9) (by decide) _) 0 (by decide) _ p0 rfl, ⟨_, Or.inl rfl⟩, ?_⟩
    refine V_get hC (i := 11) (ta := 3) (tb := 0) rfl ha (by decide) hf ?_
    refine Vx.go hC (te := (97, .iload 8, 0, 0)) rfl ⟨_, pg_ne (by decide) pc rfl, ?_⟩
    refine Vx.go hC (te := (99, .iload 7, 0, 0)) rfl ⟨_, (hk.set (i := 9) (by decide) _) 7 (by decide) _ p7 rfl, ?_⟩
    refine V_iast hC (ta := 0) (tb := 0) rfl hw (vin hy (by omega)) ?_
    rw [idx_of hy, upd_eq (hgz i (by omega)), set_self hw]
    refine Vx.go hC (te := (102, .iinc 8 1, 0, 0)) rfl ⟨by decide, _, pg_ne (by decide) pc rfl, ?_⟩
    refine Vx.go hC (te := (105, .goto (-74), 0, 0)) rfl ⟨by decide, ?_⟩
    exact ih (i + 1) _ _ (by omega) (one_add hy (by omega)) (pg_self _ _ _) ((hk.set (by decide) _).set (by decide) _)
theorem e_212 (n : Nat) {a : Nat} {x y z : Int32} {gs : List Value} (ha : h0[a]? = some (.inr (1, gs))) (hg : gs[2]? = some (.int z)) (hz : z.toInt = 0) (hQ : Q (.inl (some (.int (Int32.ofInt 0)))) h0) : Ex S (n + 1) 212 [.ref a, .int x, .int y] h0 Q := by
  have hC := Ex.mono S n
  refine ⟨M_212, rfl, Nat.le_of_ble_eq_true rfl, ?_⟩
  refine Vx.go hC (te := (0, .iconst 0, 0, 0)) rfl ?_
  refine Vx.go hC (te := (1, .istore_n 3, 0, 0)) rfl ⟨by decide, ?_⟩
  refine Vx.go hC (te := (2, .iload_n 3, 0, 0)) rfl ⟨_, pg_self _ _ _, ?_⟩
  refine Vx.go hC (te := (3, .aload_n 0, 0, 0)) rfl ⟨_, rfl, ⟨_, Or.inl rfl⟩, ?_⟩
  refine V_get hC (i := 39) (ta := 1) (tb := 2) rfl ha (by decide) hg ?_
  refine V_icmp hC (cc := .ge) (z := 22) (ta := 0) (tb := 0) rfl (by decide) (fun _ => ?_) (fun q => absurd (z00 hz) q)
  refine Vx.go hC (te := (29, .iconst 0, 0, 0)) rfl ?_
  exact Vx.go hC (te := (30, .ireturn, 0, 0)) rfl ⟨_, rfl, ⟨_, rfl, rfl⟩, hQ⟩
theorem e_363 (n : Nat) {a : Nat} {x y w z : Int32} {gs : List Value} (ha : h0[a]? = some (.inr (10, gs))) (hg : gs[1]? = some (.int z)) (hz : z.toInt = 0) (hQ : Q (.inl (some (.int (Int32.ofInt 0)))) h0) : Ex S (n + 1) 363 [.ref a, .int x, .int y, .int w] h0 Q := by
  have hC := Ex.mono S n
  refine ⟨M_363, rfl, Nat.le_of_ble_eq_true rfl, ?_⟩
  refine Vx.go hC (te := (0, .iconst 0, 0, 0)) rfl ?_
  refine Vx.go hC (te := (1, .istore 4, 0, 0)) rfl ⟨by decide, ?_⟩
  refine Vx.go hC (te := (3, .iload 4, 0, 0)) rfl ⟨_, pg_self _ _ _, ?_⟩
  refine Vx.go hC (te := (5, .aload_n 0, 0, 0)) rfl ⟨_, rfl, ⟨_, Or.inl rfl⟩, ?_⟩
  refine V_get hC (i := 108) (ta := 10) (tb := 1) rfl ha (by decide) hg ?_
  refine V_icmp hC (cc := .ge) (z := 28) (ta := 0) (tb := 0) rfl (by decide) (fun _ => ?_) (fun q => absurd (z00 hz) q)
  refine Vx.go hC (te := (37, .iconst 0, 0, 0)) rfl ?_
  exact Vx.go hC (te := (38, .ireturn, 0, 0)) rfl ⟨_, rfl, ⟨_, rfl, rfl⟩, hQ⟩
theorem e_300 (n : Nat) {a : Nat} {z : Int32} {gs : List Value} (ha : h0[a]? = some (.inr (10, gs))) (hg : gs[1]? = some (.int z)) (hz : z.toInt = 0) (hQ : Q (.inl (some (.int (Int32.ofInt 0)))) h0) : Ex S (n + 1) 300 [.ref a] h0 Q := by
  have hC := Ex.mono S n
  refine ⟨M_300, rfl, Nat.le_of_ble_eq_true rfl, ?_⟩
  refine Vx.go hC (te := (0, .iconst 0, 0, 0)) rfl ?_
  refine Vx.go hC (te := (1, .istore_n 1, 0, 0)) rfl ⟨by decide, ?_⟩
  refine Vx.go hC (te := (2, .iconst 0, 0, 0)) rfl ?_
  refine Vx.go hC (te := (3, .istore_n 2, 0, 0)) rfl ⟨by decide, ?_⟩
  refine Vx.go hC (te := (4, .iload_n 2, 0, 0)) rfl ⟨_, pg_self _ _ _, ?_⟩
  refine Vx.go hC (te := (5, .aload_n 0, 0, 0)) rfl ⟨_, rfl, ⟨_, Or.inl rfl⟩, ?_⟩
  refine V_get hC (i := 108) (ta := 10) (tb := 1) rfl ha (by decide) hg ?_
  refine V_icmp hC (cc := .ge) (z := 26) (ta := 0) (tb := 0) rfl (by decide) (fun _ => ?_) (fun q => absurd (z00 hz) q)
  refine Vx.go hC (te := (35, .iload_n 1, 0, 0)) rfl ⟨_, rfl, ?_⟩
  exact Vx.go hC (te := (36, .ireturn, 0, 0)) rfl ⟨_, rfl, ⟨_, rfl, rfl⟩, hQ⟩
theorem e_313 (n : Nat) {a : Nat} {d x z : Int32} {gs : List Value} (ha : h0[a]? = some (.inr (10, gs))) (hg : gs[1]? = some (.int z)) (hz : z.toInt = 0) (hx : ¬ x = 0) (hQ : Q (.inl (some (.int (d * (x - Int32.ofInt 1) + Int32.ofInt 0)))) h0) : Ex S (n + 2) 313 [.ref a, .int d, .int x] h0 Q := by
  have hC := Ex.mono S (n + 1)
  have hcs : (0 : Nat) ≤ pC M_313 ∧ (0 : Nat) ≤ pS M_313 := ⟨Nat.zero_le _, Nat.zero_le _⟩
  refine ⟨M_313, rfl, Nat.le_of_ble_eq_true rfl, ?_⟩
  refine Vx.go hC (te := (0, .iload_n 2, 0, 0)) rfl ⟨_, rfl, ?_⟩
  refine Vx.go hC (te := (1, .ifCond .ne 7, 0, 0)) rfl ⟨by decide, fun _ => ?_, fun q => absurd (show ccI .ne x 0 from hx) q⟩
  refine Vx.go hC (te := (8, .iload_n 1, 0, 0)) rfl ⟨_, rfl, ?_⟩
  refine Vx.go hC (te := (9, .iload_n 2, 0, 0)) rfl ⟨_, rfl, ?_⟩
  refine Vx.go hC (te := (10, .iconst 1, 0, 0)) rfl ?_
  refine Vx.go hC (te := (11, .isub, 0, 0)) rfl ?_
  refine Vx.go hC (te := (12, .imul, 0, 0)) rfl ?_
  refine Vx.go hC (te := (13, .aload_n 0, 0, 0)) rfl ⟨_, rfl, ⟨_, Or.inl rfl⟩, ?_⟩
  refine V_call hC (i := 290) (μ := 300) (tb := 0) (args := [.ref a]) (k := 1) rfl rfl rfl rfl (by show 1 ≤ 8; omega) ⟨rfl, rfl⟩ hcs rfl ha ?_
  refine e_300 n ha hg hz ⟨some (.int (Int32.ofInt 0)), rfl, ?_⟩
  refine Vx.go hC (te := (17, .iadd, 0, 0)) rfl ?_
  exact Vx.go hC (te := (18, .ireturn, 0, 0)) rfl ⟨_, rfl, ⟨_, rfl, rfl⟩, hQ⟩
theorem l211 {m : Nat} {a n : Nat} {gs : List Value} {z x1 nv : Int32} (hcs : c ≤ pC M_211 ∧ s ≤ pS M_211) (ha : h0[a]? = some (.inr (1, gs))) (hg : gs[2]? = some (.int z)) (hz : z.toInt = 0) (hn : nv.toInt = (n : Int)) (p0 : px_g lv' 0 = some (.ref a)) (p1 : px_g lv' 1 = some (.int x1)) (p3 : px_g lv' 3 = some (.int nv))
    (fin : ∀ (lx : LV) (y : Int32), y.toInt = ((n : Nat) : Int) → px_g lx 4 = some (.int y) → px_g lx 2 = some (.int y) → Keep [2, 4] lv' lx → Vx (Ex S (m + 4)) S M_211 hd Q 36 lx [] h0 c s) :
    ∀ (k i : Nat) (y : Int32) (lx : LV), i + k = n → y.toInt = (i : Int) → px_g lx 4 = some (.int y) → px_g lx 2 = some (.int y) → Keep [2, 4] lv' lx → Vx (Ex S (m + 4)) S M_211 hd Q 11 lx [] h0 c s := by
  intro k
  have hC := Ex.mono S (m + 4)
  induction k with
  | zero =>
    intro i y lx hik hy pc pd hk
    refine Vx.go hC (te := (11, .iload 4, 0, 0)) rfl ⟨_, pc, ?_⟩
    refine Vx.go hC (te := (13, .iload_n 3, 0, 0)) rfl ⟨_, hk 3 (by decide) _ p3 rfl, ?_⟩
    refine V_icmp hC (cc := .ge) (z := 22) (ta := 0) (tb := 0) rfl (by decide) (fun _ => fin lx y (by omega) pc pd hk) (fun q => absurd ((ge_of hy hn).mpr (by omega)) q)
  | succ k ih =>
    intro i y lx hik hy pc pd hk
    refine Vx.go hC (te := (11, .iload 4, 0, 0)) rfl ⟨_, pc, ?_⟩
    refine Vx.go hC (te := (13, .iload_n 3, 0, 0)) rfl ⟨_, hk 3 (by decide) _ p3 rfl, ?_⟩
    refine V_icmp hC (cc := .ge) (z := 22) (ta := 0) (tb := 0) rfl (by decide) (fun q => absurd q (fun q => by have := (ge_of hy hn).mp q; omega)) (fun _ => ?_)
    refine Vx.go hC (te := (17, .aload_n 0, 0, 0)) rfl ⟨_, hk 0 (by decide) _ p0 rfl, ⟨_, Or.inl rfl⟩, ?_⟩
    refine Vx.go hC (te := (18, .iload 4, 0, 0)) rfl ⟨_, pc, ?_⟩
    refine Vx.go hC (te := (20, .iload_n 1, 0, 0)) rfl ⟨_, hk 1 (by decide) _ p1 rfl, ?_⟩
    refine V_call hC (i := 143) (μ := 212) (tb := 0) (args := [.int x1, .int y, .ref a]) (k := 3) rfl rfl rfl rfl (by show 0 ≤ 8; omega) ⟨rfl, rfl⟩ hcs rfl ha ?_
    refine e_212 (m + 3) ha hg hz ⟨some (.int (Int32.ofInt 0)), rfl, ?_⟩
    refine Vx.go hC (te := (24, .ifCond .ne 6, 0, 0)) rfl ⟨by decide, fun q => absurd q (show ¬ ccI .ne (Int32.ofInt 0) 0 from fun q => q rfl), fun _ => ?_⟩
    refine Vx.go hC (te := (27, .iinc 2 1, 0, 0)) rfl ⟨by decide, _, pd, ?_⟩
    refine Vx.go hC (te := (30, .iinc 4 1, 0, 0)) rfl ⟨by decide, _, pg_ne (by decide) pc rfl, ?_⟩
    refine Vx.go hC (te := (33, .goto (-22), 0, 0)) rfl ⟨by decide, ?_⟩
    exact ih (i + 1) _ _ (by omega) (one_add hy (by have := (i32_rng nv).2; omega)) (pg_self _ _ _) (pg_ne (by decide) (pg_self _ _ _) rfl) ((hk.set (by decide) _).set (by decide) _)
theorem l362 {m : Nat} {a n : Nat} {gs : List Value} {z d x : Int32} (hcs : c ≤ pC M_362 ∧ s ≤ pS M_362) (ha : h0[a]? = some (.inr (10, gs))) (hg : gs[1]? = some (.int z)) (hz : z.toInt = 0) (hx : ¬ x = 0) (hn : (d * (x - Int32.ofInt 1) + Int32.ofInt 0).toInt = (n : Int)) (p0 : px_g lv' 0 = some (.ref a)) (p1 : px_g lv' 1 = some (.int d)) (p2 : px_g lv' 2 = some (.int x))
    (fin : ∀ (lx : LV) (y : Int32), y.toInt = ((n : Nat) : Int) → px_g lx 4 = some (.int y) → px_g lx 3 = some (.int y) → Keep [3, 4] lv' lx → Vx (Ex S (m + 4)) S M_362 hd Q 60 lx [] h0 c s) :
    ∀ (k i : Nat) (y : Int32) (lx : LV), i + k = n → y.toInt = (i : Int) → px_g lx 4 = some (.int y) → px_g lx 3 = some (.int y) → Keep [3, 4] lv' lx → Vx (Ex S (m + 4)) S M_362 hd Q 24 lx [] h0 c s := by
  intro k
  have hC := Ex.mono S (m + 4)
  induction k with
  | zero =>
    intro i y lx hik hy pc pd hk
    refine Vx.go hC (te := (24, .iload 4, 0, 0)) rfl ⟨_, pc, ?_⟩
    refine Vx.go hC (te := (26, .aload_n 0, 0, 0)) rfl ⟨_, hk 0 (by decide) _ p0 rfl, ⟨_, Or.inl rfl⟩, ?_⟩
    refine Vx.go hC (te := (27, .iload_n 1, 0, 0)) rfl ⟨_, hk 1 (by decide) _ p1 rfl, ?_⟩
    refine Vx.go hC (te := (28, .iload_n 2, 0, 0)) rfl ⟨_, hk 2 (by decide) _ p2 rfl, ?_⟩
    refine V_call hC (i := 308) (μ := 313) (tb := 0) (args := [.int x, .int d, .ref a]) (k := 3) rfl rfl rfl rfl (by show 1 ≤ 8; omega) ⟨rfl, rfl⟩ hcs rfl ha ?_
    refine e_313 (m + 2) ha hg hz hx ⟨some (.int (d * (x - Int32.ofInt 1) + Int32.ofInt 0)), rfl, ?_⟩
    refine V_icmp hC (cc := .ge) (z := 28) (ta := 0) (tb := 0) rfl (by decide) (fun _ => fin lx y (by omega) pc pd hk) (fun q => absurd ((ge_of hy hn).mpr (by omega)) q)
  | succ k ih =>
    intro i y lx hik hy pc pd hk
    refine Vx.go hC (te := (24, .iload 4, 0, 0)) rfl ⟨_, pc, ?_⟩
    refine Vx.go hC (te := (26, .aload_n 0, 0, 0)) rfl ⟨_, hk 0 (by decide) _ p0 rfl, ⟨_, Or.inl rfl⟩, ?_⟩
    refine Vx.go hC (te := (27, .iload_n 1, 0, 0)) rfl ⟨_, hk 1 (by decide) _ p1 rfl, ?_⟩
    refine Vx.go hC (te := (28, .iload_n 2, 0, 0)) rfl ⟨_, hk 2 (by decide) _ p2 rfl, ?_⟩
    refine V_call hC (i := 308) (μ := 313) (tb := 0) (args := [.int x, .int d, .ref a]) (k := 3) rfl rfl rfl rfl (by show 1 ≤ 8; omega) ⟨rfl, rfl⟩ hcs rfl ha ?_
    refine e_313 (m + 2) ha hg hz hx ⟨some (.int (d * (x - Int32.ofInt 1) + Int32.ofInt 0)), rfl, ?_⟩
    refine V_icmp hC (cc := .ge) (z := 28) (ta := 0) (tb := 0) rfl (by decide) (fun q => absurd q (fun q => by have := (ge_of hy hn).mp q; omega)) (fun _ => ?_)
    refine Vx.go hC (te := (35, .iload_n 3, 0, 0)) rfl ⟨_, pd, ?_⟩
    refine Vx.go hC (te := (36, .aload_n 0, 0, 0)) rfl ⟨_, hk 0 (by decide) _ p0 rfl, ⟨_, Or.inl rfl⟩, ?_⟩
    refine Vx.go hC (te := (37, .iload 4, 0, 0)) rfl ⟨_, pc, ?_⟩
    refine Vx.go hC (te := (39, .iload_n 1, 0, 0)) rfl ⟨_, hk 1 (by decide) _ p1 rfl, ?_⟩
    refine Vx.go hC (te := (40, .iload_n 2, 0, 0)) rfl ⟨_, hk 2 (by decide) _ p2 rfl, ?_⟩
    refine V_call hC (i := 408) (μ := 363) (tb := 0) (args := [.int x, .int d, .int y, .ref a]) (k := 4) rfl rfl rfl rfl (by show 1 ≤ 8; omega) ⟨rfl, rfl⟩ hcs rfl ha ?_
    refine e_363 (m + 3) ha hg hz ⟨some (.int (Int32.ofInt 0)), rfl, ?_⟩
    refine Vx.go hC (te := (44, .ifCond .eq 7, 0, 0)) rfl ⟨by decide, fun _ => ?_, fun q => absurd (show ccI .eq (Int32.ofInt 0) 0 from rfl) q⟩
    refine Vx.go hC (te := (51, .iconst 1, 0, 0)) rfl ?_
    refine Vx.go hC (te := (52, .iadd, 0, 0)) rfl ?_
    refine Vx.go hC (te := (53, .istore_n 3, 0, 0)) rfl ⟨by decide, ?_⟩
    refine Vx.go hC (te := (54, .iinc 4 1, 0, 0)) rfl ⟨by decide, _, pg_ne (by decide) pc rfl, ?_⟩
    refine Vx.go hC (te := (57, .goto (-33), 0, 0)) rfl ⟨by decide, ?_⟩
    exact ih (i + 1) _ _ (by omega) (one_add hy (by have := (i32_rng (d * (x - Int32.ofInt 1) + Int32.ofInt 0)).2; omega)) (pg_self _ _ _) (pg_ne (by decide) (pg_self _ _ _) rfl) ((hk.set (by decide) _).set (by decide) _)
theorem sub0 {y w : Int32} (hw : w.toInt = 0) : (y + w - y).toInt = 0 := by
  have e : w = 0 := toInt_inj (by rw [hw]; decide)
  subst e
  have hy := i32_rng y
  rw [Int32.toInt_sub, Int32.toInt_add, show (0 : Int32).toInt = 0 by decide, Int.add_zero]
  show ((y.toInt).bmod 4294967296 - y.toInt).bmod 4294967296 = 0
  rw [bm hy.1 hy.2, Int.sub_self]; decide
theorem l364 {m : Nat} {a n : Nat} {gs : List Value} {z d x : Int32} (hcs : c ≤ pC M_364 ∧ s ≤ pS M_364) (ha : h0[a]? = some (.inr (10, gs))) (hg : gs[1]? = some (.int z)) (hz : z.toInt = 0) (hx : ¬ x = 0) (hn : (d * (x - Int32.ofInt 1) + Int32.ofInt 0).toInt = (n : Int)) (p0 : px_g lv' 0 = some (.ref a)) (p1 : px_g lv' 1 = some (.int d)) (p2 : px_g lv' 2 = some (.int x))
    (fin : ∀ (lx : LV) (y : Int32), y.toInt = ((n : Nat) : Int) → px_g lx 6 = some (.int y) → (∃ w : Int32, px_g lx 5 = some (.int w) ∧ w.toInt = 0) → Keep [5, 6, 7, 8] lv' lx → Vx (Ex S (m + 4)) S M_364 hd Q 275 lx [] h0 c s) :
    ∀ (k i : Nat) (y : Int32) (lx : LV), i + k = n → y.toInt = (i : Int) → px_g lx 6 = some (.int y) → (∃ w : Int32, px_g lx 5 = some (.int w) ∧ w.toInt = 0) → Keep [5, 6, 7, 8] lv' lx → Vx (Ex S (m + 4)) S M_364 hd Q 50 lx [] h0 c s := by
  intro k
  have hC := Ex.mono S (m + 4)
  induction k with
  | zero =>
    intro i y lx hik hy pc pw hk
    refine Vx.go hC (te := (50, .iload 6, 0, 0)) rfl ⟨_, pc, ?_⟩
    refine Vx.go hC (te := (52, .aload_n 0, 0, 0)) rfl ⟨_, hk 0 (by decide) _ p0 rfl, ⟨_, Or.inl rfl⟩, ?_⟩
    refine Vx.go hC (te := (53, .iload_n 1, 0, 0)) rfl ⟨_, hk 1 (by decide) _ p1 rfl, ?_⟩
    refine Vx.go hC (te := (54, .iload_n 2, 0, 0)) rfl ⟨_, hk 2 (by decide) _ p2 rfl, ?_⟩
    refine V_call hC (i := 308) (μ := 313) (tb := 0) (args := [.int x, .int d, .ref a]) (k := 3) rfl rfl rfl rfl (by show 1 ≤ 8; omega) ⟨rfl, rfl⟩ hcs rfl ha ?_
    refine e_313 (m + 2) ha hg hz hx ⟨some (.int (d * (x - Int32.ofInt 1) + Int32.ofInt 0)), rfl, ?_⟩
    refine V_icmp hC (cc := .ge) (z := 217) (ta := 0) (tb := 0) rfl (by decide) (fun _ => fin lx y (by omega) pc pw hk) (fun q => absurd ((ge_of hy hn).mpr (by omega)) q)
  | succ k ih =>
    intro i y lx hik hy pc pw hk
    refine Vx.go hC (te := (50, .iload 6, 0, 0)) rfl ⟨_, pc, ?_⟩
    refine Vx.go hC (te := (52, .aload_n 0, 0, 0)) rfl ⟨_, hk 0 (by decide) _ p0 rfl, ⟨_, Or.inl rfl⟩, ?_⟩
    refine Vx.go hC (te := (53, .iload_n 1, 0, 0)) rfl ⟨_, hk 1 (by decide) _ p1 rfl, ?_⟩
    refine Vx.go hC (te := (54, .iload_n 2, 0, 0)) rfl ⟨_, hk 2 (by decide) _ p2 rfl, ?_⟩
    refine V_call hC (i := 308) (μ := 313) (tb := 0) (args := [.int x, .int d, .ref a]) (k := 3) rfl rfl rfl rfl (by show 1 ≤ 8; omega) ⟨rfl, rfl⟩ hcs rfl ha ?_
    refine e_313 (m + 2) ha hg hz hx ⟨some (.int (d * (x - Int32.ofInt 1) + Int32.ofInt 0)), rfl, ?_⟩
    refine V_icmp hC (cc := .ge) (z := 217) (ta := 0) (tb := 0) rfl (by decide) (fun q => absurd q (fun q => by have := (ge_of hy hn).mp q; omega)) (fun _ => ?_)
    refine Vx.go hC (te := (61, .iload 6, 0, 0)) rfl ⟨_, pc, ?_⟩
    refine Vx.go hC (te := (63, .iload 5, 0, 0)) rfl ⟨_, pw.choose_spec.1, ?_⟩
    refine Vx.go hC (te := (65, .iadd, 0, 0)) rfl ?_
    refine Vx.go hC (te := (66, .istore 7, 0, 0)) rfl ⟨by decide, ?_⟩
    refine Vx.go hC (te := (68, .iconst 0, 0, 0)) rfl ?_
    refine Vx.go hC (te := (69, .istore 8, 0, 0)) rfl ⟨by decide, ?_⟩
    refine Vx.go hC (te := (71, .iload 8, 0, 0)) rfl ⟨_, pg_self _ _ _, ?_⟩
    refine Vx.go hC (te := (73, .aload_n 0, 0, 0)) rfl ⟨_, ((hk.set (i := 7) (by decide) _).set (i := 8) (by decide) _) 0 (by decide) _ p0 rfl, ⟨_, Or.inl rfl⟩, ?_⟩
    refine V_get hC (i := 108) (ta := 10) (tb := 1) rfl ha (by decide) hg ?_
    refine V_icmp hC (cc := .ge) (z := 76) (ta := 0) (tb := 0) rfl (by decide) (fun _ => ?_) (fun q => absurd (z00 hz) q)
    refine Vx.go hC (te := (153, .iload 7, 0, 0)) rfl ⟨_, pg_ne (by decide) (pg_self _ _ _) rfl, ?_⟩
    refine Vx.go hC (te := (155, .iload 6, 0, 0)) rfl ⟨_, pg_ne (by decide) (pg_ne (by decide) pc rfl) rfl, ?_⟩
    refine Vx.go hC (te := (157, .isub, 0, 0)) rfl ?_
    refine Vx.go hC (te := (158, .istore 5, 0, 0)) rfl ⟨by decide, ?_⟩
    refine Vx.go hC (te := (160, .iconst 0, 0, 0)) rfl ?_
    refine Vx.go hC (te := (161, .istore 8, 0, 0)) rfl ⟨by decide, ?_⟩
    refine Vx.go hC (te := (163, .iload 8, 0, 0)) rfl ⟨_, pg_self _ _ _, ?_⟩
    refine Vx.go hC (te := (165, .aload_n 0, 0, 0)) rfl ⟨_, ((((hk.set (i := 7) (by decide) _).set (i := 8) (by decide) _).set (i := 5) (by decide) _).set (i := 8) (by decide) _) 0 (by decide) _ p0 rfl, ⟨_, Or.inl rfl⟩, ?_⟩
    refine V_get hC (i := 108) (ta := 10) (tb := 1) rfl ha (by decide) hg ?_
    refine V_icmp hC (cc := .ge) (z := 100) (ta := 0) (tb := 0) rfl (by decide) (fun _ => ?_) (fun q => absurd (z00 hz) q)
    refine Vx.go hC (te := (269, .iinc 6 1, 0, 0)) rfl ⟨by decide, _, pg_ne (by decide) (pg_ne (by decide) (pg_ne (by decide) (pg_ne (by decide) pc rfl) rfl) rfl) rfl, ?_⟩
    refine Vx.go hC (te := (272, .goto (-222), 0, 0)) rfl ⟨by decide, ?_⟩
    exact ih (i + 1) _ _ (by omega) (one_add hy (by have := (i32_rng (d * (x - Int32.ofInt 1) + Int32.ofInt 0)).2; omega)) (pg_self _ _ _) ⟨_, pg_ne (by decide) (pg_ne (by decide) (pg_self _ _ _) rfl) rfl, sub0 pw.choose_spec.2⟩ (((((hk.set (i := 7) (by decide) _).set (i := 8) (by decide) _).set (i := 5) (by decide) _).set (i := 8) (by decide) _).set (by decide) _)
end LPS4
