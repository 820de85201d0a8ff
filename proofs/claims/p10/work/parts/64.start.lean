/-! the start: what the tables and the premises say of it -/
section STA
variable {s : State} {args : Array Value}
abbrev nar : Cond := Jvm.Cond.and given_1 narrow_1
theorem K_ex (hts : ∀ w ∈ lw_tbl, w.before args s = true) : ∃ (D : va_G) (cy : Nat → ClassId), va_K D vwCl (pTy cy) s := by
  have hk : ∀ (k : Nat) (q : vw_C), vwCl[k]? = some q → ∃ y : ClassId × (Nat → Nat), u_Kn s q.1 q.2.1 q.2.2 y.1 y.2 := by
    intro k q hq
    have hw : ∀ w ∈ u_ws q.1 q.2.1 q.2.2, w ∈ lw_tbl := by
      rcases k with _ | _ | _ | _ | _ | _ | _ | _ | _ | _ | _ | k
      · cases hq; exact fun w h => (LYw_0 w h).1
      · cases hq; exact fun w h => (LYw_1 w h).1
      · cases hq; exact fun w h => (LYw_2 w h).1
      · cases hq; exact fun w h => (LYw_3 w h).1
      · cases hq; exact fun w h => (LYw_4 w h).1
      · cases hq; exact fun w h => (LYw_5 w h).1
      · cases hq; exact fun w h => (LYw_6 w h).1
      · cases hq; exact fun w h => (LYw_7 w h).1
      · cases hq; exact fun w h => (LYw_8 w h).1
      · cases hq; exact fun w h => (LYw_9 w h).1
      · cases hq; exact fun w h => (LYw_10 w h).1
      · simp [vwCl] at hq
    obtain ⟨cC, iS, h⟩ := u_known hts hw (hts _ (IS_ok q (List.mem_of_getElem? hq)).1)
    exact ⟨(cC, iS), h⟩
  obtain ⟨y0, -⟩ := hk 0 _ rfl
  have hk2 : ∀ k : Nat, ∃ y : ClassId × (Nat → Nat), ∀ q : vw_C, vwCl[k]? = some q → u_Kn s q.1 q.2.1 q.2.2 y.1 y.2 := by
    intro k
    cases hq : vwCl[k]? with
    | none => exact ⟨y0, fun q h => by cases h⟩
    | some q =>
      obtain ⟨y, h⟩ := hk k q hq
      exact ⟨y, fun q' h' => by cases h'; exact h⟩
  obtain ⟨f, hf⟩ := Classical.axiomOfChoice hk2
  obtain ⟨c0, k0, p0, f1, f2, f3⟩ := Cond.arrayClass_spec (hts _ AC_int)
  obtain ⟨c1, k1, p1, g1, g2, g3⟩ := Cond.arrayClass_spec (hts _ AC_long)
  obtain ⟨p2, c2, k2, a1, a2, a3, a4, a5⟩ := Cond.arrayOver_spec (hts _ AO_chart)
  obtain ⟨p3, c3, k3, b1, b2, b3, b4⟩ := Cond.arrayOver_specA (hts _ AO_rows)
  refine ⟨(fun k => (f k).1, fun k => (f k).2), fun k => if k = 0 then c0 else if k = 1 then c1 else if k = 2 then c2 else c3, fun k q hq => hf k q hq, ?_⟩
  intro k q hq
  rcases k with _ | _ | _ | _ | k
  · cases hq; exact ⟨fun n z => ⟨(fun k h => by cases h), k0, f2, p0, f3⟩, f1⟩
  · cases hq; exact ⟨fun n z => ⟨(fun k h => by cases h), k1, g2, p1, g3⟩, g1⟩
  · cases hq; exact ⟨fun n z => ⟨(fun k h => by cases h), k2, a3, p2, a4⟩, ⟨k2, p2, a3, a4, a1, a5⟩⟩
  · cases hq; exact ⟨fun n z => ⟨(fun k h => by cases h), k3, b2, p3, b3⟩, b4⟩
  · simp [pTy] at hq
theorem st_85 (hts : ∀ w ∈ lw_tbl, w.before args s = true) (hs : ∀ w ∈ flatC nar, w.before args s = true) : ∃ (tx : String) (a : Nat), vk_R RX9 85 tx a s := by
  have hm : Cond.stringRef "OverlapMill" 85 "the kind or a source is none" ∈ lw_tbl := in_t3 (List.mem_of_getElem? (i := 114) rfl)
  obtain ⟨a, c, cell, k, h1, -⟩ := Cond.exactly_spec (hs (.exactly (.string "OverlapMill" 85) "java/lang/String") (by decide +kernel))
  exact ⟨_, a, vk_R.of (hts _ hm) h1⟩
theorem st_97 (hts : ∀ w ∈ lw_tbl, w.before args s = true) (hs : ∀ w ∈ flatC nar, w.before args s = true) : ∃ (tx : String) (a : Nat), vk_R RX9 97 tx a s := by
  have hm : Cond.stringRef "OverlapMill" 97 "the row or the place is none" ∈ lw_tbl := in_t3 (List.mem_of_getElem? (i := 175) rfl)
  obtain ⟨a, c, cell, k, h1, -⟩ := Cond.exactly_spec (hs (.exactly (.string "OverlapMill" 97) "java/lang/String") (by decide +kernel))
  exact ⟨_, a, vk_R.of (hts _ hm) h1⟩
theorem st_99 (hts : ∀ w ∈ lw_tbl, w.before args s = true) (hs : ∀ w ∈ flatC nar, w.before args s = true) : ∃ (tx : String) (a : Nat), vk_R RX9 99 tx a s := by
  have hm : Cond.stringRef "OverlapMill" 99 "the source, the row or the place is none" ∈ lw_tbl := in_t3 (List.mem_of_getElem? (i := 183) rfl)
  obtain ⟨a, c, cell, k, h1, -⟩ := Cond.exactly_spec (hs (.exactly (.string "OverlapMill" 99) "java/lang/String") (by decide +kernel))
  exact ⟨_, a, vk_R.of (hts _ hm) h1⟩
theorem st_107 (hts : ∀ w ∈ lw_tbl, w.before args s = true) (hs : ∀ w ∈ flatC nar, w.before args s = true) : ∃ (tx : String) (a : Nat), vk_R RX9 107 tx a s := by
  have hm : Cond.stringRef "OverlapMill" 107 "there is no op" ∈ lw_tbl := in_t3 (List.mem_of_getElem? (i := 191) rfl)
  obtain ⟨a, c, cell, k, h1, -⟩ := Cond.exactly_spec (hs (.exactly (.string "OverlapMill" 107) "java/lang/String") (by decide +kernel))
  exact ⟨_, a, vk_R.of (hts _ hm) h1⟩
theorem st_114 (hts : ∀ w ∈ lw_tbl, w.before args s = true) (hs : ∀ w ∈ flatC nar, w.before args s = true) : ∃ (tx : String) (a : Nat), vk_R RX9 114 tx a s := by
  have hm : Cond.stringRef "OverlapMill" 114 "the first value is none" ∈ lw_tbl := in_t3 (List.mem_of_getElem? (i := 220) rfl)
  obtain ⟨a, c, cell, k, h1, -⟩ := Cond.exactly_spec (hs (.exactly (.string "OverlapMill" 114) "java/lang/String") (by decide +kernel))
  exact ⟨_, a, vk_R.of (hts _ hm) h1⟩
theorem st_123 (hts : ∀ w ∈ lw_tbl, w.before args s = true) (hs : ∀ w ∈ flatC nar, w.before args s = true) : ∃ (tx : String) (a : Nat), vk_R RX9 123 tx a s := by
  have hm : Cond.stringRef "OverlapMill" 123 "the unit, latency or busy is none" ∈ lw_tbl := in_t3 (List.mem_of_getElem? (i := 233) rfl)
  obtain ⟨a, c, cell, k, h1, -⟩ := Cond.exactly_spec (hs (.exactly (.string "OverlapMill" 123) "java/lang/String") (by decide +kernel))
  exact ⟨_, a, vk_R.of (hts _ hm) h1⟩
theorem st_137 (hts : ∀ w ∈ lw_tbl, w.before args s = true) (hs : ∀ w ∈ flatC nar, w.before args s = true) : ∃ (tx : String) (a : Nat), vk_R RX9 137 tx a s := by
  have hm : Cond.stringRef "OverlapMill" 137 "the count is none" ∈ lw_tbl := in_t4 (List.mem_of_getElem? (i := 6) rfl)
  obtain ⟨a, c, cell, k, h1, -⟩ := Cond.exactly_spec (hs (.exactly (.string "OverlapMill" 137) "java/lang/String") (by decide +kernel))
  exact ⟨_, a, vk_R.of (hts _ hm) h1⟩
theorem st_281 (hts : ∀ w ∈ lw_tbl, w.before args s = true) (hs : ∀ w ∈ flatC nar, w.before args s = true) : ∃ (tx : String) (a : Nat), vk_R RX9 281 tx a s := by
  have hm : Cond.stringRef "OverlapMill" 281 "the cycle is below 0" ∈ lw_tbl := in_t5 (List.mem_of_getElem? (i := 154) rfl)
  obtain ⟨a, c, cell, k, h1, -⟩ := Cond.exactly_spec (hs (.exactly (.string "OverlapMill" 281) "java/lang/String") (by decide +kernel))
  exact ⟨_, a, vk_R.of (hts _ hm) h1⟩
theorem st_313 (hts : ∀ w ∈ lw_tbl, w.before args s = true) (hs : ∀ w ∈ flatC nar, w.before args s = true) : ∃ (tx : String) (a : Nat), vk_R RX9 313 tx a s := by
  have hm : Cond.stringRef "OverlapMill" 313 "there is no such time" ∈ lw_tbl := in_t5 (List.mem_of_getElem? (i := 238) rfl)
  obtain ⟨a, c, cell, k, h1, -⟩ := Cond.exactly_spec (hs (.exactly (.string "OverlapMill" 313) "java/lang/String") (by decide +kernel))
  exact ⟨_, a, vk_R.of (hts _ hm) h1⟩
theorem st_325 (hts : ∀ w ∈ lw_tbl, w.before args s = true) (hs : ∀ w ∈ flatC nar, w.before args s = true) : ∃ (tx : String) (a : Nat), vk_R RX9 325 tx a s := by
  have hm : Cond.stringRef "OverlapMill" 325 "R is none" ∈ lw_tbl := in_t6 (List.mem_of_getElem? (i := 46) rfl)
  obtain ⟨a, c, cell, k, h1, -⟩ := Cond.exactly_spec (hs (.exactly (.string "OverlapMill" 325) "java/lang/String") (by decide +kernel))
  exact ⟨_, a, vk_R.of (hts _ hm) h1⟩
theorem st_330 (hts : ∀ w ∈ lw_tbl, w.before args s = true) (hs : ∀ w ∈ flatC nar, w.before args s = true) : ∃ (tx : String) (a : Nat), vk_R RX9 330 tx a s := by
  have hm : Cond.stringRef "OverlapMill" 330 "there is no such name or cycle" ∈ lw_tbl := in_t6 (List.mem_of_getElem? (i := 54) rfl)
  obtain ⟨a, c, cell, k, h1, -⟩ := Cond.exactly_spec (hs (.exactly (.string "OverlapMill" 330) "java/lang/String") (by decide +kernel))
  exact ⟨_, a, vk_R.of (hts _ hm) h1⟩
theorem st_345 (hts : ∀ w ∈ lw_tbl, w.before args s = true) (hs : ∀ w ∈ flatC nar, w.before args s = true) : ∃ (tx : String) (a : Nat), vk_R RX9 345 tx a s := by
  have hm : Cond.stringRef "OverlapMill" 345 "k is none" ∈ lw_tbl := in_t6 (List.mem_of_getElem? (i := 80) rfl)
  obtain ⟨a, c, cell, k, h1, -⟩ := Cond.exactly_spec (hs (.exactly (.string "OverlapMill" 345) "java/lang/String") (by decide +kernel))
  exact ⟨_, a, vk_R.of (hts _ hm) h1⟩
theorem st_350 (hts : ∀ w ∈ lw_tbl, w.before args s = true) (hs : ∀ w ∈ flatC nar, w.before args s = true) : ∃ (tx : String) (a : Nat), vk_R RX9 350 tx a s := by
  have hm : Cond.stringRef "OverlapMill" 350 "its latency is 1" ∈ lw_tbl := in_t6 (List.mem_of_getElem? (i := 95) rfl)
  obtain ⟨a, c, cell, k, h1, -⟩ := Cond.exactly_spec (hs (.exactly (.string "OverlapMill" 350) "java/lang/String") (by decide +kernel))
  exact ⟨_, a, vk_R.of (hts _ hm) h1⟩
theorem st_378 (hts : ∀ w ∈ lw_tbl, w.before args s = true) (hs : ∀ w ∈ flatC nar, w.before args s = true) : ∃ (tx : String) (a : Nat), vk_R RX9 378 tx a s := by
  have hm : Cond.stringRef "OverlapMill" 378 "m or e is none" ∈ lw_tbl := in_t6 (List.mem_of_getElem? (i := 166) rfl)
  obtain ⟨a, c, cell, k, h1, -⟩ := Cond.exactly_spec (hs (.exactly (.string "OverlapMill" 378) "java/lang/String") (by decide +kernel))
  exact ⟨_, a, vk_R.of (hts _ hm) h1⟩
theorem st_384 (hts : ∀ w ∈ lw_tbl, w.before args s = true) (hs : ∀ w ∈ flatC nar, w.before args s = true) : ∃ (tx : String) (a : Nat), vk_R RX9 384 tx a s := by
  have hm : Cond.stringRef "OverlapMill" 384 "r is none" ∈ lw_tbl := in_t6 (List.mem_of_getElem? (i := 209) rfl)
  obtain ⟨a, c, cell, k, h1, -⟩ := Cond.exactly_spec (hs (.exactly (.string "OverlapMill" 384) "java/lang/String") (by decide +kernel))
  exact ⟨_, a, vk_R.of (hts _ hm) h1⟩
theorem st_387 (hts : ∀ w ∈ lw_tbl, w.before args s = true) (hs : ∀ w ∈ flatC nar, w.before args s = true) : ∃ (tx : String) (a : Nat), vk_R RX9 387 tx a s := by
  have hm : Cond.stringRef "OverlapMill" 387 "there are 8 ops" ∈ lw_tbl := in_t3 (List.mem_of_getElem? (i := 154) rfl)
  obtain ⟨a, c, cell, k, h1, -⟩ := Cond.exactly_spec (hs (.exactly (.string "OverlapMill" 387) "java/lang/String") (by decide +kernel))
  exact ⟨_, a, vk_R.of (hts _ hm) h1⟩
theorem st_420 (hts : ∀ w ∈ lw_tbl, w.before args s = true) (hs : ∀ w ∈ flatC nar, w.before args s = true) : ∃ (tx : String) (a : Nat), vk_R RX9 420 tx a s := by
  have hm : Cond.stringRef "OverlapMill" 420 "d does not fit" ∈ lw_tbl := in_t5 (List.mem_of_getElem? (i := 6) rfl)
  obtain ⟨a, c, cell, k, h1, -⟩ := Cond.exactly_spec (hs (.exactly (.string "OverlapMill" 420) "java/lang/String") (by decide +kernel))
  exact ⟨_, a, vk_R.of (hts _ hm) h1⟩
theorem st_422 (hts : ∀ w ∈ lw_tbl, w.before args s = true) (hs : ∀ w ∈ flatC nar, w.before args s = true) : ∃ (tx : String) (a : Nat), vk_R RX9 422 tx a s := by
  have hm : Cond.stringRef "OverlapMill" 422 "the loop is not sound" ∈ lw_tbl := in_t4 (List.mem_of_getElem? (i := 45) rfl)
  obtain ⟨a, c, cell, k, h1, -⟩ := Cond.exactly_spec (hs (.exactly (.string "OverlapMill" 422) "java/lang/String") (by decide +kernel))
  exact ⟨_, a, vk_R.of (hts _ hm) h1⟩
theorem st_424 (hts : ∀ w ∈ lw_tbl, w.before args s = true) (hs : ∀ w ∈ flatC nar, w.before args s = true) : ∃ (tx : String) (a : Nat), vk_R RX9 424 tx a s := by
  have hm : Cond.stringRef "OverlapMill" 424 "d is less than rounds" ∈ lw_tbl := in_t4 (List.mem_of_getElem? (i := 66) rfl)
  obtain ⟨a, c, cell, k, h1, -⟩ := Cond.exactly_spec (hs (.exactly (.string "OverlapMill" 424) "java/lang/String") (by decide +kernel))
  exact ⟨_, a, vk_R.of (hts _ hm) h1⟩
theorem st_428 (hts : ∀ w ∈ lw_tbl, w.before args s = true) (hs : ∀ w ∈ flatC nar, w.before args s = true) : ∃ (tx : String) (a : Nat), vk_R RX9 428 tx a s := by
  have hm : Cond.stringRef "OverlapMill" 428 "there is no such op" ∈ lw_tbl := in_t3 (List.mem_of_getElem? (i := 213) rfl)
  obtain ⟨a, c, cell, k, h1, -⟩ := Cond.exactly_spec (hs (.exactly (.string "OverlapMill" 428) "java/lang/String") (by decide +kernel))
  exact ⟨_, a, vk_R.of (hts _ hm) h1⟩
theorem st_431 (hts : ∀ w ∈ lw_tbl, w.before args s = true) (hs : ∀ w ∈ flatC nar, w.before args s = true) : ∃ (tx : String) (a : Nat), vk_R RX9 431 tx a s := by
  have hm : Cond.stringRef "OverlapMill" 431 "there is no such unit" ∈ lw_tbl := in_t4 (List.mem_of_getElem? (i := 5) rfl)
  obtain ⟨a, c, cell, k, h1, -⟩ := Cond.exactly_spec (hs (.exactly (.string "OverlapMill" 431) "java/lang/String") (by decide +kernel))
  exact ⟨_, a, vk_R.of (hts _ hm) h1⟩
theorem st_433 (hts : ∀ w ∈ lw_tbl, w.before args s = true) (hs : ∀ w ∈ flatC nar, w.before args s = true) : ∃ (tx : String) (a : Nat), vk_R RX9 433 tx a s := by
  have hm : Cond.stringRef "OverlapMill" 433 "there is no such kind" ∈ lw_tbl := in_t3 (List.mem_of_getElem? (i := 232) rfl)
  obtain ⟨a, c, cell, k, h1, -⟩ := Cond.exactly_spec (hs (.exactly (.string "OverlapMill" 433) "java/lang/String") (by decide +kernel))
  exact ⟨_, a, vk_R.of (hts _ hm) h1⟩
theorem st_435 (hts : ∀ w ∈ lw_tbl, w.before args s = true) (hs : ∀ w ∈ flatC nar, w.before args s = true) : ∃ (tx : String) (a : Nat), vk_R RX9 435 tx a s := by
  have hm : Cond.stringRef "OverlapMill" 435 "there is no such need" ∈ lw_tbl := in_t4 (List.mem_of_getElem? (i := 50) rfl)
  obtain ⟨a, c, cell, k, h1, -⟩ := Cond.exactly_spec (hs (.exactly (.string "OverlapMill" 435) "java/lang/String") (by decide +kernel))
  exact ⟨_, a, vk_R.of (hts _ hm) h1⟩
theorem st_437 (hts : ∀ w ∈ lw_tbl, w.before args s = true) (hs : ∀ w ∈ flatC nar, w.before args s = true) : ∃ (tx : String) (a : Nat), vk_R RX9 437 tx a s := by
  have hm : Cond.stringRef "OverlapMill" 437 "it is a store" ∈ lw_tbl := in_t5 (List.mem_of_getElem? (i := 222) rfl)
  obtain ⟨a, c, cell, k, h1, -⟩ := Cond.exactly_spec (hs (.exactly (.string "OverlapMill" 437) "java/lang/String") (by decide +kernel))
  exact ⟨_, a, vk_R.of (hts _ hm) h1⟩
theorem st_441 (hts : ∀ w ∈ lw_tbl, w.before args s = true) (hs : ∀ w ∈ flatC nar, w.before args s = true) : ∃ (tx : String) (a : Nat), vk_R RX9 441 tx a s := by
  have hm : Cond.stringRef "OverlapMill" 441 "there is no such what" ∈ lw_tbl := in_t4 (List.mem_of_getElem? (i := 27) rfl)
  obtain ⟨a, c, cell, k, h1, -⟩ := Cond.exactly_spec (hs (.exactly (.string "OverlapMill" 441) "java/lang/String") (by decide +kernel))
  exact ⟨_, a, vk_R.of (hts _ hm) h1⟩
theorem st_444 (hts : ∀ w ∈ lw_tbl, w.before args s = true) (hs : ∀ w ∈ flatC nar, w.before args s = true) : ∃ (tx : String) (a : Nat), vk_R RX9 444 tx a s := by
  have hm : Cond.stringRef "OverlapMill" 444 "d is none" ∈ lw_tbl := in_t4 (List.mem_of_getElem? (i := 65) rfl)
  obtain ⟨a, c, cell, k, h1, -⟩ := Cond.exactly_spec (hs (.exactly (.string "OverlapMill" 444) "java/lang/String") (by decide +kernel))
  exact ⟨_, a, vk_R.of (hts _ hm) h1⟩
theorem st_446 (hts : ∀ w ∈ lw_tbl, w.before args s = true) (hs : ∀ w ∈ flatC nar, w.before args s = true) : ∃ (tx : String) (a : Nat), vk_R RX9 446 tx a s := by
  have hm : Cond.stringRef "OverlapMill" 446 "the slot is none" ∈ lw_tbl := in_t5 (List.mem_of_getElem? (i := 17) rfl)
  obtain ⟨a, c, cell, k, h1, -⟩ := Cond.exactly_spec (hs (.exactly (.string "OverlapMill" 446) "java/lang/String") (by decide +kernel))
  exact ⟨_, a, vk_R.of (hts _ hm) h1⟩
theorem st_448 (hts : ∀ w ∈ lw_tbl, w.before args s = true) (hs : ∀ w ∈ flatC nar, w.before args s = true) : ∃ (tx : String) (a : Nat), vk_R RX9 448 tx a s := by
  have hm : Cond.stringRef "OverlapMill" 448 "n is none" ∈ lw_tbl := in_t5 (List.mem_of_getElem? (i := 153) rfl)
  obtain ⟨a, c, cell, k, h1, -⟩ := Cond.exactly_spec (hs (.exactly (.string "OverlapMill" 448) "java/lang/String") (by decide +kernel))
  exact ⟨_, a, vk_R.of (hts _ hm) h1⟩
theorem st_all (hts : ∀ w ∈ lw_tbl, w.before args s = true) (hs : ∀ w ∈ flatC nar, w.before args s = true) : ∀ k ∈ [85, 97, 99, 107, 114, 123, 137, 281, 313, 325, 330, 345, 350, 378, 384, 387, 420, 422, 424, 428, 431, 433, 435, 437, 441, 444, 446, 448], ∃ (tx : String) (a : Nat), vk_R RX9 k tx a s := List.forall_mem_cons.mpr ⟨st_85 hts hs, List.forall_mem_cons.mpr ⟨st_97 hts hs, List.forall_mem_cons.mpr ⟨st_99 hts hs, List.forall_mem_cons.mpr ⟨st_107 hts hs, List.forall_mem_cons.mpr ⟨st_114 hts hs, List.forall_mem_cons.mpr ⟨st_123 hts hs, List.forall_mem_cons.mpr ⟨st_137 hts hs, List.forall_mem_cons.mpr ⟨st_281 hts hs, List.forall_mem_cons.mpr ⟨st_313 hts hs, List.forall_mem_cons.mpr ⟨st_325 hts hs, List.forall_mem_cons.mpr ⟨st_330 hts hs, List.forall_mem_cons.mpr ⟨st_345 hts hs, List.forall_mem_cons.mpr ⟨st_350 hts hs, List.forall_mem_cons.mpr ⟨st_378 hts hs, List.forall_mem_cons.mpr ⟨st_384 hts hs, List.forall_mem_cons.mpr ⟨st_387 hts hs, List.forall_mem_cons.mpr ⟨st_420 hts hs, List.forall_mem_cons.mpr ⟨st_422 hts hs, List.forall_mem_cons.mpr ⟨st_424 hts hs, List.forall_mem_cons.mpr ⟨st_428 hts hs, List.forall_mem_cons.mpr ⟨st_431 hts hs, List.forall_mem_cons.mpr ⟨st_433 hts hs, List.forall_mem_cons.mpr ⟨st_435 hts hs, List.forall_mem_cons.mpr ⟨st_437 hts hs, List.forall_mem_cons.mpr ⟨st_441 hts hs, List.forall_mem_cons.mpr ⟨st_444 hts hs, List.forall_mem_cons.mpr ⟨st_446 hts hs, List.forall_mem_cons.mpr ⟨st_448 hts hs, fun _ h => absurd h List.not_mem_nil⟩⟩⟩⟩⟩⟩⟩⟩⟩⟩⟩⟩⟩⟩⟩⟩⟩⟩⟩⟩⟩⟩⟩⟩⟩⟩⟩⟩
theorem st_in : ∀ x ∈ XLs, x.2.2.2.2.1 ∈ [85, 97, 99, 107, 114, 123, 137, 281, 313, 325, 330, 345, 350, 378, 384, 387, 420, 422, 424, 428, 431, 433, 435, 437, 441, 444, 446, 448] := by decide
theorem nc_all (hs : ∀ w ∈ flatC nar, w.before args s = true) : ∀ (x y : Nat) (E F : String), xnm[x]? = some E → xnm[y]? = some F → x ≠ y → va_Nc E F s := by
  intro x y E F hx hy hxy
  rcases x with _ | _ | _ | _ | x <;> rcases y with _ | _ | _ | _ | y
  · exact absurd rfl hxy
  · cases hx; cases hy; exact va_Nc.of (hs (.not (.castable "java/lang/IllegalArgumentException" "java/lang/IllegalStateException")) (by decide +kernel))
  · cases hx; cases hy; exact va_Nc.of (hs (.not (.castable "java/lang/IllegalArgumentException" "java/lang/IndexOutOfBoundsException")) (by decide +kernel))
  · cases hx; cases hy; exact va_Nc.of (hs (.not (.castable "java/lang/IllegalArgumentException" "java/util/NoSuchElementException")) (by decide +kernel))
  · simp [xnm] at hx hy
  · cases hx; cases hy; exact va_Nc.of (hs (.not (.castable "java/lang/IllegalStateException" "java/lang/IllegalArgumentException")) (by decide +kernel))
  · exact absurd rfl hxy
  · cases hx; cases hy; exact va_Nc.of (hs (.not (.castable "java/lang/IllegalStateException" "java/lang/IndexOutOfBoundsException")) (by decide +kernel))
  · cases hx; cases hy; exact va_Nc.of (hs (.not (.castable "java/lang/IllegalStateException" "java/util/NoSuchElementException")) (by decide +kernel))
  · simp [xnm] at hx hy
  · cases hx; cases hy; exact va_Nc.of (hs (.not (.castable "java/lang/IndexOutOfBoundsException" "java/lang/IllegalArgumentException")) (by decide +kernel))
  · cases hx; cases hy; exact va_Nc.of (hs (.not (.castable "java/lang/IndexOutOfBoundsException" "java/lang/IllegalStateException")) (by decide +kernel))
  · exact absurd rfl hxy
  · cases hx; cases hy; exact va_Nc.of (hs (.not (.castable "java/lang/IndexOutOfBoundsException" "java/util/NoSuchElementException")) (by decide +kernel))
  · simp [xnm] at hx hy
  · cases hx; cases hy; exact va_Nc.of (hs (.not (.castable "java/util/NoSuchElementException" "java/lang/IllegalArgumentException")) (by decide +kernel))
  · cases hx; cases hy; exact va_Nc.of (hs (.not (.castable "java/util/NoSuchElementException" "java/lang/IllegalStateException")) (by decide +kernel))
  · cases hx; cases hy; exact va_Nc.of (hs (.not (.castable "java/util/NoSuchElementException" "java/lang/IndexOutOfBoundsException")) (by decide +kernel))
  · exact absurd rfl hxy
  · simp [xnm] at hx hy
  · simp [xnm] at hx hy
  · simp [xnm] at hx hy
  · simp [xnm] at hx hy
  · simp [xnm] at hx hy
  · simp [xnm] at hx hy
theorem XK_start {D : va_G} {cy : Nat → ClassId} {b L : Nat} {xs : Nat → Int32} (hK : va_K D vwCl (pTy cy) s) (hts : ∀ w ∈ lw_tbl, w.before args s = true) (hs : ∀ w ∈ flatC nar, w.before args s = true) (hX : va_X b L xs s s.heap) (hbl : b < s.heap.size) : XK D cy (va_A [] s.heap.size) (some b) (L, xs) s s.heap := by
  have hA : ∀ a : Nat, a < s.heap.size → ¬ va_A [] s.heap.size a := by
    intro a ha h
    rcases h with ⟨k, e, h⟩ | h
    · simp at h
    · omega
  have hi : (Cond.initialized "java/lang/Throwable").before args s = true := hts _ (in_t1 (List.mem_of_getElem? (i := 12) rfl))
  have lU : (Cond.laysStatic "java/lang/Throwable" "UNASSIGNED_STACK" "[Ljava/lang/StackTraceElement;").before args s = true := hts _ (in_t3 (List.mem_of_getElem? (i := 99) rfl))
  have lS : (Cond.laysStatic "java/lang/Throwable" "SUPPRESSED_SENTINEL" "Ljava/util/List;").before args s = true := hts _ (in_t3 (List.mem_of_getElem? (i := 101) rfl))
  have rU := hs (.isRef (.static "java/lang/Throwable" "UNASSIGNED_STACK" "[Ljava/lang/StackTraceElement;")) (by decide +kernel)
  have rS := hs (.isRef (.static "java/lang/Throwable" "SUPPRESSED_SENTINEL" "Ljava/util/List;")) (by decide +kernel)
  refine ⟨hK, fun w hw hn => va_tabs (nw_on hn) rfl (hts w hw), va_AO.of (hts _ AO_chart), hts _ AO_rows, ⟨vx_Zqof lU hi rU hA, vx_Zqof lS hi rS hA⟩, fun x hx => st_all hts hs _ (st_in x hx), fun a ha => ?_, nc_all hs⟩
  cases ha
  exact ⟨hX, hbl, hA _ hbl⟩
end STA
