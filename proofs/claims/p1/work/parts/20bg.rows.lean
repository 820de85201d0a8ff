/-! laid by wip/p1/gen7.py -/
set_option maxRecDepth 1000000 in
theorem q_325 : T_325 = (pT M_325).map (mkM []) := rfl
theorem o_325 {θ : Nat → Int32} {L : Nat} : EOK θ L 325 E_325 := EOK.of (ml := []) rfl rfl rfl rfl q_325 (by decide +kernel) (fun n Q q hq => by cases hq)
set_option maxRecDepth 1000000 in
theorem q_326 : T_326 = (pT M_326).map (mkM []) := rfl
theorem o_326 {θ : Nat → Int32} {L : Nat} : EOK θ L 326 E_326 := EOK.of (ml := []) rfl rfl rfl rfl q_326 (by decide +kernel) (fun n Q q hq => by cases hq)
set_option maxRecDepth 1000000 in
theorem q_327 : T_327 = (pT M_327).map (mkM []) := rfl
theorem o_327 {θ : Nat → Int32} {L : Nat} : EOK θ L 327 E_327 := EOK.of (ml := []) rfl rfl rfl rfl q_327 (by decide +kernel) (fun n Q q hq => by cases hq)
set_option maxRecDepth 1000000 in
theorem q_328 : T_328 = (pT M_328).map (mkM [(6, x_328_6)]) := rfl
theorem o_328 {θ : Nat → Int32} {L : Nat} : EOK θ L 328 E_328 := EOK.of (ml := [(6, x_328_6)]) rfl rfl rfl rfl q_328 (by decide +kernel) (fun n Q q hq => by
  simp only [List.mem_cons, List.not_mem_nil, or_false] at hq
  rcases hq with rfl
  · exact m_328_6 (Ex.mono _ _))
set_option maxRecDepth 1000000 in
theorem q_331 : T_331 = (pT M_331).map (mkM []) := rfl
theorem o_331 {θ : Nat → Int32} {L : Nat} : EOK θ L 331 E_331 := EOK.of (ml := []) rfl rfl rfl rfl q_331 (by decide +kernel) (fun n Q q hq => by cases hq)
set_option maxRecDepth 1000000 in
theorem q_332 : T_332 = (pT M_332).map (mkM []) := rfl
theorem o_332 {θ : Nat → Int32} {L : Nat} : EOK θ L 332 E_332 := EOK.of (ml := []) rfl rfl rfl rfl q_332 (by decide +kernel) (fun n Q q hq => by cases hq)
set_option maxRecDepth 1000000 in
theorem q_333 : T_333 = (pT M_333).map (mkM []) := rfl
theorem o_333 {θ : Nat → Int32} {L : Nat} : EOK θ L 333 E_333 := EOK.of (ml := []) rfl rfl rfl rfl q_333 (by decide +kernel) (fun n Q q hq => by cases hq)
set_option maxRecDepth 1000000 in
theorem q_334 : T_334 = (pT M_334).map (mkM []) := rfl
theorem o_334 {θ : Nat → Int32} {L : Nat} : EOK θ L 334 E_334 := EOK.of (ml := []) rfl rfl rfl rfl q_334 (by decide +kernel) (fun n Q q hq => by cases hq)
set_option maxRecDepth 1000000 in
theorem q_335 : T_335 = (pT M_335).map (mkM []) := rfl
theorem o_335 {θ : Nat → Int32} {L : Nat} : EOK θ L 335 E_335 := EOK.of (ml := []) rfl rfl rfl rfl q_335 (by decide +kernel) (fun n Q q hq => by cases hq)
set_option maxRecDepth 1000000 in
theorem q_336 : T_336 = (pT M_336).map (mkM []) := rfl
theorem o_336 {θ : Nat → Int32} {L : Nat} : EOK θ L 336 E_336 := EOK.of (ml := []) rfl rfl rfl rfl q_336 (by decide +kernel) (fun n Q q hq => by cases hq)
set_option maxRecDepth 1000000 in
theorem q_337 : T_337 = (pT M_337).map (mkM []) := rfl
theorem o_337 {θ : Nat → Int32} {L : Nat} : EOK θ L 337 E_337 := EOK.of (ml := []) rfl rfl rfl rfl q_337 (by decide +kernel) (fun n Q q hq => by cases hq)
set_option maxRecDepth 1000000 in
theorem q_338 : T_338 = (pT M_338).map (mkM []) := rfl
theorem o_338 {θ : Nat → Int32} {L : Nat} : EOK θ L 338 E_338 := EOK.of (ml := []) rfl rfl rfl rfl q_338 (by decide +kernel) (fun n Q q hq => by cases hq)
set_option maxRecDepth 1000000 in
theorem q_342 : T_342 = (pT M_342).map (mkM []) := rfl
theorem o_342 {θ : Nat → Int32} {L : Nat} : EOK θ L 342 E_342 := EOK.of (ml := []) rfl rfl rfl rfl q_342 (by decide +kernel) (fun n Q q hq => by cases hq)
set_option maxRecDepth 1000000 in
theorem q_343 : T_343 = (pT M_343).map (mkM []) := rfl
theorem o_343 {θ : Nat → Int32} {L : Nat} : EOK θ L 343 E_343 := EOK.of (ml := []) rfl rfl rfl rfl q_343 (by decide +kernel) (fun n Q q hq => by cases hq)
set_option maxRecDepth 1000000 in
theorem q_344 : T_344 = (pT M_344).map (mkM []) := rfl
theorem o_344 {θ : Nat → Int32} {L : Nat} : EOK θ L 344 E_344 := EOK.of (ml := []) rfl rfl rfl rfl q_344 (by decide +kernel) (fun n Q q hq => by cases hq)
set_option maxRecDepth 1000000 in
theorem q_348 : T_348 = (pT M_348).map (mkM []) := rfl
theorem o_348 {θ : Nat → Int32} {L : Nat} : EOK θ L 348 E_348 := EOK.of (ml := []) rfl rfl rfl rfl q_348 (by decide +kernel) (fun n Q q hq => by cases hq)
set_option maxRecDepth 1000000 in
theorem q_349 : T_349 = (pT M_349).map (mkM []) := rfl
theorem o_349 {θ : Nat → Int32} {L : Nat} : EOK θ L 349 E_349 := EOK.of (ml := []) rfl rfl rfl rfl q_349 (by decide +kernel) (fun n Q q hq => by cases hq)
set_option maxRecDepth 1000000 in
theorem q_350 : T_350 = (pT M_350).map (mkM []) := rfl
theorem o_350 {θ : Nat → Int32} {L : Nat} : EOK θ L 350 E_350 := EOK.of (ml := []) rfl rfl rfl rfl q_350 (by decide +kernel) (fun n Q q hq => by cases hq)
set_option maxRecDepth 1000000 in
theorem q_351 : T_351 = (pT M_351).map (mkM []) := rfl
theorem o_351 {θ : Nat → Int32} {L : Nat} : EOK θ L 351 E_351 := EOK.of (ml := []) rfl rfl rfl rfl q_351 (by decide +kernel) (fun n Q q hq => by cases hq)
set_option maxRecDepth 1000000 in
theorem q_352 : T_352 = (pT M_352).map (mkM []) := rfl
theorem o_352 {θ : Nat → Int32} {L : Nat} : EOK θ L 352 E_352 := EOK.of (ml := []) rfl rfl rfl rfl q_352 (by decide +kernel) (fun n Q q hq => by cases hq)
set_option maxRecDepth 1000000 in
theorem q_353 : T_353 = (pT M_353).map (mkM []) := rfl
theorem o_353 {θ : Nat → Int32} {L : Nat} : EOK θ L 353 E_353 := EOK.of (ml := []) rfl rfl rfl rfl q_353 (by decide +kernel) (fun n Q q hq => by cases hq)
set_option maxRecDepth 1000000 in
theorem q_354 : T_354 = (pT M_354).map (mkM []) := rfl
theorem o_354 {θ : Nat → Int32} {L : Nat} : EOK θ L 354 E_354 := EOK.of (ml := []) rfl rfl rfl rfl q_354 (by decide +kernel) (fun n Q q hq => by cases hq)
set_option maxRecDepth 1000000 in
theorem q_355 : T_355 = (pT M_355).map (mkM []) := rfl
theorem o_355 {θ : Nat → Int32} {L : Nat} : EOK θ L 355 E_355 := EOK.of (ml := []) rfl rfl rfl rfl q_355 (by decide +kernel) (fun n Q q hq => by cases hq)
set_option maxRecDepth 1000000 in
theorem q_356 : T_356 = (pT M_356).map (mkM []) := rfl
theorem o_356 {θ : Nat → Int32} {L : Nat} : EOK θ L 356 E_356 := EOK.of (ml := []) rfl rfl rfl rfl q_356 (by decide +kernel) (fun n Q q hq => by cases hq)
set_option maxRecDepth 1000000 in
theorem q_357 : T_357 = (pT M_357).map (mkM []) := rfl
theorem o_357 {θ : Nat → Int32} {L : Nat} : EOK θ L 357 E_357 := EOK.of (ml := []) rfl rfl rfl rfl q_357 (by decide +kernel) (fun n Q q hq => by cases hq)
set_option maxRecDepth 1000000 in
theorem q_358 : T_358 = (pT M_358).map (mkM []) := rfl
theorem o_358 {θ : Nat → Int32} {L : Nat} : EOK θ L 358 E_358 := EOK.of (ml := []) rfl rfl rfl rfl q_358 (by decide +kernel) (fun n Q q hq => by cases hq)
set_option maxRecDepth 1000000 in
theorem q_359 : T_359 = (pT M_359).map (mkM []) := rfl
theorem o_359 {θ : Nat → Int32} {L : Nat} : EOK θ L 359 E_359 := EOK.of (ml := []) rfl rfl rfl rfl q_359 (by decide +kernel) (fun n Q q hq => by cases hq)
set_option maxRecDepth 1000000 in
theorem q_361 : T_361 = (pT M_361).map (mkM []) := rfl
theorem o_361 {θ : Nat → Int32} {L : Nat} : EOK θ L 361 E_361 := EOK.of (ml := []) rfl rfl rfl rfl q_361 (by decide +kernel) (fun n Q q hq => by cases hq)
