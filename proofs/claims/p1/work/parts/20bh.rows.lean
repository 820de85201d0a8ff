/-! laid by wip/p1/gen7.py -/
set_option maxRecDepth 1000000 in
theorem q_362 : T_362 = (pT M_362).map (mkM [(24, x_362_24)]) := rfl
theorem o_362 {θ : Nat → Int32} {L : Nat} : EOK θ L 362 E_362 := EOK.of (ml := [(24, x_362_24)]) rfl rfl rfl rfl q_362 (by decide +kernel) (fun n Q q hq => by
  simp only [List.mem_cons, List.not_mem_nil, or_false] at hq
  rcases hq with rfl
  · exact m_362_24)
set_option maxRecDepth 1000000 in
theorem q_364 : T_364 = (pT M_364).map (mkM [(50, x_364_50)]) := rfl
theorem o_364 {θ : Nat → Int32} {L : Nat} : EOK θ L 364 E_364 := EOK.of (ml := [(50, x_364_50)]) rfl rfl rfl rfl q_364 (by decide +kernel) (fun n Q q hq => by
  simp only [List.mem_cons, List.not_mem_nil, or_false] at hq
  rcases hq with rfl
  · exact m_364_50)
set_option maxRecDepth 1000000 in
theorem q_366 : T_366 = (pT M_366).map (mkM []) := rfl
theorem o_366 {θ : Nat → Int32} {L : Nat} : EOK θ L 366 E_366 := EOK.of (ml := []) rfl rfl rfl rfl q_366 (by decide +kernel) (fun n Q q hq => by cases hq)
set_option maxRecDepth 1000000 in
theorem q_367 : T_367 = (pT M_367).map (mkM []) := rfl
theorem o_367 {θ : Nat → Int32} {L : Nat} : EOK θ L 367 E_367 := EOK.of (ml := []) rfl rfl rfl rfl q_367 (by decide +kernel) (fun n Q q hq => by cases hq)
