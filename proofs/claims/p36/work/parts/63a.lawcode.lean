/-! the law's instructions are what its bytes decode to -/
set_option maxRecDepth 100000 in
theorem dk_368 : tb_368.all (teK 11 cL_law false) = true := qk_ok (by decide +kernel)
