/-! laid by wip/p1/gen8.py -/
set_option maxRecDepth 1000000 in
theorem ql_44 : TL_44 = (((pT M_368).drop 2073).take 65 ++ (((pT M_368).drop 2260).take 2 ++ (((pT M_368).drop 13).take 6 ++ ((pT M_368).drop 2262).take 2))).map (mkM []) := rfl
set_option maxRecDepth 1000000 in
theorem cs_44 : cas TL_44 3344 = true := by decide +kernel
theorem ca_44 : CASE 3344 := CASE.of ql_44 cs_44
