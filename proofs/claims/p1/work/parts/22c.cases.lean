/-! laid by wip/p1/gen8.py -/
set_option maxRecDepth 1000000 in
theorem ql_24 : TL_24 = (((pT M_368).drop 1088).take 55 ++ (((pT M_368).drop 2260).take 2 ++ (((pT M_368).drop 13).take 6 ++ ((pT M_368).drop 2262).take 2))).map (mkM []) := rfl
set_option maxRecDepth 1000000 in
theorem cs_24 : cas TL_24 1853 = true := by decide +kernel
theorem ca_24 : CASE 1853 := CASE.of ql_24 cs_24
