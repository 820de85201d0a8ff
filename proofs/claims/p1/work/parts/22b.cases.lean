/-! laid by wip/p1/gen8.py -/
set_option maxRecDepth 1000000 in
theorem ql_20 : TL_20 = (((pT M_368).drop 878).take 45 ++ (((pT M_368).drop 2260).take 2 ++ (((pT M_368).drop 13).take 6 ++ ((pT M_368).drop 2262).take 2))).map (mkM []) := rfl
set_option maxRecDepth 1000000 in
theorem cs_20 : cas TL_20 1545 = true := by decide +kernel
theorem ca_20 : CASE 1545 := CASE.of ql_20 cs_20
set_option maxRecDepth 1000000 in
theorem ql_21 : TL_21 = (((pT M_368).drop 923).take 55 ++ (((pT M_368).drop 2260).take 2 ++ (((pT M_368).drop 13).take 6 ++ ((pT M_368).drop 2262).take 2))).map (mkM []) := rfl
set_option maxRecDepth 1000000 in
theorem cs_21 : cas TL_21 1613 = true := by decide +kernel
theorem ca_21 : CASE 1613 := CASE.of ql_21 cs_21
set_option maxRecDepth 1000000 in
theorem ql_22 : TL_22 = (((pT M_368).drop 978).take 45 ++ (((pT M_368).drop 2260).take 2 ++ (((pT M_368).drop 13).take 6 ++ ((pT M_368).drop 2262).take 2))).map (mkM []) := rfl
set_option maxRecDepth 1000000 in
theorem cs_22 : cas TL_22 1693 = true := by decide +kernel
theorem ca_22 : CASE 1693 := CASE.of ql_22 cs_22
set_option maxRecDepth 1000000 in
theorem ql_23 : TL_23 = (((pT M_368).drop 1023).take 65 ++ (((pT M_368).drop 2260).take 2 ++ (((pT M_368).drop 13).take 6 ++ ((pT M_368).drop 2262).take 2))).map (mkM []) := rfl
set_option maxRecDepth 1000000 in
theorem cs_23 : cas TL_23 1761 = true := by decide +kernel
theorem ca_23 : CASE 1761 := CASE.of ql_23 cs_23
