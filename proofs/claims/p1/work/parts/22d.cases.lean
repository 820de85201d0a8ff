/-! laid by wip/p1/gen8.py -/
set_option maxRecDepth 1000000 in
theorem ql_25 : TL_25 = (((pT M_368).drop 1143).take 65 ++ (((pT M_368).drop 2260).take 2 ++ (((pT M_368).drop 13).take 6 ++ ((pT M_368).drop 2262).take 2))).map (mkM []) := rfl
set_option maxRecDepth 1000000 in
theorem cs_25 : cas TL_25 1933 = true := by decide +kernel
theorem ca_25 : CASE 1933 := CASE.of ql_25 cs_25
set_option maxRecDepth 1000000 in
theorem ql_26 : TL_26 = (((pT M_368).drop 1208).take 55 ++ (((pT M_368).drop 2260).take 2 ++ (((pT M_368).drop 13).take 6 ++ ((pT M_368).drop 2262).take 2))).map (mkM []) := rfl
set_option maxRecDepth 1000000 in
theorem cs_26 : cas TL_26 2025 = true := by decide +kernel
theorem ca_26 : CASE 2025 := CASE.of ql_26 cs_26
set_option maxRecDepth 1000000 in
theorem ql_27 : TL_27 = (((pT M_368).drop 1263).take 55 ++ (((pT M_368).drop 2260).take 2 ++ (((pT M_368).drop 13).take 6 ++ ((pT M_368).drop 2262).take 2))).map (mkM []) := rfl
set_option maxRecDepth 1000000 in
theorem cs_27 : cas TL_27 2105 = true := by decide +kernel
theorem ca_27 : CASE 2105 := CASE.of ql_27 cs_27
set_option maxRecDepth 1000000 in
theorem ql_28 : TL_28 = (((pT M_368).drop 1318).take 68 ++ (((pT M_368).drop 2260).take 2 ++ (((pT M_368).drop 13).take 6 ++ ((pT M_368).drop 2262).take 2))).map (mkM []) := rfl
set_option maxRecDepth 1000000 in
theorem cs_28 : cas TL_28 2185 = true := by decide +kernel
theorem ca_28 : CASE 2185 := CASE.of ql_28 cs_28
set_option maxRecDepth 1000000 in
theorem ql_29 : TL_29 = (((pT M_368).drop 1386).take 53 ++ (((pT M_368).drop 2260).take 2 ++ (((pT M_368).drop 13).take 6 ++ ((pT M_368).drop 2262).take 2))).map (mkM []) := rfl
set_option maxRecDepth 1000000 in
theorem cs_29 : cas TL_29 2284 = true := by decide +kernel
theorem ca_29 : CASE 2284 := CASE.of ql_29 cs_29
