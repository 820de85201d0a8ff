/-! laid by wip/p1/gen8.py -/
set_option maxRecDepth 1000000 in
theorem ql_37 : TL_37 = (((pT M_368).drop 1770).take 25 ++ (((pT M_368).drop 2260).take 2 ++ (((pT M_368).drop 13).take 6 ++ ((pT M_368).drop 2262).take 2))).map (mkM []) := rfl
set_option maxRecDepth 1000000 in
theorem cs_37 : cas TL_37 2876 = true := by decide +kernel
theorem ca_37 : CASE 2876 := CASE.of ql_37 cs_37
set_option maxRecDepth 1000000 in
theorem ql_38 : TL_38 = (((pT M_368).drop 1795).take 35 ++ (((pT M_368).drop 2260).take 2 ++ (((pT M_368).drop 13).take 6 ++ ((pT M_368).drop 2262).take 2))).map (mkM []) := rfl
set_option maxRecDepth 1000000 in
theorem cs_38 : cas TL_38 2920 = true := by decide +kernel
theorem ca_38 : CASE 2920 := CASE.of ql_38 cs_38
set_option maxRecDepth 1000000 in
theorem ql_39 : TL_39 = (((pT M_368).drop 1830).take 35 ++ (((pT M_368).drop 2260).take 2 ++ (((pT M_368).drop 13).take 6 ++ ((pT M_368).drop 2262).take 2))).map (mkM []) := rfl
set_option maxRecDepth 1000000 in
theorem cs_39 : cas TL_39 2976 = true := by decide +kernel
theorem ca_39 : CASE 2976 := CASE.of ql_39 cs_39
set_option maxRecDepth 1000000 in
theorem ql_40 : TL_40 = (((pT M_368).drop 1865).take 45 ++ (((pT M_368).drop 2260).take 2 ++ (((pT M_368).drop 13).take 6 ++ ((pT M_368).drop 2262).take 2))).map (mkM []) := rfl
set_option maxRecDepth 1000000 in
theorem cs_40 : cas TL_40 3032 = true := by decide +kernel
theorem ca_40 : CASE 3032 := CASE.of ql_40 cs_40
set_option maxRecDepth 1000000 in
theorem ql_41 : TL_41 = (((pT M_368).drop 1910).take 63 ++ (((pT M_368).drop 2260).take 2 ++ (((pT M_368).drop 13).take 6 ++ ((pT M_368).drop 2262).take 2))).map (mkM []) := rfl
set_option maxRecDepth 1000000 in
theorem cs_41 : cas TL_41 3100 = true := by decide +kernel
theorem ca_41 : CASE 3100 := CASE.of ql_41 cs_41
set_option maxRecDepth 1000000 in
theorem ql_42 : TL_42 = (((pT M_368).drop 1973).take 55 ++ (((pT M_368).drop 2260).take 2 ++ (((pT M_368).drop 13).take 6 ++ ((pT M_368).drop 2262).take 2))).map (mkM []) := rfl
set_option maxRecDepth 1000000 in
theorem cs_42 : cas TL_42 3196 = true := by decide +kernel
theorem ca_42 : CASE 3196 := CASE.of ql_42 cs_42
set_option maxRecDepth 1000000 in
theorem ql_43 : TL_43 = (((pT M_368).drop 2028).take 45 ++ (((pT M_368).drop 2260).take 2 ++ (((pT M_368).drop 13).take 6 ++ ((pT M_368).drop 2262).take 2))).map (mkM []) := rfl
set_option maxRecDepth 1000000 in
theorem cs_43 : cas TL_43 3276 = true := by decide +kernel
theorem ca_43 : CASE 3276 := CASE.of ql_43 cs_43
