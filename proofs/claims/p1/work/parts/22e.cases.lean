/-! laid by wip/p1/gen8.py -/
set_option maxRecDepth 1000000 in
theorem ql_30 : TL_30 = (((pT M_368).drop 1439).take 63 ++ (((pT M_368).drop 2260).take 2 ++ (((pT M_368).drop 13).take 6 ++ ((pT M_368).drop 2262).take 2))).map (mkM []) := rfl
set_option maxRecDepth 1000000 in
theorem cs_30 : cas TL_30 2368 = true := by decide +kernel
theorem ca_30 : CASE 2368 := CASE.of ql_30 cs_30
set_option maxRecDepth 1000000 in
theorem ql_31 : TL_31 = (((pT M_368).drop 1502).take 35 ++ (((pT M_368).drop 2260).take 2 ++ (((pT M_368).drop 13).take 6 ++ ((pT M_368).drop 2262).take 2))).map (mkM []) := rfl
set_option maxRecDepth 1000000 in
theorem cs_31 : cas TL_31 2464 = true := by decide +kernel
theorem ca_31 : CASE 2464 := CASE.of ql_31 cs_31
set_option maxRecDepth 1000000 in
theorem ql_32 : TL_32 = (((pT M_368).drop 1537).take 55 ++ (((pT M_368).drop 2260).take 2 ++ (((pT M_368).drop 13).take 6 ++ ((pT M_368).drop 2262).take 2))).map (mkM []) := rfl
set_option maxRecDepth 1000000 in
theorem cs_32 : cas TL_32 2520 = true := by decide +kernel
theorem ca_32 : CASE 2520 := CASE.of ql_32 cs_32
set_option maxRecDepth 1000000 in
theorem ql_33 : TL_33 = (((pT M_368).drop 1592).take 75 ++ (((pT M_368).drop 2260).take 2 ++ (((pT M_368).drop 13).take 6 ++ ((pT M_368).drop 2262).take 2))).map (mkM []) := rfl
set_option maxRecDepth 1000000 in
theorem cs_33 : cas TL_33 2600 = true := by decide +kernel
theorem ca_33 : CASE 2600 := CASE.of ql_33 cs_33
set_option maxRecDepth 1000000 in
theorem ql_34 : TL_34 = (((pT M_368).drop 1667).take 43 ++ (((pT M_368).drop 2260).take 2 ++ (((pT M_368).drop 13).take 6 ++ ((pT M_368).drop 2262).take 2))).map (mkM []) := rfl
set_option maxRecDepth 1000000 in
theorem cs_34 : cas TL_34 2704 = true := by decide +kernel
theorem ca_34 : CASE 2704 := CASE.of ql_34 cs_34
set_option maxRecDepth 1000000 in
theorem ql_35 : TL_35 = (((pT M_368).drop 1710).take 25 ++ (((pT M_368).drop 2260).take 2 ++ (((pT M_368).drop 13).take 6 ++ ((pT M_368).drop 2262).take 2))).map (mkM []) := rfl
set_option maxRecDepth 1000000 in
theorem cs_35 : cas TL_35 2776 = true := by decide +kernel
theorem ca_35 : CASE 2776 := CASE.of ql_35 cs_35
set_option maxRecDepth 1000000 in
theorem ql_36 : TL_36 = (((pT M_368).drop 1735).take 35 ++ (((pT M_368).drop 2260).take 2 ++ (((pT M_368).drop 13).take 6 ++ ((pT M_368).drop 2262).take 2))).map (mkM []) := rfl
set_option maxRecDepth 1000000 in
theorem cs_36 : cas TL_36 2820 = true := by decide +kernel
theorem ca_36 : CASE 2820 := CASE.of ql_36 cs_36
