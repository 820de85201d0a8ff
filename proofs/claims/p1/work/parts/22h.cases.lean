/-! laid by wip/p1/gen8.py -/
set_option maxRecDepth 1000000 in
theorem ql_45 : TL_45 = (((pT M_368).drop 2138).take 35 ++ (((pT M_368).drop 2260).take 2 ++ (((pT M_368).drop 13).take 6 ++ ((pT M_368).drop 2262).take 2))).map (mkM []) := rfl
set_option maxRecDepth 1000000 in
theorem cs_45 : cas TL_45 3436 = true := by decide +kernel
theorem ca_45 : CASE 3436 := CASE.of ql_45 cs_45
set_option maxRecDepth 1000000 in
theorem ql_46 : TL_46 = (((pT M_368).drop 2173).take 35 ++ (((pT M_368).drop 2260).take 2 ++ (((pT M_368).drop 13).take 6 ++ ((pT M_368).drop 2262).take 2))).map (mkM []) := rfl
set_option maxRecDepth 1000000 in
theorem cs_46 : cas TL_46 3492 = true := by decide +kernel
theorem ca_46 : CASE 3492 := CASE.of ql_46 cs_46
set_option maxRecDepth 1000000 in
theorem ql_47 : TL_47 = (((pT M_368).drop 2208).take 35 ++ (((pT M_368).drop 2260).take 2 ++ (((pT M_368).drop 13).take 6 ++ ((pT M_368).drop 2262).take 2))).map (mkM []) := rfl
set_option maxRecDepth 1000000 in
theorem cs_47 : cas TL_47 3548 = true := by decide +kernel
theorem ca_47 : CASE 3548 := CASE.of ql_47 cs_47
set_option maxRecDepth 1000000 in
theorem ql_48 : TL_48 = (((pT M_368).drop 2243).take 17 ++ (((pT M_368).drop 2260).take 2 ++ (((pT M_368).drop 13).take 6 ++ ((pT M_368).drop 2262).take 2))).map (mkM []) := rfl
set_option maxRecDepth 1000000 in
theorem cs_48 : cas TL_48 3604 = true := by decide +kernel
theorem ca_48 : CASE 3604 := CASE.of ql_48 cs_48
