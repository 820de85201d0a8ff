/-! laid by wip/p1/gen8.py -/
set_option maxRecDepth 1000000 in
theorem ql_0 : TL_0 = (((pT M_368).drop 25).take 75 ++ (((pT M_368).drop 2260).take 2 ++ (((pT M_368).drop 13).take 6 ++ ((pT M_368).drop 2262).take 2))).map (mkM []) := rfl
set_option maxRecDepth 1000000 in
theorem cs_0 : cas TL_0 252 = true := by decide +kernel
theorem ca_0 : CASE 252 := CASE.of ql_0 cs_0
set_option maxRecDepth 1000000 in
theorem ql_1 : TL_1 = (((pT M_368).drop 100).take 45 ++ (((pT M_368).drop 2260).take 2 ++ (((pT M_368).drop 13).take 6 ++ ((pT M_368).drop 2262).take 2))).map (mkM []) := rfl
set_option maxRecDepth 1000000 in
theorem cs_1 : cas TL_1 356 = true := by decide +kernel
theorem ca_1 : CASE 356 := CASE.of ql_1 cs_1
set_option maxRecDepth 1000000 in
theorem ql_2 : TL_2 = (((pT M_368).drop 145).take 65 ++ (((pT M_368).drop 2260).take 2 ++ (((pT M_368).drop 13).take 6 ++ ((pT M_368).drop 2262).take 2))).map (mkM []) := rfl
set_option maxRecDepth 1000000 in
theorem cs_2 : cas TL_2 424 = true := by decide +kernel
theorem ca_2 : CASE 424 := CASE.of ql_2 cs_2
set_option maxRecDepth 1000000 in
theorem ql_3 : TL_3 = (((pT M_368).drop 210).take 25 ++ (((pT M_368).drop 2260).take 2 ++ (((pT M_368).drop 13).take 6 ++ ((pT M_368).drop 2262).take 2))).map (mkM []) := rfl
set_option maxRecDepth 1000000 in
theorem cs_3 : cas TL_3 516 = true := by decide +kernel
theorem ca_3 : CASE 516 := CASE.of ql_3 cs_3
set_option maxRecDepth 1000000 in
theorem ql_4 : TL_4 = (((pT M_368).drop 235).take 45 ++ (((pT M_368).drop 2260).take 2 ++ (((pT M_368).drop 13).take 6 ++ ((pT M_368).drop 2262).take 2))).map (mkM []) := rfl
set_option maxRecDepth 1000000 in
theorem cs_4 : cas TL_4 560 = true := by decide +kernel
theorem ca_4 : CASE 560 := CASE.of ql_4 cs_4
set_option maxRecDepth 1000000 in
theorem ql_5 : TL_5 = (((pT M_368).drop 280).take 53 ++ (((pT M_368).drop 2260).take 2 ++ (((pT M_368).drop 13).take 6 ++ ((pT M_368).drop 2262).take 2))).map (mkM []) := rfl
set_option maxRecDepth 1000000 in
theorem cs_5 : cas TL_5 628 = true := by decide +kernel
theorem ca_5 : CASE 628 := CASE.of ql_5 cs_5
set_option maxRecDepth 1000000 in
theorem ql_6 : TL_6 = (((pT M_368).drop 333).take 45 ++ (((pT M_368).drop 2260).take 2 ++ (((pT M_368).drop 13).take 6 ++ ((pT M_368).drop 2262).take 2))).map (mkM []) := rfl
set_option maxRecDepth 1000000 in
theorem cs_6 : cas TL_6 701 = true := by decide +kernel
theorem ca_6 : CASE 701 := CASE.of ql_6 cs_6
set_option maxRecDepth 1000000 in
theorem ql_7 : TL_7 = (((pT M_368).drop 378).take 45 ++ (((pT M_368).drop 2260).take 2 ++ (((pT M_368).drop 13).take 6 ++ ((pT M_368).drop 2262).take 2))).map (mkM []) := rfl
set_option maxRecDepth 1000000 in
theorem cs_7 : cas TL_7 769 = true := by decide +kernel
theorem ca_7 : CASE 769 := CASE.of ql_7 cs_7
set_option maxRecDepth 1000000 in
theorem ql_8 : TL_8 = (((pT M_368).drop 423).take 7 ++ (((pT M_368).drop 2260).take 2 ++ (((pT M_368).drop 13).take 6 ++ ((pT M_368).drop 2262).take 2))).map (mkM []) := rfl
set_option maxRecDepth 1000000 in
theorem cs_8 : cas TL_8 837 = true := by decide +kernel
theorem ca_8 : CASE 837 := CASE.of ql_8 cs_8
set_option maxRecDepth 1000000 in
theorem ql_9 : TL_9 = (((pT M_368).drop 430).take 45 ++ (((pT M_368).drop 2260).take 2 ++ (((pT M_368).drop 13).take 6 ++ ((pT M_368).drop 2262).take 2))).map (mkM []) := rfl
set_option maxRecDepth 1000000 in
theorem cs_9 : cas TL_9 850 = true := by decide +kernel
theorem ca_9 : CASE 850 := CASE.of ql_9 cs_9
set_option maxRecDepth 1000000 in
theorem ql_10 : TL_10 = (((pT M_368).drop 475).take 55 ++ (((pT M_368).drop 2260).take 2 ++ (((pT M_368).drop 13).take 6 ++ ((pT M_368).drop 2262).take 2))).map (mkM []) := rfl
set_option maxRecDepth 1000000 in
theorem cs_10 : cas TL_10 918 = true := by decide +kernel
theorem ca_10 : CASE 918 := CASE.of ql_10 cs_10
set_option maxRecDepth 1000000 in
theorem ql_11 : TL_11 = (((pT M_368).drop 530).take 45 ++ (((pT M_368).drop 2260).take 2 ++ (((pT M_368).drop 13).take 6 ++ ((pT M_368).drop 2262).take 2))).map (mkM []) := rfl
set_option maxRecDepth 1000000 in
theorem cs_11 : cas TL_11 998 = true := by decide +kernel
theorem ca_11 : CASE 998 := CASE.of ql_11 cs_11
set_option maxRecDepth 1000000 in
theorem ql_12 : TL_12 = (((pT M_368).drop 575).take 35 ++ (((pT M_368).drop 2260).take 2 ++ (((pT M_368).drop 13).take 6 ++ ((pT M_368).drop 2262).take 2))).map (mkM []) := rfl
set_option maxRecDepth 1000000 in
theorem cs_12 : cas TL_12 1066 = true := by decide +kernel
theorem ca_12 : CASE 1066 := CASE.of ql_12 cs_12
set_option maxRecDepth 1000000 in
theorem ql_13 : TL_13 = (((pT M_368).drop 610).take 38 ++ (((pT M_368).drop 2260).take 2 ++ (((pT M_368).drop 13).take 6 ++ ((pT M_368).drop 2262).take 2))).map (mkM []) := rfl
set_option maxRecDepth 1000000 in
theorem cs_13 : cas TL_13 1122 = true := by decide +kernel
theorem ca_13 : CASE 1122 := CASE.of ql_13 cs_13
set_option maxRecDepth 1000000 in
theorem ql_14 : TL_14 = (((pT M_368).drop 648).take 25 ++ (((pT M_368).drop 2260).take 2 ++ (((pT M_368).drop 13).take 6 ++ ((pT M_368).drop 2262).take 2))).map (mkM []) := rfl
set_option maxRecDepth 1000000 in
theorem cs_14 : cas TL_14 1185 = true := by decide +kernel
theorem ca_14 : CASE 1185 := CASE.of ql_14 cs_14
set_option maxRecDepth 1000000 in
theorem ql_15 : TL_15 = (((pT M_368).drop 673).take 45 ++ (((pT M_368).drop 2260).take 2 ++ (((pT M_368).drop 13).take 6 ++ ((pT M_368).drop 2262).take 2))).map (mkM []) := rfl
set_option maxRecDepth 1000000 in
theorem cs_15 : cas TL_15 1229 = true := by decide +kernel
theorem ca_15 : CASE 1229 := CASE.of ql_15 cs_15
set_option maxRecDepth 1000000 in
theorem ql_16 : TL_16 = (((pT M_368).drop 718).take 55 ++ (((pT M_368).drop 2260).take 2 ++ (((pT M_368).drop 13).take 6 ++ ((pT M_368).drop 2262).take 2))).map (mkM []) := rfl
set_option maxRecDepth 1000000 in
theorem cs_16 : cas TL_16 1297 = true := by decide +kernel
theorem ca_16 : CASE 1297 := CASE.of ql_16 cs_16
set_option maxRecDepth 1000000 in
theorem ql_17 : TL_17 = (((pT M_368).drop 773).take 45 ++ (((pT M_368).drop 2260).take 2 ++ (((pT M_368).drop 13).take 6 ++ ((pT M_368).drop 2262).take 2))).map (mkM []) := rfl
set_option maxRecDepth 1000000 in
theorem cs_17 : cas TL_17 1377 = true := by decide +kernel
theorem ca_17 : CASE 1377 := CASE.of ql_17 cs_17
set_option maxRecDepth 1000000 in
theorem ql_18 : TL_18 = (((pT M_368).drop 818).take 35 ++ (((pT M_368).drop 2260).take 2 ++ (((pT M_368).drop 13).take 6 ++ ((pT M_368).drop 2262).take 2))).map (mkM []) := rfl
set_option maxRecDepth 1000000 in
theorem cs_18 : cas TL_18 1445 = true := by decide +kernel
theorem ca_18 : CASE 1445 := CASE.of ql_18 cs_18
set_option maxRecDepth 1000000 in
theorem ql_19 : TL_19 = (((pT M_368).drop 853).take 25 ++ (((pT M_368).drop 2260).take 2 ++ (((pT M_368).drop 13).take 6 ++ ((pT M_368).drop 2262).take 2))).map (mkM []) := rfl
set_option maxRecDepth 1000000 in
theorem cs_19 : cas TL_19 1501 = true := by decide +kernel
theorem ca_19 : CASE 1501 := CASE.of ql_19 cs_19
