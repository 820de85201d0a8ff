set_option maxRecDepth 100000 in
theorem dk_368_0 : tb_368_0.all (teK 11 cL_law false) = true := by decide +kernel
set_option maxRecDepth 100000 in
theorem dk_368_1 : tb_368_1.all (teK 11 cL_law false) = true := by decide +kernel
set_option maxRecDepth 100000 in
theorem dk_368_2 : tb_368_2.all (teK 11 cL_law false) = true := by decide +kernel
set_option maxRecDepth 100000 in
theorem dk_368_3 : tb_368_3.all (teK 11 cL_law false) = true := by decide +kernel
set_option maxRecDepth 100000 in
theorem dk_368_4 : tb_368_4.all (teK 11 cL_law false) = true := by decide +kernel
set_option maxRecDepth 100000 in
theorem dk_368_5 : tb_368_5.all (teK 11 cL_law false) = true := by decide +kernel
set_option maxRecDepth 100000 in
theorem dk_368_6 : tb_368_6.all (teK 11 cL_law false) = true := by decide +kernel
set_option maxRecDepth 100000 in
theorem dk_368_7 : tb_368_7.all (teK 11 cL_law false) = true := by decide +kernel
set_option maxRecDepth 100000 in
theorem dk_368_8 : tb_368_8.all (teK 11 cL_law false) = true := by decide +kernel
set_option maxRecDepth 100000 in
theorem dk_368_9 : tb_368_9.all (teK 11 cL_law false) = true := by decide +kernel
set_option maxRecDepth 100000 in
theorem dk_368_10 : tb_368_10.all (teK 11 cL_law false) = true := by decide +kernel
set_option maxRecDepth 100000 in
theorem dk_368_11 : tb_368_11.all (teK 11 cL_law false) = true := by decide +kernel
set_option maxRecDepth 100000 in
theorem dk_368_12 : tb_368_12.all (teK 11 cL_law false) = true := by decide +kernel
set_option maxRecDepth 100000 in
theorem dk_368_13 : tb_368_13.all (teK 11 cL_law false) = true := by decide +kernel
set_option maxRecDepth 100000 in
theorem dk_368_14 : tb_368_14.all (teK 11 cL_law false) = true := by decide +kernel
set_option maxRecDepth 100000 in
theorem dk_368_15 : tb_368_15.all (teK 11 cL_law false) = true := by decide +kernel
set_option maxRecDepth 100000 in
theorem dk_368_16 : tb_368_16.all (teK 11 cL_law false) = true := by decide +kernel
set_option maxRecDepth 100000 in
theorem dk_368_17 : tb_368_17.all (teK 11 cL_law false) = true := by decide +kernel
set_option maxRecDepth 100000 in
theorem dk_368_18 : tb_368_18.all (teK 11 cL_law false) = true := by decide +kernel
set_option maxRecDepth 100000 in
theorem dk_368_19 : tb_368_19.all (teK 11 cL_law false) = true := by decide +kernel
set_option maxRecDepth 100000 in
theorem dk_368_20 : tb_368_20.all (teK 11 cL_law false) = true := by decide +kernel
set_option maxRecDepth 100000 in
theorem dk_368_21 : tb_368_21.all (teK 11 cL_law false) = true := by decide +kernel
set_option maxRecDepth 100000 in
theorem dk_368_22 : tb_368_22.all (teK 11 cL_law false) = true := by decide +kernel
set_option maxRecDepth 100000 in
theorem dk_368_23 : tb_368_23.all (teK 11 cL_law false) = true := by decide +kernel
set_option maxRecDepth 100000 in
theorem dk_368_24 : tb_368_24.all (teK 11 cL_law false) = true := by decide +kernel
set_option maxRecDepth 100000 in
theorem dk_368_25 : tb_368_25.all (teK 11 cL_law false) = true := by decide +kernel
set_option maxRecDepth 100000 in
theorem dk_368_26 : tb_368_26.all (teK 11 cL_law false) = true := by decide +kernel
set_option maxRecDepth 100000 in
theorem dk_368_27 : tb_368_27.all (teK 11 cL_law false) = true := by decide +kernel
set_option maxRecDepth 100000 in
theorem dk_368_28 : tb_368_28.all (teK 11 cL_law false) = true := by decide +kernel
set_option maxRecDepth 100000 in
theorem dk_368_29 : tb_368_29.all (teK 11 cL_law false) = true := by decide +kernel
set_option maxRecDepth 100000 in
theorem dk_368_30 : tb_368_30.all (teK 11 cL_law false) = true := by decide +kernel
set_option maxRecDepth 100000 in
theorem dk_368_31 : tb_368_31.all (teK 11 cL_law false) = true := by decide +kernel
set_option maxRecDepth 100000 in
theorem dk_368_32 : tb_368_32.all (teK 11 cL_law false) = true := by decide +kernel
set_option maxRecDepth 100000 in
theorem dk_368_33 : tb_368_33.all (teK 11 cL_law false) = true := by decide +kernel
set_option maxRecDepth 100000 in
theorem dk_368_34 : tb_368_34.all (teK 11 cL_law false) = true := by decide +kernel
set_option maxRecDepth 100000 in
theorem dk_368_35 : tb_368_35.all (teK 11 cL_law false) = true := by decide +kernel
set_option maxRecDepth 100000 in
theorem dk_368_36 : tb_368_36.all (teK 11 cL_law false) = true := by decide +kernel
set_option maxRecDepth 100000 in
theorem dk_368_37 : tb_368_37.all (teK 11 cL_law false) = true := by decide +kernel
set_option maxRecDepth 100000 in
theorem dk_368_38 : tb_368_38.all (teK 11 cL_law false) = true := by decide +kernel
set_option maxRecDepth 100000 in
theorem dk_368_39 : tb_368_39.all (teK 11 cL_law false) = true := by decide +kernel
set_option maxRecDepth 100000 in
theorem dk_368_40 : tb_368_40.all (teK 11 cL_law false) = true := by decide +kernel
set_option maxRecDepth 100000 in
theorem dk_368_41 : tb_368_41.all (teK 11 cL_law false) = true := by decide +kernel
set_option maxRecDepth 100000 in
theorem dk_368_42 : tb_368_42.all (teK 11 cL_law false) = true := by decide +kernel
set_option maxRecDepth 100000 in
theorem dk_368_43 : tb_368_43.all (teK 11 cL_law false) = true := by decide +kernel
set_option maxRecDepth 100000 in
theorem dk_368_44 : tb_368_44.all (teK 11 cL_law false) = true := by decide +kernel
set_option maxRecDepth 100000 in
theorem dk_368_45 : tb_368_45.all (teK 11 cL_law false) = true := by decide +kernel
set_option maxRecDepth 100000 in
theorem dk_368_46 : tb_368_46.all (teK 11 cL_law false) = true := by decide +kernel
set_option maxRecDepth 100000 in
theorem dk_368_47 : tb_368_47.all (teK 11 cL_law false) = true := by decide +kernel
set_option maxRecDepth 100000 in
theorem dk_368_48 : tb_368_48.all (teK 11 cL_law false) = true := by decide +kernel
set_option maxRecDepth 100000 in
theorem dk_368_49 : tb_368_49.all (teK 11 cL_law false) = true := by decide +kernel
set_option maxRecDepth 100000 in
theorem dk_368_50 : tb_368_50.all (teK 11 cL_law false) = true := by decide +kernel
set_option maxRecDepth 100000 in
theorem dk_368_51 : tb_368_51.all (teK 11 cL_law false) = true := by decide +kernel
set_option maxRecDepth 100000 in
theorem dk_368_52 : tb_368_52.all (teK 11 cL_law false) = true := by decide +kernel
set_option maxRecDepth 100000 in
theorem dk_368_53 : tb_368_53.all (teK 11 cL_law false) = true := by decide +kernel
set_option maxRecDepth 100000 in
theorem dk_368_54 : tb_368_54.all (teK 11 cL_law false) = true := by decide +kernel
set_option maxRecDepth 100000 in
theorem dk_368_55 : tb_368_55.all (teK 11 cL_law false) = true := by decide +kernel
set_option maxRecDepth 100000 in
theorem dk_368_56 : tb_368_56.all (teK 11 cL_law false) = true := by decide +kernel
set_option maxRecDepth 100000 in
theorem dk_368_57 : tb_368_57.all (teK 11 cL_law false) = true := by decide +kernel
set_option maxRecDepth 100000 in
theorem dk_368_58 : tb_368_58.all (teK 11 cL_law false) = true := by decide +kernel
set_option maxRecDepth 100000 in
theorem dk_368_59 : tb_368_59.all (teK 11 cL_law false) = true := by decide +kernel
set_option maxRecDepth 100000 in
theorem dk_368_60 : tb_368_60.all (teK 11 cL_law false) = true := by decide +kernel
set_option maxRecDepth 100000 in
theorem dk_368_61 : tb_368_61.all (teK 11 cL_law false) = true := by decide +kernel
