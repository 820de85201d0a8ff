set_option maxRecDepth 100000 in
theorem dk_368_62 : tb_368_62.all (teK 11 cL_law false) = true := by decide +kernel
set_option maxRecDepth 100000 in
theorem dk_368_63 : tb_368_63.all (teK 11 cL_law false) = true := by decide +kernel
set_option maxRecDepth 100000 in
theorem dk_368_64 : tb_368_64.all (teK 11 cL_law false) = true := by decide +kernel
set_option maxRecDepth 100000 in
theorem dk_368_65 : tb_368_65.all (teK 11 cL_law false) = true := by decide +kernel
set_option maxRecDepth 100000 in
theorem dk_368_66 : tb_368_66.all (teK 11 cL_law false) = true := by decide +kernel
set_option maxRecDepth 100000 in
theorem dk_368_67 : tb_368_67.all (teK 11 cL_law false) = true := by decide +kernel
set_option maxRecDepth 100000 in
theorem dk_368_68 : tb_368_68.all (teK 11 cL_law false) = true := by decide +kernel
set_option maxRecDepth 100000 in
theorem dk_368_69 : tb_368_69.all (teK 11 cL_law false) = true := by decide +kernel
set_option maxRecDepth 100000 in
theorem dk_368_70 : tb_368_70.all (teK 11 cL_law false) = true := by decide +kernel
set_option maxRecDepth 100000 in
theorem dk_368_71 : tb_368_71.all (teK 11 cL_law false) = true := by decide +kernel
set_option maxRecDepth 100000 in
theorem dk_368_72 : tb_368_72.all (teK 11 cL_law false) = true := by decide +kernel
set_option maxRecDepth 100000 in
theorem dk_368_73 : tb_368_73.all (teK 11 cL_law false) = true := by decide +kernel
set_option maxRecDepth 100000 in
theorem dk_368_74 : tb_368_74.all (teK 11 cL_law false) = true := by decide +kernel
set_option maxRecDepth 100000 in
theorem dk_368_75 : tb_368_75.all (teK 11 cL_law false) = true := by decide +kernel
set_option maxRecDepth 100000 in
theorem dk_368_76 : tb_368_76.all (teK 11 cL_law false) = true := by decide +kernel
set_option maxRecDepth 100000 in
theorem dk_368_77 : tb_368_77.all (teK 11 cL_law false) = true := by decide +kernel
set_option maxRecDepth 100000 in
theorem dk_368_78 : tb_368_78.all (teK 11 cL_law false) = true := by decide +kernel
set_option maxRecDepth 100000 in
theorem dk_368_79 : tb_368_79.all (teK 11 cL_law false) = true := by decide +kernel
set_option maxRecDepth 100000 in
theorem dk_368_80 : tb_368_80.all (teK 11 cL_law false) = true := by decide +kernel
set_option maxRecDepth 100000 in
theorem dk_368_81 : tb_368_81.all (teK 11 cL_law false) = true := by decide +kernel
set_option maxRecDepth 100000 in
theorem dk_368_82 : tb_368_82.all (teK 11 cL_law false) = true := by decide +kernel
set_option maxRecDepth 100000 in
theorem dk_368_83 : tb_368_83.all (teK 11 cL_law false) = true := by decide +kernel
set_option maxRecDepth 100000 in
theorem dk_368_84 : tb_368_84.all (teK 11 cL_law false) = true := by decide +kernel
set_option maxRecDepth 100000 in
theorem dk_368_85 : tb_368_85.all (teK 11 cL_law false) = true := by decide +kernel
set_option maxRecDepth 100000 in
theorem dk_368_86 : tb_368_86.all (teK 11 cL_law false) = true := by decide +kernel
set_option maxRecDepth 100000 in
theorem dk_368_87 : tb_368_87.all (teK 11 cL_law false) = true := by decide +kernel
set_option maxRecDepth 100000 in
theorem dk_368_88 : tb_368_88.all (teK 11 cL_law false) = true := by decide +kernel
set_option maxRecDepth 100000 in
theorem dk_368_89 : tb_368_89.all (teK 11 cL_law false) = true := by decide +kernel
set_option maxRecDepth 100000 in
theorem dk_368_90 : tb_368_90.all (teK 11 cL_law false) = true := by decide +kernel
set_option maxRecDepth 100000 in
theorem dk_368_91 : tb_368_91.all (teK 11 cL_law false) = true := by decide +kernel
set_option maxRecDepth 100000 in
theorem dk_368_92 : tb_368_92.all (teK 11 cL_law false) = true := by decide +kernel
set_option maxRecDepth 100000 in
theorem dk_368_93 : tb_368_93.all (teK 11 cL_law false) = true := by decide +kernel
set_option maxRecDepth 100000 in
theorem dk_368_94 : tb_368_94.all (teK 11 cL_law false) = true := by decide +kernel
set_option maxRecDepth 100000 in
theorem dk_368_95 : tb_368_95.all (teK 11 cL_law false) = true := by decide +kernel
set_option maxRecDepth 100000 in
theorem dk_368_96 : tb_368_96.all (teK 11 cL_law false) = true := by decide +kernel
set_option maxRecDepth 100000 in
theorem dk_368_97 : tb_368_97.all (teK 11 cL_law false) = true := by decide +kernel
set_option maxRecDepth 100000 in
theorem dk_368_98 : tb_368_98.all (teK 11 cL_law false) = true := by decide +kernel
set_option maxRecDepth 100000 in
theorem dk_368_99 : tb_368_99.all (teK 11 cL_law false) = true := by decide +kernel
set_option maxRecDepth 100000 in
theorem dk_368_100 : tb_368_100.all (teK 11 cL_law false) = true := by decide +kernel
set_option maxRecDepth 100000 in
theorem dk_368_101 : tb_368_101.all (teK 11 cL_law false) = true := by decide +kernel
set_option maxRecDepth 100000 in
theorem dk_368_102 : tb_368_102.all (teK 11 cL_law false) = true := by decide +kernel
set_option maxRecDepth 100000 in
theorem dk_368_103 : tb_368_103.all (teK 11 cL_law false) = true := by decide +kernel
set_option maxRecDepth 100000 in
theorem dk_368_104 : tb_368_104.all (teK 11 cL_law false) = true := by decide +kernel
set_option maxRecDepth 100000 in
theorem dk_368_105 : tb_368_105.all (teK 11 cL_law false) = true := by decide +kernel
set_option maxRecDepth 100000 in
theorem dk_368_106 : tb_368_106.all (teK 11 cL_law false) = true := by decide +kernel
set_option maxRecDepth 100000 in
theorem dk_368_107 : tb_368_107.all (teK 11 cL_law false) = true := by decide +kernel
set_option maxRecDepth 100000 in
theorem dk_368_108 : tb_368_108.all (teK 11 cL_law false) = true := by decide +kernel
set_option maxRecDepth 100000 in
theorem dk_368_109 : tb_368_109.all (teK 11 cL_law false) = true := by decide +kernel
set_option maxRecDepth 100000 in
theorem dk_368_110 : tb_368_110.all (teK 11 cL_law false) = true := by decide +kernel
set_option maxRecDepth 100000 in
theorem dk_368_111 : tb_368_111.all (teK 11 cL_law false) = true := by decide +kernel
set_option maxRecDepth 100000 in
theorem dk_368_112 : tb_368_112.all (teK 11 cL_law false) = true := by decide +kernel
set_option maxRecDepth 100000 in
theorem dk_368_113 : tb_368_113.all (teK 11 cL_law false) = true := by decide +kernel
set_option maxRecDepth 100000 in
theorem dk_368_114 : tb_368_114.all (teK 11 cL_law false) = true := by decide +kernel
set_option maxRecDepth 100000 in
theorem dk_368_115 : tb_368_115.all (teK 11 cL_law false) = true := by decide +kernel
set_option maxRecDepth 100000 in
theorem dk_368_116 : tb_368_116.all (teK 11 cL_law false) = true := by decide +kernel
set_option maxRecDepth 100000 in
theorem dk_368_117 : tb_368_117.all (teK 11 cL_law false) = true := by decide +kernel
set_option maxRecDepth 100000 in
theorem dk_368_118 : tb_368_118.all (teK 11 cL_law false) = true := by decide +kernel
set_option maxRecDepth 100000 in
theorem dk_368_119 : tb_368_119.all (teK 11 cL_law false) = true := by decide +kernel
set_option maxRecDepth 100000 in
theorem dk_368_120 : tb_368_120.all (teK 11 cL_law false) = true := by decide +kernel
set_option maxRecDepth 100000 in
theorem dk_368_121 : tb_368_121.all (teK 11 cL_law false) = true := by decide +kernel
set_option maxRecDepth 100000 in
theorem dk_368_122 : tb_368_122.all (teK 11 cL_law false) = true := by decide +kernel
set_option maxRecDepth 100000 in
theorem dk_368_123 : tb_368_123.all (teK 11 cL_law false) = true := by decide +kernel
theorem dk_368 : tb_368.all (teK 11 cL_law false) = true := all_app dk_368_0 (all_app dk_368_1 (all_app dk_368_2 (all_app dk_368_3 (all_app dk_368_4 (all_app dk_368_5 (all_app dk_368_6 (all_app dk_368_7 (all_app dk_368_8 (all_app dk_368_9 (all_app dk_368_10 (all_app dk_368_11 (all_app dk_368_12 (all_app dk_368_13 (all_app dk_368_14 (all_app dk_368_15 (all_app dk_368_16 (all_app dk_368_17 (all_app dk_368_18 (all_app dk_368_19 (all_app dk_368_20 (all_app dk_368_21 (all_app dk_368_22 (all_app dk_368_23 (all_app dk_368_24 (all_app dk_368_25 (all_app dk_368_26 (all_app dk_368_27 (all_app dk_368_28 (all_app dk_368_29 (all_app dk_368_30 (all_app dk_368_31 (all_app dk_368_32 (all_app dk_368_33 (all_app dk_368_34 (all_app dk_368_35 (all_app dk_368_36 (all_app dk_368_37 (all_app dk_368_38 (all_app dk_368_39 (all_app dk_368_40 (all_app dk_368_41 (all_app dk_368_42 (all_app dk_368_43 (all_app dk_368_44 (all_app dk_368_45 (all_app dk_368_46 (all_app dk_368_47 (all_app dk_368_48 (all_app dk_368_49 (all_app dk_368_50 (all_app dk_368_51 (all_app dk_368_52 (all_app dk_368_53 (all_app dk_368_54 (all_app dk_368_55 (all_app dk_368_56 (all_app dk_368_57 (all_app dk_368_58 (all_app dk_368_59 (all_app dk_368_60 (all_app dk_368_61 (all_app dk_368_62 (all_app dk_368_63 (all_app dk_368_64 (all_app dk_368_65 (all_app dk_368_66 (all_app dk_368_67 (all_app dk_368_68 (all_app dk_368_69 (all_app dk_368_70 (all_app dk_368_71 (all_app dk_368_72 (all_app dk_368_73 (all_app dk_368_74 (all_app dk_368_75 (all_app dk_368_76 (all_app dk_368_77 (all_app dk_368_78 (all_app dk_368_79 (all_app dk_368_80 (all_app dk_368_81 (all_app dk_368_82 (all_app dk_368_83 (all_app dk_368_84 (all_app dk_368_85 (all_app dk_368_86 (all_app dk_368_87 (all_app dk_368_88 (all_app dk_368_89 (all_app dk_368_90 (all_app dk_368_91 (all_app dk_368_92 (all_app dk_368_93 (all_app dk_368_94 (all_app dk_368_95 (all_app dk_368_96 (all_app dk_368_97 (all_app dk_368_98 (all_app dk_368_99 (all_app dk_368_100 (all_app dk_368_101 (all_app dk_368_102 (all_app dk_368_103 (all_app dk_368_104 (all_app dk_368_105 (all_app dk_368_106 (all_app dk_368_107 (all_app dk_368_108 (all_app dk_368_109 (all_app dk_368_110 (all_app dk_368_111 (all_app dk_368_112 (all_app dk_368_113 (all_app dk_368_114 (all_app dk_368_115 (all_app dk_368_116 (all_app dk_368_117 (all_app dk_368_118 (all_app dk_368_119 (all_app dk_368_120 (all_app dk_368_121 (all_app dk_368_122 (dk_368_123)))))))))))))))))))))))))))))))))))))))))))))))))))))))))))))))))))))))))))))))))))))))))))))))))))))))))))))))))))))))))))
