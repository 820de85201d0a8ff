/-! the instructions are what the bytes decode to -/
set_option maxRecDepth 100000 in
theorem dk_0 : tb_0.all (teK 9 cX9_init true) = true := qk_ok (by decide +kernel)
set_option maxRecDepth 100000 in
theorem dk_1 : tb_1.all (teK 0 cX0_init true) = true := qk_ok (by decide +kernel)
set_option maxRecDepth 100000 in
theorem dk_2 : tb_2.all (teK 7 cX7_init true) = true := qk_ok (by decide +kernel)
set_option maxRecDepth 100000 in
theorem dk_3 : tb_3.all (teK 5 cX5_init true) = true := qk_ok (by decide +kernel)
set_option maxRecDepth 100000 in
theorem dk_4 : tb_4.all (teK 6 cX6_init true) = true := qk_ok (by decide +kernel)
set_option maxRecDepth 100000 in
theorem dk_5 : tb_5.all (teK 1 cX1_init true) = true := qk_ok (by decide +kernel)
set_option maxRecDepth 100000 in
theorem dk_6 : tb_6.all (teK 2 cX2_init true) = true := qk_ok (by decide +kernel)
set_option maxRecDepth 100000 in
theorem dk_7 : tb_7.all (teK 4 cX4_init true) = true := qk_ok (by decide +kernel)
set_option maxRecDepth 100000 in
theorem dk_8 : tb_8.all (teK 8 cX8_init true) = true := qk_ok (by decide +kernel)
set_option maxRecDepth 100000 in
theorem dk_9 : tb_9.all (teK 3 cX3_init true) = true := qk_ok (by decide +kernel)
set_option maxRecDepth 100000 in
theorem dk_10 : tb_10.all (teK 9 cX9_isSound false) = true := qk_ok (by decide +kernel)
set_option maxRecDepth 100000 in
theorem dk_11 : tb_11.all (teK 9 cX9_refresh false) = true := qk_ok (by decide +kernel)
set_option maxRecDepth 100000 in
theorem dk_12 : tb_12.all (teK 0 cX0_isWhole false) = true := qk_ok (by decide +kernel)
set_option maxRecDepth 100000 in
theorem dk_13 : tb_13.all (teK 0 cX0_sourcesOf false) = true := qk_ok (by decide +kernel)
set_option maxRecDepth 100000 in
theorem dk_14 : tb_14.all (teK 0 cX0_sourceAt false) = true := qk_ok (by decide +kernel)
set_option maxRecDepth 100000 in
theorem dk_15 : tb_15.all (teK 0 cX0_distanceAt false) = true := qk_ok (by decide +kernel)
set_option maxRecDepth 100000 in
theorem dk_16 : tb_16.all (teK 0 cX0_holdsSource false) = true := qk_ok (by decide +kernel)
set_option maxRecDepth 100000 in
theorem dk_17 : tb_17.all (teK 7 cX7_weave false) = true := qk_ok (by decide +kernel)
set_option maxRecDepth 100000 in
theorem dk_18 : tb_18.all (teK 7 cX7_latencyBut false) = true := qk_ok (by decide +kernel)
set_option maxRecDepth 100000 in
theorem dk_19 : tb_19.all (teK 0 cX0_latencyAt false) = true := qk_ok (by decide +kernel)
set_option maxRecDepth 100000 in
theorem dk_20 : tb_20.all (teK 7 cX7_insert false) = true := qk_ok (by decide +kernel)
set_option maxRecDepth 100000 in
theorem dk_21 : tb_21.all (teK 7 cX7_compareAt false) = true := qk_ok (by decide +kernel)
set_option maxRecDepth 100000 in
theorem dk_22 : tb_22.all (teK 7 cX7_set false) = true := qk_ok (by decide +kernel)
set_option maxRecDepth 100000 in
theorem dk_23 : tb_23.all (teK 7 cX7_weaveRows false) = true := qk_ok (by decide +kernel)
set_option maxRecDepth 100000 in
theorem dk_24 : tb_24.all (teK 0 cX0_rowAt false) = true := qk_ok (by decide +kernel)
set_option maxRecDepth 100000 in
theorem dk_25 : tb_25.all (teK 0 cX0_placeAt false) = true := qk_ok (by decide +kernel)
set_option maxRecDepth 100000 in
theorem dk_26 : tb_26.all (teK 7 cX7_weigh false) = true := qk_ok (by decide +kernel)
set_option maxRecDepth 100000 in
theorem dk_27 : tb_27.all (teK 7 cX7_goOn false) = true := qk_ok (by decide +kernel)
set_option maxRecDepth 100000 in
theorem dk_28 : tb_28.all (teK 7 cX7_weighRing false) = true := qk_ok (by decide +kernel)
set_option maxRecDepth 100000 in
theorem dk_29 : tb_29.all (teK 13 cJ9_min_7cf53 false) = true := qk_ok (by decide +kernel)
set_option maxRecDepth 100000 in
theorem dk_30 : tb_30.all (teK 7 cX7_commonDivisor false) = true := qk_ok (by decide +kernel)
set_option maxRecDepth 100000 in
theorem dk_31 : tb_31.all (teK 9 cX9_count false) = true := qk_ok (by decide +kernel)
set_option maxRecDepth 100000 in
theorem dk_32 : tb_32.all (teK 7 cX7_rounds false) = true := qk_ok (by decide +kernel)
set_option maxRecDepth 100000 in
theorem dk_33 : tb_33.all (teK 9 cX9_roundUp false) = true := qk_ok (by decide +kernel)
set_option maxRecDepth 100000 in
theorem dk_34 : tb_34.all (teK 13 cJ9_floorDiv_7cf53 false) = true := qk_ok (by decide +kernel)
set_option maxRecDepth 100000 in
theorem dk_35 : tb_35.all (teK 0 cX0_byUnits false) = true := qk_ok (by decide +kernel)
set_option maxRecDepth 100000 in
theorem dk_36 : tb_36.all (teK 0 cX0_usesOf false) = true := qk_ok (by decide +kernel)
set_option maxRecDepth 100000 in
theorem dk_37 : tb_37.all (teK 0 cX0_unitAt false) = true := qk_ok (by decide +kernel)
set_option maxRecDepth 100000 in
theorem dk_38 : tb_38.all (teK 0 cX0_busyAt false) = true := qk_ok (by decide +kernel)
set_option maxRecDepth 100000 in
theorem dk_39 : tb_39.all (teK 12 cJ6_bitCount_0f7a4 false) = true := qk_ok (by decide +kernel)
set_option maxRecDepth 100000 in
theorem dk_40 : tb_40.all (teK 13 cJ9_max_7cf53 false) = true := qk_ok (by decide +kernel)
set_option maxRecDepth 100000 in
theorem dk_41 : tb_41.all (teK 9 cX9_foldBound false) = true := qk_ok (by decide +kernel)
set_option maxRecDepth 100000 in
theorem dk_42 : tb_42.all (teK 0 cX0_latencySum false) = true := qk_ok (by decide +kernel)
set_option maxRecDepth 100000 in
theorem dk_43 : tb_43.all (teK 11 cL_reckon false) = true := qk_ok (by decide +kernel)
set_option maxRecDepth 100000 in
theorem dk_44 : tb_44.all (teK 9 cX9_reckon false) = true := qk_ok (by decide +kernel)
set_option maxRecDepth 100000 in
theorem dk_45 : tb_45.all (teK 9 cX9_isSource false) = true := qk_ok (by decide +kernel)
set_option maxRecDepth 100000 in
theorem dk_46 : tb_46.all (teK 9 cX9_append false) = true := qk_ok (by decide +kernel)
set_option maxRecDepth 100000 in
theorem dk_47 : tb_47.all (teK 0 cX0_put false) = true := qk_ok (by decide +kernel)
set_option maxRecDepth 100000 in
theorem dk_48 : tb_48.all (teK 11 cL_load false) = true := qk_ok (by decide +kernel)
set_option maxRecDepth 100000 in
theorem dk_49 : tb_49.all (teK 9 cX9_load false) = true := qk_ok (by decide +kernel)
set_option maxRecDepth 100000 in
theorem dk_50 : tb_50.all (teK 9 cX9_isRowPlace false) = true := qk_ok (by decide +kernel)
set_option maxRecDepth 100000 in
theorem dk_51 : tb_51.all (teK 11 cL_store false) = true := qk_ok (by decide +kernel)
set_option maxRecDepth 100000 in
theorem dk_52 : tb_52.all (teK 9 cX9_store false) = true := qk_ok (by decide +kernel)
set_option maxRecDepth 100000 in
theorem dk_53 : tb_53.all (teK 11 cL_drop false) = true := qk_ok (by decide +kernel)
set_option maxRecDepth 100000 in
theorem dk_54 : tb_54.all (teK 9 cX9_drop false) = true := qk_ok (by decide +kernel)
set_option maxRecDepth 100000 in
theorem dk_55 : tb_55.all (teK 11 cL_first false) = true := qk_ok (by decide +kernel)
set_option maxRecDepth 100000 in
theorem dk_56 : tb_56.all (teK 9 cX9_first false) = true := qk_ok (by decide +kernel)
set_option maxRecDepth 100000 in
theorem dk_57 : tb_57.all (teK 9 cX9_requireOp false) = true := qk_ok (by decide +kernel)
set_option maxRecDepth 100000 in
theorem dk_58 : tb_58.all (teK 11 cL_kind false) = true := qk_ok (by decide +kernel)
set_option maxRecDepth 100000 in
theorem dk_59 : tb_59.all (teK 9 cX9_kind false) = true := qk_ok (by decide +kernel)
set_option maxRecDepth 100000 in
theorem dk_60 : tb_60.all (teK 9 cX9_requireKind false) = true := qk_ok (by decide +kernel)
set_option maxRecDepth 100000 in
theorem dk_61 : tb_61.all (teK 11 cL_unit false) = true := qk_ok (by decide +kernel)
set_option maxRecDepth 100000 in
theorem dk_62 : tb_62.all (teK 9 cX9_unit false) = true := qk_ok (by decide +kernel)
set_option maxRecDepth 100000 in
theorem dk_63 : tb_63.all (teK 9 cX9_requireUnit false) = true := qk_ok (by decide +kernel)
set_option maxRecDepth 100000 in
theorem dk_64 : tb_64.all (teK 11 cL_op false) = true := qk_ok (by decide +kernel)
set_option maxRecDepth 100000 in
theorem dk_65 : tb_65.all (teK 9 cX9_op false) = true := qk_ok (by decide +kernel)
set_option maxRecDepth 100000 in
theorem dk_66 : tb_66.all (teK 9 cX9_requireWhat false) = true := qk_ok (by decide +kernel)
set_option maxRecDepth 100000 in
theorem dk_67 : tb_67.all (teK 11 cL_need false) = true := qk_ok (by decide +kernel)
set_option maxRecDepth 100000 in
theorem dk_68 : tb_68.all (teK 9 cX9_need false) = true := qk_ok (by decide +kernel)
set_option maxRecDepth 100000 in
theorem dk_69 : tb_69.all (teK 9 cX9_requireSound false) = true := qk_ok (by decide +kernel)
set_option maxRecDepth 100000 in
theorem dk_70 : tb_70.all (teK 9 cX9_requireNeed false) = true := qk_ok (by decide +kernel)
set_option maxRecDepth 100000 in
theorem dk_71 : tb_71.all (teK 11 cL_far false) = true := qk_ok (by decide +kernel)
set_option maxRecDepth 100000 in
theorem dk_72 : tb_72.all (teK 9 cX9_far false) = true := qk_ok (by decide +kernel)
set_option maxRecDepth 100000 in
theorem dk_73 : tb_73.all (teK 9 cX9_requireRounds false) = true := qk_ok (by decide +kernel)
set_option maxRecDepth 100000 in
theorem dk_74 : tb_74.all (teK 9 cX9_requireStep false) = true := qk_ok (by decide +kernel)
set_option maxRecDepth 100000 in
theorem dk_75 : tb_75.all (teK 5 cX5_span false) = true := qk_ok (by decide +kernel)
set_option maxRecDepth 100000 in
theorem dk_76 : tb_76.all (teK 14 cJ7_fill_53178 false) = true := qk_ok (by decide +kernel)
set_option maxRecDepth 100000 in
theorem dk_77 : tb_77.all (teK 5 cX5_goOver false) = true := qk_ok (by decide +kernel)
set_option maxRecDepth 100000 in
theorem dk_78 : tb_78.all (teK 11 cL_height false) = true := qk_ok (by decide +kernel)
set_option maxRecDepth 100000 in
theorem dk_79 : tb_79.all (teK 9 cX9_height false) = true := qk_ok (by decide +kernel)
set_option maxRecDepth 100000 in
theorem dk_80 : tb_80.all (teK 5 cX5_above false) = true := qk_ok (by decide +kernel)
set_option maxRecDepth 100000 in
theorem dk_81 : tb_81.all (teK 11 cL_uses false) = true := qk_ok (by decide +kernel)
set_option maxRecDepth 100000 in
theorem dk_82 : tb_82.all (teK 9 cX9_uses false) = true := qk_ok (by decide +kernel)
set_option maxRecDepth 100000 in
theorem dk_83 : tb_83.all (teK 11 cL_fits false) = true := qk_ok (by decide +kernel)
set_option maxRecDepth 100000 in
theorem dk_84 : tb_84.all (teK 9 cX9_fits false) = true := qk_ok (by decide +kernel)
set_option maxRecDepth 100000 in
theorem dk_85 : tb_85.all (teK 9 cX9_chartOf false) = true := qk_ok (by decide +kernel)
set_option maxRecDepth 100000 in
theorem dk_86 : tb_86.all (teK 6 cX6_holdsByUnits false) = true := qk_ok (by decide +kernel)
set_option maxRecDepth 100000 in
theorem dk_87 : tb_87.all (teK 6 cX6_take false) = true := qk_ok (by decide +kernel)
set_option maxRecDepth 100000 in
theorem dk_88 : tb_88.all (teK 6 cX6_takeBusy false) = true := qk_ok (by decide +kernel)
set_option maxRecDepth 100000 in
theorem dk_89 : tb_89.all (teK 6 cX6_pairTwins false) = true := qk_ok (by decide +kernel)
set_option maxRecDepth 100000 in
theorem dk_90 : tb_90.all (teK 6 cX6_areTwins false) = true := qk_ok (by decide +kernel)
set_option maxRecDepth 100000 in
theorem dk_91 : tb_91.all (teK 6 cX6_place false) = true := qk_ok (by decide +kernel)
set_option maxRecDepth 100000 in
theorem dk_92 : tb_92.all (teK 6 cX6_hasManyTies false) = true := qk_ok (by decide +kernel)
set_option maxRecDepth 100000 in
theorem dk_93 : tb_93.all (teK 6 cX6_align false) = true := qk_ok (by decide +kernel)
set_option maxRecDepth 100000 in
theorem dk_94 : tb_94.all (teK 13 cJ9_floorMod_7cf53 false) = true := qk_ok (by decide +kernel)
set_option maxRecDepth 100000 in
theorem dk_95 : tb_95.all (teK 6 cX6_tighten false) = true := qk_ok (by decide +kernel)
set_option maxRecDepth 100000 in
theorem dk_96 : tb_96.all (teK 6 cX6_settle false) = true := qk_ok (by decide +kernel)
set_option maxRecDepth 100000 in
theorem dk_97 : tb_97.all (teK 6 cX6_openTo false) = true := qk_ok (by decide +kernel)
set_option maxRecDepth 100000 in
theorem dk_98 : tb_98.all (teK 6 cX6_turned false) = true := qk_ok (by decide +kernel)
set_option maxRecDepth 100000 in
theorem dk_99 : tb_99.all (teK 6 cX6_windowOf false) = true := qk_ok (by decide +kernel)
set_option maxRecDepth 100000 in
theorem dk_100 : tb_100.all (teK 6 cX6_isHarder false) = true := qk_ok (by decide +kernel)
set_option maxRecDepth 100000 in
theorem dk_101 : tb_101.all (teK 6 cX6_keepWitness false) = true := qk_ok (by decide +kernel)
set_option maxRecDepth 100000 in
theorem dk_102 : tb_102.all (teK 6 cX6_lift false) = true := qk_ok (by decide +kernel)
set_option maxRecDepth 100000 in
theorem dk_103 : tb_103.all (teK 6 cX6_findFirst false) = true := qk_ok (by decide +kernel)
set_option maxRecDepth 100000 in
theorem dk_104 : tb_104.all (teK 6 cX6_tieAll false) = true := qk_ok (by decide +kernel)
set_option maxRecDepth 100000 in
theorem dk_105 : tb_105.all (teK 6 cX6_groupOf false) = true := qk_ok (by decide +kernel)
set_option maxRecDepth 100000 in
theorem dk_106 : tb_106.all (teK 1 cX1_draw false) = true := qk_ok (by decide +kernel)
set_option maxRecDepth 100000 in
theorem dk_107 : tb_107.all (teK 1 cX1_drawTimes false) = true := qk_ok (by decide +kernel)
set_option maxRecDepth 100000 in
theorem dk_108 : tb_108.all (teK 1 cX1_stageOf false) = true := qk_ok (by decide +kernel)
set_option maxRecDepth 100000 in
theorem dk_109 : tb_109.all (teK 1 cX1_drawLives false) = true := qk_ok (by decide +kernel)
set_option maxRecDepth 100000 in
theorem dk_110 : tb_110.all (teK 1 cX1_drawNames false) = true := qk_ok (by decide +kernel)
set_option maxRecDepth 100000 in
theorem dk_111 : tb_111.all (teK 11 cL_least false) = true := qk_ok (by decide +kernel)
set_option maxRecDepth 100000 in
theorem dk_112 : tb_112.all (teK 9 cX9_least false) = true := qk_ok (by decide +kernel)
set_option maxRecDepth 100000 in
theorem dk_113 : tb_113.all (teK 11 cL_time false) = true := qk_ok (by decide +kernel)
set_option maxRecDepth 100000 in
theorem dk_114 : tb_114.all (teK 9 cX9_time false) = true := qk_ok (by decide +kernel)
set_option maxRecDepth 100000 in
theorem dk_115 : tb_115.all (teK 9 cX9_fittingChart false) = true := qk_ok (by decide +kernel)
set_option maxRecDepth 100000 in
theorem dk_116 : tb_116.all (teK 11 cL_ring false) = true := qk_ok (by decide +kernel)
set_option maxRecDepth 100000 in
theorem dk_117 : tb_117.all (teK 9 cX9_ring false) = true := qk_ok (by decide +kernel)
set_option maxRecDepth 100000 in
theorem dk_118 : tb_118.all (teK 9 cX9_requireSlot false) = true := qk_ok (by decide +kernel)
set_option maxRecDepth 100000 in
theorem dk_119 : tb_119.all (teK 1 cX1_askedIn false) = true := qk_ok (by decide +kernel)
set_option maxRecDepth 100000 in
theorem dk_120 : tb_120.all (teK 1 cX1_asksIn false) = true := qk_ok (by decide +kernel)
set_option maxRecDepth 100000 in
theorem dk_121 : tb_121.all (teK 11 cL_quick false) = true := qk_ok (by decide +kernel)
set_option maxRecDepth 100000 in
theorem dk_122 : tb_122.all (teK 9 cX9_quick false) = true := qk_ok (by decide +kernel)
set_option maxRecDepth 100000 in
theorem dk_123 : tb_123.all (teK 2 cX2_seek false) = true := qk_ok (by decide +kernel)
set_option maxRecDepth 100000 in
theorem dk_124 : tb_124.all (teK 2 cX2_tally false) = true := qk_ok (by decide +kernel)
set_option maxRecDepth 100000 in
theorem dk_125 : tb_125.all (teK 2 cX2_ask false) = true := qk_ok (by decide +kernel)
set_option maxRecDepth 100000 in
theorem dk_126 : tb_126.all (teK 2 cX2_hasRoom false) = true := qk_ok (by decide +kernel)
set_option maxRecDepth 100000 in
theorem dk_127 : tb_127.all (teK 2 cX2_isCrowded false) = true := qk_ok (by decide +kernel)
set_option maxRecDepth 100000 in
theorem dk_128 : tb_128.all (teK 2 cX2_highest false) = true := qk_ok (by decide +kernel)
set_option maxRecDepth 100000 in
theorem dk_129 : tb_129.all (teK 2 cX2_move false) = true := qk_ok (by decide +kernel)
set_option maxRecDepth 100000 in
theorem dk_130 : tb_130.all (teK 2 cX2_earlyOf false) = true := qk_ok (by decide +kernel)
set_option maxRecDepth 100000 in
theorem dk_131 : tb_131.all (teK 2 cX2_sendSharers false) = true := qk_ok (by decide +kernel)
set_option maxRecDepth 100000 in
theorem dk_132 : tb_132.all (teK 2 cX2_meetsCrowded false) = true := qk_ok (by decide +kernel)
set_option maxRecDepth 100000 in
theorem dk_133 : tb_133.all (teK 2 cX2_slotsOf false) = true := qk_ok (by decide +kernel)
set_option maxRecDepth 100000 in
theorem dk_134 : tb_134.all (teK 2 cX2_sendBroken false) = true := qk_ok (by decide +kernel)
set_option maxRecDepth 100000 in
theorem dk_135 : tb_135.all (teK 11 cL_moves false) = true := qk_ok (by decide +kernel)
set_option maxRecDepth 100000 in
theorem dk_136 : tb_136.all (teK 9 cX9_moves false) = true := qk_ok (by decide +kernel)
set_option maxRecDepth 100000 in
theorem dk_137 : tb_137.all (teK 11 cL_quickest false) = true := qk_ok (by decide +kernel)
set_option maxRecDepth 100000 in
theorem dk_138 : tb_138.all (teK 9 cX9_quickest false) = true := qk_ok (by decide +kernel)
set_option maxRecDepth 100000 in
theorem dk_139 : tb_139.all (teK 11 cL_plan false) = true := qk_ok (by decide +kernel)
set_option maxRecDepth 100000 in
theorem dk_140 : tb_140.all (teK 9 cX9_plan false) = true := qk_ok (by decide +kernel)
set_option maxRecDepth 100000 in
theorem dk_141 : tb_141.all (teK 1 cX1_pairedSum false) = true := qk_ok (by decide +kernel)
set_option maxRecDepth 100000 in
theorem dk_142 : tb_142.all (teK 1 cX1_fullestSlot false) = true := qk_ok (by decide +kernel)
set_option maxRecDepth 100000 in
theorem dk_143 : tb_143.all (teK 1 cX1_aliveIn false) = true := qk_ok (by decide +kernel)
set_option maxRecDepth 100000 in
theorem dk_144 : tb_144.all (teK 11 cL_life false) = true := qk_ok (by decide +kernel)
set_option maxRecDepth 100000 in
theorem dk_145 : tb_145.all (teK 9 cX9_life false) = true := qk_ok (by decide +kernel)
set_option maxRecDepth 100000 in
theorem dk_146 : tb_146.all (teK 1 cX1_looseOf false) = true := qk_ok (by decide +kernel)
set_option maxRecDepth 100000 in
theorem dk_147 : tb_147.all (teK 11 cL_alive false) = true := qk_ok (by decide +kernel)
set_option maxRecDepth 100000 in
theorem dk_148 : tb_148.all (teK 9 cX9_alive false) = true := qk_ok (by decide +kernel)
set_option maxRecDepth 100000 in
theorem dk_149 : tb_149.all (teK 11 cL_flat false) = true := qk_ok (by decide +kernel)
set_option maxRecDepth 100000 in
theorem dk_150 : tb_150.all (teK 9 cX9_flat false) = true := qk_ok (by decide +kernel)
set_option maxRecDepth 100000 in
theorem dk_151 : tb_151.all (teK 9 cX9_requireTurns false) = true := qk_ok (by decide +kernel)
set_option maxRecDepth 100000 in
theorem dk_152 : tb_152.all (teK 1 cX1_turnBegun false) = true := qk_ok (by decide +kernel)
set_option maxRecDepth 100000 in
theorem dk_153 : tb_153.all (teK 11 cL_cycles false) = true := qk_ok (by decide +kernel)
set_option maxRecDepth 100000 in
theorem dk_154 : tb_154.all (teK 9 cX9_cycles false) = true := qk_ok (by decide +kernel)
set_option maxRecDepth 100000 in
theorem dk_155 : tb_155.all (teK 1 cX1_cyclesOf false) = true := qk_ok (by decide +kernel)
set_option maxRecDepth 100000 in
theorem dk_156 : tb_156.all (teK 1 cX1_headOf false) = true := qk_ok (by decide +kernel)
set_option maxRecDepth 100000 in
theorem dk_157 : tb_157.all (teK 1 cX1_ringOf false) = true := qk_ok (by decide +kernel)
set_option maxRecDepth 100000 in
theorem dk_158 : tb_158.all (teK 11 cL_run false) = true := qk_ok (by decide +kernel)
set_option maxRecDepth 100000 in
theorem dk_159 : tb_159.all (teK 9 cX9_run false) = true := qk_ok (by decide +kernel)
set_option maxRecDepth 100000 in
theorem dk_160 : tb_160.all (teK 9 cX9_requireCell false) = true := qk_ok (by decide +kernel)
set_option maxRecDepth 100000 in
theorem dk_161 : tb_161.all (teK 4 cX4_turns false) = true := qk_ok (by decide +kernel)
set_option maxRecDepth 100000 in
theorem dk_162 : tb_162.all (teK 4 cX4_act false) = true := qk_ok (by decide +kernel)
set_option maxRecDepth 100000 in
theorem dk_163 : tb_163.all (teK 4 cX4_look false) = true := qk_ok (by decide +kernel)
set_option maxRecDepth 100000 in
theorem dk_164 : tb_164.all (teK 4 cX4_valueOf false) = true := qk_ok (by decide +kernel)
set_option maxRecDepth 100000 in
theorem dk_165 : tb_165.all (teK 11 cL_comes false) = true := qk_ok (by decide +kernel)
set_option maxRecDepth 100000 in
theorem dk_166 : tb_166.all (teK 9 cX9_comes false) = true := qk_ok (by decide +kernel)
set_option maxRecDepth 100000 in
theorem dk_167 : tb_167.all (teK 9 cX9_requireNoStore false) = true := qk_ok (by decide +kernel)
set_option maxRecDepth 100000 in
theorem dk_168 : tb_168.all (teK 11 cL_plain false) = true := qk_ok (by decide +kernel)
set_option maxRecDepth 100000 in
theorem dk_169 : tb_169.all (teK 9 cX9_plain false) = true := qk_ok (by decide +kernel)
set_option maxRecDepth 100000 in
theorem dk_170 : tb_170.all (teK 11 cL_gate false) = true := qk_ok (by decide +kernel)
set_option maxRecDepth 100000 in
theorem dk_171 : tb_171.all (teK 9 cX9_gate false) = true := qk_ok (by decide +kernel)
set_option maxRecDepth 100000 in
theorem dk_172 : tb_172.all (teK 11 cL_code false) = true := qk_ok (by decide +kernel)
set_option maxRecDepth 100000 in
theorem dk_173 : tb_173.all (teK 9 cX9_code false) = true := qk_ok (by decide +kernel)
set_option maxRecDepth 100000 in
theorem dk_174 : tb_174.all (teK 11 cL_peel false) = true := qk_ok (by decide +kernel)
set_option maxRecDepth 100000 in
theorem dk_175 : tb_175.all (teK 9 cX9_peel false) = true := qk_ok (by decide +kernel)
set_option maxRecDepth 100000 in
theorem dk_176 : tb_176.all (teK 1 cX1_peeledOf false) = true := qk_ok (by decide +kernel)
set_option maxRecDepth 100000 in
theorem dk_177 : tb_177.all (teK 11 cL_turning false) = true := qk_ok (by decide +kernel)
set_option maxRecDepth 100000 in
theorem dk_178 : tb_178.all (teK 9 cX9_turning false) = true := qk_ok (by decide +kernel)
set_option maxRecDepth 100000 in
theorem dk_179 : tb_179.all (teK 8 cX8_settleAll false) = true := qk_ok (by decide +kernel)
set_option maxRecDepth 100000 in
theorem dk_180 : tb_180.all (teK 8 cX8_leastPlace false) = true := qk_ok (by decide +kernel)
set_option maxRecDepth 100000 in
theorem dk_181 : tb_181.all (teK 8 cX8_shutBy false) = true := qk_ok (by decide +kernel)
set_option maxRecDepth 100000 in
theorem dk_182 : tb_182.all (teK 11 cL_rotary false) = true := qk_ok (by decide +kernel)
set_option maxRecDepth 100000 in
theorem dk_183 : tb_183.all (teK 9 cX9_rotary false) = true := qk_ok (by decide +kernel)
set_option maxRecDepth 100000 in
theorem dk_184 : tb_184.all (teK 11 cL_name false) = true := qk_ok (by decide +kernel)
set_option maxRecDepth 100000 in
theorem dk_185 : tb_185.all (teK 9 cX9_name false) = true := qk_ok (by decide +kernel)
set_option maxRecDepth 100000 in
theorem dk_186 : tb_186.all (teK 1 cX1_turnInName false) = true := qk_ok (by decide +kernel)
set_option maxRecDepth 100000 in
theorem dk_187 : tb_187.all (teK 11 cL_rate false) = true := qk_ok (by decide +kernel)
set_option maxRecDepth 100000 in
theorem dk_188 : tb_188.all (teK 9 cX9_rate false) = true := qk_ok (by decide +kernel)
set_option maxRecDepth 100000 in
theorem dk_189 : tb_189.all (teK 11 cL_critical false) = true := qk_ok (by decide +kernel)
set_option maxRecDepth 100000 in
theorem dk_190 : tb_190.all (teK 9 cX9_critical false) = true := qk_ok (by decide +kernel)
set_option maxRecDepth 100000 in
theorem dk_191 : tb_191.all (teK 11 cL_fold false) = true := qk_ok (by decide +kernel)
set_option maxRecDepth 100000 in
theorem dk_192 : tb_192.all (teK 9 cX9_fold false) = true := qk_ok (by decide +kernel)
set_option maxRecDepth 100000 in
theorem dk_193 : tb_193.all (teK 11 cL_bestFold false) = true := qk_ok (by decide +kernel)
set_option maxRecDepth 100000 in
theorem dk_194 : tb_194.all (teK 9 cX9_bestFold false) = true := qk_ok (by decide +kernel)
set_option maxRecDepth 100000 in
theorem dk_195 : tb_195.all (teK 11 cL_faster false) = true := qk_ok (by decide +kernel)
set_option maxRecDepth 100000 in
theorem dk_196 : tb_196.all (teK 9 cX9_faster false) = true := qk_ok (by decide +kernel)
set_option maxRecDepth 100000 in
theorem dk_197 : tb_197.all (teK 11 cL_without false) = true := qk_ok (by decide +kernel)
set_option maxRecDepth 100000 in
theorem dk_198 : tb_198.all (teK 9 cX9_without false) = true := qk_ok (by decide +kernel)
set_option maxRecDepth 100000 in
theorem dk_199 : tb_199.all (teK 7 cX7_takeAllBut false) = true := qk_ok (by decide +kernel)
set_option maxRecDepth 100000 in
theorem dk_200 : tb_200.all (teK 11 cL_idle false) = true := qk_ok (by decide +kernel)
set_option maxRecDepth 100000 in
theorem dk_201 : tb_201.all (teK 9 cX9_idle false) = true := qk_ok (by decide +kernel)
set_option maxRecDepth 100000 in
theorem dk_202 : tb_202.all (teK 11 cL_bare false) = true := qk_ok (by decide +kernel)
set_option maxRecDepth 100000 in
theorem dk_203 : tb_203.all (teK 9 cX9_bare false) = true := qk_ok (by decide +kernel)
set_option maxRecDepth 100000 in
theorem dk_204 : tb_204.all (teK 5 cX5_latestOf false) = true := qk_ok (by decide +kernel)
set_option maxRecDepth 100000 in
theorem dk_205 : tb_205.all (teK 5 cX5_soonestOf false) = true := qk_ok (by decide +kernel)
set_option maxRecDepth 100000 in
theorem dk_206 : tb_206.all (teK 11 cL_who false) = true := qk_ok (by decide +kernel)
set_option maxRecDepth 100000 in
theorem dk_207 : tb_207.all (teK 9 cX9_who false) = true := qk_ok (by decide +kernel)
set_option maxRecDepth 100000 in
theorem dk_208 : tb_208.all (teK 1 cX1_usersIn false) = true := qk_ok (by decide +kernel)
set_option maxRecDepth 100000 in
theorem dk_209 : tb_209.all (teK 11 cL_holes false) = true := qk_ok (by decide +kernel)
set_option maxRecDepth 100000 in
theorem dk_210 : tb_210.all (teK 9 cX9_holes false) = true := qk_ok (by decide +kernel)
set_option maxRecDepth 100000 in
theorem dk_211 : tb_211.all (teK 1 cX1_cyclesWithoutBegin false) = true := qk_ok (by decide +kernel)
set_option maxRecDepth 100000 in
theorem dk_212 : tb_212.all (teK 1 cX1_hasBegin false) = true := qk_ok (by decide +kernel)
set_option maxRecDepth 100000 in
theorem dk_213 : tb_213.all (teK 11 cL_late false) = true := qk_ok (by decide +kernel)
set_option maxRecDepth 100000 in
theorem dk_214 : tb_214.all (teK 9 cX9_late false) = true := qk_ok (by decide +kernel)
set_option maxRecDepth 100000 in
theorem dk_215 : tb_215.all (teK 3 cX3_waited false) = true := qk_ok (by decide +kernel)
set_option maxRecDepth 100000 in
theorem dk_216 : tb_216.all (teK 3 cX3_lastComing false) = true := qk_ok (by decide +kernel)
set_option maxRecDepth 100000 in
theorem dk_217 : tb_217.all (teK 3 cX3_comingOf false) = true := qk_ok (by decide +kernel)
set_option maxRecDepth 100000 in
theorem dk_218 : tb_218.all (teK 11 cL_pays false) = true := qk_ok (by decide +kernel)
set_option maxRecDepth 100000 in
theorem dk_219 : tb_219.all (teK 9 cX9_pays false) = true := qk_ok (by decide +kernel)
set_option maxRecDepth 100000 in
theorem dk_220 : tb_220.all (teK 11 cL_more false) = true := qk_ok (by decide +kernel)
set_option maxRecDepth 100000 in
theorem dk_221 : tb_221.all (teK 9 cX9_more false) = true := qk_ok (by decide +kernel)
set_option maxRecDepth 100000 in
theorem dk_222 : tb_222.all (teK 11 cL_squeeze false) = true := qk_ok (by decide +kernel)
set_option maxRecDepth 100000 in
theorem dk_223 : tb_223.all (teK 9 cX9_squeeze false) = true := qk_ok (by decide +kernel)
set_option maxRecDepth 100000 in
theorem dk_224 : tb_224.all (teK 10 cX10_init true) = true := qk_ok (by decide +kernel)
set_option maxRecDepth 100000 in
theorem dk_225 : tb_225.all (teK 10 cX10_reckon false) = true := qk_ok (by decide +kernel)
set_option maxRecDepth 100000 in
theorem dk_226 : tb_226.all (teK 10 cX10_reckon false) = true := qk_ok (by decide +kernel)
set_option maxRecDepth 100000 in
theorem dk_227 : tb_227.all (teK 10 cX10_isIn false) = true := qk_ok (by decide +kernel)
set_option maxRecDepth 100000 in
theorem dk_228 : tb_228.all (teK 10 cX10_isSource false) = true := qk_ok (by decide +kernel)
set_option maxRecDepth 100000 in
theorem dk_229 : tb_229.all (teK 10 cX10_adds false) = true := qk_ok (by decide +kernel)
set_option maxRecDepth 100000 in
theorem dk_230 : tb_230.all (teK 10 cX10_load false) = true := qk_ok (by decide +kernel)
set_option maxRecDepth 100000 in
theorem dk_231 : tb_231.all (teK 10 cX10_isRow false) = true := qk_ok (by decide +kernel)
set_option maxRecDepth 100000 in
theorem dk_232 : tb_232.all (teK 10 cX10_store false) = true := qk_ok (by decide +kernel)
set_option maxRecDepth 100000 in
theorem dk_233 : tb_233.all (teK 10 cX10_drop false) = true := qk_ok (by decide +kernel)
set_option maxRecDepth 100000 in
theorem dk_234 : tb_234.all (teK 10 cX10_first false) = true := qk_ok (by decide +kernel)
set_option maxRecDepth 100000 in
theorem dk_235 : tb_235.all (teK 10 cX10_isOp false) = true := qk_ok (by decide +kernel)
set_option maxRecDepth 100000 in
theorem dk_236 : tb_236.all (teK 10 cX10_kind false) = true := qk_ok (by decide +kernel)
set_option maxRecDepth 100000 in
theorem dk_237 : tb_237.all (teK 10 cX10_unit false) = true := qk_ok (by decide +kernel)
set_option maxRecDepth 100000 in
theorem dk_238 : tb_238.all (teK 10 cX10_op false) = true := qk_ok (by decide +kernel)
set_option maxRecDepth 100000 in
theorem dk_239 : tb_239.all (teK 10 cX10_isSound false) = true := qk_ok (by decide +kernel)
set_option maxRecDepth 100000 in
theorem dk_240 : tb_240.all (teK 10 cX10_sound false) = true := qk_ok (by decide +kernel)
set_option maxRecDepth 100000 in
theorem dk_241 : tb_241.all (teK 10 cX10_sources false) = true := qk_ok (by decide +kernel)
set_option maxRecDepth 100000 in
theorem dk_242 : tb_242.all (teK 10 cX10_source false) = true := qk_ok (by decide +kernel)
set_option maxRecDepth 100000 in
theorem dk_243 : tb_243.all (teK 10 cX10_sourceBy false) = true := qk_ok (by decide +kernel)
set_option maxRecDepth 100000 in
theorem dk_244 : tb_244.all (teK 10 cX10_need false) = true := qk_ok (by decide +kernel)
set_option maxRecDepth 100000 in
theorem dk_245 : tb_245.all (teK 10 cX10_laysNeeds false) = true := qk_ok (by decide +kernel)
set_option maxRecDepth 100000 in
theorem dk_246 : tb_246.all (teK 10 cX10_latencyAt false) = true := qk_ok (by decide +kernel)
set_option maxRecDepth 100000 in
theorem dk_247 : tb_247.all (teK 10 cX10_comesNeed false) = true := qk_ok (by decide +kernel)
set_option maxRecDepth 100000 in
theorem dk_248 : tb_248.all (teK 10 cX10_isBehind false) = true := qk_ok (by decide +kernel)
set_option maxRecDepth 100000 in
theorem dk_249 : tb_249.all (teK 10 cX10_isOfRow false) = true := qk_ok (by decide +kernel)
set_option maxRecDepth 100000 in
theorem dk_250 : tb_250.all (teK 10 cX10_rowOf false) = true := qk_ok (by decide +kernel)
set_option maxRecDepth 100000 in
theorem dk_251 : tb_251.all (teK 10 cX10_placeOf false) = true := qk_ok (by decide +kernel)
set_option maxRecDepth 100000 in
theorem dk_252 : tb_252.all (teK 10 cX10_far false) = true := qk_ok (by decide +kernel)
set_option maxRecDepth 100000 in
theorem dk_253 : tb_253.all (teK 10 cX10_isStep false) = true := qk_ok (by decide +kernel)
set_option maxRecDepth 100000 in
theorem dk_254 : tb_254.all (teK 10 cX10_isLess false) = true := qk_ok (by decide +kernel)
set_option maxRecDepth 100000 in
theorem dk_255 : tb_255.all (teK 10 cX10_rounds false) = true := qk_ok (by decide +kernel)
set_option maxRecDepth 100000 in
theorem dk_256 : tb_256.all (teK 10 cX10_laysWays false) = true := qk_ok (by decide +kernel)
set_option maxRecDepth 100000 in
theorem dk_257 : tb_257.all (teK 10 cX10_greater false) = true := qk_ok (by decide +kernel)
set_option maxRecDepth 100000 in
theorem dk_258 : tb_258.all (teK 10 cX10_lesser false) = true := qk_ok (by decide +kernel)
set_option maxRecDepth 100000 in
theorem dk_259 : tb_259.all (teK 10 cX10_isRound false) = true := qk_ok (by decide +kernel)
set_option maxRecDepth 100000 in
theorem dk_260 : tb_260.all (teK 10 cX10_height false) = true := qk_ok (by decide +kernel)
set_option maxRecDepth 100000 in
theorem dk_261 : tb_261.all (teK 10 cX10_heightOf false) = true := qk_ok (by decide +kernel)
set_option maxRecDepth 100000 in
theorem dk_262 : tb_262.all (teK 10 cX10_uses false) = true := qk_ok (by decide +kernel)
set_option maxRecDepth 100000 in
theorem dk_263 : tb_263.all (teK 10 cX10_usesOf false) = true := qk_ok (by decide +kernel)
set_option maxRecDepth 100000 in
theorem dk_264 : tb_264.all (teK 10 cX10_unitAt false) = true := qk_ok (by decide +kernel)
set_option maxRecDepth 100000 in
theorem dk_265 : tb_265.all (teK 10 cX10_busyAt false) = true := qk_ok (by decide +kernel)
set_option maxRecDepth 100000 in
theorem dk_266 : tb_266.all (teK 10 cX10_bits false) = true := qk_ok (by decide +kernel)
set_option maxRecDepth 100000 in
theorem dk_267 : tb_267.all (teK 10 cX10_fits false) = true := qk_ok (by decide +kernel)
set_option maxRecDepth 100000 in
theorem dk_268 : tb_268.all (teK 10 cX10_fitsBy false) = true := qk_ok (by decide +kernel)
set_option maxRecDepth 100000 in
theorem dk_269 : tb_269.all (teK 10 cX10_findsSlots false) = true := qk_ok (by decide +kernel)
set_option maxRecDepth 100000 in
theorem dk_270 : tb_270.all (teK 10 cX10_empties false) = true := qk_ok (by decide +kernel)
set_option maxRecDepth 100000 in
theorem dk_271 : tb_271.all (teK 10 cX10_puts false) = true := qk_ok (by decide +kernel)
set_option maxRecDepth 100000 in
theorem dk_272 : tb_272.all (teK 10 cX10_rest false) = true := qk_ok (by decide +kernel)
set_option maxRecDepth 100000 in
theorem dk_273 : tb_273.all (teK 10 cX10_isTooMuch false) = true := qk_ok (by decide +kernel)
set_option maxRecDepth 100000 in
theorem dk_274 : tb_274.all (teK 10 cX10_canBe false) = true := qk_ok (by decide +kernel)
set_option maxRecDepth 100000 in
theorem dk_275 : tb_275.all (teK 10 cX10_up false) = true := qk_ok (by decide +kernel)
set_option maxRecDepth 100000 in
theorem dk_276 : tb_276.all (teK 10 cX10_laysTimes false) = true := qk_ok (by decide +kernel)
set_option maxRecDepth 100000 in
theorem dk_277 : tb_277.all (teK 10 cX10_least false) = true := qk_ok (by decide +kernel)
set_option maxRecDepth 100000 in
theorem dk_278 : tb_278.all (teK 10 cX10_time false) = true := qk_ok (by decide +kernel)
set_option maxRecDepth 100000 in
theorem dk_279 : tb_279.all (teK 10 cX10_ring false) = true := qk_ok (by decide +kernel)
set_option maxRecDepth 100000 in
theorem dk_280 : tb_280.all (teK 10 cX10_quick false) = true := qk_ok (by decide +kernel)
set_option maxRecDepth 100000 in
theorem dk_281 : tb_281.all (teK 10 cX10_isQuick false) = true := qk_ok (by decide +kernel)
set_option maxRecDepth 100000 in
theorem dk_282 : tb_282.all (teK 10 cX10_goesQuick false) = true := qk_ok (by decide +kernel)
set_option maxRecDepth 100000 in
theorem dk_283 : tb_283.all (teK 10 cX10_standsAlone false) = true := qk_ok (by decide +kernel)
set_option maxRecDepth 100000 in
theorem dk_284 : tb_284.all (teK 10 cX10_highest false) = true := qk_ok (by decide +kernel)
set_option maxRecDepth 100000 in
theorem dk_285 : tb_285.all (teK 10 cX10_comesQuick false) = true := qk_ok (by decide +kernel)
set_option maxRecDepth 100000 in
theorem dk_286 : tb_286.all (teK 10 cX10_early false) = true := qk_ok (by decide +kernel)
set_option maxRecDepth 100000 in
theorem dk_287 : tb_287.all (teK 10 cX10_hasRoom false) = true := qk_ok (by decide +kernel)
set_option maxRecDepth 100000 in
theorem dk_288 : tb_288.all (teK 10 cX10_collide false) = true := qk_ok (by decide +kernel)
set_option maxRecDepth 100000 in
theorem dk_289 : tb_289.all (teK 10 cX10_usesSlot false) = true := qk_ok (by decide +kernel)
set_option maxRecDepth 100000 in
theorem dk_290 : tb_290.all (teK 10 cX10_goes false) = true := qk_ok (by decide +kernel)
set_option maxRecDepth 100000 in
theorem dk_291 : tb_291.all (teK 10 cX10_isKept false) = true := qk_ok (by decide +kernel)
set_option maxRecDepth 100000 in
theorem dk_292 : tb_292.all (teK 10 cX10_moves false) = true := qk_ok (by decide +kernel)
set_option maxRecDepth 100000 in
theorem dk_293 : tb_293.all (teK 10 cX10_quickest false) = true := qk_ok (by decide +kernel)
set_option maxRecDepth 100000 in
theorem dk_294 : tb_294.all (teK 10 cX10_plan false) = true := qk_ok (by decide +kernel)
set_option maxRecDepth 100000 in
theorem dk_295 : tb_295.all (teK 10 cX10_pairedOf false) = true := qk_ok (by decide +kernel)
set_option maxRecDepth 100000 in
theorem dk_296 : tb_296.all (teK 10 cX10_unroll false) = true := qk_ok (by decide +kernel)
set_option maxRecDepth 100000 in
theorem dk_297 : tb_297.all (teK 10 cX10_copiesOf false) = true := qk_ok (by decide +kernel)
set_option maxRecDepth 100000 in
theorem dk_298 : tb_298.all (teK 10 cX10_lifeOf false) = true := qk_ok (by decide +kernel)
set_option maxRecDepth 100000 in
theorem dk_299 : tb_299.all (teK 10 cX10_begins false) = true := qk_ok (by decide +kernel)
set_option maxRecDepth 100000 in
theorem dk_300 : tb_300.all (teK 10 cX10_span false) = true := qk_ok (by decide +kernel)
set_option maxRecDepth 100000 in
theorem dk_301 : tb_301.all (teK 10 cX10_stages false) = true := qk_ok (by decide +kernel)
set_option maxRecDepth 100000 in
theorem dk_302 : tb_302.all (teK 10 cX10_names false) = true := qk_ok (by decide +kernel)
set_option maxRecDepth 100000 in
theorem dk_303 : tb_303.all (teK 10 cX10_fullest false) = true := qk_ok (by decide +kernel)
set_option maxRecDepth 100000 in
theorem dk_304 : tb_304.all (teK 10 cX10_aliveAt false) = true := qk_ok (by decide +kernel)
set_option maxRecDepth 100000 in
theorem dk_305 : tb_305.all (teK 10 cX10_life false) = true := qk_ok (by decide +kernel)
set_option maxRecDepth 100000 in
theorem dk_306 : tb_306.all (teK 10 cX10_looseOf false) = true := qk_ok (by decide +kernel)
set_option maxRecDepth 100000 in
theorem dk_307 : tb_307.all (teK 10 cX10_alive false) = true := qk_ok (by decide +kernel)
set_option maxRecDepth 100000 in
theorem dk_308 : tb_308.all (teK 10 cX10_flat false) = true := qk_ok (by decide +kernel)
set_option maxRecDepth 100000 in
theorem dk_309 : tb_309.all (teK 10 cX10_areTurns false) = true := qk_ok (by decide +kernel)
set_option maxRecDepth 100000 in
theorem dk_310 : tb_310.all (teK 10 cX10_cycles false) = true := qk_ok (by decide +kernel)
set_option maxRecDepth 100000 in
theorem dk_311 : tb_311.all (teK 10 cX10_wrongFlat false) = true := qk_ok (by decide +kernel)
set_option maxRecDepth 100000 in
theorem dk_312 : tb_312.all (teK 10 cX10_headOf false) = true := qk_ok (by decide +kernel)
set_option maxRecDepth 100000 in
theorem dk_313 : tb_313.all (teK 10 cX10_cyclesOf false) = true := qk_ok (by decide +kernel)
set_option maxRecDepth 100000 in
theorem dk_314 : tb_314.all (teK 10 cX10_ringOf false) = true := qk_ok (by decide +kernel)
set_option maxRecDepth 100000 in
theorem dk_315 : tb_315.all (teK 10 cX10_run false) = true := qk_ok (by decide +kernel)
set_option maxRecDepth 100000 in
theorem dk_316 : tb_316.all (teK 10 cX10_isCell false) = true := qk_ok (by decide +kernel)
set_option maxRecDepth 100000 in
theorem dk_317 : tb_317.all (teK 10 cX10_runs false) = true := qk_ok (by decide +kernel)
set_option maxRecDepth 100000 in
theorem dk_318 : tb_318.all (teK 10 cX10_fillsRows false) = true := qk_ok (by decide +kernel)
set_option maxRecDepth 100000 in
theorem dk_319 : tb_319.all (teK 10 cX10_turnAt false) = true := qk_ok (by decide +kernel)
set_option maxRecDepth 100000 in
theorem dk_320 : tb_320.all (teK 10 cX10_delivers false) = true := qk_ok (by decide +kernel)
set_option maxRecDepth 100000 in
theorem dk_321 : tb_321.all (teK 10 cX10_nameOf false) = true := qk_ok (by decide +kernel)
set_option maxRecDepth 100000 in
theorem dk_322 : tb_322.all (teK 10 cX10_reckons false) = true := qk_ok (by decide +kernel)
set_option maxRecDepth 100000 in
theorem dk_323 : tb_323.all (teK 10 cX10_looksAt false) = true := qk_ok (by decide +kernel)
set_option maxRecDepth 100000 in
theorem dk_324 : tb_324.all (teK 10 cX10_does false) = true := qk_ok (by decide +kernel)
set_option maxRecDepth 100000 in
theorem dk_325 : tb_325.all (teK 10 cX10_comes false) = true := qk_ok (by decide +kernel)
set_option maxRecDepth 100000 in
theorem dk_326 : tb_326.all (teK 10 cX10_name false) = true := qk_ok (by decide +kernel)
set_option maxRecDepth 100000 in
theorem dk_327 : tb_327.all (teK 10 cX10_plain false) = true := qk_ok (by decide +kernel)
set_option maxRecDepth 100000 in
theorem dk_328 : tb_328.all (teK 10 cX10_plainRuns false) = true := qk_ok (by decide +kernel)
set_option maxRecDepth 100000 in
theorem dk_329 : tb_329.all (teK 10 cX10_plainOf false) = true := qk_ok (by decide +kernel)
set_option maxRecDepth 100000 in
theorem dk_330 : tb_330.all (teK 10 cX10_plainLook false) = true := qk_ok (by decide +kernel)
set_option maxRecDepth 100000 in
theorem dk_331 : tb_331.all (teK 10 cX10_gate false) = true := qk_ok (by decide +kernel)
set_option maxRecDepth 100000 in
theorem dk_332 : tb_332.all (teK 10 cX10_code false) = true := qk_ok (by decide +kernel)
set_option maxRecDepth 100000 in
theorem dk_333 : tb_333.all (teK 10 cX10_peel false) = true := qk_ok (by decide +kernel)
set_option maxRecDepth 100000 in
theorem dk_334 : tb_334.all (teK 10 cX10_peelOf false) = true := qk_ok (by decide +kernel)
set_option maxRecDepth 100000 in
theorem dk_335 : tb_335.all (teK 10 cX10_latencies false) = true := qk_ok (by decide +kernel)
set_option maxRecDepth 100000 in
theorem dk_336 : tb_336.all (teK 10 cX10_pays false) = true := qk_ok (by decide +kernel)
set_option maxRecDepth 100000 in
theorem dk_337 : tb_337.all (teK 10 cX10_turning false) = true := qk_ok (by decide +kernel)
set_option maxRecDepth 100000 in
theorem dk_338 : tb_338.all (teK 10 cX10_fitsFile false) = true := qk_ok (by decide +kernel)
set_option maxRecDepth 100000 in
theorem dk_339 : tb_339.all (teK 10 cX10_isFree false) = true := qk_ok (by decide +kernel)
set_option maxRecDepth 100000 in
theorem dk_340 : tb_340.all (teK 10 cX10_clash false) = true := qk_ok (by decide +kernel)
set_option maxRecDepth 100000 in
theorem dk_341 : tb_341.all (teK 10 cX10_meet false) = true := qk_ok (by decide +kernel)
set_option maxRecDepth 100000 in
theorem dk_342 : tb_342.all (teK 10 cX10_rotary false) = true := qk_ok (by decide +kernel)
set_option maxRecDepth 100000 in
theorem dk_343 : tb_343.all (teK 10 cX10_rate false) = true := qk_ok (by decide +kernel)
set_option maxRecDepth 100000 in
theorem dk_344 : tb_344.all (teK 10 cX10_laysRate false) = true := qk_ok (by decide +kernel)
set_option maxRecDepth 100000 in
theorem dk_345 : tb_345.all (teK 10 cX10_ringsFrom false) = true := qk_ok (by decide +kernel)
set_option maxRecDepth 100000 in
theorem dk_346 : tb_346.all (teK 10 cX10_tellsRing false) = true := qk_ok (by decide +kernel)
set_option maxRecDepth 100000 in
theorem dk_347 : tb_347.all (teK 10 cX10_comesRing false) = true := qk_ok (by decide +kernel)
set_option maxRecDepth 100000 in
theorem dk_348 : tb_348.all (teK 10 cX10_critical false) = true := qk_ok (by decide +kernel)
set_option maxRecDepth 100000 in
theorem dk_349 : tb_349.all (teK 10 cX10_fold false) = true := qk_ok (by decide +kernel)
set_option maxRecDepth 100000 in
theorem dk_350 : tb_350.all (teK 10 cX10_foldOf false) = true := qk_ok (by decide +kernel)
set_option maxRecDepth 100000 in
theorem dk_351 : tb_351.all (teK 10 cX10_bestFold false) = true := qk_ok (by decide +kernel)
set_option maxRecDepth 100000 in
theorem dk_352 : tb_352.all (teK 10 cX10_faster false) = true := qk_ok (by decide +kernel)
set_option maxRecDepth 100000 in
theorem dk_353 : tb_353.all (teK 10 cX10_bound false) = true := qk_ok (by decide +kernel)
set_option maxRecDepth 100000 in
theorem dk_354 : tb_354.all (teK 10 cX10_byUnits false) = true := qk_ok (by decide +kernel)
set_option maxRecDepth 100000 in
theorem dk_355 : tb_355.all (teK 10 cX10_without false) = true := qk_ok (by decide +kernel)
set_option maxRecDepth 100000 in
theorem dk_356 : tb_356.all (teK 10 cX10_idle false) = true := qk_ok (by decide +kernel)
set_option maxRecDepth 100000 in
theorem dk_357 : tb_357.all (teK 10 cX10_more false) = true := qk_ok (by decide +kernel)
set_option maxRecDepth 100000 in
theorem dk_358 : tb_358.all (teK 10 cX10_squeeze false) = true := qk_ok (by decide +kernel)
set_option maxRecDepth 100000 in
theorem dk_359 : tb_359.all (teK 10 cX10_bare false) = true := qk_ok (by decide +kernel)
set_option maxRecDepth 100000 in
theorem dk_360 : tb_360.all (teK 10 cX10_laysBare false) = true := qk_ok (by decide +kernel)
set_option maxRecDepth 100000 in
theorem dk_361 : tb_361.all (teK 10 cX10_who false) = true := qk_ok (by decide +kernel)
set_option maxRecDepth 100000 in
theorem dk_362 : tb_362.all (teK 10 cX10_holes false) = true := qk_ok (by decide +kernel)
set_option maxRecDepth 100000 in
theorem dk_363 : tb_363.all (teK 10 cX10_begin false) = true := qk_ok (by decide +kernel)
set_option maxRecDepth 100000 in
theorem dk_364 : tb_364.all (teK 10 cX10_late false) = true := qk_ok (by decide +kernel)
set_option maxRecDepth 100000 in
theorem dk_365 : tb_365.all (teK 10 cX10_thereAt false) = true := qk_ok (by decide +kernel)
set_option maxRecDepth 100000 in
theorem dk_366 : tb_366.all (teK 10 cX10_count false) = true := qk_ok (by decide +kernel)
set_option maxRecDepth 100000 in
theorem dk_367 : tb_367.all (teK 10 cX10_ofNeeds false) = true := qk_ok (by decide +kernel)
