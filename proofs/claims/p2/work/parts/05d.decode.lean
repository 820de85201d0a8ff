set_option maxRecDepth 100000 in
theorem dk_250 : tb_250.all (teK 10 cX10_rowOf false) = true := by decide +kernel
set_option maxRecDepth 100000 in
theorem dk_251 : tb_251.all (teK 10 cX10_placeOf false) = true := by decide +kernel
set_option maxRecDepth 100000 in
theorem dk_252 : tb_252.all (teK 10 cX10_far false) = true := by decide +kernel
set_option maxRecDepth 100000 in
theorem dk_253 : tb_253.all (teK 10 cX10_isStep false) = true := by decide +kernel
set_option maxRecDepth 100000 in
theorem dk_254 : tb_254.all (teK 10 cX10_isLess false) = true := by decide +kernel
set_option maxRecDepth 100000 in
theorem dk_255 : tb_255.all (teK 10 cX10_rounds false) = true := by decide +kernel
set_option maxRecDepth 100000 in
theorem dk_256_0 : tb_256_0.all (teK 10 cX10_laysWays false) = true := by decide +kernel
set_option maxRecDepth 100000 in
theorem dk_256_1 : tb_256_1.all (teK 10 cX10_laysWays false) = true := by decide +kernel
set_option maxRecDepth 100000 in
theorem dk_256_2 : tb_256_2.all (teK 10 cX10_laysWays false) = true := by decide +kernel
set_option maxRecDepth 100000 in
theorem dk_256_3 : tb_256_3.all (teK 10 cX10_laysWays false) = true := by decide +kernel
theorem dk_256 : tb_256.all (teK 10 cX10_laysWays false) = true := all_app dk_256_0 (all_app dk_256_1 (all_app dk_256_2 (dk_256_3)))
set_option maxRecDepth 100000 in
theorem dk_257 : tb_257.all (teK 10 cX10_greater false) = true := by decide +kernel
set_option maxRecDepth 100000 in
theorem dk_258 : tb_258.all (teK 10 cX10_lesser false) = true := by decide +kernel
set_option maxRecDepth 100000 in
theorem dk_259 : tb_259.all (teK 10 cX10_isRound false) = true := by decide +kernel
set_option maxRecDepth 100000 in
theorem dk_260 : tb_260.all (teK 10 cX10_height false) = true := by decide +kernel
set_option maxRecDepth 100000 in
theorem dk_261 : tb_261.all (teK 10 cX10_heightOf false) = true := by decide +kernel
set_option maxRecDepth 100000 in
theorem dk_262 : tb_262.all (teK 10 cX10_uses false) = true := by decide +kernel
set_option maxRecDepth 100000 in
theorem dk_263 : tb_263.all (teK 10 cX10_usesOf false) = true := by decide +kernel
set_option maxRecDepth 100000 in
theorem dk_264 : tb_264.all (teK 10 cX10_unitAt false) = true := by decide +kernel
set_option maxRecDepth 100000 in
theorem dk_265 : tb_265.all (teK 10 cX10_busyAt false) = true := by decide +kernel
set_option maxRecDepth 100000 in
theorem dk_266 : tb_266.all (teK 10 cX10_bits false) = true := by decide +kernel
set_option maxRecDepth 100000 in
theorem dk_267 : tb_267.all (teK 10 cX10_fits false) = true := by decide +kernel
set_option maxRecDepth 100000 in
theorem dk_268 : tb_268.all (teK 10 cX10_fitsBy false) = true := by decide +kernel
set_option maxRecDepth 100000 in
theorem dk_269_0 : tb_269_0.all (teK 10 cX10_findsSlots false) = true := by decide +kernel
set_option maxRecDepth 100000 in
theorem dk_269_1 : tb_269_1.all (teK 10 cX10_findsSlots false) = true := by decide +kernel
set_option maxRecDepth 100000 in
theorem dk_269_2 : tb_269_2.all (teK 10 cX10_findsSlots false) = true := by decide +kernel
theorem dk_269 : tb_269.all (teK 10 cX10_findsSlots false) = true := all_app dk_269_0 (all_app dk_269_1 (dk_269_2))
set_option maxRecDepth 100000 in
theorem dk_270 : tb_270.all (teK 10 cX10_empties false) = true := by decide +kernel
set_option maxRecDepth 100000 in
theorem dk_271 : tb_271.all (teK 10 cX10_puts false) = true := by decide +kernel
set_option maxRecDepth 100000 in
theorem dk_272 : tb_272.all (teK 10 cX10_rest false) = true := by decide +kernel
set_option maxRecDepth 100000 in
theorem dk_273 : tb_273.all (teK 10 cX10_isTooMuch false) = true := by decide +kernel
set_option maxRecDepth 100000 in
theorem dk_274_0 : tb_274_0.all (teK 10 cX10_canBe false) = true := by decide +kernel
set_option maxRecDepth 100000 in
theorem dk_274_1 : tb_274_1.all (teK 10 cX10_canBe false) = true := by decide +kernel
set_option maxRecDepth 100000 in
theorem dk_274_2 : tb_274_2.all (teK 10 cX10_canBe false) = true := by decide +kernel
set_option maxRecDepth 100000 in
theorem dk_274_3 : tb_274_3.all (teK 10 cX10_canBe false) = true := by decide +kernel
theorem dk_274 : tb_274.all (teK 10 cX10_canBe false) = true := all_app dk_274_0 (all_app dk_274_1 (all_app dk_274_2 (dk_274_3)))
set_option maxRecDepth 100000 in
theorem dk_275 : tb_275.all (teK 10 cX10_up false) = true := by decide +kernel
set_option maxRecDepth 100000 in
theorem dk_276_0 : tb_276_0.all (teK 10 cX10_laysTimes false) = true := by decide +kernel
set_option maxRecDepth 100000 in
theorem dk_276_1 : tb_276_1.all (teK 10 cX10_laysTimes false) = true := by decide +kernel
theorem dk_276 : tb_276.all (teK 10 cX10_laysTimes false) = true := all_app dk_276_0 (dk_276_1)
set_option maxRecDepth 100000 in
theorem dk_277 : tb_277.all (teK 10 cX10_least false) = true := by decide +kernel
set_option maxRecDepth 100000 in
theorem dk_278 : tb_278.all (teK 10 cX10_time false) = true := by decide +kernel
set_option maxRecDepth 100000 in
theorem dk_279 : tb_279.all (teK 10 cX10_ring false) = true := by decide +kernel
set_option maxRecDepth 100000 in
theorem dk_280 : tb_280.all (teK 10 cX10_quick false) = true := by decide +kernel
set_option maxRecDepth 100000 in
theorem dk_281 : tb_281.all (teK 10 cX10_isQuick false) = true := by decide +kernel
set_option maxRecDepth 100000 in
theorem dk_282_0 : tb_282_0.all (teK 10 cX10_goesQuick false) = true := by decide +kernel
set_option maxRecDepth 100000 in
theorem dk_282_1 : tb_282_1.all (teK 10 cX10_goesQuick false) = true := by decide +kernel
theorem dk_282 : tb_282.all (teK 10 cX10_goesQuick false) = true := all_app dk_282_0 (dk_282_1)
set_option maxRecDepth 100000 in
theorem dk_283_0 : tb_283_0.all (teK 10 cX10_standsAlone false) = true := by decide +kernel
set_option maxRecDepth 100000 in
theorem dk_283_1 : tb_283_1.all (teK 10 cX10_standsAlone false) = true := by decide +kernel
theorem dk_283 : tb_283.all (teK 10 cX10_standsAlone false) = true := all_app dk_283_0 (dk_283_1)
set_option maxRecDepth 100000 in
theorem dk_284 : tb_284.all (teK 10 cX10_highest false) = true := by decide +kernel
set_option maxRecDepth 100000 in
theorem dk_285_0 : tb_285_0.all (teK 10 cX10_comesQuick false) = true := by decide +kernel
set_option maxRecDepth 100000 in
theorem dk_285_1 : tb_285_1.all (teK 10 cX10_comesQuick false) = true := by decide +kernel
set_option maxRecDepth 100000 in
theorem dk_285_2 : tb_285_2.all (teK 10 cX10_comesQuick false) = true := by decide +kernel
set_option maxRecDepth 100000 in
theorem dk_285_3 : tb_285_3.all (teK 10 cX10_comesQuick false) = true := by decide +kernel
theorem dk_285 : tb_285.all (teK 10 cX10_comesQuick false) = true := all_app dk_285_0 (all_app dk_285_1 (all_app dk_285_2 (dk_285_3)))
set_option maxRecDepth 100000 in
theorem dk_286_0 : tb_286_0.all (teK 10 cX10_early false) = true := by decide +kernel
set_option maxRecDepth 100000 in
theorem dk_286_1 : tb_286_1.all (teK 10 cX10_early false) = true := by decide +kernel
theorem dk_286 : tb_286.all (teK 10 cX10_early false) = true := all_app dk_286_0 (dk_286_1)
set_option maxRecDepth 100000 in
theorem dk_287 : tb_287.all (teK 10 cX10_hasRoom false) = true := by decide +kernel
set_option maxRecDepth 100000 in
theorem dk_288 : tb_288.all (teK 10 cX10_collide false) = true := by decide +kernel
set_option maxRecDepth 100000 in
theorem dk_289 : tb_289.all (teK 10 cX10_usesSlot false) = true := by decide +kernel
set_option maxRecDepth 100000 in
theorem dk_290 : tb_290.all (teK 10 cX10_goes false) = true := by decide +kernel
set_option maxRecDepth 100000 in
theorem dk_291 : tb_291.all (teK 10 cX10_isKept false) = true := by decide +kernel
set_option maxRecDepth 100000 in
theorem dk_292 : tb_292.all (teK 10 cX10_moves false) = true := by decide +kernel
set_option maxRecDepth 100000 in
theorem dk_293 : tb_293.all (teK 10 cX10_quickest false) = true := by decide +kernel
set_option maxRecDepth 100000 in
theorem dk_294_0 : tb_294_0.all (teK 10 cX10_plan false) = true := by decide +kernel
set_option maxRecDepth 100000 in
theorem dk_294_1 : tb_294_1.all (teK 10 cX10_plan false) = true := by decide +kernel
theorem dk_294 : tb_294.all (teK 10 cX10_plan false) = true := all_app dk_294_0 (dk_294_1)
set_option maxRecDepth 100000 in
theorem dk_295 : tb_295.all (teK 10 cX10_pairedOf false) = true := by decide +kernel
set_option maxRecDepth 100000 in
theorem dk_296 : tb_296.all (teK 10 cX10_unroll false) = true := by decide +kernel
set_option maxRecDepth 100000 in
theorem dk_297 : tb_297.all (teK 10 cX10_copiesOf false) = true := by decide +kernel
set_option maxRecDepth 100000 in
theorem dk_298_0 : tb_298_0.all (teK 10 cX10_lifeOf false) = true := by decide +kernel
set_option maxRecDepth 100000 in
theorem dk_298_1 : tb_298_1.all (teK 10 cX10_lifeOf false) = true := by decide +kernel
theorem dk_298 : tb_298.all (teK 10 cX10_lifeOf false) = true := all_app dk_298_0 (dk_298_1)
set_option maxRecDepth 100000 in
theorem dk_299 : tb_299.all (teK 10 cX10_begins false) = true := by decide +kernel
set_option maxRecDepth 100000 in
theorem dk_300 : tb_300.all (teK 10 cX10_span false) = true := by decide +kernel
set_option maxRecDepth 100000 in
theorem dk_301 : tb_301.all (teK 10 cX10_stages false) = true := by decide +kernel
set_option maxRecDepth 100000 in
theorem dk_302 : tb_302.all (teK 10 cX10_names false) = true := by decide +kernel
set_option maxRecDepth 100000 in
theorem dk_303 : tb_303.all (teK 10 cX10_fullest false) = true := by decide +kernel
set_option maxRecDepth 100000 in
theorem dk_304 : tb_304.all (teK 10 cX10_aliveAt false) = true := by decide +kernel
set_option maxRecDepth 100000 in
theorem dk_305_0 : tb_305_0.all (teK 10 cX10_life false) = true := by decide +kernel
set_option maxRecDepth 100000 in
theorem dk_305_1 : tb_305_1.all (teK 10 cX10_life false) = true := by decide +kernel
theorem dk_305 : tb_305.all (teK 10 cX10_life false) = true := all_app dk_305_0 (dk_305_1)
set_option maxRecDepth 100000 in
theorem dk_306_0 : tb_306_0.all (teK 10 cX10_looseOf false) = true := by decide +kernel
set_option maxRecDepth 100000 in
theorem dk_306_1 : tb_306_1.all (teK 10 cX10_looseOf false) = true := by decide +kernel
theorem dk_306 : tb_306.all (teK 10 cX10_looseOf false) = true := all_app dk_306_0 (dk_306_1)
set_option maxRecDepth 100000 in
theorem dk_307 : tb_307.all (teK 10 cX10_alive false) = true := by decide +kernel
set_option maxRecDepth 100000 in
theorem dk_308_0 : tb_308_0.all (teK 10 cX10_flat false) = true := by decide +kernel
set_option maxRecDepth 100000 in
theorem dk_308_1 : tb_308_1.all (teK 10 cX10_flat false) = true := by decide +kernel
theorem dk_308 : tb_308.all (teK 10 cX10_flat false) = true := all_app dk_308_0 (dk_308_1)
set_option maxRecDepth 100000 in
theorem dk_309 : tb_309.all (teK 10 cX10_areTurns false) = true := by decide +kernel
set_option maxRecDepth 100000 in
theorem dk_310_0 : tb_310_0.all (teK 10 cX10_cycles false) = true := by decide +kernel
set_option maxRecDepth 100000 in
theorem dk_310_1 : tb_310_1.all (teK 10 cX10_cycles false) = true := by decide +kernel
theorem dk_310 : tb_310.all (teK 10 cX10_cycles false) = true := all_app dk_310_0 (dk_310_1)
set_option maxRecDepth 100000 in
theorem dk_311 : tb_311.all (teK 10 cX10_wrongFlat false) = true := by decide +kernel
set_option maxRecDepth 100000 in
theorem dk_312 : tb_312.all (teK 10 cX10_headOf false) = true := by decide +kernel
set_option maxRecDepth 100000 in
theorem dk_313 : tb_313.all (teK 10 cX10_cyclesOf false) = true := by decide +kernel
set_option maxRecDepth 100000 in
theorem dk_314 : tb_314.all (teK 10 cX10_ringOf false) = true := by decide +kernel
set_option maxRecDepth 100000 in
theorem dk_315 : tb_315.all (teK 10 cX10_run false) = true := by decide +kernel
set_option maxRecDepth 100000 in
theorem dk_316 : tb_316.all (teK 10 cX10_isCell false) = true := by decide +kernel
set_option maxRecDepth 100000 in
theorem dk_317_0 : tb_317_0.all (teK 10 cX10_runs false) = true := by decide +kernel
set_option maxRecDepth 100000 in
theorem dk_317_1 : tb_317_1.all (teK 10 cX10_runs false) = true := by decide +kernel
set_option maxRecDepth 100000 in
theorem dk_317_2 : tb_317_2.all (teK 10 cX10_runs false) = true := by decide +kernel
theorem dk_317 : tb_317.all (teK 10 cX10_runs false) = true := all_app dk_317_0 (all_app dk_317_1 (dk_317_2))
set_option maxRecDepth 100000 in
theorem dk_318 : tb_318.all (teK 10 cX10_fillsRows false) = true := by decide +kernel
set_option maxRecDepth 100000 in
theorem dk_319 : tb_319.all (teK 10 cX10_turnAt false) = true := by decide +kernel
set_option maxRecDepth 100000 in
theorem dk_320 : tb_320.all (teK 10 cX10_delivers false) = true := by decide +kernel
set_option maxRecDepth 100000 in
theorem dk_321 : tb_321.all (teK 10 cX10_nameOf false) = true := by decide +kernel
set_option maxRecDepth 100000 in
theorem dk_322 : tb_322.all (teK 10 cX10_reckons false) = true := by decide +kernel
set_option maxRecDepth 100000 in
theorem dk_323 : tb_323.all (teK 10 cX10_looksAt false) = true := by decide +kernel
set_option maxRecDepth 100000 in
theorem dk_324 : tb_324.all (teK 10 cX10_does false) = true := by decide +kernel
set_option maxRecDepth 100000 in
theorem dk_325_0 : tb_325_0.all (teK 10 cX10_comes false) = true := by decide +kernel
set_option maxRecDepth 100000 in
theorem dk_325_1 : tb_325_1.all (teK 10 cX10_comes false) = true := by decide +kernel
theorem dk_325 : tb_325.all (teK 10 cX10_comes false) = true := all_app dk_325_0 (dk_325_1)
set_option maxRecDepth 100000 in
theorem dk_326_0 : tb_326_0.all (teK 10 cX10_name false) = true := by decide +kernel
set_option maxRecDepth 100000 in
theorem dk_326_1 : tb_326_1.all (teK 10 cX10_name false) = true := by decide +kernel
set_option maxRecDepth 100000 in
theorem dk_326_2 : tb_326_2.all (teK 10 cX10_name false) = true := by decide +kernel
theorem dk_326 : tb_326.all (teK 10 cX10_name false) = true := all_app dk_326_0 (all_app dk_326_1 (dk_326_2))
set_option maxRecDepth 100000 in
theorem dk_327 : tb_327.all (teK 10 cX10_plain false) = true := by decide +kernel
set_option maxRecDepth 100000 in
theorem dk_328_0 : tb_328_0.all (teK 10 cX10_plainRuns false) = true := by decide +kernel
set_option maxRecDepth 100000 in
theorem dk_328_1 : tb_328_1.all (teK 10 cX10_plainRuns false) = true := by decide +kernel
theorem dk_328 : tb_328.all (teK 10 cX10_plainRuns false) = true := all_app dk_328_0 (dk_328_1)
set_option maxRecDepth 100000 in
theorem dk_329 : tb_329.all (teK 10 cX10_plainOf false) = true := by decide +kernel
set_option maxRecDepth 100000 in
theorem dk_330 : tb_330.all (teK 10 cX10_plainLook false) = true := by decide +kernel
set_option maxRecDepth 100000 in
theorem dk_331_0 : tb_331_0.all (teK 10 cX10_gate false) = true := by decide +kernel
set_option maxRecDepth 100000 in
theorem dk_331_1 : tb_331_1.all (teK 10 cX10_gate false) = true := by decide +kernel
theorem dk_331 : tb_331.all (teK 10 cX10_gate false) = true := all_app dk_331_0 (dk_331_1)
set_option maxRecDepth 100000 in
theorem dk_332 : tb_332.all (teK 10 cX10_code false) = true := by decide +kernel
set_option maxRecDepth 100000 in
theorem dk_333 : tb_333.all (teK 10 cX10_peel false) = true := by decide +kernel
set_option maxRecDepth 100000 in
theorem dk_334 : tb_334.all (teK 10 cX10_peelOf false) = true := by decide +kernel
set_option maxRecDepth 100000 in
theorem dk_335 : tb_335.all (teK 10 cX10_latencies false) = true := by decide +kernel
set_option maxRecDepth 100000 in
theorem dk_336 : tb_336.all (teK 10 cX10_pays false) = true := by decide +kernel
set_option maxRecDepth 100000 in
theorem dk_337 : tb_337.all (teK 10 cX10_turning false) = true := by decide +kernel
set_option maxRecDepth 100000 in
theorem dk_338_0 : tb_338_0.all (teK 10 cX10_fitsFile false) = true := by decide +kernel
set_option maxRecDepth 100000 in
theorem dk_338_1 : tb_338_1.all (teK 10 cX10_fitsFile false) = true := by decide +kernel
theorem dk_338 : tb_338.all (teK 10 cX10_fitsFile false) = true := all_app dk_338_0 (dk_338_1)
set_option maxRecDepth 100000 in
theorem dk_339 : tb_339.all (teK 10 cX10_isFree false) = true := by decide +kernel
set_option maxRecDepth 100000 in
theorem dk_340 : tb_340.all (teK 10 cX10_clash false) = true := by decide +kernel
set_option maxRecDepth 100000 in
theorem dk_341 : tb_341.all (teK 10 cX10_meet false) = true := by decide +kernel
set_option maxRecDepth 100000 in
theorem dk_342 : tb_342.all (teK 10 cX10_rotary false) = true := by decide +kernel
set_option maxRecDepth 100000 in
theorem dk_343 : tb_343.all (teK 10 cX10_rate false) = true := by decide +kernel
set_option maxRecDepth 100000 in
theorem dk_344 : tb_344.all (teK 10 cX10_laysRate false) = true := by decide +kernel
set_option maxRecDepth 100000 in
theorem dk_345_0 : tb_345_0.all (teK 10 cX10_ringsFrom false) = true := by decide +kernel
set_option maxRecDepth 100000 in
theorem dk_345_1 : tb_345_1.all (teK 10 cX10_ringsFrom false) = true := by decide +kernel
set_option maxRecDepth 100000 in
theorem dk_345_2 : tb_345_2.all (teK 10 cX10_ringsFrom false) = true := by decide +kernel
theorem dk_345 : tb_345.all (teK 10 cX10_ringsFrom false) = true := all_app dk_345_0 (all_app dk_345_1 (dk_345_2))
set_option maxRecDepth 100000 in
theorem dk_346_0 : tb_346_0.all (teK 10 cX10_tellsRing false) = true := by decide +kernel
set_option maxRecDepth 100000 in
theorem dk_346_1 : tb_346_1.all (teK 10 cX10_tellsRing false) = true := by decide +kernel
theorem dk_346 : tb_346.all (teK 10 cX10_tellsRing false) = true := all_app dk_346_0 (dk_346_1)
set_option maxRecDepth 100000 in
theorem dk_347_0 : tb_347_0.all (teK 10 cX10_comesRing false) = true := by decide +kernel
set_option maxRecDepth 100000 in
theorem dk_347_1 : tb_347_1.all (teK 10 cX10_comesRing false) = true := by decide +kernel
theorem dk_347 : tb_347.all (teK 10 cX10_comesRing false) = true := all_app dk_347_0 (dk_347_1)
set_option maxRecDepth 100000 in
theorem dk_348 : tb_348.all (teK 10 cX10_critical false) = true := by decide +kernel
set_option maxRecDepth 100000 in
theorem dk_349 : tb_349.all (teK 10 cX10_fold false) = true := by decide +kernel
set_option maxRecDepth 100000 in
theorem dk_350 : tb_350.all (teK 10 cX10_foldOf false) = true := by decide +kernel
set_option maxRecDepth 100000 in
theorem dk_351 : tb_351.all (teK 10 cX10_bestFold false) = true := by decide +kernel
set_option maxRecDepth 100000 in
theorem dk_352 : tb_352.all (teK 10 cX10_faster false) = true := by decide +kernel
set_option maxRecDepth 100000 in
theorem dk_353 : tb_353.all (teK 10 cX10_bound false) = true := by decide +kernel
set_option maxRecDepth 100000 in
theorem dk_354 : tb_354.all (teK 10 cX10_byUnits false) = true := by decide +kernel
set_option maxRecDepth 100000 in
theorem dk_355 : tb_355.all (teK 10 cX10_without false) = true := by decide +kernel
set_option maxRecDepth 100000 in
theorem dk_356 : tb_356.all (teK 10 cX10_idle false) = true := by decide +kernel
set_option maxRecDepth 100000 in
theorem dk_357 : tb_357.all (teK 10 cX10_more false) = true := by decide +kernel
set_option maxRecDepth 100000 in
theorem dk_358 : tb_358.all (teK 10 cX10_squeeze false) = true := by decide +kernel
set_option maxRecDepth 100000 in
theorem dk_359 : tb_359.all (teK 10 cX10_bare false) = true := by decide +kernel
set_option maxRecDepth 100000 in
theorem dk_360_0 : tb_360_0.all (teK 10 cX10_laysBare false) = true := by decide +kernel
set_option maxRecDepth 100000 in
theorem dk_360_1 : tb_360_1.all (teK 10 cX10_laysBare false) = true := by decide +kernel
set_option maxRecDepth 100000 in
theorem dk_360_2 : tb_360_2.all (teK 10 cX10_laysBare false) = true := by decide +kernel
theorem dk_360 : tb_360.all (teK 10 cX10_laysBare false) = true := all_app dk_360_0 (all_app dk_360_1 (dk_360_2))
set_option maxRecDepth 100000 in
theorem dk_361_0 : tb_361_0.all (teK 10 cX10_who false) = true := by decide +kernel
set_option maxRecDepth 100000 in
theorem dk_361_1 : tb_361_1.all (teK 10 cX10_who false) = true := by decide +kernel
set_option maxRecDepth 100000 in
theorem dk_361_2 : tb_361_2.all (teK 10 cX10_who false) = true := by decide +kernel
theorem dk_361 : tb_361.all (teK 10 cX10_who false) = true := all_app dk_361_0 (all_app dk_361_1 (dk_361_2))
set_option maxRecDepth 100000 in
theorem dk_362 : tb_362.all (teK 10 cX10_holes false) = true := by decide +kernel
set_option maxRecDepth 100000 in
theorem dk_363 : tb_363.all (teK 10 cX10_begin false) = true := by decide +kernel
set_option maxRecDepth 100000 in
theorem dk_364_0 : tb_364_0.all (teK 10 cX10_late false) = true := by decide +kernel
set_option maxRecDepth 100000 in
theorem dk_364_1 : tb_364_1.all (teK 10 cX10_late false) = true := by decide +kernel
set_option maxRecDepth 100000 in
theorem dk_364_2 : tb_364_2.all (teK 10 cX10_late false) = true := by decide +kernel
set_option maxRecDepth 100000 in
theorem dk_364_3 : tb_364_3.all (teK 10 cX10_late false) = true := by decide +kernel
theorem dk_364 : tb_364.all (teK 10 cX10_late false) = true := all_app dk_364_0 (all_app dk_364_1 (all_app dk_364_2 (dk_364_3)))
set_option maxRecDepth 100000 in
theorem dk_365 : tb_365.all (teK 10 cX10_thereAt false) = true := by decide +kernel
set_option maxRecDepth 100000 in
theorem dk_366 : tb_366.all (teK 10 cX10_count false) = true := by decide +kernel
set_option maxRecDepth 100000 in
theorem dk_367 : tb_367.all (teK 10 cX10_ofNeeds false) = true := by decide +kernel
