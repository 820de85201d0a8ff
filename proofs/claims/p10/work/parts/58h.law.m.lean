section
/-! laid by wip/hand/lw.py: the cases of the law by pairs -/
theorem te_368_0 : (pT M_368).find? (fun e => e.1 == 0) = some (0, .new 8, 9, 0) := (sk_0 0 rfl).trans rfl
theorem te_368_3 : (pT M_368).find? (fun e => e.1 == 3) = some (3, .dup, 0, 0) := (sk_0 3 rfl).trans rfl
theorem te_368_4 : (pT M_368).find? (fun e => e.1 == 4) = some (4, .invokespecial 170, 0, 4) := (sk_0 4 rfl).trans rfl
theorem te_368_7 : (pT M_368).find? (fun e => e.1 == 7) = some (7, .astore_n 1, 0, 0) := (sk_0 7 rfl).trans rfl
theorem te_368_8 : (pT M_368).find? (fun e => e.1 == 8) = some (8, .new 171, 10, 0) := (sk_0 8 rfl).trans rfl
theorem te_368_11 : (pT M_368).find? (fun e => e.1 == 11) = some (11, .dup, 0, 0) := (sk_0 11 rfl).trans rfl
theorem te_368_12 : (pT M_368).find? (fun e => e.1 == 12) = some (12, .invokespecial 173, 224, 4) := (sk_0 12 rfl).trans rfl
theorem te_368_15 : (pT M_368).find? (fun e => e.1 == 15) = some (15, .astore_n 2, 0, 0) := (sk_0 15 rfl).trans rfl
theorem te_368_16 : (pT M_368).find? (fun e => e.1 == 16) = some (16, .iconst 1, 0, 0) := (sk_0 16 rfl).trans rfl
theorem te_368_17 : (pT M_368).find? (fun e => e.1 == 17) = some (17, .newarray .long, 0, 0) := (sk_0 17 rfl).trans rfl
theorem te_368_19 : (pT M_368).find? (fun e => e.1 == 19) = some (19, .astore_n 3, 0, 0) := (sk_0 19 rfl).trans rfl
theorem te_368_20 : (pT M_368).find? (fun e => e.1 == 20) = some (20, .iconst 0, 0, 0) := (sk_0 20 rfl).trans rfl
theorem te_368_21 : (pT M_368).find? (fun e => e.1 == 21) = some (21, .istore 4, 0, 0) := (sk_1 21 rfl).trans rfl
theorem te_368_23 : (pT M_368).find? (fun e => e.1 == 23) = some (23, .iload 4, 0, 0) := (sk_1 23 rfl).trans rfl
theorem te_368_25 : (pT M_368).find? (fun e => e.1 == 25) = some (25, .aload_n 0, 0, 0) := (sk_1 25 rfl).trans rfl
theorem te_368_26 : (pT M_368).find? (fun e => e.1 == 26) = some (26, .arraylength, 0, 0) := (sk_1 26 rfl).trans rfl
theorem te_368_27 : (pT M_368).find? (fun e => e.1 == 27) = some (27, .bipush 6, 0, 0) := (sk_1 27 rfl).trans rfl
theorem te_368_29 : (pT M_368).find? (fun e => e.1 == 29) = some (29, .isub, 0, 0) := (sk_1 29 rfl).trans rfl
theorem te_368_30 : (pT M_368).find? (fun e => e.1 == 30) = some (30, .if_icmp .gt 2292, 0, 0) := (sk_1 30 rfl).trans rfl
theorem te_368_33 : (pT M_368).find? (fun e => e.1 == 33) = some (33, .aload_n 0, 0, 0) := (sk_1 33 rfl).trans rfl
theorem te_368_34 : (pT M_368).find? (fun e => e.1 == 34) = some (34, .iload 4, 0, 0) := (sk_1 34 rfl).trans rfl
theorem te_368_36 : (pT M_368).find? (fun e => e.1 == 36) = some (36, .iaload, 0, 0) := (sk_1 36 rfl).trans rfl
theorem te_368_37 : (pT M_368).find? (fun e => e.1 == 37) = some (37, .bipush 63, 0, 0) := (sk_1 37 rfl).trans rfl
theorem te_368_39 : (pT M_368).find? (fun e => e.1 == 39) = some (39, .iand, 0, 0) := (sk_1 39 rfl).trans rfl
theorem te_368_40 : (pT M_368).find? (fun e => e.1 == 40) = some (40, .tableswitch 2276 0 48 #[212, 288, 328, 392, 408, 448, 510, 550, 590, 603, 643, 695, 735, 763, 791, 807, 847, 899, 939, 967, 983, 1023, 1075, 1115, 1179, 1231, 1295, 1347, 1399, 1463, 1519, 1587, 1615, 1667, 1743, 1787, 1803, 1831, 1847, 1875, 1903, 1943, 2011, 2063, 2103, 2167, 2195, 2223, 2251], 212, 0) := (sk_2 40 rfl).trans rfl
theorem te_368_252 : (pT M_368).find? (fun e => e.1 == 252) = some (252, .aload_n 1, 0, 0) := (sk_2 252 rfl).trans rfl
theorem te_368_253 : (pT M_368).find? (fun e => e.1 == 253) = some (253, .aload_n 0, 0, 0) := (sk_2 253 rfl).trans rfl
theorem te_368_254 : (pT M_368).find? (fun e => e.1 == 254) = some (254, .iload 4, 0, 0) := (sk_2 254 rfl).trans rfl
theorem te_368_256 : (pT M_368).find? (fun e => e.1 == 256) = some (256, .iconst 1, 0, 0) := (sk_2 256 rfl).trans rfl
theorem te_368_257 : (pT M_368).find? (fun e => e.1 == 257) = some (257, .iadd, 0, 0) := (sk_2 257 rfl).trans rfl
theorem te_368_258 : (pT M_368).find? (fun e => e.1 == 258) = some (258, .iaload, 0, 0) := (sk_2 258 rfl).trans rfl
theorem te_368_259 : (pT M_368).find? (fun e => e.1 == 259) = some (259, .aload_n 0, 0, 0) := (sk_2 259 rfl).trans rfl
theorem te_368_260 : (pT M_368).find? (fun e => e.1 == 260) = some (260, .iload 4, 0, 0) := (sk_2 260 rfl).trans rfl
theorem te_368_262 : (pT M_368).find? (fun e => e.1 == 262) = some (262, .iconst 2, 0, 0) := (sk_2 262 rfl).trans rfl
theorem te_368_263 : (pT M_368).find? (fun e => e.1 == 263) = some (263, .iadd, 0, 0) := (sk_2 263 rfl).trans rfl
theorem te_368_264 : (pT M_368).find? (fun e => e.1 == 264) = some (264, .iaload, 0, 0) := (sk_2 264 rfl).trans rfl
theorem te_368_265 : (pT M_368).find? (fun e => e.1 == 265) = some (265, .aload_n 0, 0, 0) := (sk_3 265 rfl).trans rfl
theorem te_368_266 : (pT M_368).find? (fun e => e.1 == 266) = some (266, .iload 4, 0, 0) := (sk_3 266 rfl).trans rfl
theorem te_368_268 : (pT M_368).find? (fun e => e.1 == 268) = some (268, .iconst 3, 0, 0) := (sk_3 268 rfl).trans rfl
theorem te_368_269 : (pT M_368).find? (fun e => e.1 == 269) = some (269, .iadd, 0, 0) := (sk_3 269 rfl).trans rfl
theorem te_368_270 : (pT M_368).find? (fun e => e.1 == 270) = some (270, .iaload, 0, 0) := (sk_3 270 rfl).trans rfl
theorem te_368_271 : (pT M_368).find? (fun e => e.1 == 271) = some (271, .aload_n 0, 0, 0) := (sk_3 271 rfl).trans rfl
theorem te_368_272 : (pT M_368).find? (fun e => e.1 == 272) = some (272, .iload 4, 0, 0) := (sk_3 272 rfl).trans rfl
theorem te_368_274 : (pT M_368).find? (fun e => e.1 == 274) = some (274, .iconst 4, 0, 0) := (sk_3 274 rfl).trans rfl
theorem te_368_275 : (pT M_368).find? (fun e => e.1 == 275) = some (275, .iadd, 0, 0) := (sk_3 275 rfl).trans rfl
theorem te_368_276 : (pT M_368).find? (fun e => e.1 == 276) = some (276, .iaload, 0, 0) := (sk_3 276 rfl).trans rfl
theorem te_368_277 : (pT M_368).find? (fun e => e.1 == 277) = some (277, .aload_n 0, 0, 0) := (sk_3 277 rfl).trans rfl
theorem te_368_278 : (pT M_368).find? (fun e => e.1 == 278) = some (278, .iload 4, 0, 0) := (sk_3 278 rfl).trans rfl
theorem te_368_280 : (pT M_368).find? (fun e => e.1 == 280) = some (280, .iconst 5, 0, 0) := (sk_4 280 rfl).trans rfl
theorem te_368_281 : (pT M_368).find? (fun e => e.1 == 281) = some (281, .iadd, 0, 0) := (sk_4 281 rfl).trans rfl
theorem te_368_282 : (pT M_368).find? (fun e => e.1 == 282) = some (282, .iaload, 0, 0) := (sk_4 282 rfl).trans rfl
theorem te_368_283 : (pT M_368).find? (fun e => e.1 == 283) = some (283, .aload_n 3, 0, 0) := (sk_4 283 rfl).trans rfl
theorem te_368_284 : (pT M_368).find? (fun e => e.1 == 284) = some (284, .invokestatic 174, 43, 8) := (sk_4 284 rfl).trans rfl
theorem te_368_287 : (pT M_368).find? (fun e => e.1 == 287) = some (287, .istore 5, 0, 0) := (sk_4 287 rfl).trans rfl
theorem te_368_289 : (pT M_368).find? (fun e => e.1 == 289) = some (289, .aload_n 2, 0, 0) := (sk_4 289 rfl).trans rfl
theorem te_368_290 : (pT M_368).find? (fun e => e.1 == 290) = some (290, .aload_n 0, 0, 0) := (sk_4 290 rfl).trans rfl
theorem te_368_291 : (pT M_368).find? (fun e => e.1 == 291) = some (291, .iload 4, 0, 0) := (sk_4 291 rfl).trans rfl
theorem te_368_293 : (pT M_368).find? (fun e => e.1 == 293) = some (293, .iconst 1, 0, 0) := (sk_4 293 rfl).trans rfl
theorem te_368_294 : (pT M_368).find? (fun e => e.1 == 294) = some (294, .iadd, 0, 0) := (sk_4 294 rfl).trans rfl
theorem te_368_295 : (pT M_368).find? (fun e => e.1 == 295) = some (295, .iaload, 0, 0) := (sk_4 295 rfl).trans rfl
theorem te_368_296 : (pT M_368).find? (fun e => e.1 == 296) = some (296, .aload_n 0, 0, 0) := (sk_5 296 rfl).trans rfl
theorem te_368_297 : (pT M_368).find? (fun e => e.1 == 297) = some (297, .iload 4, 0, 0) := (sk_5 297 rfl).trans rfl
theorem te_368_299 : (pT M_368).find? (fun e => e.1 == 299) = some (299, .iconst 2, 0, 0) := (sk_5 299 rfl).trans rfl
theorem te_368_300 : (pT M_368).find? (fun e => e.1 == 300) = some (300, .iadd, 0, 0) := (sk_5 300 rfl).trans rfl
theorem te_368_301 : (pT M_368).find? (fun e => e.1 == 301) = some (301, .iaload, 0, 0) := (sk_5 301 rfl).trans rfl
theorem te_368_302 : (pT M_368).find? (fun e => e.1 == 302) = some (302, .aload_n 0, 0, 0) := (sk_5 302 rfl).trans rfl
theorem te_368_303 : (pT M_368).find? (fun e => e.1 == 303) = some (303, .iload 4, 0, 0) := (sk_5 303 rfl).trans rfl
theorem te_368_305 : (pT M_368).find? (fun e => e.1 == 305) = some (305, .iconst 3, 0, 0) := (sk_5 305 rfl).trans rfl
theorem te_368_306 : (pT M_368).find? (fun e => e.1 == 306) = some (306, .iadd, 0, 0) := (sk_5 306 rfl).trans rfl
theorem te_368_307 : (pT M_368).find? (fun e => e.1 == 307) = some (307, .iaload, 0, 0) := (sk_5 307 rfl).trans rfl
theorem te_368_308 : (pT M_368).find? (fun e => e.1 == 308) = some (308, .aload_n 0, 0, 0) := (sk_5 308 rfl).trans rfl
theorem te_368_309 : (pT M_368).find? (fun e => e.1 == 309) = some (309, .iload 4, 0, 0) := (sk_5 309 rfl).trans rfl
theorem te_368_311 : (pT M_368).find? (fun e => e.1 == 311) = some (311, .iconst 4, 0, 0) := (sk_6 311 rfl).trans rfl
theorem te_368_312 : (pT M_368).find? (fun e => e.1 == 312) = some (312, .iadd, 0, 0) := (sk_6 312 rfl).trans rfl
theorem te_368_313 : (pT M_368).find? (fun e => e.1 == 313) = some (313, .iaload, 0, 0) := (sk_6 313 rfl).trans rfl
theorem te_368_314 : (pT M_368).find? (fun e => e.1 == 314) = some (314, .aload_n 0, 0, 0) := (sk_6 314 rfl).trans rfl
theorem te_368_315 : (pT M_368).find? (fun e => e.1 == 315) = some (315, .iload 4, 0, 0) := (sk_6 315 rfl).trans rfl
theorem te_368_317 : (pT M_368).find? (fun e => e.1 == 317) = some (317, .iconst 5, 0, 0) := (sk_6 317 rfl).trans rfl
theorem te_368_318 : (pT M_368).find? (fun e => e.1 == 318) = some (318, .iadd, 0, 0) := (sk_6 318 rfl).trans rfl
theorem te_368_319 : (pT M_368).find? (fun e => e.1 == 319) = some (319, .iaload, 0, 0) := (sk_6 319 rfl).trans rfl
theorem te_368_320 : (pT M_368).find? (fun e => e.1 == 320) = some (320, .invokevirtual 179, 226, 0) := (sk_6 320 rfl).trans rfl
theorem te_368_323 : (pT M_368).find? (fun e => e.1 == 323) = some (323, .istore 6, 0, 0) := (sk_6 323 rfl).trans rfl
theorem te_368_325 : (pT M_368).find? (fun e => e.1 == 325) = some (325, .goto 1991, 0, 0) := (sk_6 325 rfl).trans rfl
theorem te_368_328 : (pT M_368).find? (fun e => e.1 == 328) = some (328, .aload_n 1, 0, 0) := (sk_6 328 rfl).trans rfl
theorem te_368_329 : (pT M_368).find? (fun e => e.1 == 329) = some (329, .aload_n 0, 0, 0) := (sk_7 329 rfl).trans rfl
theorem te_368_330 : (pT M_368).find? (fun e => e.1 == 330) = some (330, .iload 4, 0, 0) := (sk_7 330 rfl).trans rfl
theorem te_368_332 : (pT M_368).find? (fun e => e.1 == 332) = some (332, .iconst 1, 0, 0) := (sk_7 332 rfl).trans rfl
theorem te_368_333 : (pT M_368).find? (fun e => e.1 == 333) = some (333, .iadd, 0, 0) := (sk_7 333 rfl).trans rfl
theorem te_368_334 : (pT M_368).find? (fun e => e.1 == 334) = some (334, .iaload, 0, 0) := (sk_7 334 rfl).trans rfl
theorem te_368_335 : (pT M_368).find? (fun e => e.1 == 335) = some (335, .aload_n 0, 0, 0) := (sk_7 335 rfl).trans rfl
theorem te_368_336 : (pT M_368).find? (fun e => e.1 == 336) = some (336, .iload 4, 0, 0) := (sk_7 336 rfl).trans rfl
theorem te_368_338 : (pT M_368).find? (fun e => e.1 == 338) = some (338, .iconst 2, 0, 0) := (sk_7 338 rfl).trans rfl
theorem te_368_339 : (pT M_368).find? (fun e => e.1 == 339) = some (339, .iadd, 0, 0) := (sk_7 339 rfl).trans rfl
theorem te_368_340 : (pT M_368).find? (fun e => e.1 == 340) = some (340, .iaload, 0, 0) := (sk_7 340 rfl).trans rfl
theorem te_368_341 : (pT M_368).find? (fun e => e.1 == 341) = some (341, .aload_n 3, 0, 0) := (sk_7 341 rfl).trans rfl
theorem te_368_342 : (pT M_368).find? (fun e => e.1 == 342) = some (342, .invokestatic 180, 48, 8) := (sk_7 342 rfl).trans rfl
theorem te_368_345 : (pT M_368).find? (fun e => e.1 == 345) = some (345, .istore 5, 0, 0) := (sk_8 345 rfl).trans rfl
theorem te_368_347 : (pT M_368).find? (fun e => e.1 == 347) = some (347, .aload_n 2, 0, 0) := (sk_8 347 rfl).trans rfl
theorem te_368_348 : (pT M_368).find? (fun e => e.1 == 348) = some (348, .aload_n 0, 0, 0) := (sk_8 348 rfl).trans rfl
theorem te_368_349 : (pT M_368).find? (fun e => e.1 == 349) = some (349, .iload 4, 0, 0) := (sk_8 349 rfl).trans rfl
theorem te_368_351 : (pT M_368).find? (fun e => e.1 == 351) = some (351, .iconst 1, 0, 0) := (sk_8 351 rfl).trans rfl
theorem te_368_352 : (pT M_368).find? (fun e => e.1 == 352) = some (352, .iadd, 0, 0) := (sk_8 352 rfl).trans rfl
theorem te_368_353 : (pT M_368).find? (fun e => e.1 == 353) = some (353, .iaload, 0, 0) := (sk_8 353 rfl).trans rfl
theorem te_368_354 : (pT M_368).find? (fun e => e.1 == 354) = some (354, .aload_n 0, 0, 0) := (sk_8 354 rfl).trans rfl
theorem te_368_355 : (pT M_368).find? (fun e => e.1 == 355) = some (355, .iload 4, 0, 0) := (sk_8 355 rfl).trans rfl
theorem te_368_357 : (pT M_368).find? (fun e => e.1 == 357) = some (357, .iconst 2, 0, 0) := (sk_8 357 rfl).trans rfl
theorem te_368_358 : (pT M_368).find? (fun e => e.1 == 358) = some (358, .iadd, 0, 0) := (sk_8 358 rfl).trans rfl
theorem te_368_359 : (pT M_368).find? (fun e => e.1 == 359) = some (359, .iaload, 0, 0) := (sk_8 359 rfl).trans rfl
theorem te_368_360 : (pT M_368).find? (fun e => e.1 == 360) = some (360, .invokevirtual 183, 230, 0) := (sk_9 360 rfl).trans rfl
theorem te_368_363 : (pT M_368).find? (fun e => e.1 == 363) = some (363, .istore 6, 0, 0) := (sk_9 363 rfl).trans rfl
theorem te_368_365 : (pT M_368).find? (fun e => e.1 == 365) = some (365, .goto 1951, 0, 0) := (sk_9 365 rfl).trans rfl
theorem te_368_368 : (pT M_368).find? (fun e => e.1 == 368) = some (368, .aload_n 1, 0, 0) := (sk_9 368 rfl).trans rfl
theorem te_368_369 : (pT M_368).find? (fun e => e.1 == 369) = some (369, .aload_n 0, 0, 0) := (sk_9 369 rfl).trans rfl
theorem te_368_370 : (pT M_368).find? (fun e => e.1 == 370) = some (370, .iload 4, 0, 0) := (sk_9 370 rfl).trans rfl
theorem te_368_372 : (pT M_368).find? (fun e => e.1 == 372) = some (372, .iconst 1, 0, 0) := (sk_9 372 rfl).trans rfl
theorem te_368_373 : (pT M_368).find? (fun e => e.1 == 373) = some (373, .iadd, 0, 0) := (sk_9 373 rfl).trans rfl
theorem te_368_374 : (pT M_368).find? (fun e => e.1 == 374) = some (374, .iaload, 0, 0) := (sk_9 374 rfl).trans rfl
theorem te_368_375 : (pT M_368).find? (fun e => e.1 == 375) = some (375, .aload_n 0, 0, 0) := (sk_9 375 rfl).trans rfl
theorem te_368_376 : (pT M_368).find? (fun e => e.1 == 376) = some (376, .iload 4, 0, 0) := (sk_9 376 rfl).trans rfl
theorem te_368_378 : (pT M_368).find? (fun e => e.1 == 378) = some (378, .iconst 2, 0, 0) := (sk_9 378 rfl).trans rfl
theorem te_368_379 : (pT M_368).find? (fun e => e.1 == 379) = some (379, .iadd, 0, 0) := (sk_10 379 rfl).trans rfl
theorem te_368_380 : (pT M_368).find? (fun e => e.1 == 380) = some (380, .iaload, 0, 0) := (sk_10 380 rfl).trans rfl
theorem te_368_381 : (pT M_368).find? (fun e => e.1 == 381) = some (381, .aload_n 0, 0, 0) := (sk_10 381 rfl).trans rfl
theorem te_368_382 : (pT M_368).find? (fun e => e.1 == 382) = some (382, .iload 4, 0, 0) := (sk_10 382 rfl).trans rfl
theorem te_368_384 : (pT M_368).find? (fun e => e.1 == 384) = some (384, .iconst 3, 0, 0) := (sk_10 384 rfl).trans rfl
theorem te_368_385 : (pT M_368).find? (fun e => e.1 == 385) = some (385, .iadd, 0, 0) := (sk_10 385 rfl).trans rfl
theorem te_368_386 : (pT M_368).find? (fun e => e.1 == 386) = some (386, .iaload, 0, 0) := (sk_10 386 rfl).trans rfl
theorem te_368_387 : (pT M_368).find? (fun e => e.1 == 387) = some (387, .aload_n 0, 0, 0) := (sk_10 387 rfl).trans rfl
theorem te_368_388 : (pT M_368).find? (fun e => e.1 == 388) = some (388, .iload 4, 0, 0) := (sk_10 388 rfl).trans rfl
theorem te_368_390 : (pT M_368).find? (fun e => e.1 == 390) = some (390, .iconst 4, 0, 0) := (sk_10 390 rfl).trans rfl
theorem te_368_391 : (pT M_368).find? (fun e => e.1 == 391) = some (391, .iadd, 0, 0) := (sk_10 391 rfl).trans rfl
theorem te_368_392 : (pT M_368).find? (fun e => e.1 == 392) = some (392, .iaload, 0, 0) := (sk_10 392 rfl).trans rfl
theorem te_368_393 : (pT M_368).find? (fun e => e.1 == 393) = some (393, .aload_n 3, 0, 0) := (sk_11 393 rfl).trans rfl
theorem te_368_394 : (pT M_368).find? (fun e => e.1 == 394) = some (394, .invokestatic 184, 51, 8) := (sk_11 394 rfl).trans rfl
theorem te_368_397 : (pT M_368).find? (fun e => e.1 == 397) = some (397, .istore 5, 0, 0) := (sk_11 397 rfl).trans rfl
theorem te_368_399 : (pT M_368).find? (fun e => e.1 == 399) = some (399, .aload_n 2, 0, 0) := (sk_11 399 rfl).trans rfl
theorem te_368_400 : (pT M_368).find? (fun e => e.1 == 400) = some (400, .aload_n 0, 0, 0) := (sk_11 400 rfl).trans rfl
theorem te_368_401 : (pT M_368).find? (fun e => e.1 == 401) = some (401, .iload 4, 0, 0) := (sk_11 401 rfl).trans rfl
theorem te_368_403 : (pT M_368).find? (fun e => e.1 == 403) = some (403, .iconst 1, 0, 0) := (sk_11 403 rfl).trans rfl
theorem te_368_404 : (pT M_368).find? (fun e => e.1 == 404) = some (404, .iadd, 0, 0) := (sk_11 404 rfl).trans rfl
theorem te_368_405 : (pT M_368).find? (fun e => e.1 == 405) = some (405, .iaload, 0, 0) := (sk_11 405 rfl).trans rfl
theorem te_368_406 : (pT M_368).find? (fun e => e.1 == 406) = some (406, .aload_n 0, 0, 0) := (sk_11 406 rfl).trans rfl
theorem te_368_407 : (pT M_368).find? (fun e => e.1 == 407) = some (407, .iload 4, 0, 0) := (sk_11 407 rfl).trans rfl
theorem te_368_409 : (pT M_368).find? (fun e => e.1 == 409) = some (409, .iconst 2, 0, 0) := (sk_11 409 rfl).trans rfl
theorem te_368_410 : (pT M_368).find? (fun e => e.1 == 410) = some (410, .iadd, 0, 0) := (sk_12 410 rfl).trans rfl
theorem te_368_411 : (pT M_368).find? (fun e => e.1 == 411) = some (411, .iaload, 0, 0) := (sk_12 411 rfl).trans rfl
theorem te_368_412 : (pT M_368).find? (fun e => e.1 == 412) = some (412, .aload_n 0, 0, 0) := (sk_12 412 rfl).trans rfl
theorem te_368_413 : (pT M_368).find? (fun e => e.1 == 413) = some (413, .iload 4, 0, 0) := (sk_12 413 rfl).trans rfl
theorem te_368_415 : (pT M_368).find? (fun e => e.1 == 415) = some (415, .iconst 3, 0, 0) := (sk_12 415 rfl).trans rfl
theorem te_368_416 : (pT M_368).find? (fun e => e.1 == 416) = some (416, .iadd, 0, 0) := (sk_12 416 rfl).trans rfl
theorem te_368_417 : (pT M_368).find? (fun e => e.1 == 417) = some (417, .iaload, 0, 0) := (sk_12 417 rfl).trans rfl
theorem te_368_418 : (pT M_368).find? (fun e => e.1 == 418) = some (418, .aload_n 0, 0, 0) := (sk_12 418 rfl).trans rfl
theorem te_368_419 : (pT M_368).find? (fun e => e.1 == 419) = some (419, .iload 4, 0, 0) := (sk_12 419 rfl).trans rfl
theorem te_368_421 : (pT M_368).find? (fun e => e.1 == 421) = some (421, .iconst 4, 0, 0) := (sk_12 421 rfl).trans rfl
theorem te_368_422 : (pT M_368).find? (fun e => e.1 == 422) = some (422, .iadd, 0, 0) := (sk_12 422 rfl).trans rfl
theorem te_368_423 : (pT M_368).find? (fun e => e.1 == 423) = some (423, .iaload, 0, 0) := (sk_12 423 rfl).trans rfl
theorem te_368_424 : (pT M_368).find? (fun e => e.1 == 424) = some (424, .invokevirtual 187, 232, 0) := (sk_13 424 rfl).trans rfl
theorem te_368_427 : (pT M_368).find? (fun e => e.1 == 427) = some (427, .istore 6, 0, 0) := (sk_13 427 rfl).trans rfl
theorem te_368_429 : (pT M_368).find? (fun e => e.1 == 429) = some (429, .goto 1887, 0, 0) := (sk_13 429 rfl).trans rfl
theorem te_368_432 : (pT M_368).find? (fun e => e.1 == 432) = some (432, .aload_n 1, 0, 0) := (sk_13 432 rfl).trans rfl
theorem te_368_433 : (pT M_368).find? (fun e => e.1 == 433) = some (433, .aload_n 3, 0, 0) := (sk_13 433 rfl).trans rfl
theorem te_368_434 : (pT M_368).find? (fun e => e.1 == 434) = some (434, .invokestatic 188, 53, 8) := (sk_13 434 rfl).trans rfl
theorem te_368_437 : (pT M_368).find? (fun e => e.1 == 437) = some (437, .istore 5, 0, 0) := (sk_13 437 rfl).trans rfl
theorem te_368_439 : (pT M_368).find? (fun e => e.1 == 439) = some (439, .aload_n 2, 0, 0) := (sk_13 439 rfl).trans rfl
theorem te_368_440 : (pT M_368).find? (fun e => e.1 == 440) = some (440, .invokevirtual 191, 233, 0) := (sk_13 440 rfl).trans rfl
theorem te_368_443 : (pT M_368).find? (fun e => e.1 == 443) = some (443, .istore 6, 0, 0) := (sk_13 443 rfl).trans rfl
theorem te_368_445 : (pT M_368).find? (fun e => e.1 == 445) = some (445, .goto 1871, 0, 0) := (sk_13 445 rfl).trans rfl
theorem te_368_448 : (pT M_368).find? (fun e => e.1 == 448) = some (448, .aload_n 1, 0, 0) := (sk_13 448 rfl).trans rfl
theorem te_368_449 : (pT M_368).find? (fun e => e.1 == 449) = some (449, .aload_n 0, 0, 0) := (sk_14 449 rfl).trans rfl
theorem te_368_450 : (pT M_368).find? (fun e => e.1 == 450) = some (450, .iload 4, 0, 0) := (sk_14 450 rfl).trans rfl
theorem te_368_452 : (pT M_368).find? (fun e => e.1 == 452) = some (452, .iconst 1, 0, 0) := (sk_14 452 rfl).trans rfl
theorem te_368_453 : (pT M_368).find? (fun e => e.1 == 453) = some (453, .iadd, 0, 0) := (sk_14 453 rfl).trans rfl
theorem te_368_454 : (pT M_368).find? (fun e => e.1 == 454) = some (454, .iaload, 0, 0) := (sk_14 454 rfl).trans rfl
theorem te_368_455 : (pT M_368).find? (fun e => e.1 == 455) = some (455, .aload_n 0, 0, 0) := (sk_14 455 rfl).trans rfl
theorem te_368_456 : (pT M_368).find? (fun e => e.1 == 456) = some (456, .iload 4, 0, 0) := (sk_14 456 rfl).trans rfl
theorem te_368_458 : (pT M_368).find? (fun e => e.1 == 458) = some (458, .iconst 2, 0, 0) := (sk_14 458 rfl).trans rfl
theorem te_368_459 : (pT M_368).find? (fun e => e.1 == 459) = some (459, .iadd, 0, 0) := (sk_14 459 rfl).trans rfl
theorem te_368_460 : (pT M_368).find? (fun e => e.1 == 460) = some (460, .iaload, 0, 0) := (sk_14 460 rfl).trans rfl
theorem te_368_461 : (pT M_368).find? (fun e => e.1 == 461) = some (461, .aload_n 3, 0, 0) := (sk_14 461 rfl).trans rfl
theorem te_368_462 : (pT M_368).find? (fun e => e.1 == 462) = some (462, .invokestatic 192, 55, 8) := (sk_14 462 rfl).trans rfl
theorem te_368_465 : (pT M_368).find? (fun e => e.1 == 465) = some (465, .istore 5, 0, 0) := (sk_15 465 rfl).trans rfl
theorem te_368_467 : (pT M_368).find? (fun e => e.1 == 467) = some (467, .aload_n 2, 0, 0) := (sk_15 467 rfl).trans rfl
theorem te_368_468 : (pT M_368).find? (fun e => e.1 == 468) = some (468, .aload_n 0, 0, 0) := (sk_15 468 rfl).trans rfl
theorem te_368_469 : (pT M_368).find? (fun e => e.1 == 469) = some (469, .iload 4, 0, 0) := (sk_15 469 rfl).trans rfl
theorem te_368_471 : (pT M_368).find? (fun e => e.1 == 471) = some (471, .iconst 1, 0, 0) := (sk_15 471 rfl).trans rfl
theorem te_368_472 : (pT M_368).find? (fun e => e.1 == 472) = some (472, .iadd, 0, 0) := (sk_15 472 rfl).trans rfl
theorem te_368_473 : (pT M_368).find? (fun e => e.1 == 473) = some (473, .iaload, 0, 0) := (sk_15 473 rfl).trans rfl
theorem te_368_474 : (pT M_368).find? (fun e => e.1 == 474) = some (474, .aload_n 0, 0, 0) := (sk_15 474 rfl).trans rfl
theorem te_368_475 : (pT M_368).find? (fun e => e.1 == 475) = some (475, .iload 4, 0, 0) := (sk_15 475 rfl).trans rfl
theorem te_368_477 : (pT M_368).find? (fun e => e.1 == 477) = some (477, .iconst 2, 0, 0) := (sk_15 477 rfl).trans rfl
theorem te_368_478 : (pT M_368).find? (fun e => e.1 == 478) = some (478, .iadd, 0, 0) := (sk_15 478 rfl).trans rfl
theorem te_368_479 : (pT M_368).find? (fun e => e.1 == 479) = some (479, .iaload, 0, 0) := (sk_15 479 rfl).trans rfl
theorem te_368_480 : (pT M_368).find? (fun e => e.1 == 480) = some (480, .invokevirtual 194, 234, 0) := (sk_16 480 rfl).trans rfl
theorem te_368_483 : (pT M_368).find? (fun e => e.1 == 483) = some (483, .istore 6, 0, 0) := (sk_16 483 rfl).trans rfl
theorem te_368_485 : (pT M_368).find? (fun e => e.1 == 485) = some (485, .goto 1831, 0, 0) := (sk_16 485 rfl).trans rfl
theorem te_368_488 : (pT M_368).find? (fun e => e.1 == 488) = some (488, .aload_n 1, 0, 0) := (sk_16 488 rfl).trans rfl
theorem te_368_489 : (pT M_368).find? (fun e => e.1 == 489) = some (489, .aload_n 0, 0, 0) := (sk_16 489 rfl).trans rfl
theorem te_368_490 : (pT M_368).find? (fun e => e.1 == 490) = some (490, .iload 4, 0, 0) := (sk_16 490 rfl).trans rfl
theorem te_368_492 : (pT M_368).find? (fun e => e.1 == 492) = some (492, .iconst 1, 0, 0) := (sk_16 492 rfl).trans rfl
theorem te_368_493 : (pT M_368).find? (fun e => e.1 == 493) = some (493, .iadd, 0, 0) := (sk_16 493 rfl).trans rfl
theorem te_368_494 : (pT M_368).find? (fun e => e.1 == 494) = some (494, .iaload, 0, 0) := (sk_16 494 rfl).trans rfl
theorem te_368_495 : (pT M_368).find? (fun e => e.1 == 495) = some (495, .aload_n 0, 0, 0) := (sk_16 495 rfl).trans rfl
theorem te_368_496 : (pT M_368).find? (fun e => e.1 == 496) = some (496, .iload 4, 0, 0) := (sk_16 496 rfl).trans rfl
theorem te_368_498 : (pT M_368).find? (fun e => e.1 == 498) = some (498, .iconst 2, 0, 0) := (sk_16 498 rfl).trans rfl
theorem te_368_499 : (pT M_368).find? (fun e => e.1 == 499) = some (499, .iadd, 0, 0) := (sk_17 499 rfl).trans rfl
theorem te_368_500 : (pT M_368).find? (fun e => e.1 == 500) = some (500, .iaload, 0, 0) := (sk_17 500 rfl).trans rfl
theorem te_368_501 : (pT M_368).find? (fun e => e.1 == 501) = some (501, .aload_n 0, 0, 0) := (sk_17 501 rfl).trans rfl
theorem te_368_502 : (pT M_368).find? (fun e => e.1 == 502) = some (502, .iload 4, 0, 0) := (sk_17 502 rfl).trans rfl
theorem te_368_504 : (pT M_368).find? (fun e => e.1 == 504) = some (504, .iconst 3, 0, 0) := (sk_17 504 rfl).trans rfl
theorem te_368_505 : (pT M_368).find? (fun e => e.1 == 505) = some (505, .iadd, 0, 0) := (sk_17 505 rfl).trans rfl
theorem te_368_506 : (pT M_368).find? (fun e => e.1 == 506) = some (506, .iaload, 0, 0) := (sk_17 506 rfl).trans rfl
theorem te_368_507 : (pT M_368).find? (fun e => e.1 == 507) = some (507, .aload_n 0, 0, 0) := (sk_17 507 rfl).trans rfl
theorem te_368_508 : (pT M_368).find? (fun e => e.1 == 508) = some (508, .iload 4, 0, 0) := (sk_17 508 rfl).trans rfl
theorem te_368_510 : (pT M_368).find? (fun e => e.1 == 510) = some (510, .iconst 4, 0, 0) := (sk_17 510 rfl).trans rfl
theorem te_368_511 : (pT M_368).find? (fun e => e.1 == 511) = some (511, .iadd, 0, 0) := (sk_17 511 rfl).trans rfl
theorem te_368_512 : (pT M_368).find? (fun e => e.1 == 512) = some (512, .iaload, 0, 0) := (sk_17 512 rfl).trans rfl
theorem te_368_513 : (pT M_368).find? (fun e => e.1 == 513) = some (513, .invokestatic 195, 58, 8) := (sk_18 513 rfl).trans rfl
theorem te_368_516 : (pT M_368).find? (fun e => e.1 == 516) = some (516, .istore 5, 0, 0) := (sk_18 516 rfl).trans rfl
theorem te_368_518 : (pT M_368).find? (fun e => e.1 == 518) = some (518, .aload_n 2, 0, 0) := (sk_18 518 rfl).trans rfl
theorem te_368_519 : (pT M_368).find? (fun e => e.1 == 519) = some (519, .aload_n 0, 0, 0) := (sk_18 519 rfl).trans rfl
theorem te_368_520 : (pT M_368).find? (fun e => e.1 == 520) = some (520, .iload 4, 0, 0) := (sk_18 520 rfl).trans rfl
theorem te_368_522 : (pT M_368).find? (fun e => e.1 == 522) = some (522, .iconst 1, 0, 0) := (sk_18 522 rfl).trans rfl
theorem te_368_523 : (pT M_368).find? (fun e => e.1 == 523) = some (523, .iadd, 0, 0) := (sk_18 523 rfl).trans rfl
theorem te_368_524 : (pT M_368).find? (fun e => e.1 == 524) = some (524, .iaload, 0, 0) := (sk_18 524 rfl).trans rfl
theorem te_368_525 : (pT M_368).find? (fun e => e.1 == 525) = some (525, .aload_n 0, 0, 0) := (sk_18 525 rfl).trans rfl
theorem te_368_526 : (pT M_368).find? (fun e => e.1 == 526) = some (526, .iload 4, 0, 0) := (sk_18 526 rfl).trans rfl
theorem te_368_528 : (pT M_368).find? (fun e => e.1 == 528) = some (528, .iconst 2, 0, 0) := (sk_18 528 rfl).trans rfl
theorem te_368_529 : (pT M_368).find? (fun e => e.1 == 529) = some (529, .iadd, 0, 0) := (sk_18 529 rfl).trans rfl
theorem te_368_530 : (pT M_368).find? (fun e => e.1 == 530) = some (530, .iaload, 0, 0) := (sk_19 530 rfl).trans rfl
theorem te_368_531 : (pT M_368).find? (fun e => e.1 == 531) = some (531, .aload_n 0, 0, 0) := (sk_19 531 rfl).trans rfl
theorem te_368_532 : (pT M_368).find? (fun e => e.1 == 532) = some (532, .iload 4, 0, 0) := (sk_19 532 rfl).trans rfl
theorem te_368_534 : (pT M_368).find? (fun e => e.1 == 534) = some (534, .iconst 3, 0, 0) := (sk_19 534 rfl).trans rfl
theorem te_368_535 : (pT M_368).find? (fun e => e.1 == 535) = some (535, .iadd, 0, 0) := (sk_19 535 rfl).trans rfl
theorem te_368_536 : (pT M_368).find? (fun e => e.1 == 536) = some (536, .iaload, 0, 0) := (sk_19 536 rfl).trans rfl
theorem te_368_537 : (pT M_368).find? (fun e => e.1 == 537) = some (537, .aload_n 0, 0, 0) := (sk_19 537 rfl).trans rfl
theorem te_368_538 : (pT M_368).find? (fun e => e.1 == 538) = some (538, .iload 4, 0, 0) := (sk_19 538 rfl).trans rfl
theorem te_368_540 : (pT M_368).find? (fun e => e.1 == 540) = some (540, .iconst 4, 0, 0) := (sk_19 540 rfl).trans rfl
theorem te_368_541 : (pT M_368).find? (fun e => e.1 == 541) = some (541, .iadd, 0, 0) := (sk_19 541 rfl).trans rfl
theorem te_368_542 : (pT M_368).find? (fun e => e.1 == 542) = some (542, .iaload, 0, 0) := (sk_19 542 rfl).trans rfl
theorem te_368_543 : (pT M_368).find? (fun e => e.1 == 543) = some (543, .invokevirtual 198, 236, 0) := (sk_19 543 rfl).trans rfl
theorem te_368_546 : (pT M_368).find? (fun e => e.1 == 546) = some (546, .pop, 0, 0) := (sk_20 546 rfl).trans rfl
theorem te_368_547 : (pT M_368).find? (fun e => e.1 == 547) = some (547, .goto 1769, 0, 0) := (sk_20 547 rfl).trans rfl
theorem te_368_550 : (pT M_368).find? (fun e => e.1 == 550) = some (550, .aload_n 1, 0, 0) := (sk_20 550 rfl).trans rfl
theorem te_368_551 : (pT M_368).find? (fun e => e.1 == 551) = some (551, .aload_n 0, 0, 0) := (sk_20 551 rfl).trans rfl
theorem te_368_552 : (pT M_368).find? (fun e => e.1 == 552) = some (552, .iload 4, 0, 0) := (sk_20 552 rfl).trans rfl
theorem te_368_554 : (pT M_368).find? (fun e => e.1 == 554) = some (554, .iconst 1, 0, 0) := (sk_20 554 rfl).trans rfl
theorem te_368_555 : (pT M_368).find? (fun e => e.1 == 555) = some (555, .iadd, 0, 0) := (sk_20 555 rfl).trans rfl
theorem te_368_556 : (pT M_368).find? (fun e => e.1 == 556) = some (556, .iaload, 0, 0) := (sk_20 556 rfl).trans rfl
theorem te_368_557 : (pT M_368).find? (fun e => e.1 == 557) = some (557, .aload_n 0, 0, 0) := (sk_20 557 rfl).trans rfl
theorem te_368_558 : (pT M_368).find? (fun e => e.1 == 558) = some (558, .iload 4, 0, 0) := (sk_20 558 rfl).trans rfl
theorem te_368_560 : (pT M_368).find? (fun e => e.1 == 560) = some (560, .iconst 2, 0, 0) := (sk_20 560 rfl).trans rfl
theorem te_368_561 : (pT M_368).find? (fun e => e.1 == 561) = some (561, .iadd, 0, 0) := (sk_20 561 rfl).trans rfl
theorem te_368_562 : (pT M_368).find? (fun e => e.1 == 562) = some (562, .iaload, 0, 0) := (sk_21 562 rfl).trans rfl
theorem te_368_563 : (pT M_368).find? (fun e => e.1 == 563) = some (563, .aload_n 3, 0, 0) := (sk_21 563 rfl).trans rfl
theorem te_368_564 : (pT M_368).find? (fun e => e.1 == 564) = some (564, .invokestatic 200, 61, 8) := (sk_21 564 rfl).trans rfl
theorem te_368_567 : (pT M_368).find? (fun e => e.1 == 567) = some (567, .istore 5, 0, 0) := (sk_21 567 rfl).trans rfl
theorem te_368_569 : (pT M_368).find? (fun e => e.1 == 569) = some (569, .aload_n 2, 0, 0) := (sk_21 569 rfl).trans rfl
theorem te_368_570 : (pT M_368).find? (fun e => e.1 == 570) = some (570, .aload_n 0, 0, 0) := (sk_21 570 rfl).trans rfl
theorem te_368_571 : (pT M_368).find? (fun e => e.1 == 571) = some (571, .iload 4, 0, 0) := (sk_21 571 rfl).trans rfl
theorem te_368_573 : (pT M_368).find? (fun e => e.1 == 573) = some (573, .iconst 1, 0, 0) := (sk_21 573 rfl).trans rfl
theorem te_368_574 : (pT M_368).find? (fun e => e.1 == 574) = some (574, .iadd, 0, 0) := (sk_21 574 rfl).trans rfl
theorem te_368_575 : (pT M_368).find? (fun e => e.1 == 575) = some (575, .iaload, 0, 0) := (sk_21 575 rfl).trans rfl
theorem te_368_576 : (pT M_368).find? (fun e => e.1 == 576) = some (576, .aload_n 0, 0, 0) := (sk_21 576 rfl).trans rfl
theorem te_368_577 : (pT M_368).find? (fun e => e.1 == 577) = some (577, .iload 4, 0, 0) := (sk_21 577 rfl).trans rfl
theorem te_368_579 : (pT M_368).find? (fun e => e.1 == 579) = some (579, .iconst 2, 0, 0) := (sk_22 579 rfl).trans rfl
theorem te_368_580 : (pT M_368).find? (fun e => e.1 == 580) = some (580, .iadd, 0, 0) := (sk_22 580 rfl).trans rfl
theorem te_368_581 : (pT M_368).find? (fun e => e.1 == 581) = some (581, .iaload, 0, 0) := (sk_22 581 rfl).trans rfl
theorem te_368_582 : (pT M_368).find? (fun e => e.1 == 582) = some (582, .invokevirtual 202, 237, 0) := (sk_22 582 rfl).trans rfl
theorem te_368_585 : (pT M_368).find? (fun e => e.1 == 585) = some (585, .istore 6, 0, 0) := (sk_22 585 rfl).trans rfl
theorem te_368_587 : (pT M_368).find? (fun e => e.1 == 587) = some (587, .goto 1729, 0, 0) := (sk_22 587 rfl).trans rfl
theorem te_368_630 : (pT M_368).find? (fun e => e.1 == 630) = some (630, .aload_n 1, 0, 0) := (sk_24 630 rfl).trans rfl
theorem te_368_631 : (pT M_368).find? (fun e => e.1 == 631) = some (631, .invokevirtual 206, 10, 0) := (sk_24 631 rfl).trans rfl
theorem te_368_634 : (pT M_368).find? (fun e => e.1 == 634) = some (634, .aload_n 2, 0, 0) := (sk_25 634 rfl).trans rfl
theorem te_368_635 : (pT M_368).find? (fun e => e.1 == 635) = some (635, .invokevirtual 210, 239, 0) := (sk_25 635 rfl).trans rfl
theorem te_368_638 : (pT M_368).find? (fun e => e.1 == 638) = some (638, .if_icmp .eq 1678, 0, 0) := (sk_25 638 rfl).trans rfl
theorem te_368_2316 : (pT M_368).find? (fun e => e.1 == 2316) = some (2316, .iinc 4 6, 0, 0) := (sk_122 2316 rfl).trans rfl
theorem te_368_2319 : (pT M_368).find? (fun e => e.1 == 2319) = some (2319, .goto (-2296), 0, 0) := (sk_122 2319 rfl).trans rfl
theorem te_368_2322 : (pT M_368).find? (fun e => e.1 == 2322) = some (2322, .iconst 1, 0, 0) := (sk_122 2322 rfl).trans rfl
theorem te_368_2323 : (pT M_368).find? (fun e => e.1 == 2323) = some (2323, .ireturn, 0, 0) := (sk_122 2323 rfl).trans rfl
theorem lc_0 {S : Nat × (Nat → Int32)} {lv : LV} {h : PH} {c s : Nat} {i : Int32} (hS : S.1 ≤ 3072) (hl : LwS lv i) (hi : 0 ≤ i.toInt ∧ i.toInt + 5 < S.1) (hL : LR h) (hc : c + 8 ≤ 601024) (hs : s + 48 ≤ 7293033) (Nx : ∀ lv' h' c' s', LwS lv' i → LR h' → c' ≤ c + 8 → s' ≤ s + 48 → Vx (Ex S 24) S M_368 [] Q1 2316 lv' [] h' c' s') : Vx (Ex S 24) S M_368 [] Q1 252 lv [] h c s := by
  have hC := Ex.mono S 24
  obtain ⟨m, g, hM, hcl, hr, hb⟩ := hL
  refine Vx.go hC te_368_252 ⟨_, hl.2.1, ⟨0, Or.inl rfl⟩, ?_⟩
  refine sc_load hC (k := 1) hl te_368_253 te_368_254 te_368_256 te_368_257 te_368_258 (sc_in hS hi (by decide)) ?_
  refine sc_load hC (k := 2) hl te_368_259 te_368_260 te_368_262 te_368_263 te_368_264 (sc_in hS hi (by decide)) ?_
  refine sc_load hC (k := 3) hl te_368_265 te_368_266 te_368_268 te_368_269 te_368_270 (sc_in hS hi (by decide)) ?_
  refine sc_load hC (k := 4) hl te_368_271 te_368_272 te_368_274 te_368_275 te_368_276 (sc_in hS hi (by decide)) ?_
  refine sc_load hC (k := 5) hl te_368_277 te_368_278 te_368_280 te_368_281 te_368_282 (sc_in hS hi (by decide)) ?_
  refine Vx.go hC te_368_283 ⟨_, hl.2.2.2.1, ⟨173, Or.inl rfl⟩, ?_⟩
  refine Vx.go hC te_368_284 ?_
  refine Or.inr ⟨by decide, ?_⟩
  refine p_call_mk (av := [.ref 0, .int (S.2 (i + Int32.ofInt 1).toNatClampNeg), .int (S.2 (i + Int32.ofInt 2).toNatClampNeg), .int (S.2 (i + Int32.ofInt 3).toNatClampNeg), .int (S.2 (i + Int32.ofInt 4).toNatClampNeg), .int (S.2 (i + Int32.ofInt 5).toNatClampNeg), .ref 173]) (rest := []) mt_43 rfl (by decide) (show c + 2 ≤ 601024 by omega) (show s + 12 ≤ 7293033 by omega) (fun q => by cases q) ?_
  have HH : ∀ (t y : Int) (h1 : PH) (m1 : MM) (g1 : Nat → Int64), LM h1 m1 g1 → Hf0 (S.2 (i + Int32.ofInt 1).toNatClampNeg).toInt (S.2 (i + Int32.ofInt 2).toNatClampNeg).toInt (S.2 (i + Int32.ofInt 3).toNatClampNeg).toInt (S.2 (i + Int32.ofInt 4).toNatClampNeg).toInt (S.2 (i + Int32.ofInt 5).toNatClampNeg).toInt t y m1 → 0 ≤ t ∧ t ≤ 4 → (t = 0 → InI y ∧ g1 0 = ((Int32.ofInt y).toInt64)) → Vx (Ex S 24) S M_368 [] Q1 287 lv [.int (Int32.ofInt t)] h1 (c + 2) (s + 12) := by
    intro t y h1 m1 g1 hM1 hF ht hg
    refine Vx.go hC te_368_287 ⟨by decide, ?_⟩
    have hl2 := LwS.st (j := 5) (v := .int (Int32.ofInt t)) (by omega) hl
    show Vx (Ex S 24) S M_368 [] Q1 289 (px_s1 lv 5 (.int (Int32.ofInt t))) [] h1 (c + 2) (s + 12)
    refine Vx.go hC te_368_289 ⟨_, hl2.2.2.1, ⟨143, Or.inl rfl⟩, ?_⟩
    refine sc_load hC (k := 1) hl2 te_368_290 te_368_291 te_368_293 te_368_294 te_368_295 (sc_in hS hi (by decide)) ?_
    refine sc_load hC (k := 2) hl2 te_368_296 te_368_297 te_368_299 te_368_300 te_368_301 (sc_in hS hi (by decide)) ?_
    refine sc_load hC (k := 3) hl2 te_368_302 te_368_303 te_368_305 te_368_306 te_368_307 (sc_in hS hi (by decide)) ?_
    refine sc_load hC (k := 4) hl2 te_368_308 te_368_309 te_368_311 te_368_312 te_368_313 (sc_in hS hi (by decide)) ?_
    refine sc_load hC (k := 5) hl2 te_368_314 te_368_315 te_368_317 te_368_318 te_368_319 (sc_in hS hi (by decide)) ?_
    refine Vx.go hC te_368_320 ?_
    obtain ⟨gs, hgs⟩ := hM1.obj (A := 143) rfl
    refine p_call_mk (av := [.ref 143, .int (S.2 (i + Int32.ofInt 1).toNatClampNeg), .int (S.2 (i + Int32.ofInt 2).toNatClampNeg), .int (S.2 (i + Int32.ofInt 3).toNatClampNeg), .int (S.2 (i + Int32.ofInt 4).toNatClampNeg), .int (S.2 (i + Int32.ofInt 5).toNatClampNeg)]) (rest := []) mt_226 rfl (by decide) (show c + 2 + 0 ≤ 601024 by omega) (show s + 12 + 0 ≤ 7293033 by omega) (fun _ => ⟨143, gs, rfl, hgs⟩) ?_
    have hcall := callQM (S := S) (n := 24) (μ := 226) (args := [.inr 143, .inl ((S.2 (i + Int32.ofInt 1).toNatClampNeg) : Int32).toInt, .inl ((S.2 (i + Int32.ofInt 2).toNatClampNeg) : Int32).toInt, .inl ((S.2 (i + Int32.ofInt 3).toNatClampNeg) : Int32).toInt, .inl ((S.2 (i + Int32.ofInt 4).toNatClampNeg) : Int32).toInt, .inl ((S.2 (i + Int32.ofInt 5).toNatClampNeg) : Int32).toInt]) (fun v hv => by simp only [List.mem_cons, List.not_mem_nil, or_false] at hv; rcases hv with rfl | rfl | rfl | rfl | rfl | rfl <;> first | trivial | exact wiI _) hM1 (rf0 hF)
    simp only [List.map_cons, List.map_nil, wv, Int32.ofInt_toInt] at hcall
    refine hC _ _ _ _ _ ?_ hcall
    intro r0 h2 hz
    refine hz.elim ?_ (fun ⟨_, _, _, _, hE⟩ => False.elim hE)
    rintro ⟨y2, m2, rfl, hy2, hM2, hc2, hr2, hb2, e2, er⟩
    show Vx (Ex S 24) S M_368 [] Q1 323 (px_s1 lv 5 (.int (Int32.ofInt t))) [.int (Int32.ofInt y2)] h2 (c + 2) (s + 12)
    refine Vx.go hC te_368_323 ⟨by decide, ?_⟩
    have hl3 := LwS.st (j := 6) (v := .int (Int32.ofInt y2)) (by omega) hl2
    show Vx (Ex S 24) S M_368 [] Q1 325 (px_s1 (px_s1 lv 5 (.int (Int32.ofInt t))) 6 (.int (Int32.ofInt y2))) [] h2 (c + 2) (s + 12)
    refine Vx.go hC te_368_325 ⟨by decide, ?_⟩
    exact Nx _ _ _ _ hl3 ⟨m2, g1, hM2, hc2, hr2, hb2⟩ (by omega) (by omega)
  refine gx_43 (n := 6) (K := fun y m' => Hf0 (S.2 (i + Int32.ofInt 1).toNatClampNeg).toInt (S.2 (i + Int32.ofInt 2).toNatClampNeg).toInt (S.2 (i + Int32.ofInt 3).toNatClampNeg).toInt (S.2 (i + Int32.ofInt 4).toNatClampNeg).toInt (S.2 (i + Int32.ofInt 5).toNatClampNeg).toInt 0 y m') (E := fun e m' => (e = 0 ∧ Hf0 (S.2 (i + Int32.ofInt 1).toNatClampNeg).toInt (S.2 (i + Int32.ofInt 2).toNatClampNeg).toInt (S.2 (i + Int32.ofInt 3).toNatClampNeg).toInt (S.2 (i + Int32.ofInt 4).toNatClampNeg).toInt (S.2 (i + Int32.ofInt 5).toNatClampNeg).toInt 1 0 m') ∨ (e = 1 ∧ Hf0 (S.2 (i + Int32.ofInt 1).toNatClampNeg).toInt (S.2 (i + Int32.ofInt 2).toNatClampNeg).toInt (S.2 (i + Int32.ofInt 3).toNatClampNeg).toInt (S.2 (i + Int32.ofInt 4).toNatClampNeg).toInt (S.2 (i + Int32.ofInt 5).toNatClampNeg).toInt 2 0 m')) hM (cl0 hcl hr hb) (fun y h' m' g' hy hL' eg hK => HH 0 y h' m' g' hL' hK (by omega) (fun _ => ⟨hy, eg⟩)) (fun e h' m' hL' hE => ?_)
  rcases hE with ⟨rfl, hE⟩ | ⟨rfl, hE⟩
  · exact Or.inl (⟨rfl, HH 1 0 h' m' g hL' hE (by omega) (fun z => by omega)⟩)
  · exact Or.inr (⟨rfl, HH 2 0 h' m' g hL' hE (by omega) (fun z => by omega)⟩)
theorem lc_1 {S : Nat × (Nat → Int32)} {lv : LV} {h : PH} {c s : Nat} {i : Int32} (hS : S.1 ≤ 3072) (hl : LwS lv i) (hi : 0 ≤ i.toInt ∧ i.toInt + 5 < S.1) (hL : LR h) (hc : c + 8 ≤ 601024) (hs : s + 48 ≤ 7293033) (Nx : ∀ lv' h' c' s', LwS lv' i → LR h' → c' ≤ c + 8 → s' ≤ s + 48 → Vx (Ex S 24) S M_368 [] Q1 2316 lv' [] h' c' s') : Vx (Ex S 24) S M_368 [] Q1 328 lv [] h c s := by
  have hC := Ex.mono S 24
  obtain ⟨m, g, hM, hcl, hr, hb⟩ := hL
  refine Vx.go hC te_368_328 ⟨_, hl.2.1, ⟨0, Or.inl rfl⟩, ?_⟩
  refine sc_load hC (k := 1) hl te_368_329 te_368_330 te_368_332 te_368_333 te_368_334 (sc_in hS hi (by decide)) ?_
  refine sc_load hC (k := 2) hl te_368_335 te_368_336 te_368_338 te_368_339 te_368_340 (sc_in hS hi (by decide)) ?_
  refine Vx.go hC te_368_341 ⟨_, hl.2.2.2.1, ⟨173, Or.inl rfl⟩, ?_⟩
  refine Vx.go hC te_368_342 ?_
  refine Or.inr ⟨by decide, ?_⟩
  refine p_call_mk (av := [.ref 0, .int (S.2 (i + Int32.ofInt 1).toNatClampNeg), .int (S.2 (i + Int32.ofInt 2).toNatClampNeg), .ref 173]) (rest := []) mt_48 rfl (by decide) (show c + 2 ≤ 601024 by omega) (show s + 12 ≤ 7293033 by omega) (fun q => by cases q) ?_
  have HH : ∀ (t y : Int) (h1 : PH) (m1 : MM) (g1 : Nat → Int64), LM h1 m1 g1 → Hf1 (S.2 (i + Int32.ofInt 1).toNatClampNeg).toInt (S.2 (i + Int32.ofInt 2).toNatClampNeg).toInt t y m1 → 0 ≤ t ∧ t ≤ 4 → (t = 0 → InI y ∧ g1 0 = ((Int32.ofInt y).toInt64)) → Vx (Ex S 24) S M_368 [] Q1 345 lv [.int (Int32.ofInt t)] h1 (c + 2) (s + 12) := by
    intro t y h1 m1 g1 hM1 hF ht hg
    refine Vx.go hC te_368_345 ⟨by decide, ?_⟩
    have hl2 := LwS.st (j := 5) (v := .int (Int32.ofInt t)) (by omega) hl
    show Vx (Ex S 24) S M_368 [] Q1 347 (px_s1 lv 5 (.int (Int32.ofInt t))) [] h1 (c + 2) (s + 12)
    refine Vx.go hC te_368_347 ⟨_, hl2.2.2.1, ⟨143, Or.inl rfl⟩, ?_⟩
    refine sc_load hC (k := 1) hl2 te_368_348 te_368_349 te_368_351 te_368_352 te_368_353 (sc_in hS hi (by decide)) ?_
    refine sc_load hC (k := 2) hl2 te_368_354 te_368_355 te_368_357 te_368_358 te_368_359 (sc_in hS hi (by decide)) ?_
    refine Vx.go hC te_368_360 ?_
    obtain ⟨gs, hgs⟩ := hM1.obj (A := 143) rfl
    refine p_call_mk (av := [.ref 143, .int (S.2 (i + Int32.ofInt 1).toNatClampNeg), .int (S.2 (i + Int32.ofInt 2).toNatClampNeg)]) (rest := []) mt_230 rfl (by decide) (show c + 2 + 0 ≤ 601024 by omega) (show s + 12 + 0 ≤ 7293033 by omega) (fun _ => ⟨143, gs, rfl, hgs⟩) ?_
    have hcall := callQM (S := S) (n := 24) (μ := 230) (args := [.inr 143, .inl ((S.2 (i + Int32.ofInt 1).toNatClampNeg) : Int32).toInt, .inl ((S.2 (i + Int32.ofInt 2).toNatClampNeg) : Int32).toInt]) (fun v hv => by simp only [List.mem_cons, List.not_mem_nil, or_false] at hv; rcases hv with rfl | rfl | rfl <;> first | trivial | exact wiI _) hM1 (rf1 hF)
    simp only [List.map_cons, List.map_nil, wv, Int32.ofInt_toInt] at hcall
    refine hC _ _ _ _ _ ?_ hcall
    intro r0 h2 hz
    refine hz.elim ?_ (fun ⟨_, _, _, _, hE⟩ => False.elim hE)
    rintro ⟨y2, m2, rfl, hy2, hM2, hc2, hr2, hb2, e2, er⟩
    show Vx (Ex S 24) S M_368 [] Q1 363 (px_s1 lv 5 (.int (Int32.ofInt t))) [.int (Int32.ofInt y2)] h2 (c + 2) (s + 12)
    refine Vx.go hC te_368_363 ⟨by decide, ?_⟩
    have hl3 := LwS.st (j := 6) (v := .int (Int32.ofInt y2)) (by omega) hl2
    show Vx (Ex S 24) S M_368 [] Q1 365 (px_s1 (px_s1 lv 5 (.int (Int32.ofInt t))) 6 (.int (Int32.ofInt y2))) [] h2 (c + 2) (s + 12)
    refine Vx.go hC te_368_365 ⟨by decide, ?_⟩
    exact Nx _ _ _ _ hl3 ⟨m2, g1, hM2, hc2, hr2, hb2⟩ (by omega) (by omega)
  refine gx_48 (n := 6) (K := fun y m' => Hf1 (S.2 (i + Int32.ofInt 1).toNatClampNeg).toInt (S.2 (i + Int32.ofInt 2).toNatClampNeg).toInt 0 y m') (E := fun e m' => (e = 0 ∧ Hf1 (S.2 (i + Int32.ofInt 1).toNatClampNeg).toInt (S.2 (i + Int32.ofInt 2).toNatClampNeg).toInt 1 0 m') ∨ (e = 1 ∧ Hf1 (S.2 (i + Int32.ofInt 1).toNatClampNeg).toInt (S.2 (i + Int32.ofInt 2).toNatClampNeg).toInt 2 0 m')) hM (cl1 hcl hr hb) (fun y h' m' g' hy hL' eg hK => HH 0 y h' m' g' hL' hK (by omega) (fun _ => ⟨hy, eg⟩)) (fun e h' m' hL' hE => ?_)
  rcases hE with ⟨rfl, hE⟩ | ⟨rfl, hE⟩
  · exact Or.inl (⟨rfl, HH 1 0 h' m' g hL' hE (by omega) (fun z => by omega)⟩)
  · exact Or.inr (⟨rfl, HH 2 0 h' m' g hL' hE (by omega) (fun z => by omega)⟩)
theorem lc_2 {S : Nat × (Nat → Int32)} {lv : LV} {h : PH} {c s : Nat} {i : Int32} (hS : S.1 ≤ 3072) (hl : LwS lv i) (hi : 0 ≤ i.toInt ∧ i.toInt + 5 < S.1) (hL : LR h) (hc : c + 8 ≤ 601024) (hs : s + 48 ≤ 7293033) (Nx : ∀ lv' h' c' s', LwS lv' i → LR h' → c' ≤ c + 8 → s' ≤ s + 48 → Vx (Ex S 24) S M_368 [] Q1 2316 lv' [] h' c' s') : Vx (Ex S 24) S M_368 [] Q1 368 lv [] h c s := by
  have hC := Ex.mono S 24
  obtain ⟨m, g, hM, hcl, hr, hb⟩ := hL
  refine Vx.go hC te_368_368 ⟨_, hl.2.1, ⟨0, Or.inl rfl⟩, ?_⟩
  refine sc_load hC (k := 1) hl te_368_369 te_368_370 te_368_372 te_368_373 te_368_374 (sc_in hS hi (by decide)) ?_
  refine sc_load hC (k := 2) hl te_368_375 te_368_376 te_368_378 te_368_379 te_368_380 (sc_in hS hi (by decide)) ?_
  refine sc_load hC (k := 3) hl te_368_381 te_368_382 te_368_384 te_368_385 te_368_386 (sc_in hS hi (by decide)) ?_
  refine sc_load hC (k := 4) hl te_368_387 te_368_388 te_368_390 te_368_391 te_368_392 (sc_in hS hi (by decide)) ?_
  refine Vx.go hC te_368_393 ⟨_, hl.2.2.2.1, ⟨173, Or.inl rfl⟩, ?_⟩
  refine Vx.go hC te_368_394 ?_
  refine Or.inr ⟨by decide, ?_⟩
  refine p_call_mk (av := [.ref 0, .int (S.2 (i + Int32.ofInt 1).toNatClampNeg), .int (S.2 (i + Int32.ofInt 2).toNatClampNeg), .int (S.2 (i + Int32.ofInt 3).toNatClampNeg), .int (S.2 (i + Int32.ofInt 4).toNatClampNeg), .ref 173]) (rest := []) mt_51 rfl (by decide) (show c + 2 ≤ 601024 by omega) (show s + 12 ≤ 7293033 by omega) (fun q => by cases q) ?_
  have HH : ∀ (t y : Int) (h1 : PH) (m1 : MM) (g1 : Nat → Int64), LM h1 m1 g1 → Hf2 (S.2 (i + Int32.ofInt 1).toNatClampNeg).toInt (S.2 (i + Int32.ofInt 2).toNatClampNeg).toInt (S.2 (i + Int32.ofInt 3).toNatClampNeg).toInt (S.2 (i + Int32.ofInt 4).toNatClampNeg).toInt t y m1 → 0 ≤ t ∧ t ≤ 4 → (t = 0 → InI y ∧ g1 0 = ((Int32.ofInt y).toInt64)) → Vx (Ex S 24) S M_368 [] Q1 397 lv [.int (Int32.ofInt t)] h1 (c + 2) (s + 12) := by
    intro t y h1 m1 g1 hM1 hF ht hg
    refine Vx.go hC te_368_397 ⟨by decide, ?_⟩
    have hl2 := LwS.st (j := 5) (v := .int (Int32.ofInt t)) (by omega) hl
    show Vx (Ex S 24) S M_368 [] Q1 399 (px_s1 lv 5 (.int (Int32.ofInt t))) [] h1 (c + 2) (s + 12)
    refine Vx.go hC te_368_399 ⟨_, hl2.2.2.1, ⟨143, Or.inl rfl⟩, ?_⟩
    refine sc_load hC (k := 1) hl2 te_368_400 te_368_401 te_368_403 te_368_404 te_368_405 (sc_in hS hi (by decide)) ?_
    refine sc_load hC (k := 2) hl2 te_368_406 te_368_407 te_368_409 te_368_410 te_368_411 (sc_in hS hi (by decide)) ?_
    refine sc_load hC (k := 3) hl2 te_368_412 te_368_413 te_368_415 te_368_416 te_368_417 (sc_in hS hi (by decide)) ?_
    refine sc_load hC (k := 4) hl2 te_368_418 te_368_419 te_368_421 te_368_422 te_368_423 (sc_in hS hi (by decide)) ?_
    refine Vx.go hC te_368_424 ?_
    obtain ⟨gs, hgs⟩ := hM1.obj (A := 143) rfl
    refine p_call_mk (av := [.ref 143, .int (S.2 (i + Int32.ofInt 1).toNatClampNeg), .int (S.2 (i + Int32.ofInt 2).toNatClampNeg), .int (S.2 (i + Int32.ofInt 3).toNatClampNeg), .int (S.2 (i + Int32.ofInt 4).toNatClampNeg)]) (rest := []) mt_232 rfl (by decide) (show c + 2 + 0 ≤ 601024 by omega) (show s + 12 + 0 ≤ 7293033 by omega) (fun _ => ⟨143, gs, rfl, hgs⟩) ?_
    have hcall := callQM (S := S) (n := 24) (μ := 232) (args := [.inr 143, .inl ((S.2 (i + Int32.ofInt 1).toNatClampNeg) : Int32).toInt, .inl ((S.2 (i + Int32.ofInt 2).toNatClampNeg) : Int32).toInt, .inl ((S.2 (i + Int32.ofInt 3).toNatClampNeg) : Int32).toInt, .inl ((S.2 (i + Int32.ofInt 4).toNatClampNeg) : Int32).toInt]) (fun v hv => by simp only [List.mem_cons, List.not_mem_nil, or_false] at hv; rcases hv with rfl | rfl | rfl | rfl | rfl <;> first | trivial | exact wiI _) hM1 (rf2 hF)
    simp only [List.map_cons, List.map_nil, wv, Int32.ofInt_toInt] at hcall
    refine hC _ _ _ _ _ ?_ hcall
    intro r0 h2 hz
    refine hz.elim ?_ (fun ⟨_, _, _, _, hE⟩ => False.elim hE)
    rintro ⟨y2, m2, rfl, hy2, hM2, hc2, hr2, hb2, e2, er⟩
    show Vx (Ex S 24) S M_368 [] Q1 427 (px_s1 lv 5 (.int (Int32.ofInt t))) [.int (Int32.ofInt y2)] h2 (c + 2) (s + 12)
    refine Vx.go hC te_368_427 ⟨by decide, ?_⟩
    have hl3 := LwS.st (j := 6) (v := .int (Int32.ofInt y2)) (by omega) hl2
    show Vx (Ex S 24) S M_368 [] Q1 429 (px_s1 (px_s1 lv 5 (.int (Int32.ofInt t))) 6 (.int (Int32.ofInt y2))) [] h2 (c + 2) (s + 12)
    refine Vx.go hC te_368_429 ⟨by decide, ?_⟩
    exact Nx _ _ _ _ hl3 ⟨m2, g1, hM2, hc2, hr2, hb2⟩ (by omega) (by omega)
  refine gx_51 (n := 6) (K := fun y m' => Hf2 (S.2 (i + Int32.ofInt 1).toNatClampNeg).toInt (S.2 (i + Int32.ofInt 2).toNatClampNeg).toInt (S.2 (i + Int32.ofInt 3).toNatClampNeg).toInt (S.2 (i + Int32.ofInt 4).toNatClampNeg).toInt 0 y m') (E := fun e m' => (e = 0 ∧ Hf2 (S.2 (i + Int32.ofInt 1).toNatClampNeg).toInt (S.2 (i + Int32.ofInt 2).toNatClampNeg).toInt (S.2 (i + Int32.ofInt 3).toNatClampNeg).toInt (S.2 (i + Int32.ofInt 4).toNatClampNeg).toInt 1 0 m') ∨ (e = 1 ∧ Hf2 (S.2 (i + Int32.ofInt 1).toNatClampNeg).toInt (S.2 (i + Int32.ofInt 2).toNatClampNeg).toInt (S.2 (i + Int32.ofInt 3).toNatClampNeg).toInt (S.2 (i + Int32.ofInt 4).toNatClampNeg).toInt 2 0 m')) hM (cl2 hcl hr hb) (fun y h' m' g' hy hL' eg hK => HH 0 y h' m' g' hL' hK (by omega) (fun _ => ⟨hy, eg⟩)) (fun e h' m' hL' hE => ?_)
  rcases hE with ⟨rfl, hE⟩ | ⟨rfl, hE⟩
  · exact Or.inl (⟨rfl, HH 1 0 h' m' g hL' hE (by omega) (fun z => by omega)⟩)
  · exact Or.inr (⟨rfl, HH 2 0 h' m' g hL' hE (by omega) (fun z => by omega)⟩)
theorem lc_3 {S : Nat × (Nat → Int32)} {lv : LV} {h : PH} {c s : Nat} {i : Int32} (hS : S.1 ≤ 3072) (hl : LwS lv i) (hi : 0 ≤ i.toInt ∧ i.toInt + 5 < S.1) (hL : LR h) (hc : c + 8 ≤ 601024) (hs : s + 48 ≤ 7293033) (Nx : ∀ lv' h' c' s', LwS lv' i → LR h' → c' ≤ c + 8 → s' ≤ s + 48 → Vx (Ex S 24) S M_368 [] Q1 2316 lv' [] h' c' s') : Vx (Ex S 24) S M_368 [] Q1 432 lv [] h c s := by
  have hC := Ex.mono S 24
  obtain ⟨m, g, hM, hcl, hr, hb⟩ := hL
  refine Vx.go hC te_368_432 ⟨_, hl.2.1, ⟨0, Or.inl rfl⟩, ?_⟩
  refine Vx.go hC te_368_433 ⟨_, hl.2.2.2.1, ⟨173, Or.inl rfl⟩, ?_⟩
  refine Vx.go hC te_368_434 ?_
  refine Or.inr ⟨by decide, ?_⟩
  refine p_call_mk (av := [.ref 0, .ref 173]) (rest := []) mt_53 rfl (by decide) (show c + 1 ≤ 601024 by omega) (show s + 6 ≤ 7293033 by omega) (fun q => by cases q) ?_
  have HH : ∀ (t y : Int) (h1 : PH) (m1 : MM) (g1 : Nat → Int64), LM h1 m1 g1 → Hf3 t y m1 → 0 ≤ t ∧ t ≤ 4 → (t = 0 → InI y ∧ g1 0 = ((Int32.ofInt y).toInt64)) → Vx (Ex S 24) S M_368 [] Q1 437 lv [.int (Int32.ofInt t)] h1 (c + 1) (s + 6) := by
    intro t y h1 m1 g1 hM1 hF ht hg
    refine Vx.go hC te_368_437 ⟨by decide, ?_⟩
    have hl2 := LwS.st (j := 5) (v := .int (Int32.ofInt t)) (by omega) hl
    show Vx (Ex S 24) S M_368 [] Q1 439 (px_s1 lv 5 (.int (Int32.ofInt t))) [] h1 (c + 1) (s + 6)
    refine Vx.go hC te_368_439 ⟨_, hl2.2.2.1, ⟨143, Or.inl rfl⟩, ?_⟩
    refine Vx.go hC te_368_440 ?_
    obtain ⟨gs, hgs⟩ := hM1.obj (A := 143) rfl
    refine p_call_mk (av := [.ref 143]) (rest := []) mt_233 rfl (by decide) (show c + 1 + 0 ≤ 601024 by omega) (show s + 6 + 0 ≤ 7293033 by omega) (fun _ => ⟨143, gs, rfl, hgs⟩) ?_
    have hcall := callQM (S := S) (n := 24) (μ := 233) (args := [.inr 143]) (fun v hv => by simp only [List.mem_cons, List.not_mem_nil, or_false] at hv; rw [hv]; trivial) hM1 (rf3 hF)
    simp only [List.map_cons, List.map_nil, wv, Int32.ofInt_toInt] at hcall
    refine hC _ _ _ _ _ ?_ hcall
    intro r0 h2 hz
    refine hz.elim ?_ (fun ⟨_, _, _, _, hE⟩ => False.elim hE)
    rintro ⟨y2, m2, rfl, hy2, hM2, hc2, hr2, hb2, e2, er⟩
    show Vx (Ex S 24) S M_368 [] Q1 443 (px_s1 lv 5 (.int (Int32.ofInt t))) [.int (Int32.ofInt y2)] h2 (c + 1) (s + 6)
    refine Vx.go hC te_368_443 ⟨by decide, ?_⟩
    have hl3 := LwS.st (j := 6) (v := .int (Int32.ofInt y2)) (by omega) hl2
    show Vx (Ex S 24) S M_368 [] Q1 445 (px_s1 (px_s1 lv 5 (.int (Int32.ofInt t))) 6 (.int (Int32.ofInt y2))) [] h2 (c + 1) (s + 6)
    refine Vx.go hC te_368_445 ⟨by decide, ?_⟩
    exact Nx _ _ _ _ hl3 ⟨m2, g1, hM2, hc2, hr2, hb2⟩ (by omega) (by omega)
  refine gx_53 (n := 6) (K := fun y m' => Hf3 0 y m') (E := fun e m' => (e = 1 ∧ Hf3 1 0 m')) hM (cl3 hcl hr hb) (fun y h' m' g' hy hL' eg hK => HH 0 y h' m' g' hL' hK (by omega) (fun _ => ⟨hy, eg⟩)) (fun e h' m' hL' hE => ?_)
  obtain ⟨rfl, hE⟩ := hE
  exact ⟨rfl, HH 1 0 h' m' g hL' hE (by omega) (fun z => by omega)⟩
theorem lc_4 {S : Nat × (Nat → Int32)} {lv : LV} {h : PH} {c s : Nat} {i : Int32} (hS : S.1 ≤ 3072) (hl : LwS lv i) (hi : 0 ≤ i.toInt ∧ i.toInt + 5 < S.1) (hL : LR h) (hc : c + 8 ≤ 601024) (hs : s + 48 ≤ 7293033) (Nx : ∀ lv' h' c' s', LwS lv' i → LR h' → c' ≤ c + 8 → s' ≤ s + 48 → Vx (Ex S 24) S M_368 [] Q1 2316 lv' [] h' c' s') : Vx (Ex S 24) S M_368 [] Q1 448 lv [] h c s := by
  have hC := Ex.mono S 24
  obtain ⟨m, g, hM, hcl, hr, hb⟩ := hL
  refine Vx.go hC te_368_448 ⟨_, hl.2.1, ⟨0, Or.inl rfl⟩, ?_⟩
  refine sc_load hC (k := 1) hl te_368_449 te_368_450 te_368_452 te_368_453 te_368_454 (sc_in hS hi (by decide)) ?_
  refine sc_load hC (k := 2) hl te_368_455 te_368_456 te_368_458 te_368_459 te_368_460 (sc_in hS hi (by decide)) ?_
  refine Vx.go hC te_368_461 ⟨_, hl.2.2.2.1, ⟨173, Or.inl rfl⟩, ?_⟩
  refine Vx.go hC te_368_462 ?_
  refine Or.inr ⟨by decide, ?_⟩
  refine p_call_mk (av := [.ref 0, .int (S.2 (i + Int32.ofInt 1).toNatClampNeg), .int (S.2 (i + Int32.ofInt 2).toNatClampNeg), .ref 173]) (rest := []) mt_55 rfl (by decide) (show c + 2 ≤ 601024 by omega) (show s + 12 ≤ 7293033 by omega) (fun q => by cases q) ?_
  have HH : ∀ (t y : Int) (h1 : PH) (m1 : MM) (g1 : Nat → Int64), LM h1 m1 g1 → Hf4 (S.2 (i + Int32.ofInt 1).toNatClampNeg).toInt (S.2 (i + Int32.ofInt 2).toNatClampNeg).toInt t y m1 → 0 ≤ t ∧ t ≤ 4 → (t = 0 → InI y ∧ g1 0 = ((Int32.ofInt y).toInt64)) → Vx (Ex S 24) S M_368 [] Q1 465 lv [.int (Int32.ofInt t)] h1 (c + 2) (s + 12) := by
    intro t y h1 m1 g1 hM1 hF ht hg
    refine Vx.go hC te_368_465 ⟨by decide, ?_⟩
    have hl2 := LwS.st (j := 5) (v := .int (Int32.ofInt t)) (by omega) hl
    show Vx (Ex S 24) S M_368 [] Q1 467 (px_s1 lv 5 (.int (Int32.ofInt t))) [] h1 (c + 2) (s + 12)
    refine Vx.go hC te_368_467 ⟨_, hl2.2.2.1, ⟨143, Or.inl rfl⟩, ?_⟩
    refine sc_load hC (k := 1) hl2 te_368_468 te_368_469 te_368_471 te_368_472 te_368_473 (sc_in hS hi (by decide)) ?_
    refine sc_load hC (k := 2) hl2 te_368_474 te_368_475 te_368_477 te_368_478 te_368_479 (sc_in hS hi (by decide)) ?_
    refine Vx.go hC te_368_480 ?_
    obtain ⟨gs, hgs⟩ := hM1.obj (A := 143) rfl
    refine p_call_mk (av := [.ref 143, .int (S.2 (i + Int32.ofInt 1).toNatClampNeg), .int (S.2 (i + Int32.ofInt 2).toNatClampNeg)]) (rest := []) mt_234 rfl (by decide) (show c + 2 + 0 ≤ 601024 by omega) (show s + 12 + 0 ≤ 7293033 by omega) (fun _ => ⟨143, gs, rfl, hgs⟩) ?_
    have hcall := callQM (S := S) (n := 24) (μ := 234) (args := [.inr 143, .inl ((S.2 (i + Int32.ofInt 1).toNatClampNeg) : Int32).toInt, .inl ((S.2 (i + Int32.ofInt 2).toNatClampNeg) : Int32).toInt]) (fun v hv => by simp only [List.mem_cons, List.not_mem_nil, or_false] at hv; rcases hv with rfl | rfl | rfl <;> first | trivial | exact wiI _) hM1 (rf4 hF)
    simp only [List.map_cons, List.map_nil, wv, Int32.ofInt_toInt] at hcall
    refine hC _ _ _ _ _ ?_ hcall
    intro r0 h2 hz
    refine hz.elim ?_ (fun ⟨_, _, _, _, hE⟩ => False.elim hE)
    rintro ⟨y2, m2, rfl, hy2, hM2, hc2, hr2, hb2, e2, er⟩
    show Vx (Ex S 24) S M_368 [] Q1 483 (px_s1 lv 5 (.int (Int32.ofInt t))) [.int (Int32.ofInt y2)] h2 (c + 2) (s + 12)
    refine Vx.go hC te_368_483 ⟨by decide, ?_⟩
    have hl3 := LwS.st (j := 6) (v := .int (Int32.ofInt y2)) (by omega) hl2
    show Vx (Ex S 24) S M_368 [] Q1 485 (px_s1 (px_s1 lv 5 (.int (Int32.ofInt t))) 6 (.int (Int32.ofInt y2))) [] h2 (c + 2) (s + 12)
    refine Vx.go hC te_368_485 ⟨by decide, ?_⟩
    exact Nx _ _ _ _ hl3 ⟨m2, g1, hM2, hc2, hr2, hb2⟩ (by omega) (by omega)
  refine gx_55 (n := 6) (K := fun y m' => Hf4 (S.2 (i + Int32.ofInt 1).toNatClampNeg).toInt (S.2 (i + Int32.ofInt 2).toNatClampNeg).toInt 0 y m') (E := fun e m' => (e = 2 ∧ Hf4 (S.2 (i + Int32.ofInt 1).toNatClampNeg).toInt (S.2 (i + Int32.ofInt 2).toNatClampNeg).toInt 1 0 m') ∨ (e = 0 ∧ Hf4 (S.2 (i + Int32.ofInt 1).toNatClampNeg).toInt (S.2 (i + Int32.ofInt 2).toNatClampNeg).toInt 2 0 m')) hM (cl4 hcl hr hb) (fun y h' m' g' hy hL' eg hK => HH 0 y h' m' g' hL' hK (by omega) (fun _ => ⟨hy, eg⟩)) (fun e h' m' hL' hE => ?_)
  rcases hE with ⟨rfl, hE⟩ | ⟨rfl, hE⟩
  · exact Or.inl (⟨rfl, HH 1 0 h' m' g hL' hE (by omega) (fun z => by omega)⟩)
  · exact Or.inr (⟨rfl, HH 2 0 h' m' g hL' hE (by omega) (fun z => by omega)⟩)
theorem lc_5 {S : Nat × (Nat → Int32)} {lv : LV} {h : PH} {c s : Nat} {i : Int32} (hS : S.1 ≤ 3072) (hl : LwS lv i) (hi : 0 ≤ i.toInt ∧ i.toInt + 5 < S.1) (hL : LR h) (hc : c + 8 ≤ 601024) (hs : s + 48 ≤ 7293033) (Nx : ∀ lv' h' c' s', LwS lv' i → LR h' → c' ≤ c + 8 → s' ≤ s + 48 → Vx (Ex S 24) S M_368 [] Q1 2316 lv' [] h' c' s') : Vx (Ex S 24) S M_368 [] Q1 488 lv [] h c s := by
  have hC := Ex.mono S 24
  obtain ⟨m, g, hM, hcl, hr, hb⟩ := hL
  refine Vx.go hC te_368_488 ⟨_, hl.2.1, ⟨0, Or.inl rfl⟩, ?_⟩
  refine sc_load hC (k := 1) hl te_368_489 te_368_490 te_368_492 te_368_493 te_368_494 (sc_in hS hi (by decide)) ?_
  refine sc_load hC (k := 2) hl te_368_495 te_368_496 te_368_498 te_368_499 te_368_500 (sc_in hS hi (by decide)) ?_
  refine sc_load hC (k := 3) hl te_368_501 te_368_502 te_368_504 te_368_505 te_368_506 (sc_in hS hi (by decide)) ?_
  refine sc_load hC (k := 4) hl te_368_507 te_368_508 te_368_510 te_368_511 te_368_512 (sc_in hS hi (by decide)) ?_
  refine Vx.go hC te_368_513 ?_
  refine Or.inr ⟨by decide, ?_⟩
  refine p_call_mk (av := [.ref 0, .int (S.2 (i + Int32.ofInt 1).toNatClampNeg), .int (S.2 (i + Int32.ofInt 2).toNatClampNeg), .int (S.2 (i + Int32.ofInt 3).toNatClampNeg), .int (S.2 (i + Int32.ofInt 4).toNatClampNeg)]) (rest := []) mt_58 rfl (by decide) (show c + 2 ≤ 601024 by omega) (show s + 12 ≤ 7293033 by omega) (fun q => by cases q) ?_
  have HH : ∀ (t y : Int) (h1 : PH) (m1 : MM) (g1 : Nat → Int64), LM h1 m1 g1 → Hf5 (S.2 (i + Int32.ofInt 1).toNatClampNeg).toInt (S.2 (i + Int32.ofInt 2).toNatClampNeg).toInt (S.2 (i + Int32.ofInt 3).toNatClampNeg).toInt (S.2 (i + Int32.ofInt 4).toNatClampNeg).toInt t y m1 → 0 ≤ t ∧ t ≤ 4 → (t = 0 → True) → Vx (Ex S 24) S M_368 [] Q1 516 lv [.int (Int32.ofInt t)] h1 (c + 2) (s + 12) := by
    intro t y h1 m1 g1 hM1 hF ht hg
    refine Vx.go hC te_368_516 ⟨by decide, ?_⟩
    have hl2 := LwS.st (j := 5) (v := .int (Int32.ofInt t)) (by omega) hl
    show Vx (Ex S 24) S M_368 [] Q1 518 (px_s1 lv 5 (.int (Int32.ofInt t))) [] h1 (c + 2) (s + 12)
    refine Vx.go hC te_368_518 ⟨_, hl2.2.2.1, ⟨143, Or.inl rfl⟩, ?_⟩
    refine sc_load hC (k := 1) hl2 te_368_519 te_368_520 te_368_522 te_368_523 te_368_524 (sc_in hS hi (by decide)) ?_
    refine sc_load hC (k := 2) hl2 te_368_525 te_368_526 te_368_528 te_368_529 te_368_530 (sc_in hS hi (by decide)) ?_
    refine sc_load hC (k := 3) hl2 te_368_531 te_368_532 te_368_534 te_368_535 te_368_536 (sc_in hS hi (by decide)) ?_
    refine sc_load hC (k := 4) hl2 te_368_537 te_368_538 te_368_540 te_368_541 te_368_542 (sc_in hS hi (by decide)) ?_
    refine Vx.go hC te_368_543 ?_
    obtain ⟨gs, hgs⟩ := hM1.obj (A := 143) rfl
    refine p_call_mk (av := [.ref 143, .int (S.2 (i + Int32.ofInt 1).toNatClampNeg), .int (S.2 (i + Int32.ofInt 2).toNatClampNeg), .int (S.2 (i + Int32.ofInt 3).toNatClampNeg), .int (S.2 (i + Int32.ofInt 4).toNatClampNeg)]) (rest := []) mt_236 rfl (by decide) (show c + 2 + 0 ≤ 601024 by omega) (show s + 12 + 0 ≤ 7293033 by omega) (fun _ => ⟨143, gs, rfl, hgs⟩) ?_
    have hcall := callQM (S := S) (n := 24) (μ := 236) (args := [.inr 143, .inl ((S.2 (i + Int32.ofInt 1).toNatClampNeg) : Int32).toInt, .inl ((S.2 (i + Int32.ofInt 2).toNatClampNeg) : Int32).toInt, .inl ((S.2 (i + Int32.ofInt 3).toNatClampNeg) : Int32).toInt, .inl ((S.2 (i + Int32.ofInt 4).toNatClampNeg) : Int32).toInt]) (fun v hv => by simp only [List.mem_cons, List.not_mem_nil, or_false] at hv; rcases hv with rfl | rfl | rfl | rfl | rfl <;> first | trivial | exact wiI _) hM1 (rf5 hF)
    simp only [List.map_cons, List.map_nil, wv, Int32.ofInt_toInt] at hcall
    refine hC _ _ _ _ _ ?_ hcall
    intro r0 h2 hz
    refine hz.elim ?_ (fun ⟨_, _, _, _, hE⟩ => False.elim hE)
    rintro ⟨y2, m2, rfl, hy2, hM2, hc2, hr2, hb2, e2, er⟩
    show Vx (Ex S 24) S M_368 [] Q1 546 (px_s1 lv 5 (.int (Int32.ofInt t))) [.int (Int32.ofInt y2)] h2 (c + 2) (s + 12)
    refine Vx.go hC te_368_546 ⟨_, _, rfl, rfl, ?_⟩
    show Vx (Ex S 24) S M_368 [] Q1 547 (px_s1 lv 5 (.int (Int32.ofInt t))) [] h2 (c + 2) (s + 12)
    refine Vx.go hC te_368_547 ⟨by decide, ?_⟩
    exact Nx _ _ _ _ hl2 ⟨m2, g1, hM2, hc2, hr2, hb2⟩ (by omega) (by omega)
  refine gx_58 (n := 6) (K := fun m' => Hf5 (S.2 (i + Int32.ofInt 1).toNatClampNeg).toInt (S.2 (i + Int32.ofInt 2).toNatClampNeg).toInt (S.2 (i + Int32.ofInt 3).toNatClampNeg).toInt (S.2 (i + Int32.ofInt 4).toNatClampNeg).toInt 0 0 m') (E := fun e m' => (e = 2 ∧ Hf5 (S.2 (i + Int32.ofInt 1).toNatClampNeg).toInt (S.2 (i + Int32.ofInt 2).toNatClampNeg).toInt (S.2 (i + Int32.ofInt 3).toNatClampNeg).toInt (S.2 (i + Int32.ofInt 4).toNatClampNeg).toInt 1 0 m') ∨ (e = 0 ∧ Hf5 (S.2 (i + Int32.ofInt 1).toNatClampNeg).toInt (S.2 (i + Int32.ofInt 2).toNatClampNeg).toInt (S.2 (i + Int32.ofInt 3).toNatClampNeg).toInt (S.2 (i + Int32.ofInt 4).toNatClampNeg).toInt 2 0 m')) hM (cl5 hcl hr hb) (fun h' m' hL' hK => HH 0 0 h' m' g hL' hK (by omega) (fun _ => True.intro)) (fun e h' m' hL' hE => ?_)
  rcases hE with ⟨rfl, hE⟩ | ⟨rfl, hE⟩
  · exact Or.inl (⟨rfl, HH 1 0 h' m' g hL' hE (by omega) (fun z => by omega)⟩)
  · exact Or.inr (⟨rfl, HH 2 0 h' m' g hL' hE (by omega) (fun z => by omega)⟩)
theorem lc_6 {S : Nat × (Nat → Int32)} {lv : LV} {h : PH} {c s : Nat} {i : Int32} (hS : S.1 ≤ 3072) (hl : LwS lv i) (hi : 0 ≤ i.toInt ∧ i.toInt + 5 < S.1) (hL : LR h) (hc : c + 8 ≤ 601024) (hs : s + 48 ≤ 7293033) (Nx : ∀ lv' h' c' s', LwS lv' i → LR h' → c' ≤ c + 8 → s' ≤ s + 48 → Vx (Ex S 24) S M_368 [] Q1 2316 lv' [] h' c' s') : Vx (Ex S 24) S M_368 [] Q1 550 lv [] h c s := by
  have hC := Ex.mono S 24
  obtain ⟨m, g, hM, hcl, hr, hb⟩ := hL
  refine Vx.go hC te_368_550 ⟨_, hl.2.1, ⟨0, Or.inl rfl⟩, ?_⟩
  refine sc_load hC (k := 1) hl te_368_551 te_368_552 te_368_554 te_368_555 te_368_556 (sc_in hS hi (by decide)) ?_
  refine sc_load hC (k := 2) hl te_368_557 te_368_558 te_368_560 te_368_561 te_368_562 (sc_in hS hi (by decide)) ?_
  refine Vx.go hC te_368_563 ⟨_, hl.2.2.2.1, ⟨173, Or.inl rfl⟩, ?_⟩
  refine Vx.go hC te_368_564 ?_
  refine Or.inr ⟨by decide, ?_⟩
  refine p_call_mk (av := [.ref 0, .int (S.2 (i + Int32.ofInt 1).toNatClampNeg), .int (S.2 (i + Int32.ofInt 2).toNatClampNeg), .ref 173]) (rest := []) mt_61 rfl (by decide) (show c + 2 ≤ 601024 by omega) (show s + 12 ≤ 7293033 by omega) (fun q => by cases q) ?_
  have HH : ∀ (t y : Int) (h1 : PH) (m1 : MM) (g1 : Nat → Int64), LM h1 m1 g1 → Hf6 (S.2 (i + Int32.ofInt 1).toNatClampNeg).toInt (S.2 (i + Int32.ofInt 2).toNatClampNeg).toInt t y m1 → 0 ≤ t ∧ t ≤ 4 → (t = 0 → InI y ∧ g1 0 = ((Int32.ofInt y).toInt64)) → Vx (Ex S 24) S M_368 [] Q1 567 lv [.int (Int32.ofInt t)] h1 (c + 2) (s + 12) := by
    intro t y h1 m1 g1 hM1 hF ht hg
    refine Vx.go hC te_368_567 ⟨by decide, ?_⟩
    have hl2 := LwS.st (j := 5) (v := .int (Int32.ofInt t)) (by omega) hl
    show Vx (Ex S 24) S M_368 [] Q1 569 (px_s1 lv 5 (.int (Int32.ofInt t))) [] h1 (c + 2) (s + 12)
    refine Vx.go hC te_368_569 ⟨_, hl2.2.2.1, ⟨143, Or.inl rfl⟩, ?_⟩
    refine sc_load hC (k := 1) hl2 te_368_570 te_368_571 te_368_573 te_368_574 te_368_575 (sc_in hS hi (by decide)) ?_
    refine sc_load hC (k := 2) hl2 te_368_576 te_368_577 te_368_579 te_368_580 te_368_581 (sc_in hS hi (by decide)) ?_
    refine Vx.go hC te_368_582 ?_
    obtain ⟨gs, hgs⟩ := hM1.obj (A := 143) rfl
    refine p_call_mk (av := [.ref 143, .int (S.2 (i + Int32.ofInt 1).toNatClampNeg), .int (S.2 (i + Int32.ofInt 2).toNatClampNeg)]) (rest := []) mt_237 rfl (by decide) (show c + 2 + 0 ≤ 601024 by omega) (show s + 12 + 0 ≤ 7293033 by omega) (fun _ => ⟨143, gs, rfl, hgs⟩) ?_
    have hcall := callQM (S := S) (n := 24) (μ := 237) (args := [.inr 143, .inl ((S.2 (i + Int32.ofInt 1).toNatClampNeg) : Int32).toInt, .inl ((S.2 (i + Int32.ofInt 2).toNatClampNeg) : Int32).toInt]) (fun v hv => by simp only [List.mem_cons, List.not_mem_nil, or_false] at hv; rcases hv with rfl | rfl | rfl <;> first | trivial | exact wiI _) hM1 (rf6 hF)
    simp only [List.map_cons, List.map_nil, wv, Int32.ofInt_toInt] at hcall
    refine hC _ _ _ _ _ ?_ hcall
    intro r0 h2 hz
    refine hz.elim ?_ (fun ⟨_, _, _, _, hE⟩ => False.elim hE)
    rintro ⟨y2, m2, rfl, hy2, hM2, hc2, hr2, hb2, e2, er⟩
    show Vx (Ex S 24) S M_368 [] Q1 585 (px_s1 lv 5 (.int (Int32.ofInt t))) [.int (Int32.ofInt y2)] h2 (c + 2) (s + 12)
    refine Vx.go hC te_368_585 ⟨by decide, ?_⟩
    have hl3 := LwS.st (j := 6) (v := .int (Int32.ofInt y2)) (by omega) hl2
    show Vx (Ex S 24) S M_368 [] Q1 587 (px_s1 (px_s1 lv 5 (.int (Int32.ofInt t))) 6 (.int (Int32.ofInt y2))) [] h2 (c + 2) (s + 12)
    refine Vx.go hC te_368_587 ⟨by decide, ?_⟩
    exact Nx _ _ _ _ hl3 ⟨m2, g1, hM2, hc2, hr2, hb2⟩ (by omega) (by omega)
  refine gx_61 (n := 6) (K := fun y m' => Hf6 (S.2 (i + Int32.ofInt 1).toNatClampNeg).toInt (S.2 (i + Int32.ofInt 2).toNatClampNeg).toInt 0 y m') (E := fun e m' => (e = 2 ∧ Hf6 (S.2 (i + Int32.ofInt 1).toNatClampNeg).toInt (S.2 (i + Int32.ofInt 2).toNatClampNeg).toInt 1 0 m') ∨ (e = 0 ∧ Hf6 (S.2 (i + Int32.ofInt 1).toNatClampNeg).toInt (S.2 (i + Int32.ofInt 2).toNatClampNeg).toInt 2 0 m')) hM (cl6 hcl hr hb) (fun y h' m' g' hy hL' eg hK => HH 0 y h' m' g' hL' hK (by omega) (fun _ => ⟨hy, eg⟩)) (fun e h' m' hL' hE => ?_)
  rcases hE with ⟨rfl, hE⟩ | ⟨rfl, hE⟩
  · exact Or.inl (⟨rfl, HH 1 0 h' m' g hL' hE (by omega) (fun z => by omega)⟩)
  · exact Or.inr (⟨rfl, HH 2 0 h' m' g hL' hE (by omega) (fun z => by omega)⟩)
theorem lc_8 {S : Nat × (Nat → Int32)} {lv : LV} {h : PH} {c s : Nat} {i : Int32} (hS : S.1 ≤ 3072) (hl : LwS lv i) (hi : 0 ≤ i.toInt ∧ i.toInt + 5 < S.1) (hL : LR h) (hc : c + 8 ≤ 601024) (hs : s + 48 ≤ 7293033) (Nx : ∀ lv' h' c' s', LwS lv' i → LR h' → c' ≤ c + 8 → s' ≤ s + 48 → Vx (Ex S 24) S M_368 [] Q1 2316 lv' [] h' c' s') : Vx (Ex S 24) S M_368 [] Q1 630 lv [] h c s := by
  have hC := Ex.mono S 24
  obtain ⟨m, g, hM, hcl, hr, hb⟩ := hL
  refine Vx.go hC te_368_630 ⟨_, hl.2.1, ⟨0, Or.inl rfl⟩, ?_⟩
  refine Vx.go hC te_368_631 ?_
  obtain ⟨gs, hgs⟩ := hM.obj (A := 0) rfl
  refine p_call_mk (av := [.ref 0]) (rest := []) mt_10 rfl (by decide) (show c + 0 ≤ 601024 by omega) (show s + 0 ≤ 7293033 by omega) (fun _ => ⟨0, gs, rfl, hgs⟩) ?_
  have hcall := callQM (S := S) (n := 24) (μ := 10) (args := [.inr 0]) (fun v hv => by simp only [List.mem_cons, List.not_mem_nil, or_false] at hv; rw [hv]; trivial) hM (cl8 hcl hr hb)
  simp only [List.map_cons, List.map_nil, wv] at hcall
  refine hC _ _ _ _ _ ?_ hcall
  intro r0 h2 hz
  refine hz.elim ?_ (fun ⟨_, _, _, _, hE⟩ => False.elim hE)
  rintro ⟨y2, m2, rfl, hy2, hM2, H8⟩
  show Vx (Ex S 24) S M_368 [] Q1 634 lv [.int (Int32.ofInt y2)] h2 c s
  refine Vx.go hC te_368_634 ⟨_, hl.2.2.1, ⟨143, Or.inl rfl⟩, ?_⟩
  refine Vx.go hC te_368_635 ?_
  obtain ⟨gs2, hgs2⟩ := hM2.obj (A := 143) rfl
  refine p_call_mk (av := [.ref 143]) (rest := [.int (Int32.ofInt y2)]) mt_239 rfl (show (1 : Nat) ≤ 8 by decide) (show c + 0 + 0 ≤ 601024 by omega) (show s + 0 + 0 ≤ 7293033 by omega) (fun _ => ⟨143, gs2, rfl, hgs2⟩) ?_
  have hcall2 := callQM (S := S) (n := 24) (μ := 239) (args := [.inr 143]) (fun v hv => by simp only [List.mem_cons, List.not_mem_nil, or_false] at hv; rw [hv]; trivial) hM2 (rf8 H8)
  simp only [List.map_cons, List.map_nil, wv] at hcall2
  refine hC _ _ _ _ _ ?_ hcall2
  intro r1 h3 hz
  refine hz.elim ?_ (fun ⟨_, _, _, _, hE⟩ => False.elim hE)
  rintro ⟨y3, m3, rfl, hy3, hM3, hc3, hr3, hb3, e3⟩
  subst e3
  show Vx (Ex S 24) S M_368 [] Q1 638 lv [.int (Int32.ofInt y3), .int (Int32.ofInt y3)] h3 c s
  refine Vx.go hC te_368_638 ?_
  refine ⟨by decide, fun _ => ?_, fun q => absurd rfl q⟩
  show Vx (Ex S 24) S M_368 [] Q1 2316 lv [] h3 c s
  exact Nx _ _ _ _ hl ⟨m3, g, hM3, hc3, hr3, hb3⟩ (by omega) (by omega)
end
section
/-! the law's loop -/
theorem add_I {i : Int32} {k : Int} (h : InI (i.toInt + k)) : (i + Int32.ofInt k).toInt = i.toInt + k := by
  rw [show i + Int32.ofInt k = Int32.ofInt (i.toInt + k) by rw [Int32.ofInt_add, Int32.ofInt_toInt]]
  exact wi h
theorem len_I {L : Nat} (h : L ≤ 3072) : (Int32.ofNat L - (Int8.ofInt 6).toInt32).toInt = (L : Int) - 6 := by
  rw [show Int32.ofNat L - (Int8.ofInt 6).toInt32 = Int32.ofInt ((L : Int) - 6) by rw [Int32.ofInt_sub]; rfl]
  exact wi (by unfold InI; omega)
theorem law_loop {S : Nat × (Nat → Int32)} (hS : S.1 ≤ 3072) : ∀ (N : Nat) (i : Int32) (lv : LV) (h : PH) (c s : Nat), LwS lv i → LR h → 0 ≤ i.toInt → i.toInt ≤ 3078 → ((S.1 : Int) + 6 - i.toInt).toNat < N → (c : Int) ≤ 1000 + 2 * i.toInt → (s : Int) ≤ 20000 + 8 * i.toInt → Vx (Ex S 24) S M_368 [] Q1 23 lv [] h c s := by
  intro N
  induction N with
  | zero => intros; omega
  | succ N ih =>
    intro i lv h c s hl hL h0 h1 hN hc hs
    have hC := Ex.mono S 24
    refine Vx.go hC te_368_23 ⟨_, hl.2.2.2.2, ?_⟩
    refine Vx.go hC te_368_25 ⟨_, hl.1, ⟨0, Or.inr rfl⟩, ?_⟩
    refine Vx.go hC te_368_26 ?_
    show Vx (Ex S 24) S M_368 [] Q1 27 lv [.int (Int32.ofNat S.1), .int i] h c s
    refine Vx.go hC te_368_27 (Vx.go hC te_368_29 (Vx.go hC te_368_30 ?_))
    refine ⟨by decide, fun q => ?_, fun q => ?_⟩
    · show Vx (Ex S 24) S M_368 [] Q1 2322 lv [] h c s
      exact Vx.go hC te_368_2322 (Vx.go hC te_368_2323 ⟨_, rfl, ⟨_, rfl, rfl⟩, rfl⟩)
    · have q : ¬ (Int32.ofNat S.1 - (Int8.ofInt 6).toInt32 < i) := q
      rw [Int32.lt_iff_toInt_lt, len_I hS] at q
      have hi : 0 ≤ i.toInt ∧ i.toInt + 5 < S.1 := by omega
      have Nx : ∀ lv' h' c' s', LwS lv' i → LR h' → c' ≤ c + 8 → s' ≤ s + 48 → Vx (Ex S 24) S M_368 [] Q1 2316 lv' [] h' c' s' := by
        intro lv' h' c' s' hl' hL' hc' hs'
        have e := add_I (i := i) (k := 6) (by unfold InI; omega)
        refine Vx.go hC te_368_2316 ⟨by decide, _, hl'.2.2.2.2, ?_⟩
        refine Vx.go hC te_368_2319 ⟨by decide, ?_⟩
        exact ih (i + Int32.ofInt 6) _ h' c' s' hl'.inc hL' (by rw [e]; omega) (by rw [e]; omega) (by rw [e]; omega) (by rw [e]; omega) (by rw [e]; omega)
      show Vx (Ex S 24) S M_368 [] Q1 33 lv [] h c s
      refine Vx.go hC te_368_33 ⟨_, hl.1, ⟨0, Or.inr rfl⟩, ?_⟩
      refine Vx.go hC te_368_34 ⟨_, hl.2.2.2.2, ?_⟩
      refine Vx.go hC te_368_36 ⟨vp_in_iff.mpr (by omega), ?_⟩
      show Vx (Ex S 24) S M_368 [] Q1 37 lv [.int (S.2 i.toNatClampNeg)] h c s
      refine Vx.go hC te_368_37 (Vx.go hC te_368_39 ?_)
      show Vx (Ex S 24) S M_368 [] Q1 40 lv [.int (S.2 i.toNatClampNeg &&& (Int8.ofInt 63).toInt32)] h c s
      generalize S.2 i.toNatClampNeg &&& (Int8.ofInt 63).toInt32 = x
      refine Vx.go hC te_368_40 ⟨fun _ => ⟨by decide, Nx _ _ _ _ hl hL (by omega) (by omega)⟩, fun q1 q2 => ?_⟩
      have hj : (x.toInt - 0).toNat < 49 := by omega
      generalize (x.toInt - 0).toNat = j at hj ⊢
      have a : j = 0 ∨ j = 1 ∨ j = 2 ∨ j = 3 ∨ j = 4 ∨ j = 5 ∨ j = 6 ∨ j = 7 ∨ j = 8 ∨ j = 9 ∨ j = 10 ∨ j = 11 ∨ j = 12 ∨ j = 13 ∨ j = 14 ∨ j = 15 ∨ j = 16 ∨ j = 17 ∨ j = 18 ∨ j = 19 ∨ j = 20 ∨ j = 21 ∨ j = 22 ∨ j = 23 ∨ j = 24 ∨ j = 25 ∨ j = 26 ∨ j = 27 ∨ j = 28 ∨ j = 29 ∨ j = 30 ∨ j = 31 ∨ j = 32 ∨ j = 33 ∨ j = 34 ∨ j = 35 ∨ j = 36 ∨ j = 37 ∨ j = 38 ∨ j = 39 ∨ j = 40 ∨ j = 41 ∨ j = 42 ∨ j = 43 ∨ j = 44 ∨ j = 45 ∨ j = 46 ∨ j = 47 ∨ j = 48 := by omega
      rcases a with rfl | rfl | rfl | rfl | rfl | rfl | rfl | rfl | rfl | rfl | rfl | rfl | rfl | rfl | rfl | rfl | rfl | rfl | rfl | rfl | rfl | rfl | rfl | rfl | rfl | rfl | rfl | rfl | rfl | rfl | rfl | rfl | rfl | rfl | rfl | rfl | rfl | rfl | rfl | rfl | rfl | rfl | rfl | rfl | rfl | rfl | rfl | rfl | rfl
      · exact ⟨_, rfl, by decide, lc_0 hS hl hi hL (by omega) (by omega) Nx⟩
      · exact ⟨_, rfl, by decide, lc_1 hS hl hi hL (by omega) (by omega) Nx⟩
      · exact ⟨_, rfl, by decide, lc_2 hS hl hi hL (by omega) (by omega) Nx⟩
      · exact ⟨_, rfl, by decide, lc_3 hS hl hi hL (by omega) (by omega) Nx⟩
      · exact ⟨_, rfl, by decide, lc_4 hS hl hi hL (by omega) (by omega) Nx⟩
      · exact ⟨_, rfl, by decide, lc_5 hS hl hi hL (by omega) (by omega) Nx⟩
      · exact ⟨_, rfl, by decide, lc_6 hS hl hi hL (by omega) (by omega) Nx⟩
      · exact ⟨_, rfl, by decide, lc_7 hS hl hi hL (by omega) (by omega) Nx⟩
      · exact ⟨_, rfl, by decide, lc_8 hS hl hi hL (by omega) (by omega) Nx⟩
      · exact ⟨_, rfl, by decide, lc_9 hS hl hi hL (by omega) (by omega) Nx⟩
      · exact ⟨_, rfl, by decide, lc_10 hS hl hi hL (by omega) (by omega) Nx⟩
      · exact ⟨_, rfl, by decide, lc_11 hS hl hi hL (by omega) (by omega) Nx⟩
      · exact ⟨_, rfl, by decide, lc_12 hS hl hi hL (by omega) (by omega) Nx⟩
      · exact ⟨_, rfl, by decide, lc_13 hS hl hi hL (by omega) (by omega) Nx⟩
      · exact ⟨_, rfl, by decide, lc_14 hS hl hi hL (by omega) (by omega) Nx⟩
      · exact ⟨_, rfl, by decide, lc_15 hS hl hi hL (by omega) (by omega) Nx⟩
      · exact ⟨_, rfl, by decide, lc_16 hS hl hi hL (by omega) (by omega) Nx⟩
      · exact ⟨_, rfl, by decide, lc_17 hS hl hi hL (by omega) (by omega) Nx⟩
      · exact ⟨_, rfl, by decide, lc_18 hS hl hi hL (by omega) (by omega) Nx⟩
      · exact ⟨_, rfl, by decide, lc_19 hS hl hi hL (by omega) (by omega) Nx⟩
      · exact ⟨_, rfl, by decide, lc_20 hS hl hi hL (by omega) (by omega) Nx⟩
      · exact ⟨_, rfl, by decide, lc_21 hS hl hi hL (by omega) (by omega) Nx⟩
      · exact ⟨_, rfl, by decide, lc_22 hS hl hi hL (by omega) (by omega) Nx⟩
      · exact ⟨_, rfl, by decide, lc_23 hS hl hi hL (by omega) (by omega) Nx⟩
      · exact ⟨_, rfl, by decide, lc_24 hS hl hi hL (by omega) (by omega) Nx⟩
      · exact ⟨_, rfl, by decide, lc_25 hS hl hi hL (by omega) (by omega) Nx⟩
      · exact ⟨_, rfl, by decide, lc_26 hS hl hi hL (by omega) (by omega) Nx⟩
      · exact ⟨_, rfl, by decide, lc_27 hS hl hi hL (by omega) (by omega) Nx⟩
      · exact ⟨_, rfl, by decide, lc_28 hS hl hi hL (by omega) (by omega) Nx⟩
      · exact ⟨_, rfl, by decide, lc_29 hS hl hi hL (by omega) (by omega) Nx⟩
      · exact ⟨_, rfl, by decide, lc_30 hS hl hi hL (by omega) (by omega) Nx⟩
      · exact ⟨_, rfl, by decide, lc_31 hS hl hi hL (by omega) (by omega) Nx⟩
      · exact ⟨_, rfl, by decide, lc_32 hS hl hi hL (by omega) (by omega) Nx⟩
      · exact ⟨_, rfl, by decide, lc_33 hS hl hi hL (by omega) (by omega) Nx⟩
      · exact ⟨_, rfl, by decide, lc_34 hS hl hi hL (by omega) (by omega) Nx⟩
      · exact ⟨_, rfl, by decide, lc_35 hS hl hi hL (by omega) (by omega) Nx⟩
      · exact ⟨_, rfl, by decide, lc_36 hS hl hi hL (by omega) (by omega) Nx⟩
      · exact ⟨_, rfl, by decide, lc_37 hS hl hi hL (by omega) (by omega) Nx⟩
      · exact ⟨_, rfl, by decide, lc_38 hS hl hi hL (by omega) (by omega) Nx⟩
      · exact ⟨_, rfl, by decide, lc_39 hS hl hi hL (by omega) (by omega) Nx⟩
      · exact ⟨_, rfl, by decide, lc_40 hS hl hi hL (by omega) (by omega) Nx⟩
      · exact ⟨_, rfl, by decide, lc_41 hS hl hi hL (by omega) (by omega) Nx⟩
      · exact ⟨_, rfl, by decide, lc_42 hS hl hi hL (by omega) (by omega) Nx⟩
      · exact ⟨_, rfl, by decide, lc_43 hS hl hi hL (by omega) (by omega) Nx⟩
      · exact ⟨_, rfl, by decide, lc_44 hS hl hi hL (by omega) (by omega) Nx⟩
      · exact ⟨_, rfl, by decide, lc_45 hS hl hi hL (by omega) (by omega) Nx⟩
      · exact ⟨_, rfl, by decide, lc_46 hS hl hi hL (by omega) (by omega) Nx⟩
      · exact ⟨_, rfl, by decide, lc_47 hS hl hi hL (by omega) (by omega) Nx⟩
      · exact ⟨_, rfl, by decide, lc_48 hS hl hi hL (by omega) (by omega) Nx⟩
end
section
/-! steps of the pure machine by hand, for loops that are known whole -/
theorem lR.ref {θ : Nat → Int32} {lv : LW} {lv' : LV} (h : lR θ lv lv') {i a : Nat} (hi : lv[i]? = some (.inr (.inr (.ref a)))) : px_g lv' i = some (.ref a) := by
  rcases h i _ hi with q | ⟨w, g1, g2, -⟩
  · cases q
  · rw [g1, show w = .ref a from g2]
abbrev MAF : Type := EV → LW → LW → HT → (List EV → Bool) → (Nat → LW → LW → HT → Bool) → Bool → Bool
def o_mac (f : MAF) (op : OPF) : OPF := fun X env lv st m h c s go cut call ret => match Nat.ble c (pC X.2.1) && Nat.ble s (pS X.2.1) with
  | true => f env lv st h cut (fun pc lv st h => go pc lv st m h c s) (op X env lv st m h c s go cut call ret)
  | false => op X env lv st m h c s go cut call ret
def MOK (θ : Nat → Int32) (L : Nat) (C : Nat → List Value → PH → (Rs → PH → Prop) → Prop) (M : PM) (hd : HD4) (Q : Rs → PH → Prop) (pc : Nat) (f : MAF) : Prop :=
  ∀ (env : EV) (lv st : LW) (m : Nat) (h : HT) (c s : Nat) (cut : List EV → Bool) (go : Nat → LW → LW → HT → Bool) (els : Bool) (lv' : LV) (st' : List Value) (h' : PH),
    eR θ env → lR θ lv lv' → A2 (vR θ) st st' → hR θ m h h' →
    (∀ pc2 lv2 st2 h2, go pc2 lv2 st2 h2 = true → ∀ lv2' st2' h2', lR θ lv2 lv2' → A2 (vR θ) st2 st2' → hR θ m h2 h2' → Vx C (L, θ) M hd Q pc2 lv2' st2' h2' c s) →
    c ≤ pC M ∧ s ≤ pS M → f env lv st h cut go els = true → els = true ∨ CUT θ cut ∨ Vx C (L, θ) M hd Q pc lv' st' h' c s
theorem SOK.mac {θ : Nat → Int32} {L : Nat} {C : Nat → List Value → PH → (Rs → PH → Prop) → Prop} {M : PM} {hd : HD4} {Q : Rs → PH → Prop} {pc : Nat} {f : MAF} {op : OPF} (hf : MOK θ L C M hd Q pc f) (hop : SOK θ L C M hd Q pc op) : SOK θ L C M hd Q pc (o_mac f op) := by
  intro env lv st m h c s go cut call ret lv' st' h' he hlv hst hh hgo hcall hret H
  unfold o_mac at H
  split at H
  · rename_i hb
    rw [Bool.and_eq_true, Nat.ble_eq, Nat.ble_eq] at hb
    rcases hf env lv st m h c s cut _ _ lv' st' h' he hlv hst hh (fun pc2 lv2 st2 h2 H2 => hgo pc2 lv2 st2 m h2 c s H2) hb H with q | q | q
    · exact hop env lv st m h c s go cut call ret lv' st' h' he hlv hst hh hgo hcall hret q
    · exact Or.inl q
    · exact Or.inr q
  · exact hop env lv st m h c s go cut call ret lv' st' h' he hlv hst hh hgo hcall hret H
end
section
/-! a table of functions is that of a method -/
noncomputable def mkM (ml : List (Nat × MAF)) (te : TE) : Nat × OPF := (te.1, match ml.find? (fun q => q.1 == te.1) with
  | some q => o_mac q.2 (mkO te)
  | none => mkO te)
def EOK (θ : Nat → Int32) (L μ : Nat) (N : MEn) : Prop := MT[μ]? = some N.1 ∧ N.2.1 = (if pK N.1 = 3 then hdOf μ else []) ∧ (∀ v ∈ N.2.2.1, v = aU) ∧ pN N.1 ≤ pL N.1 ∧ ∀ (n : Nat) (Q : Rs → PH → Prop), ∀ e ∈ N.2.2.2, SOK θ L (Ex (L, θ) (n + 4)) N.1 N.2.1 Q e.1 e.2
theorem SOK.tab {θ : Nat → Int32} {L : Nat} {C : Nat → List Value → PH → (Rs → PH → Prop) → Prop} {M : PM} {hd : HD4} {Q : Rs → PH → Prop} {ml : List (Nat × MAF)} (hC : Cmono C) (ht : tInc (pT M) = true) (hml : ∀ q ∈ ml, MOK θ L C M hd Q q.1 q.2) {te : TE} (hte : te ∈ pT M) : SOK θ L C M hd Q (mkM ml te).1 (mkM ml te).2 := by
  have hf := tInc.find ht hte
  have h0 : SOK θ L C M hd Q te.1 (mkO te) := SOK.of hC hf
  unfold mkM
  dsimp only
  split
  · rename_i q hq
    have h1 := hml q (List.mem_of_find?_eq_some hq)
    have h2 : q.1 = te.1 := by have h3 := List.find?_some hq; simpa using h3
    rw [h2] at h1
    exact SOK.mac h1 h0
  · exact h0
theorem EOK.of {θ : Nat → Int32} {L μ : Nat} {M : PM} {hd : HD4} {pad : LW} {T : List (Nat × OPF)} {ml : List (Nat × MAF)} (h1 : MT[μ]? = some M) (h2 : hd = if pK M = 3 then hdOf μ else []) (h3 : pad.all isU = true) (h4 : Nat.ble (pN M) (pL M) = true) (hT : T = (pT M).map (mkM ml)) (ht : tInc (pT M) = true) (hml : ∀ (n : Nat) (Q : Rs → PH → Prop), ∀ q ∈ ml, MOK θ L (Ex (L, θ) (n + 4)) M hd Q q.1 q.2) : EOK θ L μ (M, hd, pad, T) := by
  refine ⟨h1, h2, fun v hv => isU_ok (List.all_eq_true.mp h3 v hv), Nat.le_of_ble_eq_true h4, fun n Q e he => ?_⟩
  have he : e ∈ T := he
  rw [hT] at he
  obtain ⟨te, h5, rfl⟩ := List.mem_map.mp he
  exact SOK.tab (Ex.mono _ _) ht (hml n Q) h5
def ROKa (θ : Nat → Int32) (L : Nat) : Nat → List MEn → Prop
  | _, [] => True
  | k, N :: l => (N.2.2.2 = [] ∨ EOK θ L k N) ∧ ROKa θ L (k + 1) l
theorem ROKa.get {θ : Nat → Int32} {L : Nat} : ∀ {l : List MEn} {k j : Nat} {N : MEn}, ROKa θ L k l → l[j]? = some N → N.2.2.2 = [] ∨ EOK θ L (k + j) N
  | [], k, j, N, _, h => by simp at h
  | M :: l, k, 0, N, h, hN => by simp at hN; subst hN; exact h.1
  | M :: l, k, j + 1, N, h, hN => by
    have := ROKa.get h.2 (show l[j]? = some N by simpa using hN)
    rwa [show k + 1 + j = k + (j + 1) by omega] at this
def RRa (θ : Nat → Int32) (L : Nat) : Nat → List (List MEn) → Prop
  | _, [] => True
  | r, l :: rs => ROKa θ L (20 * r) l ∧ RRa θ L (r + 1) rs
theorem RRa.get {θ : Nat → Int32} {L : Nat} : ∀ {rs : List (List MEn)} {r j : Nat} {l : List MEn}, RRa θ L r rs → rs[j]? = some l → ROKa θ L (20 * (r + j)) l
  | [], r, j, l, _, h => by simp at h
  | x :: rs, r, 0, l, h, hl => by simp at hl; subst hl; exact h.1
  | x :: rs, r, j + 1, l, h, hl => by
    have := RRa.get h.2 (show rs[j]? = some l by simpa using hl)
    rwa [show r + 1 + j = r + (j + 1) by omega] at this
theorem mtOK_of {θ : Nat → Int32} {L : Nat} {mt : List (List MEn)} (h : RRa θ L 0 mt) : mtOK θ L mt := by
  intro μ N hN
  unfold mget at hN
  rw [lget_eq] at hN
  split at hN
  · rename_i r hr
    rw [lget_eq] at hN
    have h1 := (RRa.get h hr).get hN
    have e : 20 * (0 + μ.div 20) + μ.mod 20 = μ := by
      have := Nat.div_add_mod μ 20
      show 20 * (0 + μ / 20) + μ % 20 = μ
      omega
    rw [e] at h1
    exact h1
  · cases hN
end
section
/-! laid by wip/hand/mk60.py: the constructors as functions -/
abbrev dW_0 : LW := [.inl (.ofNat 0), .inr (.inr .null), .inr (.inr .null), .inr (.inr .null), .inr (.inr .null), .inr (.inr .null), .inr (.inr .null), .inr (.inr .null)]
abbrev dW_1 : LW := [.inl (.ofNat 0), .inl (.ofNat 0), .inl (.ofNat 0), .inl (.ofNat 0), .inl (.ofNat 0), .inl (.ofNat 0), .inl (.ofNat 0), .inl (.ofNat 0), .inr (.inr .null), .inr (.inr .null), .inr (.inr .null), .inr (.inr .null), .inr (.inr .null), .inr (.inr .null)]
abbrev dW_2 : LW := [.inl (.ofNat 0), .inl (.ofNat 0), .inl (.ofNat 0), .inl (.ofNat 0), .inr (.inr .null), .inr (.inr .null), .inr (.inr .null), .inr (.inr .null)]
abbrev dW_3 : LW := [.inr (.inr .null), .inl (.ofNat 0), .inl (.ofNat 0)]
abbrev dW_4 : LW := [.inr (.inr .null), .inr (.inr .null)]
abbrev dW_5 : LW := [.inl (.ofNat 0), .inl (.ofNat 0), .inr (.inr .null)]
abbrev dW_6 : LW := [.inl (.ofNat 0), .inl (.ofNat 0), .inl (.ofNat 0), .inl (.ofNat 0), .inl (.ofNat 0), .inr (.inr .null), .inr (.inr .null), .inr (.inr .null), .inr (.inr .null), .inr (.inr .null), .inr (.inr .null), .inr (.inr .null), .inr (.inr .null), .inr (.inr .null), .inr (.inr .null), .inr (.inr .null), .inr (.inr .null), .inr (.inr .null), .inr (.inr .null), .inr (.inr .null)]
abbrev dW_7 : LW := [.inl (.ofNat 0), .inr (.inr .null), .inr (.inr .null), .inr (.inr .null), .inr (.inr .null), .inl (.ofNat 0), .inl (.ofNat 0), .inl (.ofNat 0)]
abbrev dW_8 : LW := [.inr (.inr .null)]
abbrev dW_9 : LW := [.inr (.inr .null), .inr (.inr .null), .inr (.inr .null), .inr (.inr .null), .inr (.inr .null), .inr (.inr .null), .inr (.inr .null), .inr (.inr .null), .inr (.inr .null), .inr (.inr .null), .inl (.ofNat 0), .inl (.ofNat 0)]
abbrev dW_10 : LW := [.inl (.ofNat 0), .inl (.ofNat 0), .inr (.inr .null), .inr (.inr .null), .inr (.inr .null), .inr (.inr .null), .inr (.inr .null), .inr (.inr .null), .inr (.inr .null), .inr (.inr .null), .inr (.inr .null), .inr (.inr .null), .inl (.ofNat 0), .inr (.inr .null), .inr (.inr .null), .inr (.inr .null), .inr (.inr .null), .inr (.inr .null), .inl (.ofNat 0), .inr (.inr .null), .inr (.inr .null), .inr (.inr .null), .inr (.inr .null), .inr (.inr .null), .inr (.inr .null), .inl (.ofNat 0), .inr (.inr .null), .inr (.inr .null), .inr (.inr .null), .inr (.inr .null), .inr (.inr .null), .inl (.ofNat 0), .inl (.ofNat 0), .inl (.ofNat 0), .inr (.inr .null), .inr (.inr .null), .inr (.inr .null)]
noncomputable def T_0_1 : List (Nat × OPF) := [(84, o_dup 85), (85, o_call 5 true), (88, o_aast 89), (89, o_iinc 1 (.ofNat 1) 92), (92, o_goto 70), (95, o_aload 0 96), (96, o_new 2 8 dW_2 99), (99, o_dup 100), (100, o_call 6 true), (103, o_put 9 6 2 106), (106, o_aload 0 107), (107, o_new 4 2 dW_4 110), (110, o_dup 111), (111, o_call 7 true), (114, o_put 9 7 2 117), (117, o_aload 0 118), (118, o_new 8 1 dW_8 121), (121, o_dup 122), (122, o_call 8 true), (125, o_put 9 8 2 128), (128, o_aload 0 129), (129, o_new 3 3 dW_3 132), (132, o_dup 133), (133, o_call 9 true), (136, o_put 9 9 2 139), (139, o_aload 0 140), (140, o_push (.inl (.ofNat 1)) 141), (141, o_put 9 11 1 144), (144, o_ret)]
noncomputable def T_0 : List (Nat × OPF) := (0, o_aload 0 1) :: (1, o_obj 4) :: (4, o_aload 0 5) :: (5, o_new 0 8 dW_0 8) :: (8, o_dup 9) :: (9, o_call 1 true) :: (12, o_put 9 0 2 15) :: (15, o_aload 0 16) :: (16, o_new 7 8 dW_7 19) :: (19, o_dup 20) :: (20, o_call 2 true) :: (23, o_put 9 1 2 26) :: (26, o_aload 0 27) :: (27, o_new 7 8 dW_7 30) :: (30, o_dup 31) :: (31, o_call 2 true) :: (34, o_put 9 2 2 37) :: (37, o_aload 0 38) :: (38, o_new 5 3 dW_5 41) :: (41, o_dup 42) :: (42, o_call 3 true) :: (45, o_put 9 3 2 48) :: (48, o_aload 0 49) :: (49, o_new 6 20 dW_6 52) :: (52, o_dup 53) :: (53, o_call 4 true) :: (56, o_put 9 4 2 59) :: (59, o_aload 0 60) :: (60, o_push (.inl (.ofNat 13)) 62) :: (62, o_newr 65) :: (65, o_put 9 5 2 68) :: (68, o_push (.inl (.ofNat 0)) 69) :: (69, o_istore 1 70) :: (70, o_iload 1 71) :: (71, o_push (.inl (.ofNat 12)) 73) :: (73, o_icmp .gt 95 76) :: (76, o_aload 0 77) :: (77, o_get 9 5 80) :: (80, o_iload 1 81) :: (81, o_new 1 14 dW_1 84) :: T_0_1
noncomputable def T_1_2 : List (Nat × OPF) := [(104, o_iast 105), (105, o_dup 106), (106, o_push (.inl (.ofNat 2)) 107), (107, o_push (.inl (.ofNat 3)) 108), (108, o_iast 109), (109, o_dup 110), (110, o_push (.inl (.ofNat 3)) 111), (111, o_push (.inl (.ofNat 1)) 112), (112, o_iast 113), (113, o_dup 114), (114, o_push (.inl (.ofNat 4)) 115), (115, o_push (.inl (.ofNat 1)) 116), (116, o_iast 117), (117, o_dup 118), (118, o_push (.inl (.ofNat 5)) 119), (119, o_push (.inl (.ofNat 1)) 120), (120, o_iast 121), (121, o_put 0 6 2 124), (124, o_aload 0 125), (125, o_push (.inl (.ofNat 3)) 126), (126, o_newi 128), (128, o_dup 129), (129, o_push (.inl (.ofNat 0)) 130), (130, o_push (.inl (.ofNat 1)) 131), (131, o_iast 132), (132, o_dup 133), (133, o_push (.inl (.ofNat 1)) 134), (134, o_push (.inl (.ofNat 1)) 135), (135, o_iast 136), (136, o_dup 137), (137, o_push (.inl (.ofNat 2)) 138), (138, o_push (.inl (.ofNat 1)) 139), (139, o_iast 140), (140, o_put 0 7 2 143), (143, o_ret)]
noncomputable def T_1_1 : List (Nat × OPF) := (56, o_iast 57) :: (57, o_put 0 4 2 60) :: (60, o_aload 0 61) :: (61, o_push (.inl (.ofNat 6)) 63) :: (63, o_newi 65) :: (65, o_dup 66) :: (66, o_push (.inl (.ofNat 0)) 67) :: (67, o_push (.inl (.ofNat 1)) 68) :: (68, o_iast 69) :: (69, o_dup 70) :: (70, o_push (.inl (.ofNat 1)) 71) :: (71, o_push (.inl (.ofNat 1)) 72) :: (72, o_iast 73) :: (73, o_dup 74) :: (74, o_push (.inl (.ofNat 2)) 75) :: (75, o_push (.inl (.ofNat 3)) 76) :: (76, o_iast 77) :: (77, o_dup 78) :: (78, o_push (.inl (.ofNat 3)) 79) :: (79, o_push (.inl (.ofNat 1)) 80) :: (80, o_iast 81) :: (81, o_dup 82) :: (82, o_push (.inl (.ofNat 4)) 83) :: (83, o_push (.inl (.ofNat 2)) 84) :: (84, o_iast 85) :: (85, o_dup 86) :: (86, o_push (.inl (.ofNat 5)) 87) :: (87, o_push (.inl (.ofNat 1)) 88) :: (88, o_iast 89) :: (89, o_put 0 5 2 92) :: (92, o_aload 0 93) :: (93, o_push (.inl (.ofNat 6)) 95) :: (95, o_newi 97) :: (97, o_dup 98) :: (98, o_push (.inl (.ofNat 0)) 99) :: (99, o_push (.inl (.ofNat 1)) 100) :: (100, o_iast 101) :: (101, o_dup 102) :: (102, o_push (.inl (.ofNat 1)) 103) :: (103, o_push (.inl (.ofNat 1)) 104) :: T_1_2
noncomputable def T_1 : List (Nat × OPF) := (0, o_aload 0 1) :: (1, o_obj 4) :: (4, o_aload 0 5) :: (5, o_push (.inl (.ofNat 8)) 7) :: (7, o_newi 9) :: (9, o_put 0 1 2 12) :: (12, o_aload 0 13) :: (13, o_push (.inl (.ofNat 32)) 15) :: (15, o_newi 17) :: (17, o_put 0 2 2 20) :: (20, o_aload 0 21) :: (21, o_push (.inl (.ofNat 8)) 23) :: (23, o_newi 25) :: (25, o_put 0 3 2 28) :: (28, o_aload 0 29) :: (29, o_push (.inl (.ofNat 6)) 31) :: (31, o_newi 33) :: (33, o_dup 34) :: (34, o_push (.inl (.ofNat 0)) 35) :: (35, o_push (.inl (.ofNat 0)) 36) :: (36, o_iast 37) :: (37, o_dup 38) :: (38, o_push (.inl (.ofNat 1)) 39) :: (39, o_push (.inl (.ofNat 0)) 40) :: (40, o_iast 41) :: (41, o_dup 42) :: (42, o_push (.inl (.ofNat 2)) 43) :: (43, o_push (.inl (.ofNat 1)) 44) :: (44, o_iast 45) :: (45, o_dup 46) :: (46, o_push (.inl (.ofNat 3)) 47) :: (47, o_push (.inl (.ofNat 0)) 48) :: (48, o_iast 49) :: (49, o_dup 50) :: (50, o_push (.inl (.ofNat 4)) 51) :: (51, o_push (.inl (.ofNat 2)) 52) :: (52, o_iast 53) :: (53, o_dup 54) :: (54, o_push (.inl (.ofNat 5)) 55) :: (55, o_push (.inl (.ofNat 2)) 56) :: T_1_1
noncomputable def T_2 : List (Nat × OPF) := [(0, o_aload 0 1), (1, o_obj 4), (4, o_aload 0 5), (5, o_push (.inl (.ofNat 64)) 7), (7, o_newi 9), (9, o_put 7 1 2 12), (12, o_aload 0 13), (13, o_push (.inl (.ofNat 64)) 15), (15, o_newi 17), (17, o_put 7 2 2 20), (20, o_aload 0 21), (21, o_push (.inl (.ofNat 64)) 23), (23, o_newi 25), (25, o_put 7 3 2 28), (28, o_aload 0 29), (29, o_push (.inl (.ofNat 64)) 31), (31, o_newi 33), (33, o_put 7 4 2 36), (36, o_aload 0 37), (37, o_push (.inl (.ofNat 1)) 38), (38, o_put 7 6 0 41), (41, o_ret)]
noncomputable def T_3 : List (Nat × OPF) := [(0, o_aload 0 1), (1, o_obj 4), (4, o_aload 0 5), (5, o_push (.inl (.ofNat 64)) 7), (7, o_newi 9), (9, o_put 5 2 2 12), (12, o_ret)]
noncomputable def T_4_1 : List (Nat × OPF) := [(78, o_newi 80), (80, o_put 6 14 2 83), (83, o_aload 0 84), (84, o_push (.inl (.ofNat 8)) 86), (86, o_newi 88), (88, o_put 6 15 2 91), (91, o_aload 0 92), (92, o_push (.inl (.ofNat 8)) 94), (94, o_newi 96), (96, o_put 6 16 2 99), (99, o_aload 0 100), (100, o_push (.inl (.ofNat 8)) 102), (102, o_newi 104), (104, o_put 6 17 2 107), (107, o_aload 0 108), (108, o_push (.inl (.ofNat 8)) 110), (110, o_newi 112), (112, o_put 6 18 2 115), (115, o_aload 0 116), (116, o_push (.inl (.ofNat 8)) 118), (118, o_newi 120), (120, o_put 6 19 2 123), (123, o_ret)]
noncomputable def T_4 : List (Nat × OPF) := (0, o_aload 0 1) :: (1, o_obj 4) :: (4, o_aload 0 5) :: (5, o_push (.inl (.ofNat 8)) 7) :: (7, o_newi 9) :: (9, o_put 6 5 2 12) :: (12, o_aload 0 13) :: (13, o_push (.inl (.ofNat 8)) 15) :: (15, o_newi 17) :: (17, o_put 6 6 2 20) :: (20, o_aload 0 21) :: (21, o_push (.inl (.ofNat 8)) 23) :: (23, o_newi 25) :: (25, o_put 6 7 2 28) :: (28, o_aload 0 29) :: (29, o_push (.inl (.ofNat 3)) 30) :: (30, o_newi 32) :: (32, o_put 6 8 2 35) :: (35, o_aload 0 36) :: (36, o_push (.inl (.ofNat 3)) 37) :: (37, o_newi 39) :: (39, o_put 6 9 2 42) :: (42, o_aload 0 43) :: (43, o_push (.inl (.ofNat 32)) 45) :: (45, o_newi 47) :: (47, o_put 6 10 2 50) :: (50, o_aload 0 51) :: (51, o_push (.inl (.ofNat 12)) 53) :: (53, o_newi 55) :: (55, o_put 6 11 2 58) :: (58, o_aload 0 59) :: (59, o_push (.inl (.ofNat 32)) 61) :: (61, o_newi 63) :: (63, o_put 6 12 2 66) :: (66, o_aload 0 67) :: (67, o_push (.inl (.ofNat 64)) 69) :: (69, o_newi 71) :: (71, o_put 6 13 2 74) :: (74, o_aload 0 75) :: (75, o_push (.inl (.ofNat 512)) 78) :: T_4_1
noncomputable def T_5 : List (Nat × OPF) := [(0, o_aload 0 1), (1, o_obj 4), (4, o_aload 0 5), (5, o_push (.inl (.ofNat 1)) 6), (6, o_put 1 3 0 9), (9, o_aload 0 10), (10, o_push (.inl (.ofNat 8)) 12), (12, o_newi 14), (14, o_put 1 8 2 17), (17, o_aload 0 18), (18, o_push (.inl (.ofNat 8)) 20), (20, o_newi 22), (22, o_put 1 9 2 25), (25, o_aload 0 26), (26, o_push (.inl (.ofNat 8)) 28), (28, o_newi 30), (30, o_put 1 10 2 33), (33, o_aload 0 34), (34, o_push (.inl (.ofNat 8)) 36), (36, o_newi 38), (38, o_put 1 11 2 41), (41, o_aload 0 42), (42, o_push (.inl (.ofNat 8)) 44), (44, o_newi 46), (46, o_put 1 12 2 49), (49, o_aload 0 50), (50, o_push (.inl (.ofNat 8)) 52), (52, o_newi 54), (54, o_put 1 13 2 57), (57, o_ret)]
noncomputable def T_6 : List (Nat × OPF) := [(0, o_aload 0 1), (1, o_obj 4), (4, o_aload 0 5), (5, o_push (.inl (.ofNat 8)) 7), (7, o_newi 9), (9, o_put 2 4 2 12), (12, o_aload 0 13), (13, o_push (.inl (.ofNat 8)) 15), (15, o_newi 17), (17, o_put 2 5 2 20), (20, o_aload 0 21), (21, o_push (.inl (.ofNat 12)) 23), (23, o_newi 25), (25, o_put 2 6 2 28), (28, o_aload 0 29), (29, o_push (.inl (.ofNat 8)) 31), (31, o_newi 33), (33, o_put 2 7 2 36), (36, o_ret)]
noncomputable def T_7 : List (Nat × OPF) := [(0, o_aload 0 1), (1, o_obj 4), (4, o_aload 0 5), (5, o_push (.inl (.ofNat 2)) 6), (6, o_push (.inl (.ofNat 64)) 8), (8, o_new2 12), (12, o_put 4 0 2 15), (15, o_aload 0 16), (16, o_push (.inl (.ofNat 320)) 19), (19, o_newi 21), (21, o_put 4 1 2 24), (24, o_ret)]
noncomputable def T_8 : List (Nat × OPF) := [(0, o_aload 0 1), (1, o_obj 4), (4, o_aload 0 5), (5, o_push (.inl (.ofNat 8)) 7), (7, o_newi 9), (9, o_put 8 0 2 12), (12, o_ret)]
noncomputable def T_9 : List (Nat × OPF) := [(0, o_aload 0 1), (1, o_obj 4), (4, o_aload 0 5), (5, o_push (.inl (.ofNat 1024)) 8), (8, o_newi 10), (10, o_put 3 0 2 13), (13, o_ret)]
noncomputable def T_224_4 : List (Nat × OPF) := [(307, o_push (.inl (.ofNat 2)) 308), (308, o_icmp .ne 315 311), (311, o_push (.inl (.ofNat 3)) 312), (312, o_goto 316), (315, o_push (.inl (.ofNat 1)) 316), (316, o_iast 317), (317, o_iinc 1 (.ofNat 1) 320), (320, o_goto 245), (323, o_push (.inl (.ofNat 0)) 324), (324, o_istore 1 325), (325, o_iload 1 326), (326, o_push (.inl (.ofNat 3)) 327), (327, o_icmp .ge 343 330), (330, o_aload 0 331), (331, o_get 10 11 334), (334, o_iload 1 335), (335, o_push (.inl (.ofNat 1)) 336), (336, o_iast 337), (337, o_iinc 1 (.ofNat 1) 340), (340, o_goto 325), (343, o_ret)]
noncomputable def T_224_3 : List (Nat × OPF) := (240, o_put 10 36 2 243) :: (243, o_push (.inl (.ofNat 0)) 244) :: (244, o_istore 1 245) :: (245, o_iload 1 246) :: (246, o_push (.inl (.ofNat 6)) 248) :: (248, o_icmp .ge 323 251) :: (251, o_aload 0 252) :: (252, o_get 10 8 255) :: (255, o_iload 1 256) :: (256, o_iload 1 257) :: (257, o_push (.inl (.ofNat 2)) 258) :: (258, o_icmp .ne 265 261) :: (261, o_push (.inl (.ofNat 1)) 262) :: (262, o_goto 275) :: (265, o_iload 1 266) :: (266, o_push (.inl (.ofNat 3)) 267) :: (267, o_icmp .le 274 270) :: (270, o_push (.inl (.ofNat 2)) 271) :: (271, o_goto 275) :: (274, o_push (.inl (.ofNat 0)) 275) :: (275, o_iast 276) :: (276, o_aload 0 277) :: (277, o_get 10 9 280) :: (280, o_iload 1 281) :: (281, o_iload 1 282) :: (282, o_push (.inl (.ofNat 2)) 283) :: (283, o_icmp .ne 290 286) :: (286, o_push (.inl (.ofNat 3)) 287) :: (287, o_goto 300) :: (290, o_iload 1 291) :: (291, o_push (.inl (.ofNat 4)) 292) :: (292, o_icmp .ne 299 295) :: (295, o_push (.inl (.ofNat 2)) 296) :: (296, o_goto 300) :: (299, o_push (.inl (.ofNat 1)) 300) :: (300, o_iast 301) :: (301, o_aload 0 302) :: (302, o_get 10 10 305) :: (305, o_iload 1 306) :: (306, o_iload 1 307) :: T_224_4
noncomputable def T_224_2 : List (Nat × OPF) := (157, o_put 10 22 2 160) :: (160, o_aload 0 161) :: (161, o_push (.inl (.ofNat 8)) 163) :: (163, o_newi 165) :: (165, o_put 10 23 2 168) :: (168, o_aload 0 169) :: (169, o_push (.inl (.ofNat 8)) 171) :: (171, o_newi 173) :: (173, o_put 10 24 2 176) :: (176, o_aload 0 177) :: (177, o_push (.inl (.ofNat 128)) 180) :: (180, o_newi 182) :: (182, o_put 10 26 2 185) :: (185, o_aload 0 186) :: (186, o_push (.inl (.ofNat 640)) 189) :: (189, o_newi 191) :: (191, o_put 10 27 2 194) :: (194, o_aload 0 195) :: (195, o_push (.inl (.ofNat 328)) 198) :: (198, o_newi 200) :: (200, o_put 10 28 2 203) :: (203, o_aload 0 204) :: (204, o_push (.inl (.ofNat 8)) 206) :: (206, o_newi 208) :: (208, o_put 10 29 2 211) :: (211, o_aload 0 212) :: (212, o_push (.inl (.ofNat 8)) 214) :: (214, o_newi 216) :: (216, o_put 10 30 2 219) :: (219, o_aload 0 220) :: (220, o_push (.inl (.ofNat 9)) 222) :: (222, o_newi 224) :: (224, o_put 10 34 2 227) :: (227, o_aload 0 228) :: (228, o_push (.inl (.ofNat 8)) 230) :: (230, o_newi 232) :: (232, o_put 10 35 2 235) :: (235, o_aload 0 236) :: (236, o_push (.inl (.ofNat 8)) 238) :: (238, o_newi 240) :: T_224_3
noncomputable def T_224_1 : List (Nat × OPF) := (78, o_newi 80) :: (80, o_put 10 11 2 83) :: (83, o_aload 0 84) :: (84, o_push (.inl (.ofNat 48)) 86) :: (86, o_newi 88) :: (88, o_put 10 13 2 91) :: (91, o_aload 0 92) :: (92, o_push (.inl (.ofNat 48)) 94) :: (94, o_newi 96) :: (96, o_put 10 14 2 99) :: (99, o_aload 0 100) :: (100, o_push (.inl (.ofNat 48)) 102) :: (102, o_newi 104) :: (104, o_put 10 15 2 107) :: (107, o_aload 0 108) :: (108, o_push (.inl (.ofNat 48)) 110) :: (110, o_newi 112) :: (112, o_put 10 16 2 115) :: (115, o_aload 0 116) :: (116, o_push (.inl (.ofNat 64)) 118) :: (118, o_newi 120) :: (120, o_put 10 17 2 123) :: (123, o_aload 0 124) :: (124, o_push (.inl (.negSucc 0)) 125) :: (125, o_put 10 18 0 128) :: (128, o_aload 0 129) :: (129, o_push (.inl (.ofNat 36)) 131) :: (131, o_newi 133) :: (133, o_put 10 19 2 136) :: (136, o_aload 0 137) :: (137, o_push (.inl (.ofNat 8)) 139) :: (139, o_newi 141) :: (141, o_put 10 20 2 144) :: (144, o_aload 0 145) :: (145, o_push (.inl (.ofNat 8)) 147) :: (147, o_newi 149) :: (149, o_put 10 21 2 152) :: (152, o_aload 0 153) :: (153, o_push (.inl (.ofNat 64)) 155) :: (155, o_newi 157) :: T_224_2
noncomputable def T_224 : List (Nat × OPF) := (0, o_aload 0 1) :: (1, o_obj 4) :: (4, o_aload 0 5) :: (5, o_push (.inl (.ofNat 8)) 7) :: (7, o_newi 9) :: (9, o_put 10 2 2 12) :: (12, o_aload 0 13) :: (13, o_push (.inl (.ofNat 8)) 15) :: (15, o_newi 17) :: (17, o_put 10 3 2 20) :: (20, o_aload 0 21) :: (21, o_push (.inl (.ofNat 8)) 23) :: (23, o_newi 25) :: (25, o_put 10 4 2 28) :: (28, o_aload 0 29) :: (29, o_push (.inl (.ofNat 8)) 31) :: (31, o_newi 33) :: (33, o_put 10 5 2 36) :: (36, o_aload 0 37) :: (37, o_push (.inl (.ofNat 8)) 39) :: (39, o_newi 41) :: (41, o_put 10 6 2 44) :: (44, o_aload 0 45) :: (45, o_push (.inl (.ofNat 8)) 47) :: (47, o_newi 49) :: (49, o_put 10 7 2 52) :: (52, o_aload 0 53) :: (53, o_push (.inl (.ofNat 6)) 55) :: (55, o_newi 57) :: (57, o_put 10 8 2 60) :: (60, o_aload 0 61) :: (61, o_push (.inl (.ofNat 6)) 63) :: (63, o_newi 65) :: (65, o_put 10 9 2 68) :: (68, o_aload 0 69) :: (69, o_push (.inl (.ofNat 6)) 71) :: (71, o_newi 73) :: (73, o_put 10 10 2 76) :: (76, o_aload 0 77) :: (77, o_push (.inl (.ofNat 3)) 78) :: T_224_1
noncomputable def E_0 : MEn := (M_0, [], [aU], T_0)
noncomputable def E_1 : MEn := (M_1, [], [], T_1)
noncomputable def E_2 : MEn := (M_2, [], [], T_2)
noncomputable def E_3 : MEn := (M_3, [], [], T_3)
noncomputable def E_4 : MEn := (M_4, [], [], T_4)
noncomputable def E_5 : MEn := (M_5, [], [], T_5)
noncomputable def E_6 : MEn := (M_6, [], [], T_6)
noncomputable def E_7 : MEn := (M_7, [], [], T_7)
noncomputable def E_8 : MEn := (M_8, [], [], T_8)
noncomputable def E_9 : MEn := (M_9, [], [], T_9)
noncomputable def E_224 : MEn := (M_224, [], [aU], T_224)
noncomputable def E_no : MEn := (M_0, [], [], [])
noncomputable def ER_0 : List MEn := [E_0, E_1, E_2, E_3, E_4, E_5, E_6, E_7, E_8, E_9, E_no, E_no, E_no, E_no, E_no, E_no, E_no, E_no, E_no, E_no]
noncomputable def ER_1 : List MEn := []
noncomputable def ER_2 : List MEn := []
noncomputable def ER_3 : List MEn := []
noncomputable def ER_4 : List MEn := []
noncomputable def ER_5 : List MEn := []
noncomputable def ER_6 : List MEn := []
noncomputable def ER_7 : List MEn := []
noncomputable def ER_8 : List MEn := []
noncomputable def ER_9 : List MEn := []
noncomputable def ER_10 : List MEn := []
noncomputable def ER_11 : List MEn := [E_no, E_no, E_no, E_no, E_224, E_no, E_no, E_no, E_no, E_no, E_no, E_no, E_no, E_no, E_no, E_no, E_no, E_no, E_no, E_no]
noncomputable def mtW : List (List MEn) := [ER_0, ER_1, ER_2, ER_3, ER_4, ER_5, ER_6, ER_7, ER_8, ER_9, ER_10, ER_11]
set_option maxRecDepth 1000000 in
theorem q_0 : T_0 = (pT M_0).map (mkM []) := rfl
theorem o_0 {θ : Nat → Int32} {L : Nat} : EOK θ L 0 E_0 := EOK.of (ml := []) rfl rfl rfl rfl q_0 (by decide +kernel) (fun n Q q hq => by cases hq)
set_option maxRecDepth 1000000 in
theorem q_1 : T_1 = (pT M_1).map (mkM []) := rfl
theorem o_1 {θ : Nat → Int32} {L : Nat} : EOK θ L 1 E_1 := EOK.of (ml := []) rfl rfl rfl rfl q_1 (by decide +kernel) (fun n Q q hq => by cases hq)
set_option maxRecDepth 1000000 in
theorem q_2 : T_2 = (pT M_2).map (mkM []) := rfl
theorem o_2 {θ : Nat → Int32} {L : Nat} : EOK θ L 2 E_2 := EOK.of (ml := []) rfl rfl rfl rfl q_2 (by decide +kernel) (fun n Q q hq => by cases hq)
set_option maxRecDepth 1000000 in
theorem q_3 : T_3 = (pT M_3).map (mkM []) := rfl
theorem o_3 {θ : Nat → Int32} {L : Nat} : EOK θ L 3 E_3 := EOK.of (ml := []) rfl rfl rfl rfl q_3 (by decide +kernel) (fun n Q q hq => by cases hq)
set_option maxRecDepth 1000000 in
theorem q_4 : T_4 = (pT M_4).map (mkM []) := rfl
theorem o_4 {θ : Nat → Int32} {L : Nat} : EOK θ L 4 E_4 := EOK.of (ml := []) rfl rfl rfl rfl q_4 (by decide +kernel) (fun n Q q hq => by cases hq)
set_option maxRecDepth 1000000 in
theorem q_5 : T_5 = (pT M_5).map (mkM []) := rfl
theorem o_5 {θ : Nat → Int32} {L : Nat} : EOK θ L 5 E_5 := EOK.of (ml := []) rfl rfl rfl rfl q_5 (by decide +kernel) (fun n Q q hq => by cases hq)
set_option maxRecDepth 1000000 in
theorem q_6 : T_6 = (pT M_6).map (mkM []) := rfl
theorem o_6 {θ : Nat → Int32} {L : Nat} : EOK θ L 6 E_6 := EOK.of (ml := []) rfl rfl rfl rfl q_6 (by decide +kernel) (fun n Q q hq => by cases hq)
set_option maxRecDepth 1000000 in
theorem q_7 : T_7 = (pT M_7).map (mkM []) := rfl
theorem o_7 {θ : Nat → Int32} {L : Nat} : EOK θ L 7 E_7 := EOK.of (ml := []) rfl rfl rfl rfl q_7 (by decide +kernel) (fun n Q q hq => by cases hq)
set_option maxRecDepth 1000000 in
theorem q_8 : T_8 = (pT M_8).map (mkM []) := rfl
theorem o_8 {θ : Nat → Int32} {L : Nat} : EOK θ L 8 E_8 := EOK.of (ml := []) rfl rfl rfl rfl q_8 (by decide +kernel) (fun n Q q hq => by cases hq)
set_option maxRecDepth 1000000 in
theorem q_9 : T_9 = (pT M_9).map (mkM []) := rfl
theorem o_9 {θ : Nat → Int32} {L : Nat} : EOK θ L 9 E_9 := EOK.of (ml := []) rfl rfl rfl rfl q_9 (by decide +kernel) (fun n Q q hq => by cases hq)
set_option maxRecDepth 1000000 in
theorem q_224 : T_224 = (pT M_224).map (mkM []) := rfl
theorem o_224 {θ : Nat → Int32} {L : Nat} : EOK θ L 224 E_224 := EOK.of (ml := []) rfl rfl rfl rfl q_224 (by decide +kernel) (fun n Q q hq => by cases hq)
theorem rr_0 {θ : Nat → Int32} {L : Nat} : ROKa θ L 0 ER_0 := ⟨Or.inr o_0, Or.inr o_1, Or.inr o_2, Or.inr o_3, Or.inr o_4, Or.inr o_5, Or.inr o_6, Or.inr o_7, Or.inr o_8, Or.inr o_9, Or.inl rfl, Or.inl rfl, Or.inl rfl, Or.inl rfl, Or.inl rfl, Or.inl rfl, Or.inl rfl, Or.inl rfl, Or.inl rfl, Or.inl rfl, trivial⟩
theorem rr_1 {θ : Nat → Int32} {L : Nat} : ROKa θ L 20 ER_1 := trivial
theorem rr_2 {θ : Nat → Int32} {L : Nat} : ROKa θ L 40 ER_2 := trivial
theorem rr_3 {θ : Nat → Int32} {L : Nat} : ROKa θ L 60 ER_3 := trivial
theorem rr_4 {θ : Nat → Int32} {L : Nat} : ROKa θ L 80 ER_4 := trivial
theorem rr_5 {θ : Nat → Int32} {L : Nat} : ROKa θ L 100 ER_5 := trivial
theorem rr_6 {θ : Nat → Int32} {L : Nat} : ROKa θ L 120 ER_6 := trivial
theorem rr_7 {θ : Nat → Int32} {L : Nat} : ROKa θ L 140 ER_7 := trivial
theorem rr_8 {θ : Nat → Int32} {L : Nat} : ROKa θ L 160 ER_8 := trivial
theorem rr_9 {θ : Nat → Int32} {L : Nat} : ROKa θ L 180 ER_9 := trivial
theorem rr_10 {θ : Nat → Int32} {L : Nat} : ROKa θ L 200 ER_10 := trivial
theorem rr_11 {θ : Nat → Int32} {L : Nat} : ROKa θ L 220 ER_11 := ⟨Or.inl rfl, Or.inl rfl, Or.inl rfl, Or.inl rfl, Or.inr o_224, Or.inl rfl, Or.inl rfl, Or.inl rfl, Or.inl rfl, Or.inl rfl, Or.inl rfl, Or.inl rfl, Or.inl rfl, Or.inl rfl, Or.inl rfl, Or.inl rfl, Or.inl rfl, Or.inl rfl, Or.inl rfl, Or.inl rfl, trivial⟩
theorem mtW_ok {θ : Nat → Int32} {L : Nat} : mtOK θ L mtW := mtOK_of ⟨rr_0, rr_1, rr_2, rr_3, rr_4, rr_5, rr_6, rr_7, rr_8, rr_9, rr_10, rr_11, trivial⟩
end
