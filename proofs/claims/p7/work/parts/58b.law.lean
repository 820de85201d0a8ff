/-! laid by wip/hand/lw.py: cases of the law -/
theorem te_368_252 : (pT M_368).find? (fun e => e.1 == 252) = some (252, .aload_n 1, 0, 0) := (sk_2 252 rfl).trans rfl
theorem te_368_253 : (pT M_368).find? (fun e => e.1 == 253) = some (253, .aload_n 0, 0, 0) := (sk_2 253 rfl).trans rfl
theorem te_368_254 : (pT M_368).find? (fun e => e.1 == 254) = some (254, .iload 4, 0, 0) := (sk_2 254 rfl).trans rfl
theorem te_368_256 : (pT M_368).find? (fun e => e.1 == 256) = some (256, .iconst 1, 0, 0) := (sk_2 256 rfl).trans rfl
theorem te_368_257 : (pT M_368).find? (fun e => e.1 == 257) = some (257, .iadd, 0, 0) := (sk_2 257 rfl).trans rfl
theorem te_368_258 : (pT M_368).find? (fun e => e.1 == 258) = some (258, .iaload, 0, 0) := (sk_2 258 rfl).trans rfl
theorem te_368_259 : (pT M_368).find? (fun e => e.1 == 259) = some (259, .aload_n 0, 0, 0) := (sk_2 259 rfl).trans rfl
theorem te_368_260 : (pT M_368).find? (fun e => e.1 == 260) = some (260, .iload 4, 0, 0) := (sk_2 260 rfl).trans rfl
theorem te_368_262 : (pT M_368).find? (fun e => e.1 == 262) = some (262, .iconst 2, 0, 0) := (sk_2 262 rfl).trans rfl
theorem te_368_263 : (pT M_368).find? (fun e => e.1 == 263) = some (263, .iadd, 0, 0) := (sk_2 263 rfl).trans rfl
theorem te_368_264 : (pT M_368).find? (fun e => e.1 == 264) = some (264, .iaload, 0, 0) := (sk_2 264 rfl).trans rfl
theorem te_368_265 : (pT M_368).find? (fun e => e.1 == 265) = some (265, .aload_n 0, 0, 0) := (sk_3 265 rfl).trans rfl
theorem te_368_266 : (pT M_368).find? (fun e => e.1 == 266) = some (266, .iload 4, 0, 0) := (sk_3 266 rfl).trans rfl
theorem te_368_268 : (pT M_368).find? (fun e => e.1 == 268) = some (268, .iconst 3, 0, 0) := (sk_3 268 rfl).trans rfl
theorem te_368_269 : (pT M_368).find? (fun e => e.1 == 269) = some (269, .iadd, 0, 0) := (sk_3 269 rfl).trans rfl
theorem te_368_270 : (pT M_368).find? (fun e => e.1 == 270) = some (270, .iaload, 0, 0) := (sk_3 270 rfl).trans rfl
theorem te_368_271 : (pT M_368).find? (fun e => e.1 == 271) = some (271, .aload_n 0, 0, 0) := (sk_3 271 rfl).trans rfl
theorem te_368_272 : (pT M_368).find? (fun e => e.1 == 272) = some (272, .iload 4, 0, 0) := (sk_3 272 rfl).trans rfl
theorem te_368_274 : (pT M_368).find? (fun e => e.1 == 274) = some (274, .iconst 4, 0, 0) := (sk_3 274 rfl).trans rfl
theorem te_368_275 : (pT M_368).find? (fun e => e.1 == 275) = some (275, .iadd, 0, 0) := (sk_3 275 rfl).trans rfl
theorem te_368_276 : (pT M_368).find? (fun e => e.1 == 276) = some (276, .iaload, 0, 0) := (sk_3 276 rfl).trans rfl
theorem te_368_277 : (pT M_368).find? (fun e => e.1 == 277) = some (277, .aload_n 0, 0, 0) := (sk_3 277 rfl).trans rfl
theorem te_368_278 : (pT M_368).find? (fun e => e.1 == 278) = some (278, .iload 4, 0, 0) := (sk_3 278 rfl).trans rfl
theorem te_368_280 : (pT M_368).find? (fun e => e.1 == 280) = some (280, .iconst 5, 0, 0) := (sk_4 280 rfl).trans rfl
theorem te_368_281 : (pT M_368).find? (fun e => e.1 == 281) = some (281, .iadd, 0, 0) := (sk_4 281 rfl).trans rfl
theorem te_368_282 : (pT M_368).find? (fun e => e.1 == 282) = some (282, .iaload, 0, 0) := (sk_4 282 rfl).trans rfl
theorem te_368_283 : (pT M_368).find? (fun e => e.1 == 283) = some (283, .aload_n 3, 0, 0) := (sk_4 283 rfl).trans rfl
theorem te_368_284 : (pT M_368).find? (fun e => e.1 == 284) = some (284, .invokestatic 174, 43, 8) := (sk_4 284 rfl).trans rfl
theorem te_368_287 : (pT M_368).find? (fun e => e.1 == 287) = some (287, .istore 5, 0, 0) := (sk_4 287 rfl).trans rfl
theorem te_368_289 : (pT M_368).find? (fun e => e.1 == 289) = some (289, .aload_n 2, 0, 0) := (sk_4 289 rfl).trans rfl
theorem te_368_290 : (pT M_368).find? (fun e => e.1 == 290) = some (290, .aload_n 0, 0, 0) := (sk_4 290 rfl).trans rfl
theorem te_368_291 : (pT M_368).find? (fun e => e.1 == 291) = some (291, .iload 4, 0, 0) := (sk_4 291 rfl).trans rfl
theorem te_368_293 : (pT M_368).find? (fun e => e.1 == 293) = some (293, .iconst 1, 0, 0) := (sk_4 293 rfl).trans rfl
theorem te_368_294 : (pT M_368).find? (fun e => e.1 == 294) = some (294, .iadd, 0, 0) := (sk_4 294 rfl).trans rfl
theorem te_368_295 : (pT M_368).find? (fun e => e.1 == 295) = some (295, .iaload, 0, 0) := (sk_4 295 rfl).trans rfl
theorem te_368_296 : (pT M_368).find? (fun e => e.1 == 296) = some (296, .aload_n 0, 0, 0) := (sk_5 296 rfl).trans rfl
theorem te_368_297 : (pT M_368).find? (fun e => e.1 == 297) = some (297, .iload 4, 0, 0) := (sk_5 297 rfl).trans rfl
theorem te_368_299 : (pT M_368).find? (fun e => e.1 == 299) = some (299, .iconst 2, 0, 0) := (sk_5 299 rfl).trans rfl
theorem te_368_300 : (pT M_368).find? (fun e => e.1 == 300) = some (300, .iadd, 0, 0) := (sk_5 300 rfl).trans rfl
theorem te_368_301 : (pT M_368).find? (fun e => e.1 == 301) = some (301, .iaload, 0, 0) := (sk_5 301 rfl).trans rfl
theorem te_368_302 : (pT M_368).find? (fun e => e.1 == 302) = some (302, .aload_n 0, 0, 0) := (sk_5 302 rfl).trans rfl
theorem te_368_303 : (pT M_368).find? (fun e => e.1 == 303) = some (303, .iload 4, 0, 0) := (sk_5 303 rfl).trans rfl
theorem te_368_305 : (pT M_368).find? (fun e => e.1 == 305) = some (305, .iconst 3, 0, 0) := (sk_5 305 rfl).trans rfl
theorem te_368_306 : (pT M_368).find? (fun e => e.1 == 306) = some (306, .iadd, 0, 0) := (sk_5 306 rfl).trans rfl
theorem te_368_307 : (pT M_368).find? (fun e => e.1 == 307) = some (307, .iaload, 0, 0) := (sk_5 307 rfl).trans rfl
theorem te_368_308 : (pT M_368).find? (fun e => e.1 == 308) = some (308, .aload_n 0, 0, 0) := (sk_5 308 rfl).trans rfl
theorem te_368_309 : (pT M_368).find? (fun e => e.1 == 309) = some (309, .iload 4, 0, 0) := (sk_5 309 rfl).trans rfl
theorem te_368_311 : (pT M_368).find? (fun e => e.1 == 311) = some (311, .iconst 4, 0, 0) := (sk_6 311 rfl).trans rfl
theorem te_368_312 : (pT M_368).find? (fun e => e.1 == 312) = some (312, .iadd, 0, 0) := (sk_6 312 rfl).trans rfl
theorem te_368_313 : (pT M_368).find? (fun e => e.1 == 313) = some (313, .iaload, 0, 0) := (sk_6 313 rfl).trans rfl
theorem te_368_314 : (pT M_368).find? (fun e => e.1 == 314) = some (314, .aload_n 0, 0, 0) := (sk_6 314 rfl).trans rfl
theorem te_368_315 : (pT M_368).find? (fun e => e.1 == 315) = some (315, .iload 4, 0, 0) := (sk_6 315 rfl).trans rfl
theorem te_368_317 : (pT M_368).find? (fun e => e.1 == 317) = some (317, .iconst 5, 0, 0) := (sk_6 317 rfl).trans rfl
theorem te_368_318 : (pT M_368).find? (fun e => e.1 == 318) = some (318, .iadd, 0, 0) := (sk_6 318 rfl).trans rfl
theorem te_368_319 : (pT M_368).find? (fun e => e.1 == 319) = some (319, .iaload, 0, 0) := (sk_6 319 rfl).trans rfl
theorem te_368_320 : (pT M_368).find? (fun e => e.1 == 320) = some (320, .invokevirtual 179, 226, 0) := (sk_6 320 rfl).trans rfl
theorem te_368_323 : (pT M_368).find? (fun e => e.1 == 323) = some (323, .istore 6, 0, 0) := (sk_6 323 rfl).trans rfl
theorem te_368_325 : (pT M_368).find? (fun e => e.1 == 325) = some (325, .goto 2002, 0, 0) := (sk_6 325 rfl).trans rfl
theorem te_368_328 : (pT M_368).find? (fun e => e.1 == 328) = some (328, .aload_n 1, 0, 0) := (sk_6 328 rfl).trans rfl
theorem te_368_329 : (pT M_368).find? (fun e => e.1 == 329) = some (329, .aload_n 0, 0, 0) := (sk_7 329 rfl).trans rfl
theorem te_368_330 : (pT M_368).find? (fun e => e.1 == 330) = some (330, .iload 4, 0, 0) := (sk_7 330 rfl).trans rfl
theorem te_368_332 : (pT M_368).find? (fun e => e.1 == 332) = some (332, .iconst 1, 0, 0) := (sk_7 332 rfl).trans rfl
theorem te_368_333 : (pT M_368).find? (fun e => e.1 == 333) = some (333, .iadd, 0, 0) := (sk_7 333 rfl).trans rfl
theorem te_368_334 : (pT M_368).find? (fun e => e.1 == 334) = some (334, .iaload, 0, 0) := (sk_7 334 rfl).trans rfl
theorem te_368_335 : (pT M_368).find? (fun e => e.1 == 335) = some (335, .aload_n 0, 0, 0) := (sk_7 335 rfl).trans rfl
theorem te_368_336 : (pT M_368).find? (fun e => e.1 == 336) = some (336, .iload 4, 0, 0) := (sk_7 336 rfl).trans rfl
theorem te_368_338 : (pT M_368).find? (fun e => e.1 == 338) = some (338, .iconst 2, 0, 0) := (sk_7 338 rfl).trans rfl
theorem te_368_339 : (pT M_368).find? (fun e => e.1 == 339) = some (339, .iadd, 0, 0) := (sk_7 339 rfl).trans rfl
theorem te_368_340 : (pT M_368).find? (fun e => e.1 == 340) = some (340, .iaload, 0, 0) := (sk_7 340 rfl).trans rfl
theorem te_368_341 : (pT M_368).find? (fun e => e.1 == 341) = some (341, .aload_n 3, 0, 0) := (sk_7 341 rfl).trans rfl
theorem te_368_342 : (pT M_368).find? (fun e => e.1 == 342) = some (342, .invokestatic 180, 48, 8) := (sk_7 342 rfl).trans rfl
theorem te_368_345 : (pT M_368).find? (fun e => e.1 == 345) = some (345, .istore 5, 0, 0) := (sk_8 345 rfl).trans rfl
theorem te_368_347 : (pT M_368).find? (fun e => e.1 == 347) = some (347, .aload_n 2, 0, 0) := (sk_8 347 rfl).trans rfl
theorem te_368_348 : (pT M_368).find? (fun e => e.1 == 348) = some (348, .aload_n 0, 0, 0) := (sk_8 348 rfl).trans rfl
theorem te_368_349 : (pT M_368).find? (fun e => e.1 == 349) = some (349, .iload 4, 0, 0) := (sk_8 349 rfl).trans rfl
theorem te_368_351 : (pT M_368).find? (fun e => e.1 == 351) = some (351, .iconst 1, 0, 0) := (sk_8 351 rfl).trans rfl
theorem te_368_352 : (pT M_368).find? (fun e => e.1 == 352) = some (352, .iadd, 0, 0) := (sk_8 352 rfl).trans rfl
theorem te_368_353 : (pT M_368).find? (fun e => e.1 == 353) = some (353, .iaload, 0, 0) := (sk_8 353 rfl).trans rfl
theorem te_368_354 : (pT M_368).find? (fun e => e.1 == 354) = some (354, .aload_n 0, 0, 0) := (sk_8 354 rfl).trans rfl
theorem te_368_355 : (pT M_368).find? (fun e => e.1 == 355) = some (355, .iload 4, 0, 0) := (sk_8 355 rfl).trans rfl
theorem te_368_357 : (pT M_368).find? (fun e => e.1 == 357) = some (357, .iconst 2, 0, 0) := (sk_8 357 rfl).trans rfl
theorem te_368_358 : (pT M_368).find? (fun e => e.1 == 358) = some (358, .iadd, 0, 0) := (sk_8 358 rfl).trans rfl
theorem te_368_359 : (pT M_368).find? (fun e => e.1 == 359) = some (359, .iaload, 0, 0) := (sk_8 359 rfl).trans rfl
theorem te_368_360 : (pT M_368).find? (fun e => e.1 == 360) = some (360, .invokevirtual 183, 230, 0) := (sk_9 360 rfl).trans rfl
theorem te_368_363 : (pT M_368).find? (fun e => e.1 == 363) = some (363, .istore 6, 0, 0) := (sk_9 363 rfl).trans rfl
theorem te_368_365 : (pT M_368).find? (fun e => e.1 == 365) = some (365, .goto 1962, 0, 0) := (sk_9 365 rfl).trans rfl
theorem te_368_368 : (pT M_368).find? (fun e => e.1 == 368) = some (368, .aload_n 1, 0, 0) := (sk_9 368 rfl).trans rfl
theorem te_368_369 : (pT M_368).find? (fun e => e.1 == 369) = some (369, .aload_n 0, 0, 0) := (sk_9 369 rfl).trans rfl
theorem te_368_370 : (pT M_368).find? (fun e => e.1 == 370) = some (370, .iload 4, 0, 0) := (sk_9 370 rfl).trans rfl
theorem te_368_372 : (pT M_368).find? (fun e => e.1 == 372) = some (372, .iconst 1, 0, 0) := (sk_9 372 rfl).trans rfl
theorem te_368_373 : (pT M_368).find? (fun e => e.1 == 373) = some (373, .iadd, 0, 0) := (sk_9 373 rfl).trans rfl
theorem te_368_374 : (pT M_368).find? (fun e => e.1 == 374) = some (374, .iaload, 0, 0) := (sk_9 374 rfl).trans rfl
theorem te_368_375 : (pT M_368).find? (fun e => e.1 == 375) = some (375, .aload_n 0, 0, 0) := (sk_9 375 rfl).trans rfl
theorem te_368_376 : (pT M_368).find? (fun e => e.1 == 376) = some (376, .iload 4, 0, 0) := (sk_9 376 rfl).trans rfl
theorem te_368_378 : (pT M_368).find? (fun e => e.1 == 378) = some (378, .iconst 2, 0, 0) := (sk_9 378 rfl).trans rfl
theorem te_368_379 : (pT M_368).find? (fun e => e.1 == 379) = some (379, .iadd, 0, 0) := (sk_10 379 rfl).trans rfl
theorem te_368_380 : (pT M_368).find? (fun e => e.1 == 380) = some (380, .iaload, 0, 0) := (sk_10 380 rfl).trans rfl
theorem te_368_381 : (pT M_368).find? (fun e => e.1 == 381) = some (381, .aload_n 0, 0, 0) := (sk_10 381 rfl).trans rfl
theorem te_368_382 : (pT M_368).find? (fun e => e.1 == 382) = some (382, .iload 4, 0, 0) := (sk_10 382 rfl).trans rfl
theorem te_368_384 : (pT M_368).find? (fun e => e.1 == 384) = some (384, .iconst 3, 0, 0) := (sk_10 384 rfl).trans rfl
theorem te_368_385 : (pT M_368).find? (fun e => e.1 == 385) = some (385, .iadd, 0, 0) := (sk_10 385 rfl).trans rfl
theorem te_368_386 : (pT M_368).find? (fun e => e.1 == 386) = some (386, .iaload, 0, 0) := (sk_10 386 rfl).trans rfl
theorem te_368_387 : (pT M_368).find? (fun e => e.1 == 387) = some (387, .aload_n 0, 0, 0) := (sk_10 387 rfl).trans rfl
theorem te_368_388 : (pT M_368).find? (fun e => e.1 == 388) = some (388, .iload 4, 0, 0) := (sk_10 388 rfl).trans rfl
theorem te_368_390 : (pT M_368).find? (fun e => e.1 == 390) = some (390, .iconst 4, 0, 0) := (sk_10 390 rfl).trans rfl
theorem te_368_391 : (pT M_368).find? (fun e => e.1 == 391) = some (391, .iadd, 0, 0) := (sk_10 391 rfl).trans rfl
theorem te_368_392 : (pT M_368).find? (fun e => e.1 == 392) = some (392, .iaload, 0, 0) := (sk_10 392 rfl).trans rfl
theorem te_368_393 : (pT M_368).find? (fun e => e.1 == 393) = some (393, .aload_n 3, 0, 0) := (sk_11 393 rfl).trans rfl
theorem te_368_394 : (pT M_368).find? (fun e => e.1 == 394) = some (394, .invokestatic 184, 51, 8) := (sk_11 394 rfl).trans rfl
theorem te_368_397 : (pT M_368).find? (fun e => e.1 == 397) = some (397, .istore 5, 0, 0) := (sk_11 397 rfl).trans rfl
theorem te_368_399 : (pT M_368).find? (fun e => e.1 == 399) = some (399, .aload_n 2, 0, 0) := (sk_11 399 rfl).trans rfl
theorem te_368_400 : (pT M_368).find? (fun e => e.1 == 400) = some (400, .aload_n 0, 0, 0) := (sk_11 400 rfl).trans rfl
theorem te_368_401 : (pT M_368).find? (fun e => e.1 == 401) = some (401, .iload 4, 0, 0) := (sk_11 401 rfl).trans rfl
theorem te_368_403 : (pT M_368).find? (fun e => e.1 == 403) = some (403, .iconst 1, 0, 0) := (sk_11 403 rfl).trans rfl
theorem te_368_404 : (pT M_368).find? (fun e => e.1 == 404) = some (404, .iadd, 0, 0) := (sk_11 404 rfl).trans rfl
theorem te_368_405 : (pT M_368).find? (fun e => e.1 == 405) = some (405, .iaload, 0, 0) := (sk_11 405 rfl).trans rfl
theorem te_368_406 : (pT M_368).find? (fun e => e.1 == 406) = some (406, .aload_n 0, 0, 0) := (sk_11 406 rfl).trans rfl
theorem te_368_407 : (pT M_368).find? (fun e => e.1 == 407) = some (407, .iload 4, 0, 0) := (sk_11 407 rfl).trans rfl
theorem te_368_409 : (pT M_368).find? (fun e => e.1 == 409) = some (409, .iconst 2, 0, 0) := (sk_11 409 rfl).trans rfl
theorem te_368_410 : (pT M_368).find? (fun e => e.1 == 410) = some (410, .iadd, 0, 0) := (sk_12 410 rfl).trans rfl
theorem te_368_411 : (pT M_368).find? (fun e => e.1 == 411) = some (411, .iaload, 0, 0) := (sk_12 411 rfl).trans rfl
theorem te_368_412 : (pT M_368).find? (fun e => e.1 == 412) = some (412, .aload_n 0, 0, 0) := (sk_12 412 rfl).trans rfl
theorem te_368_413 : (pT M_368).find? (fun e => e.1 == 413) = some (413, .iload 4, 0, 0) := (sk_12 413 rfl).trans rfl
theorem te_368_415 : (pT M_368).find? (fun e => e.1 == 415) = some (415, .iconst 3, 0, 0) := (sk_12 415 rfl).trans rfl
theorem te_368_416 : (pT M_368).find? (fun e => e.1 == 416) = some (416, .iadd, 0, 0) := (sk_12 416 rfl).trans rfl
theorem te_368_417 : (pT M_368).find? (fun e => e.1 == 417) = some (417, .iaload, 0, 0) := (sk_12 417 rfl).trans rfl
theorem te_368_418 : (pT M_368).find? (fun e => e.1 == 418) = some (418, .aload_n 0, 0, 0) := (sk_12 418 rfl).trans rfl
theorem te_368_419 : (pT M_368).find? (fun e => e.1 == 419) = some (419, .iload 4, 0, 0) := (sk_12 419 rfl).trans rfl
theorem te_368_421 : (pT M_368).find? (fun e => e.1 == 421) = some (421, .iconst 4, 0, 0) := (sk_12 421 rfl).trans rfl
theorem te_368_422 : (pT M_368).find? (fun e => e.1 == 422) = some (422, .iadd, 0, 0) := (sk_12 422 rfl).trans rfl
theorem te_368_423 : (pT M_368).find? (fun e => e.1 == 423) = some (423, .iaload, 0, 0) := (sk_12 423 rfl).trans rfl
theorem te_368_424 : (pT M_368).find? (fun e => e.1 == 424) = some (424, .invokevirtual 187, 232, 0) := (sk_13 424 rfl).trans rfl
theorem te_368_427 : (pT M_368).find? (fun e => e.1 == 427) = some (427, .istore 6, 0, 0) := (sk_13 427 rfl).trans rfl
theorem te_368_429 : (pT M_368).find? (fun e => e.1 == 429) = some (429, .goto 1898, 0, 0) := (sk_13 429 rfl).trans rfl
theorem te_368_432 : (pT M_368).find? (fun e => e.1 == 432) = some (432, .aload_n 1, 0, 0) := (sk_13 432 rfl).trans rfl
theorem te_368_433 : (pT M_368).find? (fun e => e.1 == 433) = some (433, .aload_n 3, 0, 0) := (sk_13 433 rfl).trans rfl
theorem te_368_434 : (pT M_368).find? (fun e => e.1 == 434) = some (434, .invokestatic 188, 53, 8) := (sk_13 434 rfl).trans rfl
theorem te_368_437 : (pT M_368).find? (fun e => e.1 == 437) = some (437, .istore 5, 0, 0) := (sk_13 437 rfl).trans rfl
theorem te_368_439 : (pT M_368).find? (fun e => e.1 == 439) = some (439, .aload_n 2, 0, 0) := (sk_13 439 rfl).trans rfl
theorem te_368_440 : (pT M_368).find? (fun e => e.1 == 440) = some (440, .invokevirtual 191, 233, 0) := (sk_13 440 rfl).trans rfl
theorem te_368_443 : (pT M_368).find? (fun e => e.1 == 443) = some (443, .istore 6, 0, 0) := (sk_13 443 rfl).trans rfl
theorem te_368_445 : (pT M_368).find? (fun e => e.1 == 445) = some (445, .goto 1882, 0, 0) := (sk_13 445 rfl).trans rfl
theorem te_368_448 : (pT M_368).find? (fun e => e.1 == 448) = some (448, .aload_n 1, 0, 0) := (sk_13 448 rfl).trans rfl
theorem te_368_449 : (pT M_368).find? (fun e => e.1 == 449) = some (449, .aload_n 0, 0, 0) := (sk_14 449 rfl).trans rfl
theorem te_368_450 : (pT M_368).find? (fun e => e.1 == 450) = some (450, .iload 4, 0, 0) := (sk_14 450 rfl).trans rfl
theorem te_368_452 : (pT M_368).find? (fun e => e.1 == 452) = some (452, .iconst 1, 0, 0) := (sk_14 452 rfl).trans rfl
theorem te_368_453 : (pT M_368).find? (fun e => e.1 == 453) = some (453, .iadd, 0, 0) := (sk_14 453 rfl).trans rfl
theorem te_368_454 : (pT M_368).find? (fun e => e.1 == 454) = some (454, .iaload, 0, 0) := (sk_14 454 rfl).trans rfl
theorem te_368_455 : (pT M_368).find? (fun e => e.1 == 455) = some (455, .aload_n 0, 0, 0) := (sk_14 455 rfl).trans rfl
theorem te_368_456 : (pT M_368).find? (fun e => e.1 == 456) = some (456, .iload 4, 0, 0) := (sk_14 456 rfl).trans rfl
theorem te_368_458 : (pT M_368).find? (fun e => e.1 == 458) = some (458, .iconst 2, 0, 0) := (sk_14 458 rfl).trans rfl
theorem te_368_459 : (pT M_368).find? (fun e => e.1 == 459) = some (459, .iadd, 0, 0) := (sk_14 459 rfl).trans rfl
theorem te_368_460 : (pT M_368).find? (fun e => e.1 == 460) = some (460, .iaload, 0, 0) := (sk_14 460 rfl).trans rfl
theorem te_368_461 : (pT M_368).find? (fun e => e.1 == 461) = some (461, .aload_n 3, 0, 0) := (sk_14 461 rfl).trans rfl
theorem te_368_462 : (pT M_368).find? (fun e => e.1 == 462) = some (462, .invokestatic 192, 55, 8) := (sk_14 462 rfl).trans rfl
theorem te_368_465 : (pT M_368).find? (fun e => e.1 == 465) = some (465, .istore 5, 0, 0) := (sk_15 465 rfl).trans rfl
theorem te_368_467 : (pT M_368).find? (fun e => e.1 == 467) = some (467, .aload_n 2, 0, 0) := (sk_15 467 rfl).trans rfl
theorem te_368_468 : (pT M_368).find? (fun e => e.1 == 468) = some (468, .aload_n 0, 0, 0) := (sk_15 468 rfl).trans rfl
theorem te_368_469 : (pT M_368).find? (fun e => e.1 == 469) = some (469, .iload 4, 0, 0) := (sk_15 469 rfl).trans rfl
theorem te_368_471 : (pT M_368).find? (fun e => e.1 == 471) = some (471, .iconst 1, 0, 0) := (sk_15 471 rfl).trans rfl
theorem te_368_472 : (pT M_368).find? (fun e => e.1 == 472) = some (472, .iadd, 0, 0) := (sk_15 472 rfl).trans rfl
theorem te_368_473 : (pT M_368).find? (fun e => e.1 == 473) = some (473, .iaload, 0, 0) := (sk_15 473 rfl).trans rfl
theorem te_368_474 : (pT M_368).find? (fun e => e.1 == 474) = some (474, .aload_n 0, 0, 0) := (sk_15 474 rfl).trans rfl
theorem te_368_475 : (pT M_368).find? (fun e => e.1 == 475) = some (475, .iload 4, 0, 0) := (sk_15 475 rfl).trans rfl
theorem te_368_477 : (pT M_368).find? (fun e => e.1 == 477) = some (477, .iconst 2, 0, 0) := (sk_15 477 rfl).trans rfl
theorem te_368_478 : (pT M_368).find? (fun e => e.1 == 478) = some (478, .iadd, 0, 0) := (sk_15 478 rfl).trans rfl
theorem te_368_479 : (pT M_368).find? (fun e => e.1 == 479) = some (479, .iaload, 0, 0) := (sk_15 479 rfl).trans rfl
theorem te_368_480 : (pT M_368).find? (fun e => e.1 == 480) = some (480, .invokevirtual 194, 234, 0) := (sk_16 480 rfl).trans rfl
theorem te_368_483 : (pT M_368).find? (fun e => e.1 == 483) = some (483, .istore 6, 0, 0) := (sk_16 483 rfl).trans rfl
theorem te_368_485 : (pT M_368).find? (fun e => e.1 == 485) = some (485, .goto 1842, 0, 0) := (sk_16 485 rfl).trans rfl
theorem te_368_561 : (pT M_368).find? (fun e => e.1 == 561) = some (561, .aload_n 1, 0, 0) := (sk_20 561 rfl).trans rfl
theorem te_368_562 : (pT M_368).find? (fun e => e.1 == 562) = some (562, .aload_n 0, 0, 0) := (sk_20 562 rfl).trans rfl
theorem te_368_563 : (pT M_368).find? (fun e => e.1 == 563) = some (563, .iload 4, 0, 0) := (sk_20 563 rfl).trans rfl
theorem te_368_565 : (pT M_368).find? (fun e => e.1 == 565) = some (565, .iconst 1, 0, 0) := (sk_20 565 rfl).trans rfl
theorem te_368_566 : (pT M_368).find? (fun e => e.1 == 566) = some (566, .iadd, 0, 0) := (sk_21 566 rfl).trans rfl
theorem te_368_567 : (pT M_368).find? (fun e => e.1 == 567) = some (567, .iaload, 0, 0) := (sk_21 567 rfl).trans rfl
theorem te_368_568 : (pT M_368).find? (fun e => e.1 == 568) = some (568, .aload_n 0, 0, 0) := (sk_21 568 rfl).trans rfl
theorem te_368_569 : (pT M_368).find? (fun e => e.1 == 569) = some (569, .iload 4, 0, 0) := (sk_21 569 rfl).trans rfl
theorem te_368_571 : (pT M_368).find? (fun e => e.1 == 571) = some (571, .iconst 2, 0, 0) := (sk_21 571 rfl).trans rfl
theorem te_368_572 : (pT M_368).find? (fun e => e.1 == 572) = some (572, .iadd, 0, 0) := (sk_21 572 rfl).trans rfl
theorem te_368_573 : (pT M_368).find? (fun e => e.1 == 573) = some (573, .iaload, 0, 0) := (sk_21 573 rfl).trans rfl
theorem te_368_574 : (pT M_368).find? (fun e => e.1 == 574) = some (574, .aload_n 3, 0, 0) := (sk_21 574 rfl).trans rfl
theorem te_368_575 : (pT M_368).find? (fun e => e.1 == 575) = some (575, .invokestatic 203, 61, 8) := (sk_21 575 rfl).trans rfl
theorem te_368_578 : (pT M_368).find? (fun e => e.1 == 578) = some (578, .istore 5, 0, 0) := (sk_21 578 rfl).trans rfl
theorem te_368_580 : (pT M_368).find? (fun e => e.1 == 580) = some (580, .aload_n 2, 0, 0) := (sk_21 580 rfl).trans rfl
theorem te_368_581 : (pT M_368).find? (fun e => e.1 == 581) = some (581, .aload_n 0, 0, 0) := (sk_21 581 rfl).trans rfl
theorem te_368_582 : (pT M_368).find? (fun e => e.1 == 582) = some (582, .iload 4, 0, 0) := (sk_22 582 rfl).trans rfl
theorem te_368_584 : (pT M_368).find? (fun e => e.1 == 584) = some (584, .iconst 1, 0, 0) := (sk_22 584 rfl).trans rfl
theorem te_368_585 : (pT M_368).find? (fun e => e.1 == 585) = some (585, .iadd, 0, 0) := (sk_22 585 rfl).trans rfl
theorem te_368_586 : (pT M_368).find? (fun e => e.1 == 586) = some (586, .iaload, 0, 0) := (sk_22 586 rfl).trans rfl
theorem te_368_587 : (pT M_368).find? (fun e => e.1 == 587) = some (587, .aload_n 0, 0, 0) := (sk_22 587 rfl).trans rfl
theorem te_368_588 : (pT M_368).find? (fun e => e.1 == 588) = some (588, .iload 4, 0, 0) := (sk_22 588 rfl).trans rfl
theorem te_368_590 : (pT M_368).find? (fun e => e.1 == 590) = some (590, .iconst 2, 0, 0) := (sk_22 590 rfl).trans rfl
theorem te_368_591 : (pT M_368).find? (fun e => e.1 == 591) = some (591, .iadd, 0, 0) := (sk_22 591 rfl).trans rfl
theorem te_368_592 : (pT M_368).find? (fun e => e.1 == 592) = some (592, .iaload, 0, 0) := (sk_22 592 rfl).trans rfl
theorem te_368_593 : (pT M_368).find? (fun e => e.1 == 593) = some (593, .invokevirtual 205, 237, 0) := (sk_22 593 rfl).trans rfl
theorem te_368_596 : (pT M_368).find? (fun e => e.1 == 596) = some (596, .istore 6, 0, 0) := (sk_22 596 rfl).trans rfl
theorem te_368_598 : (pT M_368).find? (fun e => e.1 == 598) = some (598, .goto 1729, 0, 0) := (sk_22 598 rfl).trans rfl
theorem te_368_601 : (pT M_368).find? (fun e => e.1 == 601) = some (601, .aload_n 1, 0, 0) := (sk_23 601 rfl).trans rfl
theorem te_368_602 : (pT M_368).find? (fun e => e.1 == 602) = some (602, .aload_n 0, 0, 0) := (sk_23 602 rfl).trans rfl
theorem te_368_603 : (pT M_368).find? (fun e => e.1 == 603) = some (603, .iload 4, 0, 0) := (sk_23 603 rfl).trans rfl
theorem te_368_605 : (pT M_368).find? (fun e => e.1 == 605) = some (605, .iconst 1, 0, 0) := (sk_23 605 rfl).trans rfl
theorem te_368_606 : (pT M_368).find? (fun e => e.1 == 606) = some (606, .iadd, 0, 0) := (sk_23 606 rfl).trans rfl
theorem te_368_607 : (pT M_368).find? (fun e => e.1 == 607) = some (607, .iaload, 0, 0) := (sk_23 607 rfl).trans rfl
theorem te_368_608 : (pT M_368).find? (fun e => e.1 == 608) = some (608, .aload_n 0, 0, 0) := (sk_23 608 rfl).trans rfl
theorem te_368_609 : (pT M_368).find? (fun e => e.1 == 609) = some (609, .iload 4, 0, 0) := (sk_23 609 rfl).trans rfl
theorem te_368_611 : (pT M_368).find? (fun e => e.1 == 611) = some (611, .iconst 2, 0, 0) := (sk_23 611 rfl).trans rfl
theorem te_368_612 : (pT M_368).find? (fun e => e.1 == 612) = some (612, .iadd, 0, 0) := (sk_23 612 rfl).trans rfl
theorem te_368_613 : (pT M_368).find? (fun e => e.1 == 613) = some (613, .iaload, 0, 0) := (sk_23 613 rfl).trans rfl
theorem te_368_614 : (pT M_368).find? (fun e => e.1 == 614) = some (614, .aload_n 3, 0, 0) := (sk_23 614 rfl).trans rfl
theorem te_368_615 : (pT M_368).find? (fun e => e.1 == 615) = some (615, .invokestatic 206, 64, 8) := (sk_24 615 rfl).trans rfl
theorem te_368_618 : (pT M_368).find? (fun e => e.1 == 618) = some (618, .istore 5, 0, 0) := (sk_24 618 rfl).trans rfl
theorem te_368_620 : (pT M_368).find? (fun e => e.1 == 620) = some (620, .aload_n 2, 0, 0) := (sk_24 620 rfl).trans rfl
theorem te_368_621 : (pT M_368).find? (fun e => e.1 == 621) = some (621, .aload_n 0, 0, 0) := (sk_24 621 rfl).trans rfl
theorem te_368_622 : (pT M_368).find? (fun e => e.1 == 622) = some (622, .iload 4, 0, 0) := (sk_24 622 rfl).trans rfl
theorem te_368_624 : (pT M_368).find? (fun e => e.1 == 624) = some (624, .iconst 1, 0, 0) := (sk_24 624 rfl).trans rfl
theorem te_368_625 : (pT M_368).find? (fun e => e.1 == 625) = some (625, .iadd, 0, 0) := (sk_24 625 rfl).trans rfl
theorem te_368_626 : (pT M_368).find? (fun e => e.1 == 626) = some (626, .iaload, 0, 0) := (sk_24 626 rfl).trans rfl
theorem te_368_627 : (pT M_368).find? (fun e => e.1 == 627) = some (627, .aload_n 0, 0, 0) := (sk_24 627 rfl).trans rfl
theorem te_368_628 : (pT M_368).find? (fun e => e.1 == 628) = some (628, .iload 4, 0, 0) := (sk_24 628 rfl).trans rfl
theorem te_368_630 : (pT M_368).find? (fun e => e.1 == 630) = some (630, .iconst 2, 0, 0) := (sk_24 630 rfl).trans rfl
theorem te_368_631 : (pT M_368).find? (fun e => e.1 == 631) = some (631, .iadd, 0, 0) := (sk_24 631 rfl).trans rfl
theorem te_368_632 : (pT M_368).find? (fun e => e.1 == 632) = some (632, .iaload, 0, 0) := (sk_25 632 rfl).trans rfl
theorem te_368_633 : (pT M_368).find? (fun e => e.1 == 633) = some (633, .invokevirtual 208, 238, 0) := (sk_25 633 rfl).trans rfl
theorem te_368_636 : (pT M_368).find? (fun e => e.1 == 636) = some (636, .istore 6, 0, 0) := (sk_25 636 rfl).trans rfl
theorem te_368_638 : (pT M_368).find? (fun e => e.1 == 638) = some (638, .goto 1689, 0, 0) := (sk_25 638 rfl).trans rfl
theorem te_368_641 : (pT M_368).find? (fun e => e.1 == 641) = some (641, .aload_n 1, 0, 0) := (sk_25 641 rfl).trans rfl
theorem te_368_642 : (pT M_368).find? (fun e => e.1 == 642) = some (642, .invokevirtual 209, 10, 0) := (sk_25 642 rfl).trans rfl
theorem te_368_645 : (pT M_368).find? (fun e => e.1 == 645) = some (645, .pop, 0, 0) := (sk_25 645 rfl).trans rfl
theorem te_368_646 : (pT M_368).find? (fun e => e.1 == 646) = some (646, .aload_n 2, 0, 0) := (sk_25 646 rfl).trans rfl
theorem te_368_647 : (pT M_368).find? (fun e => e.1 == 647) = some (647, .invokevirtual 213, 239, 0) := (sk_25 647 rfl).trans rfl
theorem te_368_650 : (pT M_368).find? (fun e => e.1 == 650) = some (650, .pop, 0, 0) := (sk_25 650 rfl).trans rfl
theorem te_368_651 : (pT M_368).find? (fun e => e.1 == 651) = some (651, .goto 1676, 0, 0) := (sk_25 651 rfl).trans rfl
theorem te_368_654 : (pT M_368).find? (fun e => e.1 == 654) = some (654, .aload_n 1, 0, 0) := (sk_25 654 rfl).trans rfl
theorem te_368_655 : (pT M_368).find? (fun e => e.1 == 655) = some (655, .aload_n 0, 0, 0) := (sk_26 655 rfl).trans rfl
theorem te_368_656 : (pT M_368).find? (fun e => e.1 == 656) = some (656, .iload 4, 0, 0) := (sk_26 656 rfl).trans rfl
theorem te_368_658 : (pT M_368).find? (fun e => e.1 == 658) = some (658, .iconst 1, 0, 0) := (sk_26 658 rfl).trans rfl
theorem te_368_659 : (pT M_368).find? (fun e => e.1 == 659) = some (659, .iadd, 0, 0) := (sk_26 659 rfl).trans rfl
theorem te_368_660 : (pT M_368).find? (fun e => e.1 == 660) = some (660, .iaload, 0, 0) := (sk_26 660 rfl).trans rfl
theorem te_368_661 : (pT M_368).find? (fun e => e.1 == 661) = some (661, .aload_n 0, 0, 0) := (sk_26 661 rfl).trans rfl
theorem te_368_662 : (pT M_368).find? (fun e => e.1 == 662) = some (662, .iload 4, 0, 0) := (sk_26 662 rfl).trans rfl
theorem te_368_664 : (pT M_368).find? (fun e => e.1 == 664) = some (664, .iconst 2, 0, 0) := (sk_26 664 rfl).trans rfl
theorem te_368_665 : (pT M_368).find? (fun e => e.1 == 665) = some (665, .iadd, 0, 0) := (sk_26 665 rfl).trans rfl
theorem te_368_666 : (pT M_368).find? (fun e => e.1 == 666) = some (666, .iaload, 0, 0) := (sk_26 666 rfl).trans rfl
theorem te_368_667 : (pT M_368).find? (fun e => e.1 == 667) = some (667, .aload_n 3, 0, 0) := (sk_26 667 rfl).trans rfl
theorem te_368_668 : (pT M_368).find? (fun e => e.1 == 668) = some (668, .invokestatic 214, 67, 8) := (sk_26 668 rfl).trans rfl
theorem te_368_671 : (pT M_368).find? (fun e => e.1 == 671) = some (671, .istore 5, 0, 0) := (sk_27 671 rfl).trans rfl
theorem te_368_673 : (pT M_368).find? (fun e => e.1 == 673) = some (673, .aload_n 2, 0, 0) := (sk_27 673 rfl).trans rfl
theorem te_368_674 : (pT M_368).find? (fun e => e.1 == 674) = some (674, .aload_n 0, 0, 0) := (sk_27 674 rfl).trans rfl
theorem te_368_675 : (pT M_368).find? (fun e => e.1 == 675) = some (675, .iload 4, 0, 0) := (sk_27 675 rfl).trans rfl
theorem te_368_677 : (pT M_368).find? (fun e => e.1 == 677) = some (677, .iconst 1, 0, 0) := (sk_27 677 rfl).trans rfl
theorem te_368_678 : (pT M_368).find? (fun e => e.1 == 678) = some (678, .iadd, 0, 0) := (sk_27 678 rfl).trans rfl
theorem te_368_679 : (pT M_368).find? (fun e => e.1 == 679) = some (679, .iaload, 0, 0) := (sk_27 679 rfl).trans rfl
theorem te_368_680 : (pT M_368).find? (fun e => e.1 == 680) = some (680, .aload_n 0, 0, 0) := (sk_27 680 rfl).trans rfl
theorem te_368_681 : (pT M_368).find? (fun e => e.1 == 681) = some (681, .iload 4, 0, 0) := (sk_27 681 rfl).trans rfl
theorem te_368_683 : (pT M_368).find? (fun e => e.1 == 683) = some (683, .iconst 2, 0, 0) := (sk_27 683 rfl).trans rfl
theorem te_368_684 : (pT M_368).find? (fun e => e.1 == 684) = some (684, .iadd, 0, 0) := (sk_27 684 rfl).trans rfl
theorem te_368_685 : (pT M_368).find? (fun e => e.1 == 685) = some (685, .iaload, 0, 0) := (sk_27 685 rfl).trans rfl
theorem te_368_686 : (pT M_368).find? (fun e => e.1 == 686) = some (686, .invokevirtual 216, 244, 0) := (sk_28 686 rfl).trans rfl
theorem te_368_689 : (pT M_368).find? (fun e => e.1 == 689) = some (689, .istore 6, 0, 0) := (sk_28 689 rfl).trans rfl
theorem te_368_691 : (pT M_368).find? (fun e => e.1 == 691) = some (691, .goto 1636, 0, 0) := (sk_28 691 rfl).trans rfl
theorem te_368_694 : (pT M_368).find? (fun e => e.1 == 694) = some (694, .aload_n 1, 0, 0) := (sk_28 694 rfl).trans rfl
theorem te_368_695 : (pT M_368).find? (fun e => e.1 == 695) = some (695, .aload_n 0, 0, 0) := (sk_28 695 rfl).trans rfl
theorem te_368_696 : (pT M_368).find? (fun e => e.1 == 696) = some (696, .iload 4, 0, 0) := (sk_28 696 rfl).trans rfl
theorem te_368_698 : (pT M_368).find? (fun e => e.1 == 698) = some (698, .iconst 1, 0, 0) := (sk_28 698 rfl).trans rfl
theorem te_368_699 : (pT M_368).find? (fun e => e.1 == 699) = some (699, .iadd, 0, 0) := (sk_28 699 rfl).trans rfl
theorem te_368_700 : (pT M_368).find? (fun e => e.1 == 700) = some (700, .iaload, 0, 0) := (sk_28 700 rfl).trans rfl
theorem te_368_701 : (pT M_368).find? (fun e => e.1 == 701) = some (701, .aload_n 0, 0, 0) := (sk_28 701 rfl).trans rfl
theorem te_368_702 : (pT M_368).find? (fun e => e.1 == 702) = some (702, .iload 4, 0, 0) := (sk_28 702 rfl).trans rfl
theorem te_368_704 : (pT M_368).find? (fun e => e.1 == 704) = some (704, .iconst 2, 0, 0) := (sk_28 704 rfl).trans rfl
theorem te_368_705 : (pT M_368).find? (fun e => e.1 == 705) = some (705, .iadd, 0, 0) := (sk_29 705 rfl).trans rfl
theorem te_368_706 : (pT M_368).find? (fun e => e.1 == 706) = some (706, .iaload, 0, 0) := (sk_29 706 rfl).trans rfl
theorem te_368_707 : (pT M_368).find? (fun e => e.1 == 707) = some (707, .aload_n 0, 0, 0) := (sk_29 707 rfl).trans rfl
theorem te_368_708 : (pT M_368).find? (fun e => e.1 == 708) = some (708, .iload 4, 0, 0) := (sk_29 708 rfl).trans rfl
theorem te_368_710 : (pT M_368).find? (fun e => e.1 == 710) = some (710, .iconst 3, 0, 0) := (sk_29 710 rfl).trans rfl
theorem te_368_711 : (pT M_368).find? (fun e => e.1 == 711) = some (711, .iadd, 0, 0) := (sk_29 711 rfl).trans rfl
theorem te_368_712 : (pT M_368).find? (fun e => e.1 == 712) = some (712, .iaload, 0, 0) := (sk_29 712 rfl).trans rfl
theorem te_368_713 : (pT M_368).find? (fun e => e.1 == 713) = some (713, .aload_n 3, 0, 0) := (sk_29 713 rfl).trans rfl
theorem te_368_714 : (pT M_368).find? (fun e => e.1 == 714) = some (714, .invokestatic 217, 71, 8) := (sk_29 714 rfl).trans rfl
theorem te_368_717 : (pT M_368).find? (fun e => e.1 == 717) = some (717, .istore 5, 0, 0) := (sk_29 717 rfl).trans rfl
theorem te_368_719 : (pT M_368).find? (fun e => e.1 == 719) = some (719, .aload_n 2, 0, 0) := (sk_29 719 rfl).trans rfl
theorem te_368_720 : (pT M_368).find? (fun e => e.1 == 720) = some (720, .aload_n 0, 0, 0) := (sk_29 720 rfl).trans rfl
theorem te_368_721 : (pT M_368).find? (fun e => e.1 == 721) = some (721, .iload 4, 0, 0) := (sk_30 721 rfl).trans rfl
theorem te_368_723 : (pT M_368).find? (fun e => e.1 == 723) = some (723, .iconst 1, 0, 0) := (sk_30 723 rfl).trans rfl
theorem te_368_724 : (pT M_368).find? (fun e => e.1 == 724) = some (724, .iadd, 0, 0) := (sk_30 724 rfl).trans rfl
theorem te_368_725 : (pT M_368).find? (fun e => e.1 == 725) = some (725, .iaload, 0, 0) := (sk_30 725 rfl).trans rfl
theorem te_368_726 : (pT M_368).find? (fun e => e.1 == 726) = some (726, .aload_n 0, 0, 0) := (sk_30 726 rfl).trans rfl
theorem te_368_727 : (pT M_368).find? (fun e => e.1 == 727) = some (727, .iload 4, 0, 0) := (sk_30 727 rfl).trans rfl
theorem te_368_729 : (pT M_368).find? (fun e => e.1 == 729) = some (729, .iconst 2, 0, 0) := (sk_30 729 rfl).trans rfl
theorem te_368_730 : (pT M_368).find? (fun e => e.1 == 730) = some (730, .iadd, 0, 0) := (sk_30 730 rfl).trans rfl
theorem te_368_731 : (pT M_368).find? (fun e => e.1 == 731) = some (731, .iaload, 0, 0) := (sk_30 731 rfl).trans rfl
theorem te_368_732 : (pT M_368).find? (fun e => e.1 == 732) = some (732, .aload_n 0, 0, 0) := (sk_30 732 rfl).trans rfl
theorem te_368_733 : (pT M_368).find? (fun e => e.1 == 733) = some (733, .iload 4, 0, 0) := (sk_30 733 rfl).trans rfl
theorem te_368_735 : (pT M_368).find? (fun e => e.1 == 735) = some (735, .iconst 3, 0, 0) := (sk_30 735 rfl).trans rfl
theorem te_368_736 : (pT M_368).find? (fun e => e.1 == 736) = some (736, .iadd, 0, 0) := (sk_31 736 rfl).trans rfl
theorem te_368_737 : (pT M_368).find? (fun e => e.1 == 737) = some (737, .iaload, 0, 0) := (sk_31 737 rfl).trans rfl
theorem te_368_738 : (pT M_368).find? (fun e => e.1 == 738) = some (738, .invokevirtual 220, 252, 0) := (sk_31 738 rfl).trans rfl
theorem te_368_741 : (pT M_368).find? (fun e => e.1 == 741) = some (741, .istore 6, 0, 0) := (sk_31 741 rfl).trans rfl
theorem te_368_743 : (pT M_368).find? (fun e => e.1 == 743) = some (743, .goto 1584, 0, 0) := (sk_31 743 rfl).trans rfl
theorem te_368_746 : (pT M_368).find? (fun e => e.1 == 746) = some (746, .aload_n 1, 0, 0) := (sk_31 746 rfl).trans rfl
theorem te_368_747 : (pT M_368).find? (fun e => e.1 == 747) = some (747, .aload_n 0, 0, 0) := (sk_31 747 rfl).trans rfl
theorem te_368_748 : (pT M_368).find? (fun e => e.1 == 748) = some (748, .iload 4, 0, 0) := (sk_31 748 rfl).trans rfl
theorem te_368_750 : (pT M_368).find? (fun e => e.1 == 750) = some (750, .iconst 1, 0, 0) := (sk_31 750 rfl).trans rfl
theorem te_368_751 : (pT M_368).find? (fun e => e.1 == 751) = some (751, .iadd, 0, 0) := (sk_31 751 rfl).trans rfl
theorem te_368_752 : (pT M_368).find? (fun e => e.1 == 752) = some (752, .iaload, 0, 0) := (sk_31 752 rfl).trans rfl
theorem te_368_753 : (pT M_368).find? (fun e => e.1 == 753) = some (753, .aload_n 0, 0, 0) := (sk_31 753 rfl).trans rfl
theorem te_368_754 : (pT M_368).find? (fun e => e.1 == 754) = some (754, .iload 4, 0, 0) := (sk_32 754 rfl).trans rfl
theorem te_368_756 : (pT M_368).find? (fun e => e.1 == 756) = some (756, .iconst 2, 0, 0) := (sk_32 756 rfl).trans rfl
theorem te_368_757 : (pT M_368).find? (fun e => e.1 == 757) = some (757, .iadd, 0, 0) := (sk_32 757 rfl).trans rfl
theorem te_368_758 : (pT M_368).find? (fun e => e.1 == 758) = some (758, .iaload, 0, 0) := (sk_32 758 rfl).trans rfl
theorem te_368_759 : (pT M_368).find? (fun e => e.1 == 759) = some (759, .aload_n 3, 0, 0) := (sk_32 759 rfl).trans rfl
theorem te_368_760 : (pT M_368).find? (fun e => e.1 == 760) = some (760, .invokestatic 221, 78, 8) := (sk_32 760 rfl).trans rfl
theorem te_368_763 : (pT M_368).find? (fun e => e.1 == 763) = some (763, .istore 5, 0, 0) := (sk_32 763 rfl).trans rfl
theorem te_368_765 : (pT M_368).find? (fun e => e.1 == 765) = some (765, .aload_n 2, 0, 0) := (sk_32 765 rfl).trans rfl
theorem te_368_766 : (pT M_368).find? (fun e => e.1 == 766) = some (766, .aload_n 0, 0, 0) := (sk_32 766 rfl).trans rfl
theorem te_368_767 : (pT M_368).find? (fun e => e.1 == 767) = some (767, .iload 4, 0, 0) := (sk_32 767 rfl).trans rfl
theorem te_368_769 : (pT M_368).find? (fun e => e.1 == 769) = some (769, .iconst 1, 0, 0) := (sk_32 769 rfl).trans rfl
theorem te_368_770 : (pT M_368).find? (fun e => e.1 == 770) = some (770, .iadd, 0, 0) := (sk_32 770 rfl).trans rfl
theorem te_368_771 : (pT M_368).find? (fun e => e.1 == 771) = some (771, .iaload, 0, 0) := (sk_33 771 rfl).trans rfl
theorem te_368_772 : (pT M_368).find? (fun e => e.1 == 772) = some (772, .aload_n 0, 0, 0) := (sk_33 772 rfl).trans rfl
theorem te_368_773 : (pT M_368).find? (fun e => e.1 == 773) = some (773, .iload 4, 0, 0) := (sk_33 773 rfl).trans rfl
theorem te_368_775 : (pT M_368).find? (fun e => e.1 == 775) = some (775, .iconst 2, 0, 0) := (sk_33 775 rfl).trans rfl
theorem te_368_776 : (pT M_368).find? (fun e => e.1 == 776) = some (776, .iadd, 0, 0) := (sk_33 776 rfl).trans rfl
theorem te_368_777 : (pT M_368).find? (fun e => e.1 == 777) = some (777, .iaload, 0, 0) := (sk_33 777 rfl).trans rfl
theorem te_368_778 : (pT M_368).find? (fun e => e.1 == 778) = some (778, .invokevirtual 223, 260, 0) := (sk_33 778 rfl).trans rfl
theorem te_368_781 : (pT M_368).find? (fun e => e.1 == 781) = some (781, .istore 6, 0, 0) := (sk_33 781 rfl).trans rfl
theorem te_368_783 : (pT M_368).find? (fun e => e.1 == 783) = some (783, .goto 1544, 0, 0) := (sk_33 783 rfl).trans rfl
theorem te_368_786 : (pT M_368).find? (fun e => e.1 == 786) = some (786, .aload_n 1, 0, 0) := (sk_33 786 rfl).trans rfl
theorem te_368_787 : (pT M_368).find? (fun e => e.1 == 787) = some (787, .aload_n 0, 0, 0) := (sk_33 787 rfl).trans rfl
theorem te_368_788 : (pT M_368).find? (fun e => e.1 == 788) = some (788, .iload 4, 0, 0) := (sk_33 788 rfl).trans rfl
theorem te_368_790 : (pT M_368).find? (fun e => e.1 == 790) = some (790, .iconst 1, 0, 0) := (sk_34 790 rfl).trans rfl
theorem te_368_791 : (pT M_368).find? (fun e => e.1 == 791) = some (791, .iadd, 0, 0) := (sk_34 791 rfl).trans rfl
theorem te_368_792 : (pT M_368).find? (fun e => e.1 == 792) = some (792, .iaload, 0, 0) := (sk_34 792 rfl).trans rfl
theorem te_368_793 : (pT M_368).find? (fun e => e.1 == 793) = some (793, .aload_n 3, 0, 0) := (sk_34 793 rfl).trans rfl
theorem te_368_794 : (pT M_368).find? (fun e => e.1 == 794) = some (794, .invokestatic 224, 81, 8) := (sk_34 794 rfl).trans rfl
theorem te_368_797 : (pT M_368).find? (fun e => e.1 == 797) = some (797, .istore 5, 0, 0) := (sk_34 797 rfl).trans rfl
theorem te_368_799 : (pT M_368).find? (fun e => e.1 == 799) = some (799, .aload_n 2, 0, 0) := (sk_34 799 rfl).trans rfl
theorem te_368_800 : (pT M_368).find? (fun e => e.1 == 800) = some (800, .aload_n 0, 0, 0) := (sk_34 800 rfl).trans rfl
theorem te_368_801 : (pT M_368).find? (fun e => e.1 == 801) = some (801, .iload 4, 0, 0) := (sk_34 801 rfl).trans rfl
theorem te_368_803 : (pT M_368).find? (fun e => e.1 == 803) = some (803, .iconst 1, 0, 0) := (sk_34 803 rfl).trans rfl
theorem te_368_804 : (pT M_368).find? (fun e => e.1 == 804) = some (804, .iadd, 0, 0) := (sk_34 804 rfl).trans rfl
theorem te_368_805 : (pT M_368).find? (fun e => e.1 == 805) = some (805, .iaload, 0, 0) := (sk_34 805 rfl).trans rfl
theorem te_368_806 : (pT M_368).find? (fun e => e.1 == 806) = some (806, .invokevirtual 227, 262, 0) := (sk_35 806 rfl).trans rfl
theorem te_368_809 : (pT M_368).find? (fun e => e.1 == 809) = some (809, .istore 6, 0, 0) := (sk_35 809 rfl).trans rfl
theorem te_368_811 : (pT M_368).find? (fun e => e.1 == 811) = some (811, .goto 1516, 0, 0) := (sk_35 811 rfl).trans rfl
theorem te_368_814 : (pT M_368).find? (fun e => e.1 == 814) = some (814, .aload_n 1, 0, 0) := (sk_35 814 rfl).trans rfl
theorem te_368_815 : (pT M_368).find? (fun e => e.1 == 815) = some (815, .aload_n 0, 0, 0) := (sk_35 815 rfl).trans rfl
theorem te_368_816 : (pT M_368).find? (fun e => e.1 == 816) = some (816, .iload 4, 0, 0) := (sk_35 816 rfl).trans rfl
theorem te_368_818 : (pT M_368).find? (fun e => e.1 == 818) = some (818, .iconst 1, 0, 0) := (sk_35 818 rfl).trans rfl
theorem te_368_819 : (pT M_368).find? (fun e => e.1 == 819) = some (819, .iadd, 0, 0) := (sk_35 819 rfl).trans rfl
theorem te_368_820 : (pT M_368).find? (fun e => e.1 == 820) = some (820, .iaload, 0, 0) := (sk_35 820 rfl).trans rfl
theorem te_368_821 : (pT M_368).find? (fun e => e.1 == 821) = some (821, .aload_n 3, 0, 0) := (sk_35 821 rfl).trans rfl
theorem te_368_822 : (pT M_368).find? (fun e => e.1 == 822) = some (822, .invokestatic 228, 83, 8) := (sk_35 822 rfl).trans rfl
theorem te_368_825 : (pT M_368).find? (fun e => e.1 == 825) = some (825, .istore 5, 0, 0) := (sk_35 825 rfl).trans rfl
theorem te_368_827 : (pT M_368).find? (fun e => e.1 == 827) = some (827, .aload_n 2, 0, 0) := (sk_36 827 rfl).trans rfl
theorem te_368_828 : (pT M_368).find? (fun e => e.1 == 828) = some (828, .aload_n 0, 0, 0) := (sk_36 828 rfl).trans rfl
theorem te_368_829 : (pT M_368).find? (fun e => e.1 == 829) = some (829, .iload 4, 0, 0) := (sk_36 829 rfl).trans rfl
theorem te_368_831 : (pT M_368).find? (fun e => e.1 == 831) = some (831, .iconst 1, 0, 0) := (sk_36 831 rfl).trans rfl
theorem te_368_832 : (pT M_368).find? (fun e => e.1 == 832) = some (832, .iadd, 0, 0) := (sk_36 832 rfl).trans rfl
theorem te_368_833 : (pT M_368).find? (fun e => e.1 == 833) = some (833, .iaload, 0, 0) := (sk_36 833 rfl).trans rfl
theorem te_368_834 : (pT M_368).find? (fun e => e.1 == 834) = some (834, .invokevirtual 230, 267, 0) := (sk_36 834 rfl).trans rfl
theorem te_368_837 : (pT M_368).find? (fun e => e.1 == 837) = some (837, .istore 6, 0, 0) := (sk_36 837 rfl).trans rfl
theorem te_368_839 : (pT M_368).find? (fun e => e.1 == 839) = some (839, .goto 1488, 0, 0) := (sk_36 839 rfl).trans rfl
theorem lc_0 {S : Nat × (Nat → Int32)} {lv : LV} {h : PH} {c s : Nat} {i : Int32} (hS : S.1 ≤ 3072) (hl : LwS lv i) (hi : 0 ≤ i.toInt ∧ i.toInt + 5 < S.1) (hL : LI h) (hc : c + 8 ≤ 601024) (hs : s + 48 ≤ 7293033) (Nx : ∀ lv' h' c' s', LwS lv' i → LI h' → c' ≤ c + 8 → s' ≤ s + 48 → Vx (Ex S 24) S M_368 [] Q1 2327 lv' [] h' c' s') : Vx (Ex S 24) S M_368 [] Q1 252 lv [] h c s := by
  have hC := Ex.mono S 24
  refine Vx.go hC te_368_252 ?_
  refine ⟨_, hl.2.1, ⟨0, Or.inl rfl⟩, ?_⟩
  refine sc_load hC (k := 1) hl te_368_253 te_368_254 te_368_256 te_368_257 te_368_258 (sc_in hS hi (by decide)) ?_
  refine sc_load hC (k := 2) hl te_368_259 te_368_260 te_368_262 te_368_263 te_368_264 (sc_in hS hi (by decide)) ?_
  refine sc_load hC (k := 3) hl te_368_265 te_368_266 te_368_268 te_368_269 te_368_270 (sc_in hS hi (by decide)) ?_
  refine sc_load hC (k := 4) hl te_368_271 te_368_272 te_368_274 te_368_275 te_368_276 (sc_in hS hi (by decide)) ?_
  refine sc_load hC (k := 5) hl te_368_277 te_368_278 te_368_280 te_368_281 te_368_282 (sc_in hS hi (by decide)) ?_
  refine Vx.go hC te_368_283 ?_
  refine ⟨_, hl.2.2.2.1, ⟨173, Or.inl rfl⟩, ?_⟩
  refine Vx.go hC te_368_284 ?_
  refine Or.inr ⟨by decide, ?_⟩
  refine p_call_mk (av := [.ref 0, .int (S.2 (i + Int32.ofInt 1).toNatClampNeg), .int (S.2 (i + Int32.ofInt 2).toNatClampNeg), .int (S.2 (i + Int32.ofInt 3).toNatClampNeg), .int (S.2 (i + Int32.ofInt 4).toNatClampNeg), .int (S.2 (i + Int32.ofInt 5).toNatClampNeg), .ref 173]) (rest := []) mt_43 rfl (by decide) (show c + 2 ≤ 601024 by omega) (show s + 12 ≤ 7293033 by omega) (fun q => by cases q) ?_
  refine g_43 (n := 6) hL (fun r3 h1 hL2 => ?_)
  show Vx (Ex S 24) S M_368 [] Q1 287 lv [.int r3] h1 (c + 2) (s + 12)
  refine Vx.go hC te_368_287 ?_
  refine ⟨by decide, ?_⟩
  have hl4 := LwS.st (j := 5) (v := .int r3) (by omega) hl
  show Vx (Ex S 24) S M_368 [] Q1 289 (px_s1 lv 5 (.int r3)) [] h1 (c + 2) (s + 12)
  refine Vx.go hC te_368_289 ?_
  refine ⟨_, hl4.2.2.1, ⟨143, Or.inl rfl⟩, ?_⟩
  refine sc_load hC (k := 1) hl4 te_368_290 te_368_291 te_368_293 te_368_294 te_368_295 (sc_in hS hi (by decide)) ?_
  refine sc_load hC (k := 2) hl4 te_368_296 te_368_297 te_368_299 te_368_300 te_368_301 (sc_in hS hi (by decide)) ?_
  refine sc_load hC (k := 3) hl4 te_368_302 te_368_303 te_368_305 te_368_306 te_368_307 (sc_in hS hi (by decide)) ?_
  refine sc_load hC (k := 4) hl4 te_368_308 te_368_309 te_368_311 te_368_312 te_368_313 (sc_in hS hi (by decide)) ?_
  refine sc_load hC (k := 5) hl4 te_368_314 te_368_315 te_368_317 te_368_318 te_368_319 (sc_in hS hi (by decide)) ?_
  refine Vx.go hC te_368_320 ?_
  obtain ⟨gs8, gs8g⟩ := hL2.obj (A := 143) rfl
  have hcall9 := ref_call (S := S) (n := 24) (μ := 226) (args := [.inr 143, .inl ((S.2 (i + Int32.ofInt 1).toNatClampNeg) : Int32).toInt, .inl ((S.2 (i + Int32.ofInt 2).toNatClampNeg) : Int32).toInt, .inl ((S.2 (i + Int32.ofInt 3).toNatClampNeg) : Int32).toInt, .inl ((S.2 (i + Int32.ofInt 4).toNatClampNeg) : Int32).toInt, .inl ((S.2 (i + Int32.ofInt 5).toNatClampNeg) : Int32).toInt]) (h := h1) (fun v hv => by simp only [List.mem_cons, List.not_mem_nil, or_false] at hv; rcases hv with rfl | rfl | rfl | rfl | rfl | rfl <;> first | trivial | exact wiI _) hL2 (fun mem hr => f_226 hr (fun r m' a b => ⟨a, b⟩))
  simp only [List.map_cons, List.map_nil, wv, Int32.ofInt_toInt] at hcall9
  refine p_call_mk (av := [.ref 143, .int (S.2 (i + Int32.ofInt 1).toNatClampNeg), .int (S.2 (i + Int32.ofInt 2).toNatClampNeg), .int (S.2 (i + Int32.ofInt 3).toNatClampNeg), .int (S.2 (i + Int32.ofInt 4).toNatClampNeg), .int (S.2 (i + Int32.ofInt 5).toNatClampNeg)]) (rest := []) mt_226 rfl (by decide) (show (c + 2) + 0 ≤ 601024 by omega) (show (s + 12) + 0 ≤ 7293033 by omega) (fun _ => ⟨143, gs8, rfl, gs8g⟩) ?_
  refine hC _ _ _ _ _ ?_ hcall9
  rintro _ h5 ⟨hL6, r7, rfl⟩
  show Vx (Ex S 24) S M_368 [] Q1 323 (px_s1 lv 5 (.int r3)) [.int r7] h5 (c + 2) (s + 12)
  refine Vx.go hC te_368_323 ?_
  refine ⟨by decide, ?_⟩
  have hl10 := LwS.st (j := 6) (v := .int r7) (by omega) hl4
  show Vx (Ex S 24) S M_368 [] Q1 325 (px_s1 (px_s1 lv 5 (.int r3)) 6 (.int r7)) [] h5 (c + 2) (s + 12)
  refine Vx.go hC te_368_325 ?_
  refine ⟨by decide, ?_⟩
  exact Nx _ _ _ _ hl10 hL6 (by omega) (by omega)
theorem lc_1 {S : Nat × (Nat → Int32)} {lv : LV} {h : PH} {c s : Nat} {i : Int32} (hS : S.1 ≤ 3072) (hl : LwS lv i) (hi : 0 ≤ i.toInt ∧ i.toInt + 5 < S.1) (hL : LI h) (hc : c + 8 ≤ 601024) (hs : s + 48 ≤ 7293033) (Nx : ∀ lv' h' c' s', LwS lv' i → LI h' → c' ≤ c + 8 → s' ≤ s + 48 → Vx (Ex S 24) S M_368 [] Q1 2327 lv' [] h' c' s') : Vx (Ex S 24) S M_368 [] Q1 328 lv [] h c s := by
  have hC := Ex.mono S 24
  refine Vx.go hC te_368_328 ?_
  refine ⟨_, hl.2.1, ⟨0, Or.inl rfl⟩, ?_⟩
  refine sc_load hC (k := 1) hl te_368_329 te_368_330 te_368_332 te_368_333 te_368_334 (sc_in hS hi (by decide)) ?_
  refine sc_load hC (k := 2) hl te_368_335 te_368_336 te_368_338 te_368_339 te_368_340 (sc_in hS hi (by decide)) ?_
  refine Vx.go hC te_368_341 ?_
  refine ⟨_, hl.2.2.2.1, ⟨173, Or.inl rfl⟩, ?_⟩
  refine Vx.go hC te_368_342 ?_
  refine Or.inr ⟨by decide, ?_⟩
  refine p_call_mk (av := [.ref 0, .int (S.2 (i + Int32.ofInt 1).toNatClampNeg), .int (S.2 (i + Int32.ofInt 2).toNatClampNeg), .ref 173]) (rest := []) mt_48 rfl (by decide) (show c + 2 ≤ 601024 by omega) (show s + 12 ≤ 7293033 by omega) (fun q => by cases q) ?_
  refine g_48 (n := 6) hL (fun r3 h1 hL2 => ?_)
  show Vx (Ex S 24) S M_368 [] Q1 345 lv [.int r3] h1 (c + 2) (s + 12)
  refine Vx.go hC te_368_345 ?_
  refine ⟨by decide, ?_⟩
  have hl4 := LwS.st (j := 5) (v := .int r3) (by omega) hl
  show Vx (Ex S 24) S M_368 [] Q1 347 (px_s1 lv 5 (.int r3)) [] h1 (c + 2) (s + 12)
  refine Vx.go hC te_368_347 ?_
  refine ⟨_, hl4.2.2.1, ⟨143, Or.inl rfl⟩, ?_⟩
  refine sc_load hC (k := 1) hl4 te_368_348 te_368_349 te_368_351 te_368_352 te_368_353 (sc_in hS hi (by decide)) ?_
  refine sc_load hC (k := 2) hl4 te_368_354 te_368_355 te_368_357 te_368_358 te_368_359 (sc_in hS hi (by decide)) ?_
  refine Vx.go hC te_368_360 ?_
  obtain ⟨gs8, gs8g⟩ := hL2.obj (A := 143) rfl
  have hcall9 := ref_call (S := S) (n := 24) (μ := 230) (args := [.inr 143, .inl ((S.2 (i + Int32.ofInt 1).toNatClampNeg) : Int32).toInt, .inl ((S.2 (i + Int32.ofInt 2).toNatClampNeg) : Int32).toInt]) (h := h1) (fun v hv => by simp only [List.mem_cons, List.not_mem_nil, or_false] at hv; rcases hv with rfl | rfl | rfl <;> first | trivial | exact wiI _) hL2 (fun mem hr => f_230 hr (fun r m' a b => ⟨a, b⟩))
  simp only [List.map_cons, List.map_nil, wv, Int32.ofInt_toInt] at hcall9
  refine p_call_mk (av := [.ref 143, .int (S.2 (i + Int32.ofInt 1).toNatClampNeg), .int (S.2 (i + Int32.ofInt 2).toNatClampNeg)]) (rest := []) mt_230 rfl (by decide) (show (c + 2) + 0 ≤ 601024 by omega) (show (s + 12) + 0 ≤ 7293033 by omega) (fun _ => ⟨143, gs8, rfl, gs8g⟩) ?_
  refine hC _ _ _ _ _ ?_ hcall9
  rintro _ h5 ⟨hL6, r7, rfl⟩
  show Vx (Ex S 24) S M_368 [] Q1 363 (px_s1 lv 5 (.int r3)) [.int r7] h5 (c + 2) (s + 12)
  refine Vx.go hC te_368_363 ?_
  refine ⟨by decide, ?_⟩
  have hl10 := LwS.st (j := 6) (v := .int r7) (by omega) hl4
  show Vx (Ex S 24) S M_368 [] Q1 365 (px_s1 (px_s1 lv 5 (.int r3)) 6 (.int r7)) [] h5 (c + 2) (s + 12)
  refine Vx.go hC te_368_365 ?_
  refine ⟨by decide, ?_⟩
  exact Nx _ _ _ _ hl10 hL6 (by omega) (by omega)
theorem lc_2 {S : Nat × (Nat → Int32)} {lv : LV} {h : PH} {c s : Nat} {i : Int32} (hS : S.1 ≤ 3072) (hl : LwS lv i) (hi : 0 ≤ i.toInt ∧ i.toInt + 5 < S.1) (hL : LI h) (hc : c + 8 ≤ 601024) (hs : s + 48 ≤ 7293033) (Nx : ∀ lv' h' c' s', LwS lv' i → LI h' → c' ≤ c + 8 → s' ≤ s + 48 → Vx (Ex S 24) S M_368 [] Q1 2327 lv' [] h' c' s') : Vx (Ex S 24) S M_368 [] Q1 368 lv [] h c s := by
  have hC := Ex.mono S 24
  refine Vx.go hC te_368_368 ?_
  refine ⟨_, hl.2.1, ⟨0, Or.inl rfl⟩, ?_⟩
  refine sc_load hC (k := 1) hl te_368_369 te_368_370 te_368_372 te_368_373 te_368_374 (sc_in hS hi (by decide)) ?_
  refine sc_load hC (k := 2) hl te_368_375 te_368_376 te_368_378 te_368_379 te_368_380 (sc_in hS hi (by decide)) ?_
  refine sc_load hC (k := 3) hl te_368_381 te_368_382 te_368_384 te_368_385 te_368_386 (sc_in hS hi (by decide)) ?_
  refine sc_load hC (k := 4) hl te_368_387 te_368_388 te_368_390 te_368_391 te_368_392 (sc_in hS hi (by decide)) ?_
  refine Vx.go hC te_368_393 ?_
  refine ⟨_, hl.2.2.2.1, ⟨173, Or.inl rfl⟩, ?_⟩
  refine Vx.go hC te_368_394 ?_
  refine Or.inr ⟨by decide, ?_⟩
  refine p_call_mk (av := [.ref 0, .int (S.2 (i + Int32.ofInt 1).toNatClampNeg), .int (S.2 (i + Int32.ofInt 2).toNatClampNeg), .int (S.2 (i + Int32.ofInt 3).toNatClampNeg), .int (S.2 (i + Int32.ofInt 4).toNatClampNeg), .ref 173]) (rest := []) mt_51 rfl (by decide) (show c + 2 ≤ 601024 by omega) (show s + 12 ≤ 7293033 by omega) (fun q => by cases q) ?_
  refine g_51 (n := 6) hL (fun r3 h1 hL2 => ?_)
  show Vx (Ex S 24) S M_368 [] Q1 397 lv [.int r3] h1 (c + 2) (s + 12)
  refine Vx.go hC te_368_397 ?_
  refine ⟨by decide, ?_⟩
  have hl4 := LwS.st (j := 5) (v := .int r3) (by omega) hl
  show Vx (Ex S 24) S M_368 [] Q1 399 (px_s1 lv 5 (.int r3)) [] h1 (c + 2) (s + 12)
  refine Vx.go hC te_368_399 ?_
  refine ⟨_, hl4.2.2.1, ⟨143, Or.inl rfl⟩, ?_⟩
  refine sc_load hC (k := 1) hl4 te_368_400 te_368_401 te_368_403 te_368_404 te_368_405 (sc_in hS hi (by decide)) ?_
  refine sc_load hC (k := 2) hl4 te_368_406 te_368_407 te_368_409 te_368_410 te_368_411 (sc_in hS hi (by decide)) ?_
  refine sc_load hC (k := 3) hl4 te_368_412 te_368_413 te_368_415 te_368_416 te_368_417 (sc_in hS hi (by decide)) ?_
  refine sc_load hC (k := 4) hl4 te_368_418 te_368_419 te_368_421 te_368_422 te_368_423 (sc_in hS hi (by decide)) ?_
  refine Vx.go hC te_368_424 ?_
  obtain ⟨gs8, gs8g⟩ := hL2.obj (A := 143) rfl
  have hcall9 := ref_call (S := S) (n := 24) (μ := 232) (args := [.inr 143, .inl ((S.2 (i + Int32.ofInt 1).toNatClampNeg) : Int32).toInt, .inl ((S.2 (i + Int32.ofInt 2).toNatClampNeg) : Int32).toInt, .inl ((S.2 (i + Int32.ofInt 3).toNatClampNeg) : Int32).toInt, .inl ((S.2 (i + Int32.ofInt 4).toNatClampNeg) : Int32).toInt]) (h := h1) (fun v hv => by simp only [List.mem_cons, List.not_mem_nil, or_false] at hv; rcases hv with rfl | rfl | rfl | rfl | rfl <;> first | trivial | exact wiI _) hL2 (fun mem hr => f_232 hr (fun r m' a b => ⟨a, b⟩))
  simp only [List.map_cons, List.map_nil, wv, Int32.ofInt_toInt] at hcall9
  refine p_call_mk (av := [.ref 143, .int (S.2 (i + Int32.ofInt 1).toNatClampNeg), .int (S.2 (i + Int32.ofInt 2).toNatClampNeg), .int (S.2 (i + Int32.ofInt 3).toNatClampNeg), .int (S.2 (i + Int32.ofInt 4).toNatClampNeg)]) (rest := []) mt_232 rfl (by decide) (show (c + 2) + 0 ≤ 601024 by omega) (show (s + 12) + 0 ≤ 7293033 by omega) (fun _ => ⟨143, gs8, rfl, gs8g⟩) ?_
  refine hC _ _ _ _ _ ?_ hcall9
  rintro _ h5 ⟨hL6, r7, rfl⟩
  show Vx (Ex S 24) S M_368 [] Q1 427 (px_s1 lv 5 (.int r3)) [.int r7] h5 (c + 2) (s + 12)
  refine Vx.go hC te_368_427 ?_
  refine ⟨by decide, ?_⟩
  have hl10 := LwS.st (j := 6) (v := .int r7) (by omega) hl4
  show Vx (Ex S 24) S M_368 [] Q1 429 (px_s1 (px_s1 lv 5 (.int r3)) 6 (.int r7)) [] h5 (c + 2) (s + 12)
  refine Vx.go hC te_368_429 ?_
  refine ⟨by decide, ?_⟩
  exact Nx _ _ _ _ hl10 hL6 (by omega) (by omega)
theorem lc_3 {S : Nat × (Nat → Int32)} {lv : LV} {h : PH} {c s : Nat} {i : Int32} (hS : S.1 ≤ 3072) (hl : LwS lv i) (hi : 0 ≤ i.toInt ∧ i.toInt + 5 < S.1) (hL : LI h) (hc : c + 8 ≤ 601024) (hs : s + 48 ≤ 7293033) (Nx : ∀ lv' h' c' s', LwS lv' i → LI h' → c' ≤ c + 8 → s' ≤ s + 48 → Vx (Ex S 24) S M_368 [] Q1 2327 lv' [] h' c' s') : Vx (Ex S 24) S M_368 [] Q1 432 lv [] h c s := by
  have hC := Ex.mono S 24
  refine Vx.go hC te_368_432 ?_
  refine ⟨_, hl.2.1, ⟨0, Or.inl rfl⟩, ?_⟩
  refine Vx.go hC te_368_433 ?_
  refine ⟨_, hl.2.2.2.1, ⟨173, Or.inl rfl⟩, ?_⟩
  refine Vx.go hC te_368_434 ?_
  refine Or.inr ⟨by decide, ?_⟩
  refine p_call_mk (av := [.ref 0, .ref 173]) (rest := []) mt_53 rfl (by decide) (show c + 1 ≤ 601024 by omega) (show s + 6 ≤ 7293033 by omega) (fun q => by cases q) ?_
  refine g_53 (n := 6) hL (fun r3 h1 hL2 => ?_)
  show Vx (Ex S 24) S M_368 [] Q1 437 lv [.int r3] h1 (c + 1) (s + 6)
  refine Vx.go hC te_368_437 ?_
  refine ⟨by decide, ?_⟩
  have hl4 := LwS.st (j := 5) (v := .int r3) (by omega) hl
  show Vx (Ex S 24) S M_368 [] Q1 439 (px_s1 lv 5 (.int r3)) [] h1 (c + 1) (s + 6)
  refine Vx.go hC te_368_439 ?_
  refine ⟨_, hl4.2.2.1, ⟨143, Or.inl rfl⟩, ?_⟩
  refine Vx.go hC te_368_440 ?_
  obtain ⟨gs8, gs8g⟩ := hL2.obj (A := 143) rfl
  have hcall9 := ref_call (S := S) (n := 24) (μ := 233) (args := [.inr 143]) (h := h1) (fun v hv => by simp only [List.mem_cons, List.not_mem_nil, or_false] at hv; rw [hv]; trivial) hL2 (fun mem hr => f_233 hr (fun r m' a b => ⟨a, b⟩))
  simp only [List.map_cons, List.map_nil, wv, Int32.ofInt_toInt] at hcall9
  refine p_call_mk (av := [.ref 143]) (rest := []) mt_233 rfl (by decide) (show (c + 1) + 0 ≤ 601024 by omega) (show (s + 6) + 0 ≤ 7293033 by omega) (fun _ => ⟨143, gs8, rfl, gs8g⟩) ?_
  refine hC _ _ _ _ _ ?_ hcall9
  rintro _ h5 ⟨hL6, r7, rfl⟩
  show Vx (Ex S 24) S M_368 [] Q1 443 (px_s1 lv 5 (.int r3)) [.int r7] h5 (c + 1) (s + 6)
  refine Vx.go hC te_368_443 ?_
  refine ⟨by decide, ?_⟩
  have hl10 := LwS.st (j := 6) (v := .int r7) (by omega) hl4
  show Vx (Ex S 24) S M_368 [] Q1 445 (px_s1 (px_s1 lv 5 (.int r3)) 6 (.int r7)) [] h5 (c + 1) (s + 6)
  refine Vx.go hC te_368_445 ?_
  refine ⟨by decide, ?_⟩
  exact Nx _ _ _ _ hl10 hL6 (by omega) (by omega)
theorem lc_4 {S : Nat × (Nat → Int32)} {lv : LV} {h : PH} {c s : Nat} {i : Int32} (hS : S.1 ≤ 3072) (hl : LwS lv i) (hi : 0 ≤ i.toInt ∧ i.toInt + 5 < S.1) (hL : LI h) (hc : c + 8 ≤ 601024) (hs : s + 48 ≤ 7293033) (Nx : ∀ lv' h' c' s', LwS lv' i → LI h' → c' ≤ c + 8 → s' ≤ s + 48 → Vx (Ex S 24) S M_368 [] Q1 2327 lv' [] h' c' s') : Vx (Ex S 24) S M_368 [] Q1 448 lv [] h c s := by
  have hC := Ex.mono S 24
  refine Vx.go hC te_368_448 ?_
  refine ⟨_, hl.2.1, ⟨0, Or.inl rfl⟩, ?_⟩
  refine sc_load hC (k := 1) hl te_368_449 te_368_450 te_368_452 te_368_453 te_368_454 (sc_in hS hi (by decide)) ?_
  refine sc_load hC (k := 2) hl te_368_455 te_368_456 te_368_458 te_368_459 te_368_460 (sc_in hS hi (by decide)) ?_
  refine Vx.go hC te_368_461 ?_
  refine ⟨_, hl.2.2.2.1, ⟨173, Or.inl rfl⟩, ?_⟩
  refine Vx.go hC te_368_462 ?_
  refine Or.inr ⟨by decide, ?_⟩
  refine p_call_mk (av := [.ref 0, .int (S.2 (i + Int32.ofInt 1).toNatClampNeg), .int (S.2 (i + Int32.ofInt 2).toNatClampNeg), .ref 173]) (rest := []) mt_55 rfl (by decide) (show c + 2 ≤ 601024 by omega) (show s + 12 ≤ 7293033 by omega) (fun q => by cases q) ?_
  refine g_55 (n := 6) hL (fun r3 h1 hL2 => ?_)
  show Vx (Ex S 24) S M_368 [] Q1 465 lv [.int r3] h1 (c + 2) (s + 12)
  refine Vx.go hC te_368_465 ?_
  refine ⟨by decide, ?_⟩
  have hl4 := LwS.st (j := 5) (v := .int r3) (by omega) hl
  show Vx (Ex S 24) S M_368 [] Q1 467 (px_s1 lv 5 (.int r3)) [] h1 (c + 2) (s + 12)
  refine Vx.go hC te_368_467 ?_
  refine ⟨_, hl4.2.2.1, ⟨143, Or.inl rfl⟩, ?_⟩
  refine sc_load hC (k := 1) hl4 te_368_468 te_368_469 te_368_471 te_368_472 te_368_473 (sc_in hS hi (by decide)) ?_
  refine sc_load hC (k := 2) hl4 te_368_474 te_368_475 te_368_477 te_368_478 te_368_479 (sc_in hS hi (by decide)) ?_
  refine Vx.go hC te_368_480 ?_
  obtain ⟨gs8, gs8g⟩ := hL2.obj (A := 143) rfl
  have hcall9 := ref_call (S := S) (n := 24) (μ := 234) (args := [.inr 143, .inl ((S.2 (i + Int32.ofInt 1).toNatClampNeg) : Int32).toInt, .inl ((S.2 (i + Int32.ofInt 2).toNatClampNeg) : Int32).toInt]) (h := h1) (fun v hv => by simp only [List.mem_cons, List.not_mem_nil, or_false] at hv; rcases hv with rfl | rfl | rfl <;> first | trivial | exact wiI _) hL2 (fun mem hr => f_234 hr (fun r m' a b => ⟨a, b⟩))
  simp only [List.map_cons, List.map_nil, wv, Int32.ofInt_toInt] at hcall9
  refine p_call_mk (av := [.ref 143, .int (S.2 (i + Int32.ofInt 1).toNatClampNeg), .int (S.2 (i + Int32.ofInt 2).toNatClampNeg)]) (rest := []) mt_234 rfl (by decide) (show (c + 2) + 0 ≤ 601024 by omega) (show (s + 12) + 0 ≤ 7293033 by omega) (fun _ => ⟨143, gs8, rfl, gs8g⟩) ?_
  refine hC _ _ _ _ _ ?_ hcall9
  rintro _ h5 ⟨hL6, r7, rfl⟩
  show Vx (Ex S 24) S M_368 [] Q1 483 (px_s1 lv 5 (.int r3)) [.int r7] h5 (c + 2) (s + 12)
  refine Vx.go hC te_368_483 ?_
  refine ⟨by decide, ?_⟩
  have hl10 := LwS.st (j := 6) (v := .int r7) (by omega) hl4
  show Vx (Ex S 24) S M_368 [] Q1 485 (px_s1 (px_s1 lv 5 (.int r3)) 6 (.int r7)) [] h5 (c + 2) (s + 12)
  refine Vx.go hC te_368_485 ?_
  refine ⟨by decide, ?_⟩
  exact Nx _ _ _ _ hl10 hL6 (by omega) (by omega)
theorem lc_6 {S : Nat × (Nat → Int32)} {lv : LV} {h : PH} {c s : Nat} {i : Int32} (hS : S.1 ≤ 3072) (hl : LwS lv i) (hi : 0 ≤ i.toInt ∧ i.toInt + 5 < S.1) (hL : LI h) (hc : c + 8 ≤ 601024) (hs : s + 48 ≤ 7293033) (Nx : ∀ lv' h' c' s', LwS lv' i → LI h' → c' ≤ c + 8 → s' ≤ s + 48 → Vx (Ex S 24) S M_368 [] Q1 2327 lv' [] h' c' s') : Vx (Ex S 24) S M_368 [] Q1 561 lv [] h c s := by
  have hC := Ex.mono S 24
  refine Vx.go hC te_368_561 ?_
  refine ⟨_, hl.2.1, ⟨0, Or.inl rfl⟩, ?_⟩
  refine sc_load hC (k := 1) hl te_368_562 te_368_563 te_368_565 te_368_566 te_368_567 (sc_in hS hi (by decide)) ?_
  refine sc_load hC (k := 2) hl te_368_568 te_368_569 te_368_571 te_368_572 te_368_573 (sc_in hS hi (by decide)) ?_
  refine Vx.go hC te_368_574 ?_
  refine ⟨_, hl.2.2.2.1, ⟨173, Or.inl rfl⟩, ?_⟩
  refine Vx.go hC te_368_575 ?_
  refine Or.inr ⟨by decide, ?_⟩
  refine p_call_mk (av := [.ref 0, .int (S.2 (i + Int32.ofInt 1).toNatClampNeg), .int (S.2 (i + Int32.ofInt 2).toNatClampNeg), .ref 173]) (rest := []) mt_61 rfl (by decide) (show c + 2 ≤ 601024 by omega) (show s + 12 ≤ 7293033 by omega) (fun q => by cases q) ?_
  refine g_61 (n := 6) hL (fun r3 h1 hL2 => ?_)
  show Vx (Ex S 24) S M_368 [] Q1 578 lv [.int r3] h1 (c + 2) (s + 12)
  refine Vx.go hC te_368_578 ?_
  refine ⟨by decide, ?_⟩
  have hl4 := LwS.st (j := 5) (v := .int r3) (by omega) hl
  show Vx (Ex S 24) S M_368 [] Q1 580 (px_s1 lv 5 (.int r3)) [] h1 (c + 2) (s + 12)
  refine Vx.go hC te_368_580 ?_
  refine ⟨_, hl4.2.2.1, ⟨143, Or.inl rfl⟩, ?_⟩
  refine sc_load hC (k := 1) hl4 te_368_581 te_368_582 te_368_584 te_368_585 te_368_586 (sc_in hS hi (by decide)) ?_
  refine sc_load hC (k := 2) hl4 te_368_587 te_368_588 te_368_590 te_368_591 te_368_592 (sc_in hS hi (by decide)) ?_
  refine Vx.go hC te_368_593 ?_
  obtain ⟨gs8, gs8g⟩ := hL2.obj (A := 143) rfl
  have hcall9 := ref_call (S := S) (n := 24) (μ := 237) (args := [.inr 143, .inl ((S.2 (i + Int32.ofInt 1).toNatClampNeg) : Int32).toInt, .inl ((S.2 (i + Int32.ofInt 2).toNatClampNeg) : Int32).toInt]) (h := h1) (fun v hv => by simp only [List.mem_cons, List.not_mem_nil, or_false] at hv; rcases hv with rfl | rfl | rfl <;> first | trivial | exact wiI _) hL2 (fun mem hr => f_237 hr (fun r m' a b => ⟨a, b⟩))
  simp only [List.map_cons, List.map_nil, wv, Int32.ofInt_toInt] at hcall9
  refine p_call_mk (av := [.ref 143, .int (S.2 (i + Int32.ofInt 1).toNatClampNeg), .int (S.2 (i + Int32.ofInt 2).toNatClampNeg)]) (rest := []) mt_237 rfl (by decide) (show (c + 2) + 0 ≤ 601024 by omega) (show (s + 12) + 0 ≤ 7293033 by omega) (fun _ => ⟨143, gs8, rfl, gs8g⟩) ?_
  refine hC _ _ _ _ _ ?_ hcall9
  rintro _ h5 ⟨hL6, r7, rfl⟩
  show Vx (Ex S 24) S M_368 [] Q1 596 (px_s1 lv 5 (.int r3)) [.int r7] h5 (c + 2) (s + 12)
  refine Vx.go hC te_368_596 ?_
  refine ⟨by decide, ?_⟩
  have hl10 := LwS.st (j := 6) (v := .int r7) (by omega) hl4
  show Vx (Ex S 24) S M_368 [] Q1 598 (px_s1 (px_s1 lv 5 (.int r3)) 6 (.int r7)) [] h5 (c + 2) (s + 12)
  refine Vx.go hC te_368_598 ?_
  refine ⟨by decide, ?_⟩
  exact Nx _ _ _ _ hl10 hL6 (by omega) (by omega)
theorem lc_7 {S : Nat × (Nat → Int32)} {lv : LV} {h : PH} {c s : Nat} {i : Int32} (hS : S.1 ≤ 3072) (hl : LwS lv i) (hi : 0 ≤ i.toInt ∧ i.toInt + 5 < S.1) (hL : LI h) (hc : c + 8 ≤ 601024) (hs : s + 48 ≤ 7293033) (Nx : ∀ lv' h' c' s', LwS lv' i → LI h' → c' ≤ c + 8 → s' ≤ s + 48 → Vx (Ex S 24) S M_368 [] Q1 2327 lv' [] h' c' s') : Vx (Ex S 24) S M_368 [] Q1 601 lv [] h c s := by
  have hC := Ex.mono S 24
  refine Vx.go hC te_368_601 ?_
  refine ⟨_, hl.2.1, ⟨0, Or.inl rfl⟩, ?_⟩
  refine sc_load hC (k := 1) hl te_368_602 te_368_603 te_368_605 te_368_606 te_368_607 (sc_in hS hi (by decide)) ?_
  refine sc_load hC (k := 2) hl te_368_608 te_368_609 te_368_611 te_368_612 te_368_613 (sc_in hS hi (by decide)) ?_
  refine Vx.go hC te_368_614 ?_
  refine ⟨_, hl.2.2.2.1, ⟨173, Or.inl rfl⟩, ?_⟩
  refine Vx.go hC te_368_615 ?_
  refine Or.inr ⟨by decide, ?_⟩
  refine p_call_mk (av := [.ref 0, .int (S.2 (i + Int32.ofInt 1).toNatClampNeg), .int (S.2 (i + Int32.ofInt 2).toNatClampNeg), .ref 173]) (rest := []) mt_64 rfl (by decide) (show c + 2 ≤ 601024 by omega) (show s + 12 ≤ 7293033 by omega) (fun q => by cases q) ?_
  refine g_64 (n := 6) hL (fun r3 h1 hL2 => ?_)
  show Vx (Ex S 24) S M_368 [] Q1 618 lv [.int r3] h1 (c + 2) (s + 12)
  refine Vx.go hC te_368_618 ?_
  refine ⟨by decide, ?_⟩
  have hl4 := LwS.st (j := 5) (v := .int r3) (by omega) hl
  show Vx (Ex S 24) S M_368 [] Q1 620 (px_s1 lv 5 (.int r3)) [] h1 (c + 2) (s + 12)
  refine Vx.go hC te_368_620 ?_
  refine ⟨_, hl4.2.2.1, ⟨143, Or.inl rfl⟩, ?_⟩
  refine sc_load hC (k := 1) hl4 te_368_621 te_368_622 te_368_624 te_368_625 te_368_626 (sc_in hS hi (by decide)) ?_
  refine sc_load hC (k := 2) hl4 te_368_627 te_368_628 te_368_630 te_368_631 te_368_632 (sc_in hS hi (by decide)) ?_
  refine Vx.go hC te_368_633 ?_
  obtain ⟨gs8, gs8g⟩ := hL2.obj (A := 143) rfl
  have hcall9 := ref_call (S := S) (n := 24) (μ := 238) (args := [.inr 143, .inl ((S.2 (i + Int32.ofInt 1).toNatClampNeg) : Int32).toInt, .inl ((S.2 (i + Int32.ofInt 2).toNatClampNeg) : Int32).toInt]) (h := h1) (fun v hv => by simp only [List.mem_cons, List.not_mem_nil, or_false] at hv; rcases hv with rfl | rfl | rfl <;> first | trivial | exact wiI _) hL2 (fun mem hr => f_238 hr (fun r m' a b => ⟨a, b⟩))
  simp only [List.map_cons, List.map_nil, wv, Int32.ofInt_toInt] at hcall9
  refine p_call_mk (av := [.ref 143, .int (S.2 (i + Int32.ofInt 1).toNatClampNeg), .int (S.2 (i + Int32.ofInt 2).toNatClampNeg)]) (rest := []) mt_238 rfl (by decide) (show (c + 2) + 0 ≤ 601024 by omega) (show (s + 12) + 0 ≤ 7293033 by omega) (fun _ => ⟨143, gs8, rfl, gs8g⟩) ?_
  refine hC _ _ _ _ _ ?_ hcall9
  rintro _ h5 ⟨hL6, r7, rfl⟩
  show Vx (Ex S 24) S M_368 [] Q1 636 (px_s1 lv 5 (.int r3)) [.int r7] h5 (c + 2) (s + 12)
  refine Vx.go hC te_368_636 ?_
  refine ⟨by decide, ?_⟩
  have hl10 := LwS.st (j := 6) (v := .int r7) (by omega) hl4
  show Vx (Ex S 24) S M_368 [] Q1 638 (px_s1 (px_s1 lv 5 (.int r3)) 6 (.int r7)) [] h5 (c + 2) (s + 12)
  refine Vx.go hC te_368_638 ?_
  refine ⟨by decide, ?_⟩
  exact Nx _ _ _ _ hl10 hL6 (by omega) (by omega)
theorem lc_8 {S : Nat × (Nat → Int32)} {lv : LV} {h : PH} {c s : Nat} {i : Int32} (hS : S.1 ≤ 3072) (hl : LwS lv i) (hi : 0 ≤ i.toInt ∧ i.toInt + 5 < S.1) (hL : LI h) (hc : c + 8 ≤ 601024) (hs : s + 48 ≤ 7293033) (Nx : ∀ lv' h' c' s', LwS lv' i → LI h' → c' ≤ c + 8 → s' ≤ s + 48 → Vx (Ex S 24) S M_368 [] Q1 2327 lv' [] h' c' s') : Vx (Ex S 24) S M_368 [] Q1 641 lv [] h c s := by
  have hC := Ex.mono S 24
  refine Vx.go hC te_368_641 ?_
  refine ⟨_, hl.2.1, ⟨0, Or.inl rfl⟩, ?_⟩
  refine Vx.go hC te_368_642 ?_
  obtain ⟨gs4, gs4g⟩ := hL.obj (A := 0) rfl
  have hcall5 := cls_call (S := S) (n := 24) (μ := 10) (args := [.inr 0]) (h := h) (es := fun _ => False) (fun v hv => by simp only [List.mem_cons, List.not_mem_nil, or_false] at hv; rw [hv]; trivial) hL (fun mem hr => f_10 hr (fun r m' a b => ⟨a, pNb_pCl b⟩))
  simp only [List.map_cons, List.map_nil, wv, Int32.ofInt_toInt] at hcall5
  refine p_call_mk (av := [.ref 0]) (rest := []) mt_10 rfl (by decide) (show c + 0 ≤ 601024 by omega) (show s + 0 ≤ 7293033 by omega) (fun _ => ⟨0, gs4, rfl, gs4g⟩) ?_
  refine hC _ _ _ _ _ ?_ hcall5
  rintro _ h1 ⟨hL2, hor⟩
  obtain ⟨r3, rfl⟩ := hor.resolve_right (fun ⟨_, q, _⟩ => q)
  show Vx (Ex S 24) S M_368 [] Q1 645 lv [.int r3] h1 c s
  refine Vx.go hC te_368_645 ?_
  refine ⟨_, _, rfl, rfl, ?_⟩
  show Vx (Ex S 24) S M_368 [] Q1 646 lv [] h1 c s
  refine Vx.go hC te_368_646 ?_
  refine ⟨_, hl.2.2.1, ⟨143, Or.inl rfl⟩, ?_⟩
  refine Vx.go hC te_368_647 ?_
  obtain ⟨gs9, gs9g⟩ := hL2.obj (A := 143) rfl
  have hcall10 := ref_call (S := S) (n := 24) (μ := 239) (args := [.inr 143]) (h := h1) (fun v hv => by simp only [List.mem_cons, List.not_mem_nil, or_false] at hv; rw [hv]; trivial) hL2 (fun mem hr => f_239 hr (fun r m' a b => ⟨a, b⟩))
  simp only [List.map_cons, List.map_nil, wv, Int32.ofInt_toInt] at hcall10
  refine p_call_mk (av := [.ref 143]) (rest := []) mt_239 rfl (by decide) (show c + 0 ≤ 601024 by omega) (show s + 0 ≤ 7293033 by omega) (fun _ => ⟨143, gs9, rfl, gs9g⟩) ?_
  refine hC _ _ _ _ _ ?_ hcall10
  rintro _ h6 ⟨hL7, r8, rfl⟩
  show Vx (Ex S 24) S M_368 [] Q1 650 lv [.int r8] h6 c s
  refine Vx.go hC te_368_650 ?_
  refine ⟨_, _, rfl, rfl, ?_⟩
  show Vx (Ex S 24) S M_368 [] Q1 651 lv [] h6 c s
  refine Vx.go hC te_368_651 ?_
  refine ⟨by decide, ?_⟩
  exact Nx _ _ _ _ hl hL7 (by omega) (by omega)
theorem lc_9 {S : Nat × (Nat → Int32)} {lv : LV} {h : PH} {c s : Nat} {i : Int32} (hS : S.1 ≤ 3072) (hl : LwS lv i) (hi : 0 ≤ i.toInt ∧ i.toInt + 5 < S.1) (hL : LI h) (hc : c + 8 ≤ 601024) (hs : s + 48 ≤ 7293033) (Nx : ∀ lv' h' c' s', LwS lv' i → LI h' → c' ≤ c + 8 → s' ≤ s + 48 → Vx (Ex S 24) S M_368 [] Q1 2327 lv' [] h' c' s') : Vx (Ex S 24) S M_368 [] Q1 654 lv [] h c s := by
  have hC := Ex.mono S 24
  refine Vx.go hC te_368_654 ?_
  refine ⟨_, hl.2.1, ⟨0, Or.inl rfl⟩, ?_⟩
  refine sc_load hC (k := 1) hl te_368_655 te_368_656 te_368_658 te_368_659 te_368_660 (sc_in hS hi (by decide)) ?_
  refine sc_load hC (k := 2) hl te_368_661 te_368_662 te_368_664 te_368_665 te_368_666 (sc_in hS hi (by decide)) ?_
  refine Vx.go hC te_368_667 ?_
  refine ⟨_, hl.2.2.2.1, ⟨173, Or.inl rfl⟩, ?_⟩
  refine Vx.go hC te_368_668 ?_
  refine Or.inr ⟨by decide, ?_⟩
  refine p_call_mk (av := [.ref 0, .int (S.2 (i + Int32.ofInt 1).toNatClampNeg), .int (S.2 (i + Int32.ofInt 2).toNatClampNeg), .ref 173]) (rest := []) mt_67 rfl (by decide) (show c + 3 ≤ 601024 by omega) (show s + 18 ≤ 7293033 by omega) (fun q => by cases q) ?_
  refine g_67 (n := 6) hL (fun r3 h1 hL2 => ?_)
  show Vx (Ex S 24) S M_368 [] Q1 671 lv [.int r3] h1 (c + 3) (s + 18)
  refine Vx.go hC te_368_671 ?_
  refine ⟨by decide, ?_⟩
  have hl4 := LwS.st (j := 5) (v := .int r3) (by omega) hl
  show Vx (Ex S 24) S M_368 [] Q1 673 (px_s1 lv 5 (.int r3)) [] h1 (c + 3) (s + 18)
  refine Vx.go hC te_368_673 ?_
  refine ⟨_, hl4.2.2.1, ⟨143, Or.inl rfl⟩, ?_⟩
  refine sc_load hC (k := 1) hl4 te_368_674 te_368_675 te_368_677 te_368_678 te_368_679 (sc_in hS hi (by decide)) ?_
  refine sc_load hC (k := 2) hl4 te_368_680 te_368_681 te_368_683 te_368_684 te_368_685 (sc_in hS hi (by decide)) ?_
  refine Vx.go hC te_368_686 ?_
  obtain ⟨gs8, gs8g⟩ := hL2.obj (A := 143) rfl
  have hcall9 := ref_call (S := S) (n := 24) (μ := 244) (args := [.inr 143, .inl ((S.2 (i + Int32.ofInt 1).toNatClampNeg) : Int32).toInt, .inl ((S.2 (i + Int32.ofInt 2).toNatClampNeg) : Int32).toInt]) (h := h1) (fun v hv => by simp only [List.mem_cons, List.not_mem_nil, or_false] at hv; rcases hv with rfl | rfl | rfl <;> first | trivial | exact wiI _) hL2 (fun mem hr => f_244 hr (fun r m' a b => ⟨a, b⟩))
  simp only [List.map_cons, List.map_nil, wv, Int32.ofInt_toInt] at hcall9
  refine p_call_mk (av := [.ref 143, .int (S.2 (i + Int32.ofInt 1).toNatClampNeg), .int (S.2 (i + Int32.ofInt 2).toNatClampNeg)]) (rest := []) mt_244 rfl (by decide) (show (c + 3) + 0 ≤ 601024 by omega) (show (s + 18) + 0 ≤ 7293033 by omega) (fun _ => ⟨143, gs8, rfl, gs8g⟩) ?_
  refine hC _ _ _ _ _ ?_ hcall9
  rintro _ h5 ⟨hL6, r7, rfl⟩
  show Vx (Ex S 24) S M_368 [] Q1 689 (px_s1 lv 5 (.int r3)) [.int r7] h5 (c + 3) (s + 18)
  refine Vx.go hC te_368_689 ?_
  refine ⟨by decide, ?_⟩
  have hl10 := LwS.st (j := 6) (v := .int r7) (by omega) hl4
  show Vx (Ex S 24) S M_368 [] Q1 691 (px_s1 (px_s1 lv 5 (.int r3)) 6 (.int r7)) [] h5 (c + 3) (s + 18)
  refine Vx.go hC te_368_691 ?_
  refine ⟨by decide, ?_⟩
  exact Nx _ _ _ _ hl10 hL6 (by omega) (by omega)
theorem lc_10 {S : Nat × (Nat → Int32)} {lv : LV} {h : PH} {c s : Nat} {i : Int32} (hS : S.1 ≤ 3072) (hl : LwS lv i) (hi : 0 ≤ i.toInt ∧ i.toInt + 5 < S.1) (hL : LI h) (hc : c + 8 ≤ 601024) (hs : s + 48 ≤ 7293033) (Nx : ∀ lv' h' c' s', LwS lv' i → LI h' → c' ≤ c + 8 → s' ≤ s + 48 → Vx (Ex S 24) S M_368 [] Q1 2327 lv' [] h' c' s') : Vx (Ex S 24) S M_368 [] Q1 694 lv [] h c s := by
  have hC := Ex.mono S 24
  refine Vx.go hC te_368_694 ?_
  refine ⟨_, hl.2.1, ⟨0, Or.inl rfl⟩, ?_⟩
  refine sc_load hC (k := 1) hl te_368_695 te_368_696 te_368_698 te_368_699 te_368_700 (sc_in hS hi (by decide)) ?_
  refine sc_load hC (k := 2) hl te_368_701 te_368_702 te_368_704 te_368_705 te_368_706 (sc_in hS hi (by decide)) ?_
  refine sc_load hC (k := 3) hl te_368_707 te_368_708 te_368_710 te_368_711 te_368_712 (sc_in hS hi (by decide)) ?_
  refine Vx.go hC te_368_713 ?_
  refine ⟨_, hl.2.2.2.1, ⟨173, Or.inl rfl⟩, ?_⟩
  refine Vx.go hC te_368_714 ?_
  refine Or.inr ⟨by decide, ?_⟩
  refine p_call_mk (av := [.ref 0, .int (S.2 (i + Int32.ofInt 1).toNatClampNeg), .int (S.2 (i + Int32.ofInt 2).toNatClampNeg), .int (S.2 (i + Int32.ofInt 3).toNatClampNeg), .ref 173]) (rest := []) mt_71 rfl (by decide) (show c + 5 ≤ 601024 by omega) (show s + 30 ≤ 7293033 by omega) (fun q => by cases q) ?_
  refine g_71 (n := 6) hL (fun r3 h1 hL2 => ?_)
  show Vx (Ex S 24) S M_368 [] Q1 717 lv [.int r3] h1 (c + 5) (s + 30)
  refine Vx.go hC te_368_717 ?_
  refine ⟨by decide, ?_⟩
  have hl4 := LwS.st (j := 5) (v := .int r3) (by omega) hl
  show Vx (Ex S 24) S M_368 [] Q1 719 (px_s1 lv 5 (.int r3)) [] h1 (c + 5) (s + 30)
  refine Vx.go hC te_368_719 ?_
  refine ⟨_, hl4.2.2.1, ⟨143, Or.inl rfl⟩, ?_⟩
  refine sc_load hC (k := 1) hl4 te_368_720 te_368_721 te_368_723 te_368_724 te_368_725 (sc_in hS hi (by decide)) ?_
  refine sc_load hC (k := 2) hl4 te_368_726 te_368_727 te_368_729 te_368_730 te_368_731 (sc_in hS hi (by decide)) ?_
  refine sc_load hC (k := 3) hl4 te_368_732 te_368_733 te_368_735 te_368_736 te_368_737 (sc_in hS hi (by decide)) ?_
  refine Vx.go hC te_368_738 ?_
  obtain ⟨gs8, gs8g⟩ := hL2.obj (A := 143) rfl
  have hcall9 := ref_call (S := S) (n := 24) (μ := 252) (args := [.inr 143, .inl ((S.2 (i + Int32.ofInt 1).toNatClampNeg) : Int32).toInt, .inl ((S.2 (i + Int32.ofInt 2).toNatClampNeg) : Int32).toInt, .inl ((S.2 (i + Int32.ofInt 3).toNatClampNeg) : Int32).toInt]) (h := h1) (fun v hv => by simp only [List.mem_cons, List.not_mem_nil, or_false] at hv; rcases hv with rfl | rfl | rfl | rfl <;> first | trivial | exact wiI _) hL2 (fun mem hr => f_252 hr (fun r m' a b => ⟨a, b⟩))
  simp only [List.map_cons, List.map_nil, wv, Int32.ofInt_toInt] at hcall9
  refine p_call_mk (av := [.ref 143, .int (S.2 (i + Int32.ofInt 1).toNatClampNeg), .int (S.2 (i + Int32.ofInt 2).toNatClampNeg), .int (S.2 (i + Int32.ofInt 3).toNatClampNeg)]) (rest := []) mt_252 rfl (by decide) (show (c + 5) + 0 ≤ 601024 by omega) (show (s + 30) + 0 ≤ 7293033 by omega) (fun _ => ⟨143, gs8, rfl, gs8g⟩) ?_
  refine hC _ _ _ _ _ ?_ hcall9
  rintro _ h5 ⟨hL6, r7, rfl⟩
  show Vx (Ex S 24) S M_368 [] Q1 741 (px_s1 lv 5 (.int r3)) [.int r7] h5 (c + 5) (s + 30)
  refine Vx.go hC te_368_741 ?_
  refine ⟨by decide, ?_⟩
  have hl10 := LwS.st (j := 6) (v := .int r7) (by omega) hl4
  show Vx (Ex S 24) S M_368 [] Q1 743 (px_s1 (px_s1 lv 5 (.int r3)) 6 (.int r7)) [] h5 (c + 5) (s + 30)
  refine Vx.go hC te_368_743 ?_
  refine ⟨by decide, ?_⟩
  exact Nx _ _ _ _ hl10 hL6 (by omega) (by omega)
theorem lc_11 {S : Nat × (Nat → Int32)} {lv : LV} {h : PH} {c s : Nat} {i : Int32} (hS : S.1 ≤ 3072) (hl : LwS lv i) (hi : 0 ≤ i.toInt ∧ i.toInt + 5 < S.1) (hL : LI h) (hc : c + 8 ≤ 601024) (hs : s + 48 ≤ 7293033) (Nx : ∀ lv' h' c' s', LwS lv' i → LI h' → c' ≤ c + 8 → s' ≤ s + 48 → Vx (Ex S 24) S M_368 [] Q1 2327 lv' [] h' c' s') : Vx (Ex S 24) S M_368 [] Q1 746 lv [] h c s := by
  have hC := Ex.mono S 24
  refine Vx.go hC te_368_746 ?_
  refine ⟨_, hl.2.1, ⟨0, Or.inl rfl⟩, ?_⟩
  refine sc_load hC (k := 1) hl te_368_747 te_368_748 te_368_750 te_368_751 te_368_752 (sc_in hS hi (by decide)) ?_
  refine sc_load hC (k := 2) hl te_368_753 te_368_754 te_368_756 te_368_757 te_368_758 (sc_in hS hi (by decide)) ?_
  refine Vx.go hC te_368_759 ?_
  refine ⟨_, hl.2.2.2.1, ⟨173, Or.inl rfl⟩, ?_⟩
  refine Vx.go hC te_368_760 ?_
  refine Or.inr ⟨by decide, ?_⟩
  refine p_call_mk (av := [.ref 0, .int (S.2 (i + Int32.ofInt 1).toNatClampNeg), .int (S.2 (i + Int32.ofInt 2).toNatClampNeg), .ref 173]) (rest := []) mt_78 rfl (by decide) (show c + 4 ≤ 601024 by omega) (show s + 24 ≤ 7293033 by omega) (fun q => by cases q) ?_
  refine g_78 (n := 6) hL (fun r3 h1 hL2 => ?_)
  show Vx (Ex S 24) S M_368 [] Q1 763 lv [.int r3] h1 (c + 4) (s + 24)
  refine Vx.go hC te_368_763 ?_
  refine ⟨by decide, ?_⟩
  have hl4 := LwS.st (j := 5) (v := .int r3) (by omega) hl
  show Vx (Ex S 24) S M_368 [] Q1 765 (px_s1 lv 5 (.int r3)) [] h1 (c + 4) (s + 24)
  refine Vx.go hC te_368_765 ?_
  refine ⟨_, hl4.2.2.1, ⟨143, Or.inl rfl⟩, ?_⟩
  refine sc_load hC (k := 1) hl4 te_368_766 te_368_767 te_368_769 te_368_770 te_368_771 (sc_in hS hi (by decide)) ?_
  refine sc_load hC (k := 2) hl4 te_368_772 te_368_773 te_368_775 te_368_776 te_368_777 (sc_in hS hi (by decide)) ?_
  refine Vx.go hC te_368_778 ?_
  obtain ⟨gs8, gs8g⟩ := hL2.obj (A := 143) rfl
  have hcall9 := ref_call (S := S) (n := 24) (μ := 260) (args := [.inr 143, .inl ((S.2 (i + Int32.ofInt 1).toNatClampNeg) : Int32).toInt, .inl ((S.2 (i + Int32.ofInt 2).toNatClampNeg) : Int32).toInt]) (h := h1) (fun v hv => by simp only [List.mem_cons, List.not_mem_nil, or_false] at hv; rcases hv with rfl | rfl | rfl <;> first | trivial | exact wiI _) hL2 (fun mem hr => f_260 hr (fun r m' a b => ⟨a, b⟩))
  simp only [List.map_cons, List.map_nil, wv, Int32.ofInt_toInt] at hcall9
  refine p_call_mk (av := [.ref 143, .int (S.2 (i + Int32.ofInt 1).toNatClampNeg), .int (S.2 (i + Int32.ofInt 2).toNatClampNeg)]) (rest := []) mt_260 rfl (by decide) (show (c + 4) + 0 ≤ 601024 by omega) (show (s + 24) + 0 ≤ 7293033 by omega) (fun _ => ⟨143, gs8, rfl, gs8g⟩) ?_
  refine hC _ _ _ _ _ ?_ hcall9
  rintro _ h5 ⟨hL6, r7, rfl⟩
  show Vx (Ex S 24) S M_368 [] Q1 781 (px_s1 lv 5 (.int r3)) [.int r7] h5 (c + 4) (s + 24)
  refine Vx.go hC te_368_781 ?_
  refine ⟨by decide, ?_⟩
  have hl10 := LwS.st (j := 6) (v := .int r7) (by omega) hl4
  show Vx (Ex S 24) S M_368 [] Q1 783 (px_s1 (px_s1 lv 5 (.int r3)) 6 (.int r7)) [] h5 (c + 4) (s + 24)
  refine Vx.go hC te_368_783 ?_
  refine ⟨by decide, ?_⟩
  exact Nx _ _ _ _ hl10 hL6 (by omega) (by omega)
theorem lc_12 {S : Nat × (Nat → Int32)} {lv : LV} {h : PH} {c s : Nat} {i : Int32} (hS : S.1 ≤ 3072) (hl : LwS lv i) (hi : 0 ≤ i.toInt ∧ i.toInt + 5 < S.1) (hL : LI h) (hc : c + 8 ≤ 601024) (hs : s + 48 ≤ 7293033) (Nx : ∀ lv' h' c' s', LwS lv' i → LI h' → c' ≤ c + 8 → s' ≤ s + 48 → Vx (Ex S 24) S M_368 [] Q1 2327 lv' [] h' c' s') : Vx (Ex S 24) S M_368 [] Q1 786 lv [] h c s := by
  have hC := Ex.mono S 24
  refine Vx.go hC te_368_786 ?_
  refine ⟨_, hl.2.1, ⟨0, Or.inl rfl⟩, ?_⟩
  refine sc_load hC (k := 1) hl te_368_787 te_368_788 te_368_790 te_368_791 te_368_792 (sc_in hS hi (by decide)) ?_
  refine Vx.go hC te_368_793 ?_
  refine ⟨_, hl.2.2.2.1, ⟨173, Or.inl rfl⟩, ?_⟩
  refine Vx.go hC te_368_794 ?_
  refine Or.inr ⟨by decide, ?_⟩
  refine p_call_mk (av := [.ref 0, .int (S.2 (i + Int32.ofInt 1).toNatClampNeg), .ref 173]) (rest := []) mt_81 rfl (by decide) (show c + 1 ≤ 601024 by omega) (show s + 6 ≤ 7293033 by omega) (fun q => by cases q) ?_
  refine g_81 (n := 6) hL (fun r3 h1 hL2 => ?_)
  show Vx (Ex S 24) S M_368 [] Q1 797 lv [.int r3] h1 (c + 1) (s + 6)
  refine Vx.go hC te_368_797 ?_
  refine ⟨by decide, ?_⟩
  have hl4 := LwS.st (j := 5) (v := .int r3) (by omega) hl
  show Vx (Ex S 24) S M_368 [] Q1 799 (px_s1 lv 5 (.int r3)) [] h1 (c + 1) (s + 6)
  refine Vx.go hC te_368_799 ?_
  refine ⟨_, hl4.2.2.1, ⟨143, Or.inl rfl⟩, ?_⟩
  refine sc_load hC (k := 1) hl4 te_368_800 te_368_801 te_368_803 te_368_804 te_368_805 (sc_in hS hi (by decide)) ?_
  refine Vx.go hC te_368_806 ?_
  obtain ⟨gs8, gs8g⟩ := hL2.obj (A := 143) rfl
  have hcall9 := ref_call (S := S) (n := 24) (μ := 262) (args := [.inr 143, .inl ((S.2 (i + Int32.ofInt 1).toNatClampNeg) : Int32).toInt]) (h := h1) (fun v hv => by simp only [List.mem_cons, List.not_mem_nil, or_false] at hv; rcases hv with rfl | rfl <;> first | trivial | exact wiI _) hL2 (fun mem hr => f_262 hr (fun r m' a b => ⟨a, b⟩))
  simp only [List.map_cons, List.map_nil, wv, Int32.ofInt_toInt] at hcall9
  refine p_call_mk (av := [.ref 143, .int (S.2 (i + Int32.ofInt 1).toNatClampNeg)]) (rest := []) mt_262 rfl (by decide) (show (c + 1) + 0 ≤ 601024 by omega) (show (s + 6) + 0 ≤ 7293033 by omega) (fun _ => ⟨143, gs8, rfl, gs8g⟩) ?_
  refine hC _ _ _ _ _ ?_ hcall9
  rintro _ h5 ⟨hL6, r7, rfl⟩
  show Vx (Ex S 24) S M_368 [] Q1 809 (px_s1 lv 5 (.int r3)) [.int r7] h5 (c + 1) (s + 6)
  refine Vx.go hC te_368_809 ?_
  refine ⟨by decide, ?_⟩
  have hl10 := LwS.st (j := 6) (v := .int r7) (by omega) hl4
  show Vx (Ex S 24) S M_368 [] Q1 811 (px_s1 (px_s1 lv 5 (.int r3)) 6 (.int r7)) [] h5 (c + 1) (s + 6)
  refine Vx.go hC te_368_811 ?_
  refine ⟨by decide, ?_⟩
  exact Nx _ _ _ _ hl10 hL6 (by omega) (by omega)
theorem lc_13 {S : Nat × (Nat → Int32)} {lv : LV} {h : PH} {c s : Nat} {i : Int32} (hS : S.1 ≤ 3072) (hl : LwS lv i) (hi : 0 ≤ i.toInt ∧ i.toInt + 5 < S.1) (hL : LI h) (hc : c + 8 ≤ 601024) (hs : s + 48 ≤ 7293033) (Nx : ∀ lv' h' c' s', LwS lv' i → LI h' → c' ≤ c + 8 → s' ≤ s + 48 → Vx (Ex S 24) S M_368 [] Q1 2327 lv' [] h' c' s') : Vx (Ex S 24) S M_368 [] Q1 814 lv [] h c s := by
  have hC := Ex.mono S 24
  refine Vx.go hC te_368_814 ?_
  refine ⟨_, hl.2.1, ⟨0, Or.inl rfl⟩, ?_⟩
  refine sc_load hC (k := 1) hl te_368_815 te_368_816 te_368_818 te_368_819 te_368_820 (sc_in hS hi (by decide)) ?_
  refine Vx.go hC te_368_821 ?_
  refine ⟨_, hl.2.2.2.1, ⟨173, Or.inl rfl⟩, ?_⟩
  refine Vx.go hC te_368_822 ?_
  refine Or.inr ⟨by decide, ?_⟩
  refine p_call_mk (av := [.ref 0, .int (S.2 (i + Int32.ofInt 1).toNatClampNeg), .ref 173]) (rest := []) mt_83 rfl (by decide) (show c + 2 ≤ 601024 by omega) (show s + 12 ≤ 7293033 by omega) (fun q => by cases q) ?_
  refine g_83 (n := 6) hL (fun r3 h1 hL2 => ?_)
  show Vx (Ex S 24) S M_368 [] Q1 825 lv [.int r3] h1 (c + 2) (s + 12)
  refine Vx.go hC te_368_825 ?_
  refine ⟨by decide, ?_⟩
  have hl4 := LwS.st (j := 5) (v := .int r3) (by omega) hl
  show Vx (Ex S 24) S M_368 [] Q1 827 (px_s1 lv 5 (.int r3)) [] h1 (c + 2) (s + 12)
  refine Vx.go hC te_368_827 ?_
  refine ⟨_, hl4.2.2.1, ⟨143, Or.inl rfl⟩, ?_⟩
  refine sc_load hC (k := 1) hl4 te_368_828 te_368_829 te_368_831 te_368_832 te_368_833 (sc_in hS hi (by decide)) ?_
  refine Vx.go hC te_368_834 ?_
  obtain ⟨gs8, gs8g⟩ := hL2.obj (A := 143) rfl
  have hcall9 := ref_call (S := S) (n := 24) (μ := 267) (args := [.inr 143, .inl ((S.2 (i + Int32.ofInt 1).toNatClampNeg) : Int32).toInt]) (h := h1) (fun v hv => by simp only [List.mem_cons, List.not_mem_nil, or_false] at hv; rcases hv with rfl | rfl <;> first | trivial | exact wiI _) hL2 (fun mem hr => f_267 hr (fun r m' a b => ⟨a, b⟩))
  simp only [List.map_cons, List.map_nil, wv, Int32.ofInt_toInt] at hcall9
  refine p_call_mk (av := [.ref 143, .int (S.2 (i + Int32.ofInt 1).toNatClampNeg)]) (rest := []) mt_267 rfl (by decide) (show (c + 2) + 0 ≤ 601024 by omega) (show (s + 12) + 0 ≤ 7293033 by omega) (fun _ => ⟨143, gs8, rfl, gs8g⟩) ?_
  refine hC _ _ _ _ _ ?_ hcall9
  rintro _ h5 ⟨hL6, r7, rfl⟩
  show Vx (Ex S 24) S M_368 [] Q1 837 (px_s1 lv 5 (.int r3)) [.int r7] h5 (c + 2) (s + 12)
  refine Vx.go hC te_368_837 ?_
  refine ⟨by decide, ?_⟩
  have hl10 := LwS.st (j := 6) (v := .int r7) (by omega) hl4
  show Vx (Ex S 24) S M_368 [] Q1 839 (px_s1 (px_s1 lv 5 (.int r3)) 6 (.int r7)) [] h5 (c + 2) (s + 12)
  refine Vx.go hC te_368_839 ?_
  refine ⟨by decide, ?_⟩
  exact Nx _ _ _ _ hl10 hL6 (by omega) (by omega)
