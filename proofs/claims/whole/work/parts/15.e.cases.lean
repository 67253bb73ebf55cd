theorem lc_0 {Ln : Nat} {xs : Nat → Int32} {bo : Bool} {N i : Nat} {ic im : XI} (hi : i + 6 ≤ Ln) (hL : Ln ≤ 3072) (hN : N < 2 ^ 30) (hR : REL bo N ic im) (k : ∀ bo1 ic1 im1, REL bo1 (N + 1) ic1 im1 → LV Ln xs (lbud bo1) 1414 (lL i) [] (SC bo1) ic1 SM im1) : LV Ln xs (lbud bo) 200 (lL i) [] (SC bo) ic SM im := by
  obtain ⟨⟨⟨np, nd, hI⟩, hRI⟩, hE, ⟨nt, hnt, ht1, ht2, ht3⟩, ⟨hSI, hSR⟩, ⟨hK, hk2⟩⟩ := id hR
  refine LV.aload_n dL_law_200 rfl rfl ?_
  refine LV.ld (k := 1) ⟨rfl, rfl⟩ hi hL (by decide) rfl dL_law_201 dL_law_202 dL_law_203 dL_law_204 dL_law_205 ?_
  refine LV.ld (k := 2) ⟨rfl, rfl⟩ hi hL (by decide) rfl dL_law_206 dL_law_207 dL_law_208 dL_law_209 dL_law_210 ?_
  refine LV.ld (k := 3) ⟨rfl, rfl⟩ hi hL (by decide) rfl dL_law_211 dL_law_212 dL_law_213 dL_law_214 dL_law_215 ?_
  refine LV.c1 (As := [.int _, .int _, .int _]) rfl vX9_person kL_13 wX9_person rfl rfl rfl rfl dL_law_216 (d := 1000) rfl (fun _ => rfl) (pX9_person (d := 998) hRI hI) (fun x ic1 h1 => ?_)
  refine LV.aload_n dL_law_219 rfl rfl ?_
  refine LV.ld (k := 1) ⟨rfl, rfl⟩ hi hL (by decide) rfl dL_law_220 dL_law_221 dL_law_222 dL_law_223 dL_law_224 ?_
  refine LV.ld (k := 2) ⟨rfl, rfl⟩ hi hL (by decide) rfl dL_law_225 dL_law_226 dL_law_227 dL_law_228 dL_law_229 ?_
  refine LV.ld (k := 3) ⟨rfl, rfl⟩ hi hL (by decide) rfl dL_law_230 dL_law_231 dL_law_232 dL_law_233 dL_law_234 ?_
  refine LV.c2 (As := [.int _, .int _, .int _]) rfl vX10_person kL_17 wX10_person rfl rfl rfl rfl dL_law_235 (d := 1000) rfl (fun _ => rfl) (pX10_person (d := 998) rfl hI) (fun y im1 h2 => ?_)
  obtain ⟨e, hR1⟩ := rel_P hR h1 h2 (iv_person hI)
  exact LV.icmp_eq (tgt := 1414) dL_law_238 (by decide) (fun _ => k bo ic1 im1 hR1) (fun c => absurd e c)
theorem lc_1 {Ln : Nat} {xs : Nat → Int32} {bo : Bool} {N i : Nat} {ic im : XI} (hi : i + 6 ≤ Ln) (hL : Ln ≤ 3072) (hN : N < 2 ^ 30) (hR : REL bo N ic im) (k : ∀ bo1 ic1 im1, REL bo1 (N + 1) ic1 im1 → LV Ln xs (lbud bo1) 1414 (lL i) [] (SC bo1) ic1 SM im1) : LV Ln xs (lbud bo) 243 (lL i) [] (SC bo) ic SM im := by
  obtain ⟨⟨⟨np, nd, hI⟩, hRI⟩, hE, ⟨nt, hnt, ht1, ht2, ht3⟩, ⟨hSI, hSR⟩, ⟨hK, hk2⟩⟩ := id hR
  refine LV.aload_n dL_law_243 rfl rfl ?_
  refine LV.ld (k := 1) ⟨rfl, rfl⟩ hi hL (by decide) rfl dL_law_244 dL_law_245 dL_law_246 dL_law_247 dL_law_248 ?_
  refine LV.ld (k := 2) ⟨rfl, rfl⟩ hi hL (by decide) rfl dL_law_249 dL_law_250 dL_law_251 dL_law_252 dL_law_253 ?_
  refine LV.c1 (As := [.int _, .int _]) rfl vX9_personIs kL_18 wX9_personIs rfl rfl rfl rfl dL_law_254 (d := 1000) rfl (fun _ => rfl) (pX9_personIs (d := 995) hRI hI) (fun x ic1 h1 => ?_)
  refine LV.aload_n dL_law_257 rfl rfl ?_
  refine LV.ld (k := 1) ⟨rfl, rfl⟩ hi hL (by decide) rfl dL_law_258 dL_law_259 dL_law_260 dL_law_261 dL_law_262 ?_
  refine LV.ld (k := 2) ⟨rfl, rfl⟩ hi hL (by decide) rfl dL_law_263 dL_law_264 dL_law_265 dL_law_266 dL_law_267 ?_
  refine LV.c2 (As := [.int _, .int _]) rfl vX10_personIs kL_22 wX10_personIs rfl rfl rfl rfl dL_law_268 (d := 1000) rfl (fun _ => rfl) (pX10_personIs (d := 996) rfl hI) (fun y im1 h2 => ?_)
  obtain ⟨e, hR1⟩ := rel_P hR h1 h2 (iv_personIs hI)
  exact LV.icmp_eq (tgt := 1414) dL_law_271 (by decide) (fun _ => k bo ic1 im1 hR1) (fun c => absurd e c)
theorem lc_2 {Ln : Nat} {xs : Nat → Int32} {bo : Bool} {N i : Nat} {ic im : XI} (hi : i + 6 ≤ Ln) (hL : Ln ≤ 3072) (hN : N < 2 ^ 30) (hR : REL bo N ic im) (k : ∀ bo1 ic1 im1, REL bo1 (N + 1) ic1 im1 → LV Ln xs (lbud bo1) 1414 (lL i) [] (SC bo1) ic1 SM im1) : LV Ln xs (lbud bo) 276 (lL i) [] (SC bo) ic SM im := by
  obtain ⟨⟨⟨np, nd, hI⟩, hRI⟩, hE, ⟨nt, hnt, ht1, ht2, ht3⟩, ⟨hSI, hSR⟩, ⟨hK, hk2⟩⟩ := id hR
  refine LV.aload_n dL_law_276 rfl rfl ?_
  refine LV.ld (k := 1) ⟨rfl, rfl⟩ hi hL (by decide) rfl dL_law_277 dL_law_278 dL_law_279 dL_law_280 dL_law_281 ?_
  refine LV.ld (k := 2) ⟨rfl, rfl⟩ hi hL (by decide) rfl dL_law_282 dL_law_283 dL_law_284 dL_law_285 dL_law_286 ?_
  refine LV.c1 (As := [.int _, .int _]) rfl vX9_become kL_23 wX9_become rfl rfl rfl rfl dL_law_287 (d := 1000) rfl (fun _ => rfl) (pX9_become (d := 998) hRI hI) (fun x ic1 h1 => ?_)
  refine LV.aload_n dL_law_290 rfl rfl ?_
  refine LV.ld (k := 1) ⟨rfl, rfl⟩ hi hL (by decide) rfl dL_law_291 dL_law_292 dL_law_293 dL_law_294 dL_law_295 ?_
  refine LV.ld (k := 2) ⟨rfl, rfl⟩ hi hL (by decide) rfl dL_law_296 dL_law_297 dL_law_298 dL_law_299 dL_law_300 ?_
  refine LV.c2 (As := [.int _, .int _]) rfl vX10_become kL_26 wX10_become rfl rfl rfl rfl dL_law_301 (d := 1000) rfl (fun _ => rfl) (pX10_become (d := 998) rfl hI) (fun y im1 h2 => ?_)
  obtain ⟨e, hR1⟩ := rel_P hR h1 h2 (iv_become hI)
  exact LV.icmp_eq (tgt := 1414) dL_law_304 (by decide) (fun _ => k bo ic1 im1 hR1) (fun c => absurd e c)
theorem lc_3 {Ln : Nat} {xs : Nat → Int32} {bo : Bool} {N i : Nat} {ic im : XI} (hi : i + 6 ≤ Ln) (hL : Ln ≤ 3072) (hN : N < 2 ^ 30) (hR : REL bo N ic im) (k : ∀ bo1 ic1 im1, REL bo1 (N + 1) ic1 im1 → LV Ln xs (lbud bo1) 1414 (lL i) [] (SC bo1) ic1 SM im1) : LV Ln xs (lbud bo) 309 (lL i) [] (SC bo) ic SM im := by
  obtain ⟨⟨⟨np, nd, hI⟩, hRI⟩, hE, ⟨nt, hnt, ht1, ht2, ht3⟩, ⟨hSI, hSR⟩, ⟨hK, hk2⟩⟩ := id hR
  refine LV.aload_n dL_law_309 rfl rfl ?_
  refine LV.ld (k := 1) ⟨rfl, rfl⟩ hi hL (by decide) rfl dL_law_310 dL_law_311 dL_law_312 dL_law_313 dL_law_314 ?_
  refine LV.ld (k := 2) ⟨rfl, rfl⟩ hi hL (by decide) rfl dL_law_315 dL_law_316 dL_law_317 dL_law_318 dL_law_319 ?_
  refine LV.c1 (As := [.int _, .int _]) rfl vX9_as kL_27 wX9_as rfl rfl rfl rfl dL_law_320 (d := 1000) rfl (fun _ => rfl) (pX9_as (d := 998) hRI hI) (fun x ic1 h1 => ?_)
  refine LV.aload_n dL_law_323 rfl rfl ?_
  refine LV.ld (k := 1) ⟨rfl, rfl⟩ hi hL (by decide) rfl dL_law_324 dL_law_325 dL_law_326 dL_law_327 dL_law_328 ?_
  refine LV.ld (k := 2) ⟨rfl, rfl⟩ hi hL (by decide) rfl dL_law_329 dL_law_330 dL_law_331 dL_law_332 dL_law_333 ?_
  refine LV.c2 (As := [.int _, .int _]) rfl vX10_as kL_30 wX10_as rfl rfl rfl rfl dL_law_334 (d := 1000) rfl (fun _ => rfl) (pX10_as (d := 998) rfl hI) (fun y im1 h2 => ?_)
  obtain ⟨e, hR1⟩ := rel_P hR h1 h2 (iv_as hI)
  exact LV.icmp_eq (tgt := 1414) dL_law_337 (by decide) (fun _ => k bo ic1 im1 hR1) (fun c => absurd e c)
theorem lc_4 {Ln : Nat} {xs : Nat → Int32} {bo : Bool} {N i : Nat} {ic im : XI} (hi : i + 6 ≤ Ln) (hL : Ln ≤ 3072) (hN : N < 2 ^ 30) (hR : REL bo N ic im) (k : ∀ bo1 ic1 im1, REL bo1 (N + 1) ic1 im1 → LV Ln xs (lbud bo1) 1414 (lL i) [] (SC bo1) ic1 SM im1) : LV Ln xs (lbud bo) 342 (lL i) [] (SC bo) ic SM im := by
  obtain ⟨⟨⟨np, nd, hI⟩, hRI⟩, hE, ⟨nt, hnt, ht1, ht2, ht3⟩, ⟨hSI, hSR⟩, ⟨hK, hk2⟩⟩ := id hR
  refine LV.aload_n dL_law_342 rfl rfl ?_
  refine LV.ld (k := 1) ⟨rfl, rfl⟩ hi hL (by decide) rfl dL_law_343 dL_law_344 dL_law_345 dL_law_346 dL_law_347 ?_
  refine LV.ld (k := 2) ⟨rfl, rfl⟩ hi hL (by decide) rfl dL_law_348 dL_law_349 dL_law_350 dL_law_351 dL_law_352 ?_
  refine LV.ld (k := 3) ⟨rfl, rfl⟩ hi hL (by decide) rfl dL_law_353 dL_law_354 dL_law_355 dL_law_356 dL_law_357 ?_
  refine LV.c1 (As := [.int _, .int _, .int _]) rfl vX9_beats kL_31 wX9_beats rfl rfl rfl rfl dL_law_358 (d := 1000) rfl (fun _ => rfl) (pX9_beats (d := 998) hRI hI) (fun x ic1 h1 => ?_)
  refine LV.aload_n dL_law_361 rfl rfl ?_
  refine LV.ld (k := 1) ⟨rfl, rfl⟩ hi hL (by decide) rfl dL_law_362 dL_law_363 dL_law_364 dL_law_365 dL_law_366 ?_
  refine LV.ld (k := 2) ⟨rfl, rfl⟩ hi hL (by decide) rfl dL_law_367 dL_law_368 dL_law_369 dL_law_370 dL_law_371 ?_
  refine LV.ld (k := 3) ⟨rfl, rfl⟩ hi hL (by decide) rfl dL_law_372 dL_law_373 dL_law_374 dL_law_375 dL_law_376 ?_
  refine LV.c2 (As := [.int _, .int _, .int _]) rfl vX10_beats kL_34 wX10_beats rfl rfl rfl rfl dL_law_377 (d := 1000) rfl (fun _ => rfl) (pX10_beats (d := 998) rfl hI) (fun y im1 h2 => ?_)
  obtain ⟨e, hR1⟩ := rel_P hR h1 h2 (iv_beats hI)
  exact LV.icmp_eq (tgt := 1414) dL_law_380 (by decide) (fun _ => k bo ic1 im1 hR1) (fun c => absurd e c)
theorem lc_5 {Ln : Nat} {xs : Nat → Int32} {bo : Bool} {N i : Nat} {ic im : XI} (hi : i + 6 ≤ Ln) (hL : Ln ≤ 3072) (hN : N < 2 ^ 30) (hR : REL bo N ic im) (k : ∀ bo1 ic1 im1, REL bo1 (N + 1) ic1 im1 → LV Ln xs (lbud bo1) 1414 (lL i) [] (SC bo1) ic1 SM im1) : LV Ln xs (lbud bo) 385 (lL i) [] (SC bo) ic SM im := by
  obtain ⟨⟨⟨np, nd, hI⟩, hRI⟩, hE, ⟨nt, hnt, ht1, ht2, ht3⟩, ⟨hSI, hSR⟩, ⟨hK, hk2⟩⟩ := id hR
  refine LV.aload_n dL_law_385 rfl rfl ?_
  refine LV.ld (k := 1) ⟨rfl, rfl⟩ hi hL (by decide) rfl dL_law_386 dL_law_387 dL_law_388 dL_law_389 dL_law_390 ?_
  refine LV.ld (k := 2) ⟨rfl, rfl⟩ hi hL (by decide) rfl dL_law_391 dL_law_392 dL_law_393 dL_law_394 dL_law_395 ?_
  refine LV.ld (k := 3) ⟨rfl, rfl⟩ hi hL (by decide) rfl dL_law_396 dL_law_397 dL_law_398 dL_law_399 dL_law_400 ?_
  refine LV.c1 (As := [.int _, .int _, .int _]) rfl vX9_doing kL_35 wX9_doing rfl rfl rfl rfl dL_law_401 (d := 1000) rfl (fun _ => rfl) (pX9_doing (d := 998) hRI hI) (fun x ic1 h1 => ?_)
  refine LV.aload_n dL_law_404 rfl rfl ?_
  refine LV.ld (k := 1) ⟨rfl, rfl⟩ hi hL (by decide) rfl dL_law_405 dL_law_406 dL_law_407 dL_law_408 dL_law_409 ?_
  refine LV.ld (k := 2) ⟨rfl, rfl⟩ hi hL (by decide) rfl dL_law_410 dL_law_411 dL_law_412 dL_law_413 dL_law_414 ?_
  refine LV.ld (k := 3) ⟨rfl, rfl⟩ hi hL (by decide) rfl dL_law_415 dL_law_416 dL_law_417 dL_law_418 dL_law_419 ?_
  refine LV.c2 (As := [.int _, .int _, .int _]) rfl vX10_doing kL_38 wX10_doing rfl rfl rfl rfl dL_law_420 (d := 1000) rfl (fun _ => rfl) (pX10_doing (d := 998) rfl hI) (fun y im1 h2 => ?_)
  obtain ⟨e, hR1⟩ := rel_P hR h1 h2 (iv_doing hI)
  exact LV.icmp_eq (tgt := 1414) dL_law_423 (by decide) (fun _ => k bo ic1 im1 hR1) (fun c => absurd e c)
theorem lc_6 {Ln : Nat} {xs : Nat → Int32} {bo : Bool} {N i : Nat} {ic im : XI} (hi : i + 6 ≤ Ln) (hL : Ln ≤ 3072) (hN : N < 2 ^ 30) (hR : REL bo N ic im) (k : ∀ bo1 ic1 im1, REL bo1 (N + 1) ic1 im1 → LV Ln xs (lbud bo1) 1414 (lL i) [] (SC bo1) ic1 SM im1) : LV Ln xs (lbud bo) 428 (lL i) [] (SC bo) ic SM im := by
  obtain ⟨⟨⟨np, nd, hI⟩, hRI⟩, hE, ⟨nt, hnt, ht1, ht2, ht3⟩, ⟨hSI, hSR⟩, ⟨hK, hk2⟩⟩ := id hR
  refine LV.aload_n dL_law_428 rfl rfl ?_
  refine LV.ld (k := 1) ⟨rfl, rfl⟩ hi hL (by decide) rfl dL_law_429 dL_law_430 dL_law_431 dL_law_432 dL_law_433 ?_
  refine LV.ld (k := 2) ⟨rfl, rfl⟩ hi hL (by decide) rfl dL_law_434 dL_law_435 dL_law_436 dL_law_437 dL_law_438 ?_
  refine LV.c1 (As := [.int _, .int _]) rfl vX9_doingIs kL_39 wX9_doingIs rfl rfl rfl rfl dL_law_439 (d := 1000) rfl (fun _ => rfl) (pX9_doingIs (d := 995) hRI hI) (fun x ic1 h1 => ?_)
  refine LV.aload_n dL_law_442 rfl rfl ?_
  refine LV.ld (k := 1) ⟨rfl, rfl⟩ hi hL (by decide) rfl dL_law_443 dL_law_444 dL_law_445 dL_law_446 dL_law_447 ?_
  refine LV.ld (k := 2) ⟨rfl, rfl⟩ hi hL (by decide) rfl dL_law_448 dL_law_449 dL_law_450 dL_law_451 dL_law_452 ?_
  refine LV.c2 (As := [.int _, .int _]) rfl vX10_doingIs kL_42 wX10_doingIs rfl rfl rfl rfl dL_law_453 (d := 1000) rfl (fun _ => rfl) (pX10_doingIs (d := 995) rfl hI) (fun y im1 h2 => ?_)
  obtain ⟨e, hR1⟩ := rel_P hR h1 h2 (iv_doingIs hI)
  exact LV.icmp_eq (tgt := 1414) dL_law_456 (by decide) (fun _ => k bo ic1 im1 hR1) (fun c => absurd e c)
theorem lc_7 {Ln : Nat} {xs : Nat → Int32} {bo : Bool} {N i : Nat} {ic im : XI} (hi : i + 6 ≤ Ln) (hL : Ln ≤ 3072) (hN : N < 2 ^ 30) (hR : REL bo N ic im) (k : ∀ bo1 ic1 im1, REL bo1 (N + 1) ic1 im1 → LV Ln xs (lbud bo1) 1414 (lL i) [] (SC bo1) ic1 SM im1) : LV Ln xs (lbud bo) 461 (lL i) [] (SC bo) ic SM im := by
  obtain ⟨⟨⟨np, nd, hI⟩, hRI⟩, hE, ⟨nt, hnt, ht1, ht2, ht3⟩, ⟨hSI, hSR⟩, ⟨hK, hk2⟩⟩ := id hR
  refine LV.aload_n dL_law_461 rfl rfl ?_
  refine LV.ld (k := 1) ⟨rfl, rfl⟩ hi hL (by decide) rfl dL_law_462 dL_law_463 dL_law_464 dL_law_465 dL_law_466 ?_
  refine LV.ld (k := 2) ⟨rfl, rfl⟩ hi hL (by decide) rfl dL_law_467 dL_law_468 dL_law_469 dL_law_470 dL_law_471 ?_
  refine LV.c1 (As := [.int _, .int _]) rfl vX9_sets kL_43 wX9_sets rfl rfl rfl rfl dL_law_472 (d := 1000) rfl (fun _ => rfl) (pX9_sets (d := 998) hRI hI) (fun x ic1 h1 => ?_)
  refine LV.aload_n dL_law_475 rfl rfl ?_
  refine LV.ld (k := 1) ⟨rfl, rfl⟩ hi hL (by decide) rfl dL_law_476 dL_law_477 dL_law_478 dL_law_479 dL_law_480 ?_
  refine LV.ld (k := 2) ⟨rfl, rfl⟩ hi hL (by decide) rfl dL_law_481 dL_law_482 dL_law_483 dL_law_484 dL_law_485 ?_
  refine LV.c2 (As := [.int _, .int _]) rfl vX10_sets kL_46 wX10_sets rfl rfl rfl rfl dL_law_486 (d := 1000) rfl (fun _ => rfl) (pX10_sets (d := 998) rfl hI) (fun y im1 h2 => ?_)
  obtain ⟨e, hR1⟩ := rel_P hR h1 h2 (iv_sets hI)
  exact LV.icmp_eq (tgt := 1414) dL_law_489 (by decide) (fun _ => k bo ic1 im1 hR1) (fun c => absurd e c)
theorem lc_8 {Ln : Nat} {xs : Nat → Int32} {bo : Bool} {N i : Nat} {ic im : XI} (hi : i + 6 ≤ Ln) (hL : Ln ≤ 3072) (hN : N < 2 ^ 30) (hR : REL bo N ic im) (k : ∀ bo1 ic1 im1, REL bo1 (N + 1) ic1 im1 → LV Ln xs (lbud bo1) 1414 (lL i) [] (SC bo1) ic1 SM im1) : LV Ln xs (lbud bo) 494 (lL i) [] (SC bo) ic SM im := by
  obtain ⟨⟨⟨np, nd, hI⟩, hRI⟩, hE, ⟨nt, hnt, ht1, ht2, ht3⟩, ⟨hSI, hSR⟩, ⟨hK, hk2⟩⟩ := id hR
  refine LV.aload_n dL_law_494 rfl rfl ?_
  refine LV.c1 (As := []) rfl vX9_shut kL_47 wX9_shut rfl rfl rfl rfl dL_law_495 (d := 1000) rfl (fun _ => rfl) (pX9_shut (d := 995) hRI hI) (fun x ic1 h1 => ?_)
  refine LV.aload_n dL_law_498 rfl rfl ?_
  refine LV.c2 (As := []) rfl vX10_shut kL_51 wX10_shut rfl rfl rfl rfl dL_law_499 (d := 1000) rfl (fun _ => rfl) (pX10_shut (d := 995) rfl hI) (fun y im1 h2 => ?_)
  obtain ⟨e, hR1⟩ := rel_P hR h1 h2 (iv_shut hI)
  exact LV.icmp_eq (tgt := 1414) dL_law_502 (by decide) (fun _ => k bo ic1 im1 hR1) (fun c => absurd e c)
theorem lc_9 {Ln : Nat} {xs : Nat → Int32} {bo : Bool} {N i : Nat} {ic im : XI} (hi : i + 6 ≤ Ln) (hL : Ln ≤ 3072) (hN : N < 2 ^ 30) (hR : REL bo N ic im) (k : ∀ bo1 ic1 im1, REL bo1 (N + 1) ic1 im1 → LV Ln xs (lbud bo1) 1414 (lL i) [] (SC bo1) ic1 SM im1) : LV Ln xs (lbud bo) 507 (lL i) [] (SC bo) ic SM im := by
  obtain ⟨⟨⟨np, nd, hI⟩, hRI⟩, hE, ⟨nt, hnt, ht1, ht2, ht3⟩, ⟨hSI, hSR⟩, ⟨hK, hk2⟩⟩ := id hR
  refine LV.aload_n dL_law_507 rfl rfl ?_
  refine LV.ld (k := 1) ⟨rfl, rfl⟩ hi hL (by decide) rfl dL_law_508 dL_law_509 dL_law_510 dL_law_511 dL_law_512 ?_
  refine LV.i2l dL_law_513 ?_
  refine LV.bipush (v := 32) dL_law_514 rfl ?_
  refine LV.lshl dL_law_516 ?_
  refine LV.ld (k := 2) ⟨rfl, rfl⟩ hi hL (by decide) rfl dL_law_517 dL_law_518 dL_law_519 dL_law_520 dL_law_521 ?_
  refine LV.i2l dL_law_522 ?_
  refine LV.ldc2 cL_52 dL_law_523 ?_
  refine LV.land dL_law_526 ?_
  refine LV.lor dL_law_527 ?_
  refine LV.ld (k := 3) ⟨rfl, rfl⟩ hi hL (by decide) rfl dL_law_528 dL_law_529 dL_law_530 dL_law_531 dL_law_532 ?_
  refine LV.c1 (As := [.long _, .int _]) rfl vX9_feed kL_54 wX9_feed rfl rfl rfl rfl dL_law_533 (d := 1000) rfl (fun _ => rfl) (pX9_feed (d := 998) hRI hI) (fun x ic1 h1 => ?_)
  refine LV.aload_n dL_law_536 rfl rfl ?_
  refine LV.ld (k := 1) ⟨rfl, rfl⟩ hi hL (by decide) rfl dL_law_537 dL_law_538 dL_law_539 dL_law_540 dL_law_541 ?_
  refine LV.i2l dL_law_542 ?_
  refine LV.bipush (v := 32) dL_law_543 rfl ?_
  refine LV.lshl dL_law_545 ?_
  refine LV.ld (k := 2) ⟨rfl, rfl⟩ hi hL (by decide) rfl dL_law_546 dL_law_547 dL_law_548 dL_law_549 dL_law_550 ?_
  refine LV.i2l dL_law_551 ?_
  refine LV.ldc2 cL_52 dL_law_552 ?_
  refine LV.land dL_law_555 ?_
  refine LV.lor dL_law_556 ?_
  refine LV.ld (k := 3) ⟨rfl, rfl⟩ hi hL (by decide) rfl dL_law_557 dL_law_558 dL_law_559 dL_law_560 dL_law_561 ?_
  refine LV.c2 (As := [.long _, .int _]) rfl vX10_feed kL_58 wX10_feed rfl rfl rfl rfl dL_law_562 (d := 1000) rfl (fun _ => rfl) (pX10_feed (d := 999) rfl hI) (fun y im1 h2 => ?_)
  obtain ⟨e, hR1⟩ := rel_P hR h1 h2 (iv_feed hI)
  exact LV.icmp_eq (tgt := 1414) dL_law_565 (by decide) (fun _ => k bo ic1 im1 hR1) (fun c => absurd e c)
theorem lc_10 {Ln : Nat} {xs : Nat → Int32} {bo : Bool} {N i : Nat} {ic im : XI} (hi : i + 6 ≤ Ln) (hL : Ln ≤ 3072) (hN : N < 2 ^ 30) (hR : REL bo N ic im) (k : ∀ bo1 ic1 im1, REL bo1 (N + 1) ic1 im1 → LV Ln xs (lbud bo1) 1414 (lL i) [] (SC bo1) ic1 SM im1) : LV Ln xs (lbud bo) 570 (lL i) [] (SC bo) ic SM im := by
  obtain ⟨⟨⟨np, nd, hI⟩, hRI⟩, hE, ⟨nt, hnt, ht1, ht2, ht3⟩, ⟨hSI, hSR⟩, ⟨hK, hk2⟩⟩ := id hR
  refine LV.aload_n dL_law_570 rfl rfl ?_
  refine LV.ld (k := 1) ⟨rfl, rfl⟩ hi hL (by decide) rfl dL_law_571 dL_law_572 dL_law_573 dL_law_574 dL_law_575 ?_
  refine LV.c1 (As := [.int _]) rfl vX9_text kL_59 wX9_text rfl rfl rfl rfl dL_law_576 (d := 1000) rfl (fun _ => rfl) (pX9_text (d := 960) hRI hI) (fun x ic1 h1 => ?_)
  refine LV.aload_n dL_law_579 rfl rfl ?_
  refine LV.ld (k := 1) ⟨rfl, rfl⟩ hi hL (by decide) rfl dL_law_580 dL_law_581 dL_law_582 dL_law_583 dL_law_584 ?_
  refine LV.c2 (As := [.int _]) rfl vX10_text kL_63 wX10_text rfl rfl rfl rfl dL_law_585 (d := 1000) rfl (fun _ => rfl) (pX10_text (d := 963) rfl hI) (fun y im1 h2 => ?_)
  obtain ⟨e, hR1⟩ := rel_P hR h1 h2 (iv_text hI)
  exact LV.icmp_eq (tgt := 1414) dL_law_588 (by decide) (fun _ => k bo ic1 im1 hR1) (fun c => absurd e c)
theorem lc_11 {Ln : Nat} {xs : Nat → Int32} {bo : Bool} {N i : Nat} {ic im : XI} (hi : i + 6 ≤ Ln) (hL : Ln ≤ 3072) (hN : N < 2 ^ 30) (hR : REL bo N ic im) (k : ∀ bo1 ic1 im1, REL bo1 (N + 1) ic1 im1 → LV Ln xs (lbud bo1) 1414 (lL i) [] (SC bo1) ic1 SM im1) : LV Ln xs (lbud bo) 593 (lL i) [] (SC bo) ic SM im := by
  obtain ⟨⟨⟨np, nd, hI⟩, hRI⟩, hE, ⟨nt, hnt, ht1, ht2, ht3⟩, ⟨hSI, hSR⟩, ⟨hK, hk2⟩⟩ := id hR
  refine LV.aload_n dL_law_593 rfl rfl ?_
  refine LV.ld (k := 1) ⟨rfl, rfl⟩ hi hL (by decide) rfl dL_law_594 dL_law_595 dL_law_596 dL_law_597 dL_law_598 ?_
  refine LV.c1 (As := [.int _]) rfl vX9_untell kL_64 wX9_untell rfl rfl rfl rfl dL_law_599 (d := 1000) rfl (fun _ => rfl) (pX9_untell (d := 998) hRI hI) (fun x ic1 h1 => ?_)
  refine LV.aload_n dL_law_602 rfl rfl ?_
  refine LV.ld (k := 1) ⟨rfl, rfl⟩ hi hL (by decide) rfl dL_law_603 dL_law_604 dL_law_605 dL_law_606 dL_law_607 ?_
  refine LV.c2 (As := [.int _]) rfl vX10_untell kL_67 wX10_untell rfl rfl rfl rfl dL_law_608 (d := 1000) rfl (fun _ => rfl) (pX10_untell (d := 999) rfl hI) (fun y im1 h2 => ?_)
  obtain ⟨e, hR1⟩ := rel_P hR h1 h2 (iv_untell hI)
  exact LV.icmp_eq (tgt := 1414) dL_law_611 (by decide) (fun _ => k bo ic1 im1 hR1) (fun c => absurd e c)
theorem lc_12 {Ln : Nat} {xs : Nat → Int32} {bo : Bool} {N i : Nat} {ic im : XI} (hi : i + 6 ≤ Ln) (hL : Ln ≤ 3072) (hN : N < 2 ^ 30) (hR : REL bo N ic im) (k : ∀ bo1 ic1 im1, REL bo1 (N + 1) ic1 im1 → LV Ln xs (lbud bo1) 1414 (lL i) [] (SC bo1) ic1 SM im1) : LV Ln xs (lbud bo) 616 (lL i) [] (SC bo) ic SM im := by
  obtain ⟨⟨⟨np, nd, hI⟩, hRI⟩, hE, ⟨nt, hnt, ht1, ht2, ht3⟩, ⟨hSI, hSR⟩, ⟨hK, hk2⟩⟩ := id hR
  refine LV.aload_n dL_law_616 rfl rfl ?_
  refine LV.ld (k := 1) ⟨rfl, rfl⟩ hi hL (by decide) rfl dL_law_617 dL_law_618 dL_law_619 dL_law_620 dL_law_621 ?_
  refine LV.ld (k := 2) ⟨rfl, rfl⟩ hi hL (by decide) rfl dL_law_622 dL_law_623 dL_law_624 dL_law_625 dL_law_626 ?_
  refine LV.ld (k := 3) ⟨rfl, rfl⟩ hi hL (by decide) rfl dL_law_627 dL_law_628 dL_law_629 dL_law_630 dL_law_631 ?_
  refine LV.ld (k := 4) ⟨rfl, rfl⟩ hi hL (by decide) rfl dL_law_632 dL_law_633 dL_law_634 dL_law_635 dL_law_636 ?_
  refine LV.c1 (As := [.int _, .int _, .int _, .int _]) rfl vX9_law kL_68 wX9_law rfl rfl rfl rfl dL_law_637 (d := 1000) rfl (fun _ => rfl) (pX9_law (d := 997) hRI hI) (fun x ic1 h1 => ?_)
  refine LV.aload_n dL_law_640 rfl rfl ?_
  refine LV.ld (k := 1) ⟨rfl, rfl⟩ hi hL (by decide) rfl dL_law_641 dL_law_642 dL_law_643 dL_law_644 dL_law_645 ?_
  refine LV.ld (k := 2) ⟨rfl, rfl⟩ hi hL (by decide) rfl dL_law_646 dL_law_647 dL_law_648 dL_law_649 dL_law_650 ?_
  refine LV.ld (k := 3) ⟨rfl, rfl⟩ hi hL (by decide) rfl dL_law_651 dL_law_652 dL_law_653 dL_law_654 dL_law_655 ?_
  refine LV.ld (k := 4) ⟨rfl, rfl⟩ hi hL (by decide) rfl dL_law_656 dL_law_657 dL_law_658 dL_law_659 dL_law_660 ?_
  refine LV.c2 (As := [.int _, .int _, .int _, .int _]) rfl vX10_law kL_72 wX10_law rfl rfl rfl rfl dL_law_661 (d := 1000) rfl (fun _ => rfl) (pX10_law (d := 997) rfl hI) (fun y im1 h2 => ?_)
  obtain ⟨e, hR1⟩ := rel_P hR h1 h2 (iv_law hI)
  exact LV.icmp_eq (tgt := 1414) dL_law_664 (by decide) (fun _ => k bo ic1 im1 hR1) (fun c => absurd e c)
theorem lc_13 {Ln : Nat} {xs : Nat → Int32} {bo : Bool} {N i : Nat} {ic im : XI} (hi : i + 6 ≤ Ln) (hL : Ln ≤ 3072) (hN : N < 2 ^ 30) (hR : REL bo N ic im) (k : ∀ bo1 ic1 im1, REL bo1 (N + 1) ic1 im1 → LV Ln xs (lbud bo1) 1414 (lL i) [] (SC bo1) ic1 SM im1) : LV Ln xs (lbud bo) 669 (lL i) [] (SC bo) ic SM im := by
  obtain ⟨⟨⟨np, nd, hI⟩, hRI⟩, hE, ⟨nt, hnt, ht1, ht2, ht3⟩, ⟨hSI, hSR⟩, ⟨hK, hk2⟩⟩ := id hR
  refine LV.aload_n dL_law_669 rfl rfl ?_
  refine LV.ld (k := 1) ⟨rfl, rfl⟩ hi hL (by decide) rfl dL_law_670 dL_law_671 dL_law_672 dL_law_673 dL_law_674 ?_
  refine LV.c1 (As := [.int _]) rfl vX9_ticks kL_73 wX9_ticks rfl rfl rfl rfl dL_law_675 (d := 1000) rfl (fun _ => rfl) (pX9_ticks (d := 994) hRI hI) (fun x ic1 h1 => ?_)
  refine LV.aload_n dL_law_678 rfl rfl ?_
  refine LV.ld (k := 1) ⟨rfl, rfl⟩ hi hL (by decide) rfl dL_law_679 dL_law_680 dL_law_681 dL_law_682 dL_law_683 ?_
  refine LV.c2 (As := [.int _]) rfl vX10_ticks kL_76 wX10_ticks rfl rfl rfl rfl dL_law_684 (d := 1000) rfl (fun _ => rfl) (pX10_ticks (d := 994) rfl hI) (fun y im1 h2 => ?_)
  obtain ⟨e, hR1⟩ := rel_P hR h1 h2 (iv_ticks hI)
  exact LV.icmp_eq (tgt := 1414) dL_law_687 (by decide) (fun _ => k bo ic1 im1 hR1) (fun c => absurd e c)
theorem lc_14 {Ln : Nat} {xs : Nat → Int32} {bo : Bool} {N i : Nat} {ic im : XI} (hi : i + 6 ≤ Ln) (hL : Ln ≤ 3072) (hN : N < 2 ^ 30) (hR : REL bo N ic im) (k : ∀ bo1 ic1 im1, REL bo1 (N + 1) ic1 im1 → LV Ln xs (lbud bo1) 1414 (lL i) [] (SC bo1) ic1 SM im1) : LV Ln xs (lbud bo) 692 (lL i) [] (SC bo) ic SM im := by
  obtain ⟨⟨⟨np, nd, hI⟩, hRI⟩, hE, ⟨nt, hnt, ht1, ht2, ht3⟩, ⟨hSI, hSR⟩, ⟨hK, hk2⟩⟩ := id hR
  refine LV.aload_n dL_law_692 rfl rfl ?_
  refine LV.ld (k := 1) ⟨rfl, rfl⟩ hi hL (by decide) rfl dL_law_693 dL_law_694 dL_law_695 dL_law_696 dL_law_697 ?_
  refine LV.c1 (As := [.int _]) rfl vX9_loose kL_77 wX9_loose rfl rfl rfl rfl dL_law_698 (d := 1000) rfl (fun _ => rfl) (pX9_loose (d := 994) hRI hI) (fun x ic1 h1 => ?_)
  refine LV.aload_n dL_law_701 rfl rfl ?_
  refine LV.ld (k := 1) ⟨rfl, rfl⟩ hi hL (by decide) rfl dL_law_702 dL_law_703 dL_law_704 dL_law_705 dL_law_706 ?_
  refine LV.c2 (As := [.int _]) rfl vX10_loose kL_80 wX10_loose rfl rfl rfl rfl dL_law_707 (d := 1000) rfl (fun _ => rfl) (pX10_loose (d := 994) rfl hI) (fun y im1 h2 => ?_)
  obtain ⟨e, hR1⟩ := rel_P hR h1 h2 (iv_loose hI)
  exact LV.icmp_eq (tgt := 1414) dL_law_710 (by decide) (fun _ => k bo ic1 im1 hR1) (fun c => absurd e c)
theorem lc_15 {Ln : Nat} {xs : Nat → Int32} {bo : Bool} {N i : Nat} {ic im : XI} (hi : i + 6 ≤ Ln) (hL : Ln ≤ 3072) (hN : N < 2 ^ 30) (hR : REL bo N ic im) (k : ∀ bo1 ic1 im1, REL bo1 (N + 1) ic1 im1 → LV Ln xs (lbud bo1) 1414 (lL i) [] (SC bo1) ic1 SM im1) : LV Ln xs (lbud bo) 715 (lL i) [] (SC bo) ic SM im := by
  obtain ⟨⟨⟨np, nd, hI⟩, hRI⟩, hE, ⟨nt, hnt, ht1, ht2, ht3⟩, ⟨hSI, hSR⟩, ⟨hK, hk2⟩⟩ := id hR
  refine LV.aload_n dL_law_715 rfl rfl ?_
  refine LV.ld (k := 1) ⟨rfl, rfl⟩ hi hL (by decide) rfl dL_law_716 dL_law_717 dL_law_718 dL_law_719 dL_law_720 ?_
  refine LV.c1 (As := [.int _]) rfl vX9_tick kL_81 wX9_tick rfl rfl rfl rfl dL_law_721 (d := 1000) rfl (fun _ => rfl) (pX9_tick (d := 998) hRI hI) (fun x ic1 h1 => ?_)
  refine LV.aload_n dL_law_724 rfl rfl ?_
  refine LV.ld (k := 1) ⟨rfl, rfl⟩ hi hL (by decide) rfl dL_law_725 dL_law_726 dL_law_727 dL_law_728 dL_law_729 ?_
  refine LV.c2 (As := [.int _]) rfl vX10_tick kL_84 wX10_tick rfl rfl rfl rfl dL_law_730 (d := 1000) rfl (fun _ => rfl) (pX10_tick (d := 999) rfl hI) (fun y im1 h2 => ?_)
  obtain ⟨e, hR1⟩ := rel_P hR h1 h2 (iv_tick hI)
  exact LV.icmp_eq (tgt := 1414) dL_law_733 (by decide) (fun _ => k bo ic1 im1 hR1) (fun c => absurd e c)
theorem lc_16 {Ln : Nat} {xs : Nat → Int32} {bo : Bool} {N i : Nat} {ic im : XI} (hi : i + 6 ≤ Ln) (hL : Ln ≤ 3072) (hN : N < 2 ^ 30) (hR : REL bo N ic im) (k : ∀ bo1 ic1 im1, REL bo1 (N + 1) ic1 im1 → LV Ln xs (lbud bo1) 1414 (lL i) [] (SC bo1) ic1 SM im1) : LV Ln xs (lbud bo) 738 (lL i) [] (SC bo) ic SM im := by
  obtain ⟨⟨⟨np, nd, hI⟩, hRI⟩, hE, ⟨nt, hnt, ht1, ht2, ht3⟩, ⟨hSI, hSR⟩, ⟨hK, hk2⟩⟩ := id hR
  refine LV.aload_n dL_law_738 rfl rfl ?_
  refine LV.ld (k := 1) ⟨rfl, rfl⟩ hi hL (by decide) rfl dL_law_739 dL_law_740 dL_law_741 dL_law_742 dL_law_743 ?_
  refine LV.c1 (As := [.int _]) rfl vX9_seed kL_85 wX9_seed rfl rfl rfl rfl dL_law_744 (d := 1000) rfl (fun _ => rfl) (pX9_seed (d := 1000) hRI hI) (fun x ic1 h1 => ?_)
  refine LV.aload_n dL_law_747 rfl rfl ?_
  refine LV.ld (k := 1) ⟨rfl, rfl⟩ hi hL (by decide) rfl dL_law_748 dL_law_749 dL_law_750 dL_law_751 dL_law_752 ?_
  refine LV.c2 (As := [.int _]) rfl vX10_seed kL_88 wX10_seed rfl rfl rfl rfl dL_law_753 (d := 1000) rfl (fun _ => rfl) (pX10_seed (d := 999) rfl hI) (fun y im1 h2 => ?_)
  obtain ⟨e, hR1⟩ := rel_P hR h1 h2 (iv_seed hI)
  exact LV.icmp_eq (tgt := 1414) dL_law_756 (by decide) (fun _ => k bo ic1 im1 hR1) (fun c => absurd e c)
theorem lc_17 {Ln : Nat} {xs : Nat → Int32} {bo : Bool} {N i : Nat} {ic im : XI} (hi : i + 6 ≤ Ln) (hL : Ln ≤ 3072) (hN : N < 2 ^ 30) (hR : REL bo N ic im) (k : ∀ bo1 ic1 im1, REL bo1 (N + 1) ic1 im1 → LV Ln xs (lbud bo1) 1414 (lL i) [] (SC bo1) ic1 SM im1) : LV Ln xs (lbud bo) 761 (lL i) [] (SC bo) ic SM im := by
  obtain ⟨⟨⟨np, nd, hI⟩, hRI⟩, hE, ⟨nt, hnt, ht1, ht2, ht3⟩, ⟨hSI, hSR⟩, ⟨hK, hk2⟩⟩ := id hR
  refine LV.aload_n dL_law_761 rfl rfl ?_
  refine LV.ld (k := 1) ⟨rfl, rfl⟩ hi hL (by decide) rfl dL_law_762 dL_law_763 dL_law_764 dL_law_765 dL_law_766 ?_
  refine LV.ld (k := 2) ⟨rfl, rfl⟩ hi hL (by decide) rfl dL_law_767 dL_law_768 dL_law_769 dL_law_770 dL_law_771 ?_
  refine LV.c1 (As := [.int _, .int _]) rfl vX9_then kL_89 wX9_then rfl rfl rfl rfl dL_law_772 (d := 1000) rfl (fun _ => rfl) (pX9_then (d := 994) hRI hI) (fun x ic1 h1 => ?_)
  refine LV.aload_n dL_law_775 rfl rfl ?_
  refine LV.ld (k := 1) ⟨rfl, rfl⟩ hi hL (by decide) rfl dL_law_776 dL_law_777 dL_law_778 dL_law_779 dL_law_780 ?_
  refine LV.ld (k := 2) ⟨rfl, rfl⟩ hi hL (by decide) rfl dL_law_781 dL_law_782 dL_law_783 dL_law_784 dL_law_785 ?_
  refine LV.c2 (As := [.int _, .int _]) rfl vX10_then kL_92 wX10_then rfl rfl rfl rfl dL_law_786 (d := 1000) rfl (fun _ => rfl) (pX10_then (d := 995) rfl hI) (fun y im1 h2 => ?_)
  obtain ⟨e, hR1⟩ := rel_P hR h1 h2 (iv_then hI)
  exact LV.icmp_eq (tgt := 1414) dL_law_789 (by decide) (fun _ => k bo ic1 im1 hR1) (fun c => absurd e c)
theorem lc_18 {Ln : Nat} {xs : Nat → Int32} {bo : Bool} {N i : Nat} {ic im : XI} (hi : i + 6 ≤ Ln) (hL : Ln ≤ 3072) (hN : N < 2 ^ 30) (hR : REL bo N ic im) (k : ∀ bo1 ic1 im1, REL bo1 (N + 1) ic1 im1 → LV Ln xs (lbud bo1) 1414 (lL i) [] (SC bo1) ic1 SM im1) : LV Ln xs (lbud bo) 794 (lL i) [] (SC bo) ic SM im := by
  obtain ⟨⟨⟨np, nd, hI⟩, hRI⟩, hE, ⟨nt, hnt, ht1, ht2, ht3⟩, ⟨hSI, hSR⟩, ⟨hK, hk2⟩⟩ := id hR
  refine LV.aload_n dL_law_794 rfl rfl ?_
  refine LV.ld (k := 1) ⟨rfl, rfl⟩ hi hL (by decide) rfl dL_law_795 dL_law_796 dL_law_797 dL_law_798 dL_law_799 ?_
  refine LV.c1 (As := [.int _]) rfl vX9_soonest kL_93 wX9_soonest rfl rfl rfl rfl dL_law_800 (d := 1000) rfl (fun _ => rfl) (pX9_soonest (d := 994) hRI hI) (fun x ic1 h1 => ?_)
  refine LV.aload_n dL_law_803 rfl rfl ?_
  refine LV.ld (k := 1) ⟨rfl, rfl⟩ hi hL (by decide) rfl dL_law_804 dL_law_805 dL_law_806 dL_law_807 dL_law_808 ?_
  refine LV.c2 (As := [.int _]) rfl vX10_soonest kL_96 wX10_soonest rfl rfl rfl rfl dL_law_809 (d := 1000) rfl (fun _ => rfl) (pX10_soonest (d := 994) rfl hI) (fun y im1 h2 => ?_)
  obtain ⟨e, hR1⟩ := rel_P hR h1 h2 (iv_soonest hI)
  exact LV.icmp_eq (tgt := 1414) dL_law_812 (by decide) (fun _ => k bo ic1 im1 hR1) (fun c => absurd e c)
theorem lc_19 {Ln : Nat} {xs : Nat → Int32} {bo : Bool} {N i : Nat} {ic im : XI} (hi : i + 6 ≤ Ln) (hL : Ln ≤ 3072) (hN : N < 2 ^ 30) (hR : REL bo N ic im) (k : ∀ bo1 ic1 im1, REL bo1 (N + 1) ic1 im1 → LV Ln xs (lbud bo1) 1414 (lL i) [] (SC bo1) ic1 SM im1) : LV Ln xs (lbud bo) 817 (lL i) [] (SC bo) ic SM im := by
  obtain ⟨⟨⟨np, nd, hI⟩, hRI⟩, hE, ⟨nt, hnt, ht1, ht2, ht3⟩, ⟨hSI, hSR⟩, ⟨hK, hk2⟩⟩ := id hR
  refine LV.aload_n dL_law_817 rfl rfl ?_
  refine LV.ld (k := 1) ⟨rfl, rfl⟩ hi hL (by decide) rfl dL_law_818 dL_law_819 dL_law_820 dL_law_821 dL_law_822 ?_
  refine LV.c1 (As := [.int _]) rfl vX9_moment kL_97 wX9_moment rfl rfl rfl rfl dL_law_823 (d := 1000) rfl (fun _ => rfl) (pX9_moment (d := 993) hRI hI) (fun x ic1 h1 => ?_)
  refine LV.aload_n dL_law_826 rfl rfl ?_
  refine LV.ld (k := 1) ⟨rfl, rfl⟩ hi hL (by decide) rfl dL_law_827 dL_law_828 dL_law_829 dL_law_830 dL_law_831 ?_
  refine LV.c2 (As := [.int _]) rfl vX10_moment kL_100 wX10_moment rfl rfl rfl rfl dL_law_832 (d := 1000) rfl (fun _ => rfl) (pX10_moment (d := 995) rfl hI) (fun y im1 h2 => ?_)
  obtain ⟨e, hR1⟩ := rel_P hR h1 h2 (iv_moment hI)
  exact LV.icmp_eq (tgt := 1414) dL_law_835 (by decide) (fun _ => k bo ic1 im1 hR1) (fun c => absurd e c)
theorem lc_20 {Ln : Nat} {xs : Nat → Int32} {bo : Bool} {N i : Nat} {ic im : XI} (hi : i + 6 ≤ Ln) (hL : Ln ≤ 3072) (hN : N < 2 ^ 30) (hR : REL bo N ic im) (k : ∀ bo1 ic1 im1, REL bo1 (N + 1) ic1 im1 → LV Ln xs (lbud bo1) 1414 (lL i) [] (SC bo1) ic1 SM im1) : LV Ln xs (lbud bo) 840 (lL i) [] (SC bo) ic SM im := by
  obtain ⟨⟨⟨np, nd, hI⟩, hRI⟩, hE, ⟨nt, hnt, ht1, ht2, ht3⟩, ⟨hSI, hSR⟩, ⟨hK, hk2⟩⟩ := id hR
  refine LV.aload_n dL_law_840 rfl rfl ?_
  refine LV.ld (k := 1) ⟨rfl, rfl⟩ hi hL (by decide) rfl dL_law_841 dL_law_842 dL_law_843 dL_law_844 dL_law_845 ?_
  refine LV.ld (k := 2) ⟨rfl, rfl⟩ hi hL (by decide) rfl dL_law_846 dL_law_847 dL_law_848 dL_law_849 dL_law_850 ?_
  refine LV.c1 (As := [.int _, .int _]) rfl vX9_moments kL_101 wX9_moments rfl rfl rfl rfl dL_law_851 (d := 1000) rfl (fun _ => rfl) (pX9_moments (d := 993) hRI hI) (fun x ic1 h1 => ?_)
  refine LV.aload_n dL_law_854 rfl rfl ?_
  refine LV.ld (k := 1) ⟨rfl, rfl⟩ hi hL (by decide) rfl dL_law_855 dL_law_856 dL_law_857 dL_law_858 dL_law_859 ?_
  refine LV.ld (k := 2) ⟨rfl, rfl⟩ hi hL (by decide) rfl dL_law_860 dL_law_861 dL_law_862 dL_law_863 dL_law_864 ?_
  refine LV.c2 (As := [.int _, .int _]) rfl vX10_moments kL_104 wX10_moments rfl rfl rfl rfl dL_law_865 (d := 1000) rfl (fun _ => rfl) (pX10_moments (d := 994) rfl hI) (fun y im1 h2 => ?_)
  obtain ⟨e, hR1⟩ := rel_P hR h1 h2 (iv_moments hI)
  exact LV.icmp_eq (tgt := 1414) dL_law_868 (by decide) (fun _ => k bo ic1 im1 hR1) (fun c => absurd e c)
theorem lc_21 {Ln : Nat} {xs : Nat → Int32} {bo : Bool} {N i : Nat} {ic im : XI} (hi : i + 6 ≤ Ln) (hL : Ln ≤ 3072) (hN : N < 2 ^ 30) (hR : REL bo N ic im) (k : ∀ bo1 ic1 im1, REL bo1 (N + 1) ic1 im1 → LV Ln xs (lbud bo1) 1414 (lL i) [] (SC bo1) ic1 SM im1) : LV Ln xs (lbud bo) 873 (lL i) [] (SC bo) ic SM im := by
  obtain ⟨⟨⟨np, nd, hI⟩, hRI⟩, hE, ⟨nt, hnt, ht1, ht2, ht3⟩, ⟨hSI, hSR⟩, ⟨hK, hk2⟩⟩ := id hR
  refine LV.aload_n dL_law_873 rfl rfl ?_
  refine LV.ld (k := 1) ⟨rfl, rfl⟩ hi hL (by decide) rfl dL_law_874 dL_law_875 dL_law_876 dL_law_877 dL_law_878 ?_
  refine LV.ld (k := 2) ⟨rfl, rfl⟩ hi hL (by decide) rfl dL_law_879 dL_law_880 dL_law_881 dL_law_882 dL_law_883 ?_
  refine LV.ld (k := 3) ⟨rfl, rfl⟩ hi hL (by decide) rfl dL_law_884 dL_law_885 dL_law_886 dL_law_887 dL_law_888 ?_
  refine LV.c1 (As := [.int _, .int _, .int _]) rfl vX9_away kL_105 wX9_away rfl rfl rfl rfl dL_law_889 (d := 1000) rfl (fun _ => rfl) (pX9_away (d := 993) hRI hI) (fun x ic1 h1 => ?_)
  refine LV.aload_n dL_law_892 rfl rfl ?_
  refine LV.ld (k := 1) ⟨rfl, rfl⟩ hi hL (by decide) rfl dL_law_893 dL_law_894 dL_law_895 dL_law_896 dL_law_897 ?_
  refine LV.ld (k := 2) ⟨rfl, rfl⟩ hi hL (by decide) rfl dL_law_898 dL_law_899 dL_law_900 dL_law_901 dL_law_902 ?_
  refine LV.ld (k := 3) ⟨rfl, rfl⟩ hi hL (by decide) rfl dL_law_903 dL_law_904 dL_law_905 dL_law_906 dL_law_907 ?_
  refine LV.c2 (As := [.int _, .int _, .int _]) rfl vX10_away kL_108 wX10_away rfl rfl rfl rfl dL_law_908 (d := 1000) rfl (fun _ => rfl) (pX10_away (d := 993) rfl hI) (fun y im1 h2 => ?_)
  obtain ⟨e, hR1⟩ := rel_P hR h1 h2 (iv_away hI)
  exact LV.icmp_eq (tgt := 1414) dL_law_911 (by decide) (fun _ => k bo ic1 im1 hR1) (fun c => absurd e c)
theorem lc_22 {Ln : Nat} {xs : Nat → Int32} {bo : Bool} {N i : Nat} {ic im : XI} (hi : i + 6 ≤ Ln) (hL : Ln ≤ 3072) (hN : N < 2 ^ 30) (hR : REL bo N ic im) (k : ∀ bo1 ic1 im1, REL bo1 (N + 1) ic1 im1 → LV Ln xs (lbud bo1) 1414 (lL i) [] (SC bo1) ic1 SM im1) : LV Ln xs (lbud bo) 916 (lL i) [] (SC bo) ic SM im := by
  obtain ⟨⟨⟨np, nd, hI⟩, hRI⟩, hE, ⟨nt, hnt, ht1, ht2, ht3⟩, ⟨hSI, hSR⟩, ⟨hK, hk2⟩⟩ := id hR
  refine LV.aload_n dL_law_916 rfl rfl ?_
  refine LV.ld (k := 1) ⟨rfl, rfl⟩ hi hL (by decide) rfl dL_law_917 dL_law_918 dL_law_919 dL_law_920 dL_law_921 ?_
  refine LV.ld (k := 2) ⟨rfl, rfl⟩ hi hL (by decide) rfl dL_law_922 dL_law_923 dL_law_924 dL_law_925 dL_law_926 ?_
  refine LV.ld (k := 3) ⟨rfl, rfl⟩ hi hL (by decide) rfl dL_law_927 dL_law_928 dL_law_929 dL_law_930 dL_law_931 ?_
  refine LV.c1 (As := [.int _, .int _, .int _]) rfl vX9_phaseFor kL_109 wX9_phaseFor rfl rfl rfl rfl dL_law_932 (d := 1000) rfl (fun _ => rfl) (pX9_phaseFor (d := 993) hRI hI) (fun x ic1 h1 => ?_)
  refine LV.aload_n dL_law_935 rfl rfl ?_
  refine LV.ld (k := 1) ⟨rfl, rfl⟩ hi hL (by decide) rfl dL_law_936 dL_law_937 dL_law_938 dL_law_939 dL_law_940 ?_
  refine LV.ld (k := 2) ⟨rfl, rfl⟩ hi hL (by decide) rfl dL_law_941 dL_law_942 dL_law_943 dL_law_944 dL_law_945 ?_
  refine LV.ld (k := 3) ⟨rfl, rfl⟩ hi hL (by decide) rfl dL_law_946 dL_law_947 dL_law_948 dL_law_949 dL_law_950 ?_
  refine LV.c2 (As := [.int _, .int _, .int _]) rfl vX10_phaseFor kL_112 wX10_phaseFor rfl rfl rfl rfl dL_law_951 (d := 1000) rfl (fun _ => rfl) (pX10_phaseFor (d := 994) rfl hI) (fun y im1 h2 => ?_)
  obtain ⟨e, hR1⟩ := rel_P hR h1 h2 (iv_phaseFor hI)
  exact LV.icmp_eq (tgt := 1414) dL_law_954 (by decide) (fun _ => k bo ic1 im1 hR1) (fun c => absurd e c)
theorem lc_23 {Ln : Nat} {xs : Nat → Int32} {bo : Bool} {N i : Nat} {ic im : XI} (hi : i + 6 ≤ Ln) (hL : Ln ≤ 3072) (hN : N < 2 ^ 30) (hR : REL bo N ic im) (k : ∀ bo1 ic1 im1, REL bo1 (N + 1) ic1 im1 → LV Ln xs (lbud bo1) 1414 (lL i) [] (SC bo1) ic1 SM im1) : LV Ln xs (lbud bo) 959 (lL i) [] (SC bo) ic SM im := by
  obtain ⟨⟨⟨np, nd, hI⟩, hRI⟩, hE, ⟨nt, hnt, ht1, ht2, ht3⟩, ⟨hSI, hSR⟩, ⟨hK, hk2⟩⟩ := id hR
  refine LV.aload_n dL_law_959 rfl rfl ?_
  refine LV.ld (k := 1) ⟨rfl, rfl⟩ hi hL (by decide) rfl dL_law_960 dL_law_961 dL_law_962 dL_law_963 dL_law_964 ?_
  refine LV.ld (k := 2) ⟨rfl, rfl⟩ hi hL (by decide) rfl dL_law_965 dL_law_966 dL_law_967 dL_law_968 dL_law_969 ?_
  refine LV.ld (k := 3) ⟨rfl, rfl⟩ hi hL (by decide) rfl dL_law_970 dL_law_971 dL_law_972 dL_law_973 dL_law_974 ?_
  refine LV.c1 (As := [.int _, .int _, .int _]) rfl vX9_odds kL_113 wX9_odds rfl rfl rfl rfl dL_law_975 (d := 1000) rfl (fun _ => rfl) (pX9_odds (d := 993) hRI hI) (fun x ic1 h1 => ?_)
  refine LV.aload_n dL_law_978 rfl rfl ?_
  refine LV.ld (k := 1) ⟨rfl, rfl⟩ hi hL (by decide) rfl dL_law_979 dL_law_980 dL_law_981 dL_law_982 dL_law_983 ?_
  refine LV.ld (k := 2) ⟨rfl, rfl⟩ hi hL (by decide) rfl dL_law_984 dL_law_985 dL_law_986 dL_law_987 dL_law_988 ?_
  refine LV.ld (k := 3) ⟨rfl, rfl⟩ hi hL (by decide) rfl dL_law_989 dL_law_990 dL_law_991 dL_law_992 dL_law_993 ?_
  refine LV.c2 (As := [.int _, .int _, .int _]) rfl vX10_odds kL_116 wX10_odds rfl rfl rfl rfl dL_law_994 (d := 1000) rfl (fun _ => rfl) (pX10_odds (d := 994) rfl hI) (fun y im1 h2 => ?_)
  obtain ⟨e, hR1⟩ := rel_P hR h1 h2 (iv_odds hI)
  exact LV.icmp_eq (tgt := 1414) dL_law_997 (by decide) (fun _ => k bo ic1 im1 hR1) (fun c => absurd e c)
theorem lc_24 {Ln : Nat} {xs : Nat → Int32} {bo : Bool} {N i : Nat} {ic im : XI} (hi : i + 6 ≤ Ln) (hL : Ln ≤ 3072) (hN : N < 2 ^ 30) (hR : REL bo N ic im) (k : ∀ bo1 ic1 im1, REL bo1 (N + 1) ic1 im1 → LV Ln xs (lbud bo1) 1414 (lL i) [] (SC bo1) ic1 SM im1) : LV Ln xs (lbud bo) 1002 (lL i) [] (SC bo) ic SM im := by
  obtain ⟨⟨⟨np, nd, hI⟩, hRI⟩, hE, ⟨nt, hnt, ht1, ht2, ht3⟩, ⟨hSI, hSR⟩, ⟨hK, hk2⟩⟩ := id hR
  refine LV.aload_n dL_law_1002 rfl rfl ?_
  refine LV.ld (k := 1) ⟨rfl, rfl⟩ hi hL (by decide) rfl dL_law_1003 dL_law_1004 dL_law_1005 dL_law_1006 dL_law_1007 ?_
  refine LV.ld (k := 2) ⟨rfl, rfl⟩ hi hL (by decide) rfl dL_law_1008 dL_law_1009 dL_law_1010 dL_law_1011 dL_law_1012 ?_
  refine LV.ld (k := 3) ⟨rfl, rfl⟩ hi hL (by decide) rfl dL_law_1013 dL_law_1014 dL_law_1015 dL_law_1016 dL_law_1017 ?_
  refine LV.c1 (As := [.int _, .int _, .int _]) rfl vX9_fits kL_117 wX9_fits rfl rfl rfl rfl dL_law_1018 (d := 1000) rfl (fun _ => rfl) (pX9_fits (d := 994) hRI hI hSR hSI) (fun x ic1 h1 => ?_)
  refine LV.aload_n dL_law_1021 rfl rfl ?_
  refine LV.ld (k := 1) ⟨rfl, rfl⟩ hi hL (by decide) rfl dL_law_1022 dL_law_1023 dL_law_1024 dL_law_1025 dL_law_1026 ?_
  refine LV.ld (k := 2) ⟨rfl, rfl⟩ hi hL (by decide) rfl dL_law_1027 dL_law_1028 dL_law_1029 dL_law_1030 dL_law_1031 ?_
  refine LV.ld (k := 3) ⟨rfl, rfl⟩ hi hL (by decide) rfl dL_law_1032 dL_law_1033 dL_law_1034 dL_law_1035 dL_law_1036 ?_
  refine LV.c2 (As := [.int _, .int _, .int _]) rfl vX10_fits kL_120 wX10_fits rfl rfl rfl rfl dL_law_1037 (d := 1000) rfl (fun _ => rfl) (pX10_fits (d := 995) rfl hI (fun z hz => (hSI z hz).2)) (fun y im1 h2 => ?_)
  obtain ⟨e, hR1⟩ := rel_P hR h1 h2 (iv_fits hI)
  exact LV.icmp_eq (tgt := 1414) dL_law_1040 (by decide) (fun _ => k bo ic1 im1 hR1) (fun c => absurd e c)
theorem lc_25 {Ln : Nat} {xs : Nat → Int32} {bo : Bool} {N i : Nat} {ic im : XI} (hi : i + 6 ≤ Ln) (hL : Ln ≤ 3072) (hN : N < 2 ^ 30) (hR : REL bo N ic im) (k : ∀ bo1 ic1 im1, REL bo1 (N + 1) ic1 im1 → LV Ln xs (lbud bo1) 1414 (lL i) [] (SC bo1) ic1 SM im1) : LV Ln xs (lbud bo) 1045 (lL i) [] (SC bo) ic SM im := by
  obtain ⟨⟨⟨np, nd, hI⟩, hRI⟩, hE, ⟨nt, hnt, ht1, ht2, ht3⟩, ⟨hSI, hSR⟩, ⟨hK, hk2⟩⟩ := id hR
  refine LV.aload_n dL_law_1045 rfl rfl ?_
  refine LV.ld (k := 1) ⟨rfl, rfl⟩ hi hL (by decide) rfl dL_law_1046 dL_law_1047 dL_law_1048 dL_law_1049 dL_law_1050 ?_
  refine LV.ld (k := 2) ⟨rfl, rfl⟩ hi hL (by decide) rfl dL_law_1051 dL_law_1052 dL_law_1053 dL_law_1054 dL_law_1055 ?_
  refine LV.ld (k := 3) ⟨rfl, rfl⟩ hi hL (by decide) rfl dL_law_1056 dL_law_1057 dL_law_1058 dL_law_1059 dL_law_1060 ?_
  refine LV.c1 (As := [.int _, .int _, .int _]) rfl vX9_voice kL_121 wX9_voice rfl rfl rfl rfl dL_law_1061 (d := 1000) rfl (fun _ => rfl) (pX9_voice (d := 990) hRI hI) (fun x ic1 h1 => ?_)
  refine LV.aload_n dL_law_1064 rfl rfl ?_
  refine LV.ld (k := 1) ⟨rfl, rfl⟩ hi hL (by decide) rfl dL_law_1065 dL_law_1066 dL_law_1067 dL_law_1068 dL_law_1069 ?_
  refine LV.ld (k := 2) ⟨rfl, rfl⟩ hi hL (by decide) rfl dL_law_1070 dL_law_1071 dL_law_1072 dL_law_1073 dL_law_1074 ?_
  refine LV.ld (k := 3) ⟨rfl, rfl⟩ hi hL (by decide) rfl dL_law_1075 dL_law_1076 dL_law_1077 dL_law_1078 dL_law_1079 ?_
  refine LV.c2 (As := [.int _, .int _, .int _]) rfl vX10_voice kL_124 wX10_voice rfl rfl rfl rfl dL_law_1080 (d := 1000) rfl (fun _ => rfl) (pX10_voice (d := 990) rfl hI) (fun y im1 h2 => ?_)
  obtain ⟨e, hR1⟩ := rel_voice hR h1 h2
  exact LV.icmp_eq (tgt := 1414) dL_law_1083 (by decide) (fun _ => k bo ic1 im1 hR1) (fun c => absurd e c)
theorem lc_26 {Ln : Nat} {xs : Nat → Int32} {bo : Bool} {N i : Nat} {ic im : XI} (hi : i + 6 ≤ Ln) (hL : Ln ≤ 3072) (hN : N < 2 ^ 30) (hR : REL bo N ic im) (k : ∀ bo1 ic1 im1, REL bo1 (N + 1) ic1 im1 → LV Ln xs (lbud bo1) 1414 (lL i) [] (SC bo1) ic1 SM im1) : LV Ln xs (lbud bo) 1088 (lL i) [] (SC bo) ic SM im := by
  obtain ⟨⟨⟨np, nd, hI⟩, hRI⟩, hE, ⟨nt, hnt, ht1, ht2, ht3⟩, ⟨hSI, hSR⟩, ⟨hK, hk2⟩⟩ := id hR
  refine LV.aload_n dL_law_1088 rfl rfl ?_
  refine LV.ld (k := 1) ⟨rfl, rfl⟩ hi hL (by decide) rfl dL_law_1089 dL_law_1090 dL_law_1091 dL_law_1092 dL_law_1093 ?_
  refine LV.c1 (As := [.int _]) rfl vX9_body kL_125 wX9_body rfl rfl rfl rfl dL_law_1094 (d := 1000) rfl (fun _ => rfl) (pX9_body (d := 998) hRI hI ht2 hnt) (fun x ic1 h1 => ?_)
  refine LV.aload_n dL_law_1097 rfl rfl ?_
  refine LV.ld (k := 1) ⟨rfl, rfl⟩ hi hL (by decide) rfl dL_law_1098 dL_law_1099 dL_law_1100 dL_law_1101 dL_law_1102 ?_
  refine LV.c2 (As := [.int _]) rfl vX10_body kL_128 wX10_body rfl rfl rfl rfl dL_law_1103 (d := 1000) rfl (fun _ => rfl) (pX10_body (d := 999) rfl ⟨nt, hnt, ht1⟩) (fun y im1 h2 => ?_)
  rw [ht2] at h1
  rw [ht1, body_e hnt ht3] at h2
  obtain ⟨e, hR1⟩ := rel_P hR h1 h2 (iv_body hI)
  exact LV.icmp_eq (tgt := 1414) dL_law_1106 (by decide) (fun _ => k bo ic1 im1 hR1) (fun c => absurd e c)
theorem lc_27 {Ln : Nat} {xs : Nat → Int32} {bo : Bool} {N i : Nat} {ic im : XI} (hi : i + 6 ≤ Ln) (hL : Ln ≤ 3072) (hN : N < 2 ^ 30) (hR : REL bo N ic im) (k : ∀ bo1 ic1 im1, REL bo1 (N + 1) ic1 im1 → LV Ln xs (lbud bo1) 1414 (lL i) [] (SC bo1) ic1 SM im1) : LV Ln xs (lbud bo) 1111 (lL i) [] (SC bo) ic SM im := by
  obtain ⟨⟨⟨np, nd, hI⟩, hRI⟩, hE, ⟨nt, hnt, ht1, ht2, ht3⟩, ⟨hSI, hSR⟩, ⟨hK, hk2⟩⟩ := id hR
  refine LV.aload_n dL_law_1111 rfl rfl ?_
  refine LV.ld (k := 1) ⟨rfl, rfl⟩ hi hL (by decide) rfl dL_law_1112 dL_law_1113 dL_law_1114 dL_law_1115 dL_law_1116 ?_
  refine LV.ld (k := 2) ⟨rfl, rfl⟩ hi hL (by decide) rfl dL_law_1117 dL_law_1118 dL_law_1119 dL_law_1120 dL_law_1121 ?_
  refine LV.ld (k := 3) ⟨rfl, rfl⟩ hi hL (by decide) rfl dL_law_1122 dL_law_1123 dL_law_1124 dL_law_1125 dL_law_1126 ?_
  refine LV.c1 (As := [.int _, .int _, .int _]) rfl vX9_sheet kL_129 wX9_sheet rfl rfl rfl rfl dL_law_1127 (d := 1000) rfl (fun _ => rfl) (pX9_sheet (d := 997) hRI hI hSR hSI) (fun x ic1 h1 => ?_)
  refine LV.aload_n dL_law_1130 rfl rfl ?_
  refine LV.ld (k := 1) ⟨rfl, rfl⟩ hi hL (by decide) rfl dL_law_1131 dL_law_1132 dL_law_1133 dL_law_1134 dL_law_1135 ?_
  refine LV.ld (k := 2) ⟨rfl, rfl⟩ hi hL (by decide) rfl dL_law_1136 dL_law_1137 dL_law_1138 dL_law_1139 dL_law_1140 ?_
  refine LV.ld (k := 3) ⟨rfl, rfl⟩ hi hL (by decide) rfl dL_law_1141 dL_law_1142 dL_law_1143 dL_law_1144 dL_law_1145 ?_
  refine LV.c2 (As := [.int _, .int _, .int _]) rfl vX10_sheet kL_132 wX10_sheet rfl rfl rfl rfl dL_law_1146 (d := 1000) rfl (fun _ => rfl) (pX10_sheet (d := 998) rfl) (fun y im1 h2 => ?_)
  obtain ⟨e, hR1⟩ := rel_sheet hR h1 h2
  exact LV.icmp_eq (tgt := 1414) dL_law_1149 (by decide) (fun _ => k bo ic1 im1 hR1) (fun c => absurd e c)
theorem lc_28 {Ln : Nat} {xs : Nat → Int32} {bo : Bool} {N i : Nat} {ic im : XI} (hi : i + 6 ≤ Ln) (hL : Ln ≤ 3072) (hN : N < 2 ^ 30) (hR : REL bo N ic im) (k : ∀ bo1 ic1 im1, REL bo1 (N + 1) ic1 im1 → LV Ln xs (lbud bo1) 1414 (lL i) [] (SC bo1) ic1 SM im1) : LV Ln xs (lbud bo) 1154 (lL i) [] (SC bo) ic SM im := by
  obtain ⟨⟨⟨np, nd, hI⟩, hRI⟩, hE, ⟨nt, hnt, ht1, ht2, ht3⟩, ⟨hSI, hSR⟩, ⟨hK, hk2⟩⟩ := id hR
  refine LV.aload_n dL_law_1154 rfl rfl ?_
  refine LV.ld (k := 1) ⟨rfl, rfl⟩ hi hL (by decide) rfl dL_law_1155 dL_law_1156 dL_law_1157 dL_law_1158 dL_law_1159 ?_
  refine LV.ld (k := 2) ⟨rfl, rfl⟩ hi hL (by decide) rfl dL_law_1160 dL_law_1161 dL_law_1162 dL_law_1163 dL_law_1164 ?_
  refine LV.ld (k := 3) ⟨rfl, rfl⟩ hi hL (by decide) rfl dL_law_1165 dL_law_1166 dL_law_1167 dL_law_1168 dL_law_1169 ?_
  refine LV.c1 (As := [.int _, .int _, .int _]) rfl vX9_put kL_133 wX9_put rfl rfl rfl rfl dL_law_1170 (d := 1000) rfl (fun _ => rfl) (pX9_put (d := 998) hRI hI hSR hSI) (fun x ic1 h1 => ?_)
  refine LV.aload_n dL_law_1173 rfl rfl ?_
  refine LV.ld (k := 1) ⟨rfl, rfl⟩ hi hL (by decide) rfl dL_law_1174 dL_law_1175 dL_law_1176 dL_law_1177 dL_law_1178 ?_
  refine LV.ld (k := 2) ⟨rfl, rfl⟩ hi hL (by decide) rfl dL_law_1179 dL_law_1180 dL_law_1181 dL_law_1182 dL_law_1183 ?_
  refine LV.ld (k := 3) ⟨rfl, rfl⟩ hi hL (by decide) rfl dL_law_1184 dL_law_1185 dL_law_1186 dL_law_1187 dL_law_1188 ?_
  refine LV.c2 (As := [.int _, .int _, .int _]) rfl vX10_put kL_136 wX10_put rfl rfl rfl rfl dL_law_1189 (d := 1000) rfl (fun _ => rfl) (pX10_put (d := 998) rfl (fun z hz => (hSI z hz).2)) (fun y im1 h2 => ?_)
  obtain ⟨e, hR1⟩ := rel_put hR h1 h2
  exact LV.icmp_eq (tgt := 1414) dL_law_1192 (by decide) (fun _ => k bo ic1 im1 hR1) (fun c => absurd e c)
theorem lc_29 {Ln : Nat} {xs : Nat → Int32} {bo : Bool} {N i : Nat} {ic im : XI} (hi : i + 6 ≤ Ln) (hL : Ln ≤ 3072) (hN : N < 2 ^ 30) (hR : REL bo N ic im) (k : ∀ bo1 ic1 im1, REL bo1 (N + 1) ic1 im1 → LV Ln xs (lbud bo1) 1414 (lL i) [] (SC bo1) ic1 SM im1) : LV Ln xs (lbud bo) 1197 (lL i) [] (SC bo) ic SM im := by
  obtain ⟨⟨⟨np, nd, hI⟩, hRI⟩, hE, ⟨nt, hnt, ht1, ht2, ht3⟩, ⟨hSI, hSR⟩, ⟨hK, hk2⟩⟩ := id hR
  refine LV.aload_n dL_law_1197 rfl rfl ?_
  refine LV.ld (k := 1) ⟨rfl, rfl⟩ hi hL (by decide) rfl dL_law_1198 dL_law_1199 dL_law_1200 dL_law_1201 dL_law_1202 ?_
  refine LV.ld (k := 2) ⟨rfl, rfl⟩ hi hL (by decide) rfl dL_law_1203 dL_law_1204 dL_law_1205 dL_law_1206 dL_law_1207 ?_
  refine LV.ld (k := 3) ⟨rfl, rfl⟩ hi hL (by decide) rfl dL_law_1208 dL_law_1209 dL_law_1210 dL_law_1211 dL_law_1212 ?_
  refine LV.ld (k := 4) ⟨rfl, rfl⟩ hi hL (by decide) rfl dL_law_1213 dL_law_1214 dL_law_1215 dL_law_1216 dL_law_1217 ?_
  refine LV.ld (k := 5) ⟨rfl, rfl⟩ hi hL (by decide) rfl dL_law_1218 dL_law_1219 dL_law_1220 dL_law_1221 dL_law_1222 ?_
  refine LV.c1 (As := [.int _, .int _, .int _, .int _, .int _]) rfl vX9_move kL_137 wX9_move rfl rfl rfl rfl dL_law_1223 (d := 1000) rfl (fun _ => rfl) (pX9_move (d := 998) hRI hI hSR hSI) (fun x ic1 h1 => ?_)
  refine LV.aload_n dL_law_1226 rfl rfl ?_
  refine LV.ld (k := 1) ⟨rfl, rfl⟩ hi hL (by decide) rfl dL_law_1227 dL_law_1228 dL_law_1229 dL_law_1230 dL_law_1231 ?_
  refine LV.ld (k := 2) ⟨rfl, rfl⟩ hi hL (by decide) rfl dL_law_1232 dL_law_1233 dL_law_1234 dL_law_1235 dL_law_1236 ?_
  refine LV.ld (k := 3) ⟨rfl, rfl⟩ hi hL (by decide) rfl dL_law_1237 dL_law_1238 dL_law_1239 dL_law_1240 dL_law_1241 ?_
  refine LV.ld (k := 4) ⟨rfl, rfl⟩ hi hL (by decide) rfl dL_law_1242 dL_law_1243 dL_law_1244 dL_law_1245 dL_law_1246 ?_
  refine LV.ld (k := 5) ⟨rfl, rfl⟩ hi hL (by decide) rfl dL_law_1247 dL_law_1248 dL_law_1249 dL_law_1250 dL_law_1251 ?_
  refine LV.c2 (As := [.int _, .int _, .int _, .int _, .int _]) rfl vX10_move kL_141 wX10_move rfl rfl rfl rfl dL_law_1252 (d := 1000) rfl (fun _ => rfl) (pX10_move (d := 998) rfl (fun z hz => (hSI z hz).2)) (fun y im1 h2 => ?_)
  obtain ⟨e, hR1⟩ := rel_move hR h1 h2
  exact LV.icmp_eq (tgt := 1414) dL_law_1255 (by decide) (fun _ => k bo ic1 im1 hR1) (fun c => absurd e c)
theorem lc_30 {Ln : Nat} {xs : Nat → Int32} {bo : Bool} {N i : Nat} {ic im : XI} (hi : i + 6 ≤ Ln) (hL : Ln ≤ 3072) (hN : N < 2 ^ 30) (hR : REL bo N ic im) (k : ∀ bo1 ic1 im1, REL bo1 (N + 1) ic1 im1 → LV Ln xs (lbud bo1) 1414 (lL i) [] (SC bo1) ic1 SM im1) : LV Ln xs (lbud bo) 1260 (lL i) [] (SC bo) ic SM im := by
  obtain ⟨⟨⟨np, nd, hI⟩, hRI⟩, hE, ⟨nt, hnt, ht1, ht2, ht3⟩, ⟨hSI, hSR⟩, ⟨hK, hk2⟩⟩ := id hR
  refine LV.aload_n dL_law_1260 rfl rfl ?_
  refine LV.ld (k := 1) ⟨rfl, rfl⟩ hi hL (by decide) rfl dL_law_1261 dL_law_1262 dL_law_1263 dL_law_1264 dL_law_1265 ?_
  refine LV.c1 (As := [.int _]) rfl vX9_partsAll kL_142 wX9_partsAll rfl rfl rfl rfl dL_law_1266 (d := 1000) rfl (fun _ => rfl) (pX9_partsAll (d := 998) hRI hI hSR hSI) (fun x ic1 h1 => ?_)
  refine LV.aload_n dL_law_1269 rfl rfl ?_
  refine LV.ld (k := 1) ⟨rfl, rfl⟩ hi hL (by decide) rfl dL_law_1270 dL_law_1271 dL_law_1272 dL_law_1273 dL_law_1274 ?_
  refine LV.c2 (As := [.int _]) rfl vX10_partsAll kL_145 wX10_partsAll rfl rfl rfl rfl dL_law_1275 (d := 1000) rfl (fun _ => rfl) (pX10_partsAll (d := 997) rfl hI (fun z hz => (hSI z hz).2)) (fun y im1 h2 => ?_)
  obtain ⟨e, hR1⟩ := rel_P hR h1 h2 (iv_partsAll hI)
  exact LV.icmp_eq (tgt := 1414) dL_law_1278 (by decide) (fun _ => k bo ic1 im1 hR1) (fun c => absurd e c)
theorem lc_31 {Ln : Nat} {xs : Nat → Int32} {bo : Bool} {N i : Nat} {ic im : XI} (hi : i + 6 ≤ Ln) (hL : Ln ≤ 3072) (hN : N < 2 ^ 30) (hR : REL bo N ic im) (k : ∀ bo1 ic1 im1, REL bo1 (N + 1) ic1 im1 → LV Ln xs (lbud bo1) 1414 (lL i) [] (SC bo1) ic1 SM im1) : LV Ln xs (lbud bo) 1283 (lL i) [] (SC bo) ic SM im := by
  obtain ⟨⟨⟨np, nd, hI⟩, hRI⟩, hE, ⟨nt, hnt, ht1, ht2, ht3⟩, ⟨hSI, hSR⟩, ⟨hK, hk2⟩⟩ := id hR
  refine LV.aload_n dL_law_1283 rfl rfl ?_
  refine LV.ld (k := 1) ⟨rfl, rfl⟩ hi hL (by decide) rfl dL_law_1284 dL_law_1285 dL_law_1286 dL_law_1287 dL_law_1288 ?_
  refine LV.c1 (As := [.int _]) rfl vX9_judge kL_146 wX9_judge rfl rfl rfl rfl dL_law_1289 (d := 1000) rfl (fun _ => rfl) (pX9_judge (d := 995) hRI hI hSR hSI) (fun x ic1 h1 => ?_)
  refine LV.aload_n dL_law_1292 rfl rfl ?_
  refine LV.ld (k := 1) ⟨rfl, rfl⟩ hi hL (by decide) rfl dL_law_1293 dL_law_1294 dL_law_1295 dL_law_1296 dL_law_1297 ?_
  refine LV.c2 (As := [.int _]) rfl vX10_judge kL_149 wX10_judge rfl rfl rfl rfl dL_law_1298 (d := 1000) rfl (fun _ => rfl) (pX10_judge (d := 995) rfl hI (fun z hz => (hSI z hz).2)) (fun y im1 h2 => ?_)
  obtain ⟨e, hR1⟩ := rel_P hR h1 h2 (iv_judge hI)
  exact LV.icmp_eq (tgt := 1414) dL_law_1301 (by decide) (fun _ => k bo ic1 im1 hR1) (fun c => absurd e c)
theorem lc_32 {Ln : Nat} {xs : Nat → Int32} {bo : Bool} {N i : Nat} {ic im : XI} (hi : i + 6 ≤ Ln) (hL : Ln ≤ 3072) (hN : N < 2 ^ 30) (hR : REL bo N ic im) (k : ∀ bo1 ic1 im1, REL bo1 (N + 1) ic1 im1 → LV Ln xs (lbud bo1) 1414 (lL i) [] (SC bo1) ic1 SM im1) : LV Ln xs (lbud bo) 1306 (lL i) [] (SC bo) ic SM im := by
  obtain ⟨⟨⟨np, nd, hI⟩, hRI⟩, hE, ⟨nt, hnt, ht1, ht2, ht3⟩, ⟨hSI, hSR⟩, ⟨hK, hk2⟩⟩ := id hR
  refine LV.aload_n dL_law_1306 rfl rfl ?_
  cases bo with
  | false =>
    refine LV.call1 (b1 := (27, 404)) (bud' := lbud true) (K := fun x S1 ic1 => S1 = SC true ∧ x = ic 0 7 + 1 ∧ RI 0 (im 1) ic1 ∧ RI 49 (im 1) ic1 ∧ ic1 0 7 = ic 0 7 + 1 ∧ ∀ a k, a < 50 → ¬ (a = 0 ∧ k = 7) → ic1 a k = ic a k) (As := []) rfl vX9_image kL_150 wX9_image rfl rfl rfl rfl rfl dL_law_1307 (d := 1000) rfl (fun _ => rfl) (fun _ _ _ _ h => lads1 h) ⟨Nat.le_refl _, Nat.le_refl _⟩ (pX9_image_N (d := 995) hRI hI) (fun r S1 ic1 h => by
      obtain ⟨g1, x, g2, g3⟩ := h
      exact ⟨x, g2, g1, g3⟩) (fun x S1 ic1 h1 => ?_)
    obtain ⟨rfl, q1, q2, q3, q4, q5⟩ := h1
    refine LV.aload_n dL_law_1310 rfl rfl ?_
    refine LV.c2 (As := []) rfl vX10_image kL_153 wX10_image rfl rfl rfl rfl dL_law_1311 (d := 1000) rfl (fun _ => rfl) (pX10_image (d := 999) rfl) (fun y im1 h2 => ?_)
    obtain ⟨e, hR1⟩ := rel_image hR q1 q2 q3 q4 q5 h2
    exact LV.icmp_eq (tgt := 1414) dL_law_1314 (by decide) (fun _ => k true ic1 im1 hR1) (fun c => absurd e c)
  | true =>
    obtain ⟨kp, hkp, ⟨np2, nd2, hI2⟩, hR2⟩ := hk2 rfl
    refine LV.c1 (As := []) rfl vX9_image kL_150 wX9_image rfl rfl rfl rfl dL_law_1307 (d := 1000) rfl (fun _ => rfl) (pX9_image_R (d := 995) (np' := np2) (nd' := nd2) hRI hI hR2) (fun x ic1 h1 => ?_)
    obtain ⟨q1, q2, q3, q4, q5⟩ := h1
    refine LV.aload_n dL_law_1310 rfl rfl ?_
    refine LV.c2 (As := []) rfl vX10_image kL_153 wX10_image rfl rfl rfl rfl dL_law_1311 (d := 1000) rfl (fun _ => rfl) (pX10_image (d := 999) rfl) (fun y im1 h2 => ?_)
    obtain ⟨e, hR1⟩ := rel_image hR q1 q2 q3 q4 (fun a k h g => q5 a k (by omega) g) h2
    exact LV.icmp_eq (tgt := 1414) dL_law_1314 (by decide) (fun _ => k true ic1 im1 hR1) (fun c => absurd e c)
theorem lc_33 {Ln : Nat} {xs : Nat → Int32} {bo : Bool} {N i : Nat} {ic im : XI} (hi : i + 6 ≤ Ln) (hL : Ln ≤ 3072) (hN : N < 2 ^ 30) (hR : REL bo N ic im) (k : ∀ bo1 ic1 im1, REL bo1 (N + 1) ic1 im1 → LV Ln xs (lbud bo1) 1414 (lL i) [] (SC bo1) ic1 SM im1) : LV Ln xs (lbud bo) 1319 (lL i) [] (SC bo) ic SM im := by
  obtain ⟨⟨⟨np, nd, hI⟩, hRI⟩, hE, ⟨nt, hnt, ht1, ht2, ht3⟩, ⟨hSI, hSR⟩, ⟨hK, hk2⟩⟩ := id hR
  refine LV.aload_n dL_law_1319 rfl rfl ?_
  cases bo with
  | false =>
    refine LV.c1 (As := []) rfl vX9_restore kL_154 wX9_restore rfl rfl rfl rfl dL_law_1320 (d := 1000) rfl (fun _ => rfl) (pX9_restore_N (d := 995) hRI hI) (fun x ic1 h1 => ?_)
    refine LV.aload_n dL_law_1323 rfl rfl ?_
    refine LV.c2 (As := []) rfl vX10_restore kL_157 wX10_restore rfl rfl rfl rfl dL_law_1324 (d := 1000) rfl (fun _ => rfl) (pX10_restore (d := 999) rfl) (fun y im1 h2 => ?_)
    obtain ⟨e, hR1⟩ := rel_restore_N hR h1 h2
    exact LV.icmp_eq (tgt := 1414) dL_law_1327 (by decide) (fun _ => k false ic1 im1 hR1) (fun c => absurd e c)
  | true =>
    obtain ⟨kp, hkp, ⟨np2, nd2, hI2⟩, hR2⟩ := hk2 rfl
    refine LV.c1 (As := []) rfl vX9_restore kL_154 wX9_restore rfl rfl rfl rfl dL_law_1320 (d := 1000) rfl (fun _ => rfl) (pX9_restore_R (d := 995) hRI hI hR2 hI2) (fun x ic1 h1 => ?_)
    refine LV.aload_n dL_law_1323 rfl rfl ?_
    refine LV.c2 (As := []) rfl vX10_restore kL_157 wX10_restore rfl rfl rfl rfl dL_law_1324 (d := 1000) rfl (fun _ => rfl) (pX10_restore (d := 999) rfl) (fun y im1 h2 => ?_)
    obtain ⟨e, hR1⟩ := rel_restore_R (kp := ic) hN hR hkp ⟨np2, nd2, hI2⟩ h1 h2
    exact LV.icmp_eq (tgt := 1414) dL_law_1327 (by decide) (fun _ => k true ic1 im1 hR1) (fun c => absurd e c)
theorem lc_34 {Ln : Nat} {xs : Nat → Int32} {bo : Bool} {N i : Nat} {ic im : XI} (hi : i + 6 ≤ Ln) (hL : Ln ≤ 3072) (hN : N < 2 ^ 30) (hR : REL bo N ic im) (k : ∀ bo1 ic1 im1, REL bo1 (N + 1) ic1 im1 → LV Ln xs (lbud bo1) 1414 (lL i) [] (SC bo1) ic1 SM im1) : LV Ln xs (lbud bo) 1332 (lL i) [] (SC bo) ic SM im := by
  obtain ⟨⟨⟨np, nd, hI⟩, hRI⟩, hE, ⟨nt, hnt, ht1, ht2, ht3⟩, ⟨hSI, hSR⟩, ⟨hK, hk2⟩⟩ := id hR
  refine LV.aload_n dL_law_1332 rfl rfl ?_
  refine LV.ld (k := 1) ⟨rfl, rfl⟩ hi hL (by decide) rfl dL_law_1333 dL_law_1334 dL_law_1335 dL_law_1336 dL_law_1337 ?_
  refine LV.c1 (As := [.int _]) rfl vX9_tell kL_158 wX9_tell rfl rfl rfl rfl dL_law_1338 (d := 1000) rfl (fun _ => rfl) (pX9_tell (d := 998) hRI hI) (fun x ic1 h1 => ?_)
  refine LV.aload_n dL_law_1341 rfl rfl ?_
  refine LV.ld (k := 1) ⟨rfl, rfl⟩ hi hL (by decide) rfl dL_law_1342 dL_law_1343 dL_law_1344 dL_law_1345 dL_law_1346 ?_
  refine LV.c2 (As := [.int _]) rfl vX10_tell kL_161 wX10_tell rfl rfl rfl rfl dL_law_1347 (d := 1000) rfl (fun _ => rfl) (pX10_tell (d := 999) rfl hI) (fun y im1 h2 => ?_)
  obtain ⟨e, hR1⟩ := rel_P hR h1 h2 (iv_tell hI)
  exact LV.icmp_eq (tgt := 1414) dL_law_1350 (by decide) (fun _ => k bo ic1 im1 hR1) (fun c => absurd e c)
theorem lc_35 {Ln : Nat} {xs : Nat → Int32} {bo : Bool} {N i : Nat} {ic im : XI} (hi : i + 6 ≤ Ln) (hL : Ln ≤ 3072) (hN : N < 2 ^ 30) (hR : REL bo N ic im) (k : ∀ bo1 ic1 im1, REL bo1 (N + 1) ic1 im1 → LV Ln xs (lbud bo1) 1414 (lL i) [] (SC bo1) ic1 SM im1) : LV Ln xs (lbud bo) 1355 (lL i) [] (SC bo) ic SM im := by
  obtain ⟨⟨⟨np, nd, hI⟩, hRI⟩, hE, ⟨nt, hnt, ht1, ht2, ht3⟩, ⟨hSI, hSR⟩, ⟨hK, hk2⟩⟩ := id hR
  refine LV.aload_n dL_law_1355 rfl rfl ?_
  refine LV.c1 (As := []) rfl vX9_check kL_162 wX9_check rfl rfl rfl rfl dL_law_1356 (d := 1000) rfl (fun _ => rfl) (pX9_check (d := 998) hRI hI) (fun x ic1 h1 => ?_)
  refine LV.aload_n dL_law_1359 rfl rfl ?_
  refine LV.c2 (As := []) rfl vX10_check kL_165 wX10_check rfl rfl rfl rfl dL_law_1360 (d := 1000) rfl (fun _ => rfl) (pX10_check (d := 998) rfl hI) (fun y im1 h2 => ?_)
  obtain ⟨e, hR1⟩ := rel_P hR h1 h2 (iv_check hI)
  exact LV.icmp_eq (tgt := 1414) dL_law_1363 (by decide) (fun _ => k bo ic1 im1 hR1) (fun c => absurd e c)
theorem lc_36 {Ln : Nat} {xs : Nat → Int32} {bo : Bool} {N i : Nat} {ic im : XI} (hi : i + 6 ≤ Ln) (hL : Ln ≤ 3072) (hN : N < 2 ^ 30) (hR : REL bo N ic im) (k : ∀ bo1 ic1 im1, REL bo1 (N + 1) ic1 im1 → LV Ln xs (lbud bo1) 1414 (lL i) [] (SC bo1) ic1 SM im1) : LV Ln xs (lbud bo) 1368 (lL i) [] (SC bo) ic SM im := by
  obtain ⟨⟨⟨np, nd, hI⟩, hRI⟩, hE, ⟨nt, hnt, ht1, ht2, ht3⟩, ⟨hSI, hSR⟩, ⟨hK, hk2⟩⟩ := id hR
  refine LV.aload_n dL_law_1368 rfl rfl ?_
  refine LV.ld (k := 1) ⟨rfl, rfl⟩ hi hL (by decide) rfl dL_law_1369 dL_law_1370 dL_law_1371 dL_law_1372 dL_law_1373 ?_
  refine LV.c1 (As := [.int _]) rfl vX9_count kL_166 wX9_count rfl rfl rfl rfl dL_law_1374 (d := 1000) rfl (fun _ => rfl) (pX9_count (d := 998) hRI hI) (fun x ic1 h1 => ?_)
  refine LV.aload_n dL_law_1377 rfl rfl ?_
  refine LV.ld (k := 1) ⟨rfl, rfl⟩ hi hL (by decide) rfl dL_law_1378 dL_law_1379 dL_law_1380 dL_law_1381 dL_law_1382 ?_
  refine LV.c2 (As := [.int _]) rfl vX10_count kL_169 wX10_count rfl rfl rfl rfl dL_law_1383 (d := 1000) rfl (fun _ => rfl) (pX10_count (d := 998) rfl hI) (fun y im1 h2 => ?_)
  rw [ht2] at h1
  rw [ht1] at h2
  obtain ⟨e, hR1⟩ := rel_P hR h1 h2 (iv_count hI)
  exact LV.icmp_eq (tgt := 1414) dL_law_1386 (by decide) (fun _ => k bo ic1 im1 hR1) (fun c => absurd e c)
theorem lc_37 {Ln : Nat} {xs : Nat → Int32} {bo : Bool} {N i : Nat} {ic im : XI} (hi : i + 6 ≤ Ln) (hL : Ln ≤ 3072) (hN : N < 2 ^ 30) (hR : REL bo N ic im) (k : ∀ bo1 ic1 im1, REL bo1 (N + 1) ic1 im1 → LV Ln xs (lbud bo1) 1414 (lL i) [] (SC bo1) ic1 SM im1) : LV Ln xs (lbud bo) 1391 (lL i) [] (SC bo) ic SM im := by
  obtain ⟨⟨⟨np, nd, hI⟩, hRI⟩, hE, ⟨nt, hnt, ht1, ht2, ht3⟩, ⟨hSI, hSR⟩, ⟨hK, hk2⟩⟩ := id hR
  refine LV.aload_n dL_law_1391 rfl rfl ?_
  refine LV.ld (k := 1) ⟨rfl, rfl⟩ hi hL (by decide) rfl dL_law_1392 dL_law_1393 dL_law_1394 dL_law_1395 dL_law_1396 ?_
  refine LV.c1 (As := [.int _]) rfl vX9_told kL_170 wX9_told rfl rfl rfl rfl dL_law_1397 (d := 1000) rfl (fun _ => rfl) (pX9_told (d := 998) hRI hI) (fun x ic1 h1 => ?_)
  refine LV.aload_n dL_law_1400 rfl rfl ?_
  refine LV.ld (k := 1) ⟨rfl, rfl⟩ hi hL (by decide) rfl dL_law_1401 dL_law_1402 dL_law_1403 dL_law_1404 dL_law_1405 ?_
  refine LV.c2 (As := [.int _]) rfl vX10_told kL_173 wX10_told rfl rfl rfl rfl dL_law_1406 (d := 1000) rfl (fun _ => rfl) (pX10_told (d := 999) rfl) (fun y im1 h2 => ?_)
  rw [told_e (e := im 4) (e' := ic 37) hE] at h2
  obtain ⟨e, hR1⟩ := rel_P hR h1 h2 (iv_told hI)
  exact LV.icmp_eq (tgt := 1414) dL_law_1409 (by decide) (fun _ => k bo ic1 im1 hR1) (fun c => absurd e c)
