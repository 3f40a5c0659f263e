/-! THE LAW: its calls; made by wip/whole/tools/genA.py -/

set_option maxRecDepth 4000 in
theorem lc_begin {base b L i cs ss : Nat} {xs : Nat → Int32} {nm : String} {S : SG} {h : Hp} (K : OKS S) (RX : RelX base h S) (RR : RelR base h S) (hL : L ≤ 3072) (hi : i + 6 ≤ L) (hc : cs + 12 ≤ 601024) (hs : ss + 7141 ≤ 7293034) (nx : ∀ S' h', OKS S' → RelX base h' S' → RelR base h' S' → A base (ΦL base b L xs) (MW nm) (cs + 12) (ss + 7141) h' 1963 (LV base b i) []) : A base (ΦL base b L xs) (MW nm) cs ss h 236 (LV base b i) [] := by
  obtain ⟨r, S', K', pX, pR⟩ := pr_begin K (xs (i + 1)) (xs (i + 2)) (xs (i + 3))
  refine r_aload_n d_W_law_236 rfl ?_
  refine r_arg (k := 1) d_W_law_237 d_W_law_238 d_W_law_240 d_W_law_241 d_W_law_242 (by decide) hL (by omega) rfl rfl ?_
  refine r_arg (k := 2) d_W_law_243 d_W_law_244 d_W_law_246 d_W_law_247 d_W_law_248 (by decide) hL (by omega) rfl rfl ?_
  refine r_arg (k := 3) d_W_law_249 d_W_law_250 d_W_law_252 d_W_law_253 d_W_law_254 (by decide) hL (by omega) rfl rfl ?_
  refine r_lX d_W_law_255 mok_X_begin lk_X_begin ml_W_21 rfl rfl RX RR pX (by decide) (by omega) (by omega) rfl (fun h1 RX1 RR1 => ?_)
  refine r_aload_n d_W_law_258 rfl ?_
  refine r_arg (k := 1) d_W_law_259 d_W_law_260 d_W_law_262 d_W_law_263 d_W_law_264 (by decide) hL (by omega) rfl rfl ?_
  refine r_arg (k := 2) d_W_law_265 d_W_law_266 d_W_law_268 d_W_law_269 d_W_law_270 (by decide) hL (by omega) rfl rfl ?_
  refine r_arg (k := 3) d_W_law_271 d_W_law_272 d_W_law_274 d_W_law_275 d_W_law_276 (by decide) hL (by omega) rfl rfl ?_
  refine r_lR d_W_law_277 mok_R_begin lk_R_begin ml_W_25 rfl rfl RX1 RR1 pR (by decide) (by omega) (by omega) rfl (fun h2 RX2 RR2 => ?_)
  refine r_icmp_eq (tgt := 1963) d_W_law_280 (by decide) (fun _ => ?_) (fun z => absurd rfl z)
  exact r_wide (by omega) (by omega) (nx S' h2 K' RX2 RR2)

set_option maxRecDepth 4000 in
theorem lc_bible {base b L i cs ss : Nat} {xs : Nat → Int32} {nm : String} {S : SG} {h : Hp} (K : OKS S) (RX : RelX base h S) (RR : RelR base h S) (hL : L ≤ 3072) (hi : i + 6 ≤ L) (hc : cs + 12 ≤ 601024) (hs : ss + 7141 ≤ 7293034) (nx : ∀ S' h', OKS S' → RelX base h' S' → RelR base h' S' → A base (ΦL base b L xs) (MW nm) (cs + 12) (ss + 7141) h' 1963 (LV base b i) []) : A base (ΦL base b L xs) (MW nm) cs ss h 285 (LV base b i) [] := by
  obtain ⟨r, S', K', pX, pR⟩ := pr_bible K (xs (i + 1)) (xs (i + 2))
  refine r_aload_n d_W_law_285 rfl ?_
  refine r_arg (k := 1) d_W_law_286 d_W_law_287 d_W_law_289 d_W_law_290 d_W_law_291 (by decide) hL (by omega) rfl rfl ?_
  refine r_arg (k := 2) d_W_law_292 d_W_law_293 d_W_law_295 d_W_law_296 d_W_law_297 (by decide) hL (by omega) rfl rfl ?_
  refine r_lX d_W_law_298 mok_X_bible lk_X_bible ml_W_26 rfl rfl RX RR pX (by decide) (by omega) (by omega) rfl (fun h1 RX1 RR1 => ?_)
  refine r_aload_n d_W_law_301 rfl ?_
  refine r_arg (k := 1) d_W_law_302 d_W_law_303 d_W_law_305 d_W_law_306 d_W_law_307 (by decide) hL (by omega) rfl rfl ?_
  refine r_arg (k := 2) d_W_law_308 d_W_law_309 d_W_law_311 d_W_law_312 d_W_law_313 (by decide) hL (by omega) rfl rfl ?_
  refine r_lR d_W_law_314 mok_R_bible lk_R_bible ml_W_30 rfl rfl RX1 RR1 pR (by decide) (by omega) (by omega) rfl (fun h2 RX2 RR2 => ?_)
  refine r_icmp_eq (tgt := 1963) d_W_law_317 (by decide) (fun _ => ?_) (fun z => absurd rfl z)
  exact r_wide (by omega) (by omega) (nx S' h2 K' RX2 RR2)

set_option maxRecDepth 4000 in
theorem lc_scene {base b L i cs ss : Nat} {xs : Nat → Int32} {nm : String} {S : SG} {h : Hp} (K : OKS S) (RX : RelX base h S) (RR : RelR base h S) (hL : L ≤ 3072) (hi : i + 6 ≤ L) (hc : cs + 12 ≤ 601024) (hs : ss + 7141 ≤ 7293034) (nx : ∀ S' h', OKS S' → RelX base h' S' → RelR base h' S' → A base (ΦL base b L xs) (MW nm) (cs + 12) (ss + 7141) h' 1963 (LV base b i) []) : A base (ΦL base b L xs) (MW nm) cs ss h 322 (LV base b i) [] := by
  obtain ⟨r, S', K', pX, pR⟩ := pr_scene K (xs (i + 1)) (xs (i + 2)) (xs (i + 3)) (xs (i + 4)) (xs (i + 5))
  refine r_aload_n d_W_law_322 rfl ?_
  refine r_arg (k := 1) d_W_law_323 d_W_law_324 d_W_law_326 d_W_law_327 d_W_law_328 (by decide) hL (by omega) rfl rfl ?_
  refine r_arg (k := 2) d_W_law_329 d_W_law_330 d_W_law_332 d_W_law_333 d_W_law_334 (by decide) hL (by omega) rfl rfl ?_
  refine r_arg (k := 3) d_W_law_335 d_W_law_336 d_W_law_338 d_W_law_339 d_W_law_340 (by decide) hL (by omega) rfl rfl ?_
  refine r_arg (k := 4) d_W_law_341 d_W_law_342 d_W_law_344 d_W_law_345 d_W_law_346 (by decide) hL (by omega) rfl rfl ?_
  refine r_arg (k := 5) d_W_law_347 d_W_law_348 d_W_law_350 d_W_law_351 d_W_law_352 (by decide) hL (by omega) rfl rfl ?_
  refine r_lX d_W_law_353 mok_X_scene lk_X_scene ml_W_31 rfl rfl RX RR pX (by decide) (by omega) (by omega) rfl (fun h1 RX1 RR1 => ?_)
  refine r_aload_n d_W_law_356 rfl ?_
  refine r_arg (k := 1) d_W_law_357 d_W_law_358 d_W_law_360 d_W_law_361 d_W_law_362 (by decide) hL (by omega) rfl rfl ?_
  refine r_arg (k := 2) d_W_law_363 d_W_law_364 d_W_law_366 d_W_law_367 d_W_law_368 (by decide) hL (by omega) rfl rfl ?_
  refine r_arg (k := 3) d_W_law_369 d_W_law_370 d_W_law_372 d_W_law_373 d_W_law_374 (by decide) hL (by omega) rfl rfl ?_
  refine r_arg (k := 4) d_W_law_375 d_W_law_376 d_W_law_378 d_W_law_379 d_W_law_380 (by decide) hL (by omega) rfl rfl ?_
  refine r_arg (k := 5) d_W_law_381 d_W_law_382 d_W_law_384 d_W_law_385 d_W_law_386 (by decide) hL (by omega) rfl rfl ?_
  refine r_lR d_W_law_387 mok_R_scene lk_R_scene ml_W_35 rfl rfl RX1 RR1 pR (by decide) (by omega) (by omega) rfl (fun h2 RX2 RR2 => ?_)
  refine r_icmp_eq (tgt := 1963) d_W_law_390 (by decide) (fun _ => ?_) (fun z => absurd rfl z)
  exact r_wide (by omega) (by omega) (nx S' h2 K' RX2 RR2)

set_option maxRecDepth 4000 in
theorem lc_act {base b L i cs ss : Nat} {xs : Nat → Int32} {nm : String} {S : SG} {h : Hp} (K : OKS S) (RX : RelX base h S) (RR : RelR base h S) (hL : L ≤ 3072) (hi : i + 6 ≤ L) (hc : cs + 12 ≤ 601024) (hs : ss + 7141 ≤ 7293034) (nx : ∀ S' h', OKS S' → RelX base h' S' → RelR base h' S' → A base (ΦL base b L xs) (MW nm) (cs + 12) (ss + 7141) h' 1963 (LV base b i) []) : A base (ΦL base b L xs) (MW nm) cs ss h 395 (LV base b i) [] := by
  obtain ⟨r, S', K', pX, pR⟩ := pr_act K (xs (i + 1)) (xs (i + 2)) (xs (i + 3)) (xs (i + 4)) (xs (i + 5))
  refine r_aload_n d_W_law_395 rfl ?_
  refine r_arg (k := 1) d_W_law_396 d_W_law_397 d_W_law_399 d_W_law_400 d_W_law_401 (by decide) hL (by omega) rfl rfl ?_
  refine r_arg (k := 2) d_W_law_402 d_W_law_403 d_W_law_405 d_W_law_406 d_W_law_407 (by decide) hL (by omega) rfl rfl ?_
  refine r_arg (k := 3) d_W_law_408 d_W_law_409 d_W_law_411 d_W_law_412 d_W_law_413 (by decide) hL (by omega) rfl rfl ?_
  refine r_arg (k := 4) d_W_law_414 d_W_law_415 d_W_law_417 d_W_law_418 d_W_law_419 (by decide) hL (by omega) rfl rfl ?_
  refine r_arg (k := 5) d_W_law_420 d_W_law_421 d_W_law_423 d_W_law_424 d_W_law_425 (by decide) hL (by omega) rfl rfl ?_
  refine r_lX d_W_law_426 mok_X_act lk_X_act ml_W_36 rfl rfl RX RR pX (by decide) (by omega) (by omega) rfl (fun h1 RX1 RR1 => ?_)
  refine r_aload_n d_W_law_429 rfl ?_
  refine r_arg (k := 1) d_W_law_430 d_W_law_431 d_W_law_433 d_W_law_434 d_W_law_435 (by decide) hL (by omega) rfl rfl ?_
  refine r_arg (k := 2) d_W_law_436 d_W_law_437 d_W_law_439 d_W_law_440 d_W_law_441 (by decide) hL (by omega) rfl rfl ?_
  refine r_arg (k := 3) d_W_law_442 d_W_law_443 d_W_law_445 d_W_law_446 d_W_law_447 (by decide) hL (by omega) rfl rfl ?_
  refine r_arg (k := 4) d_W_law_448 d_W_law_449 d_W_law_451 d_W_law_452 d_W_law_453 (by decide) hL (by omega) rfl rfl ?_
  refine r_arg (k := 5) d_W_law_454 d_W_law_455 d_W_law_457 d_W_law_458 d_W_law_459 (by decide) hL (by omega) rfl rfl ?_
  refine r_lR d_W_law_460 mok_R_act lk_R_act ml_W_39 rfl rfl RX1 RR1 pR (by decide) (by omega) (by omega) rfl (fun h2 RX2 RR2 => ?_)
  refine r_icmp_eq (tgt := 1963) d_W_law_463 (by decide) (fun _ => ?_) (fun z => absurd rfl z)
  exact r_wide (by omega) (by omega) (nx S' h2 K' RX2 RR2)

set_option maxRecDepth 4000 in
theorem lc_bare {base b L i cs ss : Nat} {xs : Nat → Int32} {nm : String} {S : SG} {h : Hp} (K : OKS S) (RX : RelX base h S) (RR : RelR base h S) (hL : L ≤ 3072) (hi : i + 6 ≤ L) (hc : cs + 12 ≤ 601024) (hs : ss + 7141 ≤ 7293034) (nx : ∀ S' h', OKS S' → RelX base h' S' → RelR base h' S' → A base (ΦL base b L xs) (MW nm) (cs + 12) (ss + 7141) h' 1963 (LV base b i) []) : A base (ΦL base b L xs) (MW nm) cs ss h 468 (LV base b i) [] := by
  obtain ⟨r, S', K', pX, pR⟩ := pr_bare K (xs (i + 1))
  refine r_aload_n d_W_law_468 rfl ?_
  refine r_arg (k := 1) d_W_law_469 d_W_law_470 d_W_law_472 d_W_law_473 d_W_law_474 (by decide) hL (by omega) rfl rfl ?_
  refine r_lX d_W_law_475 mok_X_bare lk_X_bare ml_W_40 rfl rfl RX RR pX (by decide) (by omega) (by omega) rfl (fun h1 RX1 RR1 => ?_)
  refine r_aload_n d_W_law_478 rfl ?_
  refine r_arg (k := 1) d_W_law_479 d_W_law_480 d_W_law_482 d_W_law_483 d_W_law_484 (by decide) hL (by omega) rfl rfl ?_
  refine r_lR d_W_law_485 mok_R_bare lk_R_bare ml_W_44 rfl rfl RX1 RR1 pR (by decide) (by omega) (by omega) rfl (fun h2 RX2 RR2 => ?_)
  refine r_icmp_eq (tgt := 1963) d_W_law_488 (by decide) (fun _ => ?_) (fun z => absurd rfl z)
  exact r_wide (by omega) (by omega) (nx S' h2 K' RX2 RR2)

set_option maxRecDepth 4000 in
theorem lc_drop {base b L i cs ss : Nat} {xs : Nat → Int32} {nm : String} {S : SG} {h : Hp} (K : OKS S) (RX : RelX base h S) (RR : RelR base h S) (hL : L ≤ 3072) (hi : i + 6 ≤ L) (hc : cs + 12 ≤ 601024) (hs : ss + 7141 ≤ 7293034) (nx : ∀ S' h', OKS S' → RelX base h' S' → RelR base h' S' → A base (ΦL base b L xs) (MW nm) (cs + 12) (ss + 7141) h' 1963 (LV base b i) []) : A base (ΦL base b L xs) (MW nm) cs ss h 493 (LV base b i) [] := by
  obtain ⟨r, S', K', pX, pR⟩ := pr_drop K (xs (i + 1))
  refine r_aload_n d_W_law_493 rfl ?_
  refine r_arg (k := 1) d_W_law_494 d_W_law_495 d_W_law_497 d_W_law_498 d_W_law_499 (by decide) hL (by omega) rfl rfl ?_
  refine r_lX d_W_law_500 mok_X_drop lk_X_drop ml_W_45 rfl rfl RX RR pX (by decide) (by omega) (by omega) rfl (fun h1 RX1 RR1 => ?_)
  refine r_aload_n d_W_law_503 rfl ?_
  refine r_arg (k := 1) d_W_law_504 d_W_law_505 d_W_law_507 d_W_law_508 d_W_law_509 (by decide) hL (by omega) rfl rfl ?_
  refine r_lR d_W_law_510 mok_R_drop lk_R_drop ml_W_48 rfl rfl RX1 RR1 pR (by decide) (by omega) (by omega) rfl (fun h2 RX2 RR2 => ?_)
  refine r_icmp_eq (tgt := 1963) d_W_law_513 (by decide) (fun _ => ?_) (fun z => absurd rfl z)
  exact r_wide (by omega) (by omega) (nx S' h2 K' RX2 RR2)

set_option maxRecDepth 4000 in
theorem lc_move {base b L i cs ss : Nat} {xs : Nat → Int32} {nm : String} {S : SG} {h : Hp} (K : OKS S) (RX : RelX base h S) (RR : RelR base h S) (hL : L ≤ 3072) (hi : i + 6 ≤ L) (hc : cs + 12 ≤ 601024) (hs : ss + 7141 ≤ 7293034) (nx : ∀ S' h', OKS S' → RelX base h' S' → RelR base h' S' → A base (ΦL base b L xs) (MW nm) (cs + 12) (ss + 7141) h' 1963 (LV base b i) []) : A base (ΦL base b L xs) (MW nm) cs ss h 518 (LV base b i) [] := by
  obtain ⟨r, S', K', pX, pR⟩ := pr_move K (xs (i + 1)) (xs (i + 2))
  refine r_aload_n d_W_law_518 rfl ?_
  refine r_arg (k := 1) d_W_law_519 d_W_law_520 d_W_law_522 d_W_law_523 d_W_law_524 (by decide) hL (by omega) rfl rfl ?_
  refine r_arg (k := 2) d_W_law_525 d_W_law_526 d_W_law_528 d_W_law_529 d_W_law_530 (by decide) hL (by omega) rfl rfl ?_
  refine r_lX d_W_law_531 mok_X_move lk_X_move ml_W_49 rfl rfl RX RR pX (by decide) (by omega) (by omega) rfl (fun h1 RX1 RR1 => ?_)
  refine r_aload_n d_W_law_534 rfl ?_
  refine r_arg (k := 1) d_W_law_535 d_W_law_536 d_W_law_538 d_W_law_539 d_W_law_540 (by decide) hL (by omega) rfl rfl ?_
  refine r_arg (k := 2) d_W_law_541 d_W_law_542 d_W_law_544 d_W_law_545 d_W_law_546 (by decide) hL (by omega) rfl rfl ?_
  refine r_lR d_W_law_547 mok_R_move lk_R_move ml_W_52 rfl rfl RX1 RR1 pR (by decide) (by omega) (by omega) rfl (fun h2 RX2 RR2 => ?_)
  refine r_icmp_eq (tgt := 1963) d_W_law_550 (by decide) (fun _ => ?_) (fun z => absurd rfl z)
  exact r_wide (by omega) (by omega) (nx S' h2 K' RX2 RR2)

set_option maxRecDepth 4000 in
theorem lc_told {base b L i cs ss : Nat} {xs : Nat → Int32} {nm : String} {S : SG} {h : Hp} (K : OKS S) (RX : RelX base h S) (RR : RelR base h S) (hL : L ≤ 3072) (hi : i + 6 ≤ L) (hc : cs + 12 ≤ 601024) (hs : ss + 7141 ≤ 7293034) (nx : ∀ S' h', OKS S' → RelX base h' S' → RelR base h' S' → A base (ΦL base b L xs) (MW nm) (cs + 12) (ss + 7141) h' 1963 (LV base b i) []) : A base (ΦL base b L xs) (MW nm) cs ss h 555 (LV base b i) [] := by
  obtain ⟨r, S', K', pX, pR⟩ := pr_told K (xs (i + 1)) (xs (i + 2))
  refine r_aload_n d_W_law_555 rfl ?_
  refine r_arg (k := 1) d_W_law_556 d_W_law_557 d_W_law_559 d_W_law_560 d_W_law_561 (by decide) hL (by omega) rfl rfl ?_
  refine r_arg (k := 2) d_W_law_562 d_W_law_563 d_W_law_565 d_W_law_566 d_W_law_567 (by decide) hL (by omega) rfl rfl ?_
  refine r_lX d_W_law_568 mok_X_told lk_X_told ml_W_53 rfl rfl RX RR pX (by decide) (by omega) (by omega) rfl (fun h1 RX1 RR1 => ?_)
  refine r_aload_n d_W_law_571 rfl ?_
  refine r_arg (k := 1) d_W_law_572 d_W_law_573 d_W_law_575 d_W_law_576 d_W_law_577 (by decide) hL (by omega) rfl rfl ?_
  refine r_arg (k := 2) d_W_law_578 d_W_law_579 d_W_law_581 d_W_law_582 d_W_law_583 (by decide) hL (by omega) rfl rfl ?_
  refine r_lR d_W_law_584 mok_R_told lk_R_told ml_W_56 rfl rfl RX1 RR1 pR (by decide) (by omega) (by omega) rfl (fun h2 RX2 RR2 => ?_)
  refine r_icmp_eq (tgt := 1963) d_W_law_587 (by decide) (fun _ => ?_) (fun z => absurd rfl z)
  exact r_wide (by omega) (by omega) (nx S' h2 K' RX2 RR2)

set_option maxRecDepth 4000 in
theorem lc_aired {base b L i cs ss : Nat} {xs : Nat → Int32} {nm : String} {S : SG} {h : Hp} (K : OKS S) (RX : RelX base h S) (RR : RelR base h S) (hL : L ≤ 3072) (hi : i + 6 ≤ L) (hc : cs + 12 ≤ 601024) (hs : ss + 7141 ≤ 7293034) (nx : ∀ S' h', OKS S' → RelX base h' S' → RelR base h' S' → A base (ΦL base b L xs) (MW nm) (cs + 12) (ss + 7141) h' 1963 (LV base b i) []) : A base (ΦL base b L xs) (MW nm) cs ss h 592 (LV base b i) [] := by
  obtain ⟨r, S', K', pX, pR⟩ := pr_aired K (xs (i + 1))
  refine r_aload_n d_W_law_592 rfl ?_
  refine r_arg (k := 1) d_W_law_593 d_W_law_594 d_W_law_596 d_W_law_597 d_W_law_598 (by decide) hL (by omega) rfl rfl ?_
  refine r_lX d_W_law_599 mok_X_aired lk_X_aired ml_W_57 rfl rfl RX RR pX (by decide) (by omega) (by omega) rfl (fun h1 RX1 RR1 => ?_)
  refine r_aload_n d_W_law_602 rfl ?_
  refine r_arg (k := 1) d_W_law_603 d_W_law_604 d_W_law_606 d_W_law_607 d_W_law_608 (by decide) hL (by omega) rfl rfl ?_
  refine r_lR d_W_law_609 mok_R_aired lk_R_aired ml_W_60 rfl rfl RX1 RR1 pR (by decide) (by omega) (by omega) rfl (fun h2 RX2 RR2 => ?_)
  refine r_icmp_eq (tgt := 1963) d_W_law_612 (by decide) (fun _ => ?_) (fun z => absurd rfl z)
  exact r_wide (by omega) (by omega) (nx S' h2 K' RX2 RR2)

set_option maxRecDepth 4000 in
theorem lc_faults {base b L i cs ss : Nat} {xs : Nat → Int32} {nm : String} {S : SG} {h : Hp} (K : OKS S) (RX : RelX base h S) (RR : RelR base h S) (hL : L ≤ 3072) (hi : i + 6 ≤ L) (hc : cs + 12 ≤ 601024) (hs : ss + 7141 ≤ 7293034) (nx : ∀ S' h', OKS S' → RelX base h' S' → RelR base h' S' → A base (ΦL base b L xs) (MW nm) (cs + 12) (ss + 7141) h' 1963 (LV base b i) []) : A base (ΦL base b L xs) (MW nm) cs ss h 617 (LV base b i) [] := by
  obtain ⟨r, S', K', pX, pR⟩ := pr_faults K 
  refine r_aload_n d_W_law_617 rfl ?_
  refine r_lX d_W_law_618 mok_X_faults lk_X_faults ml_W_61 rfl rfl RX RR pX (by decide) (by omega) (by omega) rfl (fun h1 RX1 RR1 => ?_)
  refine r_aload_n d_W_law_621 rfl ?_
  refine r_lR d_W_law_622 mok_R_faults lk_R_faults ml_W_65 rfl rfl RX1 RR1 pR (by decide) (by omega) (by omega) rfl (fun h2 RX2 RR2 => ?_)
  refine r_icmp_eq (tgt := 1963) d_W_law_625 (by decide) (fun _ => ?_) (fun z => absurd rfl z)
  exact r_wide (by omega) (by omega) (nx S' h2 K' RX2 RR2)

set_option maxRecDepth 4000 in
theorem lc_fault {base b L i cs ss : Nat} {xs : Nat → Int32} {nm : String} {S : SG} {h : Hp} (K : OKS S) (RX : RelX base h S) (RR : RelR base h S) (hL : L ≤ 3072) (hi : i + 6 ≤ L) (hc : cs + 12 ≤ 601024) (hs : ss + 7141 ≤ 7293034) (nx : ∀ S' h', OKS S' → RelX base h' S' → RelR base h' S' → A base (ΦL base b L xs) (MW nm) (cs + 12) (ss + 7141) h' 1963 (LV base b i) []) : A base (ΦL base b L xs) (MW nm) cs ss h 630 (LV base b i) [] := by
  obtain ⟨r, S', K', pX, pR⟩ := pr_fault K (xs (i + 1)) (xs (i + 2))
  refine r_aload_n d_W_law_630 rfl ?_
  refine r_arg (k := 1) d_W_law_631 d_W_law_632 d_W_law_634 d_W_law_635 d_W_law_636 (by decide) hL (by omega) rfl rfl ?_
  refine r_arg (k := 2) d_W_law_637 d_W_law_638 d_W_law_640 d_W_law_641 d_W_law_642 (by decide) hL (by omega) rfl rfl ?_
  refine r_lX d_W_law_643 mok_X_fault lk_X_fault ml_W_66 rfl rfl RX RR pX (by decide) (by omega) (by omega) rfl (fun h1 RX1 RR1 => ?_)
  refine r_aload_n d_W_law_646 rfl ?_
  refine r_arg (k := 1) d_W_law_647 d_W_law_648 d_W_law_650 d_W_law_651 d_W_law_652 (by decide) hL (by omega) rfl rfl ?_
  refine r_arg (k := 2) d_W_law_653 d_W_law_654 d_W_law_656 d_W_law_657 d_W_law_658 (by decide) hL (by omega) rfl rfl ?_
  refine r_lR d_W_law_659 mok_R_fault lk_R_fault ml_W_69 rfl rfl RX1 RR1 pR (by decide) (by omega) (by omega) rfl (fun h2 RX2 RR2 => ?_)
  refine r_icmp_eq (tgt := 1963) d_W_law_662 (by decide) (fun _ => ?_) (fun z => absurd rfl z)
  exact r_wide (by omega) (by omega) (nx S' h2 K' RX2 RR2)

set_option maxRecDepth 4000 in
theorem lc_since {base b L i cs ss : Nat} {xs : Nat → Int32} {nm : String} {S : SG} {h : Hp} (K : OKS S) (RX : RelX base h S) (RR : RelR base h S) (hL : L ≤ 3072) (hi : i + 6 ≤ L) (hc : cs + 12 ≤ 601024) (hs : ss + 7141 ≤ 7293034) (nx : ∀ S' h', OKS S' → RelX base h' S' → RelR base h' S' → A base (ΦL base b L xs) (MW nm) (cs + 12) (ss + 7141) h' 1963 (LV base b i) []) : A base (ΦL base b L xs) (MW nm) cs ss h 667 (LV base b i) [] := by
  obtain ⟨r, S', K', pX, pR⟩ := pr_since K (xs (i + 1)) (xs (i + 2))
  refine r_aload_n d_W_law_667 rfl ?_
  refine r_arg (k := 1) d_W_law_668 d_W_law_669 d_W_law_671 d_W_law_672 d_W_law_673 (by decide) hL (by omega) rfl rfl ?_
  refine r_arg (k := 2) d_W_law_674 d_W_law_675 d_W_law_677 d_W_law_678 d_W_law_679 (by decide) hL (by omega) rfl rfl ?_
  refine r_lX d_W_law_680 mok_X_since lk_X_since ml_W_70 rfl rfl RX RR pX (by decide) (by omega) (by omega) rfl (fun h1 RX1 RR1 => ?_)
  refine r_aload_n d_W_law_683 rfl ?_
  refine r_arg (k := 1) d_W_law_684 d_W_law_685 d_W_law_687 d_W_law_688 d_W_law_689 (by decide) hL (by omega) rfl rfl ?_
  refine r_arg (k := 2) d_W_law_690 d_W_law_691 d_W_law_693 d_W_law_694 d_W_law_695 (by decide) hL (by omega) rfl rfl ?_
  refine r_lR d_W_law_696 mok_R_since lk_R_since ml_W_73 rfl rfl RX1 RR1 pR (by decide) (by omega) (by omega) rfl (fun h2 RX2 RR2 => ?_)
  refine r_icmp_eq (tgt := 1963) d_W_law_699 (by decide) (fun _ => ?_) (fun z => absurd rfl z)
  exact r_wide (by omega) (by omega) (nx S' h2 K' RX2 RR2)

set_option maxRecDepth 4000 in
theorem lc_teller {base b L i cs ss : Nat} {xs : Nat → Int32} {nm : String} {S : SG} {h : Hp} (K : OKS S) (RX : RelX base h S) (RR : RelR base h S) (hL : L ≤ 3072) (hi : i + 6 ≤ L) (hc : cs + 12 ≤ 601024) (hs : ss + 7141 ≤ 7293034) (nx : ∀ S' h', OKS S' → RelX base h' S' → RelR base h' S' → A base (ΦL base b L xs) (MW nm) (cs + 12) (ss + 7141) h' 1963 (LV base b i) []) : A base (ΦL base b L xs) (MW nm) cs ss h 704 (LV base b i) [] := by
  obtain ⟨r, S', K', pX, pR⟩ := pr_teller K (xs (i + 1)) (xs (i + 2))
  refine r_aload_n d_W_law_704 rfl ?_
  refine r_arg (k := 1) d_W_law_705 d_W_law_706 d_W_law_708 d_W_law_709 d_W_law_710 (by decide) hL (by omega) rfl rfl ?_
  refine r_arg (k := 2) d_W_law_711 d_W_law_712 d_W_law_714 d_W_law_715 d_W_law_716 (by decide) hL (by omega) rfl rfl ?_
  refine r_lX d_W_law_717 mok_X_teller lk_X_teller ml_W_74 rfl rfl RX RR pX (by decide) (by omega) (by omega) rfl (fun h1 RX1 RR1 => ?_)
  refine r_aload_n d_W_law_720 rfl ?_
  refine r_arg (k := 1) d_W_law_721 d_W_law_722 d_W_law_724 d_W_law_725 d_W_law_726 (by decide) hL (by omega) rfl rfl ?_
  refine r_arg (k := 2) d_W_law_727 d_W_law_728 d_W_law_730 d_W_law_731 d_W_law_732 (by decide) hL (by omega) rfl rfl ?_
  refine r_lR d_W_law_733 mok_R_teller lk_R_teller ml_W_77 rfl rfl RX1 RR1 pR (by decide) (by omega) (by omega) rfl (fun h2 RX2 RR2 => ?_)
  refine r_icmp_eq (tgt := 1963) d_W_law_736 (by decide) (fun _ => ?_) (fun z => absurd rfl z)
  exact r_wide (by omega) (by omega) (nx S' h2 K' RX2 RR2)

set_option maxRecDepth 4000 in
theorem lc_tellings {base b L i cs ss : Nat} {xs : Nat → Int32} {nm : String} {S : SG} {h : Hp} (K : OKS S) (RX : RelX base h S) (RR : RelR base h S) (hL : L ≤ 3072) (hi : i + 6 ≤ L) (hc : cs + 12 ≤ 601024) (hs : ss + 7141 ≤ 7293034) (nx : ∀ S' h', OKS S' → RelX base h' S' → RelR base h' S' → A base (ΦL base b L xs) (MW nm) (cs + 12) (ss + 7141) h' 1963 (LV base b i) []) : A base (ΦL base b L xs) (MW nm) cs ss h 741 (LV base b i) [] := by
  obtain ⟨r, S', K', pX, pR⟩ := pr_tellings K (xs (i + 1)) (xs (i + 2))
  refine r_aload_n d_W_law_741 rfl ?_
  refine r_arg (k := 1) d_W_law_742 d_W_law_743 d_W_law_745 d_W_law_746 d_W_law_747 (by decide) hL (by omega) rfl rfl ?_
  refine r_arg (k := 2) d_W_law_748 d_W_law_749 d_W_law_751 d_W_law_752 d_W_law_753 (by decide) hL (by omega) rfl rfl ?_
  refine r_lX d_W_law_754 mok_X_tellings lk_X_tellings ml_W_78 rfl rfl RX RR pX (by decide) (by omega) (by omega) rfl (fun h1 RX1 RR1 => ?_)
  refine r_aload_n d_W_law_757 rfl ?_
  refine r_arg (k := 1) d_W_law_758 d_W_law_759 d_W_law_761 d_W_law_762 d_W_law_763 (by decide) hL (by omega) rfl rfl ?_
  refine r_arg (k := 2) d_W_law_764 d_W_law_765 d_W_law_767 d_W_law_768 d_W_law_769 (by decide) hL (by omega) rfl rfl ?_
  refine r_lR d_W_law_770 mok_R_tellings lk_R_tellings ml_W_81 rfl rfl RX1 RR1 pR (by decide) (by omega) (by omega) rfl (fun h2 RX2 RR2 => ?_)
  refine r_icmp_eq (tgt := 1963) d_W_law_773 (by decide) (fun _ => ?_) (fun z => absurd rfl z)
  exact r_wide (by omega) (by omega) (nx S' h2 K' RX2 RR2)

set_option maxRecDepth 4000 in
theorem lc_shown {base b L i cs ss : Nat} {xs : Nat → Int32} {nm : String} {S : SG} {h : Hp} (K : OKS S) (RX : RelX base h S) (RR : RelR base h S) (hL : L ≤ 3072) (hi : i + 6 ≤ L) (hc : cs + 12 ≤ 601024) (hs : ss + 7141 ≤ 7293034) (nx : ∀ S' h', OKS S' → RelX base h' S' → RelR base h' S' → A base (ΦL base b L xs) (MW nm) (cs + 12) (ss + 7141) h' 1963 (LV base b i) []) : A base (ΦL base b L xs) (MW nm) cs ss h 778 (LV base b i) [] := by
  obtain ⟨r, S', K', pX, pR⟩ := pr_shown K (xs (i + 1))
  refine r_aload_n d_W_law_778 rfl ?_
  refine r_arg (k := 1) d_W_law_779 d_W_law_780 d_W_law_782 d_W_law_783 d_W_law_784 (by decide) hL (by omega) rfl rfl ?_
  refine r_lX d_W_law_785 mok_X_shown lk_X_shown ml_W_82 rfl rfl RX RR pX (by decide) (by omega) (by omega) rfl (fun h1 RX1 RR1 => ?_)
  refine r_aload_n d_W_law_788 rfl ?_
  refine r_arg (k := 1) d_W_law_789 d_W_law_790 d_W_law_792 d_W_law_793 d_W_law_794 (by decide) hL (by omega) rfl rfl ?_
  refine r_lR d_W_law_795 mok_R_shown lk_R_shown ml_W_85 rfl rfl RX1 RR1 pR (by decide) (by omega) (by omega) rfl (fun h2 RX2 RR2 => ?_)
  refine r_icmp_eq (tgt := 1963) d_W_law_798 (by decide) (fun _ => ?_) (fun z => absurd rfl z)
  exact r_wide (by omega) (by omega) (nx S' h2 K' RX2 RR2)

set_option maxRecDepth 4000 in
theorem lc_stands {base b L i cs ss : Nat} {xs : Nat → Int32} {nm : String} {S : SG} {h : Hp} (K : OKS S) (RX : RelX base h S) (RR : RelR base h S) (hL : L ≤ 3072) (hi : i + 6 ≤ L) (hc : cs + 12 ≤ 601024) (hs : ss + 7141 ≤ 7293034) (nx : ∀ S' h', OKS S' → RelX base h' S' → RelR base h' S' → A base (ΦL base b L xs) (MW nm) (cs + 12) (ss + 7141) h' 1963 (LV base b i) []) : A base (ΦL base b L xs) (MW nm) cs ss h 803 (LV base b i) [] := by
  obtain ⟨r, S', K', pX, pR⟩ := pr_stands K (xs (i + 1)) (xs (i + 2)) (xs (i + 3))
  refine r_aload_n d_W_law_803 rfl ?_
  refine r_arg (k := 1) d_W_law_804 d_W_law_805 d_W_law_807 d_W_law_808 d_W_law_809 (by decide) hL (by omega) rfl rfl ?_
  refine r_arg (k := 2) d_W_law_810 d_W_law_811 d_W_law_813 d_W_law_814 d_W_law_815 (by decide) hL (by omega) rfl rfl ?_
  refine r_arg (k := 3) d_W_law_816 d_W_law_817 d_W_law_819 d_W_law_820 d_W_law_821 (by decide) hL (by omega) rfl rfl ?_
  refine r_lX d_W_law_822 mok_X_stands lk_X_stands ml_W_86 rfl rfl RX RR pX (by decide) (by omega) (by omega) rfl (fun h1 RX1 RR1 => ?_)
  refine r_aload_n d_W_law_825 rfl ?_
  refine r_arg (k := 1) d_W_law_826 d_W_law_827 d_W_law_829 d_W_law_830 d_W_law_831 (by decide) hL (by omega) rfl rfl ?_
  refine r_arg (k := 2) d_W_law_832 d_W_law_833 d_W_law_835 d_W_law_836 d_W_law_837 (by decide) hL (by omega) rfl rfl ?_
  refine r_arg (k := 3) d_W_law_838 d_W_law_839 d_W_law_841 d_W_law_842 d_W_law_843 (by decide) hL (by omega) rfl rfl ?_
  refine r_lR d_W_law_844 mok_R_stands lk_R_stands ml_W_89 rfl rfl RX1 RR1 pR (by decide) (by omega) (by omega) rfl (fun h2 RX2 RR2 => ?_)
  refine r_icmp_eq (tgt := 1963) d_W_law_847 (by decide) (fun _ => ?_) (fun z => absurd rfl z)
  exact r_wide (by omega) (by omega) (nx S' h2 K' RX2 RR2)

set_option maxRecDepth 4000 in
theorem lc_rule {base b L i cs ss : Nat} {xs : Nat → Int32} {nm : String} {S : SG} {h : Hp} (K : OKS S) (RX : RelX base h S) (RR : RelR base h S) (hL : L ≤ 3072) (hi : i + 6 ≤ L) (hc : cs + 12 ≤ 601024) (hs : ss + 7141 ≤ 7293034) (nx : ∀ S' h', OKS S' → RelX base h' S' → RelR base h' S' → A base (ΦL base b L xs) (MW nm) (cs + 12) (ss + 7141) h' 1963 (LV base b i) []) : A base (ΦL base b L xs) (MW nm) cs ss h 852 (LV base b i) [] := by
  obtain ⟨r, S', K', pX, pR⟩ := pr_rule K (xs (i + 1)) (xs (i + 2))
  refine r_aload_n d_W_law_852 rfl ?_
  refine r_arg (k := 1) d_W_law_853 d_W_law_854 d_W_law_856 d_W_law_857 d_W_law_858 (by decide) hL (by omega) rfl rfl ?_
  refine r_arg (k := 2) d_W_law_859 d_W_law_860 d_W_law_862 d_W_law_863 d_W_law_864 (by decide) hL (by omega) rfl rfl ?_
  refine r_lX d_W_law_865 mok_X_rule lk_X_rule ml_W_90 rfl rfl RX RR pX (by decide) (by omega) (by omega) rfl (fun h1 RX1 RR1 => ?_)
  refine r_aload_n d_W_law_868 rfl ?_
  refine r_arg (k := 1) d_W_law_869 d_W_law_870 d_W_law_872 d_W_law_873 d_W_law_874 (by decide) hL (by omega) rfl rfl ?_
  refine r_arg (k := 2) d_W_law_875 d_W_law_876 d_W_law_878 d_W_law_879 d_W_law_880 (by decide) hL (by omega) rfl rfl ?_
  refine r_lR d_W_law_881 mok_R_rule lk_R_rule ml_W_93 rfl rfl RX1 RR1 pR (by decide) (by omega) (by omega) rfl (fun h2 RX2 RR2 => ?_)
  refine r_icmp_eq (tgt := 1963) d_W_law_884 (by decide) (fun _ => ?_) (fun z => absurd rfl z)
  exact r_wide (by omega) (by omega) (nx S' h2 K' RX2 RR2)

set_option maxRecDepth 4000 in
theorem lc_unrule {base b L i cs ss : Nat} {xs : Nat → Int32} {nm : String} {S : SG} {h : Hp} (K : OKS S) (RX : RelX base h S) (RR : RelR base h S) (hL : L ≤ 3072) (hi : i + 6 ≤ L) (hc : cs + 12 ≤ 601024) (hs : ss + 7141 ≤ 7293034) (nx : ∀ S' h', OKS S' → RelX base h' S' → RelR base h' S' → A base (ΦL base b L xs) (MW nm) (cs + 12) (ss + 7141) h' 1963 (LV base b i) []) : A base (ΦL base b L xs) (MW nm) cs ss h 889 (LV base b i) [] := by
  obtain ⟨r, S', K', pX, pR⟩ := pr_unrule K (xs (i + 1))
  refine r_aload_n d_W_law_889 rfl ?_
  refine r_arg (k := 1) d_W_law_890 d_W_law_891 d_W_law_893 d_W_law_894 d_W_law_895 (by decide) hL (by omega) rfl rfl ?_
  refine r_lX d_W_law_896 mok_X_unrule lk_X_unrule ml_W_94 rfl rfl RX RR pX (by decide) (by omega) (by omega) rfl (fun h1 RX1 RR1 => ?_)
  refine r_aload_n d_W_law_899 rfl ?_
  refine r_arg (k := 1) d_W_law_900 d_W_law_901 d_W_law_903 d_W_law_904 d_W_law_905 (by decide) hL (by omega) rfl rfl ?_
  refine r_lR d_W_law_906 mok_R_unrule lk_R_unrule ml_W_97 rfl rfl RX1 RR1 pR (by decide) (by omega) (by omega) rfl (fun h2 RX2 RR2 => ?_)
  refine r_icmp_eq (tgt := 1963) d_W_law_909 (by decide) (fun _ => ?_) (fun z => absurd rfl z)
  exact r_wide (by omega) (by omega) (nx S' h2 K' RX2 RR2)

set_option maxRecDepth 4000 in
theorem lc_letters {base b L i cs ss : Nat} {xs : Nat → Int32} {nm : String} {S : SG} {h : Hp} (K : OKS S) (RX : RelX base h S) (RR : RelR base h S) (hL : L ≤ 3072) (hi : i + 6 ≤ L) (hc : cs + 12 ≤ 601024) (hs : ss + 7141 ≤ 7293034) (nx : ∀ S' h', OKS S' → RelX base h' S' → RelR base h' S' → A base (ΦL base b L xs) (MW nm) (cs + 12) (ss + 7141) h' 1963 (LV base b i) []) : A base (ΦL base b L xs) (MW nm) cs ss h 914 (LV base b i) [] := by
  obtain ⟨r, S', K', pX, pR⟩ := pr_letters K (xs (i + 1)) (xs (i + 2)) (xs (i + 3))
  refine r_aload_n d_W_law_914 rfl ?_
  refine r_arg (k := 1) d_W_law_915 d_W_law_916 d_W_law_918 d_W_law_919 d_W_law_920 (by decide) hL (by omega) rfl rfl ?_
  refine r_arg (k := 2) d_W_law_921 d_W_law_922 d_W_law_924 d_W_law_925 d_W_law_926 (by decide) hL (by omega) rfl rfl ?_
  refine r_arg (k := 3) d_W_law_927 d_W_law_928 d_W_law_930 d_W_law_931 d_W_law_932 (by decide) hL (by omega) rfl rfl ?_
  refine r_lX d_W_law_933 mok_X_letters lk_X_letters ml_W_98 rfl rfl RX RR pX (by decide) (by omega) (by omega) rfl (fun h1 RX1 RR1 => ?_)
  refine r_aload_n d_W_law_936 rfl ?_
  refine r_arg (k := 1) d_W_law_937 d_W_law_938 d_W_law_940 d_W_law_941 d_W_law_942 (by decide) hL (by omega) rfl rfl ?_
  refine r_arg (k := 2) d_W_law_943 d_W_law_944 d_W_law_946 d_W_law_947 d_W_law_948 (by decide) hL (by omega) rfl rfl ?_
  refine r_arg (k := 3) d_W_law_949 d_W_law_950 d_W_law_952 d_W_law_953 d_W_law_954 (by decide) hL (by omega) rfl rfl ?_
  refine r_lR d_W_law_955 mok_R_letters lk_R_letters ml_W_101 rfl rfl RX1 RR1 pR (by decide) (by omega) (by omega) rfl (fun h2 RX2 RR2 => ?_)
  refine r_icmp_eq (tgt := 1963) d_W_law_958 (by decide) (fun _ => ?_) (fun z => absurd rfl z)
  exact r_wide (by omega) (by omega) (nx S' h2 K' RX2 RR2)

set_option maxRecDepth 4000 in
theorem lc_heat {base b L i cs ss : Nat} {xs : Nat → Int32} {nm : String} {S : SG} {h : Hp} (K : OKS S) (RX : RelX base h S) (RR : RelR base h S) (hL : L ≤ 3072) (hi : i + 6 ≤ L) (hc : cs + 12 ≤ 601024) (hs : ss + 7141 ≤ 7293034) (nx : ∀ S' h', OKS S' → RelX base h' S' → RelR base h' S' → A base (ΦL base b L xs) (MW nm) (cs + 12) (ss + 7141) h' 1963 (LV base b i) []) : A base (ΦL base b L xs) (MW nm) cs ss h 963 (LV base b i) [] := by
  obtain ⟨r, S', K', pX, pR⟩ := pr_heat K (xs (i + 1)) (xs (i + 2))
  refine r_aload_n d_W_law_963 rfl ?_
  refine r_arg (k := 1) d_W_law_964 d_W_law_965 d_W_law_967 d_W_law_968 d_W_law_969 (by decide) hL (by omega) rfl rfl ?_
  refine r_arg (k := 2) d_W_law_970 d_W_law_971 d_W_law_973 d_W_law_974 d_W_law_975 (by decide) hL (by omega) rfl rfl ?_
  refine r_lX d_W_law_976 mok_X_heat lk_X_heat ml_W_102 rfl rfl RX RR pX (by decide) (by omega) (by omega) rfl (fun h1 RX1 RR1 => ?_)
  refine r_aload_n d_W_law_979 rfl ?_
  refine r_arg (k := 1) d_W_law_980 d_W_law_981 d_W_law_983 d_W_law_984 d_W_law_985 (by decide) hL (by omega) rfl rfl ?_
  refine r_arg (k := 2) d_W_law_986 d_W_law_987 d_W_law_989 d_W_law_990 d_W_law_991 (by decide) hL (by omega) rfl rfl ?_
  refine r_lR d_W_law_992 mok_R_heat lk_R_heat ml_W_105 rfl rfl RX1 RR1 pR (by decide) (by omega) (by omega) rfl (fun h2 RX2 RR2 => ?_)
  refine r_icmp_eq (tgt := 1963) d_W_law_995 (by decide) (fun _ => ?_) (fun z => absurd rfl z)
  exact r_wide (by omega) (by omega) (nx S' h2 K' RX2 RR2)

set_option maxRecDepth 4000 in
theorem lc_turn {base b L i cs ss : Nat} {xs : Nat → Int32} {nm : String} {S : SG} {h : Hp} (K : OKS S) (RX : RelX base h S) (RR : RelR base h S) (hL : L ≤ 3072) (hi : i + 6 ≤ L) (hc : cs + 12 ≤ 601024) (hs : ss + 7141 ≤ 7293034) (nx : ∀ S' h', OKS S' → RelX base h' S' → RelR base h' S' → A base (ΦL base b L xs) (MW nm) (cs + 12) (ss + 7141) h' 1963 (LV base b i) []) : A base (ΦL base b L xs) (MW nm) cs ss h 1000 (LV base b i) [] := by
  obtain ⟨r, S', K', pX, pR⟩ := pr_turn K (xs (i + 1)) (xs (i + 2)) (xs (i + 3)) (xs (i + 4)) (xs (i + 5))
  refine r_aload_n d_W_law_1000 rfl ?_
  refine r_arg (k := 1) d_W_law_1001 d_W_law_1002 d_W_law_1004 d_W_law_1005 d_W_law_1006 (by decide) hL (by omega) rfl rfl ?_
  refine r_arg (k := 2) d_W_law_1007 d_W_law_1008 d_W_law_1010 d_W_law_1011 d_W_law_1012 (by decide) hL (by omega) rfl rfl ?_
  refine r_arg (k := 3) d_W_law_1013 d_W_law_1014 d_W_law_1016 d_W_law_1017 d_W_law_1018 (by decide) hL (by omega) rfl rfl ?_
  refine r_arg (k := 4) d_W_law_1019 d_W_law_1020 d_W_law_1022 d_W_law_1023 d_W_law_1024 (by decide) hL (by omega) rfl rfl ?_
  refine r_arg (k := 5) d_W_law_1025 d_W_law_1026 d_W_law_1028 d_W_law_1029 d_W_law_1030 (by decide) hL (by omega) rfl rfl ?_
  refine r_lX d_W_law_1031 mok_X_turn lk_X_turn ml_W_106 rfl rfl RX RR pX (by decide) (by omega) (by omega) rfl (fun h1 RX1 RR1 => ?_)
  refine r_aload_n d_W_law_1034 rfl ?_
  refine r_arg (k := 1) d_W_law_1035 d_W_law_1036 d_W_law_1038 d_W_law_1039 d_W_law_1040 (by decide) hL (by omega) rfl rfl ?_
  refine r_arg (k := 2) d_W_law_1041 d_W_law_1042 d_W_law_1044 d_W_law_1045 d_W_law_1046 (by decide) hL (by omega) rfl rfl ?_
  refine r_arg (k := 3) d_W_law_1047 d_W_law_1048 d_W_law_1050 d_W_law_1051 d_W_law_1052 (by decide) hL (by omega) rfl rfl ?_
  refine r_arg (k := 4) d_W_law_1053 d_W_law_1054 d_W_law_1056 d_W_law_1057 d_W_law_1058 (by decide) hL (by omega) rfl rfl ?_
  refine r_arg (k := 5) d_W_law_1059 d_W_law_1060 d_W_law_1062 d_W_law_1063 d_W_law_1064 (by decide) hL (by omega) rfl rfl ?_
  refine r_lR d_W_law_1065 mok_R_turn lk_R_turn ml_W_109 rfl rfl RX1 RR1 pR (by decide) (by omega) (by omega) rfl (fun h2 RX2 RR2 => ?_)
  refine r_icmp_eq (tgt := 1963) d_W_law_1068 (by decide) (fun _ => ?_) (fun z => absurd rfl z)
  exact r_wide (by omega) (by omega) (nx S' h2 K' RX2 RR2)

set_option maxRecDepth 4000 in
theorem lc_unturn {base b L i cs ss : Nat} {xs : Nat → Int32} {nm : String} {S : SG} {h : Hp} (K : OKS S) (RX : RelX base h S) (RR : RelR base h S) (hL : L ≤ 3072) (hi : i + 6 ≤ L) (hc : cs + 12 ≤ 601024) (hs : ss + 7141 ≤ 7293034) (nx : ∀ S' h', OKS S' → RelX base h' S' → RelR base h' S' → A base (ΦL base b L xs) (MW nm) (cs + 12) (ss + 7141) h' 1963 (LV base b i) []) : A base (ΦL base b L xs) (MW nm) cs ss h 1073 (LV base b i) [] := by
  obtain ⟨r, S', K', pX, pR⟩ := pr_unturn K (xs (i + 1))
  refine r_aload_n d_W_law_1073 rfl ?_
  refine r_arg (k := 1) d_W_law_1074 d_W_law_1075 d_W_law_1077 d_W_law_1078 d_W_law_1079 (by decide) hL (by omega) rfl rfl ?_
  refine r_lX d_W_law_1080 mok_X_unturn lk_X_unturn ml_W_110 rfl rfl RX RR pX (by decide) (by omega) (by omega) rfl (fun h1 RX1 RR1 => ?_)
  refine r_aload_n d_W_law_1083 rfl ?_
  refine r_arg (k := 1) d_W_law_1084 d_W_law_1085 d_W_law_1087 d_W_law_1088 d_W_law_1089 (by decide) hL (by omega) rfl rfl ?_
  refine r_lR d_W_law_1090 mok_R_unturn lk_R_unturn ml_W_113 rfl rfl RX1 RR1 pR (by decide) (by omega) (by omega) rfl (fun h2 RX2 RR2 => ?_)
  refine r_icmp_eq (tgt := 1963) d_W_law_1093 (by decide) (fun _ => ?_) (fun z => absurd rfl z)
  exact r_wide (by omega) (by omega) (nx S' h2 K' RX2 RR2)

set_option maxRecDepth 4000 in
theorem lc_gap {base b L i cs ss : Nat} {xs : Nat → Int32} {nm : String} {S : SG} {h : Hp} (K : OKS S) (RX : RelX base h S) (RR : RelR base h S) (hL : L ≤ 3072) (hi : i + 6 ≤ L) (hc : cs + 12 ≤ 601024) (hs : ss + 7141 ≤ 7293034) (nx : ∀ S' h', OKS S' → RelX base h' S' → RelR base h' S' → A base (ΦL base b L xs) (MW nm) (cs + 12) (ss + 7141) h' 1963 (LV base b i) []) : A base (ΦL base b L xs) (MW nm) cs ss h 1098 (LV base b i) [] := by
  obtain ⟨r, S', K', pX, pR⟩ := pr_gap K (xs (i + 1)) (xs (i + 2)) (xs (i + 3))
  refine r_aload_n d_W_law_1098 rfl ?_
  refine r_arg (k := 1) d_W_law_1099 d_W_law_1100 d_W_law_1102 d_W_law_1103 d_W_law_1104 (by decide) hL (by omega) rfl rfl ?_
  refine r_arg (k := 2) d_W_law_1105 d_W_law_1106 d_W_law_1108 d_W_law_1109 d_W_law_1110 (by decide) hL (by omega) rfl rfl ?_
  refine r_arg (k := 3) d_W_law_1111 d_W_law_1112 d_W_law_1114 d_W_law_1115 d_W_law_1116 (by decide) hL (by omega) rfl rfl ?_
  refine r_lX d_W_law_1117 mok_X_gap lk_X_gap ml_W_114 rfl rfl RX RR pX (by decide) (by omega) (by omega) rfl (fun h1 RX1 RR1 => ?_)
  refine r_aload_n d_W_law_1120 rfl ?_
  refine r_arg (k := 1) d_W_law_1121 d_W_law_1122 d_W_law_1124 d_W_law_1125 d_W_law_1126 (by decide) hL (by omega) rfl rfl ?_
  refine r_arg (k := 2) d_W_law_1127 d_W_law_1128 d_W_law_1130 d_W_law_1131 d_W_law_1132 (by decide) hL (by omega) rfl rfl ?_
  refine r_arg (k := 3) d_W_law_1133 d_W_law_1134 d_W_law_1136 d_W_law_1137 d_W_law_1138 (by decide) hL (by omega) rfl rfl ?_
  refine r_lR d_W_law_1139 mok_R_gap lk_R_gap ml_W_117 rfl rfl RX1 RR1 pR (by decide) (by omega) (by omega) rfl (fun h2 RX2 RR2 => ?_)
  refine r_icmp_eq (tgt := 1963) d_W_law_1142 (by decide) (fun _ => ?_) (fun z => absurd rfl z)
  exact r_wide (by omega) (by omega) (nx S' h2 K' RX2 RR2)

set_option maxRecDepth 4000 in
theorem lc_away {base b L i cs ss : Nat} {xs : Nat → Int32} {nm : String} {S : SG} {h : Hp} (K : OKS S) (RX : RelX base h S) (RR : RelR base h S) (hL : L ≤ 3072) (hi : i + 6 ≤ L) (hc : cs + 12 ≤ 601024) (hs : ss + 7141 ≤ 7293034) (nx : ∀ S' h', OKS S' → RelX base h' S' → RelR base h' S' → A base (ΦL base b L xs) (MW nm) (cs + 12) (ss + 7141) h' 1963 (LV base b i) []) : A base (ΦL base b L xs) (MW nm) cs ss h 1147 (LV base b i) [] := by
  obtain ⟨r, S', K', pX, pR⟩ := pr_away K (xs (i + 1)) (xs (i + 2))
  refine r_aload_n d_W_law_1147 rfl ?_
  refine r_arg (k := 1) d_W_law_1148 d_W_law_1149 d_W_law_1151 d_W_law_1152 d_W_law_1153 (by decide) hL (by omega) rfl rfl ?_
  refine r_arg (k := 2) d_W_law_1154 d_W_law_1155 d_W_law_1157 d_W_law_1158 d_W_law_1159 (by decide) hL (by omega) rfl rfl ?_
  refine r_lX d_W_law_1160 mok_X_away lk_X_away ml_W_118 rfl rfl RX RR pX (by decide) (by omega) (by omega) rfl (fun h1 RX1 RR1 => ?_)
  refine r_aload_n d_W_law_1163 rfl ?_
  refine r_arg (k := 1) d_W_law_1164 d_W_law_1165 d_W_law_1167 d_W_law_1168 d_W_law_1169 (by decide) hL (by omega) rfl rfl ?_
  refine r_arg (k := 2) d_W_law_1170 d_W_law_1171 d_W_law_1173 d_W_law_1174 d_W_law_1175 (by decide) hL (by omega) rfl rfl ?_
  refine r_lR d_W_law_1176 mok_R_away lk_R_away ml_W_121 rfl rfl RX1 RR1 pR (by decide) (by omega) (by omega) rfl (fun h2 RX2 RR2 => ?_)
  refine r_icmp_eq (tgt := 1963) d_W_law_1179 (by decide) (fun _ => ?_) (fun z => absurd rfl z)
  exact r_wide (by omega) (by omega) (nx S' h2 K' RX2 RR2)

set_option maxRecDepth 4000 in
theorem lc_weeks {base b L i cs ss : Nat} {xs : Nat → Int32} {nm : String} {S : SG} {h : Hp} (K : OKS S) (RX : RelX base h S) (RR : RelR base h S) (hL : L ≤ 3072) (hi : i + 6 ≤ L) (hc : cs + 12 ≤ 601024) (hs : ss + 7141 ≤ 7293034) (nx : ∀ S' h', OKS S' → RelX base h' S' → RelR base h' S' → A base (ΦL base b L xs) (MW nm) (cs + 12) (ss + 7141) h' 1963 (LV base b i) []) : A base (ΦL base b L xs) (MW nm) cs ss h 1184 (LV base b i) [] := by
  obtain ⟨r, S', K', pX, pR⟩ := pr_weeks K (xs (i + 1))
  refine r_aload_n d_W_law_1184 rfl ?_
  refine r_arg (k := 1) d_W_law_1185 d_W_law_1186 d_W_law_1188 d_W_law_1189 d_W_law_1190 (by decide) hL (by omega) rfl rfl ?_
  refine r_lX d_W_law_1191 mok_X_weeks lk_X_weeks ml_W_122 rfl rfl RX RR pX (by decide) (by omega) (by omega) rfl (fun h1 RX1 RR1 => ?_)
  refine r_aload_n d_W_law_1194 rfl ?_
  refine r_arg (k := 1) d_W_law_1195 d_W_law_1196 d_W_law_1198 d_W_law_1199 d_W_law_1200 (by decide) hL (by omega) rfl rfl ?_
  refine r_lR d_W_law_1201 mok_R_weeks lk_R_weeks ml_W_125 rfl rfl RX1 RR1 pR (by decide) (by omega) (by omega) rfl (fun h2 RX2 RR2 => ?_)
  refine r_icmp_eq (tgt := 1963) d_W_law_1204 (by decide) (fun _ => ?_) (fun z => absurd rfl z)
  exact r_wide (by omega) (by omega) (nx S' h2 K' RX2 RR2)

set_option maxRecDepth 4000 in
theorem lc_lay {base b L i cs ss : Nat} {xs : Nat → Int32} {nm : String} {S : SG} {h : Hp} (K : OKS S) (RX : RelX base h S) (RR : RelR base h S) (hL : L ≤ 3072) (hi : i + 6 ≤ L) (hc : cs + 12 ≤ 601024) (hs : ss + 7141 ≤ 7293034) (nx : ∀ S' h', OKS S' → RelX base h' S' → RelR base h' S' → A base (ΦL base b L xs) (MW nm) (cs + 12) (ss + 7141) h' 1963 (LV base b i) []) : A base (ΦL base b L xs) (MW nm) cs ss h 1209 (LV base b i) [] := by
  obtain ⟨r, S', K', pX, pR⟩ := pr_lay K 
  refine r_aload_n d_W_law_1209 rfl ?_
  refine r_lX d_W_law_1210 mok_X_lay lk_X_lay ml_W_126 rfl rfl RX RR pX (by decide) (by omega) (by omega) rfl (fun h1 RX1 RR1 => ?_)
  refine r_aload_n d_W_law_1213 rfl ?_
  refine r_lR d_W_law_1214 mok_R_lay lk_R_lay ml_W_129 rfl rfl RX1 RR1 pR (by decide) (by omega) (by omega) rfl (fun h2 RX2 RR2 => ?_)
  refine r_icmp_eq (tgt := 1963) d_W_law_1217 (by decide) (fun _ => ?_) (fun z => absurd rfl z)
  exact r_wide (by omega) (by omega) (nx S' h2 K' RX2 RR2)

set_option maxRecDepth 4000 in
theorem lc_laid {base b L i cs ss : Nat} {xs : Nat → Int32} {nm : String} {S : SG} {h : Hp} (K : OKS S) (RX : RelX base h S) (RR : RelR base h S) (hL : L ≤ 3072) (hi : i + 6 ≤ L) (hc : cs + 12 ≤ 601024) (hs : ss + 7141 ≤ 7293034) (nx : ∀ S' h', OKS S' → RelX base h' S' → RelR base h' S' → A base (ΦL base b L xs) (MW nm) (cs + 12) (ss + 7141) h' 1963 (LV base b i) []) : A base (ΦL base b L xs) (MW nm) cs ss h 1222 (LV base b i) [] := by
  obtain ⟨r, S', K', pX, pR⟩ := pr_laid K (xs (i + 1)) (xs (i + 2))
  refine r_aload_n d_W_law_1222 rfl ?_
  refine r_arg (k := 1) d_W_law_1223 d_W_law_1224 d_W_law_1226 d_W_law_1227 d_W_law_1228 (by decide) hL (by omega) rfl rfl ?_
  refine r_arg (k := 2) d_W_law_1229 d_W_law_1230 d_W_law_1232 d_W_law_1233 d_W_law_1234 (by decide) hL (by omega) rfl rfl ?_
  refine r_lX d_W_law_1235 mok_X_laid lk_X_laid ml_W_130 rfl rfl RX RR pX (by decide) (by omega) (by omega) rfl (fun h1 RX1 RR1 => ?_)
  refine r_aload_n d_W_law_1238 rfl ?_
  refine r_arg (k := 1) d_W_law_1239 d_W_law_1240 d_W_law_1242 d_W_law_1243 d_W_law_1244 (by decide) hL (by omega) rfl rfl ?_
  refine r_arg (k := 2) d_W_law_1245 d_W_law_1246 d_W_law_1248 d_W_law_1249 d_W_law_1250 (by decide) hL (by omega) rfl rfl ?_
  refine r_lR d_W_law_1251 mok_R_laid lk_R_laid ml_W_133 rfl rfl RX1 RR1 pR (by decide) (by omega) (by omega) rfl (fun h2 RX2 RR2 => ?_)
  refine r_icmp_eq (tgt := 1963) d_W_law_1254 (by decide) (fun _ => ?_) (fun z => absurd rfl z)
  exact r_wide (by omega) (by omega) (nx S' h2 K' RX2 RR2)

set_option maxRecDepth 4000 in
theorem lc_judge {base b L i cs ss : Nat} {xs : Nat → Int32} {nm : String} {S : SG} {h : Hp} (K : OKS S) (RX : RelX base h S) (RR : RelR base h S) (hL : L ≤ 3072) (hi : i + 6 ≤ L) (hc : cs + 12 ≤ 601024) (hs : ss + 7141 ≤ 7293034) (nx : ∀ S' h', OKS S' → RelX base h' S' → RelR base h' S' → A base (ΦL base b L xs) (MW nm) (cs + 12) (ss + 7141) h' 1963 (LV base b i) []) : A base (ΦL base b L xs) (MW nm) cs ss h 1259 (LV base b i) [] := by
  obtain ⟨r, S', K', pX, pR⟩ := pr_judge K (xs (i + 1))
  refine r_aload_n d_W_law_1259 rfl ?_
  refine r_arg (k := 1) d_W_law_1260 d_W_law_1261 d_W_law_1263 d_W_law_1264 d_W_law_1265 (by decide) hL (by omega) rfl rfl ?_
  refine r_lX d_W_law_1266 mok_X_judge lk_X_judge ml_W_134 rfl rfl RX RR pX (by decide) (by omega) (by omega) rfl (fun h1 RX1 RR1 => ?_)
  refine r_aload_n d_W_law_1269 rfl ?_
  refine r_arg (k := 1) d_W_law_1270 d_W_law_1271 d_W_law_1273 d_W_law_1274 d_W_law_1275 (by decide) hL (by omega) rfl rfl ?_
  refine r_lR d_W_law_1276 mok_R_judge lk_R_judge ml_W_137 rfl rfl RX1 RR1 pR (by decide) (by omega) (by omega) rfl (fun h2 RX2 RR2 => ?_)
  refine r_icmp_eq (tgt := 1963) d_W_law_1279 (by decide) (fun _ => ?_) (fun z => absurd rfl z)
  exact r_wide (by omega) (by omega) (nx S' h2 K' RX2 RR2)

set_option maxRecDepth 4000 in
theorem lc_off {base b L i cs ss : Nat} {xs : Nat → Int32} {nm : String} {S : SG} {h : Hp} (K : OKS S) (RX : RelX base h S) (RR : RelR base h S) (hL : L ≤ 3072) (hi : i + 6 ≤ L) (hc : cs + 12 ≤ 601024) (hs : ss + 7141 ≤ 7293034) (nx : ∀ S' h', OKS S' → RelX base h' S' → RelR base h' S' → A base (ΦL base b L xs) (MW nm) (cs + 12) (ss + 7141) h' 1963 (LV base b i) []) : A base (ΦL base b L xs) (MW nm) cs ss h 1284 (LV base b i) [] := by
  obtain ⟨r, S', K', pX, pR⟩ := pr_off K (xs (i + 1)) (xs (i + 2))
  refine r_aload_n d_W_law_1284 rfl ?_
  refine r_arg (k := 1) d_W_law_1285 d_W_law_1286 d_W_law_1288 d_W_law_1289 d_W_law_1290 (by decide) hL (by omega) rfl rfl ?_
  refine r_arg (k := 2) d_W_law_1291 d_W_law_1292 d_W_law_1294 d_W_law_1295 d_W_law_1296 (by decide) hL (by omega) rfl rfl ?_
  refine r_lX d_W_law_1297 mok_X_off lk_X_off ml_W_138 rfl rfl RX RR pX (by decide) (by omega) (by omega) rfl (fun h1 RX1 RR1 => ?_)
  refine r_aload_n d_W_law_1300 rfl ?_
  refine r_arg (k := 1) d_W_law_1301 d_W_law_1302 d_W_law_1304 d_W_law_1305 d_W_law_1306 (by decide) hL (by omega) rfl rfl ?_
  refine r_arg (k := 2) d_W_law_1307 d_W_law_1308 d_W_law_1310 d_W_law_1311 d_W_law_1312 (by decide) hL (by omega) rfl rfl ?_
  refine r_lR d_W_law_1313 mok_R_off lk_R_off ml_W_141 rfl rfl RX1 RR1 pR (by decide) (by omega) (by omega) rfl (fun h2 RX2 RR2 => ?_)
  refine r_icmp_eq (tgt := 1963) d_W_law_1316 (by decide) (fun _ => ?_) (fun z => absurd rfl z)
  exact r_wide (by omega) (by omega) (nx S' h2 K' RX2 RR2)

set_option maxRecDepth 4000 in
theorem lc_block {base b L i cs ss : Nat} {xs : Nat → Int32} {nm : String} {S : SG} {h : Hp} (K : OKS S) (RX : RelX base h S) (RR : RelR base h S) (hL : L ≤ 3072) (hi : i + 6 ≤ L) (hc : cs + 12 ≤ 601024) (hs : ss + 7141 ≤ 7293034) (nx : ∀ S' h', OKS S' → RelX base h' S' → RelR base h' S' → A base (ΦL base b L xs) (MW nm) (cs + 12) (ss + 7141) h' 1963 (LV base b i) []) : A base (ΦL base b L xs) (MW nm) cs ss h 1321 (LV base b i) [] := by
  obtain ⟨r, S', K', pX, pR⟩ := pr_block K (xs (i + 1)) (xs (i + 2)) (xs (i + 3)) (xs (i + 4)) (xs (i + 5))
  refine r_aload_n d_W_law_1321 rfl ?_
  refine r_arg (k := 1) d_W_law_1322 d_W_law_1323 d_W_law_1325 d_W_law_1326 d_W_law_1327 (by decide) hL (by omega) rfl rfl ?_
  refine r_arg (k := 2) d_W_law_1328 d_W_law_1329 d_W_law_1331 d_W_law_1332 d_W_law_1333 (by decide) hL (by omega) rfl rfl ?_
  refine r_arg (k := 3) d_W_law_1334 d_W_law_1335 d_W_law_1337 d_W_law_1338 d_W_law_1339 (by decide) hL (by omega) rfl rfl ?_
  refine r_arg (k := 4) d_W_law_1340 d_W_law_1341 d_W_law_1343 d_W_law_1344 d_W_law_1345 (by decide) hL (by omega) rfl rfl ?_
  refine r_arg (k := 5) d_W_law_1346 d_W_law_1347 d_W_law_1349 d_W_law_1350 d_W_law_1351 (by decide) hL (by omega) rfl rfl ?_
  refine r_lX d_W_law_1352 mok_X_block lk_X_block ml_W_142 rfl rfl RX RR pX (by decide) (by omega) (by omega) rfl (fun h1 RX1 RR1 => ?_)
  refine r_aload_n d_W_law_1355 rfl ?_
  refine r_arg (k := 1) d_W_law_1356 d_W_law_1357 d_W_law_1359 d_W_law_1360 d_W_law_1361 (by decide) hL (by omega) rfl rfl ?_
  refine r_arg (k := 2) d_W_law_1362 d_W_law_1363 d_W_law_1365 d_W_law_1366 d_W_law_1367 (by decide) hL (by omega) rfl rfl ?_
  refine r_arg (k := 3) d_W_law_1368 d_W_law_1369 d_W_law_1371 d_W_law_1372 d_W_law_1373 (by decide) hL (by omega) rfl rfl ?_
  refine r_arg (k := 4) d_W_law_1374 d_W_law_1375 d_W_law_1377 d_W_law_1378 d_W_law_1379 (by decide) hL (by omega) rfl rfl ?_
  refine r_arg (k := 5) d_W_law_1380 d_W_law_1381 d_W_law_1383 d_W_law_1384 d_W_law_1385 (by decide) hL (by omega) rfl rfl ?_
  refine r_lR d_W_law_1386 mok_R_block lk_R_block ml_W_145 rfl rfl RX1 RR1 pR (by decide) (by omega) (by omega) rfl (fun h2 RX2 RR2 => ?_)
  refine r_icmp_eq (tgt := 1963) d_W_law_1389 (by decide) (fun _ => ?_) (fun z => absurd rfl z)
  exact r_wide (by omega) (by omega) (nx S' h2 K' RX2 RR2)

set_option maxRecDepth 4000 in
theorem lc_plan {base b L i cs ss : Nat} {xs : Nat → Int32} {nm : String} {S : SG} {h : Hp} (K : OKS S) (RX : RelX base h S) (RR : RelR base h S) (hL : L ≤ 3072) (hi : i + 6 ≤ L) (hc : cs + 12 ≤ 601024) (hs : ss + 7141 ≤ 7293034) (nx : ∀ S' h', OKS S' → RelX base h' S' → RelR base h' S' → A base (ΦL base b L xs) (MW nm) (cs + 12) (ss + 7141) h' 1963 (LV base b i) []) : A base (ΦL base b L xs) (MW nm) cs ss h 1394 (LV base b i) [] := by
  obtain ⟨dR, hdR, r, S', K', pX, pR⟩ := pr_plan K
  refine r_aload_n d_W_law_1394 rfl ?_
  refine r_lX d_W_law_1395 mok_X_plan lk_X_plan ml_W_146 rfl rfl RX RR pX (by decide) (by omega) (by omega) rfl (fun h1 RX1 RR1 => ?_)
  refine r_aload_n d_W_law_1398 rfl ?_
  refine r_lR d_W_law_1399 mok_R_plan lk_R_plan ml_W_149 rfl rfl RX1 RR1 pR (by omega) (by omega) (by omega) rfl (fun h2 RX2 RR2 => ?_)
  refine r_icmp_eq (tgt := 1963) d_W_law_1402 (by decide) (fun _ => ?_) (fun z => absurd rfl z)
  exact r_wide (by omega) (by omega) (nx S' h2 K' RX2 RR2)

set_option maxRecDepth 4000 in
theorem lc_taped {base b L i cs ss : Nat} {xs : Nat → Int32} {nm : String} {S : SG} {h : Hp} (K : OKS S) (RX : RelX base h S) (RR : RelR base h S) (hL : L ≤ 3072) (hi : i + 6 ≤ L) (hc : cs + 12 ≤ 601024) (hs : ss + 7141 ≤ 7293034) (nx : ∀ S' h', OKS S' → RelX base h' S' → RelR base h' S' → A base (ΦL base b L xs) (MW nm) (cs + 12) (ss + 7141) h' 1963 (LV base b i) []) : A base (ΦL base b L xs) (MW nm) cs ss h 1407 (LV base b i) [] := by
  obtain ⟨r, S', K', pX, pR⟩ := pr_taped K (xs (i + 1)) (xs (i + 2))
  refine r_aload_n d_W_law_1407 rfl ?_
  refine r_arg (k := 1) d_W_law_1408 d_W_law_1409 d_W_law_1411 d_W_law_1412 d_W_law_1413 (by decide) hL (by omega) rfl rfl ?_
  refine r_arg (k := 2) d_W_law_1414 d_W_law_1415 d_W_law_1417 d_W_law_1418 d_W_law_1419 (by decide) hL (by omega) rfl rfl ?_
  refine r_lX d_W_law_1420 mok_X_taped lk_X_taped ml_W_150 rfl rfl RX RR pX (by decide) (by omega) (by omega) rfl (fun h1 RX1 RR1 => ?_)
  refine r_aload_n d_W_law_1423 rfl ?_
  refine r_arg (k := 1) d_W_law_1424 d_W_law_1425 d_W_law_1427 d_W_law_1428 d_W_law_1429 (by decide) hL (by omega) rfl rfl ?_
  refine r_arg (k := 2) d_W_law_1430 d_W_law_1431 d_W_law_1433 d_W_law_1434 d_W_law_1435 (by decide) hL (by omega) rfl rfl ?_
  refine r_lR d_W_law_1436 mok_R_taped lk_R_taped ml_W_153 rfl rfl RX1 RR1 pR (by decide) (by omega) (by omega) rfl (fun h2 RX2 RR2 => ?_)
  refine r_icmp_eq (tgt := 1963) d_W_law_1439 (by decide) (fun _ => ?_) (fun z => absurd rfl z)
  exact r_wide (by omega) (by omega) (nx S' h2 K' RX2 RR2)

set_option maxRecDepth 4000 in
theorem lc_proof {base b L i cs ss : Nat} {xs : Nat → Int32} {nm : String} {S : SG} {h : Hp} (K : OKS S) (RX : RelX base h S) (RR : RelR base h S) (hL : L ≤ 3072) (hi : i + 6 ≤ L) (hc : cs + 12 ≤ 601024) (hs : ss + 7141 ≤ 7293034) (nx : ∀ S' h', OKS S' → RelX base h' S' → RelR base h' S' → A base (ΦL base b L xs) (MW nm) (cs + 12) (ss + 7141) h' 1963 (LV base b i) []) : A base (ΦL base b L xs) (MW nm) cs ss h 1444 (LV base b i) [] := by
  obtain ⟨r, S', K', pX, pR⟩ := pr_proof K (xs (i + 1))
  refine r_aload_n d_W_law_1444 rfl ?_
  refine r_arg (k := 1) d_W_law_1445 d_W_law_1446 d_W_law_1448 d_W_law_1449 d_W_law_1450 (by decide) hL (by omega) rfl rfl ?_
  refine r_lX d_W_law_1451 mok_X_proof lk_X_proof ml_W_154 rfl rfl RX RR pX (by decide) (by omega) (by omega) rfl (fun h1 RX1 RR1 => ?_)
  refine r_aload_n d_W_law_1454 rfl ?_
  refine r_arg (k := 1) d_W_law_1455 d_W_law_1456 d_W_law_1458 d_W_law_1459 d_W_law_1460 (by decide) hL (by omega) rfl rfl ?_
  refine r_lR d_W_law_1461 mok_R_proof lk_R_proof ml_W_157 rfl rfl RX1 RR1 pR (by decide) (by omega) (by omega) rfl (fun h2 RX2 RR2 => ?_)
  refine r_icmp_eq (tgt := 1963) d_W_law_1464 (by decide) (fun _ => ?_) (fun z => absurd rfl z)
  exact r_wide (by omega) (by omega) (nx S' h2 K' RX2 RR2)

set_option maxRecDepth 4000 in
theorem lc_cut {base b L i cs ss : Nat} {xs : Nat → Int32} {nm : String} {S : SG} {h : Hp} (K : OKS S) (RX : RelX base h S) (RR : RelR base h S) (hL : L ≤ 3072) (hi : i + 6 ≤ L) (hc : cs + 12 ≤ 601024) (hs : ss + 7141 ≤ 7293034) (nx : ∀ S' h', OKS S' → RelX base h' S' → RelR base h' S' → A base (ΦL base b L xs) (MW nm) (cs + 12) (ss + 7141) h' 1963 (LV base b i) []) : A base (ΦL base b L xs) (MW nm) cs ss h 1469 (LV base b i) [] := by
  obtain ⟨r, S', K', pX, pR⟩ := pr_cut K (xs (i + 1))
  refine r_aload_n d_W_law_1469 rfl ?_
  refine r_arg (k := 1) d_W_law_1470 d_W_law_1471 d_W_law_1473 d_W_law_1474 d_W_law_1475 (by decide) hL (by omega) rfl rfl ?_
  refine r_lX d_W_law_1476 mok_X_cut lk_X_cut ml_W_158 rfl rfl RX RR pX (by decide) (by omega) (by omega) rfl (fun h1 RX1 RR1 => ?_)
  refine r_aload_n d_W_law_1479 rfl ?_
  refine r_arg (k := 1) d_W_law_1480 d_W_law_1481 d_W_law_1483 d_W_law_1484 d_W_law_1485 (by decide) hL (by omega) rfl rfl ?_
  refine r_lR d_W_law_1486 mok_R_cut lk_R_cut ml_W_161 rfl rfl RX1 RR1 pR (by decide) (by omega) (by omega) rfl (fun h2 RX2 RR2 => ?_)
  refine r_icmp_eq (tgt := 1963) d_W_law_1489 (by decide) (fun _ => ?_) (fun z => absurd rfl z)
  exact r_wide (by omega) (by omega) (nx S' h2 K' RX2 RR2)

set_option maxRecDepth 4000 in
theorem lc_part {base b L i cs ss : Nat} {xs : Nat → Int32} {nm : String} {S : SG} {h : Hp} (K : OKS S) (RX : RelX base h S) (RR : RelR base h S) (hL : L ≤ 3072) (hi : i + 6 ≤ L) (hc : cs + 12 ≤ 601024) (hs : ss + 7141 ≤ 7293034) (nx : ∀ S' h', OKS S' → RelX base h' S' → RelR base h' S' → A base (ΦL base b L xs) (MW nm) (cs + 12) (ss + 7141) h' 1963 (LV base b i) []) : A base (ΦL base b L xs) (MW nm) cs ss h 1494 (LV base b i) [] := by
  obtain ⟨r, S', K', pX, pR⟩ := pr_part K (xs (i + 1)) (xs (i + 2))
  refine r_aload_n d_W_law_1494 rfl ?_
  refine r_arg (k := 1) d_W_law_1495 d_W_law_1496 d_W_law_1498 d_W_law_1499 d_W_law_1500 (by decide) hL (by omega) rfl rfl ?_
  refine r_arg (k := 2) d_W_law_1501 d_W_law_1502 d_W_law_1504 d_W_law_1505 d_W_law_1506 (by decide) hL (by omega) rfl rfl ?_
  refine r_lX d_W_law_1507 mok_X_part lk_X_part ml_W_162 rfl rfl RX RR pX (by decide) (by omega) (by omega) rfl (fun h1 RX1 RR1 => ?_)
  refine r_aload_n d_W_law_1510 rfl ?_
  refine r_arg (k := 1) d_W_law_1511 d_W_law_1512 d_W_law_1514 d_W_law_1515 d_W_law_1516 (by decide) hL (by omega) rfl rfl ?_
  refine r_arg (k := 2) d_W_law_1517 d_W_law_1518 d_W_law_1520 d_W_law_1521 d_W_law_1522 (by decide) hL (by omega) rfl rfl ?_
  refine r_lR d_W_law_1523 mok_R_part lk_R_part ml_W_165 rfl rfl RX1 RR1 pR (by decide) (by omega) (by omega) rfl (fun h2 RX2 RR2 => ?_)
  refine r_icmp_eq (tgt := 1963) d_W_law_1526 (by decide) (fun _ => ?_) (fun z => absurd rfl z)
  exact r_wide (by omega) (by omega) (nx S' h2 K' RX2 RR2)

set_option maxRecDepth 4000 in
theorem lc_leave {base b L i cs ss : Nat} {xs : Nat → Int32} {nm : String} {S : SG} {h : Hp} (K : OKS S) (RX : RelX base h S) (RR : RelR base h S) (hL : L ≤ 3072) (hi : i + 6 ≤ L) (hc : cs + 12 ≤ 601024) (hs : ss + 7141 ≤ 7293034) (nx : ∀ S' h', OKS S' → RelX base h' S' → RelR base h' S' → A base (ΦL base b L xs) (MW nm) (cs + 12) (ss + 7141) h' 1963 (LV base b i) []) : A base (ΦL base b L xs) (MW nm) cs ss h 1531 (LV base b i) [] := by
  obtain ⟨r, S', K', pX, pR⟩ := pr_leave K (xs (i + 1)) (xs (i + 2))
  refine r_aload_n d_W_law_1531 rfl ?_
  refine r_arg (k := 1) d_W_law_1532 d_W_law_1533 d_W_law_1535 d_W_law_1536 d_W_law_1537 (by decide) hL (by omega) rfl rfl ?_
  refine r_arg (k := 2) d_W_law_1538 d_W_law_1539 d_W_law_1541 d_W_law_1542 d_W_law_1543 (by decide) hL (by omega) rfl rfl ?_
  refine r_lX d_W_law_1544 mok_X_leave lk_X_leave ml_W_166 rfl rfl RX RR pX (by decide) (by omega) (by omega) rfl (fun h1 RX1 RR1 => ?_)
  refine r_aload_n d_W_law_1547 rfl ?_
  refine r_arg (k := 1) d_W_law_1548 d_W_law_1549 d_W_law_1551 d_W_law_1552 d_W_law_1553 (by decide) hL (by omega) rfl rfl ?_
  refine r_arg (k := 2) d_W_law_1554 d_W_law_1555 d_W_law_1557 d_W_law_1558 d_W_law_1559 (by decide) hL (by omega) rfl rfl ?_
  refine r_lR d_W_law_1560 mok_R_leave lk_R_leave ml_W_169 rfl rfl RX1 RR1 pR (by decide) (by omega) (by omega) rfl (fun h2 RX2 RR2 => ?_)
  refine r_icmp_eq (tgt := 1963) d_W_law_1563 (by decide) (fun _ => ?_) (fun z => absurd rfl z)
  exact r_wide (by omega) (by omega) (nx S' h2 K' RX2 RR2)

set_option maxRecDepth 4000 in
theorem lc_tape {base b L i cs ss : Nat} {xs : Nat → Int32} {nm : String} {S : SG} {h : Hp} (K : OKS S) (RX : RelX base h S) (RR : RelR base h S) (hL : L ≤ 3072) (hi : i + 6 ≤ L) (hc : cs + 12 ≤ 601024) (hs : ss + 7141 ≤ 7293034) (nx : ∀ S' h', OKS S' → RelX base h' S' → RelR base h' S' → A base (ΦL base b L xs) (MW nm) (cs + 12) (ss + 7141) h' 1963 (LV base b i) []) : A base (ΦL base b L xs) (MW nm) cs ss h 1568 (LV base b i) [] := by
  obtain ⟨r, S', K', pX, pR⟩ := pr_tape K (xs (i + 1)) (xs (i + 2)) (xs (i + 3))
  refine r_aload_n d_W_law_1568 rfl ?_
  refine r_arg (k := 1) d_W_law_1569 d_W_law_1570 d_W_law_1572 d_W_law_1573 d_W_law_1574 (by decide) hL (by omega) rfl rfl ?_
  refine r_arg (k := 2) d_W_law_1575 d_W_law_1576 d_W_law_1578 d_W_law_1579 d_W_law_1580 (by decide) hL (by omega) rfl rfl ?_
  refine r_arg (k := 3) d_W_law_1581 d_W_law_1582 d_W_law_1584 d_W_law_1585 d_W_law_1586 (by decide) hL (by omega) rfl rfl ?_
  refine r_lX d_W_law_1587 mok_X_tape lk_X_tape ml_W_170 rfl rfl RX RR pX (by decide) (by omega) (by omega) rfl (fun h1 RX1 RR1 => ?_)
  refine r_aload_n d_W_law_1590 rfl ?_
  refine r_arg (k := 1) d_W_law_1591 d_W_law_1592 d_W_law_1594 d_W_law_1595 d_W_law_1596 (by decide) hL (by omega) rfl rfl ?_
  refine r_arg (k := 2) d_W_law_1597 d_W_law_1598 d_W_law_1600 d_W_law_1601 d_W_law_1602 (by decide) hL (by omega) rfl rfl ?_
  refine r_arg (k := 3) d_W_law_1603 d_W_law_1604 d_W_law_1606 d_W_law_1607 d_W_law_1608 (by decide) hL (by omega) rfl rfl ?_
  refine r_lR d_W_law_1609 mok_R_tape lk_R_tape ml_W_173 rfl rfl RX1 RR1 pR (by decide) (by omega) (by omega) rfl (fun h2 RX2 RR2 => ?_)
  refine r_icmp_eq (tgt := 1963) d_W_law_1612 (by decide) (fun _ => ?_) (fun z => absurd rfl z)
  exact r_wide (by omega) (by omega) (nx S' h2 K' RX2 RR2)

set_option maxRecDepth 4000 in
theorem lc_keep {base b L i cs ss : Nat} {xs : Nat → Int32} {nm : String} {S : SG} {h : Hp} (K : OKS S) (RX : RelX base h S) (RR : RelR base h S) (hL : L ≤ 3072) (hi : i + 6 ≤ L) (hc : cs + 12 ≤ 601024) (hs : ss + 7141 ≤ 7293034) (nx : ∀ S' h', OKS S' → RelX base h' S' → RelR base h' S' → A base (ΦL base b L xs) (MW nm) (cs + 12) (ss + 7141) h' 1963 (LV base b i) []) : A base (ΦL base b L xs) (MW nm) cs ss h 1617 (LV base b i) [] := by
  obtain ⟨r, S', K', pX, pR⟩ := pr_keep K (xs (i + 1))
  refine r_aload_n d_W_law_1617 rfl ?_
  refine r_arg (k := 1) d_W_law_1618 d_W_law_1619 d_W_law_1621 d_W_law_1622 d_W_law_1623 (by decide) hL (by omega) rfl rfl ?_
  refine r_lX d_W_law_1624 mok_X_keep lk_X_keep ml_W_174 rfl rfl RX RR pX (by decide) (by omega) (by omega) rfl (fun h1 RX1 RR1 => ?_)
  refine r_aload_n d_W_law_1627 rfl ?_
  refine r_arg (k := 1) d_W_law_1628 d_W_law_1629 d_W_law_1631 d_W_law_1632 d_W_law_1633 (by decide) hL (by omega) rfl rfl ?_
  refine r_lR d_W_law_1634 mok_R_keep lk_R_keep ml_W_177 rfl rfl RX1 RR1 pR (by decide) (by omega) (by omega) rfl (fun h2 RX2 RR2 => ?_)
  refine r_icmp_eq (tgt := 1963) d_W_law_1637 (by decide) (fun _ => ?_) (fun z => absurd rfl z)
  exact r_wide (by omega) (by omega) (nx S' h2 K' RX2 RR2)

set_option maxRecDepth 4000 in
theorem lc_back {base b L i cs ss : Nat} {xs : Nat → Int32} {nm : String} {S : SG} {h : Hp} (K : OKS S) (RX : RelX base h S) (RR : RelR base h S) (hL : L ≤ 3072) (hi : i + 6 ≤ L) (hc : cs + 12 ≤ 601024) (hs : ss + 7141 ≤ 7293034) (nx : ∀ S' h', OKS S' → RelX base h' S' → RelR base h' S' → A base (ΦL base b L xs) (MW nm) (cs + 12) (ss + 7141) h' 1963 (LV base b i) []) : A base (ΦL base b L xs) (MW nm) cs ss h 1642 (LV base b i) [] := by
  obtain ⟨r, S', K', pX, pR⟩ := pr_back K (xs (i + 1))
  refine r_aload_n d_W_law_1642 rfl ?_
  refine r_arg (k := 1) d_W_law_1643 d_W_law_1644 d_W_law_1646 d_W_law_1647 d_W_law_1648 (by decide) hL (by omega) rfl rfl ?_
  refine r_lX d_W_law_1649 mok_X_back lk_X_back ml_W_178 rfl rfl RX RR pX (by decide) (by omega) (by omega) rfl (fun h1 RX1 RR1 => ?_)
  refine r_aload_n d_W_law_1652 rfl ?_
  refine r_arg (k := 1) d_W_law_1653 d_W_law_1654 d_W_law_1656 d_W_law_1657 d_W_law_1658 (by decide) hL (by omega) rfl rfl ?_
  refine r_lR d_W_law_1659 mok_R_back lk_R_back ml_W_181 rfl rfl RX1 RR1 pR (by decide) (by omega) (by omega) rfl (fun h2 RX2 RR2 => ?_)
  refine r_icmp_eq (tgt := 1963) d_W_law_1662 (by decide) (fun _ => ?_) (fun z => absurd rfl z)
  exact r_wide (by omega) (by omega) (nx S' h2 K' RX2 RR2)

set_option maxRecDepth 4000 in
theorem lc_toss {base b L i cs ss : Nat} {xs : Nat → Int32} {nm : String} {S : SG} {h : Hp} (K : OKS S) (RX : RelX base h S) (RR : RelR base h S) (hL : L ≤ 3072) (hi : i + 6 ≤ L) (hc : cs + 12 ≤ 601024) (hs : ss + 7141 ≤ 7293034) (nx : ∀ S' h', OKS S' → RelX base h' S' → RelR base h' S' → A base (ΦL base b L xs) (MW nm) (cs + 12) (ss + 7141) h' 1963 (LV base b i) []) : A base (ΦL base b L xs) (MW nm) cs ss h 1667 (LV base b i) [] := by
  obtain ⟨r, S', K', pX, pR⟩ := pr_toss K (xs (i + 1))
  refine r_aload_n d_W_law_1667 rfl ?_
  refine r_arg (k := 1) d_W_law_1668 d_W_law_1669 d_W_law_1671 d_W_law_1672 d_W_law_1673 (by decide) hL (by omega) rfl rfl ?_
  refine r_lX d_W_law_1674 mok_X_toss lk_X_toss ml_W_182 rfl rfl RX RR pX (by decide) (by omega) (by omega) rfl (fun h1 RX1 RR1 => ?_)
  refine r_aload_n d_W_law_1677 rfl ?_
  refine r_arg (k := 1) d_W_law_1678 d_W_law_1679 d_W_law_1681 d_W_law_1682 d_W_law_1683 (by decide) hL (by omega) rfl rfl ?_
  refine r_lR d_W_law_1684 mok_R_toss lk_R_toss ml_W_185 rfl rfl RX1 RR1 pR (by decide) (by omega) (by omega) rfl (fun h2 RX2 RR2 => ?_)
  refine r_icmp_eq (tgt := 1963) d_W_law_1687 (by decide) (fun _ => ?_) (fun z => absurd rfl z)
  exact r_wide (by omega) (by omega) (nx S' h2 K' RX2 RR2)

set_option maxRecDepth 4000 in
theorem lc_clear {base b L i cs ss : Nat} {xs : Nat → Int32} {nm : String} {S : SG} {h : Hp} (K : OKS S) (RX : RelX base h S) (RR : RelR base h S) (hL : L ≤ 3072) (hi : i + 6 ≤ L) (hc : cs + 12 ≤ 601024) (hs : ss + 7141 ≤ 7293034) (nx : ∀ S' h', OKS S' → RelX base h' S' → RelR base h' S' → A base (ΦL base b L xs) (MW nm) (cs + 12) (ss + 7141) h' 1963 (LV base b i) []) : A base (ΦL base b L xs) (MW nm) cs ss h 1692 (LV base b i) [] := by
  obtain ⟨r, S', K', pX, pR⟩ := pr_clear K (xs (i + 1))
  refine r_aload_n d_W_law_1692 rfl ?_
  refine r_arg (k := 1) d_W_law_1693 d_W_law_1694 d_W_law_1696 d_W_law_1697 d_W_law_1698 (by decide) hL (by omega) rfl rfl ?_
  refine r_lX d_W_law_1699 mok_X_clear lk_X_clear ml_W_186 rfl rfl RX RR pX (by decide) (by omega) (by omega) rfl (fun h1 RX1 RR1 => ?_)
  refine r_aload_n d_W_law_1702 rfl ?_
  refine r_arg (k := 1) d_W_law_1703 d_W_law_1704 d_W_law_1706 d_W_law_1707 d_W_law_1708 (by decide) hL (by omega) rfl rfl ?_
  refine r_lR d_W_law_1709 mok_R_clear lk_R_clear ml_W_189 rfl rfl RX1 RR1 pR (by decide) (by omega) (by omega) rfl (fun h2 RX2 RR2 => ?_)
  refine r_icmp_eq (tgt := 1963) d_W_law_1712 (by decide) (fun _ => ?_) (fun z => absurd rfl z)
  exact r_wide (by omega) (by omega) (nx S' h2 K' RX2 RR2)

set_option maxRecDepth 4000 in
theorem lc_put {base b L i cs ss : Nat} {xs : Nat → Int32} {nm : String} {S : SG} {h : Hp} (K : OKS S) (RX : RelX base h S) (RR : RelR base h S) (hL : L ≤ 3072) (hi : i + 6 ≤ L) (hc : cs + 12 ≤ 601024) (hs : ss + 7141 ≤ 7293034) (nx : ∀ S' h', OKS S' → RelX base h' S' → RelR base h' S' → A base (ΦL base b L xs) (MW nm) (cs + 12) (ss + 7141) h' 1963 (LV base b i) []) : A base (ΦL base b L xs) (MW nm) cs ss h 1717 (LV base b i) [] := by
  obtain ⟨r, S', K', pX, pR⟩ := pr_put K (xs (i + 1)) (xs (i + 2)) (((xs (i + 3)).toInt64 <<< ((32 : Int32).toInt64 &&& 63)) ||| ((xs (i + 4)).toInt64 &&& 4294967295))
  refine r_aload_n d_W_law_1717 rfl ?_
  refine r_arg (k := 1) d_W_law_1718 d_W_law_1719 d_W_law_1721 d_W_law_1722 d_W_law_1723 (by decide) hL (by omega) rfl rfl ?_
  refine r_arg (k := 2) d_W_law_1724 d_W_law_1725 d_W_law_1727 d_W_law_1728 d_W_law_1729 (by decide) hL (by omega) rfl rfl ?_
  refine r_arg (k := 3) d_W_law_1730 d_W_law_1731 d_W_law_1733 d_W_law_1734 d_W_law_1735 (by decide) hL (by omega) rfl rfl ?_
  refine r_i2l d_W_law_1736 ?_
  refine r_bipush d_W_law_1737 kb_32 ?_
  refine r_lshl d_W_law_1739 ?_
  refine r_arg (k := 4) d_W_law_1740 d_W_law_1741 d_W_law_1743 d_W_law_1744 d_W_law_1745 (by decide) hL (by omega) rfl rfl ?_
  refine r_i2l d_W_law_1746 ?_
  refine r_ldc2 d_W_law_1747 kc_W_190 ?_
  refine r_land d_W_law_1750 ?_
  refine r_lor d_W_law_1751 ?_
  refine r_lX d_W_law_1752 mok_X_put lk_X_put ml_W_192 rfl rfl RX RR pX (by decide) (by omega) (by omega) rfl (fun h1 RX1 RR1 => ?_)
  refine r_aload_n d_W_law_1755 rfl ?_
  refine r_arg (k := 1) d_W_law_1756 d_W_law_1757 d_W_law_1759 d_W_law_1760 d_W_law_1761 (by decide) hL (by omega) rfl rfl ?_
  refine r_arg (k := 2) d_W_law_1762 d_W_law_1763 d_W_law_1765 d_W_law_1766 d_W_law_1767 (by decide) hL (by omega) rfl rfl ?_
  refine r_arg (k := 3) d_W_law_1768 d_W_law_1769 d_W_law_1771 d_W_law_1772 d_W_law_1773 (by decide) hL (by omega) rfl rfl ?_
  refine r_i2l d_W_law_1774 ?_
  refine r_bipush d_W_law_1775 kb_32 ?_
  refine r_lshl d_W_law_1777 ?_
  refine r_arg (k := 4) d_W_law_1778 d_W_law_1779 d_W_law_1781 d_W_law_1782 d_W_law_1783 (by decide) hL (by omega) rfl rfl ?_
  refine r_i2l d_W_law_1784 ?_
  refine r_ldc2 d_W_law_1785 kc_W_190 ?_
  refine r_land d_W_law_1788 ?_
  refine r_lor d_W_law_1789 ?_
  refine r_lR d_W_law_1790 mok_R_put lk_R_put ml_W_196 rfl rfl RX1 RR1 pR (by decide) (by omega) (by omega) rfl (fun h2 RX2 RR2 => ?_)
  refine r_icmp_eq (tgt := 1963) d_W_law_1793 (by decide) (fun _ => ?_) (fun z => absurd rfl z)
  exact r_wide (by omega) (by omega) (nx S' h2 K' RX2 RR2)

set_option maxRecDepth 4000 in
theorem lc_copy {base b L i cs ss : Nat} {xs : Nat → Int32} {nm : String} {S : SG} {h : Hp} (K : OKS S) (RX : RelX base h S) (RR : RelR base h S) (hL : L ≤ 3072) (hi : i + 6 ≤ L) (hc : cs + 12 ≤ 601024) (hs : ss + 7141 ≤ 7293034) (nx : ∀ S' h', OKS S' → RelX base h' S' → RelR base h' S' → A base (ΦL base b L xs) (MW nm) (cs + 12) (ss + 7141) h' 1963 (LV base b i) []) : A base (ΦL base b L xs) (MW nm) cs ss h 1865 (LV base b i) [] := by
  obtain ⟨r, S', K', pX, pR⟩ := pr_copy K (xs (i + 1)) (xs (i + 2)) (xs (i + 3)) (xs (i + 4)) (xs (i + 5))
  refine r_aload_n d_W_law_1865 rfl ?_
  refine r_arg (k := 1) d_W_law_1866 d_W_law_1867 d_W_law_1869 d_W_law_1870 d_W_law_1871 (by decide) hL (by omega) rfl rfl ?_
  refine r_arg (k := 2) d_W_law_1872 d_W_law_1873 d_W_law_1875 d_W_law_1876 d_W_law_1877 (by decide) hL (by omega) rfl rfl ?_
  refine r_arg (k := 3) d_W_law_1878 d_W_law_1879 d_W_law_1881 d_W_law_1882 d_W_law_1883 (by decide) hL (by omega) rfl rfl ?_
  refine r_arg (k := 4) d_W_law_1884 d_W_law_1885 d_W_law_1887 d_W_law_1888 d_W_law_1889 (by decide) hL (by omega) rfl rfl ?_
  refine r_arg (k := 5) d_W_law_1890 d_W_law_1891 d_W_law_1893 d_W_law_1894 d_W_law_1895 (by decide) hL (by omega) rfl rfl ?_
  refine r_lX d_W_law_1896 mok_X_copy lk_X_copy ml_W_206 rfl rfl RX RR pX (by decide) (by omega) (by omega) rfl (fun h1 RX1 RR1 => ?_)
  refine r_aload_n d_W_law_1899 rfl ?_
  refine r_arg (k := 1) d_W_law_1900 d_W_law_1901 d_W_law_1903 d_W_law_1904 d_W_law_1905 (by decide) hL (by omega) rfl rfl ?_
  refine r_arg (k := 2) d_W_law_1906 d_W_law_1907 d_W_law_1909 d_W_law_1910 d_W_law_1911 (by decide) hL (by omega) rfl rfl ?_
  refine r_arg (k := 3) d_W_law_1912 d_W_law_1913 d_W_law_1915 d_W_law_1916 d_W_law_1917 (by decide) hL (by omega) rfl rfl ?_
  refine r_arg (k := 4) d_W_law_1918 d_W_law_1919 d_W_law_1921 d_W_law_1922 d_W_law_1923 (by decide) hL (by omega) rfl rfl ?_
  refine r_arg (k := 5) d_W_law_1924 d_W_law_1925 d_W_law_1927 d_W_law_1928 d_W_law_1929 (by decide) hL (by omega) rfl rfl ?_
  refine r_lR d_W_law_1930 mok_R_copy lk_R_copy ml_W_209 rfl rfl RX1 RR1 pR (by decide) (by omega) (by omega) rfl (fun h2 RX2 RR2 => ?_)
  refine r_icmp_eq (tgt := 1963) d_W_law_1933 (by decide) (fun _ => ?_) (fun z => absurd rfl z)
  exact r_wide (by omega) (by omega) (nx S' h2 K' RX2 RR2)

set_option maxRecDepth 4000 in
theorem lc_count {base b L i cs ss : Nat} {xs : Nat → Int32} {nm : String} {S : SG} {h : Hp} (K : OKS S) (RX : RelX base h S) (RR : RelR base h S) (hL : L ≤ 3072) (hi : i + 6 ≤ L) (hc : cs + 12 ≤ 601024) (hs : ss + 7141 ≤ 7293034) (nx : ∀ S' h', OKS S' → RelX base h' S' → RelR base h' S' → A base (ΦL base b L xs) (MW nm) (cs + 12) (ss + 7141) h' 1963 (LV base b i) []) : A base (ΦL base b L xs) (MW nm) cs ss h 1938 (LV base b i) [] := by
  obtain ⟨r, S', K', pX, pR⟩ := pr_count K (xs (i + 1))
  refine r_aload_n d_W_law_1938 rfl ?_
  refine r_arg (k := 1) d_W_law_1939 d_W_law_1940 d_W_law_1942 d_W_law_1943 d_W_law_1944 (by decide) hL (by omega) rfl rfl ?_
  refine r_lX d_W_law_1945 mok_X_count lk_X_count ml_W_210 rfl rfl RX RR pX (by decide) (by omega) (by omega) rfl (fun h1 RX1 RR1 => ?_)
  refine r_aload_n d_W_law_1948 rfl ?_
  refine r_arg (k := 1) d_W_law_1949 d_W_law_1950 d_W_law_1952 d_W_law_1953 d_W_law_1954 (by decide) hL (by omega) rfl rfl ?_
  refine r_lR d_W_law_1955 mok_R_count lk_R_count ml_W_213 rfl rfl RX1 RR1 pR (by decide) (by omega) (by omega) rfl (fun h2 RX2 RR2 => ?_)
  refine r_icmp_eq (tgt := 1963) d_W_law_1958 (by decide) (fun _ => ?_) (fun z => absurd rfl z)
  exact r_wide (by omega) (by omega) (nx S' h2 K' RX2 RR2)
