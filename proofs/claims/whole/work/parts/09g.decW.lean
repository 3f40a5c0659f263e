theorem d_W_law_0 : decode M_W_law.2.1 0 = .ok (.new 8, 3) := by decide +kernel
theorem d_W_law_3 : decode M_W_law.2.1 3 = .ok (.dup, 1) := by decide +kernel
theorem d_W_law_4 : decode M_W_law.2.1 4 = .ok (.invokespecial 17, 3) := by decide +kernel
theorem d_W_law_7 : decode M_W_law.2.1 7 = .ok (.astore_n 1, 1) := by decide +kernel
theorem d_W_law_8 : decode M_W_law.2.1 8 = .ok (.new 18, 3) := by decide +kernel
theorem d_W_law_11 : decode M_W_law.2.1 11 = .ok (.dup, 1) := by decide +kernel
theorem d_W_law_12 : decode M_W_law.2.1 12 = .ok (.invokespecial 20, 3) := by decide +kernel
theorem d_W_law_15 : decode M_W_law.2.1 15 = .ok (.astore_n 2, 1) := by decide +kernel
theorem d_W_law_16 : decode M_W_law.2.1 16 = .ok (.iconst 1, 1) := by decide +kernel
theorem d_W_law_17 : decode M_W_law.2.1 17 = .ok (.newarray .long, 2) := by decide +kernel
theorem d_W_law_19 : decode M_W_law.2.1 19 = .ok (.astore_n 3, 1) := by decide +kernel
theorem d_W_law_20 : decode M_W_law.2.1 20 = .ok (.iconst 0, 1) := by decide +kernel
theorem d_W_law_21 : decode M_W_law.2.1 21 = .ok (.istore 4, 2) := by decide +kernel
theorem d_W_law_23 : decode M_W_law.2.1 23 = .ok (.iload 4, 2) := by decide +kernel
theorem d_W_law_25 : decode M_W_law.2.1 25 = .ok (.aload_n 0, 1) := by decide +kernel
theorem d_W_law_26 : decode M_W_law.2.1 26 = .ok (.arraylength, 1) := by decide +kernel
theorem d_W_law_27 : decode M_W_law.2.1 27 = .ok (.bipush 6, 2) := by decide +kernel
theorem d_W_law_29 : decode M_W_law.2.1 29 = .ok (.isub, 1) := by decide +kernel
theorem d_W_law_30 : decode M_W_law.2.1 30 = .ok (.if_icmp .gt 1939, 3) := by decide +kernel
theorem d_W_law_33 : decode M_W_law.2.1 33 = .ok (.aload_n 0, 1) := by decide +kernel
theorem d_W_law_34 : decode M_W_law.2.1 34 = .ok (.iload 4, 2) := by decide +kernel
theorem d_W_law_36 : decode M_W_law.2.1 36 = .ok (.iaload, 1) := by decide +kernel
theorem d_W_law_37 : decode M_W_law.2.1 37 = .ok (.bipush 63, 2) := by decide +kernel
theorem d_W_law_39 : decode M_W_law.2.1 39 = .ok (.iand, 1) := by decide +kernel
theorem d_W_law_40 : decode M_W_law.2.1 40 = .ok (.tableswitch 1923 0 44 #[196, 245, 282, 355, 428, 453, 478, 515, 552, 577, 590, 627, 664, 701, 738, 763, 812, 849, 874, 923, 960, 1033, 1058, 1107, 1144, 1169, 1182, 1219, 1244, 1281, 1354, 1367, 1404, 1429, 1454, 1491, 1528, 1577, 1602, 1627, 1652, 1677, 1758, 1825, 1898], 196) := by decide +kernel
theorem d_W_law_236 : decode M_W_law.2.1 236 = .ok (.aload_n 1, 1) := by decide +kernel
theorem d_W_law_237 : decode M_W_law.2.1 237 = .ok (.aload_n 0, 1) := by decide +kernel
theorem d_W_law_238 : decode M_W_law.2.1 238 = .ok (.iload 4, 2) := by decide +kernel
theorem d_W_law_240 : decode M_W_law.2.1 240 = .ok (.iconst 1, 1) := by decide +kernel
theorem d_W_law_241 : decode M_W_law.2.1 241 = .ok (.iadd, 1) := by decide +kernel
theorem d_W_law_242 : decode M_W_law.2.1 242 = .ok (.iaload, 1) := by decide +kernel
theorem d_W_law_243 : decode M_W_law.2.1 243 = .ok (.aload_n 0, 1) := by decide +kernel
theorem d_W_law_244 : decode M_W_law.2.1 244 = .ok (.iload 4, 2) := by decide +kernel
theorem d_W_law_246 : decode M_W_law.2.1 246 = .ok (.iconst 2, 1) := by decide +kernel
theorem d_W_law_247 : decode M_W_law.2.1 247 = .ok (.iadd, 1) := by decide +kernel
theorem d_W_law_248 : decode M_W_law.2.1 248 = .ok (.iaload, 1) := by decide +kernel
theorem d_W_law_249 : decode M_W_law.2.1 249 = .ok (.aload_n 0, 1) := by decide +kernel
theorem d_W_law_250 : decode M_W_law.2.1 250 = .ok (.iload 4, 2) := by decide +kernel
theorem d_W_law_252 : decode M_W_law.2.1 252 = .ok (.iconst 3, 1) := by decide +kernel
theorem d_W_law_253 : decode M_W_law.2.1 253 = .ok (.iadd, 1) := by decide +kernel
theorem d_W_law_254 : decode M_W_law.2.1 254 = .ok (.iaload, 1) := by decide +kernel
theorem d_W_law_255 : decode M_W_law.2.1 255 = .ok (.invokevirtual 21, 3) := by decide +kernel
theorem d_W_law_258 : decode M_W_law.2.1 258 = .ok (.aload_n 2, 1) := by decide +kernel
theorem d_W_law_259 : decode M_W_law.2.1 259 = .ok (.aload_n 0, 1) := by decide +kernel
theorem d_W_law_260 : decode M_W_law.2.1 260 = .ok (.iload 4, 2) := by decide +kernel
theorem d_W_law_262 : decode M_W_law.2.1 262 = .ok (.iconst 1, 1) := by decide +kernel
theorem d_W_law_263 : decode M_W_law.2.1 263 = .ok (.iadd, 1) := by decide +kernel
theorem d_W_law_264 : decode M_W_law.2.1 264 = .ok (.iaload, 1) := by decide +kernel
theorem d_W_law_265 : decode M_W_law.2.1 265 = .ok (.aload_n 0, 1) := by decide +kernel
theorem d_W_law_266 : decode M_W_law.2.1 266 = .ok (.iload 4, 2) := by decide +kernel
theorem d_W_law_268 : decode M_W_law.2.1 268 = .ok (.iconst 2, 1) := by decide +kernel
theorem d_W_law_269 : decode M_W_law.2.1 269 = .ok (.iadd, 1) := by decide +kernel
theorem d_W_law_270 : decode M_W_law.2.1 270 = .ok (.iaload, 1) := by decide +kernel
theorem d_W_law_271 : decode M_W_law.2.1 271 = .ok (.aload_n 0, 1) := by decide +kernel
theorem d_W_law_272 : decode M_W_law.2.1 272 = .ok (.iload 4, 2) := by decide +kernel
theorem d_W_law_274 : decode M_W_law.2.1 274 = .ok (.iconst 3, 1) := by decide +kernel
theorem d_W_law_275 : decode M_W_law.2.1 275 = .ok (.iadd, 1) := by decide +kernel
theorem d_W_law_276 : decode M_W_law.2.1 276 = .ok (.iaload, 1) := by decide +kernel
theorem d_W_law_277 : decode M_W_law.2.1 277 = .ok (.invokevirtual 25, 3) := by decide +kernel
theorem d_W_law_280 : decode M_W_law.2.1 280 = .ok (.if_icmp .eq 1683, 3) := by decide +kernel
theorem d_W_law_283 : decode M_W_law.2.1 283 = .ok (.iconst 0, 1) := by decide +kernel
theorem d_W_law_284 : decode M_W_law.2.1 284 = .ok (.ireturn, 1) := by decide +kernel
theorem d_W_law_285 : decode M_W_law.2.1 285 = .ok (.aload_n 1, 1) := by decide +kernel
theorem d_W_law_286 : decode M_W_law.2.1 286 = .ok (.aload_n 0, 1) := by decide +kernel
theorem d_W_law_287 : decode M_W_law.2.1 287 = .ok (.iload 4, 2) := by decide +kernel
theorem d_W_law_289 : decode M_W_law.2.1 289 = .ok (.iconst 1, 1) := by decide +kernel
theorem d_W_law_290 : decode M_W_law.2.1 290 = .ok (.iadd, 1) := by decide +kernel
theorem d_W_law_291 : decode M_W_law.2.1 291 = .ok (.iaload, 1) := by decide +kernel
theorem d_W_law_292 : decode M_W_law.2.1 292 = .ok (.aload_n 0, 1) := by decide +kernel
theorem d_W_law_293 : decode M_W_law.2.1 293 = .ok (.iload 4, 2) := by decide +kernel
theorem d_W_law_295 : decode M_W_law.2.1 295 = .ok (.iconst 2, 1) := by decide +kernel
theorem d_W_law_296 : decode M_W_law.2.1 296 = .ok (.iadd, 1) := by decide +kernel
theorem d_W_law_297 : decode M_W_law.2.1 297 = .ok (.iaload, 1) := by decide +kernel
theorem d_W_law_298 : decode M_W_law.2.1 298 = .ok (.invokevirtual 26, 3) := by decide +kernel
theorem d_W_law_301 : decode M_W_law.2.1 301 = .ok (.aload_n 2, 1) := by decide +kernel
theorem d_W_law_302 : decode M_W_law.2.1 302 = .ok (.aload_n 0, 1) := by decide +kernel
theorem d_W_law_303 : decode M_W_law.2.1 303 = .ok (.iload 4, 2) := by decide +kernel
theorem d_W_law_305 : decode M_W_law.2.1 305 = .ok (.iconst 1, 1) := by decide +kernel
theorem d_W_law_306 : decode M_W_law.2.1 306 = .ok (.iadd, 1) := by decide +kernel
theorem d_W_law_307 : decode M_W_law.2.1 307 = .ok (.iaload, 1) := by decide +kernel
theorem d_W_law_308 : decode M_W_law.2.1 308 = .ok (.aload_n 0, 1) := by decide +kernel
theorem d_W_law_309 : decode M_W_law.2.1 309 = .ok (.iload 4, 2) := by decide +kernel
theorem d_W_law_311 : decode M_W_law.2.1 311 = .ok (.iconst 2, 1) := by decide +kernel
theorem d_W_law_312 : decode M_W_law.2.1 312 = .ok (.iadd, 1) := by decide +kernel
theorem d_W_law_313 : decode M_W_law.2.1 313 = .ok (.iaload, 1) := by decide +kernel
theorem d_W_law_314 : decode M_W_law.2.1 314 = .ok (.invokevirtual 30, 3) := by decide +kernel
theorem d_W_law_317 : decode M_W_law.2.1 317 = .ok (.if_icmp .eq 1646, 3) := by decide +kernel
theorem d_W_law_320 : decode M_W_law.2.1 320 = .ok (.iconst 0, 1) := by decide +kernel
theorem d_W_law_321 : decode M_W_law.2.1 321 = .ok (.ireturn, 1) := by decide +kernel
theorem d_W_law_322 : decode M_W_law.2.1 322 = .ok (.aload_n 1, 1) := by decide +kernel
theorem d_W_law_323 : decode M_W_law.2.1 323 = .ok (.aload_n 0, 1) := by decide +kernel
theorem d_W_law_324 : decode M_W_law.2.1 324 = .ok (.iload 4, 2) := by decide +kernel
theorem d_W_law_326 : decode M_W_law.2.1 326 = .ok (.iconst 1, 1) := by decide +kernel
theorem d_W_law_327 : decode M_W_law.2.1 327 = .ok (.iadd, 1) := by decide +kernel
theorem d_W_law_328 : decode M_W_law.2.1 328 = .ok (.iaload, 1) := by decide +kernel
theorem d_W_law_329 : decode M_W_law.2.1 329 = .ok (.aload_n 0, 1) := by decide +kernel
theorem d_W_law_330 : decode M_W_law.2.1 330 = .ok (.iload 4, 2) := by decide +kernel
theorem d_W_law_332 : decode M_W_law.2.1 332 = .ok (.iconst 2, 1) := by decide +kernel
theorem d_W_law_333 : decode M_W_law.2.1 333 = .ok (.iadd, 1) := by decide +kernel
theorem d_W_law_334 : decode M_W_law.2.1 334 = .ok (.iaload, 1) := by decide +kernel
theorem d_W_law_335 : decode M_W_law.2.1 335 = .ok (.aload_n 0, 1) := by decide +kernel
theorem d_W_law_336 : decode M_W_law.2.1 336 = .ok (.iload 4, 2) := by decide +kernel
theorem d_W_law_338 : decode M_W_law.2.1 338 = .ok (.iconst 3, 1) := by decide +kernel
theorem d_W_law_339 : decode M_W_law.2.1 339 = .ok (.iadd, 1) := by decide +kernel
theorem d_W_law_340 : decode M_W_law.2.1 340 = .ok (.iaload, 1) := by decide +kernel
theorem d_W_law_341 : decode M_W_law.2.1 341 = .ok (.aload_n 0, 1) := by decide +kernel
theorem d_W_law_342 : decode M_W_law.2.1 342 = .ok (.iload 4, 2) := by decide +kernel
theorem d_W_law_344 : decode M_W_law.2.1 344 = .ok (.iconst 4, 1) := by decide +kernel
theorem d_W_law_345 : decode M_W_law.2.1 345 = .ok (.iadd, 1) := by decide +kernel
theorem d_W_law_346 : decode M_W_law.2.1 346 = .ok (.iaload, 1) := by decide +kernel
theorem d_W_law_347 : decode M_W_law.2.1 347 = .ok (.aload_n 0, 1) := by decide +kernel
theorem d_W_law_348 : decode M_W_law.2.1 348 = .ok (.iload 4, 2) := by decide +kernel
theorem d_W_law_350 : decode M_W_law.2.1 350 = .ok (.iconst 5, 1) := by decide +kernel
theorem d_W_law_351 : decode M_W_law.2.1 351 = .ok (.iadd, 1) := by decide +kernel
theorem d_W_law_352 : decode M_W_law.2.1 352 = .ok (.iaload, 1) := by decide +kernel
theorem d_W_law_353 : decode M_W_law.2.1 353 = .ok (.invokevirtual 31, 3) := by decide +kernel
theorem d_W_law_356 : decode M_W_law.2.1 356 = .ok (.aload_n 2, 1) := by decide +kernel
theorem d_W_law_357 : decode M_W_law.2.1 357 = .ok (.aload_n 0, 1) := by decide +kernel
theorem d_W_law_358 : decode M_W_law.2.1 358 = .ok (.iload 4, 2) := by decide +kernel
theorem d_W_law_360 : decode M_W_law.2.1 360 = .ok (.iconst 1, 1) := by decide +kernel
theorem d_W_law_361 : decode M_W_law.2.1 361 = .ok (.iadd, 1) := by decide +kernel
theorem d_W_law_362 : decode M_W_law.2.1 362 = .ok (.iaload, 1) := by decide +kernel
theorem d_W_law_363 : decode M_W_law.2.1 363 = .ok (.aload_n 0, 1) := by decide +kernel
theorem d_W_law_364 : decode M_W_law.2.1 364 = .ok (.iload 4, 2) := by decide +kernel
theorem d_W_law_366 : decode M_W_law.2.1 366 = .ok (.iconst 2, 1) := by decide +kernel
theorem d_W_law_367 : decode M_W_law.2.1 367 = .ok (.iadd, 1) := by decide +kernel
theorem d_W_law_368 : decode M_W_law.2.1 368 = .ok (.iaload, 1) := by decide +kernel
theorem d_W_law_369 : decode M_W_law.2.1 369 = .ok (.aload_n 0, 1) := by decide +kernel
theorem d_W_law_370 : decode M_W_law.2.1 370 = .ok (.iload 4, 2) := by decide +kernel
theorem d_W_law_372 : decode M_W_law.2.1 372 = .ok (.iconst 3, 1) := by decide +kernel
theorem d_W_law_373 : decode M_W_law.2.1 373 = .ok (.iadd, 1) := by decide +kernel
theorem d_W_law_374 : decode M_W_law.2.1 374 = .ok (.iaload, 1) := by decide +kernel
theorem d_W_law_375 : decode M_W_law.2.1 375 = .ok (.aload_n 0, 1) := by decide +kernel
theorem d_W_law_376 : decode M_W_law.2.1 376 = .ok (.iload 4, 2) := by decide +kernel
theorem d_W_law_378 : decode M_W_law.2.1 378 = .ok (.iconst 4, 1) := by decide +kernel
theorem d_W_law_379 : decode M_W_law.2.1 379 = .ok (.iadd, 1) := by decide +kernel
theorem d_W_law_380 : decode M_W_law.2.1 380 = .ok (.iaload, 1) := by decide +kernel
theorem d_W_law_381 : decode M_W_law.2.1 381 = .ok (.aload_n 0, 1) := by decide +kernel
theorem d_W_law_382 : decode M_W_law.2.1 382 = .ok (.iload 4, 2) := by decide +kernel
theorem d_W_law_384 : decode M_W_law.2.1 384 = .ok (.iconst 5, 1) := by decide +kernel
theorem d_W_law_385 : decode M_W_law.2.1 385 = .ok (.iadd, 1) := by decide +kernel
theorem d_W_law_386 : decode M_W_law.2.1 386 = .ok (.iaload, 1) := by decide +kernel
theorem d_W_law_387 : decode M_W_law.2.1 387 = .ok (.invokevirtual 35, 3) := by decide +kernel
theorem d_W_law_390 : decode M_W_law.2.1 390 = .ok (.if_icmp .eq 1573, 3) := by decide +kernel
theorem d_W_law_393 : decode M_W_law.2.1 393 = .ok (.iconst 0, 1) := by decide +kernel
theorem d_W_law_394 : decode M_W_law.2.1 394 = .ok (.ireturn, 1) := by decide +kernel
theorem d_W_law_395 : decode M_W_law.2.1 395 = .ok (.aload_n 1, 1) := by decide +kernel
theorem d_W_law_396 : decode M_W_law.2.1 396 = .ok (.aload_n 0, 1) := by decide +kernel
theorem d_W_law_397 : decode M_W_law.2.1 397 = .ok (.iload 4, 2) := by decide +kernel
theorem d_W_law_399 : decode M_W_law.2.1 399 = .ok (.iconst 1, 1) := by decide +kernel
theorem d_W_law_400 : decode M_W_law.2.1 400 = .ok (.iadd, 1) := by decide +kernel
theorem d_W_law_401 : decode M_W_law.2.1 401 = .ok (.iaload, 1) := by decide +kernel
theorem d_W_law_402 : decode M_W_law.2.1 402 = .ok (.aload_n 0, 1) := by decide +kernel
theorem d_W_law_403 : decode M_W_law.2.1 403 = .ok (.iload 4, 2) := by decide +kernel
theorem d_W_law_405 : decode M_W_law.2.1 405 = .ok (.iconst 2, 1) := by decide +kernel
theorem d_W_law_406 : decode M_W_law.2.1 406 = .ok (.iadd, 1) := by decide +kernel
theorem d_W_law_407 : decode M_W_law.2.1 407 = .ok (.iaload, 1) := by decide +kernel
theorem d_W_law_408 : decode M_W_law.2.1 408 = .ok (.aload_n 0, 1) := by decide +kernel
theorem d_W_law_409 : decode M_W_law.2.1 409 = .ok (.iload 4, 2) := by decide +kernel
theorem d_W_law_411 : decode M_W_law.2.1 411 = .ok (.iconst 3, 1) := by decide +kernel
theorem d_W_law_412 : decode M_W_law.2.1 412 = .ok (.iadd, 1) := by decide +kernel
theorem d_W_law_413 : decode M_W_law.2.1 413 = .ok (.iaload, 1) := by decide +kernel
theorem d_W_law_414 : decode M_W_law.2.1 414 = .ok (.aload_n 0, 1) := by decide +kernel
theorem d_W_law_415 : decode M_W_law.2.1 415 = .ok (.iload 4, 2) := by decide +kernel
theorem d_W_law_417 : decode M_W_law.2.1 417 = .ok (.iconst 4, 1) := by decide +kernel
theorem d_W_law_418 : decode M_W_law.2.1 418 = .ok (.iadd, 1) := by decide +kernel
theorem d_W_law_419 : decode M_W_law.2.1 419 = .ok (.iaload, 1) := by decide +kernel
theorem d_W_law_420 : decode M_W_law.2.1 420 = .ok (.aload_n 0, 1) := by decide +kernel
theorem d_W_law_421 : decode M_W_law.2.1 421 = .ok (.iload 4, 2) := by decide +kernel
theorem d_W_law_423 : decode M_W_law.2.1 423 = .ok (.iconst 5, 1) := by decide +kernel
theorem d_W_law_424 : decode M_W_law.2.1 424 = .ok (.iadd, 1) := by decide +kernel
theorem d_W_law_425 : decode M_W_law.2.1 425 = .ok (.iaload, 1) := by decide +kernel
theorem d_W_law_426 : decode M_W_law.2.1 426 = .ok (.invokevirtual 36, 3) := by decide +kernel
theorem d_W_law_429 : decode M_W_law.2.1 429 = .ok (.aload_n 2, 1) := by decide +kernel
theorem d_W_law_430 : decode M_W_law.2.1 430 = .ok (.aload_n 0, 1) := by decide +kernel
theorem d_W_law_431 : decode M_W_law.2.1 431 = .ok (.iload 4, 2) := by decide +kernel
theorem d_W_law_433 : decode M_W_law.2.1 433 = .ok (.iconst 1, 1) := by decide +kernel
theorem d_W_law_434 : decode M_W_law.2.1 434 = .ok (.iadd, 1) := by decide +kernel
theorem d_W_law_435 : decode M_W_law.2.1 435 = .ok (.iaload, 1) := by decide +kernel
theorem d_W_law_436 : decode M_W_law.2.1 436 = .ok (.aload_n 0, 1) := by decide +kernel
theorem d_W_law_437 : decode M_W_law.2.1 437 = .ok (.iload 4, 2) := by decide +kernel
theorem d_W_law_439 : decode M_W_law.2.1 439 = .ok (.iconst 2, 1) := by decide +kernel
theorem d_W_law_440 : decode M_W_law.2.1 440 = .ok (.iadd, 1) := by decide +kernel
theorem d_W_law_441 : decode M_W_law.2.1 441 = .ok (.iaload, 1) := by decide +kernel
theorem d_W_law_442 : decode M_W_law.2.1 442 = .ok (.aload_n 0, 1) := by decide +kernel
theorem d_W_law_443 : decode M_W_law.2.1 443 = .ok (.iload 4, 2) := by decide +kernel
theorem d_W_law_445 : decode M_W_law.2.1 445 = .ok (.iconst 3, 1) := by decide +kernel
theorem d_W_law_446 : decode M_W_law.2.1 446 = .ok (.iadd, 1) := by decide +kernel
theorem d_W_law_447 : decode M_W_law.2.1 447 = .ok (.iaload, 1) := by decide +kernel
theorem d_W_law_448 : decode M_W_law.2.1 448 = .ok (.aload_n 0, 1) := by decide +kernel
theorem d_W_law_449 : decode M_W_law.2.1 449 = .ok (.iload 4, 2) := by decide +kernel
theorem d_W_law_451 : decode M_W_law.2.1 451 = .ok (.iconst 4, 1) := by decide +kernel
theorem d_W_law_452 : decode M_W_law.2.1 452 = .ok (.iadd, 1) := by decide +kernel
theorem d_W_law_453 : decode M_W_law.2.1 453 = .ok (.iaload, 1) := by decide +kernel
theorem d_W_law_454 : decode M_W_law.2.1 454 = .ok (.aload_n 0, 1) := by decide +kernel
theorem d_W_law_455 : decode M_W_law.2.1 455 = .ok (.iload 4, 2) := by decide +kernel
theorem d_W_law_457 : decode M_W_law.2.1 457 = .ok (.iconst 5, 1) := by decide +kernel
theorem d_W_law_458 : decode M_W_law.2.1 458 = .ok (.iadd, 1) := by decide +kernel
theorem d_W_law_459 : decode M_W_law.2.1 459 = .ok (.iaload, 1) := by decide +kernel
theorem d_W_law_460 : decode M_W_law.2.1 460 = .ok (.invokevirtual 39, 3) := by decide +kernel
theorem d_W_law_463 : decode M_W_law.2.1 463 = .ok (.if_icmp .eq 1500, 3) := by decide +kernel
theorem d_W_law_466 : decode M_W_law.2.1 466 = .ok (.iconst 0, 1) := by decide +kernel
theorem d_W_law_467 : decode M_W_law.2.1 467 = .ok (.ireturn, 1) := by decide +kernel
theorem d_W_law_468 : decode M_W_law.2.1 468 = .ok (.aload_n 1, 1) := by decide +kernel
theorem d_W_law_469 : decode M_W_law.2.1 469 = .ok (.aload_n 0, 1) := by decide +kernel
theorem d_W_law_470 : decode M_W_law.2.1 470 = .ok (.iload 4, 2) := by decide +kernel
theorem d_W_law_472 : decode M_W_law.2.1 472 = .ok (.iconst 1, 1) := by decide +kernel
theorem d_W_law_473 : decode M_W_law.2.1 473 = .ok (.iadd, 1) := by decide +kernel
theorem d_W_law_474 : decode M_W_law.2.1 474 = .ok (.iaload, 1) := by decide +kernel
theorem d_W_law_475 : decode M_W_law.2.1 475 = .ok (.invokevirtual 40, 3) := by decide +kernel
theorem d_W_law_478 : decode M_W_law.2.1 478 = .ok (.aload_n 2, 1) := by decide +kernel
theorem d_W_law_479 : decode M_W_law.2.1 479 = .ok (.aload_n 0, 1) := by decide +kernel
theorem d_W_law_480 : decode M_W_law.2.1 480 = .ok (.iload 4, 2) := by decide +kernel
theorem d_W_law_482 : decode M_W_law.2.1 482 = .ok (.iconst 1, 1) := by decide +kernel
theorem d_W_law_483 : decode M_W_law.2.1 483 = .ok (.iadd, 1) := by decide +kernel
theorem d_W_law_484 : decode M_W_law.2.1 484 = .ok (.iaload, 1) := by decide +kernel
theorem d_W_law_485 : decode M_W_law.2.1 485 = .ok (.invokevirtual 44, 3) := by decide +kernel
theorem d_W_law_488 : decode M_W_law.2.1 488 = .ok (.if_icmp .eq 1475, 3) := by decide +kernel
theorem d_W_law_491 : decode M_W_law.2.1 491 = .ok (.iconst 0, 1) := by decide +kernel
theorem d_W_law_492 : decode M_W_law.2.1 492 = .ok (.ireturn, 1) := by decide +kernel
theorem d_W_law_493 : decode M_W_law.2.1 493 = .ok (.aload_n 1, 1) := by decide +kernel
theorem d_W_law_494 : decode M_W_law.2.1 494 = .ok (.aload_n 0, 1) := by decide +kernel
theorem d_W_law_495 : decode M_W_law.2.1 495 = .ok (.iload 4, 2) := by decide +kernel
theorem d_W_law_497 : decode M_W_law.2.1 497 = .ok (.iconst 1, 1) := by decide +kernel
theorem d_W_law_498 : decode M_W_law.2.1 498 = .ok (.iadd, 1) := by decide +kernel
theorem d_W_law_499 : decode M_W_law.2.1 499 = .ok (.iaload, 1) := by decide +kernel
theorem d_W_law_500 : decode M_W_law.2.1 500 = .ok (.invokevirtual 45, 3) := by decide +kernel
theorem d_W_law_503 : decode M_W_law.2.1 503 = .ok (.aload_n 2, 1) := by decide +kernel
theorem d_W_law_504 : decode M_W_law.2.1 504 = .ok (.aload_n 0, 1) := by decide +kernel
theorem d_W_law_505 : decode M_W_law.2.1 505 = .ok (.iload 4, 2) := by decide +kernel
theorem d_W_law_507 : decode M_W_law.2.1 507 = .ok (.iconst 1, 1) := by decide +kernel
theorem d_W_law_508 : decode M_W_law.2.1 508 = .ok (.iadd, 1) := by decide +kernel
theorem d_W_law_509 : decode M_W_law.2.1 509 = .ok (.iaload, 1) := by decide +kernel
theorem d_W_law_510 : decode M_W_law.2.1 510 = .ok (.invokevirtual 48, 3) := by decide +kernel
theorem d_W_law_513 : decode M_W_law.2.1 513 = .ok (.if_icmp .eq 1450, 3) := by decide +kernel
theorem d_W_law_516 : decode M_W_law.2.1 516 = .ok (.iconst 0, 1) := by decide +kernel
theorem d_W_law_517 : decode M_W_law.2.1 517 = .ok (.ireturn, 1) := by decide +kernel
theorem d_W_law_518 : decode M_W_law.2.1 518 = .ok (.aload_n 1, 1) := by decide +kernel
theorem d_W_law_519 : decode M_W_law.2.1 519 = .ok (.aload_n 0, 1) := by decide +kernel
theorem d_W_law_520 : decode M_W_law.2.1 520 = .ok (.iload 4, 2) := by decide +kernel
theorem d_W_law_522 : decode M_W_law.2.1 522 = .ok (.iconst 1, 1) := by decide +kernel
theorem d_W_law_523 : decode M_W_law.2.1 523 = .ok (.iadd, 1) := by decide +kernel
theorem d_W_law_524 : decode M_W_law.2.1 524 = .ok (.iaload, 1) := by decide +kernel
theorem d_W_law_525 : decode M_W_law.2.1 525 = .ok (.aload_n 0, 1) := by decide +kernel
theorem d_W_law_526 : decode M_W_law.2.1 526 = .ok (.iload 4, 2) := by decide +kernel
theorem d_W_law_528 : decode M_W_law.2.1 528 = .ok (.iconst 2, 1) := by decide +kernel
theorem d_W_law_529 : decode M_W_law.2.1 529 = .ok (.iadd, 1) := by decide +kernel
theorem d_W_law_530 : decode M_W_law.2.1 530 = .ok (.iaload, 1) := by decide +kernel
theorem d_W_law_531 : decode M_W_law.2.1 531 = .ok (.invokevirtual 49, 3) := by decide +kernel
theorem d_W_law_534 : decode M_W_law.2.1 534 = .ok (.aload_n 2, 1) := by decide +kernel
theorem d_W_law_535 : decode M_W_law.2.1 535 = .ok (.aload_n 0, 1) := by decide +kernel
theorem d_W_law_536 : decode M_W_law.2.1 536 = .ok (.iload 4, 2) := by decide +kernel
theorem d_W_law_538 : decode M_W_law.2.1 538 = .ok (.iconst 1, 1) := by decide +kernel
theorem d_W_law_539 : decode M_W_law.2.1 539 = .ok (.iadd, 1) := by decide +kernel
theorem d_W_law_540 : decode M_W_law.2.1 540 = .ok (.iaload, 1) := by decide +kernel
theorem d_W_law_541 : decode M_W_law.2.1 541 = .ok (.aload_n 0, 1) := by decide +kernel
theorem d_W_law_542 : decode M_W_law.2.1 542 = .ok (.iload 4, 2) := by decide +kernel
theorem d_W_law_544 : decode M_W_law.2.1 544 = .ok (.iconst 2, 1) := by decide +kernel
theorem d_W_law_545 : decode M_W_law.2.1 545 = .ok (.iadd, 1) := by decide +kernel
theorem d_W_law_546 : decode M_W_law.2.1 546 = .ok (.iaload, 1) := by decide +kernel
theorem d_W_law_547 : decode M_W_law.2.1 547 = .ok (.invokevirtual 52, 3) := by decide +kernel
theorem d_W_law_550 : decode M_W_law.2.1 550 = .ok (.if_icmp .eq 1413, 3) := by decide +kernel
theorem d_W_law_553 : decode M_W_law.2.1 553 = .ok (.iconst 0, 1) := by decide +kernel
theorem d_W_law_554 : decode M_W_law.2.1 554 = .ok (.ireturn, 1) := by decide +kernel
theorem d_W_law_555 : decode M_W_law.2.1 555 = .ok (.aload_n 1, 1) := by decide +kernel
theorem d_W_law_556 : decode M_W_law.2.1 556 = .ok (.aload_n 0, 1) := by decide +kernel
theorem d_W_law_557 : decode M_W_law.2.1 557 = .ok (.iload 4, 2) := by decide +kernel
theorem d_W_law_559 : decode M_W_law.2.1 559 = .ok (.iconst 1, 1) := by decide +kernel
theorem d_W_law_560 : decode M_W_law.2.1 560 = .ok (.iadd, 1) := by decide +kernel
theorem d_W_law_561 : decode M_W_law.2.1 561 = .ok (.iaload, 1) := by decide +kernel
theorem d_W_law_562 : decode M_W_law.2.1 562 = .ok (.aload_n 0, 1) := by decide +kernel
theorem d_W_law_563 : decode M_W_law.2.1 563 = .ok (.iload 4, 2) := by decide +kernel
theorem d_W_law_565 : decode M_W_law.2.1 565 = .ok (.iconst 2, 1) := by decide +kernel
theorem d_W_law_566 : decode M_W_law.2.1 566 = .ok (.iadd, 1) := by decide +kernel
theorem d_W_law_567 : decode M_W_law.2.1 567 = .ok (.iaload, 1) := by decide +kernel
theorem d_W_law_568 : decode M_W_law.2.1 568 = .ok (.invokevirtual 53, 3) := by decide +kernel
theorem d_W_law_571 : decode M_W_law.2.1 571 = .ok (.aload_n 2, 1) := by decide +kernel
theorem d_W_law_572 : decode M_W_law.2.1 572 = .ok (.aload_n 0, 1) := by decide +kernel
theorem d_W_law_573 : decode M_W_law.2.1 573 = .ok (.iload 4, 2) := by decide +kernel
theorem d_W_law_575 : decode M_W_law.2.1 575 = .ok (.iconst 1, 1) := by decide +kernel
theorem d_W_law_576 : decode M_W_law.2.1 576 = .ok (.iadd, 1) := by decide +kernel
theorem d_W_law_577 : decode M_W_law.2.1 577 = .ok (.iaload, 1) := by decide +kernel
theorem d_W_law_578 : decode M_W_law.2.1 578 = .ok (.aload_n 0, 1) := by decide +kernel
theorem d_W_law_579 : decode M_W_law.2.1 579 = .ok (.iload 4, 2) := by decide +kernel
theorem d_W_law_581 : decode M_W_law.2.1 581 = .ok (.iconst 2, 1) := by decide +kernel
theorem d_W_law_582 : decode M_W_law.2.1 582 = .ok (.iadd, 1) := by decide +kernel
theorem d_W_law_583 : decode M_W_law.2.1 583 = .ok (.iaload, 1) := by decide +kernel
theorem d_W_law_584 : decode M_W_law.2.1 584 = .ok (.invokevirtual 56, 3) := by decide +kernel
theorem d_W_law_587 : decode M_W_law.2.1 587 = .ok (.if_icmp .eq 1376, 3) := by decide +kernel
theorem d_W_law_590 : decode M_W_law.2.1 590 = .ok (.iconst 0, 1) := by decide +kernel
theorem d_W_law_591 : decode M_W_law.2.1 591 = .ok (.ireturn, 1) := by decide +kernel
theorem d_W_law_592 : decode M_W_law.2.1 592 = .ok (.aload_n 1, 1) := by decide +kernel
theorem d_W_law_593 : decode M_W_law.2.1 593 = .ok (.aload_n 0, 1) := by decide +kernel
theorem d_W_law_594 : decode M_W_law.2.1 594 = .ok (.iload 4, 2) := by decide +kernel
theorem d_W_law_596 : decode M_W_law.2.1 596 = .ok (.iconst 1, 1) := by decide +kernel
theorem d_W_law_597 : decode M_W_law.2.1 597 = .ok (.iadd, 1) := by decide +kernel
theorem d_W_law_598 : decode M_W_law.2.1 598 = .ok (.iaload, 1) := by decide +kernel
theorem d_W_law_599 : decode M_W_law.2.1 599 = .ok (.invokevirtual 57, 3) := by decide +kernel
theorem d_W_law_602 : decode M_W_law.2.1 602 = .ok (.aload_n 2, 1) := by decide +kernel
theorem d_W_law_603 : decode M_W_law.2.1 603 = .ok (.aload_n 0, 1) := by decide +kernel
theorem d_W_law_604 : decode M_W_law.2.1 604 = .ok (.iload 4, 2) := by decide +kernel
theorem d_W_law_606 : decode M_W_law.2.1 606 = .ok (.iconst 1, 1) := by decide +kernel
theorem d_W_law_607 : decode M_W_law.2.1 607 = .ok (.iadd, 1) := by decide +kernel
theorem d_W_law_608 : decode M_W_law.2.1 608 = .ok (.iaload, 1) := by decide +kernel
theorem d_W_law_609 : decode M_W_law.2.1 609 = .ok (.invokevirtual 60, 3) := by decide +kernel
theorem d_W_law_612 : decode M_W_law.2.1 612 = .ok (.if_icmp .eq 1351, 3) := by decide +kernel
theorem d_W_law_615 : decode M_W_law.2.1 615 = .ok (.iconst 0, 1) := by decide +kernel
theorem d_W_law_616 : decode M_W_law.2.1 616 = .ok (.ireturn, 1) := by decide +kernel
theorem d_W_law_617 : decode M_W_law.2.1 617 = .ok (.aload_n 1, 1) := by decide +kernel
theorem d_W_law_618 : decode M_W_law.2.1 618 = .ok (.invokevirtual 61, 3) := by decide +kernel
theorem d_W_law_621 : decode M_W_law.2.1 621 = .ok (.aload_n 2, 1) := by decide +kernel
theorem d_W_law_622 : decode M_W_law.2.1 622 = .ok (.invokevirtual 65, 3) := by decide +kernel
theorem d_W_law_625 : decode M_W_law.2.1 625 = .ok (.if_icmp .eq 1338, 3) := by decide +kernel
theorem d_W_law_628 : decode M_W_law.2.1 628 = .ok (.iconst 0, 1) := by decide +kernel
theorem d_W_law_629 : decode M_W_law.2.1 629 = .ok (.ireturn, 1) := by decide +kernel
theorem d_W_law_630 : decode M_W_law.2.1 630 = .ok (.aload_n 1, 1) := by decide +kernel
theorem d_W_law_631 : decode M_W_law.2.1 631 = .ok (.aload_n 0, 1) := by decide +kernel
theorem d_W_law_632 : decode M_W_law.2.1 632 = .ok (.iload 4, 2) := by decide +kernel
theorem d_W_law_634 : decode M_W_law.2.1 634 = .ok (.iconst 1, 1) := by decide +kernel
theorem d_W_law_635 : decode M_W_law.2.1 635 = .ok (.iadd, 1) := by decide +kernel
theorem d_W_law_636 : decode M_W_law.2.1 636 = .ok (.iaload, 1) := by decide +kernel
theorem d_W_law_637 : decode M_W_law.2.1 637 = .ok (.aload_n 0, 1) := by decide +kernel
theorem d_W_law_638 : decode M_W_law.2.1 638 = .ok (.iload 4, 2) := by decide +kernel
theorem d_W_law_640 : decode M_W_law.2.1 640 = .ok (.iconst 2, 1) := by decide +kernel
theorem d_W_law_641 : decode M_W_law.2.1 641 = .ok (.iadd, 1) := by decide +kernel
theorem d_W_law_642 : decode M_W_law.2.1 642 = .ok (.iaload, 1) := by decide +kernel
theorem d_W_law_643 : decode M_W_law.2.1 643 = .ok (.invokevirtual 66, 3) := by decide +kernel
theorem d_W_law_646 : decode M_W_law.2.1 646 = .ok (.aload_n 2, 1) := by decide +kernel
theorem d_W_law_647 : decode M_W_law.2.1 647 = .ok (.aload_n 0, 1) := by decide +kernel
theorem d_W_law_648 : decode M_W_law.2.1 648 = .ok (.iload 4, 2) := by decide +kernel
theorem d_W_law_650 : decode M_W_law.2.1 650 = .ok (.iconst 1, 1) := by decide +kernel
theorem d_W_law_651 : decode M_W_law.2.1 651 = .ok (.iadd, 1) := by decide +kernel
theorem d_W_law_652 : decode M_W_law.2.1 652 = .ok (.iaload, 1) := by decide +kernel
theorem d_W_law_653 : decode M_W_law.2.1 653 = .ok (.aload_n 0, 1) := by decide +kernel
theorem d_W_law_654 : decode M_W_law.2.1 654 = .ok (.iload 4, 2) := by decide +kernel
theorem d_W_law_656 : decode M_W_law.2.1 656 = .ok (.iconst 2, 1) := by decide +kernel
theorem d_W_law_657 : decode M_W_law.2.1 657 = .ok (.iadd, 1) := by decide +kernel
theorem d_W_law_658 : decode M_W_law.2.1 658 = .ok (.iaload, 1) := by decide +kernel
theorem d_W_law_659 : decode M_W_law.2.1 659 = .ok (.invokevirtual 69, 3) := by decide +kernel
theorem d_W_law_662 : decode M_W_law.2.1 662 = .ok (.if_icmp .eq 1301, 3) := by decide +kernel
theorem d_W_law_665 : decode M_W_law.2.1 665 = .ok (.iconst 0, 1) := by decide +kernel
theorem d_W_law_666 : decode M_W_law.2.1 666 = .ok (.ireturn, 1) := by decide +kernel
theorem d_W_law_667 : decode M_W_law.2.1 667 = .ok (.aload_n 1, 1) := by decide +kernel
theorem d_W_law_668 : decode M_W_law.2.1 668 = .ok (.aload_n 0, 1) := by decide +kernel
theorem d_W_law_669 : decode M_W_law.2.1 669 = .ok (.iload 4, 2) := by decide +kernel
theorem d_W_law_671 : decode M_W_law.2.1 671 = .ok (.iconst 1, 1) := by decide +kernel
theorem d_W_law_672 : decode M_W_law.2.1 672 = .ok (.iadd, 1) := by decide +kernel
theorem d_W_law_673 : decode M_W_law.2.1 673 = .ok (.iaload, 1) := by decide +kernel
theorem d_W_law_674 : decode M_W_law.2.1 674 = .ok (.aload_n 0, 1) := by decide +kernel
theorem d_W_law_675 : decode M_W_law.2.1 675 = .ok (.iload 4, 2) := by decide +kernel
theorem d_W_law_677 : decode M_W_law.2.1 677 = .ok (.iconst 2, 1) := by decide +kernel
theorem d_W_law_678 : decode M_W_law.2.1 678 = .ok (.iadd, 1) := by decide +kernel
theorem d_W_law_679 : decode M_W_law.2.1 679 = .ok (.iaload, 1) := by decide +kernel
theorem d_W_law_680 : decode M_W_law.2.1 680 = .ok (.invokevirtual 70, 3) := by decide +kernel
theorem d_W_law_683 : decode M_W_law.2.1 683 = .ok (.aload_n 2, 1) := by decide +kernel
theorem d_W_law_684 : decode M_W_law.2.1 684 = .ok (.aload_n 0, 1) := by decide +kernel
theorem d_W_law_685 : decode M_W_law.2.1 685 = .ok (.iload 4, 2) := by decide +kernel
theorem d_W_law_687 : decode M_W_law.2.1 687 = .ok (.iconst 1, 1) := by decide +kernel
theorem d_W_law_688 : decode M_W_law.2.1 688 = .ok (.iadd, 1) := by decide +kernel
theorem d_W_law_689 : decode M_W_law.2.1 689 = .ok (.iaload, 1) := by decide +kernel
theorem d_W_law_690 : decode M_W_law.2.1 690 = .ok (.aload_n 0, 1) := by decide +kernel
theorem d_W_law_691 : decode M_W_law.2.1 691 = .ok (.iload 4, 2) := by decide +kernel
theorem d_W_law_693 : decode M_W_law.2.1 693 = .ok (.iconst 2, 1) := by decide +kernel
theorem d_W_law_694 : decode M_W_law.2.1 694 = .ok (.iadd, 1) := by decide +kernel
theorem d_W_law_695 : decode M_W_law.2.1 695 = .ok (.iaload, 1) := by decide +kernel
theorem d_W_law_696 : decode M_W_law.2.1 696 = .ok (.invokevirtual 73, 3) := by decide +kernel
theorem d_W_law_699 : decode M_W_law.2.1 699 = .ok (.if_icmp .eq 1264, 3) := by decide +kernel
theorem d_W_law_702 : decode M_W_law.2.1 702 = .ok (.iconst 0, 1) := by decide +kernel
theorem d_W_law_703 : decode M_W_law.2.1 703 = .ok (.ireturn, 1) := by decide +kernel
theorem d_W_law_704 : decode M_W_law.2.1 704 = .ok (.aload_n 1, 1) := by decide +kernel
theorem d_W_law_705 : decode M_W_law.2.1 705 = .ok (.aload_n 0, 1) := by decide +kernel
theorem d_W_law_706 : decode M_W_law.2.1 706 = .ok (.iload 4, 2) := by decide +kernel
theorem d_W_law_708 : decode M_W_law.2.1 708 = .ok (.iconst 1, 1) := by decide +kernel
theorem d_W_law_709 : decode M_W_law.2.1 709 = .ok (.iadd, 1) := by decide +kernel
theorem d_W_law_710 : decode M_W_law.2.1 710 = .ok (.iaload, 1) := by decide +kernel
theorem d_W_law_711 : decode M_W_law.2.1 711 = .ok (.aload_n 0, 1) := by decide +kernel
theorem d_W_law_712 : decode M_W_law.2.1 712 = .ok (.iload 4, 2) := by decide +kernel
theorem d_W_law_714 : decode M_W_law.2.1 714 = .ok (.iconst 2, 1) := by decide +kernel
theorem d_W_law_715 : decode M_W_law.2.1 715 = .ok (.iadd, 1) := by decide +kernel
theorem d_W_law_716 : decode M_W_law.2.1 716 = .ok (.iaload, 1) := by decide +kernel
theorem d_W_law_717 : decode M_W_law.2.1 717 = .ok (.invokevirtual 74, 3) := by decide +kernel
theorem d_W_law_720 : decode M_W_law.2.1 720 = .ok (.aload_n 2, 1) := by decide +kernel
theorem d_W_law_721 : decode M_W_law.2.1 721 = .ok (.aload_n 0, 1) := by decide +kernel
theorem d_W_law_722 : decode M_W_law.2.1 722 = .ok (.iload 4, 2) := by decide +kernel
theorem d_W_law_724 : decode M_W_law.2.1 724 = .ok (.iconst 1, 1) := by decide +kernel
theorem d_W_law_725 : decode M_W_law.2.1 725 = .ok (.iadd, 1) := by decide +kernel
theorem d_W_law_726 : decode M_W_law.2.1 726 = .ok (.iaload, 1) := by decide +kernel
theorem d_W_law_727 : decode M_W_law.2.1 727 = .ok (.aload_n 0, 1) := by decide +kernel
theorem d_W_law_728 : decode M_W_law.2.1 728 = .ok (.iload 4, 2) := by decide +kernel
theorem d_W_law_730 : decode M_W_law.2.1 730 = .ok (.iconst 2, 1) := by decide +kernel
theorem d_W_law_731 : decode M_W_law.2.1 731 = .ok (.iadd, 1) := by decide +kernel
theorem d_W_law_732 : decode M_W_law.2.1 732 = .ok (.iaload, 1) := by decide +kernel
theorem d_W_law_733 : decode M_W_law.2.1 733 = .ok (.invokevirtual 77, 3) := by decide +kernel
theorem d_W_law_736 : decode M_W_law.2.1 736 = .ok (.if_icmp .eq 1227, 3) := by decide +kernel
theorem d_W_law_739 : decode M_W_law.2.1 739 = .ok (.iconst 0, 1) := by decide +kernel
theorem d_W_law_740 : decode M_W_law.2.1 740 = .ok (.ireturn, 1) := by decide +kernel
theorem d_W_law_741 : decode M_W_law.2.1 741 = .ok (.aload_n 1, 1) := by decide +kernel
theorem d_W_law_742 : decode M_W_law.2.1 742 = .ok (.aload_n 0, 1) := by decide +kernel
theorem d_W_law_743 : decode M_W_law.2.1 743 = .ok (.iload 4, 2) := by decide +kernel
theorem d_W_law_745 : decode M_W_law.2.1 745 = .ok (.iconst 1, 1) := by decide +kernel
theorem d_W_law_746 : decode M_W_law.2.1 746 = .ok (.iadd, 1) := by decide +kernel
theorem d_W_law_747 : decode M_W_law.2.1 747 = .ok (.iaload, 1) := by decide +kernel
theorem d_W_law_748 : decode M_W_law.2.1 748 = .ok (.aload_n 0, 1) := by decide +kernel
theorem d_W_law_749 : decode M_W_law.2.1 749 = .ok (.iload 4, 2) := by decide +kernel
theorem d_W_law_751 : decode M_W_law.2.1 751 = .ok (.iconst 2, 1) := by decide +kernel
theorem d_W_law_752 : decode M_W_law.2.1 752 = .ok (.iadd, 1) := by decide +kernel
theorem d_W_law_753 : decode M_W_law.2.1 753 = .ok (.iaload, 1) := by decide +kernel
theorem d_W_law_754 : decode M_W_law.2.1 754 = .ok (.invokevirtual 78, 3) := by decide +kernel
theorem d_W_law_757 : decode M_W_law.2.1 757 = .ok (.aload_n 2, 1) := by decide +kernel
theorem d_W_law_758 : decode M_W_law.2.1 758 = .ok (.aload_n 0, 1) := by decide +kernel
theorem d_W_law_759 : decode M_W_law.2.1 759 = .ok (.iload 4, 2) := by decide +kernel
theorem d_W_law_761 : decode M_W_law.2.1 761 = .ok (.iconst 1, 1) := by decide +kernel
theorem d_W_law_762 : decode M_W_law.2.1 762 = .ok (.iadd, 1) := by decide +kernel
theorem d_W_law_763 : decode M_W_law.2.1 763 = .ok (.iaload, 1) := by decide +kernel
theorem d_W_law_764 : decode M_W_law.2.1 764 = .ok (.aload_n 0, 1) := by decide +kernel
theorem d_W_law_765 : decode M_W_law.2.1 765 = .ok (.iload 4, 2) := by decide +kernel
theorem d_W_law_767 : decode M_W_law.2.1 767 = .ok (.iconst 2, 1) := by decide +kernel
theorem d_W_law_768 : decode M_W_law.2.1 768 = .ok (.iadd, 1) := by decide +kernel
theorem d_W_law_769 : decode M_W_law.2.1 769 = .ok (.iaload, 1) := by decide +kernel
theorem d_W_law_770 : decode M_W_law.2.1 770 = .ok (.invokevirtual 81, 3) := by decide +kernel
theorem d_W_law_773 : decode M_W_law.2.1 773 = .ok (.if_icmp .eq 1190, 3) := by decide +kernel
theorem d_W_law_776 : decode M_W_law.2.1 776 = .ok (.iconst 0, 1) := by decide +kernel
theorem d_W_law_777 : decode M_W_law.2.1 777 = .ok (.ireturn, 1) := by decide +kernel
theorem d_W_law_778 : decode M_W_law.2.1 778 = .ok (.aload_n 1, 1) := by decide +kernel
theorem d_W_law_779 : decode M_W_law.2.1 779 = .ok (.aload_n 0, 1) := by decide +kernel
theorem d_W_law_780 : decode M_W_law.2.1 780 = .ok (.iload 4, 2) := by decide +kernel
theorem d_W_law_782 : decode M_W_law.2.1 782 = .ok (.iconst 1, 1) := by decide +kernel
theorem d_W_law_783 : decode M_W_law.2.1 783 = .ok (.iadd, 1) := by decide +kernel
theorem d_W_law_784 : decode M_W_law.2.1 784 = .ok (.iaload, 1) := by decide +kernel
theorem d_W_law_785 : decode M_W_law.2.1 785 = .ok (.invokevirtual 82, 3) := by decide +kernel
theorem d_W_law_788 : decode M_W_law.2.1 788 = .ok (.aload_n 2, 1) := by decide +kernel
theorem d_W_law_789 : decode M_W_law.2.1 789 = .ok (.aload_n 0, 1) := by decide +kernel
theorem d_W_law_790 : decode M_W_law.2.1 790 = .ok (.iload 4, 2) := by decide +kernel
theorem d_W_law_792 : decode M_W_law.2.1 792 = .ok (.iconst 1, 1) := by decide +kernel
theorem d_W_law_793 : decode M_W_law.2.1 793 = .ok (.iadd, 1) := by decide +kernel
theorem d_W_law_794 : decode M_W_law.2.1 794 = .ok (.iaload, 1) := by decide +kernel
theorem d_W_law_795 : decode M_W_law.2.1 795 = .ok (.invokevirtual 85, 3) := by decide +kernel
theorem d_W_law_798 : decode M_W_law.2.1 798 = .ok (.if_icmp .eq 1165, 3) := by decide +kernel
theorem d_W_law_801 : decode M_W_law.2.1 801 = .ok (.iconst 0, 1) := by decide +kernel
theorem d_W_law_802 : decode M_W_law.2.1 802 = .ok (.ireturn, 1) := by decide +kernel
theorem d_W_law_803 : decode M_W_law.2.1 803 = .ok (.aload_n 1, 1) := by decide +kernel
theorem d_W_law_804 : decode M_W_law.2.1 804 = .ok (.aload_n 0, 1) := by decide +kernel
theorem d_W_law_805 : decode M_W_law.2.1 805 = .ok (.iload 4, 2) := by decide +kernel
theorem d_W_law_807 : decode M_W_law.2.1 807 = .ok (.iconst 1, 1) := by decide +kernel
theorem d_W_law_808 : decode M_W_law.2.1 808 = .ok (.iadd, 1) := by decide +kernel
theorem d_W_law_809 : decode M_W_law.2.1 809 = .ok (.iaload, 1) := by decide +kernel
theorem d_W_law_810 : decode M_W_law.2.1 810 = .ok (.aload_n 0, 1) := by decide +kernel
theorem d_W_law_811 : decode M_W_law.2.1 811 = .ok (.iload 4, 2) := by decide +kernel
theorem d_W_law_813 : decode M_W_law.2.1 813 = .ok (.iconst 2, 1) := by decide +kernel
theorem d_W_law_814 : decode M_W_law.2.1 814 = .ok (.iadd, 1) := by decide +kernel
theorem d_W_law_815 : decode M_W_law.2.1 815 = .ok (.iaload, 1) := by decide +kernel
theorem d_W_law_816 : decode M_W_law.2.1 816 = .ok (.aload_n 0, 1) := by decide +kernel
theorem d_W_law_817 : decode M_W_law.2.1 817 = .ok (.iload 4, 2) := by decide +kernel
theorem d_W_law_819 : decode M_W_law.2.1 819 = .ok (.iconst 3, 1) := by decide +kernel
theorem d_W_law_820 : decode M_W_law.2.1 820 = .ok (.iadd, 1) := by decide +kernel
theorem d_W_law_821 : decode M_W_law.2.1 821 = .ok (.iaload, 1) := by decide +kernel
theorem d_W_law_822 : decode M_W_law.2.1 822 = .ok (.invokevirtual 86, 3) := by decide +kernel
theorem d_W_law_825 : decode M_W_law.2.1 825 = .ok (.aload_n 2, 1) := by decide +kernel
theorem d_W_law_826 : decode M_W_law.2.1 826 = .ok (.aload_n 0, 1) := by decide +kernel
theorem d_W_law_827 : decode M_W_law.2.1 827 = .ok (.iload 4, 2) := by decide +kernel
theorem d_W_law_829 : decode M_W_law.2.1 829 = .ok (.iconst 1, 1) := by decide +kernel
theorem d_W_law_830 : decode M_W_law.2.1 830 = .ok (.iadd, 1) := by decide +kernel
theorem d_W_law_831 : decode M_W_law.2.1 831 = .ok (.iaload, 1) := by decide +kernel
theorem d_W_law_832 : decode M_W_law.2.1 832 = .ok (.aload_n 0, 1) := by decide +kernel
theorem d_W_law_833 : decode M_W_law.2.1 833 = .ok (.iload 4, 2) := by decide +kernel
theorem d_W_law_835 : decode M_W_law.2.1 835 = .ok (.iconst 2, 1) := by decide +kernel
theorem d_W_law_836 : decode M_W_law.2.1 836 = .ok (.iadd, 1) := by decide +kernel
theorem d_W_law_837 : decode M_W_law.2.1 837 = .ok (.iaload, 1) := by decide +kernel
theorem d_W_law_838 : decode M_W_law.2.1 838 = .ok (.aload_n 0, 1) := by decide +kernel
theorem d_W_law_839 : decode M_W_law.2.1 839 = .ok (.iload 4, 2) := by decide +kernel
theorem d_W_law_841 : decode M_W_law.2.1 841 = .ok (.iconst 3, 1) := by decide +kernel
theorem d_W_law_842 : decode M_W_law.2.1 842 = .ok (.iadd, 1) := by decide +kernel
theorem d_W_law_843 : decode M_W_law.2.1 843 = .ok (.iaload, 1) := by decide +kernel
theorem d_W_law_844 : decode M_W_law.2.1 844 = .ok (.invokevirtual 89, 3) := by decide +kernel
theorem d_W_law_847 : decode M_W_law.2.1 847 = .ok (.if_icmp .eq 1116, 3) := by decide +kernel
theorem d_W_law_850 : decode M_W_law.2.1 850 = .ok (.iconst 0, 1) := by decide +kernel
theorem d_W_law_851 : decode M_W_law.2.1 851 = .ok (.ireturn, 1) := by decide +kernel
theorem d_W_law_852 : decode M_W_law.2.1 852 = .ok (.aload_n 1, 1) := by decide +kernel
theorem d_W_law_853 : decode M_W_law.2.1 853 = .ok (.aload_n 0, 1) := by decide +kernel
theorem d_W_law_854 : decode M_W_law.2.1 854 = .ok (.iload 4, 2) := by decide +kernel
theorem d_W_law_856 : decode M_W_law.2.1 856 = .ok (.iconst 1, 1) := by decide +kernel
theorem d_W_law_857 : decode M_W_law.2.1 857 = .ok (.iadd, 1) := by decide +kernel
theorem d_W_law_858 : decode M_W_law.2.1 858 = .ok (.iaload, 1) := by decide +kernel
theorem d_W_law_859 : decode M_W_law.2.1 859 = .ok (.aload_n 0, 1) := by decide +kernel
theorem d_W_law_860 : decode M_W_law.2.1 860 = .ok (.iload 4, 2) := by decide +kernel
theorem d_W_law_862 : decode M_W_law.2.1 862 = .ok (.iconst 2, 1) := by decide +kernel
theorem d_W_law_863 : decode M_W_law.2.1 863 = .ok (.iadd, 1) := by decide +kernel
theorem d_W_law_864 : decode M_W_law.2.1 864 = .ok (.iaload, 1) := by decide +kernel
theorem d_W_law_865 : decode M_W_law.2.1 865 = .ok (.invokevirtual 90, 3) := by decide +kernel
theorem d_W_law_868 : decode M_W_law.2.1 868 = .ok (.aload_n 2, 1) := by decide +kernel
theorem d_W_law_869 : decode M_W_law.2.1 869 = .ok (.aload_n 0, 1) := by decide +kernel
theorem d_W_law_870 : decode M_W_law.2.1 870 = .ok (.iload 4, 2) := by decide +kernel
theorem d_W_law_872 : decode M_W_law.2.1 872 = .ok (.iconst 1, 1) := by decide +kernel
theorem d_W_law_873 : decode M_W_law.2.1 873 = .ok (.iadd, 1) := by decide +kernel
theorem d_W_law_874 : decode M_W_law.2.1 874 = .ok (.iaload, 1) := by decide +kernel
theorem d_W_law_875 : decode M_W_law.2.1 875 = .ok (.aload_n 0, 1) := by decide +kernel
theorem d_W_law_876 : decode M_W_law.2.1 876 = .ok (.iload 4, 2) := by decide +kernel
theorem d_W_law_878 : decode M_W_law.2.1 878 = .ok (.iconst 2, 1) := by decide +kernel
theorem d_W_law_879 : decode M_W_law.2.1 879 = .ok (.iadd, 1) := by decide +kernel
theorem d_W_law_880 : decode M_W_law.2.1 880 = .ok (.iaload, 1) := by decide +kernel
theorem d_W_law_881 : decode M_W_law.2.1 881 = .ok (.invokevirtual 93, 3) := by decide +kernel
theorem d_W_law_884 : decode M_W_law.2.1 884 = .ok (.if_icmp .eq 1079, 3) := by decide +kernel
theorem d_W_law_887 : decode M_W_law.2.1 887 = .ok (.iconst 0, 1) := by decide +kernel
theorem d_W_law_888 : decode M_W_law.2.1 888 = .ok (.ireturn, 1) := by decide +kernel
theorem d_W_law_889 : decode M_W_law.2.1 889 = .ok (.aload_n 1, 1) := by decide +kernel
theorem d_W_law_890 : decode M_W_law.2.1 890 = .ok (.aload_n 0, 1) := by decide +kernel
theorem d_W_law_891 : decode M_W_law.2.1 891 = .ok (.iload 4, 2) := by decide +kernel
theorem d_W_law_893 : decode M_W_law.2.1 893 = .ok (.iconst 1, 1) := by decide +kernel
theorem d_W_law_894 : decode M_W_law.2.1 894 = .ok (.iadd, 1) := by decide +kernel
theorem d_W_law_895 : decode M_W_law.2.1 895 = .ok (.iaload, 1) := by decide +kernel
theorem d_W_law_896 : decode M_W_law.2.1 896 = .ok (.invokevirtual 94, 3) := by decide +kernel
theorem d_W_law_899 : decode M_W_law.2.1 899 = .ok (.aload_n 2, 1) := by decide +kernel
theorem d_W_law_900 : decode M_W_law.2.1 900 = .ok (.aload_n 0, 1) := by decide +kernel
theorem d_W_law_901 : decode M_W_law.2.1 901 = .ok (.iload 4, 2) := by decide +kernel
theorem d_W_law_903 : decode M_W_law.2.1 903 = .ok (.iconst 1, 1) := by decide +kernel
theorem d_W_law_904 : decode M_W_law.2.1 904 = .ok (.iadd, 1) := by decide +kernel
theorem d_W_law_905 : decode M_W_law.2.1 905 = .ok (.iaload, 1) := by decide +kernel
theorem d_W_law_906 : decode M_W_law.2.1 906 = .ok (.invokevirtual 97, 3) := by decide +kernel
theorem d_W_law_909 : decode M_W_law.2.1 909 = .ok (.if_icmp .eq 1054, 3) := by decide +kernel
theorem d_W_law_912 : decode M_W_law.2.1 912 = .ok (.iconst 0, 1) := by decide +kernel
theorem d_W_law_913 : decode M_W_law.2.1 913 = .ok (.ireturn, 1) := by decide +kernel
theorem d_W_law_914 : decode M_W_law.2.1 914 = .ok (.aload_n 1, 1) := by decide +kernel
theorem d_W_law_915 : decode M_W_law.2.1 915 = .ok (.aload_n 0, 1) := by decide +kernel
theorem d_W_law_916 : decode M_W_law.2.1 916 = .ok (.iload 4, 2) := by decide +kernel
theorem d_W_law_918 : decode M_W_law.2.1 918 = .ok (.iconst 1, 1) := by decide +kernel
theorem d_W_law_919 : decode M_W_law.2.1 919 = .ok (.iadd, 1) := by decide +kernel
theorem d_W_law_920 : decode M_W_law.2.1 920 = .ok (.iaload, 1) := by decide +kernel
theorem d_W_law_921 : decode M_W_law.2.1 921 = .ok (.aload_n 0, 1) := by decide +kernel
theorem d_W_law_922 : decode M_W_law.2.1 922 = .ok (.iload 4, 2) := by decide +kernel
theorem d_W_law_924 : decode M_W_law.2.1 924 = .ok (.iconst 2, 1) := by decide +kernel
theorem d_W_law_925 : decode M_W_law.2.1 925 = .ok (.iadd, 1) := by decide +kernel
theorem d_W_law_926 : decode M_W_law.2.1 926 = .ok (.iaload, 1) := by decide +kernel
theorem d_W_law_927 : decode M_W_law.2.1 927 = .ok (.aload_n 0, 1) := by decide +kernel
theorem d_W_law_928 : decode M_W_law.2.1 928 = .ok (.iload 4, 2) := by decide +kernel
theorem d_W_law_930 : decode M_W_law.2.1 930 = .ok (.iconst 3, 1) := by decide +kernel
theorem d_W_law_931 : decode M_W_law.2.1 931 = .ok (.iadd, 1) := by decide +kernel
theorem d_W_law_932 : decode M_W_law.2.1 932 = .ok (.iaload, 1) := by decide +kernel
theorem d_W_law_933 : decode M_W_law.2.1 933 = .ok (.invokevirtual 98, 3) := by decide +kernel
theorem d_W_law_936 : decode M_W_law.2.1 936 = .ok (.aload_n 2, 1) := by decide +kernel
theorem d_W_law_937 : decode M_W_law.2.1 937 = .ok (.aload_n 0, 1) := by decide +kernel
theorem d_W_law_938 : decode M_W_law.2.1 938 = .ok (.iload 4, 2) := by decide +kernel
theorem d_W_law_940 : decode M_W_law.2.1 940 = .ok (.iconst 1, 1) := by decide +kernel
theorem d_W_law_941 : decode M_W_law.2.1 941 = .ok (.iadd, 1) := by decide +kernel
theorem d_W_law_942 : decode M_W_law.2.1 942 = .ok (.iaload, 1) := by decide +kernel
theorem d_W_law_943 : decode M_W_law.2.1 943 = .ok (.aload_n 0, 1) := by decide +kernel
theorem d_W_law_944 : decode M_W_law.2.1 944 = .ok (.iload 4, 2) := by decide +kernel
theorem d_W_law_946 : decode M_W_law.2.1 946 = .ok (.iconst 2, 1) := by decide +kernel
theorem d_W_law_947 : decode M_W_law.2.1 947 = .ok (.iadd, 1) := by decide +kernel
theorem d_W_law_948 : decode M_W_law.2.1 948 = .ok (.iaload, 1) := by decide +kernel
theorem d_W_law_949 : decode M_W_law.2.1 949 = .ok (.aload_n 0, 1) := by decide +kernel
theorem d_W_law_950 : decode M_W_law.2.1 950 = .ok (.iload 4, 2) := by decide +kernel
theorem d_W_law_952 : decode M_W_law.2.1 952 = .ok (.iconst 3, 1) := by decide +kernel
theorem d_W_law_953 : decode M_W_law.2.1 953 = .ok (.iadd, 1) := by decide +kernel
theorem d_W_law_954 : decode M_W_law.2.1 954 = .ok (.iaload, 1) := by decide +kernel
theorem d_W_law_955 : decode M_W_law.2.1 955 = .ok (.invokevirtual 101, 3) := by decide +kernel
theorem d_W_law_958 : decode M_W_law.2.1 958 = .ok (.if_icmp .eq 1005, 3) := by decide +kernel
theorem d_W_law_961 : decode M_W_law.2.1 961 = .ok (.iconst 0, 1) := by decide +kernel
theorem d_W_law_962 : decode M_W_law.2.1 962 = .ok (.ireturn, 1) := by decide +kernel
theorem d_W_law_963 : decode M_W_law.2.1 963 = .ok (.aload_n 1, 1) := by decide +kernel
theorem d_W_law_964 : decode M_W_law.2.1 964 = .ok (.aload_n 0, 1) := by decide +kernel
theorem d_W_law_965 : decode M_W_law.2.1 965 = .ok (.iload 4, 2) := by decide +kernel
theorem d_W_law_967 : decode M_W_law.2.1 967 = .ok (.iconst 1, 1) := by decide +kernel
theorem d_W_law_968 : decode M_W_law.2.1 968 = .ok (.iadd, 1) := by decide +kernel
theorem d_W_law_969 : decode M_W_law.2.1 969 = .ok (.iaload, 1) := by decide +kernel
theorem d_W_law_970 : decode M_W_law.2.1 970 = .ok (.aload_n 0, 1) := by decide +kernel
theorem d_W_law_971 : decode M_W_law.2.1 971 = .ok (.iload 4, 2) := by decide +kernel
theorem d_W_law_973 : decode M_W_law.2.1 973 = .ok (.iconst 2, 1) := by decide +kernel
theorem d_W_law_974 : decode M_W_law.2.1 974 = .ok (.iadd, 1) := by decide +kernel
theorem d_W_law_975 : decode M_W_law.2.1 975 = .ok (.iaload, 1) := by decide +kernel
theorem d_W_law_976 : decode M_W_law.2.1 976 = .ok (.invokevirtual 102, 3) := by decide +kernel
theorem d_W_law_979 : decode M_W_law.2.1 979 = .ok (.aload_n 2, 1) := by decide +kernel
theorem d_W_law_980 : decode M_W_law.2.1 980 = .ok (.aload_n 0, 1) := by decide +kernel
theorem d_W_law_981 : decode M_W_law.2.1 981 = .ok (.iload 4, 2) := by decide +kernel
theorem d_W_law_983 : decode M_W_law.2.1 983 = .ok (.iconst 1, 1) := by decide +kernel
theorem d_W_law_984 : decode M_W_law.2.1 984 = .ok (.iadd, 1) := by decide +kernel
theorem d_W_law_985 : decode M_W_law.2.1 985 = .ok (.iaload, 1) := by decide +kernel
theorem d_W_law_986 : decode M_W_law.2.1 986 = .ok (.aload_n 0, 1) := by decide +kernel
theorem d_W_law_987 : decode M_W_law.2.1 987 = .ok (.iload 4, 2) := by decide +kernel
theorem d_W_law_989 : decode M_W_law.2.1 989 = .ok (.iconst 2, 1) := by decide +kernel
theorem d_W_law_990 : decode M_W_law.2.1 990 = .ok (.iadd, 1) := by decide +kernel
theorem d_W_law_991 : decode M_W_law.2.1 991 = .ok (.iaload, 1) := by decide +kernel
theorem d_W_law_992 : decode M_W_law.2.1 992 = .ok (.invokevirtual 105, 3) := by decide +kernel
theorem d_W_law_995 : decode M_W_law.2.1 995 = .ok (.if_icmp .eq 968, 3) := by decide +kernel
theorem d_W_law_998 : decode M_W_law.2.1 998 = .ok (.iconst 0, 1) := by decide +kernel
theorem d_W_law_999 : decode M_W_law.2.1 999 = .ok (.ireturn, 1) := by decide +kernel
theorem d_W_law_1000 : decode M_W_law.2.1 1000 = .ok (.aload_n 1, 1) := by decide +kernel
theorem d_W_law_1001 : decode M_W_law.2.1 1001 = .ok (.aload_n 0, 1) := by decide +kernel
theorem d_W_law_1002 : decode M_W_law.2.1 1002 = .ok (.iload 4, 2) := by decide +kernel
theorem d_W_law_1004 : decode M_W_law.2.1 1004 = .ok (.iconst 1, 1) := by decide +kernel
theorem d_W_law_1005 : decode M_W_law.2.1 1005 = .ok (.iadd, 1) := by decide +kernel
theorem d_W_law_1006 : decode M_W_law.2.1 1006 = .ok (.iaload, 1) := by decide +kernel
theorem d_W_law_1007 : decode M_W_law.2.1 1007 = .ok (.aload_n 0, 1) := by decide +kernel
theorem d_W_law_1008 : decode M_W_law.2.1 1008 = .ok (.iload 4, 2) := by decide +kernel
theorem d_W_law_1010 : decode M_W_law.2.1 1010 = .ok (.iconst 2, 1) := by decide +kernel
theorem d_W_law_1011 : decode M_W_law.2.1 1011 = .ok (.iadd, 1) := by decide +kernel
theorem d_W_law_1012 : decode M_W_law.2.1 1012 = .ok (.iaload, 1) := by decide +kernel
theorem d_W_law_1013 : decode M_W_law.2.1 1013 = .ok (.aload_n 0, 1) := by decide +kernel
theorem d_W_law_1014 : decode M_W_law.2.1 1014 = .ok (.iload 4, 2) := by decide +kernel
theorem d_W_law_1016 : decode M_W_law.2.1 1016 = .ok (.iconst 3, 1) := by decide +kernel
theorem d_W_law_1017 : decode M_W_law.2.1 1017 = .ok (.iadd, 1) := by decide +kernel
theorem d_W_law_1018 : decode M_W_law.2.1 1018 = .ok (.iaload, 1) := by decide +kernel
theorem d_W_law_1019 : decode M_W_law.2.1 1019 = .ok (.aload_n 0, 1) := by decide +kernel
theorem d_W_law_1020 : decode M_W_law.2.1 1020 = .ok (.iload 4, 2) := by decide +kernel
theorem d_W_law_1022 : decode M_W_law.2.1 1022 = .ok (.iconst 4, 1) := by decide +kernel
theorem d_W_law_1023 : decode M_W_law.2.1 1023 = .ok (.iadd, 1) := by decide +kernel
theorem d_W_law_1024 : decode M_W_law.2.1 1024 = .ok (.iaload, 1) := by decide +kernel
theorem d_W_law_1025 : decode M_W_law.2.1 1025 = .ok (.aload_n 0, 1) := by decide +kernel
theorem d_W_law_1026 : decode M_W_law.2.1 1026 = .ok (.iload 4, 2) := by decide +kernel
theorem d_W_law_1028 : decode M_W_law.2.1 1028 = .ok (.iconst 5, 1) := by decide +kernel
theorem d_W_law_1029 : decode M_W_law.2.1 1029 = .ok (.iadd, 1) := by decide +kernel
theorem d_W_law_1030 : decode M_W_law.2.1 1030 = .ok (.iaload, 1) := by decide +kernel
theorem d_W_law_1031 : decode M_W_law.2.1 1031 = .ok (.invokevirtual 106, 3) := by decide +kernel
theorem d_W_law_1034 : decode M_W_law.2.1 1034 = .ok (.aload_n 2, 1) := by decide +kernel
theorem d_W_law_1035 : decode M_W_law.2.1 1035 = .ok (.aload_n 0, 1) := by decide +kernel
theorem d_W_law_1036 : decode M_W_law.2.1 1036 = .ok (.iload 4, 2) := by decide +kernel
theorem d_W_law_1038 : decode M_W_law.2.1 1038 = .ok (.iconst 1, 1) := by decide +kernel
theorem d_W_law_1039 : decode M_W_law.2.1 1039 = .ok (.iadd, 1) := by decide +kernel
theorem d_W_law_1040 : decode M_W_law.2.1 1040 = .ok (.iaload, 1) := by decide +kernel
theorem d_W_law_1041 : decode M_W_law.2.1 1041 = .ok (.aload_n 0, 1) := by decide +kernel
theorem d_W_law_1042 : decode M_W_law.2.1 1042 = .ok (.iload 4, 2) := by decide +kernel
theorem d_W_law_1044 : decode M_W_law.2.1 1044 = .ok (.iconst 2, 1) := by decide +kernel
theorem d_W_law_1045 : decode M_W_law.2.1 1045 = .ok (.iadd, 1) := by decide +kernel
theorem d_W_law_1046 : decode M_W_law.2.1 1046 = .ok (.iaload, 1) := by decide +kernel
theorem d_W_law_1047 : decode M_W_law.2.1 1047 = .ok (.aload_n 0, 1) := by decide +kernel
theorem d_W_law_1048 : decode M_W_law.2.1 1048 = .ok (.iload 4, 2) := by decide +kernel
theorem d_W_law_1050 : decode M_W_law.2.1 1050 = .ok (.iconst 3, 1) := by decide +kernel
theorem d_W_law_1051 : decode M_W_law.2.1 1051 = .ok (.iadd, 1) := by decide +kernel
theorem d_W_law_1052 : decode M_W_law.2.1 1052 = .ok (.iaload, 1) := by decide +kernel
theorem d_W_law_1053 : decode M_W_law.2.1 1053 = .ok (.aload_n 0, 1) := by decide +kernel
theorem d_W_law_1054 : decode M_W_law.2.1 1054 = .ok (.iload 4, 2) := by decide +kernel
theorem d_W_law_1056 : decode M_W_law.2.1 1056 = .ok (.iconst 4, 1) := by decide +kernel
theorem d_W_law_1057 : decode M_W_law.2.1 1057 = .ok (.iadd, 1) := by decide +kernel
theorem d_W_law_1058 : decode M_W_law.2.1 1058 = .ok (.iaload, 1) := by decide +kernel
theorem d_W_law_1059 : decode M_W_law.2.1 1059 = .ok (.aload_n 0, 1) := by decide +kernel
theorem d_W_law_1060 : decode M_W_law.2.1 1060 = .ok (.iload 4, 2) := by decide +kernel
theorem d_W_law_1062 : decode M_W_law.2.1 1062 = .ok (.iconst 5, 1) := by decide +kernel
theorem d_W_law_1063 : decode M_W_law.2.1 1063 = .ok (.iadd, 1) := by decide +kernel
theorem d_W_law_1064 : decode M_W_law.2.1 1064 = .ok (.iaload, 1) := by decide +kernel
theorem d_W_law_1065 : decode M_W_law.2.1 1065 = .ok (.invokevirtual 109, 3) := by decide +kernel
theorem d_W_law_1068 : decode M_W_law.2.1 1068 = .ok (.if_icmp .eq 895, 3) := by decide +kernel
theorem d_W_law_1071 : decode M_W_law.2.1 1071 = .ok (.iconst 0, 1) := by decide +kernel
theorem d_W_law_1072 : decode M_W_law.2.1 1072 = .ok (.ireturn, 1) := by decide +kernel
theorem d_W_law_1073 : decode M_W_law.2.1 1073 = .ok (.aload_n 1, 1) := by decide +kernel
theorem d_W_law_1074 : decode M_W_law.2.1 1074 = .ok (.aload_n 0, 1) := by decide +kernel
theorem d_W_law_1075 : decode M_W_law.2.1 1075 = .ok (.iload 4, 2) := by decide +kernel
theorem d_W_law_1077 : decode M_W_law.2.1 1077 = .ok (.iconst 1, 1) := by decide +kernel
theorem d_W_law_1078 : decode M_W_law.2.1 1078 = .ok (.iadd, 1) := by decide +kernel
theorem d_W_law_1079 : decode M_W_law.2.1 1079 = .ok (.iaload, 1) := by decide +kernel
theorem d_W_law_1080 : decode M_W_law.2.1 1080 = .ok (.invokevirtual 110, 3) := by decide +kernel
theorem d_W_law_1083 : decode M_W_law.2.1 1083 = .ok (.aload_n 2, 1) := by decide +kernel
theorem d_W_law_1084 : decode M_W_law.2.1 1084 = .ok (.aload_n 0, 1) := by decide +kernel
theorem d_W_law_1085 : decode M_W_law.2.1 1085 = .ok (.iload 4, 2) := by decide +kernel
theorem d_W_law_1087 : decode M_W_law.2.1 1087 = .ok (.iconst 1, 1) := by decide +kernel
theorem d_W_law_1088 : decode M_W_law.2.1 1088 = .ok (.iadd, 1) := by decide +kernel
theorem d_W_law_1089 : decode M_W_law.2.1 1089 = .ok (.iaload, 1) := by decide +kernel
theorem d_W_law_1090 : decode M_W_law.2.1 1090 = .ok (.invokevirtual 113, 3) := by decide +kernel
theorem d_W_law_1093 : decode M_W_law.2.1 1093 = .ok (.if_icmp .eq 870, 3) := by decide +kernel
theorem d_W_law_1096 : decode M_W_law.2.1 1096 = .ok (.iconst 0, 1) := by decide +kernel
theorem d_W_law_1097 : decode M_W_law.2.1 1097 = .ok (.ireturn, 1) := by decide +kernel
theorem d_W_law_1098 : decode M_W_law.2.1 1098 = .ok (.aload_n 1, 1) := by decide +kernel
theorem d_W_law_1099 : decode M_W_law.2.1 1099 = .ok (.aload_n 0, 1) := by decide +kernel
theorem d_W_law_1100 : decode M_W_law.2.1 1100 = .ok (.iload 4, 2) := by decide +kernel
theorem d_W_law_1102 : decode M_W_law.2.1 1102 = .ok (.iconst 1, 1) := by decide +kernel
theorem d_W_law_1103 : decode M_W_law.2.1 1103 = .ok (.iadd, 1) := by decide +kernel
theorem d_W_law_1104 : decode M_W_law.2.1 1104 = .ok (.iaload, 1) := by decide +kernel
theorem d_W_law_1105 : decode M_W_law.2.1 1105 = .ok (.aload_n 0, 1) := by decide +kernel
theorem d_W_law_1106 : decode M_W_law.2.1 1106 = .ok (.iload 4, 2) := by decide +kernel
theorem d_W_law_1108 : decode M_W_law.2.1 1108 = .ok (.iconst 2, 1) := by decide +kernel
theorem d_W_law_1109 : decode M_W_law.2.1 1109 = .ok (.iadd, 1) := by decide +kernel
theorem d_W_law_1110 : decode M_W_law.2.1 1110 = .ok (.iaload, 1) := by decide +kernel
theorem d_W_law_1111 : decode M_W_law.2.1 1111 = .ok (.aload_n 0, 1) := by decide +kernel
theorem d_W_law_1112 : decode M_W_law.2.1 1112 = .ok (.iload 4, 2) := by decide +kernel
theorem d_W_law_1114 : decode M_W_law.2.1 1114 = .ok (.iconst 3, 1) := by decide +kernel
theorem d_W_law_1115 : decode M_W_law.2.1 1115 = .ok (.iadd, 1) := by decide +kernel
theorem d_W_law_1116 : decode M_W_law.2.1 1116 = .ok (.iaload, 1) := by decide +kernel
theorem d_W_law_1117 : decode M_W_law.2.1 1117 = .ok (.invokevirtual 114, 3) := by decide +kernel
theorem d_W_law_1120 : decode M_W_law.2.1 1120 = .ok (.aload_n 2, 1) := by decide +kernel
theorem d_W_law_1121 : decode M_W_law.2.1 1121 = .ok (.aload_n 0, 1) := by decide +kernel
theorem d_W_law_1122 : decode M_W_law.2.1 1122 = .ok (.iload 4, 2) := by decide +kernel
theorem d_W_law_1124 : decode M_W_law.2.1 1124 = .ok (.iconst 1, 1) := by decide +kernel
theorem d_W_law_1125 : decode M_W_law.2.1 1125 = .ok (.iadd, 1) := by decide +kernel
theorem d_W_law_1126 : decode M_W_law.2.1 1126 = .ok (.iaload, 1) := by decide +kernel
theorem d_W_law_1127 : decode M_W_law.2.1 1127 = .ok (.aload_n 0, 1) := by decide +kernel
theorem d_W_law_1128 : decode M_W_law.2.1 1128 = .ok (.iload 4, 2) := by decide +kernel
theorem d_W_law_1130 : decode M_W_law.2.1 1130 = .ok (.iconst 2, 1) := by decide +kernel
theorem d_W_law_1131 : decode M_W_law.2.1 1131 = .ok (.iadd, 1) := by decide +kernel
theorem d_W_law_1132 : decode M_W_law.2.1 1132 = .ok (.iaload, 1) := by decide +kernel
theorem d_W_law_1133 : decode M_W_law.2.1 1133 = .ok (.aload_n 0, 1) := by decide +kernel
theorem d_W_law_1134 : decode M_W_law.2.1 1134 = .ok (.iload 4, 2) := by decide +kernel
theorem d_W_law_1136 : decode M_W_law.2.1 1136 = .ok (.iconst 3, 1) := by decide +kernel
theorem d_W_law_1137 : decode M_W_law.2.1 1137 = .ok (.iadd, 1) := by decide +kernel
theorem d_W_law_1138 : decode M_W_law.2.1 1138 = .ok (.iaload, 1) := by decide +kernel
theorem d_W_law_1139 : decode M_W_law.2.1 1139 = .ok (.invokevirtual 117, 3) := by decide +kernel
theorem d_W_law_1142 : decode M_W_law.2.1 1142 = .ok (.if_icmp .eq 821, 3) := by decide +kernel
theorem d_W_law_1145 : decode M_W_law.2.1 1145 = .ok (.iconst 0, 1) := by decide +kernel
theorem d_W_law_1146 : decode M_W_law.2.1 1146 = .ok (.ireturn, 1) := by decide +kernel
theorem d_W_law_1147 : decode M_W_law.2.1 1147 = .ok (.aload_n 1, 1) := by decide +kernel
theorem d_W_law_1148 : decode M_W_law.2.1 1148 = .ok (.aload_n 0, 1) := by decide +kernel
theorem d_W_law_1149 : decode M_W_law.2.1 1149 = .ok (.iload 4, 2) := by decide +kernel
theorem d_W_law_1151 : decode M_W_law.2.1 1151 = .ok (.iconst 1, 1) := by decide +kernel
theorem d_W_law_1152 : decode M_W_law.2.1 1152 = .ok (.iadd, 1) := by decide +kernel
theorem d_W_law_1153 : decode M_W_law.2.1 1153 = .ok (.iaload, 1) := by decide +kernel
theorem d_W_law_1154 : decode M_W_law.2.1 1154 = .ok (.aload_n 0, 1) := by decide +kernel
theorem d_W_law_1155 : decode M_W_law.2.1 1155 = .ok (.iload 4, 2) := by decide +kernel
theorem d_W_law_1157 : decode M_W_law.2.1 1157 = .ok (.iconst 2, 1) := by decide +kernel
theorem d_W_law_1158 : decode M_W_law.2.1 1158 = .ok (.iadd, 1) := by decide +kernel
theorem d_W_law_1159 : decode M_W_law.2.1 1159 = .ok (.iaload, 1) := by decide +kernel
theorem d_W_law_1160 : decode M_W_law.2.1 1160 = .ok (.invokevirtual 118, 3) := by decide +kernel
theorem d_W_law_1163 : decode M_W_law.2.1 1163 = .ok (.aload_n 2, 1) := by decide +kernel
theorem d_W_law_1164 : decode M_W_law.2.1 1164 = .ok (.aload_n 0, 1) := by decide +kernel
theorem d_W_law_1165 : decode M_W_law.2.1 1165 = .ok (.iload 4, 2) := by decide +kernel
theorem d_W_law_1167 : decode M_W_law.2.1 1167 = .ok (.iconst 1, 1) := by decide +kernel
theorem d_W_law_1168 : decode M_W_law.2.1 1168 = .ok (.iadd, 1) := by decide +kernel
theorem d_W_law_1169 : decode M_W_law.2.1 1169 = .ok (.iaload, 1) := by decide +kernel
theorem d_W_law_1170 : decode M_W_law.2.1 1170 = .ok (.aload_n 0, 1) := by decide +kernel
theorem d_W_law_1171 : decode M_W_law.2.1 1171 = .ok (.iload 4, 2) := by decide +kernel
theorem d_W_law_1173 : decode M_W_law.2.1 1173 = .ok (.iconst 2, 1) := by decide +kernel
theorem d_W_law_1174 : decode M_W_law.2.1 1174 = .ok (.iadd, 1) := by decide +kernel
theorem d_W_law_1175 : decode M_W_law.2.1 1175 = .ok (.iaload, 1) := by decide +kernel
theorem d_W_law_1176 : decode M_W_law.2.1 1176 = .ok (.invokevirtual 121, 3) := by decide +kernel
theorem d_W_law_1179 : decode M_W_law.2.1 1179 = .ok (.if_icmp .eq 784, 3) := by decide +kernel
theorem d_W_law_1182 : decode M_W_law.2.1 1182 = .ok (.iconst 0, 1) := by decide +kernel
theorem d_W_law_1183 : decode M_W_law.2.1 1183 = .ok (.ireturn, 1) := by decide +kernel
theorem d_W_law_1184 : decode M_W_law.2.1 1184 = .ok (.aload_n 1, 1) := by decide +kernel
theorem d_W_law_1185 : decode M_W_law.2.1 1185 = .ok (.aload_n 0, 1) := by decide +kernel
theorem d_W_law_1186 : decode M_W_law.2.1 1186 = .ok (.iload 4, 2) := by decide +kernel
theorem d_W_law_1188 : decode M_W_law.2.1 1188 = .ok (.iconst 1, 1) := by decide +kernel
theorem d_W_law_1189 : decode M_W_law.2.1 1189 = .ok (.iadd, 1) := by decide +kernel
theorem d_W_law_1190 : decode M_W_law.2.1 1190 = .ok (.iaload, 1) := by decide +kernel
theorem d_W_law_1191 : decode M_W_law.2.1 1191 = .ok (.invokevirtual 122, 3) := by decide +kernel
theorem d_W_law_1194 : decode M_W_law.2.1 1194 = .ok (.aload_n 2, 1) := by decide +kernel
theorem d_W_law_1195 : decode M_W_law.2.1 1195 = .ok (.aload_n 0, 1) := by decide +kernel
theorem d_W_law_1196 : decode M_W_law.2.1 1196 = .ok (.iload 4, 2) := by decide +kernel
theorem d_W_law_1198 : decode M_W_law.2.1 1198 = .ok (.iconst 1, 1) := by decide +kernel
theorem d_W_law_1199 : decode M_W_law.2.1 1199 = .ok (.iadd, 1) := by decide +kernel
theorem d_W_law_1200 : decode M_W_law.2.1 1200 = .ok (.iaload, 1) := by decide +kernel
theorem d_W_law_1201 : decode M_W_law.2.1 1201 = .ok (.invokevirtual 125, 3) := by decide +kernel
theorem d_W_law_1204 : decode M_W_law.2.1 1204 = .ok (.if_icmp .eq 759, 3) := by decide +kernel
theorem d_W_law_1207 : decode M_W_law.2.1 1207 = .ok (.iconst 0, 1) := by decide +kernel
theorem d_W_law_1208 : decode M_W_law.2.1 1208 = .ok (.ireturn, 1) := by decide +kernel
theorem d_W_law_1209 : decode M_W_law.2.1 1209 = .ok (.aload_n 1, 1) := by decide +kernel
theorem d_W_law_1210 : decode M_W_law.2.1 1210 = .ok (.invokevirtual 126, 3) := by decide +kernel
theorem d_W_law_1213 : decode M_W_law.2.1 1213 = .ok (.aload_n 2, 1) := by decide +kernel
theorem d_W_law_1214 : decode M_W_law.2.1 1214 = .ok (.invokevirtual 129, 3) := by decide +kernel
theorem d_W_law_1217 : decode M_W_law.2.1 1217 = .ok (.if_icmp .eq 746, 3) := by decide +kernel
theorem d_W_law_1220 : decode M_W_law.2.1 1220 = .ok (.iconst 0, 1) := by decide +kernel
theorem d_W_law_1221 : decode M_W_law.2.1 1221 = .ok (.ireturn, 1) := by decide +kernel
theorem d_W_law_1222 : decode M_W_law.2.1 1222 = .ok (.aload_n 1, 1) := by decide +kernel
theorem d_W_law_1223 : decode M_W_law.2.1 1223 = .ok (.aload_n 0, 1) := by decide +kernel
theorem d_W_law_1224 : decode M_W_law.2.1 1224 = .ok (.iload 4, 2) := by decide +kernel
theorem d_W_law_1226 : decode M_W_law.2.1 1226 = .ok (.iconst 1, 1) := by decide +kernel
theorem d_W_law_1227 : decode M_W_law.2.1 1227 = .ok (.iadd, 1) := by decide +kernel
theorem d_W_law_1228 : decode M_W_law.2.1 1228 = .ok (.iaload, 1) := by decide +kernel
theorem d_W_law_1229 : decode M_W_law.2.1 1229 = .ok (.aload_n 0, 1) := by decide +kernel
theorem d_W_law_1230 : decode M_W_law.2.1 1230 = .ok (.iload 4, 2) := by decide +kernel
theorem d_W_law_1232 : decode M_W_law.2.1 1232 = .ok (.iconst 2, 1) := by decide +kernel
theorem d_W_law_1233 : decode M_W_law.2.1 1233 = .ok (.iadd, 1) := by decide +kernel
theorem d_W_law_1234 : decode M_W_law.2.1 1234 = .ok (.iaload, 1) := by decide +kernel
theorem d_W_law_1235 : decode M_W_law.2.1 1235 = .ok (.invokevirtual 130, 3) := by decide +kernel
theorem d_W_law_1238 : decode M_W_law.2.1 1238 = .ok (.aload_n 2, 1) := by decide +kernel
theorem d_W_law_1239 : decode M_W_law.2.1 1239 = .ok (.aload_n 0, 1) := by decide +kernel
theorem d_W_law_1240 : decode M_W_law.2.1 1240 = .ok (.iload 4, 2) := by decide +kernel
theorem d_W_law_1242 : decode M_W_law.2.1 1242 = .ok (.iconst 1, 1) := by decide +kernel
theorem d_W_law_1243 : decode M_W_law.2.1 1243 = .ok (.iadd, 1) := by decide +kernel
theorem d_W_law_1244 : decode M_W_law.2.1 1244 = .ok (.iaload, 1) := by decide +kernel
theorem d_W_law_1245 : decode M_W_law.2.1 1245 = .ok (.aload_n 0, 1) := by decide +kernel
theorem d_W_law_1246 : decode M_W_law.2.1 1246 = .ok (.iload 4, 2) := by decide +kernel
theorem d_W_law_1248 : decode M_W_law.2.1 1248 = .ok (.iconst 2, 1) := by decide +kernel
theorem d_W_law_1249 : decode M_W_law.2.1 1249 = .ok (.iadd, 1) := by decide +kernel
theorem d_W_law_1250 : decode M_W_law.2.1 1250 = .ok (.iaload, 1) := by decide +kernel
theorem d_W_law_1251 : decode M_W_law.2.1 1251 = .ok (.invokevirtual 133, 3) := by decide +kernel
theorem d_W_law_1254 : decode M_W_law.2.1 1254 = .ok (.if_icmp .eq 709, 3) := by decide +kernel
theorem d_W_law_1257 : decode M_W_law.2.1 1257 = .ok (.iconst 0, 1) := by decide +kernel
theorem d_W_law_1258 : decode M_W_law.2.1 1258 = .ok (.ireturn, 1) := by decide +kernel
theorem d_W_law_1259 : decode M_W_law.2.1 1259 = .ok (.aload_n 1, 1) := by decide +kernel
theorem d_W_law_1260 : decode M_W_law.2.1 1260 = .ok (.aload_n 0, 1) := by decide +kernel
theorem d_W_law_1261 : decode M_W_law.2.1 1261 = .ok (.iload 4, 2) := by decide +kernel
theorem d_W_law_1263 : decode M_W_law.2.1 1263 = .ok (.iconst 1, 1) := by decide +kernel
theorem d_W_law_1264 : decode M_W_law.2.1 1264 = .ok (.iadd, 1) := by decide +kernel
theorem d_W_law_1265 : decode M_W_law.2.1 1265 = .ok (.iaload, 1) := by decide +kernel
theorem d_W_law_1266 : decode M_W_law.2.1 1266 = .ok (.invokevirtual 134, 3) := by decide +kernel
theorem d_W_law_1269 : decode M_W_law.2.1 1269 = .ok (.aload_n 2, 1) := by decide +kernel
theorem d_W_law_1270 : decode M_W_law.2.1 1270 = .ok (.aload_n 0, 1) := by decide +kernel
theorem d_W_law_1271 : decode M_W_law.2.1 1271 = .ok (.iload 4, 2) := by decide +kernel
theorem d_W_law_1273 : decode M_W_law.2.1 1273 = .ok (.iconst 1, 1) := by decide +kernel
theorem d_W_law_1274 : decode M_W_law.2.1 1274 = .ok (.iadd, 1) := by decide +kernel
theorem d_W_law_1275 : decode M_W_law.2.1 1275 = .ok (.iaload, 1) := by decide +kernel
theorem d_W_law_1276 : decode M_W_law.2.1 1276 = .ok (.invokevirtual 137, 3) := by decide +kernel
theorem d_W_law_1279 : decode M_W_law.2.1 1279 = .ok (.if_icmp .eq 684, 3) := by decide +kernel
theorem d_W_law_1282 : decode M_W_law.2.1 1282 = .ok (.iconst 0, 1) := by decide +kernel
theorem d_W_law_1283 : decode M_W_law.2.1 1283 = .ok (.ireturn, 1) := by decide +kernel
theorem d_W_law_1284 : decode M_W_law.2.1 1284 = .ok (.aload_n 1, 1) := by decide +kernel
theorem d_W_law_1285 : decode M_W_law.2.1 1285 = .ok (.aload_n 0, 1) := by decide +kernel
theorem d_W_law_1286 : decode M_W_law.2.1 1286 = .ok (.iload 4, 2) := by decide +kernel
theorem d_W_law_1288 : decode M_W_law.2.1 1288 = .ok (.iconst 1, 1) := by decide +kernel
theorem d_W_law_1289 : decode M_W_law.2.1 1289 = .ok (.iadd, 1) := by decide +kernel
theorem d_W_law_1290 : decode M_W_law.2.1 1290 = .ok (.iaload, 1) := by decide +kernel
theorem d_W_law_1291 : decode M_W_law.2.1 1291 = .ok (.aload_n 0, 1) := by decide +kernel
theorem d_W_law_1292 : decode M_W_law.2.1 1292 = .ok (.iload 4, 2) := by decide +kernel
theorem d_W_law_1294 : decode M_W_law.2.1 1294 = .ok (.iconst 2, 1) := by decide +kernel
theorem d_W_law_1295 : decode M_W_law.2.1 1295 = .ok (.iadd, 1) := by decide +kernel
theorem d_W_law_1296 : decode M_W_law.2.1 1296 = .ok (.iaload, 1) := by decide +kernel
theorem d_W_law_1297 : decode M_W_law.2.1 1297 = .ok (.invokevirtual 138, 3) := by decide +kernel
theorem d_W_law_1300 : decode M_W_law.2.1 1300 = .ok (.aload_n 2, 1) := by decide +kernel
theorem d_W_law_1301 : decode M_W_law.2.1 1301 = .ok (.aload_n 0, 1) := by decide +kernel
theorem d_W_law_1302 : decode M_W_law.2.1 1302 = .ok (.iload 4, 2) := by decide +kernel
theorem d_W_law_1304 : decode M_W_law.2.1 1304 = .ok (.iconst 1, 1) := by decide +kernel
theorem d_W_law_1305 : decode M_W_law.2.1 1305 = .ok (.iadd, 1) := by decide +kernel
theorem d_W_law_1306 : decode M_W_law.2.1 1306 = .ok (.iaload, 1) := by decide +kernel
theorem d_W_law_1307 : decode M_W_law.2.1 1307 = .ok (.aload_n 0, 1) := by decide +kernel
theorem d_W_law_1308 : decode M_W_law.2.1 1308 = .ok (.iload 4, 2) := by decide +kernel
theorem d_W_law_1310 : decode M_W_law.2.1 1310 = .ok (.iconst 2, 1) := by decide +kernel
theorem d_W_law_1311 : decode M_W_law.2.1 1311 = .ok (.iadd, 1) := by decide +kernel
theorem d_W_law_1312 : decode M_W_law.2.1 1312 = .ok (.iaload, 1) := by decide +kernel
theorem d_W_law_1313 : decode M_W_law.2.1 1313 = .ok (.invokevirtual 141, 3) := by decide +kernel
theorem d_W_law_1316 : decode M_W_law.2.1 1316 = .ok (.if_icmp .eq 647, 3) := by decide +kernel
theorem d_W_law_1319 : decode M_W_law.2.1 1319 = .ok (.iconst 0, 1) := by decide +kernel
theorem d_W_law_1320 : decode M_W_law.2.1 1320 = .ok (.ireturn, 1) := by decide +kernel
theorem d_W_law_1321 : decode M_W_law.2.1 1321 = .ok (.aload_n 1, 1) := by decide +kernel
theorem d_W_law_1322 : decode M_W_law.2.1 1322 = .ok (.aload_n 0, 1) := by decide +kernel
theorem d_W_law_1323 : decode M_W_law.2.1 1323 = .ok (.iload 4, 2) := by decide +kernel
theorem d_W_law_1325 : decode M_W_law.2.1 1325 = .ok (.iconst 1, 1) := by decide +kernel
theorem d_W_law_1326 : decode M_W_law.2.1 1326 = .ok (.iadd, 1) := by decide +kernel
theorem d_W_law_1327 : decode M_W_law.2.1 1327 = .ok (.iaload, 1) := by decide +kernel
theorem d_W_law_1328 : decode M_W_law.2.1 1328 = .ok (.aload_n 0, 1) := by decide +kernel
theorem d_W_law_1329 : decode M_W_law.2.1 1329 = .ok (.iload 4, 2) := by decide +kernel
theorem d_W_law_1331 : decode M_W_law.2.1 1331 = .ok (.iconst 2, 1) := by decide +kernel
theorem d_W_law_1332 : decode M_W_law.2.1 1332 = .ok (.iadd, 1) := by decide +kernel
theorem d_W_law_1333 : decode M_W_law.2.1 1333 = .ok (.iaload, 1) := by decide +kernel
theorem d_W_law_1334 : decode M_W_law.2.1 1334 = .ok (.aload_n 0, 1) := by decide +kernel
theorem d_W_law_1335 : decode M_W_law.2.1 1335 = .ok (.iload 4, 2) := by decide +kernel
theorem d_W_law_1337 : decode M_W_law.2.1 1337 = .ok (.iconst 3, 1) := by decide +kernel
theorem d_W_law_1338 : decode M_W_law.2.1 1338 = .ok (.iadd, 1) := by decide +kernel
theorem d_W_law_1339 : decode M_W_law.2.1 1339 = .ok (.iaload, 1) := by decide +kernel
theorem d_W_law_1340 : decode M_W_law.2.1 1340 = .ok (.aload_n 0, 1) := by decide +kernel
theorem d_W_law_1341 : decode M_W_law.2.1 1341 = .ok (.iload 4, 2) := by decide +kernel
theorem d_W_law_1343 : decode M_W_law.2.1 1343 = .ok (.iconst 4, 1) := by decide +kernel
theorem d_W_law_1344 : decode M_W_law.2.1 1344 = .ok (.iadd, 1) := by decide +kernel
theorem d_W_law_1345 : decode M_W_law.2.1 1345 = .ok (.iaload, 1) := by decide +kernel
theorem d_W_law_1346 : decode M_W_law.2.1 1346 = .ok (.aload_n 0, 1) := by decide +kernel
theorem d_W_law_1347 : decode M_W_law.2.1 1347 = .ok (.iload 4, 2) := by decide +kernel
theorem d_W_law_1349 : decode M_W_law.2.1 1349 = .ok (.iconst 5, 1) := by decide +kernel
theorem d_W_law_1350 : decode M_W_law.2.1 1350 = .ok (.iadd, 1) := by decide +kernel
theorem d_W_law_1351 : decode M_W_law.2.1 1351 = .ok (.iaload, 1) := by decide +kernel
theorem d_W_law_1352 : decode M_W_law.2.1 1352 = .ok (.invokevirtual 142, 3) := by decide +kernel
theorem d_W_law_1355 : decode M_W_law.2.1 1355 = .ok (.aload_n 2, 1) := by decide +kernel
theorem d_W_law_1356 : decode M_W_law.2.1 1356 = .ok (.aload_n 0, 1) := by decide +kernel
theorem d_W_law_1357 : decode M_W_law.2.1 1357 = .ok (.iload 4, 2) := by decide +kernel
theorem d_W_law_1359 : decode M_W_law.2.1 1359 = .ok (.iconst 1, 1) := by decide +kernel
theorem d_W_law_1360 : decode M_W_law.2.1 1360 = .ok (.iadd, 1) := by decide +kernel
theorem d_W_law_1361 : decode M_W_law.2.1 1361 = .ok (.iaload, 1) := by decide +kernel
theorem d_W_law_1362 : decode M_W_law.2.1 1362 = .ok (.aload_n 0, 1) := by decide +kernel
theorem d_W_law_1363 : decode M_W_law.2.1 1363 = .ok (.iload 4, 2) := by decide +kernel
theorem d_W_law_1365 : decode M_W_law.2.1 1365 = .ok (.iconst 2, 1) := by decide +kernel
theorem d_W_law_1366 : decode M_W_law.2.1 1366 = .ok (.iadd, 1) := by decide +kernel
theorem d_W_law_1367 : decode M_W_law.2.1 1367 = .ok (.iaload, 1) := by decide +kernel
theorem d_W_law_1368 : decode M_W_law.2.1 1368 = .ok (.aload_n 0, 1) := by decide +kernel
theorem d_W_law_1369 : decode M_W_law.2.1 1369 = .ok (.iload 4, 2) := by decide +kernel
theorem d_W_law_1371 : decode M_W_law.2.1 1371 = .ok (.iconst 3, 1) := by decide +kernel
theorem d_W_law_1372 : decode M_W_law.2.1 1372 = .ok (.iadd, 1) := by decide +kernel
theorem d_W_law_1373 : decode M_W_law.2.1 1373 = .ok (.iaload, 1) := by decide +kernel
theorem d_W_law_1374 : decode M_W_law.2.1 1374 = .ok (.aload_n 0, 1) := by decide +kernel
theorem d_W_law_1375 : decode M_W_law.2.1 1375 = .ok (.iload 4, 2) := by decide +kernel
theorem d_W_law_1377 : decode M_W_law.2.1 1377 = .ok (.iconst 4, 1) := by decide +kernel
theorem d_W_law_1378 : decode M_W_law.2.1 1378 = .ok (.iadd, 1) := by decide +kernel
theorem d_W_law_1379 : decode M_W_law.2.1 1379 = .ok (.iaload, 1) := by decide +kernel
theorem d_W_law_1380 : decode M_W_law.2.1 1380 = .ok (.aload_n 0, 1) := by decide +kernel
theorem d_W_law_1381 : decode M_W_law.2.1 1381 = .ok (.iload 4, 2) := by decide +kernel
theorem d_W_law_1383 : decode M_W_law.2.1 1383 = .ok (.iconst 5, 1) := by decide +kernel
theorem d_W_law_1384 : decode M_W_law.2.1 1384 = .ok (.iadd, 1) := by decide +kernel
theorem d_W_law_1385 : decode M_W_law.2.1 1385 = .ok (.iaload, 1) := by decide +kernel
theorem d_W_law_1386 : decode M_W_law.2.1 1386 = .ok (.invokevirtual 145, 3) := by decide +kernel
theorem d_W_law_1389 : decode M_W_law.2.1 1389 = .ok (.if_icmp .eq 574, 3) := by decide +kernel
theorem d_W_law_1392 : decode M_W_law.2.1 1392 = .ok (.iconst 0, 1) := by decide +kernel
theorem d_W_law_1393 : decode M_W_law.2.1 1393 = .ok (.ireturn, 1) := by decide +kernel
theorem d_W_law_1394 : decode M_W_law.2.1 1394 = .ok (.aload_n 1, 1) := by decide +kernel
theorem d_W_law_1395 : decode M_W_law.2.1 1395 = .ok (.invokevirtual 146, 3) := by decide +kernel
theorem d_W_law_1398 : decode M_W_law.2.1 1398 = .ok (.aload_n 2, 1) := by decide +kernel
theorem d_W_law_1399 : decode M_W_law.2.1 1399 = .ok (.invokevirtual 149, 3) := by decide +kernel
theorem d_W_law_1402 : decode M_W_law.2.1 1402 = .ok (.if_icmp .eq 561, 3) := by decide +kernel
theorem d_W_law_1405 : decode M_W_law.2.1 1405 = .ok (.iconst 0, 1) := by decide +kernel
theorem d_W_law_1406 : decode M_W_law.2.1 1406 = .ok (.ireturn, 1) := by decide +kernel
theorem d_W_law_1407 : decode M_W_law.2.1 1407 = .ok (.aload_n 1, 1) := by decide +kernel
theorem d_W_law_1408 : decode M_W_law.2.1 1408 = .ok (.aload_n 0, 1) := by decide +kernel
theorem d_W_law_1409 : decode M_W_law.2.1 1409 = .ok (.iload 4, 2) := by decide +kernel
theorem d_W_law_1411 : decode M_W_law.2.1 1411 = .ok (.iconst 1, 1) := by decide +kernel
theorem d_W_law_1412 : decode M_W_law.2.1 1412 = .ok (.iadd, 1) := by decide +kernel
theorem d_W_law_1413 : decode M_W_law.2.1 1413 = .ok (.iaload, 1) := by decide +kernel
theorem d_W_law_1414 : decode M_W_law.2.1 1414 = .ok (.aload_n 0, 1) := by decide +kernel
theorem d_W_law_1415 : decode M_W_law.2.1 1415 = .ok (.iload 4, 2) := by decide +kernel
theorem d_W_law_1417 : decode M_W_law.2.1 1417 = .ok (.iconst 2, 1) := by decide +kernel
theorem d_W_law_1418 : decode M_W_law.2.1 1418 = .ok (.iadd, 1) := by decide +kernel
theorem d_W_law_1419 : decode M_W_law.2.1 1419 = .ok (.iaload, 1) := by decide +kernel
theorem d_W_law_1420 : decode M_W_law.2.1 1420 = .ok (.invokevirtual 150, 3) := by decide +kernel
theorem d_W_law_1423 : decode M_W_law.2.1 1423 = .ok (.aload_n 2, 1) := by decide +kernel
theorem d_W_law_1424 : decode M_W_law.2.1 1424 = .ok (.aload_n 0, 1) := by decide +kernel
theorem d_W_law_1425 : decode M_W_law.2.1 1425 = .ok (.iload 4, 2) := by decide +kernel
theorem d_W_law_1427 : decode M_W_law.2.1 1427 = .ok (.iconst 1, 1) := by decide +kernel
theorem d_W_law_1428 : decode M_W_law.2.1 1428 = .ok (.iadd, 1) := by decide +kernel
theorem d_W_law_1429 : decode M_W_law.2.1 1429 = .ok (.iaload, 1) := by decide +kernel
theorem d_W_law_1430 : decode M_W_law.2.1 1430 = .ok (.aload_n 0, 1) := by decide +kernel
theorem d_W_law_1431 : decode M_W_law.2.1 1431 = .ok (.iload 4, 2) := by decide +kernel
theorem d_W_law_1433 : decode M_W_law.2.1 1433 = .ok (.iconst 2, 1) := by decide +kernel
theorem d_W_law_1434 : decode M_W_law.2.1 1434 = .ok (.iadd, 1) := by decide +kernel
theorem d_W_law_1435 : decode M_W_law.2.1 1435 = .ok (.iaload, 1) := by decide +kernel
theorem d_W_law_1436 : decode M_W_law.2.1 1436 = .ok (.invokevirtual 153, 3) := by decide +kernel
theorem d_W_law_1439 : decode M_W_law.2.1 1439 = .ok (.if_icmp .eq 524, 3) := by decide +kernel
theorem d_W_law_1442 : decode M_W_law.2.1 1442 = .ok (.iconst 0, 1) := by decide +kernel
theorem d_W_law_1443 : decode M_W_law.2.1 1443 = .ok (.ireturn, 1) := by decide +kernel
theorem d_W_law_1444 : decode M_W_law.2.1 1444 = .ok (.aload_n 1, 1) := by decide +kernel
theorem d_W_law_1445 : decode M_W_law.2.1 1445 = .ok (.aload_n 0, 1) := by decide +kernel
theorem d_W_law_1446 : decode M_W_law.2.1 1446 = .ok (.iload 4, 2) := by decide +kernel
theorem d_W_law_1448 : decode M_W_law.2.1 1448 = .ok (.iconst 1, 1) := by decide +kernel
theorem d_W_law_1449 : decode M_W_law.2.1 1449 = .ok (.iadd, 1) := by decide +kernel
theorem d_W_law_1450 : decode M_W_law.2.1 1450 = .ok (.iaload, 1) := by decide +kernel
theorem d_W_law_1451 : decode M_W_law.2.1 1451 = .ok (.invokevirtual 154, 3) := by decide +kernel
theorem d_W_law_1454 : decode M_W_law.2.1 1454 = .ok (.aload_n 2, 1) := by decide +kernel
theorem d_W_law_1455 : decode M_W_law.2.1 1455 = .ok (.aload_n 0, 1) := by decide +kernel
theorem d_W_law_1456 : decode M_W_law.2.1 1456 = .ok (.iload 4, 2) := by decide +kernel
theorem d_W_law_1458 : decode M_W_law.2.1 1458 = .ok (.iconst 1, 1) := by decide +kernel
theorem d_W_law_1459 : decode M_W_law.2.1 1459 = .ok (.iadd, 1) := by decide +kernel
theorem d_W_law_1460 : decode M_W_law.2.1 1460 = .ok (.iaload, 1) := by decide +kernel
theorem d_W_law_1461 : decode M_W_law.2.1 1461 = .ok (.invokevirtual 157, 3) := by decide +kernel
theorem d_W_law_1464 : decode M_W_law.2.1 1464 = .ok (.if_icmp .eq 499, 3) := by decide +kernel
theorem d_W_law_1467 : decode M_W_law.2.1 1467 = .ok (.iconst 0, 1) := by decide +kernel
theorem d_W_law_1468 : decode M_W_law.2.1 1468 = .ok (.ireturn, 1) := by decide +kernel
theorem d_W_law_1469 : decode M_W_law.2.1 1469 = .ok (.aload_n 1, 1) := by decide +kernel
theorem d_W_law_1470 : decode M_W_law.2.1 1470 = .ok (.aload_n 0, 1) := by decide +kernel
theorem d_W_law_1471 : decode M_W_law.2.1 1471 = .ok (.iload 4, 2) := by decide +kernel
theorem d_W_law_1473 : decode M_W_law.2.1 1473 = .ok (.iconst 1, 1) := by decide +kernel
theorem d_W_law_1474 : decode M_W_law.2.1 1474 = .ok (.iadd, 1) := by decide +kernel
theorem d_W_law_1475 : decode M_W_law.2.1 1475 = .ok (.iaload, 1) := by decide +kernel
theorem d_W_law_1476 : decode M_W_law.2.1 1476 = .ok (.invokevirtual 158, 3) := by decide +kernel
theorem d_W_law_1479 : decode M_W_law.2.1 1479 = .ok (.aload_n 2, 1) := by decide +kernel
theorem d_W_law_1480 : decode M_W_law.2.1 1480 = .ok (.aload_n 0, 1) := by decide +kernel
theorem d_W_law_1481 : decode M_W_law.2.1 1481 = .ok (.iload 4, 2) := by decide +kernel
theorem d_W_law_1483 : decode M_W_law.2.1 1483 = .ok (.iconst 1, 1) := by decide +kernel
theorem d_W_law_1484 : decode M_W_law.2.1 1484 = .ok (.iadd, 1) := by decide +kernel
theorem d_W_law_1485 : decode M_W_law.2.1 1485 = .ok (.iaload, 1) := by decide +kernel
theorem d_W_law_1486 : decode M_W_law.2.1 1486 = .ok (.invokevirtual 161, 3) := by decide +kernel
theorem d_W_law_1489 : decode M_W_law.2.1 1489 = .ok (.if_icmp .eq 474, 3) := by decide +kernel
theorem d_W_law_1492 : decode M_W_law.2.1 1492 = .ok (.iconst 0, 1) := by decide +kernel
theorem d_W_law_1493 : decode M_W_law.2.1 1493 = .ok (.ireturn, 1) := by decide +kernel
theorem d_W_law_1494 : decode M_W_law.2.1 1494 = .ok (.aload_n 1, 1) := by decide +kernel
theorem d_W_law_1495 : decode M_W_law.2.1 1495 = .ok (.aload_n 0, 1) := by decide +kernel
theorem d_W_law_1496 : decode M_W_law.2.1 1496 = .ok (.iload 4, 2) := by decide +kernel
theorem d_W_law_1498 : decode M_W_law.2.1 1498 = .ok (.iconst 1, 1) := by decide +kernel
theorem d_W_law_1499 : decode M_W_law.2.1 1499 = .ok (.iadd, 1) := by decide +kernel
theorem d_W_law_1500 : decode M_W_law.2.1 1500 = .ok (.iaload, 1) := by decide +kernel
theorem d_W_law_1501 : decode M_W_law.2.1 1501 = .ok (.aload_n 0, 1) := by decide +kernel
theorem d_W_law_1502 : decode M_W_law.2.1 1502 = .ok (.iload 4, 2) := by decide +kernel
theorem d_W_law_1504 : decode M_W_law.2.1 1504 = .ok (.iconst 2, 1) := by decide +kernel
theorem d_W_law_1505 : decode M_W_law.2.1 1505 = .ok (.iadd, 1) := by decide +kernel
theorem d_W_law_1506 : decode M_W_law.2.1 1506 = .ok (.iaload, 1) := by decide +kernel
theorem d_W_law_1507 : decode M_W_law.2.1 1507 = .ok (.invokevirtual 162, 3) := by decide +kernel
theorem d_W_law_1510 : decode M_W_law.2.1 1510 = .ok (.aload_n 2, 1) := by decide +kernel
theorem d_W_law_1511 : decode M_W_law.2.1 1511 = .ok (.aload_n 0, 1) := by decide +kernel
theorem d_W_law_1512 : decode M_W_law.2.1 1512 = .ok (.iload 4, 2) := by decide +kernel
theorem d_W_law_1514 : decode M_W_law.2.1 1514 = .ok (.iconst 1, 1) := by decide +kernel
theorem d_W_law_1515 : decode M_W_law.2.1 1515 = .ok (.iadd, 1) := by decide +kernel
theorem d_W_law_1516 : decode M_W_law.2.1 1516 = .ok (.iaload, 1) := by decide +kernel
theorem d_W_law_1517 : decode M_W_law.2.1 1517 = .ok (.aload_n 0, 1) := by decide +kernel
theorem d_W_law_1518 : decode M_W_law.2.1 1518 = .ok (.iload 4, 2) := by decide +kernel
theorem d_W_law_1520 : decode M_W_law.2.1 1520 = .ok (.iconst 2, 1) := by decide +kernel
theorem d_W_law_1521 : decode M_W_law.2.1 1521 = .ok (.iadd, 1) := by decide +kernel
theorem d_W_law_1522 : decode M_W_law.2.1 1522 = .ok (.iaload, 1) := by decide +kernel
theorem d_W_law_1523 : decode M_W_law.2.1 1523 = .ok (.invokevirtual 165, 3) := by decide +kernel
theorem d_W_law_1526 : decode M_W_law.2.1 1526 = .ok (.if_icmp .eq 437, 3) := by decide +kernel
theorem d_W_law_1529 : decode M_W_law.2.1 1529 = .ok (.iconst 0, 1) := by decide +kernel
theorem d_W_law_1530 : decode M_W_law.2.1 1530 = .ok (.ireturn, 1) := by decide +kernel
theorem d_W_law_1531 : decode M_W_law.2.1 1531 = .ok (.aload_n 1, 1) := by decide +kernel
theorem d_W_law_1532 : decode M_W_law.2.1 1532 = .ok (.aload_n 0, 1) := by decide +kernel
theorem d_W_law_1533 : decode M_W_law.2.1 1533 = .ok (.iload 4, 2) := by decide +kernel
theorem d_W_law_1535 : decode M_W_law.2.1 1535 = .ok (.iconst 1, 1) := by decide +kernel
theorem d_W_law_1536 : decode M_W_law.2.1 1536 = .ok (.iadd, 1) := by decide +kernel
theorem d_W_law_1537 : decode M_W_law.2.1 1537 = .ok (.iaload, 1) := by decide +kernel
theorem d_W_law_1538 : decode M_W_law.2.1 1538 = .ok (.aload_n 0, 1) := by decide +kernel
theorem d_W_law_1539 : decode M_W_law.2.1 1539 = .ok (.iload 4, 2) := by decide +kernel
theorem d_W_law_1541 : decode M_W_law.2.1 1541 = .ok (.iconst 2, 1) := by decide +kernel
theorem d_W_law_1542 : decode M_W_law.2.1 1542 = .ok (.iadd, 1) := by decide +kernel
theorem d_W_law_1543 : decode M_W_law.2.1 1543 = .ok (.iaload, 1) := by decide +kernel
theorem d_W_law_1544 : decode M_W_law.2.1 1544 = .ok (.invokevirtual 166, 3) := by decide +kernel
theorem d_W_law_1547 : decode M_W_law.2.1 1547 = .ok (.aload_n 2, 1) := by decide +kernel
theorem d_W_law_1548 : decode M_W_law.2.1 1548 = .ok (.aload_n 0, 1) := by decide +kernel
theorem d_W_law_1549 : decode M_W_law.2.1 1549 = .ok (.iload 4, 2) := by decide +kernel
theorem d_W_law_1551 : decode M_W_law.2.1 1551 = .ok (.iconst 1, 1) := by decide +kernel
theorem d_W_law_1552 : decode M_W_law.2.1 1552 = .ok (.iadd, 1) := by decide +kernel
theorem d_W_law_1553 : decode M_W_law.2.1 1553 = .ok (.iaload, 1) := by decide +kernel
theorem d_W_law_1554 : decode M_W_law.2.1 1554 = .ok (.aload_n 0, 1) := by decide +kernel
theorem d_W_law_1555 : decode M_W_law.2.1 1555 = .ok (.iload 4, 2) := by decide +kernel
theorem d_W_law_1557 : decode M_W_law.2.1 1557 = .ok (.iconst 2, 1) := by decide +kernel
theorem d_W_law_1558 : decode M_W_law.2.1 1558 = .ok (.iadd, 1) := by decide +kernel
theorem d_W_law_1559 : decode M_W_law.2.1 1559 = .ok (.iaload, 1) := by decide +kernel
theorem d_W_law_1560 : decode M_W_law.2.1 1560 = .ok (.invokevirtual 169, 3) := by decide +kernel
theorem d_W_law_1563 : decode M_W_law.2.1 1563 = .ok (.if_icmp .eq 400, 3) := by decide +kernel
theorem d_W_law_1566 : decode M_W_law.2.1 1566 = .ok (.iconst 0, 1) := by decide +kernel
theorem d_W_law_1567 : decode M_W_law.2.1 1567 = .ok (.ireturn, 1) := by decide +kernel
theorem d_W_law_1568 : decode M_W_law.2.1 1568 = .ok (.aload_n 1, 1) := by decide +kernel
theorem d_W_law_1569 : decode M_W_law.2.1 1569 = .ok (.aload_n 0, 1) := by decide +kernel
theorem d_W_law_1570 : decode M_W_law.2.1 1570 = .ok (.iload 4, 2) := by decide +kernel
theorem d_W_law_1572 : decode M_W_law.2.1 1572 = .ok (.iconst 1, 1) := by decide +kernel
theorem d_W_law_1573 : decode M_W_law.2.1 1573 = .ok (.iadd, 1) := by decide +kernel
theorem d_W_law_1574 : decode M_W_law.2.1 1574 = .ok (.iaload, 1) := by decide +kernel
theorem d_W_law_1575 : decode M_W_law.2.1 1575 = .ok (.aload_n 0, 1) := by decide +kernel
theorem d_W_law_1576 : decode M_W_law.2.1 1576 = .ok (.iload 4, 2) := by decide +kernel
theorem d_W_law_1578 : decode M_W_law.2.1 1578 = .ok (.iconst 2, 1) := by decide +kernel
theorem d_W_law_1579 : decode M_W_law.2.1 1579 = .ok (.iadd, 1) := by decide +kernel
theorem d_W_law_1580 : decode M_W_law.2.1 1580 = .ok (.iaload, 1) := by decide +kernel
theorem d_W_law_1581 : decode M_W_law.2.1 1581 = .ok (.aload_n 0, 1) := by decide +kernel
theorem d_W_law_1582 : decode M_W_law.2.1 1582 = .ok (.iload 4, 2) := by decide +kernel
theorem d_W_law_1584 : decode M_W_law.2.1 1584 = .ok (.iconst 3, 1) := by decide +kernel
theorem d_W_law_1585 : decode M_W_law.2.1 1585 = .ok (.iadd, 1) := by decide +kernel
theorem d_W_law_1586 : decode M_W_law.2.1 1586 = .ok (.iaload, 1) := by decide +kernel
theorem d_W_law_1587 : decode M_W_law.2.1 1587 = .ok (.invokevirtual 170, 3) := by decide +kernel
theorem d_W_law_1590 : decode M_W_law.2.1 1590 = .ok (.aload_n 2, 1) := by decide +kernel
theorem d_W_law_1591 : decode M_W_law.2.1 1591 = .ok (.aload_n 0, 1) := by decide +kernel
theorem d_W_law_1592 : decode M_W_law.2.1 1592 = .ok (.iload 4, 2) := by decide +kernel
theorem d_W_law_1594 : decode M_W_law.2.1 1594 = .ok (.iconst 1, 1) := by decide +kernel
theorem d_W_law_1595 : decode M_W_law.2.1 1595 = .ok (.iadd, 1) := by decide +kernel
theorem d_W_law_1596 : decode M_W_law.2.1 1596 = .ok (.iaload, 1) := by decide +kernel
theorem d_W_law_1597 : decode M_W_law.2.1 1597 = .ok (.aload_n 0, 1) := by decide +kernel
theorem d_W_law_1598 : decode M_W_law.2.1 1598 = .ok (.iload 4, 2) := by decide +kernel
theorem d_W_law_1600 : decode M_W_law.2.1 1600 = .ok (.iconst 2, 1) := by decide +kernel
theorem d_W_law_1601 : decode M_W_law.2.1 1601 = .ok (.iadd, 1) := by decide +kernel
theorem d_W_law_1602 : decode M_W_law.2.1 1602 = .ok (.iaload, 1) := by decide +kernel
theorem d_W_law_1603 : decode M_W_law.2.1 1603 = .ok (.aload_n 0, 1) := by decide +kernel
theorem d_W_law_1604 : decode M_W_law.2.1 1604 = .ok (.iload 4, 2) := by decide +kernel
theorem d_W_law_1606 : decode M_W_law.2.1 1606 = .ok (.iconst 3, 1) := by decide +kernel
theorem d_W_law_1607 : decode M_W_law.2.1 1607 = .ok (.iadd, 1) := by decide +kernel
theorem d_W_law_1608 : decode M_W_law.2.1 1608 = .ok (.iaload, 1) := by decide +kernel
theorem d_W_law_1609 : decode M_W_law.2.1 1609 = .ok (.invokevirtual 173, 3) := by decide +kernel
theorem d_W_law_1612 : decode M_W_law.2.1 1612 = .ok (.if_icmp .eq 351, 3) := by decide +kernel
theorem d_W_law_1615 : decode M_W_law.2.1 1615 = .ok (.iconst 0, 1) := by decide +kernel
theorem d_W_law_1616 : decode M_W_law.2.1 1616 = .ok (.ireturn, 1) := by decide +kernel
theorem d_W_law_1617 : decode M_W_law.2.1 1617 = .ok (.aload_n 1, 1) := by decide +kernel
theorem d_W_law_1618 : decode M_W_law.2.1 1618 = .ok (.aload_n 0, 1) := by decide +kernel
theorem d_W_law_1619 : decode M_W_law.2.1 1619 = .ok (.iload 4, 2) := by decide +kernel
theorem d_W_law_1621 : decode M_W_law.2.1 1621 = .ok (.iconst 1, 1) := by decide +kernel
theorem d_W_law_1622 : decode M_W_law.2.1 1622 = .ok (.iadd, 1) := by decide +kernel
theorem d_W_law_1623 : decode M_W_law.2.1 1623 = .ok (.iaload, 1) := by decide +kernel
theorem d_W_law_1624 : decode M_W_law.2.1 1624 = .ok (.invokevirtual 174, 3) := by decide +kernel
theorem d_W_law_1627 : decode M_W_law.2.1 1627 = .ok (.aload_n 2, 1) := by decide +kernel
theorem d_W_law_1628 : decode M_W_law.2.1 1628 = .ok (.aload_n 0, 1) := by decide +kernel
theorem d_W_law_1629 : decode M_W_law.2.1 1629 = .ok (.iload 4, 2) := by decide +kernel
theorem d_W_law_1631 : decode M_W_law.2.1 1631 = .ok (.iconst 1, 1) := by decide +kernel
theorem d_W_law_1632 : decode M_W_law.2.1 1632 = .ok (.iadd, 1) := by decide +kernel
theorem d_W_law_1633 : decode M_W_law.2.1 1633 = .ok (.iaload, 1) := by decide +kernel
theorem d_W_law_1634 : decode M_W_law.2.1 1634 = .ok (.invokevirtual 177, 3) := by decide +kernel
theorem d_W_law_1637 : decode M_W_law.2.1 1637 = .ok (.if_icmp .eq 326, 3) := by decide +kernel
theorem d_W_law_1640 : decode M_W_law.2.1 1640 = .ok (.iconst 0, 1) := by decide +kernel
theorem d_W_law_1641 : decode M_W_law.2.1 1641 = .ok (.ireturn, 1) := by decide +kernel
theorem d_W_law_1642 : decode M_W_law.2.1 1642 = .ok (.aload_n 1, 1) := by decide +kernel
theorem d_W_law_1643 : decode M_W_law.2.1 1643 = .ok (.aload_n 0, 1) := by decide +kernel
theorem d_W_law_1644 : decode M_W_law.2.1 1644 = .ok (.iload 4, 2) := by decide +kernel
theorem d_W_law_1646 : decode M_W_law.2.1 1646 = .ok (.iconst 1, 1) := by decide +kernel
theorem d_W_law_1647 : decode M_W_law.2.1 1647 = .ok (.iadd, 1) := by decide +kernel
theorem d_W_law_1648 : decode M_W_law.2.1 1648 = .ok (.iaload, 1) := by decide +kernel
theorem d_W_law_1649 : decode M_W_law.2.1 1649 = .ok (.invokevirtual 178, 3) := by decide +kernel
theorem d_W_law_1652 : decode M_W_law.2.1 1652 = .ok (.aload_n 2, 1) := by decide +kernel
theorem d_W_law_1653 : decode M_W_law.2.1 1653 = .ok (.aload_n 0, 1) := by decide +kernel
theorem d_W_law_1654 : decode M_W_law.2.1 1654 = .ok (.iload 4, 2) := by decide +kernel
theorem d_W_law_1656 : decode M_W_law.2.1 1656 = .ok (.iconst 1, 1) := by decide +kernel
theorem d_W_law_1657 : decode M_W_law.2.1 1657 = .ok (.iadd, 1) := by decide +kernel
theorem d_W_law_1658 : decode M_W_law.2.1 1658 = .ok (.iaload, 1) := by decide +kernel
theorem d_W_law_1659 : decode M_W_law.2.1 1659 = .ok (.invokevirtual 181, 3) := by decide +kernel
theorem d_W_law_1662 : decode M_W_law.2.1 1662 = .ok (.if_icmp .eq 301, 3) := by decide +kernel
theorem d_W_law_1665 : decode M_W_law.2.1 1665 = .ok (.iconst 0, 1) := by decide +kernel
theorem d_W_law_1666 : decode M_W_law.2.1 1666 = .ok (.ireturn, 1) := by decide +kernel
theorem d_W_law_1667 : decode M_W_law.2.1 1667 = .ok (.aload_n 1, 1) := by decide +kernel
theorem d_W_law_1668 : decode M_W_law.2.1 1668 = .ok (.aload_n 0, 1) := by decide +kernel
theorem d_W_law_1669 : decode M_W_law.2.1 1669 = .ok (.iload 4, 2) := by decide +kernel
theorem d_W_law_1671 : decode M_W_law.2.1 1671 = .ok (.iconst 1, 1) := by decide +kernel
theorem d_W_law_1672 : decode M_W_law.2.1 1672 = .ok (.iadd, 1) := by decide +kernel
theorem d_W_law_1673 : decode M_W_law.2.1 1673 = .ok (.iaload, 1) := by decide +kernel
theorem d_W_law_1674 : decode M_W_law.2.1 1674 = .ok (.invokevirtual 182, 3) := by decide +kernel
theorem d_W_law_1677 : decode M_W_law.2.1 1677 = .ok (.aload_n 2, 1) := by decide +kernel
theorem d_W_law_1678 : decode M_W_law.2.1 1678 = .ok (.aload_n 0, 1) := by decide +kernel
theorem d_W_law_1679 : decode M_W_law.2.1 1679 = .ok (.iload 4, 2) := by decide +kernel
theorem d_W_law_1681 : decode M_W_law.2.1 1681 = .ok (.iconst 1, 1) := by decide +kernel
theorem d_W_law_1682 : decode M_W_law.2.1 1682 = .ok (.iadd, 1) := by decide +kernel
theorem d_W_law_1683 : decode M_W_law.2.1 1683 = .ok (.iaload, 1) := by decide +kernel
theorem d_W_law_1684 : decode M_W_law.2.1 1684 = .ok (.invokevirtual 185, 3) := by decide +kernel
theorem d_W_law_1687 : decode M_W_law.2.1 1687 = .ok (.if_icmp .eq 276, 3) := by decide +kernel
theorem d_W_law_1690 : decode M_W_law.2.1 1690 = .ok (.iconst 0, 1) := by decide +kernel
theorem d_W_law_1691 : decode M_W_law.2.1 1691 = .ok (.ireturn, 1) := by decide +kernel
theorem d_W_law_1692 : decode M_W_law.2.1 1692 = .ok (.aload_n 1, 1) := by decide +kernel
theorem d_W_law_1693 : decode M_W_law.2.1 1693 = .ok (.aload_n 0, 1) := by decide +kernel
theorem d_W_law_1694 : decode M_W_law.2.1 1694 = .ok (.iload 4, 2) := by decide +kernel
theorem d_W_law_1696 : decode M_W_law.2.1 1696 = .ok (.iconst 1, 1) := by decide +kernel
theorem d_W_law_1697 : decode M_W_law.2.1 1697 = .ok (.iadd, 1) := by decide +kernel
theorem d_W_law_1698 : decode M_W_law.2.1 1698 = .ok (.iaload, 1) := by decide +kernel
theorem d_W_law_1699 : decode M_W_law.2.1 1699 = .ok (.invokevirtual 186, 3) := by decide +kernel
theorem d_W_law_1702 : decode M_W_law.2.1 1702 = .ok (.aload_n 2, 1) := by decide +kernel
theorem d_W_law_1703 : decode M_W_law.2.1 1703 = .ok (.aload_n 0, 1) := by decide +kernel
theorem d_W_law_1704 : decode M_W_law.2.1 1704 = .ok (.iload 4, 2) := by decide +kernel
theorem d_W_law_1706 : decode M_W_law.2.1 1706 = .ok (.iconst 1, 1) := by decide +kernel
theorem d_W_law_1707 : decode M_W_law.2.1 1707 = .ok (.iadd, 1) := by decide +kernel
theorem d_W_law_1708 : decode M_W_law.2.1 1708 = .ok (.iaload, 1) := by decide +kernel
theorem d_W_law_1709 : decode M_W_law.2.1 1709 = .ok (.invokevirtual 189, 3) := by decide +kernel
theorem d_W_law_1712 : decode M_W_law.2.1 1712 = .ok (.if_icmp .eq 251, 3) := by decide +kernel
theorem d_W_law_1715 : decode M_W_law.2.1 1715 = .ok (.iconst 0, 1) := by decide +kernel
theorem d_W_law_1716 : decode M_W_law.2.1 1716 = .ok (.ireturn, 1) := by decide +kernel
theorem d_W_law_1717 : decode M_W_law.2.1 1717 = .ok (.aload_n 1, 1) := by decide +kernel
theorem d_W_law_1718 : decode M_W_law.2.1 1718 = .ok (.aload_n 0, 1) := by decide +kernel
theorem d_W_law_1719 : decode M_W_law.2.1 1719 = .ok (.iload 4, 2) := by decide +kernel
theorem d_W_law_1721 : decode M_W_law.2.1 1721 = .ok (.iconst 1, 1) := by decide +kernel
theorem d_W_law_1722 : decode M_W_law.2.1 1722 = .ok (.iadd, 1) := by decide +kernel
theorem d_W_law_1723 : decode M_W_law.2.1 1723 = .ok (.iaload, 1) := by decide +kernel
theorem d_W_law_1724 : decode M_W_law.2.1 1724 = .ok (.aload_n 0, 1) := by decide +kernel
theorem d_W_law_1725 : decode M_W_law.2.1 1725 = .ok (.iload 4, 2) := by decide +kernel
theorem d_W_law_1727 : decode M_W_law.2.1 1727 = .ok (.iconst 2, 1) := by decide +kernel
theorem d_W_law_1728 : decode M_W_law.2.1 1728 = .ok (.iadd, 1) := by decide +kernel
theorem d_W_law_1729 : decode M_W_law.2.1 1729 = .ok (.iaload, 1) := by decide +kernel
theorem d_W_law_1730 : decode M_W_law.2.1 1730 = .ok (.aload_n 0, 1) := by decide +kernel
theorem d_W_law_1731 : decode M_W_law.2.1 1731 = .ok (.iload 4, 2) := by decide +kernel
theorem d_W_law_1733 : decode M_W_law.2.1 1733 = .ok (.iconst 3, 1) := by decide +kernel
theorem d_W_law_1734 : decode M_W_law.2.1 1734 = .ok (.iadd, 1) := by decide +kernel
theorem d_W_law_1735 : decode M_W_law.2.1 1735 = .ok (.iaload, 1) := by decide +kernel
theorem d_W_law_1736 : decode M_W_law.2.1 1736 = .ok (.i2l, 1) := by decide +kernel
theorem d_W_law_1737 : decode M_W_law.2.1 1737 = .ok (.bipush 32, 2) := by decide +kernel
theorem d_W_law_1739 : decode M_W_law.2.1 1739 = .ok (.lshl, 1) := by decide +kernel
theorem d_W_law_1740 : decode M_W_law.2.1 1740 = .ok (.aload_n 0, 1) := by decide +kernel
theorem d_W_law_1741 : decode M_W_law.2.1 1741 = .ok (.iload 4, 2) := by decide +kernel
theorem d_W_law_1743 : decode M_W_law.2.1 1743 = .ok (.iconst 4, 1) := by decide +kernel
theorem d_W_law_1744 : decode M_W_law.2.1 1744 = .ok (.iadd, 1) := by decide +kernel
theorem d_W_law_1745 : decode M_W_law.2.1 1745 = .ok (.iaload, 1) := by decide +kernel
theorem d_W_law_1746 : decode M_W_law.2.1 1746 = .ok (.i2l, 1) := by decide +kernel
theorem d_W_law_1747 : decode M_W_law.2.1 1747 = .ok (.ldc2_w 190, 3) := by decide +kernel
theorem d_W_law_1750 : decode M_W_law.2.1 1750 = .ok (.land, 1) := by decide +kernel
theorem d_W_law_1751 : decode M_W_law.2.1 1751 = .ok (.lor, 1) := by decide +kernel
theorem d_W_law_1752 : decode M_W_law.2.1 1752 = .ok (.invokevirtual 192, 3) := by decide +kernel
theorem d_W_law_1755 : decode M_W_law.2.1 1755 = .ok (.aload_n 2, 1) := by decide +kernel
theorem d_W_law_1756 : decode M_W_law.2.1 1756 = .ok (.aload_n 0, 1) := by decide +kernel
theorem d_W_law_1757 : decode M_W_law.2.1 1757 = .ok (.iload 4, 2) := by decide +kernel
theorem d_W_law_1759 : decode M_W_law.2.1 1759 = .ok (.iconst 1, 1) := by decide +kernel
theorem d_W_law_1760 : decode M_W_law.2.1 1760 = .ok (.iadd, 1) := by decide +kernel
theorem d_W_law_1761 : decode M_W_law.2.1 1761 = .ok (.iaload, 1) := by decide +kernel
theorem d_W_law_1762 : decode M_W_law.2.1 1762 = .ok (.aload_n 0, 1) := by decide +kernel
theorem d_W_law_1763 : decode M_W_law.2.1 1763 = .ok (.iload 4, 2) := by decide +kernel
theorem d_W_law_1765 : decode M_W_law.2.1 1765 = .ok (.iconst 2, 1) := by decide +kernel
theorem d_W_law_1766 : decode M_W_law.2.1 1766 = .ok (.iadd, 1) := by decide +kernel
theorem d_W_law_1767 : decode M_W_law.2.1 1767 = .ok (.iaload, 1) := by decide +kernel
theorem d_W_law_1768 : decode M_W_law.2.1 1768 = .ok (.aload_n 0, 1) := by decide +kernel
theorem d_W_law_1769 : decode M_W_law.2.1 1769 = .ok (.iload 4, 2) := by decide +kernel
theorem d_W_law_1771 : decode M_W_law.2.1 1771 = .ok (.iconst 3, 1) := by decide +kernel
theorem d_W_law_1772 : decode M_W_law.2.1 1772 = .ok (.iadd, 1) := by decide +kernel
theorem d_W_law_1773 : decode M_W_law.2.1 1773 = .ok (.iaload, 1) := by decide +kernel
theorem d_W_law_1774 : decode M_W_law.2.1 1774 = .ok (.i2l, 1) := by decide +kernel
theorem d_W_law_1775 : decode M_W_law.2.1 1775 = .ok (.bipush 32, 2) := by decide +kernel
theorem d_W_law_1777 : decode M_W_law.2.1 1777 = .ok (.lshl, 1) := by decide +kernel
theorem d_W_law_1778 : decode M_W_law.2.1 1778 = .ok (.aload_n 0, 1) := by decide +kernel
theorem d_W_law_1779 : decode M_W_law.2.1 1779 = .ok (.iload 4, 2) := by decide +kernel
theorem d_W_law_1781 : decode M_W_law.2.1 1781 = .ok (.iconst 4, 1) := by decide +kernel
theorem d_W_law_1782 : decode M_W_law.2.1 1782 = .ok (.iadd, 1) := by decide +kernel
theorem d_W_law_1783 : decode M_W_law.2.1 1783 = .ok (.iaload, 1) := by decide +kernel
theorem d_W_law_1784 : decode M_W_law.2.1 1784 = .ok (.i2l, 1) := by decide +kernel
theorem d_W_law_1785 : decode M_W_law.2.1 1785 = .ok (.ldc2_w 190, 3) := by decide +kernel
theorem d_W_law_1788 : decode M_W_law.2.1 1788 = .ok (.land, 1) := by decide +kernel
theorem d_W_law_1789 : decode M_W_law.2.1 1789 = .ok (.lor, 1) := by decide +kernel
theorem d_W_law_1790 : decode M_W_law.2.1 1790 = .ok (.invokevirtual 196, 3) := by decide +kernel
theorem d_W_law_1793 : decode M_W_law.2.1 1793 = .ok (.if_icmp .eq 170, 3) := by decide +kernel
theorem d_W_law_1796 : decode M_W_law.2.1 1796 = .ok (.iconst 0, 1) := by decide +kernel
theorem d_W_law_1797 : decode M_W_law.2.1 1797 = .ok (.ireturn, 1) := by decide +kernel
theorem d_W_law_1798 : decode M_W_law.2.1 1798 = .ok (.aload_n 1, 1) := by decide +kernel
theorem d_W_law_1799 : decode M_W_law.2.1 1799 = .ok (.aload_n 0, 1) := by decide +kernel
theorem d_W_law_1800 : decode M_W_law.2.1 1800 = .ok (.iload 4, 2) := by decide +kernel
theorem d_W_law_1802 : decode M_W_law.2.1 1802 = .ok (.iconst 1, 1) := by decide +kernel
theorem d_W_law_1803 : decode M_W_law.2.1 1803 = .ok (.iadd, 1) := by decide +kernel
theorem d_W_law_1804 : decode M_W_law.2.1 1804 = .ok (.iaload, 1) := by decide +kernel
theorem d_W_law_1805 : decode M_W_law.2.1 1805 = .ok (.aload_n 0, 1) := by decide +kernel
theorem d_W_law_1806 : decode M_W_law.2.1 1806 = .ok (.iload 4, 2) := by decide +kernel
theorem d_W_law_1808 : decode M_W_law.2.1 1808 = .ok (.iconst 2, 1) := by decide +kernel
theorem d_W_law_1809 : decode M_W_law.2.1 1809 = .ok (.iadd, 1) := by decide +kernel
theorem d_W_law_1810 : decode M_W_law.2.1 1810 = .ok (.iaload, 1) := by decide +kernel
theorem d_W_law_1811 : decode M_W_law.2.1 1811 = .ok (.aload_n 3, 1) := by decide +kernel
theorem d_W_law_1812 : decode M_W_law.2.1 1812 = .ok (.invokestatic 197, 3) := by decide +kernel
theorem d_W_law_1815 : decode M_W_law.2.1 1815 = .ok (.istore 5, 2) := by decide +kernel
theorem d_W_law_1817 : decode M_W_law.2.1 1817 = .ok (.aload_n 2, 1) := by decide +kernel
theorem d_W_law_1818 : decode M_W_law.2.1 1818 = .ok (.aload_n 0, 1) := by decide +kernel
theorem d_W_law_1819 : decode M_W_law.2.1 1819 = .ok (.iload 4, 2) := by decide +kernel
theorem d_W_law_1821 : decode M_W_law.2.1 1821 = .ok (.iconst 1, 1) := by decide +kernel
theorem d_W_law_1822 : decode M_W_law.2.1 1822 = .ok (.iadd, 1) := by decide +kernel
theorem d_W_law_1823 : decode M_W_law.2.1 1823 = .ok (.iaload, 1) := by decide +kernel
theorem d_W_law_1824 : decode M_W_law.2.1 1824 = .ok (.aload_n 0, 1) := by decide +kernel
theorem d_W_law_1825 : decode M_W_law.2.1 1825 = .ok (.iload 4, 2) := by decide +kernel
theorem d_W_law_1827 : decode M_W_law.2.1 1827 = .ok (.iconst 2, 1) := by decide +kernel
theorem d_W_law_1828 : decode M_W_law.2.1 1828 = .ok (.iadd, 1) := by decide +kernel
theorem d_W_law_1829 : decode M_W_law.2.1 1829 = .ok (.iaload, 1) := by decide +kernel
theorem d_W_law_1830 : decode M_W_law.2.1 1830 = .ok (.invokevirtual 202, 3) := by decide +kernel
theorem d_W_law_1833 : decode M_W_law.2.1 1833 = .ok (.lstore 6, 2) := by decide +kernel
theorem d_W_law_1835 : decode M_W_law.2.1 1835 = .ok (.aload_n 2, 1) := by decide +kernel
theorem d_W_law_1836 : decode M_W_law.2.1 1836 = .ok (.invokevirtual 203, 3) := by decide +kernel
theorem d_W_law_1839 : decode M_W_law.2.1 1839 = .ok (.iload 5, 2) := by decide +kernel
theorem d_W_law_1841 : decode M_W_law.2.1 1841 = .ok (.if_icmp .eq 5, 3) := by decide +kernel
theorem d_W_law_1844 : decode M_W_law.2.1 1844 = .ok (.iconst 0, 1) := by decide +kernel
theorem d_W_law_1845 : decode M_W_law.2.1 1845 = .ok (.ireturn, 1) := by decide +kernel
theorem d_W_law_1846 : decode M_W_law.2.1 1846 = .ok (.iload 5, 2) := by decide +kernel
theorem d_W_law_1848 : decode M_W_law.2.1 1848 = .ok (.ifCond .ne 14, 3) := by decide +kernel
theorem d_W_law_1851 : decode M_W_law.2.1 1851 = .ok (.aload_n 3, 1) := by decide +kernel
theorem d_W_law_1852 : decode M_W_law.2.1 1852 = .ok (.iconst 0, 1) := by decide +kernel
theorem d_W_law_1853 : decode M_W_law.2.1 1853 = .ok (.laload, 1) := by decide +kernel
theorem d_W_law_1854 : decode M_W_law.2.1 1854 = .ok (.lload 6, 2) := by decide +kernel
theorem d_W_law_1856 : decode M_W_law.2.1 1856 = .ok (.lcmp, 1) := by decide +kernel
theorem d_W_law_1857 : decode M_W_law.2.1 1857 = .ok (.ifCond .eq 5, 3) := by decide +kernel
theorem d_W_law_1860 : decode M_W_law.2.1 1860 = .ok (.iconst 0, 1) := by decide +kernel
theorem d_W_law_1861 : decode M_W_law.2.1 1861 = .ok (.ireturn, 1) := by decide +kernel
theorem d_W_law_1862 : decode M_W_law.2.1 1862 = .ok (.goto 101, 3) := by decide +kernel
theorem d_W_law_1865 : decode M_W_law.2.1 1865 = .ok (.aload_n 1, 1) := by decide +kernel
theorem d_W_law_1866 : decode M_W_law.2.1 1866 = .ok (.aload_n 0, 1) := by decide +kernel
theorem d_W_law_1867 : decode M_W_law.2.1 1867 = .ok (.iload 4, 2) := by decide +kernel
theorem d_W_law_1869 : decode M_W_law.2.1 1869 = .ok (.iconst 1, 1) := by decide +kernel
theorem d_W_law_1870 : decode M_W_law.2.1 1870 = .ok (.iadd, 1) := by decide +kernel
theorem d_W_law_1871 : decode M_W_law.2.1 1871 = .ok (.iaload, 1) := by decide +kernel
theorem d_W_law_1872 : decode M_W_law.2.1 1872 = .ok (.aload_n 0, 1) := by decide +kernel
theorem d_W_law_1873 : decode M_W_law.2.1 1873 = .ok (.iload 4, 2) := by decide +kernel
theorem d_W_law_1875 : decode M_W_law.2.1 1875 = .ok (.iconst 2, 1) := by decide +kernel
theorem d_W_law_1876 : decode M_W_law.2.1 1876 = .ok (.iadd, 1) := by decide +kernel
theorem d_W_law_1877 : decode M_W_law.2.1 1877 = .ok (.iaload, 1) := by decide +kernel
theorem d_W_law_1878 : decode M_W_law.2.1 1878 = .ok (.aload_n 0, 1) := by decide +kernel
theorem d_W_law_1879 : decode M_W_law.2.1 1879 = .ok (.iload 4, 2) := by decide +kernel
theorem d_W_law_1881 : decode M_W_law.2.1 1881 = .ok (.iconst 3, 1) := by decide +kernel
theorem d_W_law_1882 : decode M_W_law.2.1 1882 = .ok (.iadd, 1) := by decide +kernel
theorem d_W_law_1883 : decode M_W_law.2.1 1883 = .ok (.iaload, 1) := by decide +kernel
theorem d_W_law_1884 : decode M_W_law.2.1 1884 = .ok (.aload_n 0, 1) := by decide +kernel
theorem d_W_law_1885 : decode M_W_law.2.1 1885 = .ok (.iload 4, 2) := by decide +kernel
theorem d_W_law_1887 : decode M_W_law.2.1 1887 = .ok (.iconst 4, 1) := by decide +kernel
theorem d_W_law_1888 : decode M_W_law.2.1 1888 = .ok (.iadd, 1) := by decide +kernel
theorem d_W_law_1889 : decode M_W_law.2.1 1889 = .ok (.iaload, 1) := by decide +kernel
theorem d_W_law_1890 : decode M_W_law.2.1 1890 = .ok (.aload_n 0, 1) := by decide +kernel
theorem d_W_law_1891 : decode M_W_law.2.1 1891 = .ok (.iload 4, 2) := by decide +kernel
theorem d_W_law_1893 : decode M_W_law.2.1 1893 = .ok (.iconst 5, 1) := by decide +kernel
theorem d_W_law_1894 : decode M_W_law.2.1 1894 = .ok (.iadd, 1) := by decide +kernel
theorem d_W_law_1895 : decode M_W_law.2.1 1895 = .ok (.iaload, 1) := by decide +kernel
theorem d_W_law_1896 : decode M_W_law.2.1 1896 = .ok (.invokevirtual 206, 3) := by decide +kernel
theorem d_W_law_1899 : decode M_W_law.2.1 1899 = .ok (.aload_n 2, 1) := by decide +kernel
theorem d_W_law_1900 : decode M_W_law.2.1 1900 = .ok (.aload_n 0, 1) := by decide +kernel
theorem d_W_law_1901 : decode M_W_law.2.1 1901 = .ok (.iload 4, 2) := by decide +kernel
theorem d_W_law_1903 : decode M_W_law.2.1 1903 = .ok (.iconst 1, 1) := by decide +kernel
theorem d_W_law_1904 : decode M_W_law.2.1 1904 = .ok (.iadd, 1) := by decide +kernel
theorem d_W_law_1905 : decode M_W_law.2.1 1905 = .ok (.iaload, 1) := by decide +kernel
theorem d_W_law_1906 : decode M_W_law.2.1 1906 = .ok (.aload_n 0, 1) := by decide +kernel
theorem d_W_law_1907 : decode M_W_law.2.1 1907 = .ok (.iload 4, 2) := by decide +kernel
theorem d_W_law_1909 : decode M_W_law.2.1 1909 = .ok (.iconst 2, 1) := by decide +kernel
theorem d_W_law_1910 : decode M_W_law.2.1 1910 = .ok (.iadd, 1) := by decide +kernel
theorem d_W_law_1911 : decode M_W_law.2.1 1911 = .ok (.iaload, 1) := by decide +kernel
theorem d_W_law_1912 : decode M_W_law.2.1 1912 = .ok (.aload_n 0, 1) := by decide +kernel
theorem d_W_law_1913 : decode M_W_law.2.1 1913 = .ok (.iload 4, 2) := by decide +kernel
theorem d_W_law_1915 : decode M_W_law.2.1 1915 = .ok (.iconst 3, 1) := by decide +kernel
theorem d_W_law_1916 : decode M_W_law.2.1 1916 = .ok (.iadd, 1) := by decide +kernel
theorem d_W_law_1917 : decode M_W_law.2.1 1917 = .ok (.iaload, 1) := by decide +kernel
theorem d_W_law_1918 : decode M_W_law.2.1 1918 = .ok (.aload_n 0, 1) := by decide +kernel
theorem d_W_law_1919 : decode M_W_law.2.1 1919 = .ok (.iload 4, 2) := by decide +kernel
theorem d_W_law_1921 : decode M_W_law.2.1 1921 = .ok (.iconst 4, 1) := by decide +kernel
theorem d_W_law_1922 : decode M_W_law.2.1 1922 = .ok (.iadd, 1) := by decide +kernel
theorem d_W_law_1923 : decode M_W_law.2.1 1923 = .ok (.iaload, 1) := by decide +kernel
theorem d_W_law_1924 : decode M_W_law.2.1 1924 = .ok (.aload_n 0, 1) := by decide +kernel
theorem d_W_law_1925 : decode M_W_law.2.1 1925 = .ok (.iload 4, 2) := by decide +kernel
theorem d_W_law_1927 : decode M_W_law.2.1 1927 = .ok (.iconst 5, 1) := by decide +kernel
theorem d_W_law_1928 : decode M_W_law.2.1 1928 = .ok (.iadd, 1) := by decide +kernel
theorem d_W_law_1929 : decode M_W_law.2.1 1929 = .ok (.iaload, 1) := by decide +kernel
theorem d_W_law_1930 : decode M_W_law.2.1 1930 = .ok (.invokevirtual 209, 3) := by decide +kernel
theorem d_W_law_1933 : decode M_W_law.2.1 1933 = .ok (.if_icmp .eq 30, 3) := by decide +kernel
theorem d_W_law_1936 : decode M_W_law.2.1 1936 = .ok (.iconst 0, 1) := by decide +kernel
theorem d_W_law_1937 : decode M_W_law.2.1 1937 = .ok (.ireturn, 1) := by decide +kernel
theorem d_W_law_1938 : decode M_W_law.2.1 1938 = .ok (.aload_n 1, 1) := by decide +kernel
theorem d_W_law_1939 : decode M_W_law.2.1 1939 = .ok (.aload_n 0, 1) := by decide +kernel
theorem d_W_law_1940 : decode M_W_law.2.1 1940 = .ok (.iload 4, 2) := by decide +kernel
theorem d_W_law_1942 : decode M_W_law.2.1 1942 = .ok (.iconst 1, 1) := by decide +kernel
theorem d_W_law_1943 : decode M_W_law.2.1 1943 = .ok (.iadd, 1) := by decide +kernel
theorem d_W_law_1944 : decode M_W_law.2.1 1944 = .ok (.iaload, 1) := by decide +kernel
theorem d_W_law_1945 : decode M_W_law.2.1 1945 = .ok (.invokevirtual 210, 3) := by decide +kernel
theorem d_W_law_1948 : decode M_W_law.2.1 1948 = .ok (.aload_n 2, 1) := by decide +kernel
theorem d_W_law_1949 : decode M_W_law.2.1 1949 = .ok (.aload_n 0, 1) := by decide +kernel
theorem d_W_law_1950 : decode M_W_law.2.1 1950 = .ok (.iload 4, 2) := by decide +kernel
theorem d_W_law_1952 : decode M_W_law.2.1 1952 = .ok (.iconst 1, 1) := by decide +kernel
theorem d_W_law_1953 : decode M_W_law.2.1 1953 = .ok (.iadd, 1) := by decide +kernel
theorem d_W_law_1954 : decode M_W_law.2.1 1954 = .ok (.iaload, 1) := by decide +kernel
theorem d_W_law_1955 : decode M_W_law.2.1 1955 = .ok (.invokevirtual 213, 3) := by decide +kernel
theorem d_W_law_1958 : decode M_W_law.2.1 1958 = .ok (.if_icmp .eq 5, 3) := by decide +kernel
theorem d_W_law_1961 : decode M_W_law.2.1 1961 = .ok (.iconst 0, 1) := by decide +kernel
theorem d_W_law_1962 : decode M_W_law.2.1 1962 = .ok (.ireturn, 1) := by decide +kernel
theorem d_W_law_1963 : decode M_W_law.2.1 1963 = .ok (.iinc 4 6, 3) := by decide +kernel
theorem d_W_law_1966 : decode M_W_law.2.1 1966 = .ok (.goto (-1943), 3) := by decide +kernel
theorem d_W_law_1969 : decode M_W_law.2.1 1969 = .ok (.iconst 1, 1) := by decide +kernel
theorem d_W_law_1970 : decode M_W_law.2.1 1970 = .ok (.ireturn, 1) := by decide +kernel
