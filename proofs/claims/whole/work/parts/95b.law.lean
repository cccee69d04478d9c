/-! THE LAW: its cases, b -/
section LAWC
variable {l : tg_Ln} {K : Option Value → List va_E → Prop} {kc ks i : Nat} {wc wr : List va_E}
theorem dL_law_326 : decode cL_law 326 = .ok (.aload_n 1, 1) := by decide +kernel
theorem dL_law_327 : decode cL_law 327 = .ok (.aload_n 0, 1) := by decide +kernel
theorem dL_law_328 : decode cL_law 328 = .ok (.iload_n 3, 1) := by decide +kernel
theorem dL_law_329 : decode cL_law 329 = .ok (.iconst 1, 1) := by decide +kernel
theorem dL_law_330 : decode cL_law 330 = .ok (.iadd, 1) := by decide +kernel
theorem dL_law_331 : decode cL_law 331 = .ok (.iaload, 1) := by decide +kernel
theorem dL_law_332 : decode cL_law 332 = .ok (.invokevirtual 48, 3) := by decide +kernel
theorem vL_law_332 : tg_VS mL_law 332 mX8_keep 1 := ⟨okX8_keep, ⟨48, dL_law_332, mlL_48⟩, insX8_keep, selX8_keep, parX8_keep, rfl, rfl, Nat.le_of_ble_eq_true rfl, Nat.le_of_ble_eq_true rfl⟩
theorem dL_law_335 : decode cL_law 335 = .ok (.aload_n 2, 1) := by decide +kernel
theorem dL_law_336 : decode cL_law 336 = .ok (.aload_n 0, 1) := by decide +kernel
theorem dL_law_337 : decode cL_law 337 = .ok (.iload_n 3, 1) := by decide +kernel
theorem dL_law_338 : decode cL_law 338 = .ok (.iconst 1, 1) := by decide +kernel
theorem dL_law_339 : decode cL_law 339 = .ok (.iadd, 1) := by decide +kernel
theorem dL_law_340 : decode cL_law 340 = .ok (.iaload, 1) := by decide +kernel
theorem dL_law_341 : decode cL_law 341 = .ok (.invokevirtual 51, 3) := by decide +kernel
theorem vL_law_341 : tg_VS mL_law 341 mX9_keep 1 := ⟨okX9_keep, ⟨51, dL_law_341, mlL_51⟩, insX9_keep, selX9_keep, parX9_keep, rfl, rfl, Nat.le_of_ble_eq_true rfl, Nat.le_of_ble_eq_true rfl⟩
theorem dL_law_344 : decode cL_law 344 = .ok (.if_icmp .eq 652, 3) := by decide +kernel
theorem lw_326 (hK : ∀ wc wr, J wc wr → tg_G l mL_law 0 K kc ks 996 (lvL i) [] (jn wc wr)) (h : J wc wr) (hi : i + 4 < l.2.1) (hL : l.2.1 ≤ 2560) : tg_G l mL_law 0 K kc ks 326 (lvL i) [] (jn wc wr) := (lw_a1 dL_law_326 (lw_arg 1 (by decide) dL_law_327 dL_law_328 dL_law_329 dL_law_330 dL_law_331 hi hL (lw_c8 [l.2.2 (i + 1)] vL_law_332 (J_keep h) h rfl rfl (Nat.le_of_ble_eq_true rfl) (fun wc1 x h1 h2 => (lw_a2 dL_law_335 (lw_arg 1 (by decide) dL_law_336 dL_law_337 dL_law_338 dL_law_339 dL_law_340 hi hL (lw_c9 [l.2.2 (i + 1)] vL_law_341 h h1 h2 rfl rfl (Nat.le_of_ble_eq_true rfl) (fun wr1 h3 => g_icmp_eq (tgt := 996) dL_law_344 rfl (fun _ => hK _ _ h3) (fun q => absurd rfl q)))))))))
theorem dL_law_349 : decode cL_law 349 = .ok (.aload_n 1, 1) := by decide +kernel
theorem dL_law_350 : decode cL_law 350 = .ok (.aload_n 0, 1) := by decide +kernel
theorem dL_law_351 : decode cL_law 351 = .ok (.iload_n 3, 1) := by decide +kernel
theorem dL_law_352 : decode cL_law 352 = .ok (.iconst 1, 1) := by decide +kernel
theorem dL_law_353 : decode cL_law 353 = .ok (.iadd, 1) := by decide +kernel
theorem dL_law_354 : decode cL_law 354 = .ok (.iaload, 1) := by decide +kernel
theorem dL_law_355 : decode cL_law 355 = .ok (.invokevirtual 52, 3) := by decide +kernel
theorem vL_law_355 : tg_VS mL_law 355 mX8_back 1 := ⟨okX8_back, ⟨52, dL_law_355, mlL_52⟩, insX8_back, selX8_back, parX8_back, rfl, rfl, Nat.le_of_ble_eq_true rfl, Nat.le_of_ble_eq_true rfl⟩
theorem dL_law_358 : decode cL_law 358 = .ok (.aload_n 2, 1) := by decide +kernel
theorem dL_law_359 : decode cL_law 359 = .ok (.aload_n 0, 1) := by decide +kernel
theorem dL_law_360 : decode cL_law 360 = .ok (.iload_n 3, 1) := by decide +kernel
theorem dL_law_361 : decode cL_law 361 = .ok (.iconst 1, 1) := by decide +kernel
theorem dL_law_362 : decode cL_law 362 = .ok (.iadd, 1) := by decide +kernel
theorem dL_law_363 : decode cL_law 363 = .ok (.iaload, 1) := by decide +kernel
theorem dL_law_364 : decode cL_law 364 = .ok (.invokevirtual 55, 3) := by decide +kernel
theorem vL_law_364 : tg_VS mL_law 364 mX9_back 1 := ⟨okX9_back, ⟨55, dL_law_364, mlL_55⟩, insX9_back, selX9_back, parX9_back, rfl, rfl, Nat.le_of_ble_eq_true rfl, Nat.le_of_ble_eq_true rfl⟩
theorem dL_law_367 : decode cL_law 367 = .ok (.if_icmp .eq 629, 3) := by decide +kernel
theorem lw_349 (hK : ∀ wc wr, J wc wr → tg_G l mL_law 0 K kc ks 996 (lvL i) [] (jn wc wr)) (h : J wc wr) (hi : i + 4 < l.2.1) (hL : l.2.1 ≤ 2560) : tg_G l mL_law 0 K kc ks 349 (lvL i) [] (jn wc wr) := (lw_a1 dL_law_349 (lw_arg 1 (by decide) dL_law_350 dL_law_351 dL_law_352 dL_law_353 dL_law_354 hi hL (lw_c8 [l.2.2 (i + 1)] vL_law_355 (J_back h) h rfl rfl (Nat.le_of_ble_eq_true rfl) (fun wc1 x h1 h2 => (lw_a2 dL_law_358 (lw_arg 1 (by decide) dL_law_359 dL_law_360 dL_law_361 dL_law_362 dL_law_363 hi hL (lw_c9 [l.2.2 (i + 1)] vL_law_364 h h1 h2 rfl rfl (Nat.le_of_ble_eq_true rfl) (fun wr1 h3 => g_icmp_eq (tgt := 996) dL_law_367 rfl (fun _ => hK _ _ h3) (fun q => absurd rfl q)))))))))
theorem dL_law_372 : decode cL_law 372 = .ok (.aload_n 1, 1) := by decide +kernel
theorem dL_law_373 : decode cL_law 373 = .ok (.aload_n 0, 1) := by decide +kernel
theorem dL_law_374 : decode cL_law 374 = .ok (.iload_n 3, 1) := by decide +kernel
theorem dL_law_375 : decode cL_law 375 = .ok (.iconst 1, 1) := by decide +kernel
theorem dL_law_376 : decode cL_law 376 = .ok (.iadd, 1) := by decide +kernel
theorem dL_law_377 : decode cL_law 377 = .ok (.iaload, 1) := by decide +kernel
theorem dL_law_378 : decode cL_law 378 = .ok (.aload_n 0, 1) := by decide +kernel
theorem dL_law_379 : decode cL_law 379 = .ok (.iload_n 3, 1) := by decide +kernel
theorem dL_law_380 : decode cL_law 380 = .ok (.iconst 2, 1) := by decide +kernel
theorem dL_law_381 : decode cL_law 381 = .ok (.iadd, 1) := by decide +kernel
theorem dL_law_382 : decode cL_law 382 = .ok (.iaload, 1) := by decide +kernel
theorem dL_law_383 : decode cL_law 383 = .ok (.invokevirtual 56, 3) := by decide +kernel
theorem vL_law_383 : tg_VS mL_law 383 mX8_entry 2 := ⟨okX8_entry, ⟨56, dL_law_383, mlL_56⟩, insX8_entry, selX8_entry, parX8_entry, rfl, rfl, Nat.le_of_ble_eq_true rfl, Nat.le_of_ble_eq_true rfl⟩
theorem dL_law_386 : decode cL_law 386 = .ok (.aload_n 2, 1) := by decide +kernel
theorem dL_law_387 : decode cL_law 387 = .ok (.aload_n 0, 1) := by decide +kernel
theorem dL_law_388 : decode cL_law 388 = .ok (.iload_n 3, 1) := by decide +kernel
theorem dL_law_389 : decode cL_law 389 = .ok (.iconst 1, 1) := by decide +kernel
theorem dL_law_390 : decode cL_law 390 = .ok (.iadd, 1) := by decide +kernel
theorem dL_law_391 : decode cL_law 391 = .ok (.iaload, 1) := by decide +kernel
theorem dL_law_392 : decode cL_law 392 = .ok (.aload_n 0, 1) := by decide +kernel
theorem dL_law_393 : decode cL_law 393 = .ok (.iload_n 3, 1) := by decide +kernel
theorem dL_law_394 : decode cL_law 394 = .ok (.iconst 2, 1) := by decide +kernel
theorem dL_law_395 : decode cL_law 395 = .ok (.iadd, 1) := by decide +kernel
theorem dL_law_396 : decode cL_law 396 = .ok (.iaload, 1) := by decide +kernel
theorem dL_law_397 : decode cL_law 397 = .ok (.invokevirtual 59, 3) := by decide +kernel
theorem vL_law_397 : tg_VS mL_law 397 mX9_entry 2 := ⟨okX9_entry, ⟨59, dL_law_397, mlL_59⟩, insX9_entry, selX9_entry, parX9_entry, rfl, rfl, Nat.le_of_ble_eq_true rfl, Nat.le_of_ble_eq_true rfl⟩
theorem dL_law_400 : decode cL_law 400 = .ok (.if_icmp .eq 596, 3) := by decide +kernel
theorem lw_372 (hK : ∀ wc wr, J wc wr → tg_G l mL_law 0 K kc ks 996 (lvL i) [] (jn wc wr)) (h : J wc wr) (hi : i + 4 < l.2.1) (hL : l.2.1 ≤ 2560) : tg_G l mL_law 0 K kc ks 372 (lvL i) [] (jn wc wr) := (lw_a1 dL_law_372 (lw_arg 1 (by decide) dL_law_373 dL_law_374 dL_law_375 dL_law_376 dL_law_377 hi hL (lw_arg 2 (by decide) dL_law_378 dL_law_379 dL_law_380 dL_law_381 dL_law_382 hi hL (lw_c8 [l.2.2 (i + 1), l.2.2 (i + 2)] vL_law_383 (J_entry h) h rfl rfl (Nat.le_of_ble_eq_true rfl) (fun wc1 x h1 h2 => (lw_a2 dL_law_386 (lw_arg 1 (by decide) dL_law_387 dL_law_388 dL_law_389 dL_law_390 dL_law_391 hi hL (lw_arg 2 (by decide) dL_law_392 dL_law_393 dL_law_394 dL_law_395 dL_law_396 hi hL (lw_c9 [l.2.2 (i + 1), l.2.2 (i + 2)] vL_law_397 h h1 h2 rfl rfl (Nat.le_of_ble_eq_true rfl) (fun wr1 h3 => g_icmp_eq (tgt := 996) dL_law_400 rfl (fun _ => hK _ _ h3) (fun q => absurd rfl q)))))))))))
theorem dL_law_405 : decode cL_law 405 = .ok (.aload_n 1, 1) := by decide +kernel
theorem dL_law_406 : decode cL_law 406 = .ok (.aload_n 0, 1) := by decide +kernel
theorem dL_law_407 : decode cL_law 407 = .ok (.iload_n 3, 1) := by decide +kernel
theorem dL_law_408 : decode cL_law 408 = .ok (.iconst 1, 1) := by decide +kernel
theorem dL_law_409 : decode cL_law 409 = .ok (.iadd, 1) := by decide +kernel
theorem dL_law_410 : decode cL_law 410 = .ok (.iaload, 1) := by decide +kernel
theorem dL_law_411 : decode cL_law 411 = .ok (.aload_n 0, 1) := by decide +kernel
theorem dL_law_412 : decode cL_law 412 = .ok (.iload_n 3, 1) := by decide +kernel
theorem dL_law_413 : decode cL_law 413 = .ok (.iconst 2, 1) := by decide +kernel
theorem dL_law_414 : decode cL_law 414 = .ok (.iadd, 1) := by decide +kernel
theorem dL_law_415 : decode cL_law 415 = .ok (.iaload, 1) := by decide +kernel
theorem dL_law_416 : decode cL_law 416 = .ok (.invokevirtual 60, 3) := by decide +kernel
theorem vL_law_416 : tg_VS mL_law 416 mX8_cell 2 := ⟨okX8_cell, ⟨60, dL_law_416, mlL_60⟩, insX8_cell, selX8_cell, parX8_cell, rfl, rfl, Nat.le_of_ble_eq_true rfl, Nat.le_of_ble_eq_true rfl⟩
theorem dL_law_419 : decode cL_law 419 = .ok (.aload_n 2, 1) := by decide +kernel
theorem dL_law_420 : decode cL_law 420 = .ok (.aload_n 0, 1) := by decide +kernel
theorem dL_law_421 : decode cL_law 421 = .ok (.iload_n 3, 1) := by decide +kernel
theorem dL_law_422 : decode cL_law 422 = .ok (.iconst 1, 1) := by decide +kernel
theorem dL_law_423 : decode cL_law 423 = .ok (.iadd, 1) := by decide +kernel
theorem dL_law_424 : decode cL_law 424 = .ok (.iaload, 1) := by decide +kernel
theorem dL_law_425 : decode cL_law 425 = .ok (.aload_n 0, 1) := by decide +kernel
theorem dL_law_426 : decode cL_law 426 = .ok (.iload_n 3, 1) := by decide +kernel
theorem dL_law_427 : decode cL_law 427 = .ok (.iconst 2, 1) := by decide +kernel
theorem dL_law_428 : decode cL_law 428 = .ok (.iadd, 1) := by decide +kernel
theorem dL_law_429 : decode cL_law 429 = .ok (.iaload, 1) := by decide +kernel
theorem dL_law_430 : decode cL_law 430 = .ok (.invokevirtual 63, 3) := by decide +kernel
theorem vL_law_430 : tg_VS mL_law 430 mX9_cell 2 := ⟨okX9_cell, ⟨63, dL_law_430, mlL_63⟩, insX9_cell, selX9_cell, parX9_cell, rfl, rfl, Nat.le_of_ble_eq_true rfl, Nat.le_of_ble_eq_true rfl⟩
theorem dL_law_433 : decode cL_law 433 = .ok (.if_icmp .eq 563, 3) := by decide +kernel
theorem lw_405 (hK : ∀ wc wr, J wc wr → tg_G l mL_law 0 K kc ks 996 (lvL i) [] (jn wc wr)) (h : J wc wr) (hi : i + 4 < l.2.1) (hL : l.2.1 ≤ 2560) : tg_G l mL_law 0 K kc ks 405 (lvL i) [] (jn wc wr) := (lw_a1 dL_law_405 (lw_arg 1 (by decide) dL_law_406 dL_law_407 dL_law_408 dL_law_409 dL_law_410 hi hL (lw_arg 2 (by decide) dL_law_411 dL_law_412 dL_law_413 dL_law_414 dL_law_415 hi hL (lw_c8 [l.2.2 (i + 1), l.2.2 (i + 2)] vL_law_416 (J_cell h) h rfl rfl (Nat.le_of_ble_eq_true rfl) (fun wc1 x h1 h2 => (lw_a2 dL_law_419 (lw_arg 1 (by decide) dL_law_420 dL_law_421 dL_law_422 dL_law_423 dL_law_424 hi hL (lw_arg 2 (by decide) dL_law_425 dL_law_426 dL_law_427 dL_law_428 dL_law_429 hi hL (lw_c9 [l.2.2 (i + 1), l.2.2 (i + 2)] vL_law_430 h h1 h2 rfl rfl (Nat.le_of_ble_eq_true rfl) (fun wr1 h3 => g_icmp_eq (tgt := 996) dL_law_433 rfl (fun _ => hK _ _ h3) (fun q => absurd rfl q)))))))))))
theorem dL_law_438 : decode cL_law 438 = .ok (.aload_n 1, 1) := by decide +kernel
theorem dL_law_439 : decode cL_law 439 = .ok (.aload_n 0, 1) := by decide +kernel
theorem dL_law_440 : decode cL_law 440 = .ok (.iload_n 3, 1) := by decide +kernel
theorem dL_law_441 : decode cL_law 441 = .ok (.iconst 1, 1) := by decide +kernel
theorem dL_law_442 : decode cL_law 442 = .ok (.iadd, 1) := by decide +kernel
theorem dL_law_443 : decode cL_law 443 = .ok (.iaload, 1) := by decide +kernel
theorem dL_law_444 : decode cL_law 444 = .ok (.invokevirtual 64, 3) := by decide +kernel
theorem vL_law_444 : tg_VS mL_law 444 mX8_closure 1 := ⟨okX8_closure, ⟨64, dL_law_444, mlL_64⟩, insX8_closure, selX8_closure, parX8_closure, rfl, rfl, Nat.le_of_ble_eq_true rfl, Nat.le_of_ble_eq_true rfl⟩
theorem dL_law_447 : decode cL_law 447 = .ok (.aload_n 2, 1) := by decide +kernel
theorem dL_law_448 : decode cL_law 448 = .ok (.aload_n 0, 1) := by decide +kernel
theorem dL_law_449 : decode cL_law 449 = .ok (.iload_n 3, 1) := by decide +kernel
theorem dL_law_450 : decode cL_law 450 = .ok (.iconst 1, 1) := by decide +kernel
theorem dL_law_451 : decode cL_law 451 = .ok (.iadd, 1) := by decide +kernel
theorem dL_law_452 : decode cL_law 452 = .ok (.iaload, 1) := by decide +kernel
theorem dL_law_453 : decode cL_law 453 = .ok (.invokevirtual 67, 3) := by decide +kernel
theorem vL_law_453 : tg_VS mL_law 453 mX9_closure 1 := ⟨okX9_closure, ⟨67, dL_law_453, mlL_67⟩, insX9_closure, selX9_closure, parX9_closure, rfl, rfl, Nat.le_of_ble_eq_true rfl, Nat.le_of_ble_eq_true rfl⟩
theorem dL_law_456 : decode cL_law 456 = .ok (.if_icmp .eq 540, 3) := by decide +kernel
theorem lw_438 (hK : ∀ wc wr, J wc wr → tg_G l mL_law 0 K kc ks 996 (lvL i) [] (jn wc wr)) (h : J wc wr) (hi : i + 4 < l.2.1) (hL : l.2.1 ≤ 2560) : tg_G l mL_law 0 K kc ks 438 (lvL i) [] (jn wc wr) := (lw_a1 dL_law_438 (lw_arg 1 (by decide) dL_law_439 dL_law_440 dL_law_441 dL_law_442 dL_law_443 hi hL (lw_c8 [l.2.2 (i + 1)] vL_law_444 (J_closure h) h rfl rfl (Nat.le_of_ble_eq_true rfl) (fun wc1 x h1 h2 => (lw_a2 dL_law_447 (lw_arg 1 (by decide) dL_law_448 dL_law_449 dL_law_450 dL_law_451 dL_law_452 hi hL (lw_c9 [l.2.2 (i + 1)] vL_law_453 h h1 h2 rfl rfl (Nat.le_of_ble_eq_true rfl) (fun wr1 h3 => g_icmp_eq (tgt := 996) dL_law_456 rfl (fun _ => hK _ _ h3) (fun q => absurd rfl q)))))))))
theorem dL_law_461 : decode cL_law 461 = .ok (.aload_n 1, 1) := by decide +kernel
theorem dL_law_462 : decode cL_law 462 = .ok (.aload_n 0, 1) := by decide +kernel
theorem dL_law_463 : decode cL_law 463 = .ok (.iload_n 3, 1) := by decide +kernel
theorem dL_law_464 : decode cL_law 464 = .ok (.iconst 1, 1) := by decide +kernel
theorem dL_law_465 : decode cL_law 465 = .ok (.iadd, 1) := by decide +kernel
theorem dL_law_466 : decode cL_law 466 = .ok (.iaload, 1) := by decide +kernel
theorem dL_law_467 : decode cL_law 467 = .ok (.invokevirtual 68, 3) := by decide +kernel
theorem vL_law_467 : tg_VS mL_law 467 mX8_kept 1 := ⟨okX8_kept, ⟨68, dL_law_467, mlL_68⟩, insX8_kept, selX8_kept, parX8_kept, rfl, rfl, Nat.le_of_ble_eq_true rfl, Nat.le_of_ble_eq_true rfl⟩
theorem dL_law_470 : decode cL_law 470 = .ok (.aload_n 2, 1) := by decide +kernel
theorem dL_law_471 : decode cL_law 471 = .ok (.aload_n 0, 1) := by decide +kernel
theorem dL_law_472 : decode cL_law 472 = .ok (.iload_n 3, 1) := by decide +kernel
theorem dL_law_473 : decode cL_law 473 = .ok (.iconst 1, 1) := by decide +kernel
theorem dL_law_474 : decode cL_law 474 = .ok (.iadd, 1) := by decide +kernel
theorem dL_law_475 : decode cL_law 475 = .ok (.iaload, 1) := by decide +kernel
theorem dL_law_476 : decode cL_law 476 = .ok (.invokevirtual 71, 3) := by decide +kernel
theorem vL_law_476 : tg_VS mL_law 476 mX9_kept 1 := ⟨okX9_kept, ⟨71, dL_law_476, mlL_71⟩, insX9_kept, selX9_kept, parX9_kept, rfl, rfl, Nat.le_of_ble_eq_true rfl, Nat.le_of_ble_eq_true rfl⟩
theorem dL_law_479 : decode cL_law 479 = .ok (.if_icmp .eq 517, 3) := by decide +kernel
theorem lw_461 (hK : ∀ wc wr, J wc wr → tg_G l mL_law 0 K kc ks 996 (lvL i) [] (jn wc wr)) (h : J wc wr) (hi : i + 4 < l.2.1) (hL : l.2.1 ≤ 2560) : tg_G l mL_law 0 K kc ks 461 (lvL i) [] (jn wc wr) := (lw_a1 dL_law_461 (lw_arg 1 (by decide) dL_law_462 dL_law_463 dL_law_464 dL_law_465 dL_law_466 hi hL (lw_c8 [l.2.2 (i + 1)] vL_law_467 (J_kept h) h rfl rfl (Nat.le_of_ble_eq_true rfl) (fun wc1 x h1 h2 => (lw_a2 dL_law_470 (lw_arg 1 (by decide) dL_law_471 dL_law_472 dL_law_473 dL_law_474 dL_law_475 hi hL (lw_c9 [l.2.2 (i + 1)] vL_law_476 h h1 h2 rfl rfl (Nat.le_of_ble_eq_true rfl) (fun wr1 h3 => g_icmp_eq (tgt := 996) dL_law_479 rfl (fun _ => hK _ _ h3) (fun q => absurd rfl q)))))))))
end LAWC
