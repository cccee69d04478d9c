/-! THE LAW: its cases, c -/
section LAWC
variable {l : tg_Ln} {K : Option Value → List va_E → Prop} {kc ks i : Nat} {wc wr : List va_E}
theorem dL_law_484 : decode cL_law 484 = .ok (.aload_n 1, 1) := by decide +kernel
theorem dL_law_485 : decode cL_law 485 = .ok (.aload_n 0, 1) := by decide +kernel
theorem dL_law_486 : decode cL_law 486 = .ok (.iload_n 3, 1) := by decide +kernel
theorem dL_law_487 : decode cL_law 487 = .ok (.iconst 1, 1) := by decide +kernel
theorem dL_law_488 : decode cL_law 488 = .ok (.iadd, 1) := by decide +kernel
theorem dL_law_489 : decode cL_law 489 = .ok (.iaload, 1) := by decide +kernel
theorem dL_law_490 : decode cL_law 490 = .ok (.aload_n 0, 1) := by decide +kernel
theorem dL_law_491 : decode cL_law 491 = .ok (.iload_n 3, 1) := by decide +kernel
theorem dL_law_492 : decode cL_law 492 = .ok (.iconst 2, 1) := by decide +kernel
theorem dL_law_493 : decode cL_law 493 = .ok (.iadd, 1) := by decide +kernel
theorem dL_law_494 : decode cL_law 494 = .ok (.iaload, 1) := by decide +kernel
theorem dL_law_495 : decode cL_law 495 = .ok (.invokevirtual 72, 3) := by decide +kernel
theorem vL_law_495 : tg_VS mL_law 495 mX8_ask 2 := ⟨okX8_ask, ⟨72, dL_law_495, mlL_72⟩, insX8_ask, selX8_ask, parX8_ask, rfl, rfl, Nat.le_of_ble_eq_true rfl, Nat.le_of_ble_eq_true rfl⟩
theorem dL_law_498 : decode cL_law 498 = .ok (.aload_n 2, 1) := by decide +kernel
theorem dL_law_499 : decode cL_law 499 = .ok (.aload_n 0, 1) := by decide +kernel
theorem dL_law_500 : decode cL_law 500 = .ok (.iload_n 3, 1) := by decide +kernel
theorem dL_law_501 : decode cL_law 501 = .ok (.iconst 1, 1) := by decide +kernel
theorem dL_law_502 : decode cL_law 502 = .ok (.iadd, 1) := by decide +kernel
theorem dL_law_503 : decode cL_law 503 = .ok (.iaload, 1) := by decide +kernel
theorem dL_law_504 : decode cL_law 504 = .ok (.aload_n 0, 1) := by decide +kernel
theorem dL_law_505 : decode cL_law 505 = .ok (.iload_n 3, 1) := by decide +kernel
theorem dL_law_506 : decode cL_law 506 = .ok (.iconst 2, 1) := by decide +kernel
theorem dL_law_507 : decode cL_law 507 = .ok (.iadd, 1) := by decide +kernel
theorem dL_law_508 : decode cL_law 508 = .ok (.iaload, 1) := by decide +kernel
theorem dL_law_509 : decode cL_law 509 = .ok (.invokevirtual 75, 3) := by decide +kernel
theorem vL_law_509 : tg_VS mL_law 509 mX9_ask 2 := ⟨okX9_ask, ⟨75, dL_law_509, mlL_75⟩, insX9_ask, selX9_ask, parX9_ask, rfl, rfl, Nat.le_of_ble_eq_true rfl, Nat.le_of_ble_eq_true rfl⟩
theorem dL_law_512 : decode cL_law 512 = .ok (.if_icmp .eq 484, 3) := by decide +kernel
theorem lw_484 (hK : ∀ wc wr, J wc wr → tg_G l mL_law 0 K kc ks 996 (lvL i) [] (jn wc wr)) (h : J wc wr) (hi : i + 4 < l.2.1) (hL : l.2.1 ≤ 2560) : tg_G l mL_law 0 K kc ks 484 (lvL i) [] (jn wc wr) := (lw_a1 dL_law_484 (lw_arg 1 (by decide) dL_law_485 dL_law_486 dL_law_487 dL_law_488 dL_law_489 hi hL (lw_arg 2 (by decide) dL_law_490 dL_law_491 dL_law_492 dL_law_493 dL_law_494 hi hL (lw_c8 [l.2.2 (i + 1), l.2.2 (i + 2)] vL_law_495 (J_ask h) h rfl rfl (Nat.le_of_ble_eq_true rfl) (fun wc1 x h1 h2 => (lw_a2 dL_law_498 (lw_arg 1 (by decide) dL_law_499 dL_law_500 dL_law_501 dL_law_502 dL_law_503 hi hL (lw_arg 2 (by decide) dL_law_504 dL_law_505 dL_law_506 dL_law_507 dL_law_508 hi hL (lw_c9 [l.2.2 (i + 1), l.2.2 (i + 2)] vL_law_509 h h1 h2 rfl rfl (Nat.le_of_ble_eq_true rfl) (fun wr1 h3 => g_icmp_eq (tgt := 996) dL_law_512 rfl (fun _ => hK _ _ h3) (fun q => absurd rfl q)))))))))))
theorem dL_law_517 : decode cL_law 517 = .ok (.aload_n 1, 1) := by decide +kernel
theorem dL_law_518 : decode cL_law 518 = .ok (.aload_n 0, 1) := by decide +kernel
theorem dL_law_519 : decode cL_law 519 = .ok (.iload_n 3, 1) := by decide +kernel
theorem dL_law_520 : decode cL_law 520 = .ok (.iconst 1, 1) := by decide +kernel
theorem dL_law_521 : decode cL_law 521 = .ok (.iadd, 1) := by decide +kernel
theorem dL_law_522 : decode cL_law 522 = .ok (.iaload, 1) := by decide +kernel
theorem dL_law_523 : decode cL_law 523 = .ok (.aload_n 0, 1) := by decide +kernel
theorem dL_law_524 : decode cL_law 524 = .ok (.iload_n 3, 1) := by decide +kernel
theorem dL_law_525 : decode cL_law 525 = .ok (.iconst 2, 1) := by decide +kernel
theorem dL_law_526 : decode cL_law 526 = .ok (.iadd, 1) := by decide +kernel
theorem dL_law_527 : decode cL_law 527 = .ok (.iaload, 1) := by decide +kernel
theorem dL_law_528 : decode cL_law 528 = .ok (.invokevirtual 76, 3) := by decide +kernel
theorem vL_law_528 : tg_VS mL_law 528 mX8_part 2 := ⟨okX8_part, ⟨76, dL_law_528, mlL_76⟩, insX8_part, selX8_part, parX8_part, rfl, rfl, Nat.le_of_ble_eq_true rfl, Nat.le_of_ble_eq_true rfl⟩
theorem dL_law_531 : decode cL_law 531 = .ok (.aload_n 2, 1) := by decide +kernel
theorem dL_law_532 : decode cL_law 532 = .ok (.aload_n 0, 1) := by decide +kernel
theorem dL_law_533 : decode cL_law 533 = .ok (.iload_n 3, 1) := by decide +kernel
theorem dL_law_534 : decode cL_law 534 = .ok (.iconst 1, 1) := by decide +kernel
theorem dL_law_535 : decode cL_law 535 = .ok (.iadd, 1) := by decide +kernel
theorem dL_law_536 : decode cL_law 536 = .ok (.iaload, 1) := by decide +kernel
theorem dL_law_537 : decode cL_law 537 = .ok (.aload_n 0, 1) := by decide +kernel
theorem dL_law_538 : decode cL_law 538 = .ok (.iload_n 3, 1) := by decide +kernel
theorem dL_law_539 : decode cL_law 539 = .ok (.iconst 2, 1) := by decide +kernel
theorem dL_law_540 : decode cL_law 540 = .ok (.iadd, 1) := by decide +kernel
theorem dL_law_541 : decode cL_law 541 = .ok (.iaload, 1) := by decide +kernel
theorem dL_law_542 : decode cL_law 542 = .ok (.invokevirtual 79, 3) := by decide +kernel
theorem vL_law_542 : tg_VS mL_law 542 mX9_part 2 := ⟨okX9_part, ⟨79, dL_law_542, mlL_79⟩, insX9_part, selX9_part, parX9_part, rfl, rfl, Nat.le_of_ble_eq_true rfl, Nat.le_of_ble_eq_true rfl⟩
theorem dL_law_545 : decode cL_law 545 = .ok (.if_icmp .eq 451, 3) := by decide +kernel
theorem lw_517 (hK : ∀ wc wr, J wc wr → tg_G l mL_law 0 K kc ks 996 (lvL i) [] (jn wc wr)) (h : J wc wr) (hi : i + 4 < l.2.1) (hL : l.2.1 ≤ 2560) : tg_G l mL_law 0 K kc ks 517 (lvL i) [] (jn wc wr) := (lw_a1 dL_law_517 (lw_arg 1 (by decide) dL_law_518 dL_law_519 dL_law_520 dL_law_521 dL_law_522 hi hL (lw_arg 2 (by decide) dL_law_523 dL_law_524 dL_law_525 dL_law_526 dL_law_527 hi hL (lw_c8 [l.2.2 (i + 1), l.2.2 (i + 2)] vL_law_528 (J_part h) h rfl rfl (Nat.le_of_ble_eq_true rfl) (fun wc1 x h1 h2 => (lw_a2 dL_law_531 (lw_arg 1 (by decide) dL_law_532 dL_law_533 dL_law_534 dL_law_535 dL_law_536 hi hL (lw_arg 2 (by decide) dL_law_537 dL_law_538 dL_law_539 dL_law_540 dL_law_541 hi hL (lw_c9 [l.2.2 (i + 1), l.2.2 (i + 2)] vL_law_542 h h1 h2 rfl rfl (Nat.le_of_ble_eq_true rfl) (fun wr1 h3 => g_icmp_eq (tgt := 996) dL_law_545 rfl (fun _ => hK _ _ h3) (fun q => absurd rfl q)))))))))))
theorem dL_law_550 : decode cL_law 550 = .ok (.aload_n 1, 1) := by decide +kernel
theorem dL_law_551 : decode cL_law 551 = .ok (.aload_n 0, 1) := by decide +kernel
theorem dL_law_552 : decode cL_law 552 = .ok (.iload_n 3, 1) := by decide +kernel
theorem dL_law_553 : decode cL_law 553 = .ok (.iconst 1, 1) := by decide +kernel
theorem dL_law_554 : decode cL_law 554 = .ok (.iadd, 1) := by decide +kernel
theorem dL_law_555 : decode cL_law 555 = .ok (.iaload, 1) := by decide +kernel
theorem dL_law_556 : decode cL_law 556 = .ok (.invokevirtual 80, 3) := by decide +kernel
theorem vL_law_556 : tg_VS mL_law 556 mX8_best 1 := ⟨okX8_best, ⟨80, dL_law_556, mlL_80⟩, insX8_best, selX8_best, parX8_best, rfl, rfl, Nat.le_of_ble_eq_true rfl, Nat.le_of_ble_eq_true rfl⟩
theorem dL_law_559 : decode cL_law 559 = .ok (.aload_n 2, 1) := by decide +kernel
theorem dL_law_560 : decode cL_law 560 = .ok (.aload_n 0, 1) := by decide +kernel
theorem dL_law_561 : decode cL_law 561 = .ok (.iload_n 3, 1) := by decide +kernel
theorem dL_law_562 : decode cL_law 562 = .ok (.iconst 1, 1) := by decide +kernel
theorem dL_law_563 : decode cL_law 563 = .ok (.iadd, 1) := by decide +kernel
theorem dL_law_564 : decode cL_law 564 = .ok (.iaload, 1) := by decide +kernel
theorem dL_law_565 : decode cL_law 565 = .ok (.invokevirtual 83, 3) := by decide +kernel
theorem vL_law_565 : tg_VS mL_law 565 mX9_best 1 := ⟨okX9_best, ⟨83, dL_law_565, mlL_83⟩, insX9_best, selX9_best, parX9_best, rfl, rfl, Nat.le_of_ble_eq_true rfl, Nat.le_of_ble_eq_true rfl⟩
theorem dL_law_568 : decode cL_law 568 = .ok (.if_icmp .eq 428, 3) := by decide +kernel
theorem lw_550 (hK : ∀ wc wr, J wc wr → tg_G l mL_law 0 K kc ks 996 (lvL i) [] (jn wc wr)) (h : J wc wr) (hi : i + 4 < l.2.1) (hL : l.2.1 ≤ 2560) : tg_G l mL_law 0 K kc ks 550 (lvL i) [] (jn wc wr) := (lw_a1 dL_law_550 (lw_arg 1 (by decide) dL_law_551 dL_law_552 dL_law_553 dL_law_554 dL_law_555 hi hL (lw_c8 [l.2.2 (i + 1)] vL_law_556 (J_best h) h rfl rfl (Nat.le_of_ble_eq_true rfl) (fun wc1 x h1 h2 => (lw_a2 dL_law_559 (lw_arg 1 (by decide) dL_law_560 dL_law_561 dL_law_562 dL_law_563 dL_law_564 hi hL (lw_c9 [l.2.2 (i + 1)] vL_law_565 h h1 h2 rfl rfl (Nat.le_of_ble_eq_true rfl) (fun wr1 h3 => g_icmp_eq (tgt := 996) dL_law_568 rfl (fun _ => hK _ _ h3) (fun q => absurd rfl q)))))))))
theorem dL_law_573 : decode cL_law 573 = .ok (.aload_n 1, 1) := by decide +kernel
theorem dL_law_574 : decode cL_law 574 = .ok (.aload_n 0, 1) := by decide +kernel
theorem dL_law_575 : decode cL_law 575 = .ok (.iload_n 3, 1) := by decide +kernel
theorem dL_law_576 : decode cL_law 576 = .ok (.iconst 1, 1) := by decide +kernel
theorem dL_law_577 : decode cL_law 577 = .ok (.iadd, 1) := by decide +kernel
theorem dL_law_578 : decode cL_law 578 = .ok (.iaload, 1) := by decide +kernel
theorem dL_law_579 : decode cL_law 579 = .ok (.aload_n 0, 1) := by decide +kernel
theorem dL_law_580 : decode cL_law 580 = .ok (.iload_n 3, 1) := by decide +kernel
theorem dL_law_581 : decode cL_law 581 = .ok (.iconst 2, 1) := by decide +kernel
theorem dL_law_582 : decode cL_law 582 = .ok (.iadd, 1) := by decide +kernel
theorem dL_law_583 : decode cL_law 583 = .ok (.iaload, 1) := by decide +kernel
theorem dL_law_584 : decode cL_law 584 = .ok (.invokevirtual 84, 3) := by decide +kernel
theorem vL_law_584 : tg_VS mL_law 584 mX8_more 2 := ⟨okX8_more, ⟨84, dL_law_584, mlL_84⟩, insX8_more, selX8_more, parX8_more, rfl, rfl, Nat.le_of_ble_eq_true rfl, Nat.le_of_ble_eq_true rfl⟩
theorem dL_law_587 : decode cL_law 587 = .ok (.aload_n 2, 1) := by decide +kernel
theorem dL_law_588 : decode cL_law 588 = .ok (.aload_n 0, 1) := by decide +kernel
theorem dL_law_589 : decode cL_law 589 = .ok (.iload_n 3, 1) := by decide +kernel
theorem dL_law_590 : decode cL_law 590 = .ok (.iconst 1, 1) := by decide +kernel
theorem dL_law_591 : decode cL_law 591 = .ok (.iadd, 1) := by decide +kernel
theorem dL_law_592 : decode cL_law 592 = .ok (.iaload, 1) := by decide +kernel
theorem dL_law_593 : decode cL_law 593 = .ok (.aload_n 0, 1) := by decide +kernel
theorem dL_law_594 : decode cL_law 594 = .ok (.iload_n 3, 1) := by decide +kernel
theorem dL_law_595 : decode cL_law 595 = .ok (.iconst 2, 1) := by decide +kernel
theorem dL_law_596 : decode cL_law 596 = .ok (.iadd, 1) := by decide +kernel
theorem dL_law_597 : decode cL_law 597 = .ok (.iaload, 1) := by decide +kernel
theorem dL_law_598 : decode cL_law 598 = .ok (.invokevirtual 87, 3) := by decide +kernel
theorem vL_law_598 : tg_VS mL_law 598 mX9_more 2 := ⟨okX9_more, ⟨87, dL_law_598, mlL_87⟩, insX9_more, selX9_more, parX9_more, rfl, rfl, Nat.le_of_ble_eq_true rfl, Nat.le_of_ble_eq_true rfl⟩
theorem dL_law_601 : decode cL_law 601 = .ok (.if_icmp .eq 395, 3) := by decide +kernel
theorem lw_573 (hK : ∀ wc wr, J wc wr → tg_G l mL_law 0 K kc ks 996 (lvL i) [] (jn wc wr)) (h : J wc wr) (hi : i + 4 < l.2.1) (hL : l.2.1 ≤ 2560) : tg_G l mL_law 0 K kc ks 573 (lvL i) [] (jn wc wr) := (lw_a1 dL_law_573 (lw_arg 1 (by decide) dL_law_574 dL_law_575 dL_law_576 dL_law_577 dL_law_578 hi hL (lw_arg 2 (by decide) dL_law_579 dL_law_580 dL_law_581 dL_law_582 dL_law_583 hi hL (lw_c8 [l.2.2 (i + 1), l.2.2 (i + 2)] vL_law_584 (J_more h) h rfl rfl (Nat.le_of_ble_eq_true rfl) (fun wc1 x h1 h2 => (lw_a2 dL_law_587 (lw_arg 1 (by decide) dL_law_588 dL_law_589 dL_law_590 dL_law_591 dL_law_592 hi hL (lw_arg 2 (by decide) dL_law_593 dL_law_594 dL_law_595 dL_law_596 dL_law_597 hi hL (lw_c9 [l.2.2 (i + 1), l.2.2 (i + 2)] vL_law_598 h h1 h2 rfl rfl (Nat.le_of_ble_eq_true rfl) (fun wr1 h3 => g_icmp_eq (tgt := 996) dL_law_601 rfl (fun _ => hK _ _ h3) (fun q => absurd rfl q)))))))))))
theorem dL_law_606 : decode cL_law 606 = .ok (.aload_n 1, 1) := by decide +kernel
theorem dL_law_607 : decode cL_law 607 = .ok (.aload_n 0, 1) := by decide +kernel
theorem dL_law_608 : decode cL_law 608 = .ok (.iload_n 3, 1) := by decide +kernel
theorem dL_law_609 : decode cL_law 609 = .ok (.iconst 1, 1) := by decide +kernel
theorem dL_law_610 : decode cL_law 610 = .ok (.iadd, 1) := by decide +kernel
theorem dL_law_611 : decode cL_law 611 = .ok (.iaload, 1) := by decide +kernel
theorem dL_law_612 : decode cL_law 612 = .ok (.aload_n 0, 1) := by decide +kernel
theorem dL_law_613 : decode cL_law 613 = .ok (.iload_n 3, 1) := by decide +kernel
theorem dL_law_614 : decode cL_law 614 = .ok (.iconst 2, 1) := by decide +kernel
theorem dL_law_615 : decode cL_law 615 = .ok (.iadd, 1) := by decide +kernel
theorem dL_law_616 : decode cL_law 616 = .ok (.iaload, 1) := by decide +kernel
theorem dL_law_617 : decode cL_law 617 = .ok (.invokevirtual 88, 3) := by decide +kernel
theorem vL_law_617 : tg_VS mL_law 617 mX8_less 2 := ⟨okX8_less, ⟨88, dL_law_617, mlL_88⟩, insX8_less, selX8_less, parX8_less, rfl, rfl, Nat.le_of_ble_eq_true rfl, Nat.le_of_ble_eq_true rfl⟩
theorem dL_law_620 : decode cL_law 620 = .ok (.aload_n 2, 1) := by decide +kernel
theorem dL_law_621 : decode cL_law 621 = .ok (.aload_n 0, 1) := by decide +kernel
theorem dL_law_622 : decode cL_law 622 = .ok (.iload_n 3, 1) := by decide +kernel
theorem dL_law_623 : decode cL_law 623 = .ok (.iconst 1, 1) := by decide +kernel
theorem dL_law_624 : decode cL_law 624 = .ok (.iadd, 1) := by decide +kernel
theorem dL_law_625 : decode cL_law 625 = .ok (.iaload, 1) := by decide +kernel
theorem dL_law_626 : decode cL_law 626 = .ok (.aload_n 0, 1) := by decide +kernel
theorem dL_law_627 : decode cL_law 627 = .ok (.iload_n 3, 1) := by decide +kernel
theorem dL_law_628 : decode cL_law 628 = .ok (.iconst 2, 1) := by decide +kernel
theorem dL_law_629 : decode cL_law 629 = .ok (.iadd, 1) := by decide +kernel
theorem dL_law_630 : decode cL_law 630 = .ok (.iaload, 1) := by decide +kernel
theorem dL_law_631 : decode cL_law 631 = .ok (.invokevirtual 91, 3) := by decide +kernel
theorem vL_law_631 : tg_VS mL_law 631 mX9_less 2 := ⟨okX9_less, ⟨91, dL_law_631, mlL_91⟩, insX9_less, selX9_less, parX9_less, rfl, rfl, Nat.le_of_ble_eq_true rfl, Nat.le_of_ble_eq_true rfl⟩
theorem dL_law_634 : decode cL_law 634 = .ok (.if_icmp .eq 362, 3) := by decide +kernel
theorem lw_606 (hK : ∀ wc wr, J wc wr → tg_G l mL_law 0 K kc ks 996 (lvL i) [] (jn wc wr)) (h : J wc wr) (hi : i + 4 < l.2.1) (hL : l.2.1 ≤ 2560) : tg_G l mL_law 0 K kc ks 606 (lvL i) [] (jn wc wr) := (lw_a1 dL_law_606 (lw_arg 1 (by decide) dL_law_607 dL_law_608 dL_law_609 dL_law_610 dL_law_611 hi hL (lw_arg 2 (by decide) dL_law_612 dL_law_613 dL_law_614 dL_law_615 dL_law_616 hi hL (lw_c8 [l.2.2 (i + 1), l.2.2 (i + 2)] vL_law_617 (J_less h) h rfl rfl (Nat.le_of_ble_eq_true rfl) (fun wc1 x h1 h2 => (lw_a2 dL_law_620 (lw_arg 1 (by decide) dL_law_621 dL_law_622 dL_law_623 dL_law_624 dL_law_625 hi hL (lw_arg 2 (by decide) dL_law_626 dL_law_627 dL_law_628 dL_law_629 dL_law_630 hi hL (lw_c9 [l.2.2 (i + 1), l.2.2 (i + 2)] vL_law_631 h h1 h2 rfl rfl (Nat.le_of_ble_eq_true rfl) (fun wr1 h3 => g_icmp_eq (tgt := 996) dL_law_634 rfl (fun _ => hK _ _ h3) (fun q => absurd rfl q)))))))))))
theorem dL_law_639 : decode cL_law 639 = .ok (.aload_n 1, 1) := by decide +kernel
theorem dL_law_640 : decode cL_law 640 = .ok (.aload_n 0, 1) := by decide +kernel
theorem dL_law_641 : decode cL_law 641 = .ok (.iload_n 3, 1) := by decide +kernel
theorem dL_law_642 : decode cL_law 642 = .ok (.iconst 1, 1) := by decide +kernel
theorem dL_law_643 : decode cL_law 643 = .ok (.iadd, 1) := by decide +kernel
theorem dL_law_644 : decode cL_law 644 = .ok (.iaload, 1) := by decide +kernel
theorem dL_law_645 : decode cL_law 645 = .ok (.invokevirtual 92, 3) := by decide +kernel
theorem vL_law_645 : tg_VS mL_law 645 mX8_cap 1 := ⟨okX8_cap, ⟨92, dL_law_645, mlL_92⟩, insX8_cap, selX8_cap, parX8_cap, rfl, rfl, Nat.le_of_ble_eq_true rfl, Nat.le_of_ble_eq_true rfl⟩
theorem dL_law_648 : decode cL_law 648 = .ok (.aload_n 2, 1) := by decide +kernel
theorem dL_law_649 : decode cL_law 649 = .ok (.aload_n 0, 1) := by decide +kernel
theorem dL_law_650 : decode cL_law 650 = .ok (.iload_n 3, 1) := by decide +kernel
theorem dL_law_651 : decode cL_law 651 = .ok (.iconst 1, 1) := by decide +kernel
theorem dL_law_652 : decode cL_law 652 = .ok (.iadd, 1) := by decide +kernel
theorem dL_law_653 : decode cL_law 653 = .ok (.iaload, 1) := by decide +kernel
theorem dL_law_654 : decode cL_law 654 = .ok (.invokevirtual 95, 3) := by decide +kernel
theorem vL_law_654 : tg_VS mL_law 654 mX9_cap 1 := ⟨okX9_cap, ⟨95, dL_law_654, mlL_95⟩, insX9_cap, selX9_cap, parX9_cap, rfl, rfl, Nat.le_of_ble_eq_true rfl, Nat.le_of_ble_eq_true rfl⟩
theorem dL_law_657 : decode cL_law 657 = .ok (.if_icmp .eq 339, 3) := by decide +kernel
theorem lw_639 (hK : ∀ wc wr, J wc wr → tg_G l mL_law 0 K kc ks 996 (lvL i) [] (jn wc wr)) (h : J wc wr) (hi : i + 4 < l.2.1) (hL : l.2.1 ≤ 2560) : tg_G l mL_law 0 K kc ks 639 (lvL i) [] (jn wc wr) := (lw_a1 dL_law_639 (lw_arg 1 (by decide) dL_law_640 dL_law_641 dL_law_642 dL_law_643 dL_law_644 hi hL (lw_c8 [l.2.2 (i + 1)] vL_law_645 (J_cap h) h rfl rfl (Nat.le_of_ble_eq_true rfl) (fun wc1 x h1 h2 => (lw_a2 dL_law_648 (lw_arg 1 (by decide) dL_law_649 dL_law_650 dL_law_651 dL_law_652 dL_law_653 hi hL (lw_c9 [l.2.2 (i + 1)] vL_law_654 h h1 h2 rfl rfl (Nat.le_of_ble_eq_true rfl) (fun wr1 h3 => g_icmp_eq (tgt := 996) dL_law_657 rfl (fun _ => hK _ _ h3) (fun q => absurd rfl q)))))))))
end LAWC
