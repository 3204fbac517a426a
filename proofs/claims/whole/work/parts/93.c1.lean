/-! the law's cases 8 to 15 -/
theorem dL_law_400 : decode code 400 = .ok (.aload_n 1, 1) := by decide +kernel
theorem dL_law_401 : decode code 401 = .ok (.aload_n 0, 1) := by decide +kernel
theorem dL_law_402 : decode code 402 = .ok (.iload_n 3, 1) := by decide +kernel
theorem dL_law_403 : decode code 403 = .ok (.iconst 1, 1) := by decide +kernel
theorem dL_law_404 : decode code 404 = .ok (.iadd, 1) := by decide +kernel
theorem dL_law_405 : decode code 405 = .ok (.iaload, 1) := by decide +kernel
theorem dL_law_406 : decode code 406 = .ok (.aload_n 0, 1) := by decide +kernel
theorem dL_law_407 : decode code 407 = .ok (.iload_n 3, 1) := by decide +kernel
theorem dL_law_408 : decode code 408 = .ok (.iconst 2, 1) := by decide +kernel
theorem dL_law_409 : decode code 409 = .ok (.iadd, 1) := by decide +kernel
theorem dL_law_410 : decode code 410 = .ok (.iaload, 1) := by decide +kernel
theorem dL_law_411 : decode code 411 = .ok (.invokevirtual 50, 3) := by decide +kernel
theorem dL_law_414 : decode code 414 = .ok (.aload_n 2, 1) := by decide +kernel
theorem dL_law_415 : decode code 415 = .ok (.aload_n 0, 1) := by decide +kernel
theorem dL_law_416 : decode code 416 = .ok (.iload_n 3, 1) := by decide +kernel
theorem dL_law_417 : decode code 417 = .ok (.iconst 1, 1) := by decide +kernel
theorem dL_law_418 : decode code 418 = .ok (.iadd, 1) := by decide +kernel
theorem dL_law_419 : decode code 419 = .ok (.iaload, 1) := by decide +kernel
theorem dL_law_420 : decode code 420 = .ok (.aload_n 0, 1) := by decide +kernel
theorem dL_law_421 : decode code 421 = .ok (.iload_n 3, 1) := by decide +kernel
theorem dL_law_422 : decode code 422 = .ok (.iconst 2, 1) := by decide +kernel
theorem dL_law_423 : decode code 423 = .ok (.iadd, 1) := by decide +kernel
theorem dL_law_424 : decode code 424 = .ok (.iaload, 1) := by decide +kernel
theorem dL_law_425 : decode code 425 = .ok (.invokevirtual 53, 3) := by decide +kernel
theorem dL_law_428 : decode code 428 = .ok (.if_icmp .eq 734, 3) := by decide +kernel
theorem dL_law_433 : decode code 433 = .ok (.aload_n 1, 1) := by decide +kernel
theorem dL_law_434 : decode code 434 = .ok (.aload_n 0, 1) := by decide +kernel
theorem dL_law_435 : decode code 435 = .ok (.iload_n 3, 1) := by decide +kernel
theorem dL_law_436 : decode code 436 = .ok (.iconst 1, 1) := by decide +kernel
theorem dL_law_437 : decode code 437 = .ok (.iadd, 1) := by decide +kernel
theorem dL_law_438 : decode code 438 = .ok (.iaload, 1) := by decide +kernel
theorem dL_law_439 : decode code 439 = .ok (.invokevirtual 54, 3) := by decide +kernel
theorem dL_law_442 : decode code 442 = .ok (.aload_n 2, 1) := by decide +kernel
theorem dL_law_443 : decode code 443 = .ok (.aload_n 0, 1) := by decide +kernel
theorem dL_law_444 : decode code 444 = .ok (.iload_n 3, 1) := by decide +kernel
theorem dL_law_445 : decode code 445 = .ok (.iconst 1, 1) := by decide +kernel
theorem dL_law_446 : decode code 446 = .ok (.iadd, 1) := by decide +kernel
theorem dL_law_447 : decode code 447 = .ok (.iaload, 1) := by decide +kernel
theorem dL_law_448 : decode code 448 = .ok (.invokevirtual 57, 3) := by decide +kernel
theorem dL_law_451 : decode code 451 = .ok (.if_icmp .eq 711, 3) := by decide +kernel
theorem dL_law_456 : decode code 456 = .ok (.aload_n 1, 1) := by decide +kernel
theorem dL_law_457 : decode code 457 = .ok (.aload_n 0, 1) := by decide +kernel
theorem dL_law_458 : decode code 458 = .ok (.iload_n 3, 1) := by decide +kernel
theorem dL_law_459 : decode code 459 = .ok (.iconst 1, 1) := by decide +kernel
theorem dL_law_460 : decode code 460 = .ok (.iadd, 1) := by decide +kernel
theorem dL_law_461 : decode code 461 = .ok (.iaload, 1) := by decide +kernel
theorem dL_law_462 : decode code 462 = .ok (.aload_n 0, 1) := by decide +kernel
theorem dL_law_463 : decode code 463 = .ok (.iload_n 3, 1) := by decide +kernel
theorem dL_law_464 : decode code 464 = .ok (.iconst 2, 1) := by decide +kernel
theorem dL_law_465 : decode code 465 = .ok (.iadd, 1) := by decide +kernel
theorem dL_law_466 : decode code 466 = .ok (.iaload, 1) := by decide +kernel
theorem dL_law_467 : decode code 467 = .ok (.invokevirtual 58, 3) := by decide +kernel
theorem dL_law_470 : decode code 470 = .ok (.aload_n 2, 1) := by decide +kernel
theorem dL_law_471 : decode code 471 = .ok (.aload_n 0, 1) := by decide +kernel
theorem dL_law_472 : decode code 472 = .ok (.iload_n 3, 1) := by decide +kernel
theorem dL_law_473 : decode code 473 = .ok (.iconst 1, 1) := by decide +kernel
theorem dL_law_474 : decode code 474 = .ok (.iadd, 1) := by decide +kernel
theorem dL_law_475 : decode code 475 = .ok (.iaload, 1) := by decide +kernel
theorem dL_law_476 : decode code 476 = .ok (.aload_n 0, 1) := by decide +kernel
theorem dL_law_477 : decode code 477 = .ok (.iload_n 3, 1) := by decide +kernel
theorem dL_law_478 : decode code 478 = .ok (.iconst 2, 1) := by decide +kernel
theorem dL_law_479 : decode code 479 = .ok (.iadd, 1) := by decide +kernel
theorem dL_law_480 : decode code 480 = .ok (.iaload, 1) := by decide +kernel
theorem dL_law_481 : decode code 481 = .ok (.invokevirtual 61, 3) := by decide +kernel
theorem dL_law_484 : decode code 484 = .ok (.if_icmp .eq 678, 3) := by decide +kernel
theorem dL_law_489 : decode code 489 = .ok (.aload_n 1, 1) := by decide +kernel
theorem dL_law_490 : decode code 490 = .ok (.aload_n 0, 1) := by decide +kernel
theorem dL_law_491 : decode code 491 = .ok (.iload_n 3, 1) := by decide +kernel
theorem dL_law_492 : decode code 492 = .ok (.iconst 1, 1) := by decide +kernel
theorem dL_law_493 : decode code 493 = .ok (.iadd, 1) := by decide +kernel
theorem dL_law_494 : decode code 494 = .ok (.iaload, 1) := by decide +kernel
theorem dL_law_495 : decode code 495 = .ok (.aload_n 0, 1) := by decide +kernel
theorem dL_law_496 : decode code 496 = .ok (.iload_n 3, 1) := by decide +kernel
theorem dL_law_497 : decode code 497 = .ok (.iconst 2, 1) := by decide +kernel
theorem dL_law_498 : decode code 498 = .ok (.iadd, 1) := by decide +kernel
theorem dL_law_499 : decode code 499 = .ok (.iaload, 1) := by decide +kernel
theorem dL_law_500 : decode code 500 = .ok (.invokevirtual 62, 3) := by decide +kernel
theorem dL_law_503 : decode code 503 = .ok (.aload_n 2, 1) := by decide +kernel
theorem dL_law_504 : decode code 504 = .ok (.aload_n 0, 1) := by decide +kernel
theorem dL_law_505 : decode code 505 = .ok (.iload_n 3, 1) := by decide +kernel
theorem dL_law_506 : decode code 506 = .ok (.iconst 1, 1) := by decide +kernel
theorem dL_law_507 : decode code 507 = .ok (.iadd, 1) := by decide +kernel
theorem dL_law_508 : decode code 508 = .ok (.iaload, 1) := by decide +kernel
theorem dL_law_509 : decode code 509 = .ok (.aload_n 0, 1) := by decide +kernel
theorem dL_law_510 : decode code 510 = .ok (.iload_n 3, 1) := by decide +kernel
theorem dL_law_511 : decode code 511 = .ok (.iconst 2, 1) := by decide +kernel
theorem dL_law_512 : decode code 512 = .ok (.iadd, 1) := by decide +kernel
theorem dL_law_513 : decode code 513 = .ok (.iaload, 1) := by decide +kernel
theorem dL_law_514 : decode code 514 = .ok (.invokevirtual 65, 3) := by decide +kernel
theorem dL_law_517 : decode code 517 = .ok (.if_icmp .eq 645, 3) := by decide +kernel
theorem dL_law_522 : decode code 522 = .ok (.aload_n 1, 1) := by decide +kernel
theorem dL_law_523 : decode code 523 = .ok (.invokevirtual 66, 3) := by decide +kernel
theorem dL_law_526 : decode code 526 = .ok (.aload_n 2, 1) := by decide +kernel
theorem dL_law_527 : decode code 527 = .ok (.invokevirtual 70, 3) := by decide +kernel
theorem dL_law_530 : decode code 530 = .ok (.if_icmp .eq 632, 3) := by decide +kernel
theorem dL_law_535 : decode code 535 = .ok (.aload_n 1, 1) := by decide +kernel
theorem dL_law_536 : decode code 536 = .ok (.aload_n 0, 1) := by decide +kernel
theorem dL_law_537 : decode code 537 = .ok (.iload_n 3, 1) := by decide +kernel
theorem dL_law_538 : decode code 538 = .ok (.iconst 1, 1) := by decide +kernel
theorem dL_law_539 : decode code 539 = .ok (.iadd, 1) := by decide +kernel
theorem dL_law_540 : decode code 540 = .ok (.iaload, 1) := by decide +kernel
theorem dL_law_541 : decode code 541 = .ok (.aload_n 0, 1) := by decide +kernel
theorem dL_law_542 : decode code 542 = .ok (.iload_n 3, 1) := by decide +kernel
theorem dL_law_543 : decode code 543 = .ok (.iconst 2, 1) := by decide +kernel
theorem dL_law_544 : decode code 544 = .ok (.iadd, 1) := by decide +kernel
theorem dL_law_545 : decode code 545 = .ok (.iaload, 1) := by decide +kernel
theorem dL_law_546 : decode code 546 = .ok (.invokevirtual 71, 3) := by decide +kernel
theorem dL_law_549 : decode code 549 = .ok (.aload_n 2, 1) := by decide +kernel
theorem dL_law_550 : decode code 550 = .ok (.aload_n 0, 1) := by decide +kernel
theorem dL_law_551 : decode code 551 = .ok (.iload_n 3, 1) := by decide +kernel
theorem dL_law_552 : decode code 552 = .ok (.iconst 1, 1) := by decide +kernel
theorem dL_law_553 : decode code 553 = .ok (.iadd, 1) := by decide +kernel
theorem dL_law_554 : decode code 554 = .ok (.iaload, 1) := by decide +kernel
theorem dL_law_555 : decode code 555 = .ok (.aload_n 0, 1) := by decide +kernel
theorem dL_law_556 : decode code 556 = .ok (.iload_n 3, 1) := by decide +kernel
theorem dL_law_557 : decode code 557 = .ok (.iconst 2, 1) := by decide +kernel
theorem dL_law_558 : decode code 558 = .ok (.iadd, 1) := by decide +kernel
theorem dL_law_559 : decode code 559 = .ok (.iaload, 1) := by decide +kernel
theorem dL_law_560 : decode code 560 = .ok (.invokevirtual 75, 3) := by decide +kernel
theorem dL_law_563 : decode code 563 = .ok (.if_icmp .eq 599, 3) := by decide +kernel
theorem dL_law_568 : decode code 568 = .ok (.aload_n 1, 1) := by decide +kernel
theorem dL_law_569 : decode code 569 = .ok (.aload_n 0, 1) := by decide +kernel
theorem dL_law_570 : decode code 570 = .ok (.iload_n 3, 1) := by decide +kernel
theorem dL_law_571 : decode code 571 = .ok (.iconst 1, 1) := by decide +kernel
theorem dL_law_572 : decode code 572 = .ok (.iadd, 1) := by decide +kernel
theorem dL_law_573 : decode code 573 = .ok (.iaload, 1) := by decide +kernel
theorem dL_law_574 : decode code 574 = .ok (.aload_n 0, 1) := by decide +kernel
theorem dL_law_575 : decode code 575 = .ok (.iload_n 3, 1) := by decide +kernel
theorem dL_law_576 : decode code 576 = .ok (.iconst 2, 1) := by decide +kernel
theorem dL_law_577 : decode code 577 = .ok (.iadd, 1) := by decide +kernel
theorem dL_law_578 : decode code 578 = .ok (.iaload, 1) := by decide +kernel
theorem dL_law_579 : decode code 579 = .ok (.aload_n 0, 1) := by decide +kernel
theorem dL_law_580 : decode code 580 = .ok (.iload_n 3, 1) := by decide +kernel
theorem dL_law_581 : decode code 581 = .ok (.iconst 3, 1) := by decide +kernel
theorem dL_law_582 : decode code 582 = .ok (.iadd, 1) := by decide +kernel
theorem dL_law_583 : decode code 583 = .ok (.iaload, 1) := by decide +kernel
theorem dL_law_584 : decode code 584 = .ok (.invokevirtual 76, 3) := by decide +kernel
theorem dL_law_587 : decode code 587 = .ok (.aload_n 2, 1) := by decide +kernel
theorem dL_law_588 : decode code 588 = .ok (.aload_n 0, 1) := by decide +kernel
theorem dL_law_589 : decode code 589 = .ok (.iload_n 3, 1) := by decide +kernel
theorem dL_law_590 : decode code 590 = .ok (.iconst 1, 1) := by decide +kernel
theorem dL_law_591 : decode code 591 = .ok (.iadd, 1) := by decide +kernel
theorem dL_law_592 : decode code 592 = .ok (.iaload, 1) := by decide +kernel
theorem dL_law_593 : decode code 593 = .ok (.aload_n 0, 1) := by decide +kernel
theorem dL_law_594 : decode code 594 = .ok (.iload_n 3, 1) := by decide +kernel
theorem dL_law_595 : decode code 595 = .ok (.iconst 2, 1) := by decide +kernel
theorem dL_law_596 : decode code 596 = .ok (.iadd, 1) := by decide +kernel
theorem dL_law_597 : decode code 597 = .ok (.iaload, 1) := by decide +kernel
theorem dL_law_598 : decode code 598 = .ok (.aload_n 0, 1) := by decide +kernel
theorem dL_law_599 : decode code 599 = .ok (.iload_n 3, 1) := by decide +kernel
theorem dL_law_600 : decode code 600 = .ok (.iconst 3, 1) := by decide +kernel
theorem dL_law_601 : decode code 601 = .ok (.iadd, 1) := by decide +kernel
theorem dL_law_602 : decode code 602 = .ok (.iaload, 1) := by decide +kernel
theorem dL_law_603 : decode code 603 = .ok (.invokevirtual 80, 3) := by decide +kernel
theorem dL_law_606 : decode code 606 = .ok (.if_icmp .eq 556, 3) := by decide +kernel
theorem dL_law_611 : decode code 611 = .ok (.aload_n 1, 1) := by decide +kernel
theorem dL_law_612 : decode code 612 = .ok (.aload_n 0, 1) := by decide +kernel
theorem dL_law_613 : decode code 613 = .ok (.iload_n 3, 1) := by decide +kernel
theorem dL_law_614 : decode code 614 = .ok (.iconst 1, 1) := by decide +kernel
theorem dL_law_615 : decode code 615 = .ok (.iadd, 1) := by decide +kernel
theorem dL_law_616 : decode code 616 = .ok (.iaload, 1) := by decide +kernel
theorem dL_law_617 : decode code 617 = .ok (.aload_n 0, 1) := by decide +kernel
theorem dL_law_618 : decode code 618 = .ok (.iload_n 3, 1) := by decide +kernel
theorem dL_law_619 : decode code 619 = .ok (.iconst 2, 1) := by decide +kernel
theorem dL_law_620 : decode code 620 = .ok (.iadd, 1) := by decide +kernel
theorem dL_law_621 : decode code 621 = .ok (.iaload, 1) := by decide +kernel
theorem dL_law_622 : decode code 622 = .ok (.invokevirtual 81, 3) := by decide +kernel
theorem dL_law_625 : decode code 625 = .ok (.aload_n 2, 1) := by decide +kernel
theorem dL_law_626 : decode code 626 = .ok (.aload_n 0, 1) := by decide +kernel
theorem dL_law_627 : decode code 627 = .ok (.iload_n 3, 1) := by decide +kernel
theorem dL_law_628 : decode code 628 = .ok (.iconst 1, 1) := by decide +kernel
theorem dL_law_629 : decode code 629 = .ok (.iadd, 1) := by decide +kernel
theorem dL_law_630 : decode code 630 = .ok (.iaload, 1) := by decide +kernel
theorem dL_law_631 : decode code 631 = .ok (.aload_n 0, 1) := by decide +kernel
theorem dL_law_632 : decode code 632 = .ok (.iload_n 3, 1) := by decide +kernel
theorem dL_law_633 : decode code 633 = .ok (.iconst 2, 1) := by decide +kernel
theorem dL_law_634 : decode code 634 = .ok (.iadd, 1) := by decide +kernel
theorem dL_law_635 : decode code 635 = .ok (.iaload, 1) := by decide +kernel
theorem dL_law_636 : decode code 636 = .ok (.invokevirtual 84, 3) := by decide +kernel
theorem dL_law_639 : decode code 639 = .ok (.if_icmp .eq 523, 3) := by decide +kernel
section LC
variable {κ : gK} {B b L i c0 w0 : Nat} {Q : State → Prop} {T : gT} {N : gN} {P : List gN} {S : gS} {u v : gM} {xs : Nat → Int32}
theorem lc_8 (X : gXJ κ (gAb B) code 4 RL ret 16 600 600000 7302250) (hsc : gScr b L xs (gAb B) κ) (hi : i + 6 ≤ L) (hL : L ≤ 3072) (hcw : c0 ≤ 600000 ∧ w0 ≤ 7302250) (hR : RR T N P S u v) (kb : ∀ (T : gT) (N : gN) (P : List gN) (S : gS) (u v : gM), RR T N P S u v → gJ κ 4 (gAb B) Q c0 w0 (gW2 B u v) 1162 [some (.ref b), some (.ref B), some (.ref (B + 162)), some (.int (nI i))] []) : gJ κ 4 (gAb B) Q c0 w0 (gW2 B u v) 400 [some (.ref b), some (.ref B), some (.ref (B + 162)), some (.int (nI i))] [] := by
  obtain ⟨r, u1, v1, T1, N1, P1, S1, e1, e2, hR1⟩ := o_merge (xs (i + 1)) (xs (i + 2)) hR
  refine j_aload_n X (x := B) dL_law_400 rfl ?_
  refine j_arg (k := 1) X hsc rfl (by omega) hL (by decide) dL_law_401 dL_law_402 dL_law_403 dL_law_404 dL_law_405 ?_
  refine j_arg (k := 2) X hsc rfl (by omega) hL (by decide) dL_law_406 dL_law_407 dL_law_408 dL_law_409 dL_law_410 ?_
  refine j_call1 (rest := []) X [.int (xs (i + 1)), .int (xs (i + 2))] (s_X11_merge e1) cvL_50 rfl rfl (Nat.le_of_ble_eq_true rfl) ⟨by decide, by decide⟩ hcw dL_law_411 ?_
  refine j_aload_n X (x := B + 162) dL_law_414 rfl ?_
  refine j_arg (k := 1) X hsc rfl (by omega) hL (by decide) dL_law_415 dL_law_416 dL_law_417 dL_law_418 dL_law_419 ?_
  refine j_arg (k := 2) X hsc rfl (by omega) hL (by decide) dL_law_420 dL_law_421 dL_law_422 dL_law_423 dL_law_424 ?_
  refine j_call2 (rest := [.int r]) X [.int (xs (i + 1)), .int (xs (i + 2))] (s_X12_merge e2) cvL_53 rfl rfl (Nat.le_of_ble_eq_true rfl) ⟨by decide, by decide⟩ hcw dL_law_425 ?_
  exact j_icmp_eq (tgt := 1162) X dL_law_428 (by decide) (fun _ => kb _ _ _ _ _ _ hR1) (fun q => absurd rfl q)
theorem lc_9 (X : gXJ κ (gAb B) code 4 RL ret 16 600 600000 7302250) (hsc : gScr b L xs (gAb B) κ) (hi : i + 6 ≤ L) (hL : L ≤ 3072) (hcw : c0 ≤ 600000 ∧ w0 ≤ 7302250) (hR : RR T N P S u v) (kb : ∀ (T : gT) (N : gN) (P : List gN) (S : gS) (u v : gM), RR T N P S u v → gJ κ 4 (gAb B) Q c0 w0 (gW2 B u v) 1162 [some (.ref b), some (.ref B), some (.ref (B + 162)), some (.int (nI i))] []) : gJ κ 4 (gAb B) Q c0 w0 (gW2 B u v) 433 [some (.ref b), some (.ref B), some (.ref (B + 162)), some (.int (nI i))] [] := by
  obtain ⟨r, u1, v1, T1, N1, P1, S1, e1, e2, hR1⟩ := o_months (xs (i + 1)) hR
  refine j_aload_n X (x := B) dL_law_433 rfl ?_
  refine j_arg (k := 1) X hsc rfl (by omega) hL (by decide) dL_law_434 dL_law_435 dL_law_436 dL_law_437 dL_law_438 ?_
  refine j_call1 (rest := []) X [.int (xs (i + 1))] (s_X11_months e1) cvL_54 rfl rfl (Nat.le_of_ble_eq_true rfl) ⟨by decide, by decide⟩ hcw dL_law_439 ?_
  refine j_aload_n X (x := B + 162) dL_law_442 rfl ?_
  refine j_arg (k := 1) X hsc rfl (by omega) hL (by decide) dL_law_443 dL_law_444 dL_law_445 dL_law_446 dL_law_447 ?_
  refine j_call2 (rest := [.int r]) X [.int (xs (i + 1))] (s_X12_months e2) cvL_57 rfl rfl (Nat.le_of_ble_eq_true rfl) ⟨by decide, by decide⟩ hcw dL_law_448 ?_
  exact j_icmp_eq (tgt := 1162) X dL_law_451 (by decide) (fun _ => kb _ _ _ _ _ _ hR1) (fun q => absurd rfl q)
theorem lc_10 (X : gXJ κ (gAb B) code 4 RL ret 16 600 600000 7302250) (hsc : gScr b L xs (gAb B) κ) (hi : i + 6 ≤ L) (hL : L ≤ 3072) (hcw : c0 ≤ 600000 ∧ w0 ≤ 7302250) (hR : RR T N P S u v) (kb : ∀ (T : gT) (N : gN) (P : List gN) (S : gS) (u v : gM), RR T N P S u v → gJ κ 4 (gAb B) Q c0 w0 (gW2 B u v) 1162 [some (.ref b), some (.ref B), some (.ref (B + 162)), some (.int (nI i))] []) : gJ κ 4 (gAb B) Q c0 w0 (gW2 B u v) 456 [some (.ref b), some (.ref B), some (.ref (B + 162)), some (.int (nI i))] [] := by
  obtain ⟨r, u1, v1, T1, N1, P1, S1, e1, e2, hR1⟩ := o_pay (xs (i + 1)) (xs (i + 2)) hR
  refine j_aload_n X (x := B) dL_law_456 rfl ?_
  refine j_arg (k := 1) X hsc rfl (by omega) hL (by decide) dL_law_457 dL_law_458 dL_law_459 dL_law_460 dL_law_461 ?_
  refine j_arg (k := 2) X hsc rfl (by omega) hL (by decide) dL_law_462 dL_law_463 dL_law_464 dL_law_465 dL_law_466 ?_
  refine j_call1 (rest := []) X [.int (xs (i + 1)), .int (xs (i + 2))] (s_X11_pay e1) cvL_58 rfl rfl (Nat.le_of_ble_eq_true rfl) ⟨by decide, by decide⟩ hcw dL_law_467 ?_
  refine j_aload_n X (x := B + 162) dL_law_470 rfl ?_
  refine j_arg (k := 1) X hsc rfl (by omega) hL (by decide) dL_law_471 dL_law_472 dL_law_473 dL_law_474 dL_law_475 ?_
  refine j_arg (k := 2) X hsc rfl (by omega) hL (by decide) dL_law_476 dL_law_477 dL_law_478 dL_law_479 dL_law_480 ?_
  refine j_call2 (rest := [.int r]) X [.int (xs (i + 1)), .int (xs (i + 2))] (s_X12_pay e2) cvL_61 rfl rfl (Nat.le_of_ble_eq_true rfl) ⟨by decide, by decide⟩ hcw dL_law_481 ?_
  exact j_icmp_eq (tgt := 1162) X dL_law_484 (by decide) (fun _ => kb _ _ _ _ _ _ hR1) (fun q => absurd rfl q)
theorem lc_11 (X : gXJ κ (gAb B) code 4 RL ret 16 600 600000 7302250) (hsc : gScr b L xs (gAb B) κ) (hi : i + 6 ≤ L) (hL : L ≤ 3072) (hcw : c0 ≤ 600000 ∧ w0 ≤ 7302250) (hR : RR T N P S u v) (kb : ∀ (T : gT) (N : gN) (P : List gN) (S : gS) (u v : gM), RR T N P S u v → gJ κ 4 (gAb B) Q c0 w0 (gW2 B u v) 1162 [some (.ref b), some (.ref B), some (.ref (B + 162)), some (.int (nI i))] []) : gJ κ 4 (gAb B) Q c0 w0 (gW2 B u v) 489 [some (.ref b), some (.ref B), some (.ref (B + 162)), some (.int (nI i))] [] := by
  obtain ⟨r, u1, v1, T1, N1, P1, S1, e1, e2, hR1⟩ := o_fail (xs (i + 1)) (xs (i + 2)) hR
  refine j_aload_n X (x := B) dL_law_489 rfl ?_
  refine j_arg (k := 1) X hsc rfl (by omega) hL (by decide) dL_law_490 dL_law_491 dL_law_492 dL_law_493 dL_law_494 ?_
  refine j_arg (k := 2) X hsc rfl (by omega) hL (by decide) dL_law_495 dL_law_496 dL_law_497 dL_law_498 dL_law_499 ?_
  refine j_call1 (rest := []) X [.int (xs (i + 1)), .int (xs (i + 2))] (s_X11_fail e1) cvL_62 rfl rfl (Nat.le_of_ble_eq_true rfl) ⟨by decide, by decide⟩ hcw dL_law_500 ?_
  refine j_aload_n X (x := B + 162) dL_law_503 rfl ?_
  refine j_arg (k := 1) X hsc rfl (by omega) hL (by decide) dL_law_504 dL_law_505 dL_law_506 dL_law_507 dL_law_508 ?_
  refine j_arg (k := 2) X hsc rfl (by omega) hL (by decide) dL_law_509 dL_law_510 dL_law_511 dL_law_512 dL_law_513 ?_
  refine j_call2 (rest := [.int r]) X [.int (xs (i + 1)), .int (xs (i + 2))] (s_X12_fail e2) cvL_65 rfl rfl (Nat.le_of_ble_eq_true rfl) ⟨by decide, by decide⟩ hcw dL_law_514 ?_
  exact j_icmp_eq (tgt := 1162) X dL_law_517 (by decide) (fun _ => kb _ _ _ _ _ _ hR1) (fun q => absurd rfl q)
theorem lc_12 (X : gXJ κ (gAb B) code 4 RL ret 16 600 600000 7302250) (hsc : gScr b L xs (gAb B) κ) (hi : i + 6 ≤ L) (hL : L ≤ 3072) (hcw : c0 ≤ 600000 ∧ w0 ≤ 7302250) (hR : RR T N P S u v) (kb : ∀ (T : gT) (N : gN) (P : List gN) (S : gS) (u v : gM), RR T N P S u v → gJ κ 4 (gAb B) Q c0 w0 (gW2 B u v) 1162 [some (.ref b), some (.ref B), some (.ref (B + 162)), some (.int (nI i))] []) : gJ κ 4 (gAb B) Q c0 w0 (gW2 B u v) 522 [some (.ref b), some (.ref B), some (.ref (B + 162)), some (.int (nI i))] [] := by
  obtain ⟨r, u1, v1, T1, N1, P1, S1, e1, e2, hR1⟩ := o_undo  hR
  refine j_aload_n X (x := B) dL_law_522 rfl ?_
  refine j_call1 (rest := []) X [] (s_X11_undo e1) cvL_66 rfl rfl (Nat.le_of_ble_eq_true rfl) ⟨by decide, by decide⟩ hcw dL_law_523 ?_
  refine j_aload_n X (x := B + 162) dL_law_526 rfl ?_
  refine j_call2 (rest := [.int r]) X [] (s_X12_undo e2) cvL_70 rfl rfl (Nat.le_of_ble_eq_true rfl) ⟨by decide, by decide⟩ hcw dL_law_527 ?_
  exact j_icmp_eq (tgt := 1162) X dL_law_530 (by decide) (fun _ => kb _ _ _ _ _ _ hR1) (fun q => absurd rfl q)
theorem lc_13 (X : gXJ κ (gAb B) code 4 RL ret 16 600 600000 7302250) (hsc : gScr b L xs (gAb B) κ) (hi : i + 6 ≤ L) (hL : L ≤ 3072) (hcw : c0 ≤ 600000 ∧ w0 ≤ 7302250) (hR : RR T N P S u v) (kb : ∀ (T : gT) (N : gN) (P : List gN) (S : gS) (u v : gM), RR T N P S u v → gJ κ 4 (gAb B) Q c0 w0 (gW2 B u v) 1162 [some (.ref b), some (.ref B), some (.ref (B + 162)), some (.int (nI i))] []) : gJ κ 4 (gAb B) Q c0 w0 (gW2 B u v) 535 [some (.ref b), some (.ref B), some (.ref (B + 162)), some (.int (nI i))] [] := by
  obtain ⟨r, u1, v1, T1, N1, P1, S1, e1, e2, hR1⟩ := (o_account (xs (i + 1)) (xs (i + 2)) hR).r hR
  refine j_aload_n X (x := B) dL_law_535 rfl ?_
  refine j_arg (k := 1) X hsc rfl (by omega) hL (by decide) dL_law_536 dL_law_537 dL_law_538 dL_law_539 dL_law_540 ?_
  refine j_arg (k := 2) X hsc rfl (by omega) hL (by decide) dL_law_541 dL_law_542 dL_law_543 dL_law_544 dL_law_545 ?_
  refine j_call1 (rest := []) X [.int (xs (i + 1)), .int (xs (i + 2))] (s_X11_account e1) cvL_71 rfl rfl (Nat.le_of_ble_eq_true rfl) ⟨by decide, by decide⟩ hcw dL_law_546 ?_
  refine j_aload_n X (x := B + 162) dL_law_549 rfl ?_
  refine j_arg (k := 1) X hsc rfl (by omega) hL (by decide) dL_law_550 dL_law_551 dL_law_552 dL_law_553 dL_law_554 ?_
  refine j_arg (k := 2) X hsc rfl (by omega) hL (by decide) dL_law_555 dL_law_556 dL_law_557 dL_law_558 dL_law_559 ?_
  refine j_call2 (rest := [.int r]) X [.int (xs (i + 1)), .int (xs (i + 2))] (s_X12_account e2) cvL_75 rfl rfl (Nat.le_of_ble_eq_true rfl) ⟨by decide, by decide⟩ hcw dL_law_560 ?_
  exact j_icmp_eq (tgt := 1162) X dL_law_563 (by decide) (fun _ => kb _ _ _ _ _ _ hR1) (fun q => absurd rfl q)
theorem lc_14 (X : gXJ κ (gAb B) code 4 RL ret 16 600 600000 7302250) (hsc : gScr b L xs (gAb B) κ) (hi : i + 6 ≤ L) (hL : L ≤ 3072) (hcw : c0 ≤ 600000 ∧ w0 ≤ 7302250) (hR : RR T N P S u v) (kb : ∀ (T : gT) (N : gN) (P : List gN) (S : gS) (u v : gM), RR T N P S u v → gJ κ 4 (gAb B) Q c0 w0 (gW2 B u v) 1162 [some (.ref b), some (.ref B), some (.ref (B + 162)), some (.int (nI i))] []) : gJ κ 4 (gAb B) Q c0 w0 (gW2 B u v) 568 [some (.ref b), some (.ref B), some (.ref (B + 162)), some (.int (nI i))] [] := by
  obtain ⟨r, u1, v1, T1, N1, P1, S1, e1, e2, hR1⟩ := (o_owner (xs (i + 1)) (xs (i + 2)) (xs (i + 3)) hR).r hR
  refine j_aload_n X (x := B) dL_law_568 rfl ?_
  refine j_arg (k := 1) X hsc rfl (by omega) hL (by decide) dL_law_569 dL_law_570 dL_law_571 dL_law_572 dL_law_573 ?_
  refine j_arg (k := 2) X hsc rfl (by omega) hL (by decide) dL_law_574 dL_law_575 dL_law_576 dL_law_577 dL_law_578 ?_
  refine j_arg (k := 3) X hsc rfl (by omega) hL (by decide) dL_law_579 dL_law_580 dL_law_581 dL_law_582 dL_law_583 ?_
  refine j_call1 (rest := []) X [.int (xs (i + 1)), .int (xs (i + 2)), .int (xs (i + 3))] (s_X11_owner e1) cvL_76 rfl rfl (Nat.le_of_ble_eq_true rfl) ⟨by decide, by decide⟩ hcw dL_law_584 ?_
  refine j_aload_n X (x := B + 162) dL_law_587 rfl ?_
  refine j_arg (k := 1) X hsc rfl (by omega) hL (by decide) dL_law_588 dL_law_589 dL_law_590 dL_law_591 dL_law_592 ?_
  refine j_arg (k := 2) X hsc rfl (by omega) hL (by decide) dL_law_593 dL_law_594 dL_law_595 dL_law_596 dL_law_597 ?_
  refine j_arg (k := 3) X hsc rfl (by omega) hL (by decide) dL_law_598 dL_law_599 dL_law_600 dL_law_601 dL_law_602 ?_
  refine j_call2 (rest := [.int r]) X [.int (xs (i + 1)), .int (xs (i + 2)), .int (xs (i + 3))] (s_X12_owner e2) cvL_80 rfl rfl (Nat.le_of_ble_eq_true rfl) ⟨by decide, by decide⟩ hcw dL_law_603 ?_
  exact j_icmp_eq (tgt := 1162) X dL_law_606 (by decide) (fun _ => kb _ _ _ _ _ _ hR1) (fun q => absurd rfl q)
theorem lc_15 (X : gXJ κ (gAb B) code 4 RL ret 16 600 600000 7302250) (hsc : gScr b L xs (gAb B) κ) (hi : i + 6 ≤ L) (hL : L ≤ 3072) (hcw : c0 ≤ 600000 ∧ w0 ≤ 7302250) (hR : RR T N P S u v) (kb : ∀ (T : gT) (N : gN) (P : List gN) (S : gS) (u v : gM), RR T N P S u v → gJ κ 4 (gAb B) Q c0 w0 (gW2 B u v) 1162 [some (.ref b), some (.ref B), some (.ref (B + 162)), some (.int (nI i))] []) : gJ κ 4 (gAb B) Q c0 w0 (gW2 B u v) 611 [some (.ref b), some (.ref B), some (.ref (B + 162)), some (.int (nI i))] [] := by
  obtain ⟨r, e1, e2⟩ := o_bank (xs (i + 1)) (xs (i + 2)) hR
  refine j_aload_n X (x := B) dL_law_611 rfl ?_
  refine j_arg (k := 1) X hsc rfl (by omega) hL (by decide) dL_law_612 dL_law_613 dL_law_614 dL_law_615 dL_law_616 ?_
  refine j_arg (k := 2) X hsc rfl (by omega) hL (by decide) dL_law_617 dL_law_618 dL_law_619 dL_law_620 dL_law_621 ?_
  refine j_call1 (rest := []) X [.int (xs (i + 1)), .int (xs (i + 2))] (s_X11_bank e1) cvL_81 rfl rfl (Nat.le_of_ble_eq_true rfl) ⟨by decide, by decide⟩ hcw dL_law_622 ?_
  refine j_aload_n X (x := B + 162) dL_law_625 rfl ?_
  refine j_arg (k := 1) X hsc rfl (by omega) hL (by decide) dL_law_626 dL_law_627 dL_law_628 dL_law_629 dL_law_630 ?_
  refine j_arg (k := 2) X hsc rfl (by omega) hL (by decide) dL_law_631 dL_law_632 dL_law_633 dL_law_634 dL_law_635 ?_
  refine j_call2 (rest := [.int r]) X [.int (xs (i + 1)), .int (xs (i + 2))] (s_X12_bank e2) cvL_84 rfl rfl (Nat.le_of_ble_eq_true rfl) ⟨by decide, by decide⟩ hcw dL_law_636 ?_
  exact j_icmp_eq (tgt := 1162) X dL_law_639 (by decide) (fun _ => kb _ _ _ _ _ _ hR) (fun q => absurd rfl q)
end LC
