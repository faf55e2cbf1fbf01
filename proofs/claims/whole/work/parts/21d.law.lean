theorem la_hire {l : Launch} {G : Gx} {b L : Nat} {xs : Nat → Int32} {i : Nat} {mm : Mm} (hi : i + 6 ≤ L) (hL : L ≤ 384) (hI : Iv mm) (kend : ∀ m', Iv m' → PW G (KL l G b L xs) 1132 (lvL G b i) [] m') : PW G (KL l G b L xs) 420 (lvL G b i) [] mm := by
  obtain ⟨r, m1, m2, e1, e2, hI2⟩ := hI.step (sp_hire (xs (i + 1)) (xs (i + 2)))
  refine pw_aload_n (i := 1) 2 rfl rfl 421 dL_law_420 rfl ?_
  refine pl_arg (i := i) 1 426 dL_law_421 dL_law_422 dL_law_423 rfl dL_law_424 dL_law_425 rfl (by omega) hL ?_
  refine pl_arg (i := i) 2 431 dL_law_426 dL_law_427 dL_law_428 rfl dL_law_429 dL_law_430 rfl (by omega) hL ?_
  refine pw_callVi 434 dL_law_431 rfl [.int (xs (i + 1)), .int (xs (i + 2))] 2 ⟨gL_law_X6_hire, rfl, sgV_X6_hire, ⟨Nat.le_of_ble_eq_true rfl, Nat.le_of_ble_eq_true rfl⟩, ⟨Nat.le_of_ble_eq_true rfl, Nat.le_of_ble_eq_true rfl⟩⟩ ly_0 (by decide) la_0 rfl (k_X6_hire e1) rfl rfl (Nat.le_of_ble_eq_true rfl) ?_
  refine pw_aload_n (i := 2) 1 rfl rfl 435 dL_law_434 rfl ?_
  refine pl_arg (i := i) 1 440 dL_law_435 dL_law_436 dL_law_437 rfl dL_law_438 dL_law_439 rfl (by omega) hL ?_
  refine pl_arg (i := i) 2 445 dL_law_440 dL_law_441 dL_law_442 rfl dL_law_443 dL_law_444 rfl (by omega) hL ?_
  refine pw_callVi 448 dL_law_445 rfl [.int (xs (i + 1)), .int (xs (i + 2))] 2 ⟨gL_law_X7_hire, rfl, sgV_X7_hire, ⟨Nat.le_of_ble_eq_true rfl, Nat.le_of_ble_eq_true rfl⟩, ⟨Nat.le_of_ble_eq_true rfl, Nat.le_of_ble_eq_true rfl⟩⟩ ly_298 (by decide) la_298 rfl (k_X7_hire e2) rfl rfl (Nat.le_of_ble_eq_true rfl) ?_
  exact pw_icmp_eq 1132 451 dL_law_448 (by decide) rfl (fun _ => kend _ hI2) (fun h => absurd rfl h)
theorem la_swap {l : Launch} {G : Gx} {b L : Nat} {xs : Nat → Int32} {i : Nat} {mm : Mm} (hi : i + 6 ≤ L) (hL : L ≤ 384) (hI : Iv mm) (kend : ∀ m', Iv m' → PW G (KL l G b L xs) 1132 (lvL G b i) [] m') : PW G (KL l G b L xs) 453 (lvL G b i) [] mm := by
  obtain ⟨r, m1, m2, e1, e2, hI2⟩ := hI.step (sp_swap (xs (i + 1)) (xs (i + 2)))
  refine pw_aload_n (i := 1) 2 rfl rfl 454 dL_law_453 rfl ?_
  refine pl_arg (i := i) 1 459 dL_law_454 dL_law_455 dL_law_456 rfl dL_law_457 dL_law_458 rfl (by omega) hL ?_
  refine pl_arg (i := i) 2 464 dL_law_459 dL_law_460 dL_law_461 rfl dL_law_462 dL_law_463 rfl (by omega) hL ?_
  refine pw_callVi 467 dL_law_464 rfl [.int (xs (i + 1)), .int (xs (i + 2))] 2 ⟨gL_law_X6_swap, rfl, sgV_X6_swap, ⟨Nat.le_of_ble_eq_true rfl, Nat.le_of_ble_eq_true rfl⟩, ⟨Nat.le_of_ble_eq_true rfl, Nat.le_of_ble_eq_true rfl⟩⟩ ly_0 (by decide) la_0 rfl (k_X6_swap e1) rfl rfl (Nat.le_of_ble_eq_true rfl) ?_
  refine pw_aload_n (i := 2) 1 rfl rfl 468 dL_law_467 rfl ?_
  refine pl_arg (i := i) 1 473 dL_law_468 dL_law_469 dL_law_470 rfl dL_law_471 dL_law_472 rfl (by omega) hL ?_
  refine pl_arg (i := i) 2 478 dL_law_473 dL_law_474 dL_law_475 rfl dL_law_476 dL_law_477 rfl (by omega) hL ?_
  refine pw_callVi 481 dL_law_478 rfl [.int (xs (i + 1)), .int (xs (i + 2))] 2 ⟨gL_law_X7_swap, rfl, sgV_X7_swap, ⟨Nat.le_of_ble_eq_true rfl, Nat.le_of_ble_eq_true rfl⟩, ⟨Nat.le_of_ble_eq_true rfl, Nat.le_of_ble_eq_true rfl⟩⟩ ly_298 (by decide) la_298 rfl (k_X7_swap e2) rfl rfl (Nat.le_of_ble_eq_true rfl) ?_
  exact pw_icmp_eq 1132 484 dL_law_481 (by decide) rfl (fun _ => kend _ hI2) (fun h => absurd rfl h)
theorem la_hymns {l : Launch} {G : Gx} {b L : Nat} {xs : Nat → Int32} {i : Nat} {mm : Mm} (hi : i + 6 ≤ L) (hL : L ≤ 384) (hI : Iv mm) (kend : ∀ m', Iv m' → PW G (KL l G b L xs) 1132 (lvL G b i) [] m') : PW G (KL l G b L xs) 486 (lvL G b i) [] mm := by
  obtain ⟨r, m1, m2, e1, e2, hI2⟩ := hI.step (sp_hymns (xs (i + 1)))
  refine pw_aload_n (i := 1) 2 rfl rfl 487 dL_law_486 rfl ?_
  refine pl_arg (i := i) 1 492 dL_law_487 dL_law_488 dL_law_489 rfl dL_law_490 dL_law_491 rfl (by omega) hL ?_
  refine pw_callVi 495 dL_law_492 rfl [.int (xs (i + 1))] 1 ⟨gL_law_X6_hymns, rfl, sgV_X6_hymns, ⟨Nat.le_of_ble_eq_true rfl, Nat.le_of_ble_eq_true rfl⟩, ⟨Nat.le_of_ble_eq_true rfl, Nat.le_of_ble_eq_true rfl⟩⟩ ly_0 (by decide) la_0 rfl (k_X6_hymns e1) rfl rfl (Nat.le_of_ble_eq_true rfl) ?_
  refine pw_aload_n (i := 2) 1 rfl rfl 496 dL_law_495 rfl ?_
  refine pl_arg (i := i) 1 501 dL_law_496 dL_law_497 dL_law_498 rfl dL_law_499 dL_law_500 rfl (by omega) hL ?_
  refine pw_callVi 504 dL_law_501 rfl [.int (xs (i + 1))] 1 ⟨gL_law_X7_hymns, rfl, sgV_X7_hymns, ⟨Nat.le_of_ble_eq_true rfl, Nat.le_of_ble_eq_true rfl⟩, ⟨Nat.le_of_ble_eq_true rfl, Nat.le_of_ble_eq_true rfl⟩⟩ ly_298 (by decide) la_298 rfl (k_X7_hymns e2) rfl rfl (Nat.le_of_ble_eq_true rfl) ?_
  exact pw_icmp_eq 1132 507 dL_law_504 (by decide) rfl (fun _ => kend _ hI2) (fun h => absurd rfl h)
theorem la_undo {l : Launch} {G : Gx} {b L : Nat} {xs : Nat → Int32} {i : Nat} {mm : Mm} (hi : i + 6 ≤ L) (hL : L ≤ 384) (hI : Iv mm) (kend : ∀ m', Iv m' → PW G (KL l G b L xs) 1132 (lvL G b i) [] m') : PW G (KL l G b L xs) 509 (lvL G b i) [] mm := by
  obtain ⟨r, m1, m2, e1, e2, hI2⟩ := hI.step sp_undo
  refine pw_aload_n (i := 1) 2 rfl rfl 510 dL_law_509 rfl ?_
  refine pw_callVi 513 dL_law_510 rfl [] 0 ⟨gL_law_X6_undo, rfl, sgV_X6_undo, ⟨Nat.le_of_ble_eq_true rfl, Nat.le_of_ble_eq_true rfl⟩, ⟨Nat.le_of_ble_eq_true rfl, Nat.le_of_ble_eq_true rfl⟩⟩ ly_0 (by decide) la_0 rfl (k_X6_undo e1) rfl rfl (Nat.le_of_ble_eq_true rfl) ?_
  refine pw_aload_n (i := 2) 1 rfl rfl 514 dL_law_513 rfl ?_
  refine pw_callVi 517 dL_law_514 rfl [] 0 ⟨gL_law_X7_undo, rfl, sgV_X7_undo, ⟨Nat.le_of_ble_eq_true rfl, Nat.le_of_ble_eq_true rfl⟩, ⟨Nat.le_of_ble_eq_true rfl, Nat.le_of_ble_eq_true rfl⟩⟩ ly_298 (by decide) la_298 rfl (k_X7_undo e2) rfl rfl (Nat.le_of_ble_eq_true rfl) ?_
  exact pw_icmp_eq 1132 520 dL_law_517 (by decide) rfl (fun _ => kend _ hI2) (fun h => absurd rfl h)
theorem la_guest {l : Launch} {G : Gx} {b L : Nat} {xs : Nat → Int32} {i : Nat} {mm : Mm} (hi : i + 6 ≤ L) (hL : L ≤ 384) (hI : Iv mm) (kend : ∀ m', Iv m' → PW G (KL l G b L xs) 1132 (lvL G b i) [] m') : PW G (KL l G b L xs) 522 (lvL G b i) [] mm := by
  obtain ⟨r, e1, e2⟩ := hI.stepL (sp_guest (xs (i + 1)) (xs (i + 2)))
  have hI2 := hI
  refine pw_aload_n (i := 1) 2 rfl rfl 523 dL_law_522 rfl ?_
  refine pl_arg (i := i) 1 528 dL_law_523 dL_law_524 dL_law_525 rfl dL_law_526 dL_law_527 rfl (by omega) hL ?_
  refine pl_arg (i := i) 2 533 dL_law_528 dL_law_529 dL_law_530 rfl dL_law_531 dL_law_532 rfl (by omega) hL ?_
  refine pw_callVi 536 dL_law_533 rfl [.int (xs (i + 1)), .int (xs (i + 2))] 2 ⟨gL_law_X6_guest, rfl, sgV_X6_guest, ⟨Nat.le_of_ble_eq_true rfl, Nat.le_of_ble_eq_true rfl⟩, ⟨Nat.le_of_ble_eq_true rfl, Nat.le_of_ble_eq_true rfl⟩⟩ ly_0 (by decide) la_0 rfl (k_X6_guest e1) rfl rfl (Nat.le_of_ble_eq_true rfl) ?_
  refine pw_aload_n (i := 2) 1 rfl rfl 537 dL_law_536 rfl ?_
  refine pl_arg (i := i) 1 542 dL_law_537 dL_law_538 dL_law_539 rfl dL_law_540 dL_law_541 rfl (by omega) hL ?_
  refine pl_arg (i := i) 2 547 dL_law_542 dL_law_543 dL_law_544 rfl dL_law_545 dL_law_546 rfl (by omega) hL ?_
  refine pw_callVi 550 dL_law_547 rfl [.int (xs (i + 1)), .int (xs (i + 2))] 2 ⟨gL_law_X7_guest, rfl, sgV_X7_guest, ⟨Nat.le_of_ble_eq_true rfl, Nat.le_of_ble_eq_true rfl⟩, ⟨Nat.le_of_ble_eq_true rfl, Nat.le_of_ble_eq_true rfl⟩⟩ ly_298 (by decide) la_298 rfl (k_X7_guest e2) rfl rfl (Nat.le_of_ble_eq_true rfl) ?_
  exact pw_icmp_eq 1132 553 dL_law_550 (by decide) rfl (fun _ => kend _ hI2) (fun h => absurd rfl h)
theorem la_seat {l : Launch} {G : Gx} {b L : Nat} {xs : Nat → Int32} {i : Nat} {mm : Mm} (hi : i + 6 ≤ L) (hL : L ≤ 384) (hI : Iv mm) (kend : ∀ m', Iv m' → PW G (KL l G b L xs) 1132 (lvL G b i) [] m') : PW G (KL l G b L xs) 555 (lvL G b i) [] mm := by
  obtain ⟨r, e1, e2⟩ := hI.stepL (sp_seat (xs (i + 1)))
  have hI2 := hI
  refine pw_aload_n (i := 1) 2 rfl rfl 556 dL_law_555 rfl ?_
  refine pl_arg (i := i) 1 561 dL_law_556 dL_law_557 dL_law_558 rfl dL_law_559 dL_law_560 rfl (by omega) hL ?_
  refine pw_callVi 564 dL_law_561 rfl [.int (xs (i + 1))] 1 ⟨gL_law_X6_seat, rfl, sgV_X6_seat, ⟨Nat.le_of_ble_eq_true rfl, Nat.le_of_ble_eq_true rfl⟩, ⟨Nat.le_of_ble_eq_true rfl, Nat.le_of_ble_eq_true rfl⟩⟩ ly_0 (by decide) la_0 rfl (k_X6_seat e1) rfl rfl (Nat.le_of_ble_eq_true rfl) ?_
  refine pw_aload_n (i := 2) 1 rfl rfl 565 dL_law_564 rfl ?_
  refine pl_arg (i := i) 1 570 dL_law_565 dL_law_566 dL_law_567 rfl dL_law_568 dL_law_569 rfl (by omega) hL ?_
  refine pw_callVi 573 dL_law_570 rfl [.int (xs (i + 1))] 1 ⟨gL_law_X7_seat, rfl, sgV_X7_seat, ⟨Nat.le_of_ble_eq_true rfl, Nat.le_of_ble_eq_true rfl⟩, ⟨Nat.le_of_ble_eq_true rfl, Nat.le_of_ble_eq_true rfl⟩⟩ ly_298 (by decide) la_298 rfl (k_X7_seat e2) rfl rfl (Nat.le_of_ble_eq_true rfl) ?_
  exact pw_icmp_eq 1132 576 dL_law_573 (by decide) rfl (fun _ => kend _ hI2) (fun h => absurd rfl h)
theorem la_ahead {l : Launch} {G : Gx} {b L : Nat} {xs : Nat → Int32} {i : Nat} {mm : Mm} (hi : i + 6 ≤ L) (hL : L ≤ 384) (hI : Iv mm) (kend : ∀ m', Iv m' → PW G (KL l G b L xs) 1132 (lvL G b i) [] m') : PW G (KL l G b L xs) 578 (lvL G b i) [] mm := by
  obtain ⟨r, m1, m2, e1, e2, hI2⟩ := hI.step (sp_ahead (xs (i + 1)) (xs (i + 2)) (xs (i + 3)))
  refine pw_aload_n (i := 1) 2 rfl rfl 579 dL_law_578 rfl ?_
  refine pl_arg (i := i) 1 584 dL_law_579 dL_law_580 dL_law_581 rfl dL_law_582 dL_law_583 rfl (by omega) hL ?_
  refine pl_arg (i := i) 2 589 dL_law_584 dL_law_585 dL_law_586 rfl dL_law_587 dL_law_588 rfl (by omega) hL ?_
  refine pl_arg (i := i) 3 594 dL_law_589 dL_law_590 dL_law_591 rfl dL_law_592 dL_law_593 rfl (by omega) hL ?_
  refine pw_callVi 597 dL_law_594 rfl [.int (xs (i + 1)), .int (xs (i + 2)), .int (xs (i + 3))] 3 ⟨gL_law_X6_ahead, rfl, sgV_X6_ahead, ⟨Nat.le_of_ble_eq_true rfl, Nat.le_of_ble_eq_true rfl⟩, ⟨Nat.le_of_ble_eq_true rfl, Nat.le_of_ble_eq_true rfl⟩⟩ ly_0 (by decide) la_0 rfl (k_X6_ahead e1) rfl rfl (Nat.le_of_ble_eq_true rfl) ?_
  refine pw_aload_n (i := 2) 1 rfl rfl 598 dL_law_597 rfl ?_
  refine pl_arg (i := i) 1 603 dL_law_598 dL_law_599 dL_law_600 rfl dL_law_601 dL_law_602 rfl (by omega) hL ?_
  refine pl_arg (i := i) 2 608 dL_law_603 dL_law_604 dL_law_605 rfl dL_law_606 dL_law_607 rfl (by omega) hL ?_
  refine pl_arg (i := i) 3 613 dL_law_608 dL_law_609 dL_law_610 rfl dL_law_611 dL_law_612 rfl (by omega) hL ?_
  refine pw_callVi 616 dL_law_613 rfl [.int (xs (i + 1)), .int (xs (i + 2)), .int (xs (i + 3))] 3 ⟨gL_law_X7_ahead, rfl, sgV_X7_ahead, ⟨Nat.le_of_ble_eq_true rfl, Nat.le_of_ble_eq_true rfl⟩, ⟨Nat.le_of_ble_eq_true rfl, Nat.le_of_ble_eq_true rfl⟩⟩ ly_298 (by decide) la_298 rfl (k_X7_ahead e2) rfl rfl (Nat.le_of_ble_eq_true rfl) ?_
  exact pw_icmp_eq 1132 619 dL_law_616 (by decide) rfl (fun _ => kend _ hI2) (fun h => absurd rfl h)
theorem la_bottle {l : Launch} {G : Gx} {b L : Nat} {xs : Nat → Int32} {i : Nat} {mm : Mm} (hi : i + 6 ≤ L) (hL : L ≤ 384) (hI : Iv mm) (kend : ∀ m', Iv m' → PW G (KL l G b L xs) 1132 (lvL G b i) [] m') : PW G (KL l G b L xs) 621 (lvL G b i) [] mm := by
  obtain ⟨r, m1, m2, e1, e2, hI2⟩ := hI.step (sp_bottle (xs (i + 1)) (xs (i + 2)))
  refine pw_aload_n (i := 1) 2 rfl rfl 622 dL_law_621 rfl ?_
  refine pl_arg (i := i) 1 627 dL_law_622 dL_law_623 dL_law_624 rfl dL_law_625 dL_law_626 rfl (by omega) hL ?_
  refine pl_arg (i := i) 2 632 dL_law_627 dL_law_628 dL_law_629 rfl dL_law_630 dL_law_631 rfl (by omega) hL ?_
  refine pw_callVi 635 dL_law_632 rfl [.int (xs (i + 1)), .int (xs (i + 2))] 2 ⟨gL_law_X6_bottle, rfl, sgV_X6_bottle, ⟨Nat.le_of_ble_eq_true rfl, Nat.le_of_ble_eq_true rfl⟩, ⟨Nat.le_of_ble_eq_true rfl, Nat.le_of_ble_eq_true rfl⟩⟩ ly_0 (by decide) la_0 rfl (k_X6_bottle e1) rfl rfl (Nat.le_of_ble_eq_true rfl) ?_
  refine pw_aload_n (i := 2) 1 rfl rfl 636 dL_law_635 rfl ?_
  refine pl_arg (i := i) 1 641 dL_law_636 dL_law_637 dL_law_638 rfl dL_law_639 dL_law_640 rfl (by omega) hL ?_
  refine pl_arg (i := i) 2 646 dL_law_641 dL_law_642 dL_law_643 rfl dL_law_644 dL_law_645 rfl (by omega) hL ?_
  refine pw_callVi 649 dL_law_646 rfl [.int (xs (i + 1)), .int (xs (i + 2))] 2 ⟨gL_law_X7_bottle, rfl, sgV_X7_bottle, ⟨Nat.le_of_ble_eq_true rfl, Nat.le_of_ble_eq_true rfl⟩, ⟨Nat.le_of_ble_eq_true rfl, Nat.le_of_ble_eq_true rfl⟩⟩ ly_298 (by decide) la_298 rfl (k_X7_bottle e2) rfl rfl (Nat.le_of_ble_eq_true rfl) ?_
  exact pw_icmp_eq 1132 652 dL_law_649 (by decide) rfl (fun _ => kend _ hI2) (fun h => absurd rfl h)
