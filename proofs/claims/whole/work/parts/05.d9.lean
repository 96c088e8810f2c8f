theorem d_L_law_416 : decode b_L_law 416 = .ok (.invokevirtual 49, 3) := by decide +kernel
theorem d_L_law_419 : decode b_L_law 419 = .ok (.aload_n 2, 1) := by decide +kernel
theorem d_L_law_420 : decode b_L_law 420 = .ok (.aload_n 0, 1) := by decide +kernel
theorem d_L_law_421 : decode b_L_law 421 = .ok (.iload_n 3, 1) := by decide +kernel
theorem d_L_law_422 : decode b_L_law 422 = .ok (.iconst 1, 1) := by decide +kernel
theorem d_L_law_423 : decode b_L_law 423 = .ok (.iadd, 1) := by decide +kernel
theorem d_L_law_424 : decode b_L_law 424 = .ok (.iaload, 1) := by decide +kernel
theorem d_L_law_425 : decode b_L_law 425 = .ok (.invokevirtual 52, 3) := by decide +kernel
theorem d_L_law_428 : decode b_L_law 428 = .ok (.if_icmp .eq 222, 3) := by decide +kernel
theorem d_L_law_431 : decode b_L_law 431 = .ok (.iconst 0, 1) := by decide +kernel
theorem d_L_law_432 : decode b_L_law 432 = .ok (.ireturn, 1) := by decide +kernel
theorem d_L_law_433 : decode b_L_law 433 = .ok (.aload_n 1, 1) := by decide +kernel
theorem d_L_law_434 : decode b_L_law 434 = .ok (.invokevirtual 53, 3) := by decide +kernel
theorem d_L_law_437 : decode b_L_law 437 = .ok (.aload_n 2, 1) := by decide +kernel
theorem d_L_law_438 : decode b_L_law 438 = .ok (.invokevirtual 57, 3) := by decide +kernel
theorem d_L_law_441 : decode b_L_law 441 = .ok (.if_icmp .eq 209, 3) := by decide +kernel
theorem d_L_law_444 : decode b_L_law 444 = .ok (.iconst 0, 1) := by decide +kernel
theorem d_L_law_445 : decode b_L_law 445 = .ok (.ireturn, 1) := by decide +kernel
theorem d_L_law_446 : decode b_L_law 446 = .ok (.aload_n 1, 1) := by decide +kernel
theorem d_L_law_447 : decode b_L_law 447 = .ok (.invokevirtual 58, 3) := by decide +kernel
theorem d_L_law_450 : decode b_L_law 450 = .ok (.aload_n 2, 1) := by decide +kernel
theorem d_L_law_451 : decode b_L_law 451 = .ok (.invokevirtual 61, 3) := by decide +kernel
theorem d_L_law_454 : decode b_L_law 454 = .ok (.if_icmp .eq 196, 3) := by decide +kernel
theorem d_L_law_457 : decode b_L_law 457 = .ok (.iconst 0, 1) := by decide +kernel
theorem d_L_law_458 : decode b_L_law 458 = .ok (.ireturn, 1) := by decide +kernel
theorem d_L_law_459 : decode b_L_law 459 = .ok (.aload_n 1, 1) := by decide +kernel
theorem d_L_law_460 : decode b_L_law 460 = .ok (.aload_n 0, 1) := by decide +kernel
theorem d_L_law_461 : decode b_L_law 461 = .ok (.iload_n 3, 1) := by decide +kernel
theorem d_L_law_462 : decode b_L_law 462 = .ok (.iconst 1, 1) := by decide +kernel
theorem d_L_law_463 : decode b_L_law 463 = .ok (.iadd, 1) := by decide +kernel
theorem d_L_law_464 : decode b_L_law 464 = .ok (.iaload, 1) := by decide +kernel
theorem d_L_law_465 : decode b_L_law 465 = .ok (.invokevirtual 62, 3) := by decide +kernel
theorem d_L_law_468 : decode b_L_law 468 = .ok (.aload_n 2, 1) := by decide +kernel
theorem d_L_law_469 : decode b_L_law 469 = .ok (.aload_n 0, 1) := by decide +kernel
theorem d_L_law_470 : decode b_L_law 470 = .ok (.iload_n 3, 1) := by decide +kernel
theorem d_L_law_471 : decode b_L_law 471 = .ok (.iconst 1, 1) := by decide +kernel
theorem d_L_law_472 : decode b_L_law 472 = .ok (.iadd, 1) := by decide +kernel
theorem d_L_law_473 : decode b_L_law 473 = .ok (.iaload, 1) := by decide +kernel
theorem d_L_law_474 : decode b_L_law 474 = .ok (.invokevirtual 65, 3) := by decide +kernel
theorem d_L_law_477 : decode b_L_law 477 = .ok (.if_icmp .eq 173, 3) := by decide +kernel
theorem d_L_law_480 : decode b_L_law 480 = .ok (.iconst 0, 1) := by decide +kernel
theorem d_L_law_481 : decode b_L_law 481 = .ok (.ireturn, 1) := by decide +kernel
theorem d_L_law_482 : decode b_L_law 482 = .ok (.aload_n 1, 1) := by decide +kernel
theorem d_L_law_483 : decode b_L_law 483 = .ok (.aload_n 0, 1) := by decide +kernel
theorem d_L_law_484 : decode b_L_law 484 = .ok (.iload_n 3, 1) := by decide +kernel
theorem d_L_law_485 : decode b_L_law 485 = .ok (.iconst 1, 1) := by decide +kernel
theorem d_L_law_486 : decode b_L_law 486 = .ok (.iadd, 1) := by decide +kernel
theorem d_L_law_487 : decode b_L_law 487 = .ok (.iaload, 1) := by decide +kernel
theorem d_L_law_488 : decode b_L_law 488 = .ok (.aload_n 0, 1) := by decide +kernel
theorem d_L_law_489 : decode b_L_law 489 = .ok (.iload_n 3, 1) := by decide +kernel
theorem d_L_law_490 : decode b_L_law 490 = .ok (.iconst 2, 1) := by decide +kernel
theorem d_L_law_491 : decode b_L_law 491 = .ok (.iadd, 1) := by decide +kernel
theorem d_L_law_492 : decode b_L_law 492 = .ok (.iaload, 1) := by decide +kernel
theorem d_L_law_493 : decode b_L_law 493 = .ok (.invokevirtual 66, 3) := by decide +kernel
theorem d_L_law_496 : decode b_L_law 496 = .ok (.aload_n 2, 1) := by decide +kernel
theorem d_L_law_497 : decode b_L_law 497 = .ok (.aload_n 0, 1) := by decide +kernel
theorem d_L_law_498 : decode b_L_law 498 = .ok (.iload_n 3, 1) := by decide +kernel
theorem d_L_law_499 : decode b_L_law 499 = .ok (.iconst 1, 1) := by decide +kernel
theorem d_L_law_500 : decode b_L_law 500 = .ok (.iadd, 1) := by decide +kernel
theorem d_L_law_501 : decode b_L_law 501 = .ok (.iaload, 1) := by decide +kernel
theorem d_L_law_502 : decode b_L_law 502 = .ok (.aload_n 0, 1) := by decide +kernel
theorem d_L_law_503 : decode b_L_law 503 = .ok (.iload_n 3, 1) := by decide +kernel
theorem d_L_law_504 : decode b_L_law 504 = .ok (.iconst 2, 1) := by decide +kernel
theorem d_L_law_505 : decode b_L_law 505 = .ok (.iadd, 1) := by decide +kernel
theorem d_L_law_506 : decode b_L_law 506 = .ok (.iaload, 1) := by decide +kernel
theorem d_L_law_507 : decode b_L_law 507 = .ok (.invokevirtual 69, 3) := by decide +kernel
theorem d_L_law_510 : decode b_L_law 510 = .ok (.if_icmp .eq 140, 3) := by decide +kernel
theorem d_L_law_513 : decode b_L_law 513 = .ok (.iconst 0, 1) := by decide +kernel
theorem d_L_law_514 : decode b_L_law 514 = .ok (.ireturn, 1) := by decide +kernel
theorem d_L_law_515 : decode b_L_law 515 = .ok (.aload_n 1, 1) := by decide +kernel
theorem d_L_law_516 : decode b_L_law 516 = .ok (.aload_n 0, 1) := by decide +kernel
theorem d_L_law_517 : decode b_L_law 517 = .ok (.iload_n 3, 1) := by decide +kernel
theorem d_L_law_518 : decode b_L_law 518 = .ok (.iconst 1, 1) := by decide +kernel
theorem d_L_law_519 : decode b_L_law 519 = .ok (.iadd, 1) := by decide +kernel
theorem d_L_law_520 : decode b_L_law 520 = .ok (.iaload, 1) := by decide +kernel
theorem d_L_law_521 : decode b_L_law 521 = .ok (.invokevirtual 70, 3) := by decide +kernel
theorem d_L_law_524 : decode b_L_law 524 = .ok (.aload_n 2, 1) := by decide +kernel
theorem d_L_law_525 : decode b_L_law 525 = .ok (.aload_n 0, 1) := by decide +kernel
theorem d_L_law_526 : decode b_L_law 526 = .ok (.iload_n 3, 1) := by decide +kernel
theorem d_L_law_527 : decode b_L_law 527 = .ok (.iconst 1, 1) := by decide +kernel
theorem d_L_law_528 : decode b_L_law 528 = .ok (.iadd, 1) := by decide +kernel
theorem d_L_law_529 : decode b_L_law 529 = .ok (.iaload, 1) := by decide +kernel
theorem d_L_law_530 : decode b_L_law 530 = .ok (.invokevirtual 73, 3) := by decide +kernel
theorem d_L_law_533 : decode b_L_law 533 = .ok (.if_icmp .eq 117, 3) := by decide +kernel
theorem d_L_law_536 : decode b_L_law 536 = .ok (.iconst 0, 1) := by decide +kernel
theorem d_L_law_537 : decode b_L_law 537 = .ok (.ireturn, 1) := by decide +kernel
theorem d_L_law_538 : decode b_L_law 538 = .ok (.aload_n 1, 1) := by decide +kernel
theorem d_L_law_539 : decode b_L_law 539 = .ok (.aload_n 0, 1) := by decide +kernel
theorem d_L_law_540 : decode b_L_law 540 = .ok (.iload_n 3, 1) := by decide +kernel
theorem d_L_law_541 : decode b_L_law 541 = .ok (.iconst 1, 1) := by decide +kernel
theorem d_L_law_542 : decode b_L_law 542 = .ok (.iadd, 1) := by decide +kernel
theorem d_L_law_543 : decode b_L_law 543 = .ok (.iaload, 1) := by decide +kernel
theorem d_L_law_544 : decode b_L_law 544 = .ok (.invokevirtual 74, 3) := by decide +kernel
theorem d_L_law_547 : decode b_L_law 547 = .ok (.aload_n 2, 1) := by decide +kernel
theorem d_L_law_548 : decode b_L_law 548 = .ok (.aload_n 0, 1) := by decide +kernel
theorem d_L_law_549 : decode b_L_law 549 = .ok (.iload_n 3, 1) := by decide +kernel
theorem d_L_law_550 : decode b_L_law 550 = .ok (.iconst 1, 1) := by decide +kernel
theorem d_L_law_551 : decode b_L_law 551 = .ok (.iadd, 1) := by decide +kernel
theorem d_L_law_552 : decode b_L_law 552 = .ok (.iaload, 1) := by decide +kernel
theorem d_L_law_553 : decode b_L_law 553 = .ok (.invokevirtual 77, 3) := by decide +kernel
theorem d_L_law_556 : decode b_L_law 556 = .ok (.if_icmp .eq 94, 3) := by decide +kernel
theorem d_L_law_559 : decode b_L_law 559 = .ok (.iconst 0, 1) := by decide +kernel
theorem d_L_law_560 : decode b_L_law 560 = .ok (.ireturn, 1) := by decide +kernel
theorem d_L_law_561 : decode b_L_law 561 = .ok (.aload_n 1, 1) := by decide +kernel
theorem d_L_law_562 : decode b_L_law 562 = .ok (.aload_n 0, 1) := by decide +kernel
theorem d_L_law_563 : decode b_L_law 563 = .ok (.iload_n 3, 1) := by decide +kernel
theorem d_L_law_564 : decode b_L_law 564 = .ok (.iconst 1, 1) := by decide +kernel
theorem d_L_law_565 : decode b_L_law 565 = .ok (.iadd, 1) := by decide +kernel
theorem d_L_law_566 : decode b_L_law 566 = .ok (.iaload, 1) := by decide +kernel
theorem d_L_law_567 : decode b_L_law 567 = .ok (.invokevirtual 78, 3) := by decide +kernel
theorem d_L_law_570 : decode b_L_law 570 = .ok (.aload_n 2, 1) := by decide +kernel
theorem d_L_law_571 : decode b_L_law 571 = .ok (.aload_n 0, 1) := by decide +kernel
theorem d_L_law_572 : decode b_L_law 572 = .ok (.iload_n 3, 1) := by decide +kernel
theorem d_L_law_573 : decode b_L_law 573 = .ok (.iconst 1, 1) := by decide +kernel
theorem d_L_law_574 : decode b_L_law 574 = .ok (.iadd, 1) := by decide +kernel
theorem d_L_law_575 : decode b_L_law 575 = .ok (.iaload, 1) := by decide +kernel
theorem d_L_law_576 : decode b_L_law 576 = .ok (.invokevirtual 81, 3) := by decide +kernel
theorem d_L_law_579 : decode b_L_law 579 = .ok (.if_icmp .eq 71, 3) := by decide +kernel
theorem d_L_law_582 : decode b_L_law 582 = .ok (.iconst 0, 1) := by decide +kernel
theorem d_L_law_583 : decode b_L_law 583 = .ok (.ireturn, 1) := by decide +kernel
theorem d_L_law_584 : decode b_L_law 584 = .ok (.aload_n 1, 1) := by decide +kernel
theorem d_L_law_585 : decode b_L_law 585 = .ok (.aload_n 0, 1) := by decide +kernel
theorem d_L_law_586 : decode b_L_law 586 = .ok (.iload_n 3, 1) := by decide +kernel
theorem d_L_law_587 : decode b_L_law 587 = .ok (.iconst 1, 1) := by decide +kernel
theorem d_L_law_588 : decode b_L_law 588 = .ok (.iadd, 1) := by decide +kernel
theorem d_L_law_589 : decode b_L_law 589 = .ok (.iaload, 1) := by decide +kernel
theorem d_L_law_590 : decode b_L_law 590 = .ok (.aload_n 0, 1) := by decide +kernel
theorem d_L_law_591 : decode b_L_law 591 = .ok (.iload_n 3, 1) := by decide +kernel
theorem d_L_law_592 : decode b_L_law 592 = .ok (.iconst 2, 1) := by decide +kernel
theorem d_L_law_593 : decode b_L_law 593 = .ok (.iadd, 1) := by decide +kernel
theorem d_L_law_594 : decode b_L_law 594 = .ok (.iaload, 1) := by decide +kernel
theorem d_L_law_595 : decode b_L_law 595 = .ok (.invokevirtual 82, 3) := by decide +kernel
theorem d_L_law_598 : decode b_L_law 598 = .ok (.aload_n 2, 1) := by decide +kernel
theorem d_L_law_599 : decode b_L_law 599 = .ok (.aload_n 0, 1) := by decide +kernel
theorem d_L_law_600 : decode b_L_law 600 = .ok (.iload_n 3, 1) := by decide +kernel
theorem d_L_law_601 : decode b_L_law 601 = .ok (.iconst 1, 1) := by decide +kernel
theorem d_L_law_602 : decode b_L_law 602 = .ok (.iadd, 1) := by decide +kernel
theorem d_L_law_603 : decode b_L_law 603 = .ok (.iaload, 1) := by decide +kernel
theorem d_L_law_604 : decode b_L_law 604 = .ok (.aload_n 0, 1) := by decide +kernel
theorem d_L_law_605 : decode b_L_law 605 = .ok (.iload_n 3, 1) := by decide +kernel
theorem d_L_law_606 : decode b_L_law 606 = .ok (.iconst 2, 1) := by decide +kernel
theorem d_L_law_607 : decode b_L_law 607 = .ok (.iadd, 1) := by decide +kernel
theorem d_L_law_608 : decode b_L_law 608 = .ok (.iaload, 1) := by decide +kernel
theorem d_L_law_609 : decode b_L_law 609 = .ok (.invokevirtual 85, 3) := by decide +kernel
theorem d_L_law_612 : decode b_L_law 612 = .ok (.if_icmp .eq 38, 3) := by decide +kernel
theorem d_L_law_615 : decode b_L_law 615 = .ok (.iconst 0, 1) := by decide +kernel
theorem d_L_law_616 : decode b_L_law 616 = .ok (.ireturn, 1) := by decide +kernel
theorem d_L_law_617 : decode b_L_law 617 = .ok (.aload_n 1, 1) := by decide +kernel
theorem d_L_law_618 : decode b_L_law 618 = .ok (.aload_n 0, 1) := by decide +kernel
theorem d_L_law_619 : decode b_L_law 619 = .ok (.iload_n 3, 1) := by decide +kernel
theorem d_L_law_620 : decode b_L_law 620 = .ok (.iconst 1, 1) := by decide +kernel
theorem d_L_law_621 : decode b_L_law 621 = .ok (.iadd, 1) := by decide +kernel
theorem d_L_law_622 : decode b_L_law 622 = .ok (.iaload, 1) := by decide +kernel
theorem d_L_law_623 : decode b_L_law 623 = .ok (.aload_n 0, 1) := by decide +kernel
theorem d_L_law_624 : decode b_L_law 624 = .ok (.iload_n 3, 1) := by decide +kernel
theorem d_L_law_625 : decode b_L_law 625 = .ok (.iconst 2, 1) := by decide +kernel
theorem d_L_law_626 : decode b_L_law 626 = .ok (.iadd, 1) := by decide +kernel
theorem d_L_law_627 : decode b_L_law 627 = .ok (.iaload, 1) := by decide +kernel
theorem d_L_law_628 : decode b_L_law 628 = .ok (.invokevirtual 86, 3) := by decide +kernel
theorem d_L_law_631 : decode b_L_law 631 = .ok (.aload_n 2, 1) := by decide +kernel
theorem d_L_law_632 : decode b_L_law 632 = .ok (.aload_n 0, 1) := by decide +kernel
theorem d_L_law_633 : decode b_L_law 633 = .ok (.iload_n 3, 1) := by decide +kernel
theorem d_L_law_634 : decode b_L_law 634 = .ok (.iconst 1, 1) := by decide +kernel
theorem d_L_law_635 : decode b_L_law 635 = .ok (.iadd, 1) := by decide +kernel
theorem d_L_law_636 : decode b_L_law 636 = .ok (.iaload, 1) := by decide +kernel
theorem d_L_law_637 : decode b_L_law 637 = .ok (.aload_n 0, 1) := by decide +kernel
theorem d_L_law_638 : decode b_L_law 638 = .ok (.iload_n 3, 1) := by decide +kernel
theorem d_L_law_639 : decode b_L_law 639 = .ok (.iconst 2, 1) := by decide +kernel
theorem d_L_law_640 : decode b_L_law 640 = .ok (.iadd, 1) := by decide +kernel
theorem d_L_law_641 : decode b_L_law 641 = .ok (.iaload, 1) := by decide +kernel
theorem d_L_law_642 : decode b_L_law 642 = .ok (.invokevirtual 89, 3) := by decide +kernel
theorem d_L_law_645 : decode b_L_law 645 = .ok (.if_icmp .eq 5, 3) := by decide +kernel
theorem d_L_law_648 : decode b_L_law 648 = .ok (.iconst 0, 1) := by decide +kernel
theorem d_L_law_649 : decode b_L_law 649 = .ok (.ireturn, 1) := by decide +kernel
theorem d_L_law_650 : decode b_L_law 650 = .ok (.iinc 3 4, 3) := by decide +kernel
theorem d_L_law_653 : decode b_L_law 653 = .ok (.goto (-635), 3) := by decide +kernel
theorem d_L_law_656 : decode b_L_law 656 = .ok (.iconst 1, 1) := by decide +kernel
theorem d_L_law_657 : decode b_L_law 657 = .ok (.ireturn, 1) := by decide +kernel
