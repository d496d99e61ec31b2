theorem d_La_law_455 : decode b_La_law 455 = .ok (.ireturn, 1) := by decide +kernel
theorem d_La_law_456 : decode b_La_law 456 = .ok (.aload_n 1, 1) := by decide +kernel
theorem d_La_law_457 : decode b_La_law 457 = .ok (.aload_n 3, 1) := by decide +kernel
theorem d_La_law_458 : decode b_La_law 458 = .ok (.invokestatic 85, 3) := by decide +kernel
theorem d_La_law_461 : decode b_La_law 461 = .ok (.istore 5, 2) := by decide +kernel
theorem d_La_law_463 : decode b_La_law 463 = .ok (.aload_n 2, 1) := by decide +kernel
theorem d_La_law_464 : decode b_La_law 464 = .ok (.invokevirtual 88, 3) := by decide +kernel
theorem d_La_law_467 : decode b_La_law 467 = .ok (.istore 6, 2) := by decide +kernel
theorem d_La_law_469 : decode b_La_law 469 = .ok (.aload_n 2, 1) := by decide +kernel
theorem d_La_law_470 : decode b_La_law 470 = .ok (.invokevirtual 64, 3) := by decide +kernel
theorem d_La_law_473 : decode b_La_law 473 = .ok (.iload 5, 2) := by decide +kernel
theorem d_La_law_475 : decode b_La_law 475 = .ok (.if_icmp .eq 5, 3) := by decide +kernel
theorem d_La_law_478 : decode b_La_law 478 = .ok (.iconst 0, 1) := by decide +kernel
theorem d_La_law_479 : decode b_La_law 479 = .ok (.ireturn, 1) := by decide +kernel
theorem d_La_law_480 : decode b_La_law 480 = .ok (.iload 5, 2) := by decide +kernel
theorem d_La_law_482 : decode b_La_law 482 = .ok (.ifCond .ne 15, 3) := by decide +kernel
theorem d_La_law_485 : decode b_La_law 485 = .ok (.aload_n 3, 1) := by decide +kernel
theorem d_La_law_486 : decode b_La_law 486 = .ok (.iconst 0, 1) := by decide +kernel
theorem d_La_law_487 : decode b_La_law 487 = .ok (.laload, 1) := by decide +kernel
theorem d_La_law_488 : decode b_La_law 488 = .ok (.iload 6, 2) := by decide +kernel
theorem d_La_law_490 : decode b_La_law 490 = .ok (.i2l, 1) := by decide +kernel
theorem d_La_law_491 : decode b_La_law 491 = .ok (.lcmp, 1) := by decide +kernel
theorem d_La_law_492 : decode b_La_law 492 = .ok (.ifCond .eq 5, 3) := by decide +kernel
theorem d_La_law_495 : decode b_La_law 495 = .ok (.iconst 0, 1) := by decide +kernel
theorem d_La_law_496 : decode b_La_law 496 = .ok (.ireturn, 1) := by decide +kernel
theorem d_La_law_497 : decode b_La_law 497 = .ok (.goto 321, 3) := by decide +kernel
theorem d_La_law_500 : decode b_La_law 500 = .ok (.aload_n 1, 1) := by decide +kernel
theorem d_La_law_501 : decode b_La_law 501 = .ok (.aload_n 0, 1) := by decide +kernel
theorem d_La_law_502 : decode b_La_law 502 = .ok (.iload 4, 2) := by decide +kernel
theorem d_La_law_504 : decode b_La_law 504 = .ok (.iconst 1, 1) := by decide +kernel
theorem d_La_law_505 : decode b_La_law 505 = .ok (.iadd, 1) := by decide +kernel
theorem d_La_law_506 : decode b_La_law 506 = .ok (.iaload, 1) := by decide +kernel
theorem d_La_law_507 : decode b_La_law 507 = .ok (.aload_n 0, 1) := by decide +kernel
theorem d_La_law_508 : decode b_La_law 508 = .ok (.iload 4, 2) := by decide +kernel
theorem d_La_law_510 : decode b_La_law 510 = .ok (.iconst 2, 1) := by decide +kernel
theorem d_La_law_511 : decode b_La_law 511 = .ok (.iadd, 1) := by decide +kernel
theorem d_La_law_512 : decode b_La_law 512 = .ok (.iaload, 1) := by decide +kernel
theorem d_La_law_513 : decode b_La_law 513 = .ok (.aload_n 3, 1) := by decide +kernel
theorem d_La_law_514 : decode b_La_law 514 = .ok (.invokestatic 89, 3) := by decide +kernel
theorem d_La_law_517 : decode b_La_law 517 = .ok (.istore 5, 2) := by decide +kernel
theorem d_La_law_519 : decode b_La_law 519 = .ok (.aload_n 2, 1) := by decide +kernel
theorem d_La_law_520 : decode b_La_law 520 = .ok (.aload_n 0, 1) := by decide +kernel
theorem d_La_law_521 : decode b_La_law 521 = .ok (.iload 4, 2) := by decide +kernel
theorem d_La_law_523 : decode b_La_law 523 = .ok (.iconst 1, 1) := by decide +kernel
theorem d_La_law_524 : decode b_La_law 524 = .ok (.iadd, 1) := by decide +kernel
theorem d_La_law_525 : decode b_La_law 525 = .ok (.iaload, 1) := by decide +kernel
theorem d_La_law_526 : decode b_La_law 526 = .ok (.aload_n 0, 1) := by decide +kernel
theorem d_La_law_527 : decode b_La_law 527 = .ok (.iload 4, 2) := by decide +kernel
theorem d_La_law_529 : decode b_La_law 529 = .ok (.iconst 2, 1) := by decide +kernel
theorem d_La_law_530 : decode b_La_law 530 = .ok (.iadd, 1) := by decide +kernel
theorem d_La_law_531 : decode b_La_law 531 = .ok (.iaload, 1) := by decide +kernel
theorem d_La_law_532 : decode b_La_law 532 = .ok (.invokevirtual 91, 3) := by decide +kernel
theorem d_La_law_535 : decode b_La_law 535 = .ok (.lstore 6, 2) := by decide +kernel
theorem d_La_law_537 : decode b_La_law 537 = .ok (.aload_n 2, 1) := by decide +kernel
theorem d_La_law_538 : decode b_La_law 538 = .ok (.invokevirtual 64, 3) := by decide +kernel
theorem d_La_law_541 : decode b_La_law 541 = .ok (.iload 5, 2) := by decide +kernel
theorem d_La_law_543 : decode b_La_law 543 = .ok (.if_icmp .eq 5, 3) := by decide +kernel
theorem d_La_law_546 : decode b_La_law 546 = .ok (.iconst 0, 1) := by decide +kernel
theorem d_La_law_547 : decode b_La_law 547 = .ok (.ireturn, 1) := by decide +kernel
theorem d_La_law_548 : decode b_La_law 548 = .ok (.iload 5, 2) := by decide +kernel
theorem d_La_law_550 : decode b_La_law 550 = .ok (.ifCond .ne 14, 3) := by decide +kernel
theorem d_La_law_553 : decode b_La_law 553 = .ok (.aload_n 3, 1) := by decide +kernel
theorem d_La_law_554 : decode b_La_law 554 = .ok (.iconst 0, 1) := by decide +kernel
theorem d_La_law_555 : decode b_La_law 555 = .ok (.laload, 1) := by decide +kernel
theorem d_La_law_556 : decode b_La_law 556 = .ok (.lload 6, 2) := by decide +kernel
theorem d_La_law_558 : decode b_La_law 558 = .ok (.lcmp, 1) := by decide +kernel
theorem d_La_law_559 : decode b_La_law 559 = .ok (.ifCond .eq 5, 3) := by decide +kernel
theorem d_La_law_562 : decode b_La_law 562 = .ok (.iconst 0, 1) := by decide +kernel
theorem d_La_law_563 : decode b_La_law 563 = .ok (.ireturn, 1) := by decide +kernel
theorem d_La_law_564 : decode b_La_law 564 = .ok (.goto 254, 3) := by decide +kernel
theorem d_La_law_567 : decode b_La_law 567 = .ok (.aload_n 1, 1) := by decide +kernel
theorem d_La_law_568 : decode b_La_law 568 = .ok (.aload_n 0, 1) := by decide +kernel
theorem d_La_law_569 : decode b_La_law 569 = .ok (.iload 4, 2) := by decide +kernel
theorem d_La_law_571 : decode b_La_law 571 = .ok (.iconst 1, 1) := by decide +kernel
theorem d_La_law_572 : decode b_La_law 572 = .ok (.iadd, 1) := by decide +kernel
theorem d_La_law_573 : decode b_La_law 573 = .ok (.iaload, 1) := by decide +kernel
theorem d_La_law_574 : decode b_La_law 574 = .ok (.aload_n 0, 1) := by decide +kernel
theorem d_La_law_575 : decode b_La_law 575 = .ok (.iload 4, 2) := by decide +kernel
theorem d_La_law_577 : decode b_La_law 577 = .ok (.iconst 2, 1) := by decide +kernel
theorem d_La_law_578 : decode b_La_law 578 = .ok (.iadd, 1) := by decide +kernel
theorem d_La_law_579 : decode b_La_law 579 = .ok (.iaload, 1) := by decide +kernel
theorem d_La_law_580 : decode b_La_law 580 = .ok (.aload_n 0, 1) := by decide +kernel
theorem d_La_law_581 : decode b_La_law 581 = .ok (.iload 4, 2) := by decide +kernel
theorem d_La_law_583 : decode b_La_law 583 = .ok (.iconst 3, 1) := by decide +kernel
theorem d_La_law_584 : decode b_La_law 584 = .ok (.iadd, 1) := by decide +kernel
theorem d_La_law_585 : decode b_La_law 585 = .ok (.iaload, 1) := by decide +kernel
theorem d_La_law_586 : decode b_La_law 586 = .ok (.aload_n 3, 1) := by decide +kernel
theorem d_La_law_587 : decode b_La_law 587 = .ok (.invokestatic 92, 3) := by decide +kernel
theorem d_La_law_590 : decode b_La_law 590 = .ok (.istore 5, 2) := by decide +kernel
theorem d_La_law_592 : decode b_La_law 592 = .ok (.aload_n 2, 1) := by decide +kernel
theorem d_La_law_593 : decode b_La_law 593 = .ok (.aload_n 0, 1) := by decide +kernel
theorem d_La_law_594 : decode b_La_law 594 = .ok (.iload 4, 2) := by decide +kernel
theorem d_La_law_596 : decode b_La_law 596 = .ok (.iconst 1, 1) := by decide +kernel
theorem d_La_law_597 : decode b_La_law 597 = .ok (.iadd, 1) := by decide +kernel
theorem d_La_law_598 : decode b_La_law 598 = .ok (.iaload, 1) := by decide +kernel
theorem d_La_law_599 : decode b_La_law 599 = .ok (.aload_n 0, 1) := by decide +kernel
theorem d_La_law_600 : decode b_La_law 600 = .ok (.iload 4, 2) := by decide +kernel
theorem d_La_law_602 : decode b_La_law 602 = .ok (.iconst 2, 1) := by decide +kernel
theorem d_La_law_603 : decode b_La_law 603 = .ok (.iadd, 1) := by decide +kernel
theorem d_La_law_604 : decode b_La_law 604 = .ok (.iaload, 1) := by decide +kernel
theorem d_La_law_605 : decode b_La_law 605 = .ok (.aload_n 0, 1) := by decide +kernel
theorem d_La_law_606 : decode b_La_law 606 = .ok (.iload 4, 2) := by decide +kernel
theorem d_La_law_608 : decode b_La_law 608 = .ok (.iconst 3, 1) := by decide +kernel
theorem d_La_law_609 : decode b_La_law 609 = .ok (.iadd, 1) := by decide +kernel
theorem d_La_law_610 : decode b_La_law 610 = .ok (.iaload, 1) := by decide +kernel
theorem d_La_law_611 : decode b_La_law 611 = .ok (.invokevirtual 94, 3) := by decide +kernel
theorem d_La_law_614 : decode b_La_law 614 = .ok (.lstore 6, 2) := by decide +kernel
theorem d_La_law_616 : decode b_La_law 616 = .ok (.aload_n 2, 1) := by decide +kernel
theorem d_La_law_617 : decode b_La_law 617 = .ok (.invokevirtual 64, 3) := by decide +kernel
theorem d_La_law_620 : decode b_La_law 620 = .ok (.iload 5, 2) := by decide +kernel
theorem d_La_law_622 : decode b_La_law 622 = .ok (.if_icmp .eq 5, 3) := by decide +kernel
theorem d_La_law_625 : decode b_La_law 625 = .ok (.iconst 0, 1) := by decide +kernel
theorem d_La_law_626 : decode b_La_law 626 = .ok (.ireturn, 1) := by decide +kernel
theorem d_La_law_627 : decode b_La_law 627 = .ok (.iload 5, 2) := by decide +kernel
theorem d_La_law_629 : decode b_La_law 629 = .ok (.ifCond .ne 14, 3) := by decide +kernel
theorem d_La_law_632 : decode b_La_law 632 = .ok (.aload_n 3, 1) := by decide +kernel
theorem d_La_law_633 : decode b_La_law 633 = .ok (.iconst 0, 1) := by decide +kernel
theorem d_La_law_634 : decode b_La_law 634 = .ok (.laload, 1) := by decide +kernel
theorem d_La_law_635 : decode b_La_law 635 = .ok (.lload 6, 2) := by decide +kernel
theorem d_La_law_637 : decode b_La_law 637 = .ok (.lcmp, 1) := by decide +kernel
theorem d_La_law_638 : decode b_La_law 638 = .ok (.ifCond .eq 5, 3) := by decide +kernel
theorem d_La_law_641 : decode b_La_law 641 = .ok (.iconst 0, 1) := by decide +kernel
theorem d_La_law_642 : decode b_La_law 642 = .ok (.ireturn, 1) := by decide +kernel
theorem d_La_law_643 : decode b_La_law 643 = .ok (.goto 175, 3) := by decide +kernel
theorem d_La_law_646 : decode b_La_law 646 = .ok (.aload_n 1, 1) := by decide +kernel
