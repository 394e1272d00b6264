/-! decode rows: the law -/
theorem dLA_law_416 : decode cLA_law 416 = .ok (.aload_n 0, 1) := by decide +kernel
theorem dLA_law_417 : decode cLA_law 417 = .ok (.iload 4, 2) := by decide +kernel
theorem dLA_law_419 : decode cLA_law 419 = .ok (.iconst 2, 1) := by decide +kernel
theorem dLA_law_420 : decode cLA_law 420 = .ok (.iadd, 1) := by decide +kernel
theorem dLA_law_421 : decode cLA_law 421 = .ok (.iaload, 1) := by decide +kernel
theorem dLA_law_422 : decode cLA_law 422 = .ok (.i2l, 1) := by decide +kernel
theorem dLA_law_423 : decode cLA_law 423 = .ok (.ldc2_w 24, 3) := by decide +kernel
theorem dLA_law_426 : decode cLA_law 426 = .ok (.land, 1) := by decide +kernel
theorem dLA_law_427 : decode cLA_law 427 = .ok (.lor, 1) := by decide +kernel
theorem dLA_law_428 : decode cLA_law 428 = .ok (.invokevirtual 51, 3) := by decide +kernel
theorem dLA_law_431 : decode cLA_law 431 = .ok (.aload_n 2, 1) := by decide +kernel
theorem dLA_law_432 : decode cLA_law 432 = .ok (.aload_n 0, 1) := by decide +kernel
theorem dLA_law_433 : decode cLA_law 433 = .ok (.iload 4, 2) := by decide +kernel
theorem dLA_law_435 : decode cLA_law 435 = .ok (.iconst 1, 1) := by decide +kernel
theorem dLA_law_436 : decode cLA_law 436 = .ok (.iadd, 1) := by decide +kernel
theorem dLA_law_437 : decode cLA_law 437 = .ok (.iaload, 1) := by decide +kernel
theorem dLA_law_438 : decode cLA_law 438 = .ok (.i2l, 1) := by decide +kernel
theorem dLA_law_439 : decode cLA_law 439 = .ok (.bipush 32, 2) := by decide +kernel
theorem dLA_law_441 : decode cLA_law 441 = .ok (.lshl, 1) := by decide +kernel
theorem dLA_law_442 : decode cLA_law 442 = .ok (.aload_n 0, 1) := by decide +kernel
theorem dLA_law_443 : decode cLA_law 443 = .ok (.iload 4, 2) := by decide +kernel
theorem dLA_law_445 : decode cLA_law 445 = .ok (.iconst 2, 1) := by decide +kernel
theorem dLA_law_446 : decode cLA_law 446 = .ok (.iadd, 1) := by decide +kernel
theorem dLA_law_447 : decode cLA_law 447 = .ok (.iaload, 1) := by decide +kernel
theorem dLA_law_448 : decode cLA_law 448 = .ok (.i2l, 1) := by decide +kernel
theorem dLA_law_449 : decode cLA_law 449 = .ok (.ldc2_w 24, 3) := by decide +kernel
theorem dLA_law_452 : decode cLA_law 452 = .ok (.land, 1) := by decide +kernel
theorem dLA_law_453 : decode cLA_law 453 = .ok (.lor, 1) := by decide +kernel
theorem dLA_law_454 : decode cLA_law 454 = .ok (.invokevirtual 54, 3) := by decide +kernel
theorem dLA_law_457 : decode cLA_law 457 = .ok (.if_icmp .eq 286, 3) := by decide +kernel
theorem dLA_law_460 : decode cLA_law 460 = .ok (.iconst 0, 1) := by decide +kernel
theorem dLA_law_461 : decode cLA_law 461 = .ok (.ireturn, 1) := by decide +kernel
theorem dLA_law_462 : decode cLA_law 462 = .ok (.aload_n 1, 1) := by decide +kernel
theorem dLA_law_463 : decode cLA_law 463 = .ok (.aload_n 0, 1) := by decide +kernel
theorem dLA_law_464 : decode cLA_law 464 = .ok (.iload 4, 2) := by decide +kernel
theorem dLA_law_466 : decode cLA_law 466 = .ok (.iconst 1, 1) := by decide +kernel
theorem dLA_law_467 : decode cLA_law 467 = .ok (.iadd, 1) := by decide +kernel
theorem dLA_law_468 : decode cLA_law 468 = .ok (.iaload, 1) := by decide +kernel
theorem dLA_law_469 : decode cLA_law 469 = .ok (.invokevirtual 55, 3) := by decide +kernel
theorem dLA_law_472 : decode cLA_law 472 = .ok (.aload_n 2, 1) := by decide +kernel
theorem dLA_law_473 : decode cLA_law 473 = .ok (.aload_n 0, 1) := by decide +kernel
theorem dLA_law_474 : decode cLA_law 474 = .ok (.iload 4, 2) := by decide +kernel
theorem dLA_law_476 : decode cLA_law 476 = .ok (.iconst 1, 1) := by decide +kernel
theorem dLA_law_477 : decode cLA_law 477 = .ok (.iadd, 1) := by decide +kernel
theorem dLA_law_478 : decode cLA_law 478 = .ok (.iaload, 1) := by decide +kernel
theorem dLA_law_479 : decode cLA_law 479 = .ok (.invokevirtual 58, 3) := by decide +kernel
theorem dLA_law_482 : decode cLA_law 482 = .ok (.if_icmp .eq 261, 3) := by decide +kernel
theorem dLA_law_485 : decode cLA_law 485 = .ok (.iconst 0, 1) := by decide +kernel
theorem dLA_law_486 : decode cLA_law 486 = .ok (.ireturn, 1) := by decide +kernel
theorem dLA_law_487 : decode cLA_law 487 = .ok (.aload_n 1, 1) := by decide +kernel
theorem dLA_law_488 : decode cLA_law 488 = .ok (.aload_n 0, 1) := by decide +kernel
theorem dLA_law_489 : decode cLA_law 489 = .ok (.iload 4, 2) := by decide +kernel
theorem dLA_law_491 : decode cLA_law 491 = .ok (.iconst 1, 1) := by decide +kernel
theorem dLA_law_492 : decode cLA_law 492 = .ok (.iadd, 1) := by decide +kernel
theorem dLA_law_493 : decode cLA_law 493 = .ok (.iaload, 1) := by decide +kernel
theorem dLA_law_494 : decode cLA_law 494 = .ok (.aload_n 0, 1) := by decide +kernel
theorem dLA_law_495 : decode cLA_law 495 = .ok (.iload 4, 2) := by decide +kernel
theorem dLA_law_497 : decode cLA_law 497 = .ok (.iconst 2, 1) := by decide +kernel
theorem dLA_law_498 : decode cLA_law 498 = .ok (.iadd, 1) := by decide +kernel
theorem dLA_law_499 : decode cLA_law 499 = .ok (.iaload, 1) := by decide +kernel
theorem dLA_law_500 : decode cLA_law 500 = .ok (.aload_n 0, 1) := by decide +kernel
theorem dLA_law_501 : decode cLA_law 501 = .ok (.iload 4, 2) := by decide +kernel
theorem dLA_law_503 : decode cLA_law 503 = .ok (.iconst 3, 1) := by decide +kernel
theorem dLA_law_504 : decode cLA_law 504 = .ok (.iadd, 1) := by decide +kernel
theorem dLA_law_505 : decode cLA_law 505 = .ok (.iaload, 1) := by decide +kernel
theorem dLA_law_506 : decode cLA_law 506 = .ok (.i2l, 1) := by decide +kernel
theorem dLA_law_507 : decode cLA_law 507 = .ok (.bipush 32, 2) := by decide +kernel
theorem dLA_law_509 : decode cLA_law 509 = .ok (.lshl, 1) := by decide +kernel
theorem dLA_law_510 : decode cLA_law 510 = .ok (.aload_n 0, 1) := by decide +kernel
theorem dLA_law_511 : decode cLA_law 511 = .ok (.iload 4, 2) := by decide +kernel
theorem dLA_law_513 : decode cLA_law 513 = .ok (.iconst 4, 1) := by decide +kernel
theorem dLA_law_514 : decode cLA_law 514 = .ok (.iadd, 1) := by decide +kernel
theorem dLA_law_515 : decode cLA_law 515 = .ok (.iaload, 1) := by decide +kernel
theorem dLA_law_516 : decode cLA_law 516 = .ok (.i2l, 1) := by decide +kernel
theorem dLA_law_517 : decode cLA_law 517 = .ok (.ldc2_w 24, 3) := by decide +kernel
theorem dLA_law_520 : decode cLA_law 520 = .ok (.land, 1) := by decide +kernel
theorem dLA_law_521 : decode cLA_law 521 = .ok (.lor, 1) := by decide +kernel
theorem dLA_law_522 : decode cLA_law 522 = .ok (.invokevirtual 59, 3) := by decide +kernel
theorem dLA_law_525 : decode cLA_law 525 = .ok (.aload_n 2, 1) := by decide +kernel
theorem dLA_law_526 : decode cLA_law 526 = .ok (.aload_n 0, 1) := by decide +kernel
theorem dLA_law_527 : decode cLA_law 527 = .ok (.iload 4, 2) := by decide +kernel
theorem dLA_law_529 : decode cLA_law 529 = .ok (.iconst 1, 1) := by decide +kernel
theorem dLA_law_530 : decode cLA_law 530 = .ok (.iadd, 1) := by decide +kernel
theorem dLA_law_531 : decode cLA_law 531 = .ok (.iaload, 1) := by decide +kernel
theorem dLA_law_532 : decode cLA_law 532 = .ok (.aload_n 0, 1) := by decide +kernel
theorem dLA_law_533 : decode cLA_law 533 = .ok (.iload 4, 2) := by decide +kernel
theorem dLA_law_535 : decode cLA_law 535 = .ok (.iconst 2, 1) := by decide +kernel
theorem dLA_law_536 : decode cLA_law 536 = .ok (.iadd, 1) := by decide +kernel
theorem dLA_law_537 : decode cLA_law 537 = .ok (.iaload, 1) := by decide +kernel
theorem dLA_law_538 : decode cLA_law 538 = .ok (.aload_n 0, 1) := by decide +kernel
theorem dLA_law_539 : decode cLA_law 539 = .ok (.iload 4, 2) := by decide +kernel
theorem dLA_law_541 : decode cLA_law 541 = .ok (.iconst 3, 1) := by decide +kernel
theorem dLA_law_542 : decode cLA_law 542 = .ok (.iadd, 1) := by decide +kernel
theorem dLA_law_543 : decode cLA_law 543 = .ok (.iaload, 1) := by decide +kernel
theorem dLA_law_544 : decode cLA_law 544 = .ok (.i2l, 1) := by decide +kernel
theorem dLA_law_545 : decode cLA_law 545 = .ok (.bipush 32, 2) := by decide +kernel
theorem dLA_law_547 : decode cLA_law 547 = .ok (.lshl, 1) := by decide +kernel
theorem dLA_law_548 : decode cLA_law 548 = .ok (.aload_n 0, 1) := by decide +kernel
theorem dLA_law_549 : decode cLA_law 549 = .ok (.iload 4, 2) := by decide +kernel
theorem dLA_law_551 : decode cLA_law 551 = .ok (.iconst 4, 1) := by decide +kernel
theorem dLA_law_552 : decode cLA_law 552 = .ok (.iadd, 1) := by decide +kernel
theorem dLA_law_553 : decode cLA_law 553 = .ok (.iaload, 1) := by decide +kernel
theorem dLA_law_554 : decode cLA_law 554 = .ok (.i2l, 1) := by decide +kernel
theorem dLA_law_555 : decode cLA_law 555 = .ok (.ldc2_w 24, 3) := by decide +kernel
theorem dLA_law_558 : decode cLA_law 558 = .ok (.land, 1) := by decide +kernel
theorem dLA_law_559 : decode cLA_law 559 = .ok (.lor, 1) := by decide +kernel
theorem dLA_law_560 : decode cLA_law 560 = .ok (.invokevirtual 63, 3) := by decide +kernel
theorem dLA_law_563 : decode cLA_law 563 = .ok (.if_icmp .eq 180, 3) := by decide +kernel
theorem dLA_law_566 : decode cLA_law 566 = .ok (.iconst 0, 1) := by decide +kernel
theorem dLA_law_567 : decode cLA_law 567 = .ok (.ireturn, 1) := by decide +kernel
theorem dLA_law_568 : decode cLA_law 568 = .ok (.aload_n 1, 1) := by decide +kernel
theorem dLA_law_569 : decode cLA_law 569 = .ok (.aload_n 0, 1) := by decide +kernel
theorem dLA_law_570 : decode cLA_law 570 = .ok (.iload 4, 2) := by decide +kernel
theorem dLA_law_572 : decode cLA_law 572 = .ok (.iconst 1, 1) := by decide +kernel
theorem dLA_law_573 : decode cLA_law 573 = .ok (.iadd, 1) := by decide +kernel
theorem dLA_law_574 : decode cLA_law 574 = .ok (.iaload, 1) := by decide +kernel
theorem dLA_law_575 : decode cLA_law 575 = .ok (.aload_n 0, 1) := by decide +kernel
theorem dLA_law_576 : decode cLA_law 576 = .ok (.iload 4, 2) := by decide +kernel
theorem dLA_law_578 : decode cLA_law 578 = .ok (.iconst 2, 1) := by decide +kernel
theorem dLA_law_579 : decode cLA_law 579 = .ok (.iadd, 1) := by decide +kernel
theorem dLA_law_580 : decode cLA_law 580 = .ok (.iaload, 1) := by decide +kernel
theorem dLA_law_581 : decode cLA_law 581 = .ok (.i2l, 1) := by decide +kernel
theorem dLA_law_582 : decode cLA_law 582 = .ok (.bipush 32, 2) := by decide +kernel
theorem dLA_law_584 : decode cLA_law 584 = .ok (.lshl, 1) := by decide +kernel
theorem dLA_law_585 : decode cLA_law 585 = .ok (.aload_n 0, 1) := by decide +kernel
theorem dLA_law_586 : decode cLA_law 586 = .ok (.iload 4, 2) := by decide +kernel
theorem dLA_law_588 : decode cLA_law 588 = .ok (.iconst 3, 1) := by decide +kernel
theorem dLA_law_589 : decode cLA_law 589 = .ok (.iadd, 1) := by decide +kernel
theorem dLA_law_590 : decode cLA_law 590 = .ok (.iaload, 1) := by decide +kernel
theorem dLA_law_591 : decode cLA_law 591 = .ok (.i2l, 1) := by decide +kernel
theorem dLA_law_592 : decode cLA_law 592 = .ok (.ldc2_w 24, 3) := by decide +kernel
theorem dLA_law_595 : decode cLA_law 595 = .ok (.land, 1) := by decide +kernel
theorem dLA_law_596 : decode cLA_law 596 = .ok (.lor, 1) := by decide +kernel
theorem dLA_law_597 : decode cLA_law 597 = .ok (.invokevirtual 64, 3) := by decide +kernel
theorem dLA_law_600 : decode cLA_law 600 = .ok (.aload_n 2, 1) := by decide +kernel
theorem dLA_law_601 : decode cLA_law 601 = .ok (.aload_n 0, 1) := by decide +kernel
theorem dLA_law_602 : decode cLA_law 602 = .ok (.iload 4, 2) := by decide +kernel
theorem dLA_law_604 : decode cLA_law 604 = .ok (.iconst 1, 1) := by decide +kernel
theorem dLA_law_605 : decode cLA_law 605 = .ok (.iadd, 1) := by decide +kernel
theorem dLA_law_606 : decode cLA_law 606 = .ok (.iaload, 1) := by decide +kernel
theorem dLA_law_607 : decode cLA_law 607 = .ok (.aload_n 0, 1) := by decide +kernel
theorem dLA_law_608 : decode cLA_law 608 = .ok (.iload 4, 2) := by decide +kernel
theorem dLA_law_610 : decode cLA_law 610 = .ok (.iconst 2, 1) := by decide +kernel
theorem dLA_law_611 : decode cLA_law 611 = .ok (.iadd, 1) := by decide +kernel
theorem dLA_law_612 : decode cLA_law 612 = .ok (.iaload, 1) := by decide +kernel
theorem dLA_law_613 : decode cLA_law 613 = .ok (.i2l, 1) := by decide +kernel
theorem dLA_law_614 : decode cLA_law 614 = .ok (.bipush 32, 2) := by decide +kernel
theorem dLA_law_616 : decode cLA_law 616 = .ok (.lshl, 1) := by decide +kernel
theorem dLA_law_617 : decode cLA_law 617 = .ok (.aload_n 0, 1) := by decide +kernel
theorem dLA_law_618 : decode cLA_law 618 = .ok (.iload 4, 2) := by decide +kernel
theorem dLA_law_620 : decode cLA_law 620 = .ok (.iconst 3, 1) := by decide +kernel
theorem dLA_law_621 : decode cLA_law 621 = .ok (.iadd, 1) := by decide +kernel
theorem dLA_law_622 : decode cLA_law 622 = .ok (.iaload, 1) := by decide +kernel
theorem dLA_law_623 : decode cLA_law 623 = .ok (.i2l, 1) := by decide +kernel
theorem dLA_law_624 : decode cLA_law 624 = .ok (.ldc2_w 24, 3) := by decide +kernel
theorem dLA_law_627 : decode cLA_law 627 = .ok (.land, 1) := by decide +kernel
theorem dLA_law_628 : decode cLA_law 628 = .ok (.lor, 1) := by decide +kernel
theorem dLA_law_629 : decode cLA_law 629 = .ok (.invokevirtual 68, 3) := by decide +kernel
theorem dLA_law_632 : decode cLA_law 632 = .ok (.if_icmp .eq 111, 3) := by decide +kernel
theorem dLA_law_635 : decode cLA_law 635 = .ok (.iconst 0, 1) := by decide +kernel
theorem dLA_law_636 : decode cLA_law 636 = .ok (.ireturn, 1) := by decide +kernel
theorem dLA_law_637 : decode cLA_law 637 = .ok (.aload_n 1, 1) := by decide +kernel
theorem dLA_law_638 : decode cLA_law 638 = .ok (.aload_n 0, 1) := by decide +kernel
theorem dLA_law_639 : decode cLA_law 639 = .ok (.iload 4, 2) := by decide +kernel
theorem dLA_law_641 : decode cLA_law 641 = .ok (.iconst 1, 1) := by decide +kernel
theorem dLA_law_642 : decode cLA_law 642 = .ok (.iadd, 1) := by decide +kernel
theorem dLA_law_643 : decode cLA_law 643 = .ok (.iaload, 1) := by decide +kernel
theorem dLA_law_644 : decode cLA_law 644 = .ok (.aload_n 0, 1) := by decide +kernel
theorem dLA_law_645 : decode cLA_law 645 = .ok (.iload 4, 2) := by decide +kernel
theorem dLA_law_647 : decode cLA_law 647 = .ok (.iconst 2, 1) := by decide +kernel
theorem dLA_law_648 : decode cLA_law 648 = .ok (.iadd, 1) := by decide +kernel
theorem dLA_law_649 : decode cLA_law 649 = .ok (.iaload, 1) := by decide +kernel
theorem dLA_law_650 : decode cLA_law 650 = .ok (.ifCond .eq 7, 3) := by decide +kernel
theorem dLA_law_653 : decode cLA_law 653 = .ok (.iconst 1, 1) := by decide +kernel
theorem dLA_law_654 : decode cLA_law 654 = .ok (.goto 4, 3) := by decide +kernel
theorem dLA_law_657 : decode cLA_law 657 = .ok (.iconst 0, 1) := by decide +kernel
theorem dLA_law_658 : decode cLA_law 658 = .ok (.invokevirtual 69, 3) := by decide +kernel
theorem dLA_law_661 : decode cLA_law 661 = .ok (.aload_n 2, 1) := by decide +kernel
theorem dLA_law_662 : decode cLA_law 662 = .ok (.aload_n 0, 1) := by decide +kernel
theorem dLA_law_663 : decode cLA_law 663 = .ok (.iload 4, 2) := by decide +kernel
theorem dLA_law_665 : decode cLA_law 665 = .ok (.iconst 1, 1) := by decide +kernel
theorem dLA_law_666 : decode cLA_law 666 = .ok (.iadd, 1) := by decide +kernel
theorem dLA_law_667 : decode cLA_law 667 = .ok (.iaload, 1) := by decide +kernel
theorem dLA_law_668 : decode cLA_law 668 = .ok (.aload_n 0, 1) := by decide +kernel
theorem dLA_law_669 : decode cLA_law 669 = .ok (.iload 4, 2) := by decide +kernel
theorem dLA_law_671 : decode cLA_law 671 = .ok (.iconst 2, 1) := by decide +kernel
theorem dLA_law_672 : decode cLA_law 672 = .ok (.iadd, 1) := by decide +kernel
theorem dLA_law_673 : decode cLA_law 673 = .ok (.iaload, 1) := by decide +kernel
theorem dLA_law_674 : decode cLA_law 674 = .ok (.ifCond .eq 7, 3) := by decide +kernel
theorem dLA_law_677 : decode cLA_law 677 = .ok (.iconst 1, 1) := by decide +kernel
theorem dLA_law_678 : decode cLA_law 678 = .ok (.goto 4, 3) := by decide +kernel
theorem dLA_law_681 : decode cLA_law 681 = .ok (.iconst 0, 1) := by decide +kernel
theorem dLA_law_682 : decode cLA_law 682 = .ok (.invokevirtual 73, 3) := by decide +kernel
theorem dLA_law_685 : decode cLA_law 685 = .ok (.if_icmp .eq 58, 3) := by decide +kernel
theorem dLA_law_688 : decode cLA_law 688 = .ok (.iconst 0, 1) := by decide +kernel
theorem dLA_law_689 : decode cLA_law 689 = .ok (.ireturn, 1) := by decide +kernel
theorem dLA_law_690 : decode cLA_law 690 = .ok (.aload_n 1, 1) := by decide +kernel
theorem dLA_law_691 : decode cLA_law 691 = .ok (.aload_n 0, 1) := by decide +kernel
theorem dLA_law_692 : decode cLA_law 692 = .ok (.iload 4, 2) := by decide +kernel
theorem dLA_law_694 : decode cLA_law 694 = .ok (.iconst 1, 1) := by decide +kernel
theorem dLA_law_695 : decode cLA_law 695 = .ok (.iadd, 1) := by decide +kernel
theorem dLA_law_696 : decode cLA_law 696 = .ok (.iaload, 1) := by decide +kernel
theorem dLA_law_697 : decode cLA_law 697 = .ok (.invokevirtual 74, 3) := by decide +kernel
theorem dLA_law_700 : decode cLA_law 700 = .ok (.aload_n 2, 1) := by decide +kernel
theorem dLA_law_701 : decode cLA_law 701 = .ok (.aload_n 0, 1) := by decide +kernel
theorem dLA_law_702 : decode cLA_law 702 = .ok (.iload 4, 2) := by decide +kernel
theorem dLA_law_704 : decode cLA_law 704 = .ok (.iconst 1, 1) := by decide +kernel
theorem dLA_law_705 : decode cLA_law 705 = .ok (.iadd, 1) := by decide +kernel
theorem dLA_law_706 : decode cLA_law 706 = .ok (.iaload, 1) := by decide +kernel
theorem dLA_law_707 : decode cLA_law 707 = .ok (.invokevirtual 78, 3) := by decide +kernel
theorem dLA_law_710 : decode cLA_law 710 = .ok (.lcmp, 1) := by decide +kernel
theorem dLA_law_711 : decode cLA_law 711 = .ok (.ifCond .eq 32, 3) := by decide +kernel
theorem dLA_law_714 : decode cLA_law 714 = .ok (.iconst 0, 1) := by decide +kernel
theorem dLA_law_715 : decode cLA_law 715 = .ok (.ireturn, 1) := by decide +kernel
theorem dLA_law_716 : decode cLA_law 716 = .ok (.aload_n 1, 1) := by decide +kernel
theorem dLA_law_717 : decode cLA_law 717 = .ok (.invokevirtual 79, 3) := by decide +kernel
theorem dLA_law_720 : decode cLA_law 720 = .ok (.aload_n 2, 1) := by decide +kernel
theorem dLA_law_721 : decode cLA_law 721 = .ok (.invokevirtual 82, 3) := by decide +kernel
theorem dLA_law_724 : decode cLA_law 724 = .ok (.if_icmp .eq 19, 3) := by decide +kernel
theorem dLA_law_727 : decode cLA_law 727 = .ok (.iconst 0, 1) := by decide +kernel
theorem dLA_law_728 : decode cLA_law 728 = .ok (.ireturn, 1) := by decide +kernel
theorem dLA_law_729 : decode cLA_law 729 = .ok (.aload_n 1, 1) := by decide +kernel
theorem dLA_law_730 : decode cLA_law 730 = .ok (.invokevirtual 83, 3) := by decide +kernel
theorem dLA_law_733 : decode cLA_law 733 = .ok (.aload_n 2, 1) := by decide +kernel
theorem dLA_law_734 : decode cLA_law 734 = .ok (.invokevirtual 87, 3) := by decide +kernel
theorem dLA_law_737 : decode cLA_law 737 = .ok (.lcmp, 1) := by decide +kernel
theorem dLA_law_738 : decode cLA_law 738 = .ok (.ifCond .eq 5, 3) := by decide +kernel
theorem dLA_law_741 : decode cLA_law 741 = .ok (.iconst 0, 1) := by decide +kernel
theorem dLA_law_742 : decode cLA_law 742 = .ok (.ireturn, 1) := by decide +kernel
theorem dLA_law_743 : decode cLA_law 743 = .ok (.iinc 4 5, 3) := by decide +kernel
theorem dLA_law_746 : decode cLA_law 746 = .ok (.goto (-723), 3) := by decide +kernel
theorem dLA_law_749 : decode cLA_law 749 = .ok (.iconst 1, 1) := by decide +kernel
theorem dLA_law_750 : decode cLA_law 750 = .ok (.ireturn, 1) := by decide +kernel

