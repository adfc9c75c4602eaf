theorem dL_law_369 : decode cL_law 369 = .ok (.iconst 2, 1) := by decide +kernel
theorem dL_law_370 : decode cL_law 370 = .ok (.newarray .int, 2) := by decide +kernel
theorem dL_law_372 : decode cL_law 372 = .ok (.dup, 1) := by decide +kernel
theorem dL_law_373 : decode cL_law 373 = .ok (.iconst 0, 1) := by decide +kernel
theorem dL_law_374 : decode cL_law 374 = .ok (.iconst 1, 1) := by decide +kernel
theorem dL_law_375 : decode cL_law 375 = .ok (.iastore, 1) := by decide +kernel
theorem dL_law_376 : decode cL_law 376 = .ok (.dup, 1) := by decide +kernel
theorem dL_law_377 : decode cL_law 377 = .ok (.iconst 1, 1) := by decide +kernel
theorem dL_law_378 : decode cL_law 378 = .ok (.bipush 10, 2) := by decide +kernel
theorem dL_law_380 : decode cL_law 380 = .ok (.iastore, 1) := by decide +kernel
theorem dL_law_381 : decode cL_law 381 = .ok (.invokestatic 186, 3) := by decide +kernel
theorem dL_law_384 : decode cL_law 384 = .ok (.ifCond .eq 47, 3) := by decide +kernel
theorem dL_law_387 : decode cL_law 387 = .ok (.aload_n 1, 1) := by decide +kernel
theorem dL_law_388 : decode cL_law 388 = .ok (.bipush 9, 2) := by decide +kernel
theorem dL_law_390 : decode cL_law 390 = .ok (.invokevirtual 85, 3) := by decide +kernel
theorem dL_law_393 : decode cL_law 393 = .ok (.bipush 40, 2) := by decide +kernel
theorem dL_law_395 : decode cL_law 395 = .ok (.if_icmp .ne 36, 3) := by decide +kernel
theorem dL_law_398 : decode cL_law 398 = .ok (.aload_n 1, 1) := by decide +kernel
theorem dL_law_399 : decode cL_law 399 = .ok (.bipush 18, 2) := by decide +kernel
theorem dL_law_401 : decode cL_law 401 = .ok (.invokevirtual 85, 3) := by decide +kernel
theorem dL_law_404 : decode cL_law 404 = .ok (.bipush 8, 2) := by decide +kernel
theorem dL_law_406 : decode cL_law 406 = .ok (.if_icmp .ne 25, 3) := by decide +kernel
theorem dL_law_409 : decode cL_law 409 = .ok (.aload_n 1, 1) := by decide +kernel
theorem dL_law_410 : decode cL_law 410 = .ok (.bipush 9, 2) := by decide +kernel
theorem dL_law_412 : decode cL_law 412 = .ok (.iconst 1, 1) := by decide +kernel
theorem dL_law_413 : decode cL_law 413 = .ok (.invokevirtual 94, 3) := by decide +kernel
theorem dL_law_416 : decode cL_law 416 = .ok (.bipush 16, 2) := by decide +kernel
theorem dL_law_418 : decode cL_law 418 = .ok (.if_icmp .ne 13, 3) := by decide +kernel
theorem dL_law_421 : decode cL_law 421 = .ok (.aload_n 1, 1) := by decide +kernel
theorem dL_law_422 : decode cL_law 422 = .ok (.iconst 0, 1) := by decide +kernel
theorem dL_law_423 : decode cL_law 423 = .ok (.invokevirtual 97, 3) := by decide +kernel
theorem dL_law_426 : decode cL_law 426 = .ok (.bipush 9, 2) := by decide +kernel
theorem dL_law_428 : decode cL_law 428 = .ok (.if_icmp .eq 5, 3) := by decide +kernel
theorem dL_law_431 : decode cL_law 431 = .ok (.iconst 0, 1) := by decide +kernel
theorem dL_law_432 : decode cL_law 432 = .ok (.ireturn, 1) := by decide +kernel
theorem dL_law_433 : decode cL_law 433 = .ok (.iconst 0, 1) := by decide +kernel
theorem dL_law_434 : decode cL_law 434 = .ok (.istore_n 2, 1) := by decide +kernel
theorem dL_law_435 : decode cL_law 435 = .ok (.iload_n 2, 1) := by decide +kernel
theorem dL_law_436 : decode cL_law 436 = .ok (.iconst 5, 1) := by decide +kernel
theorem dL_law_437 : decode cL_law 437 = .ok (.if_icmp .ge 24, 3) := by decide +kernel
theorem dL_law_440 : decode cL_law 440 = .ok (.aload_n 1, 1) := by decide +kernel
theorem dL_law_441 : decode cL_law 441 = .ok (.iload_n 2, 1) := by decide +kernel
theorem dL_law_442 : decode cL_law 442 = .ok (.bipush 9, 2) := by decide +kernel
theorem dL_law_444 : decode cL_law 444 = .ok (.invokevirtual 128, 3) := by decide +kernel
theorem dL_law_447 : decode cL_law 447 = .ok (.iload_n 2, 1) := by decide +kernel
theorem dL_law_448 : decode cL_law 448 = .ok (.iconst 1, 1) := by decide +kernel
theorem dL_law_449 : decode cL_law 449 = .ok (.iadd, 1) := by decide +kernel
theorem dL_law_450 : decode cL_law 450 = .ok (.if_icmp .eq 5, 3) := by decide +kernel
theorem dL_law_453 : decode cL_law 453 = .ok (.iconst 0, 1) := by decide +kernel
theorem dL_law_454 : decode cL_law 454 = .ok (.ireturn, 1) := by decide +kernel
theorem dL_law_455 : decode cL_law 455 = .ok (.iinc 2 1, 3) := by decide +kernel
theorem dL_law_458 : decode cL_law 458 = .ok (.goto (-23), 3) := by decide +kernel
theorem dL_law_461 : decode cL_law 461 = .ok (.aload_n 1, 1) := by decide +kernel
theorem dL_law_462 : decode cL_law 462 = .ok (.iconst 0, 1) := by decide +kernel
theorem dL_law_463 : decode cL_law 463 = .ok (.bipush 9, 2) := by decide +kernel
theorem dL_law_465 : decode cL_law 465 = .ok (.invokevirtual 128, 3) := by decide +kernel
theorem dL_law_468 : decode cL_law 468 = .ok (.bipush (-3), 2) := by decide +kernel
theorem dL_law_470 : decode cL_law 470 = .ok (.if_icmp .ne 120, 3) := by decide +kernel
theorem dL_law_473 : decode cL_law 473 = .ok (.aload_n 1, 1) := by decide +kernel
theorem dL_law_474 : decode cL_law 474 = .ok (.iconst 2, 1) := by decide +kernel
theorem dL_law_475 : decode cL_law 475 = .ok (.newarray .int, 2) := by decide +kernel
theorem dL_law_477 : decode cL_law 477 = .ok (.dup, 1) := by decide +kernel
theorem dL_law_478 : decode cL_law 478 = .ok (.iconst 0, 1) := by decide +kernel
theorem dL_law_479 : decode cL_law 479 = .ok (.bipush 7, 2) := by decide +kernel
theorem dL_law_481 : decode cL_law 481 = .ok (.iastore, 1) := by decide +kernel
theorem dL_law_482 : decode cL_law 482 = .ok (.dup, 1) := by decide +kernel
theorem dL_law_483 : decode cL_law 483 = .ok (.iconst 1, 1) := by decide +kernel
theorem dL_law_484 : decode cL_law 484 = .ok (.bipush 9, 2) := by decide +kernel
theorem dL_law_486 : decode cL_law 486 = .ok (.iastore, 1) := by decide +kernel
theorem dL_law_487 : decode cL_law 487 = .ok (.invokestatic 186, 3) := by decide +kernel
theorem dL_law_490 : decode cL_law 490 = .ok (.ifCond .eq 100, 3) := by decide +kernel
theorem dL_law_493 : decode cL_law 493 = .ok (.aload_n 1, 1) := by decide +kernel
theorem dL_law_494 : decode cL_law 494 = .ok (.bipush 9, 2) := by decide +kernel
theorem dL_law_496 : decode cL_law 496 = .ok (.iconst 2, 1) := by decide +kernel
theorem dL_law_497 : decode cL_law 497 = .ok (.invokevirtual 134, 3) := by decide +kernel
theorem dL_law_500 : decode cL_law 500 = .ok (.ifCond .ne 90, 3) := by decide +kernel
theorem dL_law_503 : decode cL_law 503 = .ok (.aload_n 1, 1) := by decide +kernel
theorem dL_law_504 : decode cL_law 504 = .ok (.iconst 0, 1) := by decide +kernel
theorem dL_law_505 : decode cL_law 505 = .ok (.iconst 1, 1) := by decide +kernel
theorem dL_law_506 : decode cL_law 506 = .ok (.invokevirtual 134, 3) := by decide +kernel
theorem dL_law_509 : decode cL_law 509 = .ok (.bipush (-3), 2) := by decide +kernel
theorem dL_law_511 : decode cL_law 511 = .ok (.if_icmp .ne 79, 3) := by decide +kernel
theorem dL_law_514 : decode cL_law 514 = .ok (.aload_n 1, 1) := by decide +kernel
theorem dL_law_515 : decode cL_law 515 = .ok (.iconst 2, 1) := by decide +kernel
theorem dL_law_516 : decode cL_law 516 = .ok (.newarray .int, 2) := by decide +kernel
theorem dL_law_518 : decode cL_law 518 = .ok (.dup, 1) := by decide +kernel
theorem dL_law_519 : decode cL_law 519 = .ok (.iconst 0, 1) := by decide +kernel
theorem dL_law_520 : decode cL_law 520 = .ok (.bipush 8, 2) := by decide +kernel
theorem dL_law_522 : decode cL_law 522 = .ok (.iastore, 1) := by decide +kernel
theorem dL_law_523 : decode cL_law 523 = .ok (.dup, 1) := by decide +kernel
theorem dL_law_524 : decode cL_law 524 = .ok (.iconst 1, 1) := by decide +kernel
theorem dL_law_525 : decode cL_law 525 = .ok (.iconst 0, 1) := by decide +kernel
theorem dL_law_526 : decode cL_law 526 = .ok (.iastore, 1) := by decide +kernel
theorem dL_law_527 : decode cL_law 527 = .ok (.invokestatic 186, 3) := by decide +kernel
theorem dL_law_530 : decode cL_law 530 = .ok (.ifCond .eq 60, 3) := by decide +kernel
theorem dL_law_533 : decode cL_law 533 = .ok (.aload_n 1, 1) := by decide +kernel
theorem dL_law_534 : decode cL_law 534 = .ok (.iconst 1, 1) := by decide +kernel
theorem dL_law_535 : decode cL_law 535 = .ok (.iconst 2, 1) := by decide +kernel
theorem dL_law_536 : decode cL_law 536 = .ok (.invokevirtual 106, 3) := by decide +kernel
theorem dL_law_539 : decode cL_law 539 = .ok (.iconst 1, 1) := by decide +kernel
theorem dL_law_540 : decode cL_law 540 = .ok (.if_icmp .ne 50, 3) := by decide +kernel
theorem dL_law_543 : decode cL_law 543 = .ok (.aload_n 1, 1) := by decide +kernel
theorem dL_law_544 : decode cL_law 544 = .ok (.iconst 2, 1) := by decide +kernel
theorem dL_law_545 : decode cL_law 545 = .ok (.iconst 2, 1) := by decide +kernel
theorem dL_law_546 : decode cL_law 546 = .ok (.invokevirtual 106, 3) := by decide +kernel
theorem dL_law_549 : decode cL_law 549 = .ok (.ifCond .ne 41, 3) := by decide +kernel
theorem dL_law_552 : decode cL_law 552 = .ok (.aload_n 1, 1) := by decide +kernel
theorem dL_law_553 : decode cL_law 553 = .ok (.iconst 1, 1) := by decide +kernel
theorem dL_law_554 : decode cL_law 554 = .ok (.invokevirtual 143, 3) := by decide +kernel
theorem dL_law_557 : decode cL_law 557 = .ok (.ifCond .ne 33, 3) := by decide +kernel
theorem dL_law_560 : decode cL_law 560 = .ok (.aload_n 1, 1) := by decide +kernel
theorem dL_law_561 : decode cL_law 561 = .ok (.bipush 9, 2) := by decide +kernel
theorem dL_law_563 : decode cL_law 563 = .ok (.iconst 3, 1) := by decide +kernel
theorem dL_law_564 : decode cL_law 564 = .ok (.invokevirtual 91, 3) := by decide +kernel
theorem dL_law_567 : decode cL_law 567 = .ok (.bipush 32, 2) := by decide +kernel
theorem dL_law_569 : decode cL_law 569 = .ok (.if_icmp .ne 21, 3) := by decide +kernel
theorem dL_law_572 : decode cL_law 572 = .ok (.aload_n 1, 1) := by decide +kernel
theorem dL_law_573 : decode cL_law 573 = .ok (.iconst 2, 1) := by decide +kernel
theorem dL_law_574 : decode cL_law 574 = .ok (.iconst 3, 1) := by decide +kernel
theorem dL_law_575 : decode cL_law 575 = .ok (.invokevirtual 106, 3) := by decide +kernel
theorem dL_law_578 : decode cL_law 578 = .ok (.ifCond .ne 12, 3) := by decide +kernel
theorem dL_law_581 : decode cL_law 581 = .ok (.aload_n 1, 1) := by decide +kernel
theorem dL_law_582 : decode cL_law 582 = .ok (.ldc 200, 2) := by decide +kernel
theorem dL_law_584 : decode cL_law 584 = .ok (.invokestatic 202, 3) := by decide +kernel
theorem dL_law_587 : decode cL_law 587 = .ok (.ifCond .ne 5, 3) := by decide +kernel
theorem dL_law_590 : decode cL_law 590 = .ok (.iconst 0, 1) := by decide +kernel
theorem dL_law_591 : decode cL_law 591 = .ok (.ireturn, 1) := by decide +kernel
theorem dL_law_592 : decode cL_law 592 = .ok (.aload_n 1, 1) := by decide +kernel
theorem dL_law_593 : decode cL_law 593 = .ok (.bipush 10, 2) := by decide +kernel
theorem dL_law_595 : decode cL_law 595 = .ok (.invokevirtual 143, 3) := by decide +kernel
theorem dL_law_598 : decode cL_law 598 = .ok (.ifCond .ne 163, 3) := by decide +kernel
theorem dL_law_601 : decode cL_law 601 = .ok (.aload_n 1, 1) := by decide +kernel
theorem dL_law_602 : decode cL_law 602 = .ok (.iconst 1, 1) := by decide +kernel
theorem dL_law_603 : decode cL_law 603 = .ok (.bipush 9, 2) := by decide +kernel
theorem dL_law_605 : decode cL_law 605 = .ok (.invokevirtual 140, 3) := by decide +kernel
theorem dL_law_608 : decode cL_law 608 = .ok (.ifCond .ne 153, 3) := by decide +kernel
theorem dL_law_611 : decode cL_law 611 = .ok (.aload_n 1, 1) := by decide +kernel
theorem dL_law_612 : decode cL_law 612 = .ok (.iconst 1, 1) := by decide +kernel
theorem dL_law_613 : decode cL_law 613 = .ok (.invokevirtual 143, 3) := by decide +kernel
theorem dL_law_616 : decode cL_law 616 = .ok (.ifCond .ne 145, 3) := by decide +kernel
theorem dL_law_619 : decode cL_law 619 = .ok (.aload_n 1, 1) := by decide +kernel
theorem dL_law_620 : decode cL_law 620 = .ok (.iconst 1, 1) := by decide +kernel
theorem dL_law_621 : decode cL_law 621 = .ok (.bipush 9, 2) := by decide +kernel
theorem dL_law_623 : decode cL_law 623 = .ok (.invokevirtual 140, 3) := by decide +kernel
theorem dL_law_626 : decode cL_law 626 = .ok (.iconst 1, 1) := by decide +kernel
theorem dL_law_627 : decode cL_law 627 = .ok (.if_icmp .ne 134, 3) := by decide +kernel
theorem dL_law_630 : decode cL_law 630 = .ok (.aload_n 1, 1) := by decide +kernel
theorem dL_law_631 : decode cL_law 631 = .ok (.bipush 8, 2) := by decide +kernel
theorem dL_law_633 : decode cL_law 633 = .ok (.invokevirtual 85, 3) := by decide +kernel
theorem dL_law_636 : decode cL_law 636 = .ok (.ifCond .ne 125, 3) := by decide +kernel
theorem dL_law_639 : decode cL_law 639 = .ok (.aload_n 1, 1) := by decide +kernel
theorem dL_law_640 : decode cL_law 640 = .ok (.bipush 13, 2) := by decide +kernel
theorem dL_law_642 : decode cL_law 642 = .ok (.invokevirtual 85, 3) := by decide +kernel
theorem dL_law_645 : decode cL_law 645 = .ok (.bipush 9, 2) := by decide +kernel
theorem dL_law_647 : decode cL_law 647 = .ok (.if_icmp .ne 114, 3) := by decide +kernel
theorem dL_law_650 : decode cL_law 650 = .ok (.aload_n 1, 1) := by decide +kernel
theorem dL_law_651 : decode cL_law 651 = .ok (.iconst 0, 1) := by decide +kernel
theorem dL_law_652 : decode cL_law 652 = .ok (.bipush 9, 2) := by decide +kernel
theorem dL_law_654 : decode cL_law 654 = .ok (.invokevirtual 140, 3) := by decide +kernel
theorem dL_law_657 : decode cL_law 657 = .ok (.iconst 1, 1) := by decide +kernel
theorem dL_law_658 : decode cL_law 658 = .ok (.if_icmp .ne 103, 3) := by decide +kernel
theorem dL_law_661 : decode cL_law 661 = .ok (.aload_n 1, 1) := by decide +kernel
theorem dL_law_662 : decode cL_law 662 = .ok (.bipush 13, 2) := by decide +kernel
theorem dL_law_664 : decode cL_law 664 = .ok (.invokevirtual 85, 3) := by decide +kernel
theorem dL_law_667 : decode cL_law 667 = .ok (.bipush 18, 2) := by decide +kernel
theorem dL_law_669 : decode cL_law 669 = .ok (.if_icmp .ne 92, 3) := by decide +kernel
theorem dL_law_672 : decode cL_law 672 = .ok (.aload_n 1, 1) := by decide +kernel
theorem dL_law_673 : decode cL_law 673 = .ok (.iconst 0, 1) := by decide +kernel
theorem dL_law_674 : decode cL_law 674 = .ok (.iconst 1, 1) := by decide +kernel
theorem dL_law_675 : decode cL_law 675 = .ok (.invokevirtual 109, 3) := by decide +kernel
theorem dL_law_678 : decode cL_law 678 = .ok (.ifCond .ne 83, 3) := by decide +kernel
theorem dL_law_681 : decode cL_law 681 = .ok (.aload_n 1, 1) := by decide +kernel
theorem dL_law_682 : decode cL_law 682 = .ok (.iconst 1, 1) := by decide +kernel
theorem dL_law_683 : decode cL_law 683 = .ok (.iconst 1, 1) := by decide +kernel
theorem dL_law_684 : decode cL_law 684 = .ok (.invokevirtual 109, 3) := by decide +kernel
theorem dL_law_687 : decode cL_law 687 = .ok (.iconst 1, 1) := by decide +kernel
theorem dL_law_688 : decode cL_law 688 = .ok (.if_icmp .ne 73, 3) := by decide +kernel
theorem dL_law_691 : decode cL_law 691 = .ok (.aload_n 1, 1) := by decide +kernel
theorem dL_law_692 : decode cL_law 692 = .ok (.iconst 0, 1) := by decide +kernel
theorem dL_law_693 : decode cL_law 693 = .ok (.bipush 9, 2) := by decide +kernel
theorem dL_law_695 : decode cL_law 695 = .ok (.invokevirtual 128, 3) := by decide +kernel
theorem dL_law_698 : decode cL_law 698 = .ok (.bipush (-3), 2) := by decide +kernel
theorem dL_law_700 : decode cL_law 700 = .ok (.if_icmp .ne 61, 3) := by decide +kernel
theorem dL_law_703 : decode cL_law 703 = .ok (.aload_n 1, 1) := by decide +kernel
theorem dL_law_704 : decode cL_law 704 = .ok (.iconst 4, 1) := by decide +kernel
theorem dL_law_705 : decode cL_law 705 = .ok (.newarray .int, 2) := by decide +kernel
theorem dL_law_707 : decode cL_law 707 = .ok (.dup, 1) := by decide +kernel
theorem dL_law_708 : decode cL_law 708 = .ok (.iconst 0, 1) := by decide +kernel
theorem dL_law_709 : decode cL_law 709 = .ok (.bipush 6, 2) := by decide +kernel
theorem dL_law_711 : decode cL_law 711 = .ok (.iastore, 1) := by decide +kernel
theorem dL_law_712 : decode cL_law 712 = .ok (.dup, 1) := by decide +kernel
theorem dL_law_713 : decode cL_law 713 = .ok (.iconst 1, 1) := by decide +kernel
theorem dL_law_714 : decode cL_law 714 = .ok (.bipush 9, 2) := by decide +kernel
theorem dL_law_716 : decode cL_law 716 = .ok (.iastore, 1) := by decide +kernel
theorem dL_law_717 : decode cL_law 717 = .ok (.dup, 1) := by decide +kernel
theorem dL_law_718 : decode cL_law 718 = .ok (.iconst 2, 1) := by decide +kernel
theorem dL_law_719 : decode cL_law 719 = .ok (.bipush 13, 2) := by decide +kernel
theorem dL_law_721 : decode cL_law 721 = .ok (.iastore, 1) := by decide +kernel
theorem dL_law_722 : decode cL_law 722 = .ok (.dup, 1) := by decide +kernel
theorem dL_law_723 : decode cL_law 723 = .ok (.iconst 3, 1) := by decide +kernel
theorem dL_law_724 : decode cL_law 724 = .ok (.iconst 1, 1) := by decide +kernel
theorem dL_law_725 : decode cL_law 725 = .ok (.iastore, 1) := by decide +kernel
theorem dL_law_726 : decode cL_law 726 = .ok (.invokestatic 186, 3) := by decide +kernel
theorem dL_law_729 : decode cL_law 729 = .ok (.ifCond .eq 32, 3) := by decide +kernel
theorem dL_law_732 : decode cL_law 732 = .ok (.aload_n 1, 1) := by decide +kernel
theorem dL_law_733 : decode cL_law 733 = .ok (.iconst 0, 1) := by decide +kernel
theorem dL_law_734 : decode cL_law 734 = .ok (.invokevirtual 131, 3) := by decide +kernel
theorem dL_law_737 : decode cL_law 737 = .ok (.bipush (-3), 2) := by decide +kernel
theorem dL_law_739 : decode cL_law 739 = .ok (.if_icmp .ne 22, 3) := by decide +kernel
theorem dL_law_742 : decode cL_law 742 = .ok (.aload_n 1, 1) := by decide +kernel
theorem dL_law_743 : decode cL_law 743 = .ok (.iconst 2, 1) := by decide +kernel
theorem dL_law_744 : decode cL_law 744 = .ok (.newarray .int, 2) := by decide +kernel
theorem dL_law_746 : decode cL_law 746 = .ok (.dup, 1) := by decide +kernel
theorem dL_law_747 : decode cL_law 747 = .ok (.iconst 0, 1) := by decide +kernel
theorem dL_law_748 : decode cL_law 748 = .ok (.bipush 11, 2) := by decide +kernel
theorem dL_law_750 : decode cL_law 750 = .ok (.iastore, 1) := by decide +kernel
theorem dL_law_751 : decode cL_law 751 = .ok (.dup, 1) := by decide +kernel
theorem dL_law_752 : decode cL_law 752 = .ok (.iconst 1, 1) := by decide +kernel
theorem dL_law_753 : decode cL_law 753 = .ok (.iconst 0, 1) := by decide +kernel
theorem dL_law_754 : decode cL_law 754 = .ok (.iastore, 1) := by decide +kernel
theorem dL_law_755 : decode cL_law 755 = .ok (.invokestatic 186, 3) := by decide +kernel
theorem dL_law_758 : decode cL_law 758 = .ok (.ifCond .ne 5, 3) := by decide +kernel
theorem dL_law_761 : decode cL_law 761 = .ok (.iconst 0, 1) := by decide +kernel
theorem dL_law_762 : decode cL_law 762 = .ok (.ireturn, 1) := by decide +kernel
theorem dL_law_763 : decode cL_law 763 = .ok (.aload_n 1, 1) := by decide +kernel
theorem dL_law_764 : decode cL_law 764 = .ok (.bipush 10, 2) := by decide +kernel
theorem dL_law_766 : decode cL_law 766 = .ok (.invokevirtual 137, 3) := by decide +kernel
theorem dL_law_769 : decode cL_law 769 = .ok (.ifCond .ne 100, 3) := by decide +kernel
theorem dL_law_772 : decode cL_law 772 = .ok (.aload_n 1, 1) := by decide +kernel
theorem dL_law_773 : decode cL_law 773 = .ok (.bipush 10, 2) := by decide +kernel
theorem dL_law_775 : decode cL_law 775 = .ok (.invokevirtual 112, 3) := by decide +kernel
theorem dL_law_778 : decode cL_law 778 = .ok (.bipush (-4), 2) := by decide +kernel
theorem dL_law_780 : decode cL_law 780 = .ok (.if_icmp .ne 89, 3) := by decide +kernel
theorem dL_law_783 : decode cL_law 783 = .ok (.aload_n 1, 1) := by decide +kernel
theorem dL_law_784 : decode cL_law 784 = .ok (.bipush 30, 2) := by decide +kernel
theorem dL_law_786 : decode cL_law 786 = .ok (.invokevirtual 143, 3) := by decide +kernel
theorem dL_law_789 : decode cL_law 789 = .ok (.bipush 10, 2) := by decide +kernel
theorem dL_law_791 : decode cL_law 791 = .ok (.if_icmp .ne 78, 3) := by decide +kernel
theorem dL_law_794 : decode cL_law 794 = .ok (.aload_n 1, 1) := by decide +kernel
theorem dL_law_795 : decode cL_law 795 = .ok (.iconst 4, 1) := by decide +kernel
theorem dL_law_796 : decode cL_law 796 = .ok (.invokevirtual 85, 3) := by decide +kernel
theorem dL_law_799 : decode cL_law 799 = .ok (.ifCond .ne 70, 3) := by decide +kernel
theorem dL_law_802 : decode cL_law 802 = .ok (.aload_n 1, 1) := by decide +kernel
theorem dL_law_803 : decode cL_law 803 = .ok (.bipush 15, 2) := by decide +kernel
theorem dL_law_805 : decode cL_law 805 = .ok (.invokevirtual 85, 3) := by decide +kernel
theorem dL_law_808 : decode cL_law 808 = .ok (.bipush 10, 2) := by decide +kernel
theorem dL_law_810 : decode cL_law 810 = .ok (.if_icmp .ne 59, 3) := by decide +kernel
theorem dL_law_813 : decode cL_law 813 = .ok (.aload_n 1, 1) := by decide +kernel
theorem dL_law_814 : decode cL_law 814 = .ok (.bipush 16, 2) := by decide +kernel
theorem dL_law_816 : decode cL_law 816 = .ok (.invokevirtual 85, 3) := by decide +kernel
theorem dL_law_819 : decode cL_law 819 = .ok (.bipush 80, 2) := by decide +kernel
theorem dL_law_821 : decode cL_law 821 = .ok (.if_icmp .ne 48, 3) := by decide +kernel
theorem dL_law_824 : decode cL_law 824 = .ok (.aload_n 1, 1) := by decide +kernel
theorem dL_law_825 : decode cL_law 825 = .ok (.iconst 1, 1) := by decide +kernel
theorem dL_law_826 : decode cL_law 826 = .ok (.invokevirtual 121, 3) := by decide +kernel
theorem dL_law_829 : decode cL_law 829 = .ok (.ifCond .ne 40, 3) := by decide +kernel
theorem dL_law_832 : decode cL_law 832 = .ok (.aload_n 1, 1) := by decide +kernel
theorem dL_law_833 : decode cL_law 833 = .ok (.iconst 0, 1) := by decide +kernel
theorem dL_law_834 : decode cL_law 834 = .ok (.invokevirtual 121, 3) := by decide +kernel
theorem dL_law_837 : decode cL_law 837 = .ok (.ifCond .ne 32, 3) := by decide +kernel
theorem dL_law_840 : decode cL_law 840 = .ok (.aload_n 1, 1) := by decide +kernel
theorem dL_law_841 : decode cL_law 841 = .ok (.invokevirtual 65, 3) := by decide +kernel
theorem dL_law_844 : decode cL_law 844 = .ok (.ldc2_w 206, 3) := by decide +kernel
theorem dL_law_847 : decode cL_law 847 = .ok (.dcmp .l, 1) := by decide +kernel
theorem dL_law_848 : decode cL_law 848 = .ok (.ifCond .ne 21, 3) := by decide +kernel
theorem dL_law_851 : decode cL_law 851 = .ok (.aload_n 1, 1) := by decide +kernel
theorem dL_law_852 : decode cL_law 852 = .ok (.invokevirtual 115, 3) := by decide +kernel
theorem dL_law_855 : decode cL_law 855 = .ok (.bipush (-4), 2) := by decide +kernel
theorem dL_law_857 : decode cL_law 857 = .ok (.if_icmp .ne 12, 3) := by decide +kernel
theorem dL_law_860 : decode cL_law 860 = .ok (.aload_n 1, 1) := by decide +kernel
theorem dL_law_861 : decode cL_law 861 = .ok (.ldc 208, 2) := by decide +kernel
theorem dL_law_863 : decode cL_law 863 = .ok (.invokestatic 202, 3) := by decide +kernel
theorem dL_law_866 : decode cL_law 866 = .ok (.ifCond .ne 5, 3) := by decide +kernel
theorem dL_law_869 : decode cL_law 869 = .ok (.iconst 0, 1) := by decide +kernel
theorem dL_law_870 : decode cL_law 870 = .ok (.ireturn, 1) := by decide +kernel
theorem dL_law_871 : decode cL_law 871 = .ok (.aload_n 1, 1) := by decide +kernel
theorem dL_law_872 : decode cL_law 872 = .ok (.invokevirtual 210, 3) := by decide +kernel
theorem dL_law_875 : decode cL_law 875 = .ok (.bipush 72, 2) := by decide +kernel
theorem dL_law_877 : decode cL_law 877 = .ok (.if_icmp .ne 63, 3) := by decide +kernel
theorem dL_law_880 : decode cL_law 880 = .ok (.aload_n 1, 1) := by decide +kernel
theorem dL_law_881 : decode cL_law 881 = .ok (.iconst 0, 1) := by decide +kernel
theorem dL_law_882 : decode cL_law 882 = .ok (.invokevirtual 85, 3) := by decide +kernel
theorem dL_law_885 : decode cL_law 885 = .ok (.ifCond .ne 55, 3) := by decide +kernel
theorem dL_law_888 : decode cL_law 888 = .ok (.aload_n 1, 1) := by decide +kernel
theorem dL_law_889 : decode cL_law 889 = .ok (.bipush 9, 2) := by decide +kernel
theorem dL_law_891 : decode cL_law 891 = .ok (.invokevirtual 85, 3) := by decide +kernel
theorem dL_law_894 : decode cL_law 894 = .ok (.bipush 60, 2) := by decide +kernel
theorem dL_law_896 : decode cL_law 896 = .ok (.if_icmp .ne 44, 3) := by decide +kernel
theorem dL_law_899 : decode cL_law 899 = .ok (.aload_n 1, 1) := by decide +kernel
theorem dL_law_900 : decode cL_law 900 = .ok (.iconst 1, 1) := by decide +kernel
theorem dL_law_901 : decode cL_law 901 = .ok (.invokevirtual 85, 3) := by decide +kernel
theorem dL_law_904 : decode cL_law 904 = .ok (.ifCond .ne 36, 3) := by decide +kernel
theorem dL_law_907 : decode cL_law 907 = .ok (.aload_n 1, 1) := by decide +kernel
theorem dL_law_908 : decode cL_law 908 = .ok (.invokevirtual 191, 3) := by decide +kernel
theorem dL_law_911 : decode cL_law 911 = .ok (.bipush (-4), 2) := by decide +kernel
theorem dL_law_913 : decode cL_law 913 = .ok (.if_icmp .ne 27, 3) := by decide +kernel
theorem dL_law_916 : decode cL_law 916 = .ok (.aload_n 1, 1) := by decide +kernel
theorem dL_law_917 : decode cL_law 917 = .ok (.invokevirtual 194, 3) := by decide +kernel
theorem dL_law_920 : decode cL_law 920 = .ok (.ifCond .ne 20, 3) := by decide +kernel
theorem dL_law_923 : decode cL_law 923 = .ok (.aload_n 1, 1) := by decide +kernel
theorem dL_law_924 : decode cL_law 924 = .ok (.iconst 4, 1) := by decide +kernel
theorem dL_law_925 : decode cL_law 925 = .ok (.invokevirtual 85, 3) := by decide +kernel
theorem dL_law_928 : decode cL_law 928 = .ok (.ifCond .ne 12, 3) := by decide +kernel
theorem dL_law_931 : decode cL_law 931 = .ok (.aload_n 1, 1) := by decide +kernel
theorem dL_law_932 : decode cL_law 932 = .ok (.invokevirtual 191, 3) := by decide +kernel
theorem dL_law_935 : decode cL_law 935 = .ok (.bipush (-4), 2) := by decide +kernel
theorem dL_law_937 : decode cL_law 937 = .ok (.if_icmp .eq 5, 3) := by decide +kernel
theorem dL_law_940 : decode cL_law 940 = .ok (.iconst 0, 1) := by decide +kernel
theorem dL_law_941 : decode cL_law 941 = .ok (.ireturn, 1) := by decide +kernel
theorem dL_law_942 : decode cL_law 942 = .ok (.new 18, 3) := by decide +kernel
theorem dL_law_945 : decode cL_law 945 = .ok (.dup, 1) := by decide +kernel
theorem dL_law_946 : decode cL_law 946 = .ok (.invokespecial 190, 3) := by decide +kernel
theorem dL_law_949 : decode cL_law 949 = .ok (.astore_n 2, 1) := by decide +kernel
theorem dL_law_950 : decode cL_law 950 = .ok (.aload_n 2, 1) := by decide +kernel
theorem dL_law_951 : decode cL_law 951 = .ok (.aload_n 0, 1) := by decide +kernel
theorem dL_law_952 : decode cL_law 952 = .ok (.invokestatic 213, 3) := by decide +kernel
theorem dL_law_955 : decode cL_law 955 = .ok (.ifCond .ne 5, 3) := by decide +kernel
theorem dL_law_958 : decode cL_law 958 = .ok (.iconst 0, 1) := by decide +kernel
theorem dL_law_959 : decode cL_law 959 = .ok (.ireturn, 1) := by decide +kernel
theorem dL_law_960 : decode cL_law 960 = .ok (.iconst 0, 1) := by decide +kernel
theorem dL_law_961 : decode cL_law 961 = .ok (.istore_n 3, 1) := by decide +kernel
theorem dL_law_962 : decode cL_law 962 = .ok (.iload_n 3, 1) := by decide +kernel
theorem dL_law_963 : decode cL_law 963 = .ok (.iconst 4, 1) := by decide +kernel
theorem dL_law_964 : decode cL_law 964 = .ok (.if_icmp .ge 86, 3) := by decide +kernel
theorem dL_law_967 : decode cL_law 967 = .ok (.aload_n 2, 1) := by decide +kernel
theorem dL_law_968 : decode cL_law 968 = .ok (.aload_n 0, 1) := by decide +kernel
theorem dL_law_969 : decode cL_law 969 = .ok (.bipush 24, 2) := by decide +kernel
theorem dL_law_971 : decode cL_law 971 = .ok (.iload_n 3, 1) := by decide +kernel
theorem dL_law_972 : decode cL_law 972 = .ok (.iadd, 1) := by decide +kernel
theorem dL_law_973 : decode cL_law 973 = .ok (.invokestatic 37, 3) := by decide +kernel
theorem dL_law_976 : decode cL_law 976 = .ok (.iconst 2, 1) := by decide +kernel
theorem dL_law_977 : decode cL_law 977 = .ok (.invokestatic 43, 3) := by decide +kernel
theorem dL_law_980 : decode cL_law 980 = .ok (.iconst 1, 1) := by decide +kernel
theorem dL_law_981 : decode cL_law 981 = .ok (.aload_n 0, 1) := by decide +kernel
theorem dL_law_982 : decode cL_law 982 = .ok (.bipush 24, 2) := by decide +kernel
theorem dL_law_984 : decode cL_law 984 = .ok (.iload_n 3, 1) := by decide +kernel
theorem dL_law_985 : decode cL_law 985 = .ok (.iadd, 1) := by decide +kernel
theorem dL_law_986 : decode cL_law 986 = .ok (.invokestatic 37, 3) := by decide +kernel
theorem dL_law_989 : decode cL_law 989 = .ok (.iconst 3, 1) := by decide +kernel
theorem dL_law_990 : decode cL_law 990 = .ok (.ishr, 1) := by decide +kernel
theorem dL_law_991 : decode cL_law 991 = .ok (.iconst 4, 1) := by decide +kernel
theorem dL_law_992 : decode cL_law 992 = .ok (.invokestatic 43, 3) := by decide +kernel
theorem dL_law_995 : decode cL_law 995 = .ok (.iadd, 1) := by decide +kernel
theorem dL_law_996 : decode cL_law 996 = .ok (.invokevirtual 134, 3) := by decide +kernel
theorem dL_law_999 : decode cL_law 999 = .ok (.istore 4, 2) := by decide +kernel
theorem dL_law_1001 : decode cL_law 1001 = .ok (.iload 4, 2) := by decide +kernel
theorem dL_law_1003 : decode cL_law 1003 = .ok (.ifCond .ge 12, 3) := by decide +kernel
theorem dL_law_1006 : decode cL_law 1006 = .ok (.iload 4, 2) := by decide +kernel
theorem dL_law_1008 : decode cL_law 1008 = .ok (.bipush (-3), 2) := by decide +kernel
theorem dL_law_1010 : decode cL_law 1010 = .ok (.if_icmp .eq 5, 3) := by decide +kernel
theorem dL_law_1013 : decode cL_law 1013 = .ok (.iconst 0, 1) := by decide +kernel
theorem dL_law_1014 : decode cL_law 1014 = .ok (.ireturn, 1) := by decide +kernel
theorem dL_law_1015 : decode cL_law 1015 = .ok (.aload_n 2, 1) := by decide +kernel
theorem dL_law_1016 : decode cL_law 1016 = .ok (.iload_n 3, 1) := by decide +kernel
theorem dL_law_1017 : decode cL_law 1017 = .ok (.aload_n 0, 1) := by decide +kernel
theorem dL_law_1018 : decode cL_law 1018 = .ok (.bipush 24, 2) := by decide +kernel
theorem dL_law_1020 : decode cL_law 1020 = .ok (.iload_n 3, 1) := by decide +kernel
theorem dL_law_1021 : decode cL_law 1021 = .ok (.iadd, 1) := by decide +kernel
theorem dL_law_1022 : decode cL_law 1022 = .ok (.invokestatic 37, 3) := by decide +kernel
theorem dL_law_1025 : decode cL_law 1025 = .ok (.bipush 6, 2) := by decide +kernel
theorem dL_law_1027 : decode cL_law 1027 = .ok (.ishr, 1) := by decide +kernel
theorem dL_law_1028 : decode cL_law 1028 = .ok (.iconst 2, 1) := by decide +kernel
theorem dL_law_1029 : decode cL_law 1029 = .ok (.invokestatic 43, 3) := by decide +kernel
theorem dL_law_1032 : decode cL_law 1032 = .ok (.invokevirtual 128, 3) := by decide +kernel
theorem dL_law_1035 : decode cL_law 1035 = .ok (.istore 4, 2) := by decide +kernel
theorem dL_law_1037 : decode cL_law 1037 = .ok (.iload 4, 2) := by decide +kernel
theorem dL_law_1039 : decode cL_law 1039 = .ok (.ifCond .ge 5, 3) := by decide +kernel
theorem dL_law_1042 : decode cL_law 1042 = .ok (.iconst 0, 1) := by decide +kernel
theorem dL_law_1043 : decode cL_law 1043 = .ok (.ireturn, 1) := by decide +kernel
theorem dL_law_1044 : decode cL_law 1044 = .ok (.iinc 3 1, 3) := by decide +kernel
theorem dL_law_1047 : decode cL_law 1047 = .ok (.goto (-85), 3) := by decide +kernel
theorem dL_law_1050 : decode cL_law 1050 = .ok (.aload_n 2, 1) := by decide +kernel
theorem dL_law_1051 : decode cL_law 1051 = .ok (.invokestatic 175, 3) := by decide +kernel
theorem dL_law_1054 : decode cL_law 1054 = .ok (.lstore_n 3, 1) := by decide +kernel
theorem dL_law_1055 : decode cL_law 1055 = .ok (.aload_n 2, 1) := by decide +kernel
theorem dL_law_1056 : decode cL_law 1056 = .ok (.invokestatic 175, 3) := by decide +kernel
theorem dL_law_1059 : decode cL_law 1059 = .ok (.lload_n 3, 1) := by decide +kernel
theorem dL_law_1060 : decode cL_law 1060 = .ok (.lcmp, 1) := by decide +kernel
theorem dL_law_1061 : decode cL_law 1061 = .ok (.ifCond .ne 10, 3) := by decide +kernel
theorem dL_law_1064 : decode cL_law 1064 = .ok (.aload_n 2, 1) := by decide +kernel
theorem dL_law_1065 : decode cL_law 1065 = .ok (.invokestatic 216, 3) := by decide +kernel
theorem dL_law_1068 : decode cL_law 1068 = .ok (.ifCond .ne 5, 3) := by decide +kernel
theorem dL_law_1071 : decode cL_law 1071 = .ok (.iconst 0, 1) := by decide +kernel
theorem dL_law_1072 : decode cL_law 1072 = .ok (.ireturn, 1) := by decide +kernel
theorem dL_law_1073 : decode cL_law 1073 = .ok (.aload_n 2, 1) := by decide +kernel
theorem dL_law_1074 : decode cL_law 1074 = .ok (.invokevirtual 197, 3) := by decide +kernel
theorem dL_law_1077 : decode cL_law 1077 = .ok (.istore 5, 2) := by decide +kernel
theorem dL_law_1079 : decode cL_law 1079 = .ok (.iload 5, 2) := by decide +kernel
theorem dL_law_1081 : decode cL_law 1081 = .ok (.aload_n 2, 1) := by decide +kernel
theorem dL_law_1082 : decode cL_law 1082 = .ok (.iconst 0, 1) := by decide +kernel
theorem dL_law_1083 : decode cL_law 1083 = .ok (.invokevirtual 85, 3) := by decide +kernel
theorem dL_law_1086 : decode cL_law 1086 = .ok (.if_icmp .ne 12, 3) := by decide +kernel
theorem dL_law_1089 : decode cL_law 1089 = .ok (.aload_n 2, 1) := by decide +kernel
theorem dL_law_1090 : decode cL_law 1090 = .ok (.invokestatic 175, 3) := by decide +kernel
theorem dL_law_1093 : decode cL_law 1093 = .ok (.lload_n 3, 1) := by decide +kernel
theorem dL_law_1094 : decode cL_law 1094 = .ok (.lcmp, 1) := by decide +kernel
theorem dL_law_1095 : decode cL_law 1095 = .ok (.ifCond .eq 5, 3) := by decide +kernel
theorem dL_law_1098 : decode cL_law 1098 = .ok (.iconst 0, 1) := by decide +kernel
theorem dL_law_1099 : decode cL_law 1099 = .ok (.ireturn, 1) := by decide +kernel
theorem dL_law_1100 : decode cL_law 1100 = .ok (.bipush 13, 2) := by decide +kernel
theorem dL_law_1102 : decode cL_law 1102 = .ok (.newarray .long, 2) := by decide +kernel
theorem dL_law_1104 : decode cL_law 1104 = .ok (.astore 6, 2) := by decide +kernel
theorem dL_law_1106 : decode cL_law 1106 = .ok (.iconst 0, 1) := by decide +kernel
theorem dL_law_1107 : decode cL_law 1107 = .ok (.istore 7, 2) := by decide +kernel
theorem dL_law_1109 : decode cL_law 1109 = .ok (.iconst 0, 1) := by decide +kernel
theorem dL_law_1110 : decode cL_law 1110 = .ok (.istore 8, 2) := by decide +kernel
theorem dL_law_1112 : decode cL_law 1112 = .ok (.iload 8, 2) := by decide +kernel
theorem dL_law_1114 : decode cL_law 1114 = .ok (.bipush 12, 2) := by decide +kernel
theorem dL_law_1116 : decode cL_law 1116 = .ok (.if_icmp .ge 63, 3) := by decide +kernel
theorem dL_law_1119 : decode cL_law 1119 = .ok (.aload_n 2, 1) := by decide +kernel
theorem dL_law_1120 : decode cL_law 1120 = .ok (.invokestatic 175, 3) := by decide +kernel
theorem dL_law_1123 : decode cL_law 1123 = .ok (.lstore 9, 2) := by decide +kernel
theorem dL_law_1125 : decode cL_law 1125 = .ok (.aload_n 2, 1) := by decide +kernel
theorem dL_law_1126 : decode cL_law 1126 = .ok (.aload_n 0, 1) := by decide +kernel
theorem dL_law_1127 : decode cL_law 1127 = .ok (.bipush 20, 2) := by decide +kernel
theorem dL_law_1129 : decode cL_law 1129 = .ok (.iload 8, 2) := by decide +kernel
theorem dL_law_1131 : decode cL_law 1131 = .ok (.iadd, 1) := by decide +kernel
theorem dL_law_1132 : decode cL_law 1132 = .ok (.invokestatic 37, 3) := by decide +kernel
theorem dL_law_1135 : decode cL_law 1135 = .ok (.iload 8, 2) := by decide +kernel
theorem dL_law_1137 : decode cL_law 1137 = .ok (.sipush 977, 3) := by decide +kernel
theorem dL_law_1140 : decode cL_law 1140 = .ok (.imul, 1) := by decide +kernel
theorem dL_law_1141 : decode cL_law 1141 = .ok (.ixor, 1) := by decide +kernel
theorem dL_law_1142 : decode cL_law 1142 = .ok (.invokestatic 220, 3) := by decide +kernel
theorem dL_law_1145 : decode cL_law 1145 = .ok (.ifCond .eq 16, 3) := by decide +kernel
theorem dL_law_1148 : decode cL_law 1148 = .ok (.aload 6, 2) := by decide +kernel
theorem dL_law_1150 : decode cL_law 1150 = .ok (.iload 7, 2) := by decide +kernel
theorem dL_law_1152 : decode cL_law 1152 = .ok (.iinc 7 1, 3) := by decide +kernel
theorem dL_law_1155 : decode cL_law 1155 = .ok (.lload 9, 2) := by decide +kernel
theorem dL_law_1157 : decode cL_law 1157 = .ok (.lastore, 1) := by decide +kernel
theorem dL_law_1158 : decode cL_law 1158 = .ok (.goto 15, 3) := by decide +kernel
theorem dL_law_1161 : decode cL_law 1161 = .ok (.aload_n 2, 1) := by decide +kernel
theorem dL_law_1162 : decode cL_law 1162 = .ok (.invokestatic 175, 3) := by decide +kernel
theorem dL_law_1165 : decode cL_law 1165 = .ok (.lload 9, 2) := by decide +kernel
theorem dL_law_1167 : decode cL_law 1167 = .ok (.lcmp, 1) := by decide +kernel
theorem dL_law_1168 : decode cL_law 1168 = .ok (.ifCond .eq 5, 3) := by decide +kernel
theorem dL_law_1171 : decode cL_law 1171 = .ok (.iconst 0, 1) := by decide +kernel
theorem dL_law_1172 : decode cL_law 1172 = .ok (.ireturn, 1) := by decide +kernel
theorem dL_law_1173 : decode cL_law 1173 = .ok (.iinc 8 1, 3) := by decide +kernel
theorem dL_law_1176 : decode cL_law 1176 = .ok (.goto (-64), 3) := by decide +kernel
theorem dL_law_1179 : decode cL_law 1179 = .ok (.bipush 8, 2) := by decide +kernel
theorem dL_law_1181 : decode cL_law 1181 = .ok (.iload 7, 2) := by decide +kernel
theorem dL_law_1183 : decode cL_law 1183 = .ok (.invokestatic 224, 3) := by decide +kernel
theorem dL_law_1186 : decode cL_law 1186 = .ok (.istore 8, 2) := by decide +kernel
theorem dL_law_1188 : decode cL_law 1188 = .ok (.iconst 1, 1) := by decide +kernel
theorem dL_law_1189 : decode cL_law 1189 = .ok (.istore 9, 2) := by decide +kernel
theorem dL_law_1191 : decode cL_law 1191 = .ok (.iload 9, 2) := by decide +kernel
theorem dL_law_1193 : decode cL_law 1193 = .ok (.iload 8, 2) := by decide +kernel
theorem dL_law_1195 : decode cL_law 1195 = .ok (.if_icmp .gt 53, 3) := by decide +kernel
theorem dL_law_1198 : decode cL_law 1198 = .ok (.aload_n 2, 1) := by decide +kernel
theorem dL_law_1199 : decode cL_law 1199 = .ok (.invokevirtual 191, 3) := by decide +kernel
theorem dL_law_1202 : decode cL_law 1202 = .ok (.istore 10, 2) := by decide +kernel
theorem dL_law_1204 : decode cL_law 1204 = .ok (.iload 10, 2) := by decide +kernel
theorem dL_law_1206 : decode cL_law 1206 = .ok (.iload 8, 2) := by decide +kernel
theorem dL_law_1208 : decode cL_law 1208 = .ok (.iload 9, 2) := by decide +kernel
theorem dL_law_1210 : decode cL_law 1210 = .ok (.isub, 1) := by decide +kernel
theorem dL_law_1211 : decode cL_law 1211 = .ok (.if_icmp .lt 29, 3) := by decide +kernel
theorem dL_law_1214 : decode cL_law 1214 = .ok (.iload 10, 2) := by decide +kernel
theorem dL_law_1216 : decode cL_law 1216 = .ok (.bipush 8, 2) := by decide +kernel
theorem dL_law_1218 : decode cL_law 1218 = .ok (.iload 9, 2) := by decide +kernel
theorem dL_law_1220 : decode cL_law 1220 = .ok (.isub, 1) := by decide +kernel
theorem dL_law_1221 : decode cL_law 1221 = .ok (.if_icmp .gt 19, 3) := by decide +kernel
theorem dL_law_1224 : decode cL_law 1224 = .ok (.aload_n 2, 1) := by decide +kernel
theorem dL_law_1225 : decode cL_law 1225 = .ok (.invokestatic 175, 3) := by decide +kernel
theorem dL_law_1228 : decode cL_law 1228 = .ok (.aload 6, 2) := by decide +kernel
theorem dL_law_1230 : decode cL_law 1230 = .ok (.iload 7, 2) := by decide +kernel
theorem dL_law_1232 : decode cL_law 1232 = .ok (.iload 9, 2) := by decide +kernel
theorem dL_law_1234 : decode cL_law 1234 = .ok (.isub, 1) := by decide +kernel
theorem dL_law_1235 : decode cL_law 1235 = .ok (.laload, 1) := by decide +kernel
theorem dL_law_1236 : decode cL_law 1236 = .ok (.lcmp, 1) := by decide +kernel
theorem dL_law_1237 : decode cL_law 1237 = .ok (.ifCond .eq 5, 3) := by decide +kernel
theorem dL_law_1240 : decode cL_law 1240 = .ok (.iconst 0, 1) := by decide +kernel
theorem dL_law_1241 : decode cL_law 1241 = .ok (.ireturn, 1) := by decide +kernel
theorem dL_law_1242 : decode cL_law 1242 = .ok (.iinc 9 1, 3) := by decide +kernel
theorem dL_law_1245 : decode cL_law 1245 = .ok (.goto (-54), 3) := by decide +kernel
theorem dL_law_1248 : decode cL_law 1248 = .ok (.aload_n 2, 1) := by decide +kernel
theorem dL_law_1249 : decode cL_law 1249 = .ok (.invokevirtual 194, 3) := by decide +kernel
theorem dL_law_1252 : decode cL_law 1252 = .ok (.iload 5, 2) := by decide +kernel
theorem dL_law_1254 : decode cL_law 1254 = .ok (.if_icmp .ne 43, 3) := by decide +kernel
theorem dL_law_1257 : decode cL_law 1257 = .ok (.aload_n 2, 1) := by decide +kernel
theorem dL_law_1258 : decode cL_law 1258 = .ok (.invokevirtual 191, 3) := by decide +kernel
theorem dL_law_1261 : decode cL_law 1261 = .ok (.bipush (-4), 2) := by decide +kernel
theorem dL_law_1263 : decode cL_law 1263 = .ok (.if_icmp .ne 34, 3) := by decide +kernel
theorem dL_law_1266 : decode cL_law 1266 = .ok (.aload_n 2, 1) := by decide +kernel
theorem dL_law_1267 : decode cL_law 1267 = .ok (.invokestatic 175, 3) := by decide +kernel
theorem dL_law_1270 : decode cL_law 1270 = .ok (.lload_n 3, 1) := by decide +kernel
theorem dL_law_1271 : decode cL_law 1271 = .ok (.lcmp, 1) := by decide +kernel
theorem dL_law_1272 : decode cL_law 1272 = .ok (.ifCond .ne 25, 3) := by decide +kernel
theorem dL_law_1275 : decode cL_law 1275 = .ok (.aload_n 2, 1) := by decide +kernel
theorem dL_law_1276 : decode cL_law 1276 = .ok (.invokevirtual 194, 3) := by decide +kernel
theorem dL_law_1279 : decode cL_law 1279 = .ok (.iload 5, 2) := by decide +kernel
theorem dL_law_1281 : decode cL_law 1281 = .ok (.if_icmp .ne 16, 3) := by decide +kernel
theorem dL_law_1284 : decode cL_law 1284 = .ok (.aload_n 2, 1) := by decide +kernel
theorem dL_law_1285 : decode cL_law 1285 = .ok (.invokestatic 175, 3) := by decide +kernel
theorem dL_law_1288 : decode cL_law 1288 = .ok (.lload_n 3, 1) := by decide +kernel
theorem dL_law_1289 : decode cL_law 1289 = .ok (.lcmp, 1) := by decide +kernel
theorem dL_law_1290 : decode cL_law 1290 = .ok (.ifCond .ne 7, 3) := by decide +kernel
theorem dL_law_1293 : decode cL_law 1293 = .ok (.iconst 1, 1) := by decide +kernel
theorem dL_law_1294 : decode cL_law 1294 = .ok (.goto 4, 3) := by decide +kernel
theorem dL_law_1297 : decode cL_law 1297 = .ok (.iconst 0, 1) := by decide +kernel
theorem dL_law_1298 : decode cL_law 1298 = .ok (.ireturn, 1) := by decide +kernel
theorem dX0_init_0 : decode cX0_init 0 = .ok (.aload_n 0, 1) := by decide +kernel
theorem dX0_init_1 : decode cX0_init 1 = .ok (.invokespecial 3, 3) := by decide +kernel
theorem dX0_init_4 : decode cX0_init 4 = .ok (.aload_n 0, 1) := by decide +kernel
theorem dX0_init_5 : decode cX0_init 5 = .ok (.bipush 8, 2) := by decide +kernel
theorem dX0_init_7 : decode cX0_init 7 = .ok (.newarray .int, 2) := by decide +kernel
theorem dX0_init_9 : decode cX0_init 9 = .ok (.putfield 9, 3) := by decide +kernel
theorem dX0_init_12 : decode cX0_init 12 = .ok (.aload_n 0, 1) := by decide +kernel
theorem dX0_init_13 : decode cX0_init 13 = .ok (.bipush 8, 2) := by decide +kernel
theorem dX0_init_15 : decode cX0_init 15 = .ok (.newarray .int, 2) := by decide +kernel
theorem dX0_init_17 : decode cX0_init 17 = .ok (.putfield 15, 3) := by decide +kernel
theorem dX0_init_20 : decode cX0_init 20 = .ok (.aload_n 0, 1) := by decide +kernel
theorem dX0_init_21 : decode cX0_init 21 = .ok (.iconst 0, 1) := by decide +kernel
theorem dX0_init_22 : decode cX0_init 22 = .ok (.putfield 18, 3) := by decide +kernel
theorem dX0_init_25 : decode cX0_init 25 = .ok (.return_, 1) := by decide +kernel
theorem dX0_has_0 : decode cX0_has 0 = .ok (.iload_n 1, 1) := by decide +kernel
theorem dX0_has_1 : decode cX0_has 1 = .ok (.ifCond .lt 15, 3) := by decide +kernel
theorem dX0_has_4 : decode cX0_has 4 = .ok (.iload_n 1, 1) := by decide +kernel
theorem dX0_has_5 : decode cX0_has 5 = .ok (.aload_n 0, 1) := by decide +kernel
theorem dX0_has_6 : decode cX0_has 6 = .ok (.getfield 18, 3) := by decide +kernel
theorem dX0_has_9 : decode cX0_has 9 = .ok (.if_icmp .ge 7, 3) := by decide +kernel
theorem dX0_has_12 : decode cX0_has 12 = .ok (.iconst 1, 1) := by decide +kernel
theorem dX0_has_13 : decode cX0_has 13 = .ok (.goto 4, 3) := by decide +kernel
theorem dX0_has_16 : decode cX0_has 16 = .ok (.iconst 0, 1) := by decide +kernel
theorem dX0_has_17 : decode cX0_has 17 = .ok (.ireturn, 1) := by decide +kernel
theorem dX0_polesOf_0 : decode cX0_polesOf 0 = .ok (.aload_n 0, 1) := by decide +kernel
theorem dX0_polesOf_1 : decode cX0_polesOf 1 = .ok (.getfield 9, 3) := by decide +kernel
theorem dX0_polesOf_4 : decode cX0_polesOf 4 = .ok (.iload_n 1, 1) := by decide +kernel
theorem dX0_polesOf_5 : decode cX0_polesOf 5 = .ok (.invokestatic 22, 3) := by decide +kernel
theorem dX0_polesOf_8 : decode cX0_polesOf 8 = .ok (.ireturn, 1) := by decide +kernel
theorem dX0_weeksOf_0 : decode cX0_weeksOf 0 = .ok (.aload_n 0, 1) := by decide +kernel
theorem dX0_weeksOf_1 : decode cX0_weeksOf 1 = .ok (.getfield 15, 3) := by decide +kernel
theorem dX0_weeksOf_4 : decode cX0_weeksOf 4 = .ok (.iload_n 1, 1) := by decide +kernel
theorem dX0_weeksOf_5 : decode cX0_weeksOf 5 = .ok (.invokestatic 22, 3) := by decide +kernel
theorem dX0_weeksOf_8 : decode cX0_weeksOf 8 = .ok (.ireturn, 1) := by decide +kernel
theorem dX0_allPoles_0 : decode cX0_allPoles 0 = .ok (.aload_n 0, 1) := by decide +kernel
theorem dX0_allPoles_1 : decode cX0_allPoles 1 = .ok (.getfield 9, 3) := by decide +kernel
theorem dX0_allPoles_4 : decode cX0_allPoles 4 = .ok (.aload_n 0, 1) := by decide +kernel
theorem dX0_allPoles_5 : decode cX0_allPoles 5 = .ok (.getfield 18, 3) := by decide +kernel
theorem dX0_allPoles_8 : decode cX0_allPoles 8 = .ok (.invokestatic 26, 3) := by decide +kernel
theorem dX0_allPoles_11 : decode cX0_allPoles 11 = .ok (.ireturn, 1) := by decide +kernel
theorem dX0_add_0 : decode cX0_add 0 = .ok (.aload_n 0, 1) := by decide +kernel
theorem dX0_add_1 : decode cX0_add 1 = .ok (.getfield 9, 3) := by decide +kernel
theorem dX0_add_4 : decode cX0_add 4 = .ok (.aload_n 0, 1) := by decide +kernel
theorem dX0_add_5 : decode cX0_add 5 = .ok (.getfield 18, 3) := by decide +kernel
theorem dX0_add_8 : decode cX0_add 8 = .ok (.iload_n 1, 1) := by decide +kernel
theorem dX0_add_9 : decode cX0_add 9 = .ok (.invokestatic 29, 3) := by decide +kernel
theorem dX0_add_12 : decode cX0_add 12 = .ok (.aload_n 0, 1) := by decide +kernel
theorem dX0_add_13 : decode cX0_add 13 = .ok (.getfield 15, 3) := by decide +kernel
theorem dX0_add_16 : decode cX0_add 16 = .ok (.aload_n 0, 1) := by decide +kernel
theorem dX0_add_17 : decode cX0_add 17 = .ok (.getfield 18, 3) := by decide +kernel
theorem dX0_add_20 : decode cX0_add 20 = .ok (.iload_n 2, 1) := by decide +kernel
theorem dX0_add_21 : decode cX0_add 21 = .ok (.invokestatic 29, 3) := by decide +kernel
theorem dX0_add_24 : decode cX0_add 24 = .ok (.aload_n 0, 1) := by decide +kernel
theorem dX0_add_25 : decode cX0_add 25 = .ok (.dup, 1) := by decide +kernel
theorem dX0_add_26 : decode cX0_add 26 = .ok (.getfield 18, 3) := by decide +kernel
theorem dX0_add_29 : decode cX0_add 29 = .ok (.iconst 1, 1) := by decide +kernel
theorem dX0_add_30 : decode cX0_add 30 = .ok (.iadd, 1) := by decide +kernel
theorem dX0_add_31 : decode cX0_add 31 = .ok (.putfield 18, 3) := by decide +kernel
theorem dX0_add_34 : decode cX0_add 34 = .ok (.aload_n 0, 1) := by decide +kernel
theorem dX0_add_35 : decode cX0_add 35 = .ok (.getfield 18, 3) := by decide +kernel
theorem dX0_add_38 : decode cX0_add 38 = .ok (.iconst 1, 1) := by decide +kernel
theorem dX0_add_39 : decode cX0_add 39 = .ok (.isub, 1) := by decide +kernel
theorem dX0_add_40 : decode cX0_add 40 = .ok (.ireturn, 1) := by decide +kernel
theorem dX0_takeOut_0 : decode cX0_takeOut 0 = .ok (.aload_n 0, 1) := by decide +kernel
theorem dX0_takeOut_1 : decode cX0_takeOut 1 = .ok (.getfield 9, 3) := by decide +kernel
theorem dX0_takeOut_4 : decode cX0_takeOut 4 = .ok (.iload_n 1, 1) := by decide +kernel
theorem dX0_takeOut_5 : decode cX0_takeOut 5 = .ok (.aload_n 0, 1) := by decide +kernel
theorem dX0_takeOut_6 : decode cX0_takeOut 6 = .ok (.iload_n 1, 1) := by decide +kernel
theorem dX0_takeOut_7 : decode cX0_takeOut 7 = .ok (.invokevirtual 33, 3) := by decide +kernel
theorem dX0_takeOut_10 : decode cX0_takeOut 10 = .ok (.iload_n 2, 1) := by decide +kernel
theorem dX0_takeOut_11 : decode cX0_takeOut 11 = .ok (.isub, 1) := by decide +kernel
theorem dX0_takeOut_12 : decode cX0_takeOut 12 = .ok (.invokestatic 29, 3) := by decide +kernel
theorem dX0_takeOut_15 : decode cX0_takeOut 15 = .ok (.return_, 1) := by decide +kernel
theorem dX0_getOlder_0 : decode cX0_getOlder 0 = .ok (.aload_n 0, 1) := by decide +kernel
theorem dX0_getOlder_1 : decode cX0_getOlder 1 = .ok (.getfield 15, 3) := by decide +kernel
theorem dX0_getOlder_4 : decode cX0_getOlder 4 = .ok (.aload_n 0, 1) := by decide +kernel
theorem dX0_getOlder_5 : decode cX0_getOlder 5 = .ok (.getfield 18, 3) := by decide +kernel
theorem dX0_getOlder_8 : decode cX0_getOlder 8 = .ok (.iconst 1, 1) := by decide +kernel
theorem dX0_getOlder_9 : decode cX0_getOlder 9 = .ok (.bipush 60, 2) := by decide +kernel
theorem dX0_getOlder_11 : decode cX0_getOlder 11 = .ok (.invokestatic 37, 3) := by decide +kernel
theorem dX0_getOlder_14 : decode cX0_getOlder 14 = .ok (.return_, 1) := by decide +kernel
theorem dX0_makeNone_0 : decode cX0_makeNone 0 = .ok (.aload_n 0, 1) := by decide +kernel
theorem dX0_makeNone_1 : decode cX0_makeNone 1 = .ok (.iconst 0, 1) := by decide +kernel
theorem dX0_makeNone_2 : decode cX0_makeNone 2 = .ok (.putfield 18, 3) := by decide +kernel
theorem dX0_makeNone_5 : decode cX0_makeNone 5 = .ok (.return_, 1) := by decide +kernel
theorem dX0_take_0 : decode cX0_take 0 = .ok (.aload_n 1, 1) := by decide +kernel
theorem dX0_take_1 : decode cX0_take 1 = .ok (.getfield 9, 3) := by decide +kernel
theorem dX0_take_4 : decode cX0_take 4 = .ok (.aload_n 0, 1) := by decide +kernel
theorem dX0_take_5 : decode cX0_take 5 = .ok (.getfield 9, 3) := by decide +kernel
theorem dX0_take_8 : decode cX0_take 8 = .ok (.invokestatic 41, 3) := by decide +kernel
theorem dX0_take_11 : decode cX0_take 11 = .ok (.aload_n 1, 1) := by decide +kernel
theorem dX0_take_12 : decode cX0_take 12 = .ok (.getfield 15, 3) := by decide +kernel
theorem dX0_take_15 : decode cX0_take 15 = .ok (.aload_n 0, 1) := by decide +kernel
theorem dX0_take_16 : decode cX0_take 16 = .ok (.getfield 15, 3) := by decide +kernel
theorem dX0_take_19 : decode cX0_take 19 = .ok (.invokestatic 41, 3) := by decide +kernel
theorem dX0_take_22 : decode cX0_take 22 = .ok (.aload_n 0, 1) := by decide +kernel
theorem dX0_take_23 : decode cX0_take 23 = .ok (.aload_n 1, 1) := by decide +kernel
theorem dX0_take_24 : decode cX0_take 24 = .ok (.getfield 18, 3) := by decide +kernel
theorem dX0_take_27 : decode cX0_take 27 = .ok (.putfield 18, 3) := by decide +kernel
theorem dX0_take_30 : decode cX0_take 30 = .ok (.return_, 1) := by decide +kernel
theorem dX1_init_0 : decode cX1_init 0 = .ok (.aload_n 0, 1) := by decide +kernel
theorem dX1_init_1 : decode cX1_init 1 = .ok (.invokespecial 3, 3) := by decide +kernel
theorem dX1_init_4 : decode cX1_init 4 = .ok (.aload_n 0, 1) := by decide +kernel
theorem dX1_init_5 : decode cX1_init 5 = .ok (.iconst 5, 1) := by decide +kernel
theorem dX1_init_6 : decode cX1_init 6 = .ok (.newarray .int, 2) := by decide +kernel
theorem dX1_init_8 : decode cX1_init 8 = .ok (.putfield 9, 3) := by decide +kernel
theorem dX1_init_11 : decode cX1_init 11 = .ok (.aload_n 0, 1) := by decide +kernel
theorem dX1_init_12 : decode cX1_init 12 = .ok (.iconst 5, 1) := by decide +kernel
theorem dX1_init_13 : decode cX1_init 13 = .ok (.newarray .int, 2) := by decide +kernel
theorem dX1_init_15 : decode cX1_init 15 = .ok (.putfield 15, 3) := by decide +kernel
theorem dX1_init_18 : decode cX1_init 18 = .ok (.aload_n 0, 1) := by decide +kernel
theorem dX1_init_19 : decode cX1_init 19 = .ok (.iconst 5, 1) := by decide +kernel
theorem dX1_init_20 : decode cX1_init 20 = .ok (.newarray .int, 2) := by decide +kernel
theorem dX1_init_22 : decode cX1_init 22 = .ok (.putfield 18, 3) := by decide +kernel
theorem dX1_init_25 : decode cX1_init 25 = .ok (.aload_n 0, 1) := by decide +kernel
theorem dX1_init_26 : decode cX1_init 26 = .ok (.iconst 0, 1) := by decide +kernel
theorem dX1_init_27 : decode cX1_init 27 = .ok (.putfield 21, 3) := by decide +kernel
theorem dX1_init_30 : decode cX1_init 30 = .ok (.return_, 1) := by decide +kernel
theorem dX1_has_0 : decode cX1_has 0 = .ok (.iload_n 1, 1) := by decide +kernel
theorem dX1_has_1 : decode cX1_has 1 = .ok (.ifCond .lt 15, 3) := by decide +kernel
theorem dX1_has_4 : decode cX1_has 4 = .ok (.iload_n 1, 1) := by decide +kernel
theorem dX1_has_5 : decode cX1_has 5 = .ok (.aload_n 0, 1) := by decide +kernel
theorem dX1_has_6 : decode cX1_has 6 = .ok (.getfield 21, 3) := by decide +kernel
theorem dX1_has_9 : decode cX1_has 9 = .ok (.if_icmp .ge 7, 3) := by decide +kernel
theorem dX1_has_12 : decode cX1_has 12 = .ok (.iconst 1, 1) := by decide +kernel
theorem dX1_has_13 : decode cX1_has 13 = .ok (.goto 4, 3) := by decide +kernel
theorem dX1_has_16 : decode cX1_has 16 = .ok (.iconst 0, 1) := by decide +kernel
theorem dX1_has_17 : decode cX1_has 17 = .ok (.ireturn, 1) := by decide +kernel
theorem dX1_skillOf_0 : decode cX1_skillOf 0 = .ok (.aload_n 0, 1) := by decide +kernel
theorem dX1_skillOf_1 : decode cX1_skillOf 1 = .ok (.getfield 9, 3) := by decide +kernel
theorem dX1_skillOf_4 : decode cX1_skillOf 4 = .ok (.iload_n 1, 1) := by decide +kernel
theorem dX1_skillOf_5 : decode cX1_skillOf 5 = .ok (.invokestatic 25, 3) := by decide +kernel
theorem dX1_skillOf_8 : decode cX1_skillOf 8 = .ok (.ireturn, 1) := by decide +kernel
theorem dX1_placeOf_0 : decode cX1_placeOf 0 = .ok (.aload_n 0, 1) := by decide +kernel
theorem dX1_placeOf_1 : decode cX1_placeOf 1 = .ok (.getfield 15, 3) := by decide +kernel
theorem dX1_placeOf_4 : decode cX1_placeOf 4 = .ok (.iload_n 1, 1) := by decide +kernel
theorem dX1_placeOf_5 : decode cX1_placeOf 5 = .ok (.invokestatic 25, 3) := by decide +kernel
theorem dX1_placeOf_8 : decode cX1_placeOf 8 = .ok (.ireturn, 1) := by decide +kernel
theorem dX1_hoursOf_0 : decode cX1_hoursOf 0 = .ok (.aload_n 0, 1) := by decide +kernel
theorem dX1_hoursOf_1 : decode cX1_hoursOf 1 = .ok (.getfield 18, 3) := by decide +kernel
theorem dX1_hoursOf_4 : decode cX1_hoursOf 4 = .ok (.iload_n 1, 1) := by decide +kernel
theorem dX1_hoursOf_5 : decode cX1_hoursOf 5 = .ok (.invokestatic 25, 3) := by decide +kernel
theorem dX1_hoursOf_8 : decode cX1_hoursOf 8 = .ok (.ireturn, 1) := by decide +kernel
theorem dX1_isUp_0 : decode cX1_isUp 0 = .ok (.aload_n 0, 1) := by decide +kernel
theorem dX1_isUp_1 : decode cX1_isUp 1 = .ok (.getfield 15, 3) := by decide +kernel
theorem dX1_isUp_4 : decode cX1_isUp 4 = .ok (.iload_n 1, 1) := by decide +kernel
theorem dX1_isUp_5 : decode cX1_isUp 5 = .ok (.invokestatic 25, 3) := by decide +kernel
theorem dX1_isUp_8 : decode cX1_isUp 8 = .ok (.bipush (-4), 2) := by decide +kernel
theorem dX1_isUp_10 : decode cX1_isUp 10 = .ok (.if_icmp .eq 7, 3) := by decide +kernel
theorem dX1_isUp_13 : decode cX1_isUp 13 = .ok (.iconst 1, 1) := by decide +kernel
theorem dX1_isUp_14 : decode cX1_isUp 14 = .ok (.goto 4, 3) := by decide +kernel
theorem dX1_isUp_17 : decode cX1_isUp 17 = .ok (.iconst 0, 1) := by decide +kernel
theorem dX1_isUp_18 : decode cX1_isUp 18 = .ok (.ireturn, 1) := by decide +kernel
theorem dX1_bitsOn_0 : decode cX1_bitsOn 0 = .ok (.iconst 0, 1) := by decide +kernel
theorem dX1_bitsOn_1 : decode cX1_bitsOn 1 = .ok (.istore_n 2, 1) := by decide +kernel
theorem dX1_bitsOn_2 : decode cX1_bitsOn 2 = .ok (.iconst 0, 1) := by decide +kernel
theorem dX1_bitsOn_3 : decode cX1_bitsOn 3 = .ok (.istore_n 3, 1) := by decide +kernel
theorem dX1_bitsOn_4 : decode cX1_bitsOn 4 = .ok (.iload_n 3, 1) := by decide +kernel
theorem dX1_bitsOn_5 : decode cX1_bitsOn 5 = .ok (.aload_n 0, 1) := by decide +kernel
theorem dX1_bitsOn_6 : decode cX1_bitsOn 6 = .ok (.getfield 21, 3) := by decide +kernel
theorem dX1_bitsOn_9 : decode cX1_bitsOn 9 = .ok (.if_icmp .ge 28, 3) := by decide +kernel
theorem dX1_bitsOn_12 : decode cX1_bitsOn 12 = .ok (.iload_n 2, 1) := by decide +kernel
theorem dX1_bitsOn_13 : decode cX1_bitsOn 13 = .ok (.aload_n 0, 1) := by decide +kernel
theorem dX1_bitsOn_14 : decode cX1_bitsOn 14 = .ok (.iload_n 3, 1) := by decide +kernel
theorem dX1_bitsOn_15 : decode cX1_bitsOn 15 = .ok (.invokevirtual 29, 3) := by decide +kernel
theorem dX1_bitsOn_18 : decode cX1_bitsOn 18 = .ok (.iload_n 1, 1) := by decide +kernel
theorem dX1_bitsOn_19 : decode cX1_bitsOn 19 = .ok (.if_icmp .ne 9, 3) := by decide +kernel
theorem dX1_bitsOn_22 : decode cX1_bitsOn 22 = .ok (.iconst 1, 1) := by decide +kernel
theorem dX1_bitsOn_23 : decode cX1_bitsOn 23 = .ok (.iload_n 3, 1) := by decide +kernel
theorem dX1_bitsOn_24 : decode cX1_bitsOn 24 = .ok (.ishl, 1) := by decide +kernel
theorem dX1_bitsOn_25 : decode cX1_bitsOn 25 = .ok (.goto 4, 3) := by decide +kernel
theorem dX1_bitsOn_28 : decode cX1_bitsOn 28 = .ok (.iconst 0, 1) := by decide +kernel
theorem dX1_bitsOn_29 : decode cX1_bitsOn 29 = .ok (.ior, 1) := by decide +kernel
theorem dX1_bitsOn_30 : decode cX1_bitsOn 30 = .ok (.istore_n 2, 1) := by decide +kernel
theorem dX1_bitsOn_31 : decode cX1_bitsOn 31 = .ok (.iinc 3 1, 3) := by decide +kernel
theorem dX1_bitsOn_34 : decode cX1_bitsOn 34 = .ok (.goto (-30), 3) := by decide +kernel
theorem dX1_bitsOn_37 : decode cX1_bitsOn 37 = .ok (.iload_n 2, 1) := by decide +kernel
theorem dX1_bitsOn_38 : decode cX1_bitsOn 38 = .ok (.ireturn, 1) := by decide +kernel
theorem dX1_howManyOn_0 : decode cX1_howManyOn 0 = .ok (.aload_n 0, 1) := by decide +kernel
theorem dX1_howManyOn_1 : decode cX1_howManyOn 1 = .ok (.iload_n 1, 1) := by decide +kernel
theorem dX1_howManyOn_2 : decode cX1_howManyOn 2 = .ok (.invokevirtual 33, 3) := by decide +kernel
theorem dX1_howManyOn_5 : decode cX1_howManyOn 5 = .ok (.invokestatic 36, 3) := by decide +kernel
theorem dX1_howManyOn_8 : decode cX1_howManyOn 8 = .ok (.ireturn, 1) := by decide +kernel
theorem dX1_howManyUp_0 : decode cX1_howManyUp 0 = .ok (.iconst 0, 1) := by decide +kernel
theorem dX1_howManyUp_1 : decode cX1_howManyUp 1 = .ok (.istore_n 1, 1) := by decide +kernel
theorem dX1_howManyUp_2 : decode cX1_howManyUp 2 = .ok (.iconst 0, 1) := by decide +kernel
theorem dX1_howManyUp_3 : decode cX1_howManyUp 3 = .ok (.istore_n 2, 1) := by decide +kernel
theorem dX1_howManyUp_4 : decode cX1_howManyUp 4 = .ok (.iload_n 2, 1) := by decide +kernel
theorem dX1_howManyUp_5 : decode cX1_howManyUp 5 = .ok (.aload_n 0, 1) := by decide +kernel
theorem dX1_howManyUp_6 : decode cX1_howManyUp 6 = .ok (.getfield 21, 3) := by decide +kernel
theorem dX1_howManyUp_9 : decode cX1_howManyUp 9 = .ok (.if_icmp .ge 25, 3) := by decide +kernel
theorem dX1_howManyUp_12 : decode cX1_howManyUp 12 = .ok (.iload_n 1, 1) := by decide +kernel
theorem dX1_howManyUp_13 : decode cX1_howManyUp 13 = .ok (.aload_n 0, 1) := by decide +kernel
theorem dX1_howManyUp_14 : decode cX1_howManyUp 14 = .ok (.iload_n 2, 1) := by decide +kernel
theorem dX1_howManyUp_15 : decode cX1_howManyUp 15 = .ok (.invokevirtual 41, 3) := by decide +kernel
theorem dX1_howManyUp_18 : decode cX1_howManyUp 18 = .ok (.ifCond .eq 7, 3) := by decide +kernel
theorem dX1_howManyUp_21 : decode cX1_howManyUp 21 = .ok (.iconst 1, 1) := by decide +kernel
theorem dX1_howManyUp_22 : decode cX1_howManyUp 22 = .ok (.goto 4, 3) := by decide +kernel
theorem dX1_howManyUp_25 : decode cX1_howManyUp 25 = .ok (.iconst 0, 1) := by decide +kernel
theorem dX1_howManyUp_26 : decode cX1_howManyUp 26 = .ok (.iadd, 1) := by decide +kernel
theorem dX1_howManyUp_27 : decode cX1_howManyUp 27 = .ok (.istore_n 1, 1) := by decide +kernel
theorem dX1_howManyUp_28 : decode cX1_howManyUp 28 = .ok (.iinc 2 1, 3) := by decide +kernel
theorem dX1_howManyUp_31 : decode cX1_howManyUp 31 = .ok (.goto (-27), 3) := by decide +kernel
theorem dX1_howManyUp_34 : decode cX1_howManyUp 34 = .ok (.iload_n 1, 1) := by decide +kernel
theorem dX1_howManyUp_35 : decode cX1_howManyUp 35 = .ok (.ireturn, 1) := by decide +kernel
theorem dX1_add_0 : decode cX1_add 0 = .ok (.aload_n 0, 1) := by decide +kernel
theorem dX1_add_1 : decode cX1_add 1 = .ok (.getfield 9, 3) := by decide +kernel
theorem dX1_add_4 : decode cX1_add 4 = .ok (.aload_n 0, 1) := by decide +kernel
theorem dX1_add_5 : decode cX1_add 5 = .ok (.getfield 21, 3) := by decide +kernel
theorem dX1_add_8 : decode cX1_add 8 = .ok (.iload_n 1, 1) := by decide +kernel
theorem dX1_add_9 : decode cX1_add 9 = .ok (.invokestatic 45, 3) := by decide +kernel
theorem dX1_add_12 : decode cX1_add 12 = .ok (.aload_n 0, 1) := by decide +kernel
theorem dX1_add_13 : decode cX1_add 13 = .ok (.getfield 15, 3) := by decide +kernel
theorem dX1_add_16 : decode cX1_add 16 = .ok (.aload_n 0, 1) := by decide +kernel
theorem dX1_add_17 : decode cX1_add 17 = .ok (.getfield 21, 3) := by decide +kernel
theorem dX1_add_20 : decode cX1_add 20 = .ok (.bipush (-4), 2) := by decide +kernel
theorem dX1_add_22 : decode cX1_add 22 = .ok (.invokestatic 45, 3) := by decide +kernel
theorem dX1_add_25 : decode cX1_add 25 = .ok (.aload_n 0, 1) := by decide +kernel
theorem dX1_add_26 : decode cX1_add 26 = .ok (.getfield 18, 3) := by decide +kernel
theorem dX1_add_29 : decode cX1_add 29 = .ok (.aload_n 0, 1) := by decide +kernel
theorem dX1_add_30 : decode cX1_add 30 = .ok (.getfield 21, 3) := by decide +kernel
theorem dX1_add_33 : decode cX1_add 33 = .ok (.iconst 0, 1) := by decide +kernel
theorem dX1_add_34 : decode cX1_add 34 = .ok (.invokestatic 45, 3) := by decide +kernel
theorem dX1_add_37 : decode cX1_add 37 = .ok (.aload_n 0, 1) := by decide +kernel
theorem dX1_add_38 : decode cX1_add 38 = .ok (.dup, 1) := by decide +kernel
theorem dX1_add_39 : decode cX1_add 39 = .ok (.getfield 21, 3) := by decide +kernel
theorem dX1_add_42 : decode cX1_add 42 = .ok (.iconst 1, 1) := by decide +kernel
theorem dX1_add_43 : decode cX1_add 43 = .ok (.iadd, 1) := by decide +kernel
theorem dX1_add_44 : decode cX1_add 44 = .ok (.putfield 21, 3) := by decide +kernel
theorem dX1_add_47 : decode cX1_add 47 = .ok (.aload_n 0, 1) := by decide +kernel
theorem dX1_add_48 : decode cX1_add 48 = .ok (.getfield 21, 3) := by decide +kernel
theorem dX1_add_51 : decode cX1_add 51 = .ok (.iconst 1, 1) := by decide +kernel
theorem dX1_add_52 : decode cX1_add 52 = .ok (.isub, 1) := by decide +kernel
theorem dX1_add_53 : decode cX1_add 53 = .ok (.ireturn, 1) := by decide +kernel
theorem dX1_moveTo_0 : decode cX1_moveTo 0 = .ok (.aload_n 0, 1) := by decide +kernel
theorem dX1_moveTo_1 : decode cX1_moveTo 1 = .ok (.getfield 15, 3) := by decide +kernel
theorem dX1_moveTo_4 : decode cX1_moveTo 4 = .ok (.iload_n 1, 1) := by decide +kernel
theorem dX1_moveTo_5 : decode cX1_moveTo 5 = .ok (.iload_n 2, 1) := by decide +kernel
theorem dX1_moveTo_6 : decode cX1_moveTo 6 = .ok (.invokestatic 45, 3) := by decide +kernel
theorem dX1_moveTo_9 : decode cX1_moveTo 9 = .ok (.return_, 1) := by decide +kernel
theorem dX1_addHours_0 : decode cX1_addHours 0 = .ok (.aload_n 0, 1) := by decide +kernel
theorem dX1_addHours_1 : decode cX1_addHours 1 = .ok (.getfield 18, 3) := by decide +kernel
theorem dX1_addHours_4 : decode cX1_addHours 4 = .ok (.iload_n 1, 1) := by decide +kernel
theorem dX1_addHours_5 : decode cX1_addHours 5 = .ok (.aload_n 0, 1) := by decide +kernel
theorem dX1_addHours_6 : decode cX1_addHours 6 = .ok (.getfield 18, 3) := by decide +kernel
theorem dX1_addHours_9 : decode cX1_addHours 9 = .ok (.iload_n 1, 1) := by decide +kernel
theorem dX1_addHours_10 : decode cX1_addHours 10 = .ok (.invokestatic 25, 3) := by decide +kernel
theorem dX1_addHours_13 : decode cX1_addHours 13 = .ok (.iload_n 2, 1) := by decide +kernel
theorem dX1_addHours_14 : decode cX1_addHours 14 = .ok (.iadd, 1) := by decide +kernel
theorem dX1_addHours_15 : decode cX1_addHours 15 = .ok (.invokestatic 45, 3) := by decide +kernel
theorem dX1_addHours_18 : decode cX1_addHours 18 = .ok (.return_, 1) := by decide +kernel
theorem dX1_comeDownFrom_0 : decode cX1_comeDownFrom 0 = .ok (.iconst 0, 1) := by decide +kernel
theorem dX1_comeDownFrom_1 : decode cX1_comeDownFrom 1 = .ok (.istore_n 2, 1) := by decide +kernel
theorem dX1_comeDownFrom_2 : decode cX1_comeDownFrom 2 = .ok (.iload_n 2, 1) := by decide +kernel
theorem dX1_comeDownFrom_3 : decode cX1_comeDownFrom 3 = .ok (.aload_n 0, 1) := by decide +kernel
theorem dX1_comeDownFrom_4 : decode cX1_comeDownFrom 4 = .ok (.getfield 21, 3) := by decide +kernel
theorem dX1_comeDownFrom_7 : decode cX1_comeDownFrom 7 = .ok (.if_icmp .ge 25, 3) := by decide +kernel
theorem dX1_comeDownFrom_10 : decode cX1_comeDownFrom 10 = .ok (.aload_n 0, 1) := by decide +kernel
theorem dX1_comeDownFrom_11 : decode cX1_comeDownFrom 11 = .ok (.iload_n 2, 1) := by decide +kernel
theorem dX1_comeDownFrom_12 : decode cX1_comeDownFrom 12 = .ok (.invokevirtual 29, 3) := by decide +kernel
theorem dX1_comeDownFrom_15 : decode cX1_comeDownFrom 15 = .ok (.iload_n 1, 1) := by decide +kernel
theorem dX1_comeDownFrom_16 : decode cX1_comeDownFrom 16 = .ok (.if_icmp .ne 10, 3) := by decide +kernel
theorem dX1_comeDownFrom_19 : decode cX1_comeDownFrom 19 = .ok (.aload_n 0, 1) := by decide +kernel
theorem dX1_comeDownFrom_20 : decode cX1_comeDownFrom 20 = .ok (.iload_n 2, 1) := by decide +kernel
theorem dX1_comeDownFrom_21 : decode cX1_comeDownFrom 21 = .ok (.bipush (-4), 2) := by decide +kernel
theorem dX1_comeDownFrom_23 : decode cX1_comeDownFrom 23 = .ok (.invokevirtual 49, 3) := by decide +kernel
theorem dX1_comeDownFrom_26 : decode cX1_comeDownFrom 26 = .ok (.iinc 2 1, 3) := by decide +kernel
theorem dX1_comeDownFrom_29 : decode cX1_comeDownFrom 29 = .ok (.goto (-27), 3) := by decide +kernel
theorem dX1_comeDownFrom_32 : decode cX1_comeDownFrom 32 = .ok (.return_, 1) := by decide +kernel
theorem dX1_allComeDown_0 : decode cX1_allComeDown 0 = .ok (.iconst 0, 1) := by decide +kernel
theorem dX1_allComeDown_1 : decode cX1_allComeDown 1 = .ok (.istore_n 1, 1) := by decide +kernel
theorem dX1_allComeDown_2 : decode cX1_allComeDown 2 = .ok (.iload_n 1, 1) := by decide +kernel
theorem dX1_allComeDown_3 : decode cX1_allComeDown 3 = .ok (.aload_n 0, 1) := by decide +kernel
theorem dX1_allComeDown_4 : decode cX1_allComeDown 4 = .ok (.getfield 21, 3) := by decide +kernel
theorem dX1_allComeDown_7 : decode cX1_allComeDown 7 = .ok (.if_icmp .ge 16, 3) := by decide +kernel
theorem dX1_allComeDown_10 : decode cX1_allComeDown 10 = .ok (.aload_n 0, 1) := by decide +kernel
theorem dX1_allComeDown_11 : decode cX1_allComeDown 11 = .ok (.iload_n 1, 1) := by decide +kernel
theorem dX1_allComeDown_12 : decode cX1_allComeDown 12 = .ok (.bipush (-4), 2) := by decide +kernel
theorem dX1_allComeDown_14 : decode cX1_allComeDown 14 = .ok (.invokevirtual 49, 3) := by decide +kernel
theorem dX1_allComeDown_17 : decode cX1_allComeDown 17 = .ok (.iinc 1 1, 3) := by decide +kernel
theorem dX1_allComeDown_20 : decode cX1_allComeDown 20 = .ok (.goto (-18), 3) := by decide +kernel
theorem dX1_allComeDown_23 : decode cX1_allComeDown 23 = .ok (.return_, 1) := by decide +kernel
theorem dX1_makeNone_0 : decode cX1_makeNone 0 = .ok (.aload_n 0, 1) := by decide +kernel
theorem dX1_makeNone_1 : decode cX1_makeNone 1 = .ok (.iconst 0, 1) := by decide +kernel
theorem dX1_makeNone_2 : decode cX1_makeNone 2 = .ok (.putfield 21, 3) := by decide +kernel
theorem dX1_makeNone_5 : decode cX1_makeNone 5 = .ok (.return_, 1) := by decide +kernel
theorem dX1_take_0 : decode cX1_take 0 = .ok (.aload_n 1, 1) := by decide +kernel
theorem dX1_take_1 : decode cX1_take 1 = .ok (.getfield 9, 3) := by decide +kernel
theorem dX1_take_4 : decode cX1_take 4 = .ok (.aload_n 0, 1) := by decide +kernel
theorem dX1_take_5 : decode cX1_take 5 = .ok (.getfield 9, 3) := by decide +kernel
theorem dX1_take_8 : decode cX1_take 8 = .ok (.invokestatic 53, 3) := by decide +kernel
theorem dX1_take_11 : decode cX1_take 11 = .ok (.aload_n 1, 1) := by decide +kernel
theorem dX1_take_12 : decode cX1_take 12 = .ok (.getfield 15, 3) := by decide +kernel
theorem dX1_take_15 : decode cX1_take 15 = .ok (.aload_n 0, 1) := by decide +kernel
theorem dX1_take_16 : decode cX1_take 16 = .ok (.getfield 15, 3) := by decide +kernel
theorem dX1_take_19 : decode cX1_take 19 = .ok (.invokestatic 53, 3) := by decide +kernel
theorem dX1_take_22 : decode cX1_take 22 = .ok (.aload_n 1, 1) := by decide +kernel
theorem dX1_take_23 : decode cX1_take 23 = .ok (.getfield 18, 3) := by decide +kernel
theorem dX1_take_26 : decode cX1_take 26 = .ok (.aload_n 0, 1) := by decide +kernel
theorem dX1_take_27 : decode cX1_take 27 = .ok (.getfield 18, 3) := by decide +kernel
theorem dX1_take_30 : decode cX1_take 30 = .ok (.invokestatic 53, 3) := by decide +kernel
theorem dX1_take_33 : decode cX1_take 33 = .ok (.aload_n 0, 1) := by decide +kernel
theorem dX1_take_34 : decode cX1_take 34 = .ok (.aload_n 1, 1) := by decide +kernel
theorem dX1_take_35 : decode cX1_take 35 = .ok (.getfield 21, 3) := by decide +kernel
theorem dX1_take_38 : decode cX1_take 38 = .ok (.putfield 21, 3) := by decide +kernel
theorem dX1_take_41 : decode cX1_take 41 = .ok (.return_, 1) := by decide +kernel
theorem dX2_init_0 : decode cX2_init 0 = .ok (.aload_n 0, 1) := by decide +kernel
theorem dX2_init_1 : decode cX2_init 1 = .ok (.invokespecial 3, 3) := by decide +kernel
theorem dX2_init_4 : decode cX2_init 4 = .ok (.aload_n 0, 1) := by decide +kernel
theorem dX2_init_5 : decode cX2_init 5 = .ok (.bipush 9, 2) := by decide +kernel
theorem dX2_init_7 : decode cX2_init 7 = .ok (.anewarray 11, 3) := by decide +kernel
theorem dX2_init_10 : decode cX2_init 10 = .ok (.putfield 13, 3) := by decide +kernel
theorem dX2_init_13 : decode cX2_init 13 = .ok (.aload_n 0, 1) := by decide +kernel
theorem dX2_init_14 : decode cX2_init 14 = .ok (.new 11, 3) := by decide +kernel
theorem dX2_init_17 : decode cX2_init 17 = .ok (.dup, 1) := by decide +kernel
theorem dX2_init_18 : decode cX2_init 18 = .ok (.invokespecial 17, 3) := by decide +kernel
theorem dX2_init_21 : decode cX2_init 21 = .ok (.putfield 18, 3) := by decide +kernel
theorem dX2_init_24 : decode cX2_init 24 = .ok (.aload_n 0, 1) := by decide +kernel
theorem dX2_init_25 : decode cX2_init 25 = .ok (.iconst 0, 1) := by decide +kernel
theorem dX2_init_26 : decode cX2_init 26 = .ok (.putfield 22, 3) := by decide +kernel
theorem dX2_init_29 : decode cX2_init 29 = .ok (.aload_n 0, 1) := by decide +kernel
theorem dX2_init_30 : decode cX2_init 30 = .ok (.iconst 0, 1) := by decide +kernel
theorem dX2_init_31 : decode cX2_init 31 = .ok (.putfield 26, 3) := by decide +kernel
theorem dX2_init_34 : decode cX2_init 34 = .ok (.iconst 0, 1) := by decide +kernel
theorem dX2_init_35 : decode cX2_init 35 = .ok (.istore_n 1, 1) := by decide +kernel
theorem dX2_init_36 : decode cX2_init 36 = .ok (.iload_n 1, 1) := by decide +kernel
theorem dX2_init_37 : decode cX2_init 37 = .ok (.aload_n 0, 1) := by decide +kernel
theorem dX2_init_38 : decode cX2_init 38 = .ok (.getfield 13, 3) := by decide +kernel
theorem dX2_init_41 : decode cX2_init 41 = .ok (.arraylength, 1) := by decide +kernel
theorem dX2_init_42 : decode cX2_init 42 = .ok (.if_icmp .ge 22, 3) := by decide +kernel
theorem dX2_init_45 : decode cX2_init 45 = .ok (.aload_n 0, 1) := by decide +kernel
theorem dX2_init_46 : decode cX2_init 46 = .ok (.getfield 13, 3) := by decide +kernel
theorem dX2_init_49 : decode cX2_init 49 = .ok (.iload_n 1, 1) := by decide +kernel
theorem dX2_init_50 : decode cX2_init 50 = .ok (.new 11, 3) := by decide +kernel
theorem dX2_init_53 : decode cX2_init 53 = .ok (.dup, 1) := by decide +kernel
theorem dX2_init_54 : decode cX2_init 54 = .ok (.invokespecial 17, 3) := by decide +kernel
theorem dX2_init_57 : decode cX2_init 57 = .ok (.aastore, 1) := by decide +kernel
theorem dX2_init_58 : decode cX2_init 58 = .ok (.iinc 1 1, 3) := by decide +kernel
theorem dX2_init_61 : decode cX2_init 61 = .ok (.goto (-25), 3) := by decide +kernel
theorem dX2_init_64 : decode cX2_init 64 = .ok (.return_, 1) := by decide +kernel
theorem dX2_note_0 : decode cX2_note 0 = .ok (.aload_n 0, 1) := by decide +kernel
theorem dX2_note_1 : decode cX2_note 1 = .ok (.invokevirtual 29, 3) := by decide +kernel
theorem dX2_note_4 : decode cX2_note 4 = .ok (.aload_n 1, 1) := by decide +kernel
theorem dX2_note_5 : decode cX2_note 5 = .ok (.invokevirtual 33, 3) := by decide +kernel
theorem dX2_note_8 : decode cX2_note 8 = .ok (.return_, 1) := by decide +kernel
theorem dX2_noted_0 : decode cX2_noted 0 = .ok (.aload_n 0, 1) := by decide +kernel
theorem dX2_noted_1 : decode cX2_noted 1 = .ok (.getfield 22, 3) := by decide +kernel
theorem dX2_noted_4 : decode cX2_noted 4 = .ok (.ifCond .lt 27, 3) := by decide +kernel
theorem dX2_noted_7 : decode cX2_noted 7 = .ok (.aload_n 0, 1) := by decide +kernel
theorem dX2_noted_8 : decode cX2_noted 8 = .ok (.getfield 22, 3) := by decide +kernel
theorem dX2_noted_11 : decode cX2_noted 11 = .ok (.aload_n 0, 1) := by decide +kernel
theorem dX2_noted_12 : decode cX2_noted 12 = .ok (.getfield 13, 3) := by decide +kernel
theorem dX2_noted_15 : decode cX2_noted 15 = .ok (.arraylength, 1) := by decide +kernel
theorem dX2_noted_16 : decode cX2_noted 16 = .ok (.if_icmp .ge 15, 3) := by decide +kernel
theorem dX2_noted_19 : decode cX2_noted 19 = .ok (.aload_n 0, 1) := by decide +kernel
theorem dX2_noted_20 : decode cX2_noted 20 = .ok (.getfield 13, 3) := by decide +kernel
theorem dX2_noted_23 : decode cX2_noted 23 = .ok (.aload_n 0, 1) := by decide +kernel
theorem dX2_noted_24 : decode cX2_noted 24 = .ok (.getfield 22, 3) := by decide +kernel
theorem dX2_noted_27 : decode cX2_noted 27 = .ok (.aaload, 1) := by decide +kernel
theorem dX2_noted_28 : decode cX2_noted 28 = .ok (.goto 4, 3) := by decide +kernel
theorem dX2_noted_31 : decode cX2_noted 31 = .ok (.aconst_null, 1) := by decide +kernel
theorem dX2_noted_32 : decode cX2_noted 32 = .ok (.astore_n 1, 1) := by decide +kernel
theorem dX2_noted_33 : decode cX2_noted 33 = .ok (.aload_n 1, 1) := by decide +kernel
theorem dX2_noted_34 : decode cX2_noted 34 = .ok (.ifnonnull 10, 3) := by decide +kernel
theorem dX2_noted_37 : decode cX2_noted 37 = .ok (.aload_n 0, 1) := by decide +kernel
theorem dX2_noted_38 : decode cX2_noted 38 = .ok (.getfield 18, 3) := by decide +kernel
theorem dX2_noted_41 : decode cX2_noted 41 = .ok (.goto 4, 3) := by decide +kernel
theorem dX2_noted_44 : decode cX2_noted 44 = .ok (.aload_n 1, 1) := by decide +kernel
theorem dX2_noted_45 : decode cX2_noted 45 = .ok (.areturn, 1) := by decide +kernel
theorem dX2_keepNoted_0 : decode cX2_keepNoted 0 = .ok (.aload_n 0, 1) := by decide +kernel
theorem dX2_keepNoted_1 : decode cX2_keepNoted 1 = .ok (.aload_n 0, 1) := by decide +kernel
theorem dX2_keepNoted_2 : decode cX2_keepNoted 2 = .ok (.getfield 22, 3) := by decide +kernel
theorem dX2_keepNoted_5 : decode cX2_keepNoted 5 = .ok (.iconst 1, 1) := by decide +kernel
theorem dX2_keepNoted_6 : decode cX2_keepNoted 6 = .ok (.iadd, 1) := by decide +kernel
theorem dX2_keepNoted_7 : decode cX2_keepNoted 7 = .ok (.bipush 9, 2) := by decide +kernel
theorem dX2_keepNoted_9 : decode cX2_keepNoted 9 = .ok (.irem, 1) := by decide +kernel
theorem dX2_keepNoted_10 : decode cX2_keepNoted 10 = .ok (.putfield 22, 3) := by decide +kernel
theorem dX2_keepNoted_13 : decode cX2_keepNoted 13 = .ok (.aload_n 0, 1) := by decide +kernel
theorem dX2_keepNoted_14 : decode cX2_keepNoted 14 = .ok (.aload_n 0, 1) := by decide +kernel
theorem dX2_keepNoted_15 : decode cX2_keepNoted 15 = .ok (.getfield 26, 3) := by decide +kernel
theorem dX2_keepNoted_18 : decode cX2_keepNoted 18 = .ok (.iconst 1, 1) := by decide +kernel
theorem dX2_keepNoted_19 : decode cX2_keepNoted 19 = .ok (.iadd, 1) := by decide +kernel
theorem dX2_keepNoted_20 : decode cX2_keepNoted 20 = .ok (.bipush 8, 2) := by decide +kernel
theorem dX2_keepNoted_22 : decode cX2_keepNoted 22 = .ok (.invokestatic 37, 3) := by decide +kernel
theorem dX2_keepNoted_25 : decode cX2_keepNoted 25 = .ok (.putfield 26, 3) := by decide +kernel
theorem dX2_keepNoted_28 : decode cX2_keepNoted 28 = .ok (.return_, 1) := by decide +kernel
theorem dX2_stepBack_0 : decode cX2_stepBack 0 = .ok (.aload_n 0, 1) := by decide +kernel
theorem dX2_stepBack_1 : decode cX2_stepBack 1 = .ok (.aload_n 0, 1) := by decide +kernel
theorem dX2_stepBack_2 : decode cX2_stepBack 2 = .ok (.getfield 22, 3) := by decide +kernel
theorem dX2_stepBack_5 : decode cX2_stepBack 5 = .ok (.bipush 9, 2) := by decide +kernel
theorem dX2_stepBack_7 : decode cX2_stepBack 7 = .ok (.iadd, 1) := by decide +kernel
theorem dX2_stepBack_8 : decode cX2_stepBack 8 = .ok (.iconst 1, 1) := by decide +kernel
theorem dX2_stepBack_9 : decode cX2_stepBack 9 = .ok (.isub, 1) := by decide +kernel
theorem dX2_stepBack_10 : decode cX2_stepBack 10 = .ok (.bipush 9, 2) := by decide +kernel
theorem dX2_stepBack_12 : decode cX2_stepBack 12 = .ok (.irem, 1) := by decide +kernel
theorem dX2_stepBack_13 : decode cX2_stepBack 13 = .ok (.putfield 22, 3) := by decide +kernel
theorem dX2_stepBack_16 : decode cX2_stepBack 16 = .ok (.aload_n 0, 1) := by decide +kernel
theorem dX2_stepBack_17 : decode cX2_stepBack 17 = .ok (.dup, 1) := by decide +kernel
theorem dX2_stepBack_18 : decode cX2_stepBack 18 = .ok (.getfield 26, 3) := by decide +kernel
theorem dX2_stepBack_21 : decode cX2_stepBack 21 = .ok (.iconst 1, 1) := by decide +kernel
theorem dX2_stepBack_22 : decode cX2_stepBack 22 = .ok (.isub, 1) := by decide +kernel
theorem dX2_stepBack_23 : decode cX2_stepBack 23 = .ok (.putfield 26, 3) := by decide +kernel
theorem dX2_stepBack_26 : decode cX2_stepBack 26 = .ok (.aload_n 0, 1) := by decide +kernel
theorem dX2_stepBack_27 : decode cX2_stepBack 27 = .ok (.invokevirtual 29, 3) := by decide +kernel
theorem dX2_stepBack_30 : decode cX2_stepBack 30 = .ok (.areturn, 1) := by decide +kernel
theorem dX2_forget_0 : decode cX2_forget 0 = .ok (.aload_n 0, 1) := by decide +kernel
theorem dX2_forget_1 : decode cX2_forget 1 = .ok (.iconst 0, 1) := by decide +kernel
theorem dX2_forget_2 : decode cX2_forget 2 = .ok (.putfield 26, 3) := by decide +kernel
theorem dX2_forget_5 : decode cX2_forget 5 = .ok (.return_, 1) := by decide +kernel
theorem dX3_init_0 : decode cX3_init 0 = .ok (.aload_n 0, 1) := by decide +kernel
theorem dX3_init_1 : decode cX3_init 1 = .ok (.invokespecial 3, 3) := by decide +kernel
theorem dX3_init_4 : decode cX3_init 4 = .ok (.aload_n 0, 1) := by decide +kernel
theorem dX3_init_5 : decode cX3_init 5 = .ok (.iconst 3, 1) := by decide +kernel
theorem dX3_init_6 : decode cX3_init 6 = .ok (.newarray .int, 2) := by decide +kernel
theorem dX3_init_8 : decode cX3_init 8 = .ok (.putfield 9, 3) := by decide +kernel
theorem dX3_init_11 : decode cX3_init 11 = .ok (.aload_n 0, 1) := by decide +kernel
theorem dX3_init_12 : decode cX3_init 12 = .ok (.iconst 3, 1) := by decide +kernel
theorem dX3_init_13 : decode cX3_init 13 = .ok (.newarray .int, 2) := by decide +kernel
theorem dX3_init_15 : decode cX3_init 15 = .ok (.putfield 15, 3) := by decide +kernel
theorem dX3_init_18 : decode cX3_init 18 = .ok (.aload_n 0, 1) := by decide +kernel
theorem dX3_init_19 : decode cX3_init 19 = .ok (.iconst 0, 1) := by decide +kernel
theorem dX3_init_20 : decode cX3_init 20 = .ok (.putfield 18, 3) := by decide +kernel
theorem dX3_init_23 : decode cX3_init 23 = .ok (.return_, 1) := by decide +kernel
theorem dX3_has_0 : decode cX3_has 0 = .ok (.iload_n 1, 1) := by decide +kernel
theorem dX3_has_1 : decode cX3_has 1 = .ok (.ifCond .lt 15, 3) := by decide +kernel
theorem dX3_has_4 : decode cX3_has 4 = .ok (.iload_n 1, 1) := by decide +kernel
theorem dX3_has_5 : decode cX3_has 5 = .ok (.aload_n 0, 1) := by decide +kernel
theorem dX3_has_6 : decode cX3_has 6 = .ok (.getfield 18, 3) := by decide +kernel
theorem dX3_has_9 : decode cX3_has 9 = .ok (.if_icmp .ge 7, 3) := by decide +kernel
theorem dX3_has_12 : decode cX3_has 12 = .ok (.iconst 1, 1) := by decide +kernel
theorem dX3_has_13 : decode cX3_has 13 = .ok (.goto 4, 3) := by decide +kernel
theorem dX3_has_16 : decode cX3_has 16 = .ok (.iconst 0, 1) := by decide +kernel
theorem dX3_has_17 : decode cX3_has 17 = .ok (.ireturn, 1) := by decide +kernel
theorem dX3_noseOf_0 : decode cX3_noseOf 0 = .ok (.aload_n 0, 1) := by decide +kernel
theorem dX3_noseOf_1 : decode cX3_noseOf 1 = .ok (.getfield 9, 3) := by decide +kernel
theorem dX3_noseOf_4 : decode cX3_noseOf 4 = .ok (.iload_n 1, 1) := by decide +kernel
theorem dX3_noseOf_5 : decode cX3_noseOf 5 = .ok (.invokestatic 22, 3) := by decide +kernel
theorem dX3_noseOf_8 : decode cX3_noseOf 8 = .ok (.ireturn, 1) := by decide +kernel
theorem dX3_findsOf_0 : decode cX3_findsOf 0 = .ok (.aload_n 0, 1) := by decide +kernel
theorem dX3_findsOf_1 : decode cX3_findsOf 1 = .ok (.getfield 15, 3) := by decide +kernel
theorem dX3_findsOf_4 : decode cX3_findsOf 4 = .ok (.iload_n 1, 1) := by decide +kernel
theorem dX3_findsOf_5 : decode cX3_findsOf 5 = .ok (.invokestatic 22, 3) := by decide +kernel
theorem dX3_findsOf_8 : decode cX3_findsOf 8 = .ok (.ireturn, 1) := by decide +kernel
theorem dX3_add_0 : decode cX3_add 0 = .ok (.aload_n 0, 1) := by decide +kernel
theorem dX3_add_1 : decode cX3_add 1 = .ok (.getfield 9, 3) := by decide +kernel
theorem dX3_add_4 : decode cX3_add 4 = .ok (.aload_n 0, 1) := by decide +kernel
theorem dX3_add_5 : decode cX3_add 5 = .ok (.getfield 18, 3) := by decide +kernel
theorem dX3_add_8 : decode cX3_add 8 = .ok (.iload_n 1, 1) := by decide +kernel
theorem dX3_add_9 : decode cX3_add 9 = .ok (.invokestatic 26, 3) := by decide +kernel
theorem dX3_add_12 : decode cX3_add 12 = .ok (.aload_n 0, 1) := by decide +kernel
theorem dX3_add_13 : decode cX3_add 13 = .ok (.getfield 15, 3) := by decide +kernel
theorem dX3_add_16 : decode cX3_add 16 = .ok (.aload_n 0, 1) := by decide +kernel
theorem dX3_add_17 : decode cX3_add 17 = .ok (.getfield 18, 3) := by decide +kernel
theorem dX3_add_20 : decode cX3_add 20 = .ok (.iconst 0, 1) := by decide +kernel
theorem dX3_add_21 : decode cX3_add 21 = .ok (.invokestatic 26, 3) := by decide +kernel
theorem dX3_add_24 : decode cX3_add 24 = .ok (.aload_n 0, 1) := by decide +kernel
theorem dX3_add_25 : decode cX3_add 25 = .ok (.dup, 1) := by decide +kernel
theorem dX3_add_26 : decode cX3_add 26 = .ok (.getfield 18, 3) := by decide +kernel
theorem dX3_add_29 : decode cX3_add 29 = .ok (.iconst 1, 1) := by decide +kernel
theorem dX3_add_30 : decode cX3_add 30 = .ok (.iadd, 1) := by decide +kernel
theorem dX3_add_31 : decode cX3_add 31 = .ok (.putfield 18, 3) := by decide +kernel
theorem dX3_add_34 : decode cX3_add 34 = .ok (.aload_n 0, 1) := by decide +kernel
theorem dX3_add_35 : decode cX3_add 35 = .ok (.getfield 18, 3) := by decide +kernel
theorem dX3_add_38 : decode cX3_add 38 = .ok (.iconst 1, 1) := by decide +kernel
theorem dX3_add_39 : decode cX3_add 39 = .ok (.isub, 1) := by decide +kernel
theorem dX3_add_40 : decode cX3_add 40 = .ok (.ireturn, 1) := by decide +kernel
theorem dX3_addFind_0 : decode cX3_addFind 0 = .ok (.aload_n 0, 1) := by decide +kernel
theorem dX3_addFind_1 : decode cX3_addFind 1 = .ok (.getfield 15, 3) := by decide +kernel
theorem dX3_addFind_4 : decode cX3_addFind 4 = .ok (.iload_n 1, 1) := by decide +kernel
theorem dX3_addFind_5 : decode cX3_addFind 5 = .ok (.aload_n 0, 1) := by decide +kernel
theorem dX3_addFind_6 : decode cX3_addFind 6 = .ok (.iload_n 1, 1) := by decide +kernel
theorem dX3_addFind_7 : decode cX3_addFind 7 = .ok (.invokevirtual 30, 3) := by decide +kernel
theorem dX3_addFind_10 : decode cX3_addFind 10 = .ok (.iconst 1, 1) := by decide +kernel
theorem dX3_addFind_11 : decode cX3_addFind 11 = .ok (.iadd, 1) := by decide +kernel
theorem dX3_addFind_12 : decode cX3_addFind 12 = .ok (.invokestatic 26, 3) := by decide +kernel
theorem dX3_addFind_15 : decode cX3_addFind 15 = .ok (.return_, 1) := by decide +kernel
theorem dX3_makeNone_0 : decode cX3_makeNone 0 = .ok (.aload_n 0, 1) := by decide +kernel
theorem dX3_makeNone_1 : decode cX3_makeNone 1 = .ok (.iconst 0, 1) := by decide +kernel
theorem dX3_makeNone_2 : decode cX3_makeNone 2 = .ok (.putfield 18, 3) := by decide +kernel
theorem dX3_makeNone_5 : decode cX3_makeNone 5 = .ok (.return_, 1) := by decide +kernel
theorem dX3_take_0 : decode cX3_take 0 = .ok (.aload_n 1, 1) := by decide +kernel
theorem dX3_take_1 : decode cX3_take 1 = .ok (.getfield 9, 3) := by decide +kernel
theorem dX3_take_4 : decode cX3_take 4 = .ok (.aload_n 0, 1) := by decide +kernel
theorem dX3_take_5 : decode cX3_take 5 = .ok (.getfield 9, 3) := by decide +kernel
theorem dX3_take_8 : decode cX3_take 8 = .ok (.invokestatic 34, 3) := by decide +kernel
theorem dX3_take_11 : decode cX3_take 11 = .ok (.aload_n 1, 1) := by decide +kernel
theorem dX3_take_12 : decode cX3_take 12 = .ok (.getfield 15, 3) := by decide +kernel
theorem dX3_take_15 : decode cX3_take 15 = .ok (.aload_n 0, 1) := by decide +kernel
theorem dX3_take_16 : decode cX3_take 16 = .ok (.getfield 15, 3) := by decide +kernel
theorem dX3_take_19 : decode cX3_take 19 = .ok (.invokestatic 34, 3) := by decide +kernel
theorem dX3_take_22 : decode cX3_take 22 = .ok (.aload_n 0, 1) := by decide +kernel
theorem dX3_take_23 : decode cX3_take 23 = .ok (.aload_n 1, 1) := by decide +kernel
theorem dX3_take_24 : decode cX3_take 24 = .ok (.getfield 18, 3) := by decide +kernel
theorem dX3_take_27 : decode cX3_take 27 = .ok (.putfield 18, 3) := by decide +kernel
theorem dX3_take_30 : decode cX3_take 30 = .ok (.return_, 1) := by decide +kernel
theorem dX4_init_0 : decode cX4_init 0 = .ok (.aload_n 0, 1) := by decide +kernel
theorem dX4_init_1 : decode cX4_init 1 = .ok (.invokespecial 1, 3) := by decide +kernel
theorem dX4_init_4 : decode cX4_init 4 = .ok (.aload_n 0, 1) := by decide +kernel
theorem dX4_init_5 : decode cX4_init 5 = .ok (.iconst 0, 1) := by decide +kernel
theorem dX4_init_6 : decode cX4_init 6 = .ok (.putfield 7, 3) := by decide +kernel
theorem dX4_init_9 : decode cX4_init 9 = .ok (.aload_n 0, 1) := by decide +kernel
theorem dX4_init_10 : decode cX4_init 10 = .ok (.iload_n 1, 1) := by decide +kernel
theorem dX4_init_11 : decode cX4_init 11 = .ok (.ifCond .le 7, 3) := by decide +kernel
theorem dX4_init_14 : decode cX4_init 14 = .ok (.iload_n 1, 1) := by decide +kernel
theorem dX4_init_15 : decode cX4_init 15 = .ok (.goto 4, 3) := by decide +kernel
theorem dX4_init_18 : decode cX4_init 18 = .ok (.iconst 0, 1) := by decide +kernel
theorem dX4_init_19 : decode cX4_init 19 = .ok (.newarray .char, 2) := by decide +kernel
theorem dX4_init_21 : decode cX4_init 21 = .ok (.putfield 13, 3) := by decide +kernel
theorem dX4_init_24 : decode cX4_init 24 = .ok (.return_, 1) := by decide +kernel
theorem dX4_makeEmpty_0 : decode cX4_makeEmpty 0 = .ok (.aload_n 0, 1) := by decide +kernel
theorem dX4_makeEmpty_1 : decode cX4_makeEmpty 1 = .ok (.iconst 0, 1) := by decide +kernel
theorem dX4_makeEmpty_2 : decode cX4_makeEmpty 2 = .ok (.putfield 7, 3) := by decide +kernel
theorem dX4_makeEmpty_5 : decode cX4_makeEmpty 5 = .ok (.return_, 1) := by decide +kernel
theorem dX4_put_0 : decode cX4_put 0 = .ok (.aload_n 0, 1) := by decide +kernel
theorem dX4_put_1 : decode cX4_put 1 = .ok (.getfield 7, 3) := by decide +kernel
theorem dX4_put_4 : decode cX4_put 4 = .ok (.ifCond .lt 35, 3) := by decide +kernel
theorem dX4_put_7 : decode cX4_put 7 = .ok (.aload_n 0, 1) := by decide +kernel
theorem dX4_put_8 : decode cX4_put 8 = .ok (.getfield 7, 3) := by decide +kernel
theorem dX4_put_11 : decode cX4_put 11 = .ok (.aload_n 0, 1) := by decide +kernel
theorem dX4_put_12 : decode cX4_put 12 = .ok (.getfield 13, 3) := by decide +kernel
theorem dX4_put_15 : decode cX4_put 15 = .ok (.arraylength, 1) := by decide +kernel
theorem dX4_put_16 : decode cX4_put 16 = .ok (.if_icmp .ge 23, 3) := by decide +kernel
theorem dX4_put_19 : decode cX4_put 19 = .ok (.aload_n 0, 1) := by decide +kernel
theorem dX4_put_20 : decode cX4_put 20 = .ok (.getfield 13, 3) := by decide +kernel
theorem dX4_put_23 : decode cX4_put 23 = .ok (.aload_n 0, 1) := by decide +kernel
theorem dX4_put_24 : decode cX4_put 24 = .ok (.getfield 7, 3) := by decide +kernel
theorem dX4_put_27 : decode cX4_put 27 = .ok (.iload_n 1, 1) := by decide +kernel
theorem dX4_put_28 : decode cX4_put 28 = .ok (.castore, 1) := by decide +kernel
theorem dX4_put_29 : decode cX4_put 29 = .ok (.aload_n 0, 1) := by decide +kernel
theorem dX4_put_30 : decode cX4_put 30 = .ok (.dup, 1) := by decide +kernel
theorem dX4_put_31 : decode cX4_put 31 = .ok (.getfield 7, 3) := by decide +kernel
theorem dX4_put_34 : decode cX4_put 34 = .ok (.iconst 1, 1) := by decide +kernel
theorem dX4_put_35 : decode cX4_put 35 = .ok (.iadd, 1) := by decide +kernel
theorem dX4_put_36 : decode cX4_put 36 = .ok (.putfield 7, 3) := by decide +kernel
theorem dX4_put_39 : decode cX4_put 39 = .ok (.return_, 1) := by decide +kernel
theorem dX4_putNumber_0 : decode cX4_putNumber 0 = .ok (.iload_n 1, 1) := by decide +kernel
theorem dX4_putNumber_1 : decode cX4_putNumber 1 = .ok (.bipush 9, 2) := by decide +kernel
theorem dX4_putNumber_3 : decode cX4_putNumber 3 = .ok (.if_icmp .le 18, 3) := by decide +kernel
theorem dX4_putNumber_6 : decode cX4_putNumber 6 = .ok (.aload_n 0, 1) := by decide +kernel
theorem dX4_putNumber_7 : decode cX4_putNumber 7 = .ok (.bipush 48, 2) := by decide +kernel
theorem dX4_putNumber_9 : decode cX4_putNumber 9 = .ok (.iload_n 1, 1) := by decide +kernel
theorem dX4_putNumber_10 : decode cX4_putNumber 10 = .ok (.bipush 10, 2) := by decide +kernel
theorem dX4_putNumber_12 : decode cX4_putNumber 12 = .ok (.idiv, 1) := by decide +kernel
theorem dX4_putNumber_13 : decode cX4_putNumber 13 = .ok (.bipush 10, 2) := by decide +kernel
theorem dX4_putNumber_15 : decode cX4_putNumber 15 = .ok (.irem, 1) := by decide +kernel
theorem dX4_putNumber_16 : decode cX4_putNumber 16 = .ok (.iadd, 1) := by decide +kernel
theorem dX4_putNumber_17 : decode cX4_putNumber 17 = .ok (.i2c, 1) := by decide +kernel
theorem dX4_putNumber_18 : decode cX4_putNumber 18 = .ok (.invokevirtual 17, 3) := by decide +kernel
theorem dX4_putNumber_21 : decode cX4_putNumber 21 = .ok (.aload_n 0, 1) := by decide +kernel
theorem dX4_putNumber_22 : decode cX4_putNumber 22 = .ok (.bipush 48, 2) := by decide +kernel
theorem dX4_putNumber_24 : decode cX4_putNumber 24 = .ok (.iload_n 1, 1) := by decide +kernel
theorem dX4_putNumber_25 : decode cX4_putNumber 25 = .ok (.bipush 10, 2) := by decide +kernel
theorem dX4_putNumber_27 : decode cX4_putNumber 27 = .ok (.irem, 1) := by decide +kernel
theorem dX4_putNumber_28 : decode cX4_putNumber 28 = .ok (.iadd, 1) := by decide +kernel
theorem dX4_putNumber_29 : decode cX4_putNumber 29 = .ok (.i2c, 1) := by decide +kernel
theorem dX4_putNumber_30 : decode cX4_putNumber 30 = .ok (.invokevirtual 17, 3) := by decide +kernel
theorem dX4_putNumber_33 : decode cX4_putNumber 33 = .ok (.return_, 1) := by decide +kernel
theorem dX4_signAt_0 : decode cX4_signAt 0 = .ok (.iload_n 1, 1) := by decide +kernel
theorem dX4_signAt_1 : decode cX4_signAt 1 = .ok (.ifCond .lt 29, 3) := by decide +kernel
theorem dX4_signAt_4 : decode cX4_signAt 4 = .ok (.iload_n 1, 1) := by decide +kernel
theorem dX4_signAt_5 : decode cX4_signAt 5 = .ok (.aload_n 0, 1) := by decide +kernel
theorem dX4_signAt_6 : decode cX4_signAt 6 = .ok (.getfield 7, 3) := by decide +kernel
theorem dX4_signAt_9 : decode cX4_signAt 9 = .ok (.if_icmp .ge 21, 3) := by decide +kernel
theorem dX4_signAt_12 : decode cX4_signAt 12 = .ok (.iload_n 1, 1) := by decide +kernel
theorem dX4_signAt_13 : decode cX4_signAt 13 = .ok (.aload_n 0, 1) := by decide +kernel
theorem dX4_signAt_14 : decode cX4_signAt 14 = .ok (.getfield 13, 3) := by decide +kernel
theorem dX4_signAt_17 : decode cX4_signAt 17 = .ok (.arraylength, 1) := by decide +kernel
theorem dX4_signAt_18 : decode cX4_signAt 18 = .ok (.if_icmp .ge 12, 3) := by decide +kernel
theorem dX4_signAt_21 : decode cX4_signAt 21 = .ok (.aload_n 0, 1) := by decide +kernel
theorem dX4_signAt_22 : decode cX4_signAt 22 = .ok (.getfield 13, 3) := by decide +kernel
theorem dX4_signAt_25 : decode cX4_signAt 25 = .ok (.iload_n 1, 1) := by decide +kernel
theorem dX4_signAt_26 : decode cX4_signAt 26 = .ok (.caload, 1) := by decide +kernel
theorem dX4_signAt_27 : decode cX4_signAt 27 = .ok (.goto 4, 3) := by decide +kernel
theorem dX4_signAt_30 : decode cX4_signAt 30 = .ok (.iconst 0, 1) := by decide +kernel
theorem dX4_signAt_31 : decode cX4_signAt 31 = .ok (.ireturn, 1) := by decide +kernel
theorem dX5_init_0 : decode cX5_init 0 = .ok (.aload_n 0, 1) := by decide +kernel
theorem dX5_init_1 : decode cX5_init 1 = .ok (.invokespecial 3, 3) := by decide +kernel
theorem dX5_init_4 : decode cX5_init 4 = .ok (.aload_n 0, 1) := by decide +kernel
theorem dX5_init_5 : decode cX5_init 5 = .ok (.bipush 20, 2) := by decide +kernel
theorem dX5_init_7 : decode cX5_init 7 = .ok (.newarray .int, 2) := by decide +kernel
theorem dX5_init_9 : decode cX5_init 9 = .ok (.putfield 9, 3) := by decide +kernel
theorem dX5_init_12 : decode cX5_init 12 = .ok (.aload_n 0, 1) := by decide +kernel
theorem dX5_init_13 : decode cX5_init 13 = .ok (.bipush 60, 2) := by decide +kernel
theorem dX5_init_15 : decode cX5_init 15 = .ok (.newarray .int, 2) := by decide +kernel
theorem dX5_init_17 : decode cX5_init 17 = .ok (.putfield 15, 3) := by decide +kernel
theorem dX5_init_20 : decode cX5_init 20 = .ok (.aload_n 0, 1) := by decide +kernel
theorem dX5_init_21 : decode cX5_init 21 = .ok (.iconst 0, 1) := by decide +kernel
theorem dX5_init_22 : decode cX5_init 22 = .ok (.putfield 18, 3) := by decide +kernel
theorem dX5_init_25 : decode cX5_init 25 = .ok (.aload_n 0, 1) := by decide +kernel
theorem dX5_init_26 : decode cX5_init 26 = .ok (.iconst 0, 1) := by decide +kernel
theorem dX5_init_27 : decode cX5_init 27 = .ok (.putfield 22, 3) := by decide +kernel
theorem dX5_init_30 : decode cX5_init 30 = .ok (.return_, 1) := by decide +kernel
theorem dX5_read_0 : decode cX5_read 0 = .ok (.aload_n 0, 1) := by decide +kernel
theorem dX5_read_1 : decode cX5_read 1 = .ok (.iconst 0, 1) := by decide +kernel
theorem dX5_read_2 : decode cX5_read 2 = .ok (.putfield 18, 3) := by decide +kernel
theorem dX5_read_5 : decode cX5_read 5 = .ok (.aload_n 0, 1) := by decide +kernel
theorem dX5_read_6 : decode cX5_read 6 = .ok (.iconst 0, 1) := by decide +kernel
theorem dX5_read_7 : decode cX5_read 7 = .ok (.putfield 22, 3) := by decide +kernel
theorem dX5_read_10 : decode cX5_read 10 = .ok (.iconst 0, 1) := by decide +kernel
theorem dX5_read_11 : decode cX5_read 11 = .ok (.istore_n 2, 1) := by decide +kernel
theorem dX5_read_12 : decode cX5_read 12 = .ok (.iload_n 2, 1) := by decide +kernel
theorem dX5_read_13 : decode cX5_read 13 = .ok (.bipush 20, 2) := by decide +kernel
theorem dX5_read_15 : decode cX5_read 15 = .ok (.if_icmp .ge 61, 3) := by decide +kernel
theorem dX5_read_18 : decode cX5_read 18 = .ok (.aload_n 0, 1) := by decide +kernel
theorem dX5_read_19 : decode cX5_read 19 = .ok (.aload_n 1, 1) := by decide +kernel
theorem dX5_read_20 : decode cX5_read 20 = .ok (.invokevirtual 25, 3) := by decide +kernel
theorem dX5_read_23 : decode cX5_read 23 = .ok (.ifCond .ne 8, 3) := by decide +kernel
theorem dX5_read_26 : decode cX5_read 26 = .ok (.aload_n 0, 1) := by decide +kernel
theorem dX5_read_27 : decode cX5_read 27 = .ok (.getfield 22, 3) := by decide +kernel
theorem dX5_read_30 : decode cX5_read 30 = .ok (.ireturn, 1) := by decide +kernel
theorem dX5_read_31 : decode cX5_read 31 = .ok (.aload_n 0, 1) := by decide +kernel
theorem dX5_read_32 : decode cX5_read 32 = .ok (.dup, 1) := by decide +kernel
theorem dX5_read_33 : decode cX5_read 33 = .ok (.getfield 18, 3) := by decide +kernel
theorem dX5_read_36 : decode cX5_read 36 = .ok (.iconst 1, 1) := by decide +kernel
theorem dX5_read_37 : decode cX5_read 37 = .ok (.iadd, 1) := by decide +kernel
theorem dX5_read_38 : decode cX5_read 38 = .ok (.putfield 18, 3) := by decide +kernel
theorem dX5_read_41 : decode cX5_read 41 = .ok (.aload_n 0, 1) := by decide +kernel
theorem dX5_read_42 : decode cX5_read 42 = .ok (.getfield 22, 3) := by decide +kernel
theorem dX5_read_45 : decode cX5_read 45 = .ok (.aload_n 1, 1) := by decide +kernel
theorem dX5_read_46 : decode cX5_read 46 = .ok (.getfield 29, 3) := by decide +kernel
theorem dX5_read_49 : decode cX5_read 49 = .ok (.if_icmp .lt 6, 3) := by decide +kernel
theorem dX5_read_52 : decode cX5_read 52 = .ok (.bipush (-4), 2) := by decide +kernel
theorem dX5_read_54 : decode cX5_read 54 = .ok (.ireturn, 1) := by decide +kernel
theorem dX5_read_55 : decode cX5_read 55 = .ok (.aload_n 0, 1) := by decide +kernel
theorem dX5_read_56 : decode cX5_read 56 = .ok (.aload_n 1, 1) := by decide +kernel
theorem dX5_read_57 : decode cX5_read 57 = .ok (.bipush 59, 2) := by decide +kernel
theorem dX5_read_59 : decode cX5_read 59 = .ok (.invokevirtual 34, 3) := by decide +kernel
theorem dX5_read_62 : decode cX5_read 62 = .ok (.ifCond .ne 8, 3) := by decide +kernel
theorem dX5_read_65 : decode cX5_read 65 = .ok (.aload_n 0, 1) := by decide +kernel
theorem dX5_read_66 : decode cX5_read 66 = .ok (.getfield 22, 3) := by decide +kernel
theorem dX5_read_69 : decode cX5_read 69 = .ok (.ireturn, 1) := by decide +kernel
theorem dX5_read_70 : decode cX5_read 70 = .ok (.iinc 2 1, 3) := by decide +kernel
theorem dX5_read_73 : decode cX5_read 73 = .ok (.goto (-61), 3) := by decide +kernel
theorem dX5_read_76 : decode cX5_read 76 = .ok (.aload_n 0, 1) := by decide +kernel
theorem dX5_read_77 : decode cX5_read 77 = .ok (.getfield 22, 3) := by decide +kernel
theorem dX5_read_80 : decode cX5_read 80 = .ok (.ireturn, 1) := by decide +kernel
theorem dX5_letterOf_0 : decode cX5_letterOf 0 = .ok (.aload_n 0, 1) := by decide +kernel
theorem dX5_letterOf_1 : decode cX5_letterOf 1 = .ok (.getfield 9, 3) := by decide +kernel
theorem dX5_letterOf_4 : decode cX5_letterOf 4 = .ok (.iload_n 1, 1) := by decide +kernel
theorem dX5_letterOf_5 : decode cX5_letterOf 5 = .ok (.invokestatic 38, 3) := by decide +kernel
theorem dX5_letterOf_8 : decode cX5_letterOf 8 = .ok (.ireturn, 1) := by decide +kernel
theorem dX5_numberOf_0 : decode cX5_numberOf 0 = .ok (.aload_n 0, 1) := by decide +kernel
theorem dX5_numberOf_1 : decode cX5_numberOf 1 = .ok (.getfield 15, 3) := by decide +kernel
theorem dX5_numberOf_4 : decode cX5_numberOf 4 = .ok (.iload_n 1, 1) := by decide +kernel
theorem dX5_numberOf_5 : decode cX5_numberOf 5 = .ok (.iconst 3, 1) := by decide +kernel
theorem dX5_numberOf_6 : decode cX5_numberOf 6 = .ok (.imul, 1) := by decide +kernel
theorem dX5_numberOf_7 : decode cX5_numberOf 7 = .ok (.iload_n 2, 1) := by decide +kernel
theorem dX5_numberOf_8 : decode cX5_numberOf 8 = .ok (.iadd, 1) := by decide +kernel
theorem dX5_numberOf_9 : decode cX5_numberOf 9 = .ok (.invokestatic 38, 3) := by decide +kernel
theorem dX5_numberOf_12 : decode cX5_numberOf 12 = .ok (.ireturn, 1) := by decide +kernel
theorem dX5_readOrder_0 : decode cX5_readOrder 0 = .ok (.aload_n 1, 1) := by decide +kernel
theorem dX5_readOrder_1 : decode cX5_readOrder 1 = .ok (.aload_n 0, 1) := by decide +kernel
theorem dX5_readOrder_2 : decode cX5_readOrder 2 = .ok (.getfield 22, 3) := by decide +kernel
theorem dX5_readOrder_5 : decode cX5_readOrder 5 = .ok (.invokevirtual 42, 3) := by decide +kernel
theorem dX5_readOrder_8 : decode cX5_readOrder 8 = .ok (.istore_n 2, 1) := by decide +kernel
theorem dX5_readOrder_9 : decode cX5_readOrder 9 = .ok (.iload_n 2, 1) := by decide +kernel
theorem dX5_readOrder_10 : decode cX5_readOrder 10 = .ok (.invokestatic 46, 3) := by decide +kernel
theorem dX5_readOrder_13 : decode cX5_readOrder 13 = .ok (.astore_n 3, 1) := by decide +kernel
theorem dX5_readOrder_14 : decode cX5_readOrder 14 = .ok (.aload_n 3, 1) := by decide +kernel
theorem dX5_readOrder_15 : decode cX5_readOrder 15 = .ok (.invokevirtual 50, 3) := by decide +kernel
theorem dX5_readOrder_18 : decode cX5_readOrder 18 = .ok (.ifCond .eq 5, 3) := by decide +kernel
theorem dX5_readOrder_21 : decode cX5_readOrder 21 = .ok (.iconst 0, 1) := by decide +kernel
theorem dX5_readOrder_22 : decode cX5_readOrder 22 = .ok (.ireturn, 1) := by decide +kernel
theorem dX5_readOrder_23 : decode cX5_readOrder 23 = .ok (.aload_n 0, 1) := by decide +kernel
theorem dX5_readOrder_24 : decode cX5_readOrder 24 = .ok (.getfield 9, 3) := by decide +kernel
theorem dX5_readOrder_27 : decode cX5_readOrder 27 = .ok (.aload_n 0, 1) := by decide +kernel
theorem dX5_readOrder_28 : decode cX5_readOrder 28 = .ok (.getfield 18, 3) := by decide +kernel
theorem dX5_readOrder_31 : decode cX5_readOrder 31 = .ok (.iload_n 2, 1) := by decide +kernel
theorem dX5_readOrder_32 : decode cX5_readOrder 32 = .ok (.invokestatic 56, 3) := by decide +kernel
theorem dX5_readOrder_35 : decode cX5_readOrder 35 = .ok (.aload_n 0, 1) := by decide +kernel
theorem dX5_readOrder_36 : decode cX5_readOrder 36 = .ok (.dup, 1) := by decide +kernel
theorem dX5_readOrder_37 : decode cX5_readOrder 37 = .ok (.getfield 22, 3) := by decide +kernel
theorem dX5_readOrder_40 : decode cX5_readOrder 40 = .ok (.iconst 1, 1) := by decide +kernel
theorem dX5_readOrder_41 : decode cX5_readOrder 41 = .ok (.iadd, 1) := by decide +kernel
theorem dX5_readOrder_42 : decode cX5_readOrder 42 = .ok (.putfield 22, 3) := by decide +kernel
theorem dX5_readOrder_45 : decode cX5_readOrder 45 = .ok (.iconst 0, 1) := by decide +kernel
theorem dX5_readOrder_46 : decode cX5_readOrder 46 = .ok (.istore 4, 2) := by decide +kernel
theorem dX5_readOrder_48 : decode cX5_readOrder 48 = .ok (.iconst 0, 1) := by decide +kernel
theorem dX5_readOrder_49 : decode cX5_readOrder 49 = .ok (.istore 5, 2) := by decide +kernel
theorem dX5_readOrder_51 : decode cX5_readOrder 51 = .ok (.iload 5, 2) := by decide +kernel
theorem dX5_readOrder_53 : decode cX5_readOrder 53 = .ok (.aload_n 3, 1) := by decide +kernel
theorem dX5_readOrder_54 : decode cX5_readOrder 54 = .ok (.invokevirtual 60, 3) := by decide +kernel
theorem dX5_readOrder_57 : decode cX5_readOrder 57 = .ok (.if_icmp .ge 95, 3) := by decide +kernel
theorem dX5_readOrder_60 : decode cX5_readOrder 60 = .ok (.aload_n 3, 1) := by decide +kernel
theorem dX5_readOrder_61 : decode cX5_readOrder 61 = .ok (.iload 5, 2) := by decide +kernel
theorem dX5_readOrder_63 : decode cX5_readOrder 63 = .ok (.invokevirtual 63, 3) := by decide +kernel
theorem dX5_readOrder_66 : decode cX5_readOrder 66 = .ok (.istore 6, 2) := by decide +kernel
theorem dX5_readOrder_68 : decode cX5_readOrder 68 = .ok (.iload 6, 2) := by decide +kernel
theorem dX5_readOrder_70 : decode cX5_readOrder 70 = .ok (.bipush 35, 2) := by decide +kernel
theorem dX5_readOrder_72 : decode cX5_readOrder 72 = .ok (.if_icmp .eq 14, 3) := by decide +kernel
theorem dX5_readOrder_75 : decode cX5_readOrder 75 = .ok (.iload 6, 2) := by decide +kernel
theorem dX5_readOrder_77 : decode cX5_readOrder 77 = .ok (.bipush 37, 2) := by decide +kernel
theorem dX5_readOrder_79 : decode cX5_readOrder 79 = .ok (.if_icmp .eq 7, 3) := by decide +kernel
theorem dX5_readOrder_82 : decode cX5_readOrder 82 = .ok (.iconst 1, 1) := by decide +kernel
theorem dX5_readOrder_83 : decode cX5_readOrder 83 = .ok (.goto 4, 3) := by decide +kernel
theorem dX5_readOrder_86 : decode cX5_readOrder 86 = .ok (.iconst 0, 1) := by decide +kernel
theorem dX5_readOrder_87 : decode cX5_readOrder 87 = .ok (.istore 7, 2) := by decide +kernel
theorem dX5_readOrder_89 : decode cX5_readOrder 89 = .ok (.iload 7, 2) := by decide +kernel
theorem dX5_readOrder_91 : decode cX5_readOrder 91 = .ok (.ifCond .eq 16, 3) := by decide +kernel
theorem dX5_readOrder_94 : decode cX5_readOrder 94 = .ok (.aload_n 0, 1) := by decide +kernel
theorem dX5_readOrder_95 : decode cX5_readOrder 95 = .ok (.aload_n 1, 1) := by decide +kernel
theorem dX5_readOrder_96 : decode cX5_readOrder 96 = .ok (.iload 6, 2) := by decide +kernel
theorem dX5_readOrder_98 : decode cX5_readOrder 98 = .ok (.invokevirtual 34, 3) := by decide +kernel
theorem dX5_readOrder_101 : decode cX5_readOrder 101 = .ok (.ifCond .ne 30, 3) := by decide +kernel
theorem dX5_readOrder_104 : decode cX5_readOrder 104 = .ok (.goto 25, 3) := by decide +kernel
theorem dX5_readOrder_107 : decode cX5_readOrder 107 = .ok (.aload_n 0, 1) := by decide +kernel
theorem dX5_readOrder_108 : decode cX5_readOrder 108 = .ok (.aload_n 1, 1) := by decide +kernel
theorem dX5_readOrder_109 : decode cX5_readOrder 109 = .ok (.iload 4, 2) := by decide +kernel
theorem dX5_readOrder_111 : decode cX5_readOrder 111 = .ok (.iload 6, 2) := by decide +kernel
theorem dX5_readOrder_113 : decode cX5_readOrder 113 = .ok (.bipush 37, 2) := by decide +kernel
theorem dX5_readOrder_115 : decode cX5_readOrder 115 = .ok (.if_icmp .ne 7, 3) := by decide +kernel
theorem dX5_readOrder_118 : decode cX5_readOrder 118 = .ok (.iconst 1, 1) := by decide +kernel
theorem dX5_readOrder_119 : decode cX5_readOrder 119 = .ok (.goto 4, 3) := by decide +kernel
theorem dX5_readOrder_122 : decode cX5_readOrder 122 = .ok (.iconst 0, 1) := by decide +kernel
theorem dX5_readOrder_123 : decode cX5_readOrder 123 = .ok (.invokevirtual 66, 3) := by decide +kernel
theorem dX5_readOrder_126 : decode cX5_readOrder 126 = .ok (.ifCond .ne 5, 3) := by decide +kernel
theorem dX5_readOrder_129 : decode cX5_readOrder 129 = .ok (.iconst 0, 1) := by decide +kernel
theorem dX5_readOrder_130 : decode cX5_readOrder 130 = .ok (.ireturn, 1) := by decide +kernel
theorem dX5_readOrder_131 : decode cX5_readOrder 131 = .ok (.iload 4, 2) := by decide +kernel
theorem dX5_readOrder_133 : decode cX5_readOrder 133 = .ok (.iload 7, 2) := by decide +kernel
theorem dX5_readOrder_135 : decode cX5_readOrder 135 = .ok (.ifCond .eq 7, 3) := by decide +kernel
theorem dX5_readOrder_138 : decode cX5_readOrder 138 = .ok (.iconst 0, 1) := by decide +kernel
theorem dX5_readOrder_139 : decode cX5_readOrder 139 = .ok (.goto 4, 3) := by decide +kernel
theorem dX5_readOrder_142 : decode cX5_readOrder 142 = .ok (.iconst 1, 1) := by decide +kernel
theorem dX5_readOrder_143 : decode cX5_readOrder 143 = .ok (.iadd, 1) := by decide +kernel
theorem dX5_readOrder_144 : decode cX5_readOrder 144 = .ok (.istore 4, 2) := by decide +kernel
theorem dX5_readOrder_146 : decode cX5_readOrder 146 = .ok (.iinc 5 1, 3) := by decide +kernel
theorem dX5_readOrder_149 : decode cX5_readOrder 149 = .ok (.goto (-98), 3) := by decide +kernel
theorem dX5_readOrder_152 : decode cX5_readOrder 152 = .ok (.iconst 1, 1) := by decide +kernel
theorem dX5_readOrder_153 : decode cX5_readOrder 153 = .ok (.ireturn, 1) := by decide +kernel
theorem dX5_formOf_0 : decode cX5_formOf 0 = .ok (.iload_n 0, 1) := by decide +kernel
theorem dX5_formOf_1 : decode cX5_formOf 1 = .ok (.tableswitch 110 98 117 #[95, 110, 98, 110, 110, 107, 110, 101, 110, 110, 104, 110, 107, 110, 110, 110, 110, 110, 98, 101], 95) := by decide +kernel
theorem dX5_formOf_96 : decode cX5_formOf 96 = .ok (.ldc 70, 2) := by decide +kernel
theorem dX5_formOf_98 : decode cX5_formOf 98 = .ok (.areturn, 1) := by decide +kernel
theorem dX5_formOf_99 : decode cX5_formOf 99 = .ok (.ldc 72, 2) := by decide +kernel
theorem dX5_formOf_101 : decode cX5_formOf 101 = .ok (.areturn, 1) := by decide +kernel
theorem dX5_formOf_102 : decode cX5_formOf 102 = .ok (.ldc 74, 2) := by decide +kernel
theorem dX5_formOf_104 : decode cX5_formOf 104 = .ok (.areturn, 1) := by decide +kernel
theorem dX5_formOf_105 : decode cX5_formOf 105 = .ok (.ldc 76, 2) := by decide +kernel
theorem dX5_formOf_107 : decode cX5_formOf 107 = .ok (.areturn, 1) := by decide +kernel
theorem dX5_formOf_108 : decode cX5_formOf 108 = .ok (.ldc 78, 2) := by decide +kernel
theorem dX5_formOf_110 : decode cX5_formOf 110 = .ok (.areturn, 1) := by decide +kernel
theorem dX5_formOf_111 : decode cX5_formOf 111 = .ok (.ldc 80, 2) := by decide +kernel
theorem dX5_formOf_113 : decode cX5_formOf 113 = .ok (.areturn, 1) := by decide +kernel
theorem dX5_readSign_0 : decode cX5_readSign 0 = .ok (.aload_n 1, 1) := by decide +kernel
theorem dX5_readSign_1 : decode cX5_readSign 1 = .ok (.aload_n 0, 1) := by decide +kernel
theorem dX5_readSign_2 : decode cX5_readSign 2 = .ok (.getfield 22, 3) := by decide +kernel
theorem dX5_readSign_5 : decode cX5_readSign 5 = .ok (.invokevirtual 42, 3) := by decide +kernel
theorem dX5_readSign_8 : decode cX5_readSign 8 = .ok (.iload_n 2, 1) := by decide +kernel
theorem dX5_readSign_9 : decode cX5_readSign 9 = .ok (.if_icmp .eq 5, 3) := by decide +kernel
theorem dX5_readSign_12 : decode cX5_readSign 12 = .ok (.iconst 0, 1) := by decide +kernel
theorem dX5_readSign_13 : decode cX5_readSign 13 = .ok (.ireturn, 1) := by decide +kernel
theorem dX5_readSign_14 : decode cX5_readSign 14 = .ok (.aload_n 0, 1) := by decide +kernel
theorem dX5_readSign_15 : decode cX5_readSign 15 = .ok (.dup, 1) := by decide +kernel
theorem dX5_readSign_16 : decode cX5_readSign 16 = .ok (.getfield 22, 3) := by decide +kernel
theorem dX5_readSign_19 : decode cX5_readSign 19 = .ok (.iconst 1, 1) := by decide +kernel
theorem dX5_readSign_20 : decode cX5_readSign 20 = .ok (.iadd, 1) := by decide +kernel
theorem dX5_readSign_21 : decode cX5_readSign 21 = .ok (.putfield 22, 3) := by decide +kernel
theorem dX5_readSign_24 : decode cX5_readSign 24 = .ok (.iconst 1, 1) := by decide +kernel
theorem dX5_readSign_25 : decode cX5_readSign 25 = .ok (.ireturn, 1) := by decide +kernel
theorem dX5_readNumber_0 : decode cX5_readNumber 0 = .ok (.aload_n 1, 1) := by decide +kernel
theorem dX5_readNumber_1 : decode cX5_readNumber 1 = .ok (.aload_n 0, 1) := by decide +kernel
theorem dX5_readNumber_2 : decode cX5_readNumber 2 = .ok (.getfield 22, 3) := by decide +kernel
theorem dX5_readNumber_5 : decode cX5_readNumber 5 = .ok (.invokevirtual 42, 3) := by decide +kernel
theorem dX5_readNumber_8 : decode cX5_readNumber 8 = .ok (.invokestatic 82, 3) := by decide +kernel
theorem dX5_readNumber_11 : decode cX5_readNumber 11 = .ok (.ifCond .ne 5, 3) := by decide +kernel
theorem dX5_readNumber_14 : decode cX5_readNumber 14 = .ok (.iconst 0, 1) := by decide +kernel
theorem dX5_readNumber_15 : decode cX5_readNumber 15 = .ok (.ireturn, 1) := by decide +kernel
theorem dX5_readNumber_16 : decode cX5_readNumber 16 = .ok (.aload_n 1, 1) := by decide +kernel
theorem dX5_readNumber_17 : decode cX5_readNumber 17 = .ok (.aload_n 0, 1) := by decide +kernel
theorem dX5_readNumber_18 : decode cX5_readNumber 18 = .ok (.getfield 22, 3) := by decide +kernel
theorem dX5_readNumber_21 : decode cX5_readNumber 21 = .ok (.invokevirtual 42, 3) := by decide +kernel
theorem dX5_readNumber_24 : decode cX5_readNumber 24 = .ok (.bipush 48, 2) := by decide +kernel
theorem dX5_readNumber_26 : decode cX5_readNumber 26 = .ok (.isub, 1) := by decide +kernel
theorem dX5_readNumber_27 : decode cX5_readNumber 27 = .ok (.istore 4, 2) := by decide +kernel
theorem dX5_readNumber_29 : decode cX5_readNumber 29 = .ok (.aload_n 0, 1) := by decide +kernel
theorem dX5_readNumber_30 : decode cX5_readNumber 30 = .ok (.dup, 1) := by decide +kernel
theorem dX5_readNumber_31 : decode cX5_readNumber 31 = .ok (.getfield 22, 3) := by decide +kernel
theorem dX5_readNumber_34 : decode cX5_readNumber 34 = .ok (.iconst 1, 1) := by decide +kernel
theorem dX5_readNumber_35 : decode cX5_readNumber 35 = .ok (.iadd, 1) := by decide +kernel
theorem dX5_readNumber_36 : decode cX5_readNumber 36 = .ok (.putfield 22, 3) := by decide +kernel
theorem dX5_readNumber_39 : decode cX5_readNumber 39 = .ok (.iload_n 3, 1) := by decide +kernel
theorem dX5_readNumber_40 : decode cX5_readNumber 40 = .ok (.ifCond .eq 46, 3) := by decide +kernel
theorem dX5_readNumber_43 : decode cX5_readNumber 43 = .ok (.aload_n 1, 1) := by decide +kernel
theorem dX5_readNumber_44 : decode cX5_readNumber 44 = .ok (.aload_n 0, 1) := by decide +kernel
theorem dX5_readNumber_45 : decode cX5_readNumber 45 = .ok (.getfield 22, 3) := by decide +kernel
theorem dX5_readNumber_48 : decode cX5_readNumber 48 = .ok (.invokevirtual 42, 3) := by decide +kernel
theorem dX5_readNumber_51 : decode cX5_readNumber 51 = .ok (.invokestatic 82, 3) := by decide +kernel
theorem dX5_readNumber_54 : decode cX5_readNumber 54 = .ok (.ifCond .eq 32, 3) := by decide +kernel
theorem dX5_readNumber_57 : decode cX5_readNumber 57 = .ok (.iload 4, 2) := by decide +kernel
theorem dX5_readNumber_59 : decode cX5_readNumber 59 = .ok (.bipush 10, 2) := by decide +kernel
theorem dX5_readNumber_61 : decode cX5_readNumber 61 = .ok (.imul, 1) := by decide +kernel
theorem dX5_readNumber_62 : decode cX5_readNumber 62 = .ok (.aload_n 1, 1) := by decide +kernel
theorem dX5_readNumber_63 : decode cX5_readNumber 63 = .ok (.aload_n 0, 1) := by decide +kernel
theorem dX5_readNumber_64 : decode cX5_readNumber 64 = .ok (.getfield 22, 3) := by decide +kernel
theorem dX5_readNumber_67 : decode cX5_readNumber 67 = .ok (.invokevirtual 42, 3) := by decide +kernel
theorem dX5_readNumber_70 : decode cX5_readNumber 70 = .ok (.iadd, 1) := by decide +kernel
theorem dX5_readNumber_71 : decode cX5_readNumber 71 = .ok (.bipush 48, 2) := by decide +kernel
theorem dX5_readNumber_73 : decode cX5_readNumber 73 = .ok (.isub, 1) := by decide +kernel
theorem dX5_readNumber_74 : decode cX5_readNumber 74 = .ok (.istore 4, 2) := by decide +kernel
theorem dX5_readNumber_76 : decode cX5_readNumber 76 = .ok (.aload_n 0, 1) := by decide +kernel
theorem dX5_readNumber_77 : decode cX5_readNumber 77 = .ok (.dup, 1) := by decide +kernel
theorem dX5_readNumber_78 : decode cX5_readNumber 78 = .ok (.getfield 22, 3) := by decide +kernel
theorem dX5_readNumber_81 : decode cX5_readNumber 81 = .ok (.iconst 1, 1) := by decide +kernel
theorem dX5_readNumber_82 : decode cX5_readNumber 82 = .ok (.iadd, 1) := by decide +kernel
theorem dX5_readNumber_83 : decode cX5_readNumber 83 = .ok (.putfield 22, 3) := by decide +kernel
theorem dX5_readNumber_86 : decode cX5_readNumber 86 = .ok (.aload_n 0, 1) := by decide +kernel
theorem dX5_readNumber_87 : decode cX5_readNumber 87 = .ok (.getfield 15, 3) := by decide +kernel
theorem dX5_readNumber_90 : decode cX5_readNumber 90 = .ok (.aload_n 0, 1) := by decide +kernel
theorem dX5_readNumber_91 : decode cX5_readNumber 91 = .ok (.getfield 18, 3) := by decide +kernel
theorem dX5_readNumber_94 : decode cX5_readNumber 94 = .ok (.iconst 3, 1) := by decide +kernel
theorem dX5_readNumber_95 : decode cX5_readNumber 95 = .ok (.imul, 1) := by decide +kernel
theorem dX5_readNumber_96 : decode cX5_readNumber 96 = .ok (.iload_n 2, 1) := by decide +kernel
theorem dX5_readNumber_97 : decode cX5_readNumber 97 = .ok (.iadd, 1) := by decide +kernel
theorem dX5_readNumber_98 : decode cX5_readNumber 98 = .ok (.iload 4, 2) := by decide +kernel
theorem dX5_readNumber_100 : decode cX5_readNumber 100 = .ok (.invokestatic 56, 3) := by decide +kernel
theorem dX5_readNumber_103 : decode cX5_readNumber 103 = .ok (.iconst 1, 1) := by decide +kernel
theorem dX5_readNumber_104 : decode cX5_readNumber 104 = .ok (.ireturn, 1) := by decide +kernel
theorem dX5_isDigit_0 : decode cX5_isDigit 0 = .ok (.iload_n 0, 1) := by decide +kernel
theorem dX5_isDigit_1 : decode cX5_isDigit 1 = .ok (.bipush 48, 2) := by decide +kernel
theorem dX5_isDigit_3 : decode cX5_isDigit 3 = .ok (.if_icmp .lt 13, 3) := by decide +kernel
theorem dX5_isDigit_6 : decode cX5_isDigit 6 = .ok (.iload_n 0, 1) := by decide +kernel
theorem dX5_isDigit_7 : decode cX5_isDigit 7 = .ok (.bipush 57, 2) := by decide +kernel
theorem dX5_isDigit_9 : decode cX5_isDigit 9 = .ok (.if_icmp .gt 7, 3) := by decide +kernel
theorem dX5_isDigit_12 : decode cX5_isDigit 12 = .ok (.iconst 1, 1) := by decide +kernel
theorem dX5_isDigit_13 : decode cX5_isDigit 13 = .ok (.goto 4, 3) := by decide +kernel
theorem dX5_isDigit_16 : decode cX5_isDigit 16 = .ok (.iconst 0, 1) := by decide +kernel
theorem dX5_isDigit_17 : decode cX5_isDigit 17 = .ok (.ireturn, 1) := by decide +kernel
theorem dX6_init_0 : decode cX6_init 0 = .ok (.aload_n 0, 1) := by decide +kernel
theorem dX6_init_1 : decode cX6_init 1 = .ok (.invokespecial 3, 3) := by decide +kernel
theorem dX6_init_4 : decode cX6_init 4 = .ok (.aload_n 0, 1) := by decide +kernel
theorem dX6_init_5 : decode cX6_init 5 = .ok (.iconst 3, 1) := by decide +kernel
theorem dX6_init_6 : decode cX6_init 6 = .ok (.newarray .int, 2) := by decide +kernel
theorem dX6_init_8 : decode cX6_init 8 = .ok (.putfield 11, 3) := by decide +kernel
theorem dX6_init_11 : decode cX6_init 11 = .ok (.aload_n 0, 1) := by decide +kernel
theorem dX6_init_12 : decode cX6_init 12 = .ok (.iconst 3, 1) := by decide +kernel
theorem dX6_init_13 : decode cX6_init 13 = .ok (.newarray .int, 2) := by decide +kernel
theorem dX6_init_15 : decode cX6_init 15 = .ok (.putfield 15, 3) := by decide +kernel
theorem dX6_init_18 : decode cX6_init 18 = .ok (.aload_n 0, 1) := by decide +kernel
theorem dX6_init_19 : decode cX6_init 19 = .ok (.iconst 0, 1) := by decide +kernel
theorem dX6_init_20 : decode cX6_init 20 = .ok (.putfield 18, 3) := by decide +kernel
theorem dX6_init_23 : decode cX6_init 23 = .ok (.return_, 1) := by decide +kernel
theorem dX6_refuse_0 : decode cX6_refuse 0 = .ok (.aload_n 0, 1) := by decide +kernel
theorem dX6_refuse_1 : decode cX6_refuse 1 = .ok (.iconst 0, 1) := by decide +kernel
theorem dX6_refuse_2 : decode cX6_refuse 2 = .ok (.putfield 18, 3) := by decide +kernel
theorem dX6_refuse_5 : decode cX6_refuse 5 = .ok (.aload_n 0, 1) := by decide +kernel
theorem dX6_refuse_6 : decode cX6_refuse 6 = .ok (.iload_n 1, 1) := by decide +kernel
theorem dX6_refuse_7 : decode cX6_refuse 7 = .ok (.iload_n 2, 1) := by decide +kernel
theorem dX6_refuse_8 : decode cX6_refuse 8 = .ok (.invokevirtual 22, 3) := by decide +kernel
theorem dX6_refuse_11 : decode cX6_refuse 11 = .ok (.bipush (-3), 2) := by decide +kernel
theorem dX6_refuse_13 : decode cX6_refuse 13 = .ok (.ireturn, 1) := by decide +kernel
theorem dX6_refuseShut_0 : decode cX6_refuseShut 0 = .ok (.aload_n 0, 1) := by decide +kernel
theorem dX6_refuseShut_1 : decode cX6_refuseShut 1 = .ok (.bipush 6, 2) := by decide +kernel
theorem dX6_refuseShut_3 : decode cX6_refuseShut 3 = .ok (.iload_n 1, 1) := by decide +kernel
theorem dX6_refuseShut_4 : decode cX6_refuseShut 4 = .ok (.invokevirtual 26, 3) := by decide +kernel
theorem dX6_refuseShut_7 : decode cX6_refuseShut 7 = .ok (.pop, 1) := by decide +kernel
theorem dX6_refuseShut_8 : decode cX6_refuseShut 8 = .ok (.aload_n 0, 1) := by decide +kernel
theorem dX6_refuseShut_9 : decode cX6_refuseShut 9 = .ok (.bipush 13, 2) := by decide +kernel
theorem dX6_refuseShut_11 : decode cX6_refuseShut 11 = .ok (.iload_n 2, 1) := by decide +kernel
theorem dX6_refuseShut_12 : decode cX6_refuseShut 12 = .ok (.invokevirtual 22, 3) := by decide +kernel
theorem dX6_refuseShut_15 : decode cX6_refuseShut 15 = .ok (.bipush (-3), 2) := by decide +kernel
theorem dX6_refuseShut_17 : decode cX6_refuseShut 17 = .ok (.ireturn, 1) := by decide +kernel
theorem dX6_refuseOrder_0 : decode cX6_refuseOrder 0 = .ok (.iload_n 2, 1) := by decide +kernel
theorem dX6_refuseOrder_1 : decode cX6_refuseOrder 1 = .ok (.ifCond .eq 10, 3) := by decide +kernel
theorem dX6_refuseOrder_4 : decode cX6_refuseOrder 4 = .ok (.aload_n 0, 1) := by decide +kernel
theorem dX6_refuseOrder_5 : decode cX6_refuseOrder 5 = .ok (.getfield 18, 3) := by decide +kernel
theorem dX6_refuseOrder_8 : decode cX6_refuseOrder 8 = .ok (.goto 4, 3) := by decide +kernel
theorem dX6_refuseOrder_11 : decode cX6_refuseOrder 11 = .ok (.iconst 0, 1) := by decide +kernel
theorem dX6_refuseOrder_12 : decode cX6_refuseOrder 12 = .ok (.istore_n 3, 1) := by decide +kernel
theorem dX6_refuseOrder_13 : decode cX6_refuseOrder 13 = .ok (.iload_n 3, 1) := by decide +kernel
theorem dX6_refuseOrder_14 : decode cX6_refuseOrder 14 = .ok (.istore 4, 2) := by decide +kernel
theorem dX6_refuseOrder_16 : decode cX6_refuseOrder 16 = .ok (.iload 4, 2) := by decide +kernel
theorem dX6_refuseOrder_18 : decode cX6_refuseOrder 18 = .ok (.ifCond .le 49, 3) := by decide +kernel
theorem dX6_refuseOrder_21 : decode cX6_refuseOrder 21 = .ok (.aload_n 0, 1) := by decide +kernel
theorem dX6_refuseOrder_22 : decode cX6_refuseOrder 22 = .ok (.getfield 11, 3) := by decide +kernel
theorem dX6_refuseOrder_25 : decode cX6_refuseOrder 25 = .ok (.iload 4, 2) := by decide +kernel
theorem dX6_refuseOrder_27 : decode cX6_refuseOrder 27 = .ok (.aload_n 0, 1) := by decide +kernel
theorem dX6_refuseOrder_28 : decode cX6_refuseOrder 28 = .ok (.getfield 11, 3) := by decide +kernel
theorem dX6_refuseOrder_31 : decode cX6_refuseOrder 31 = .ok (.iload 4, 2) := by decide +kernel
theorem dX6_refuseOrder_33 : decode cX6_refuseOrder 33 = .ok (.iconst 1, 1) := by decide +kernel
theorem dX6_refuseOrder_34 : decode cX6_refuseOrder 34 = .ok (.isub, 1) := by decide +kernel
theorem dX6_refuseOrder_35 : decode cX6_refuseOrder 35 = .ok (.invokestatic 30, 3) := by decide +kernel
theorem dX6_refuseOrder_38 : decode cX6_refuseOrder 38 = .ok (.invokestatic 34, 3) := by decide +kernel
theorem dX6_refuseOrder_41 : decode cX6_refuseOrder 41 = .ok (.aload_n 0, 1) := by decide +kernel
theorem dX6_refuseOrder_42 : decode cX6_refuseOrder 42 = .ok (.getfield 15, 3) := by decide +kernel
theorem dX6_refuseOrder_45 : decode cX6_refuseOrder 45 = .ok (.iload 4, 2) := by decide +kernel
theorem dX6_refuseOrder_47 : decode cX6_refuseOrder 47 = .ok (.aload_n 0, 1) := by decide +kernel
theorem dX6_refuseOrder_48 : decode cX6_refuseOrder 48 = .ok (.getfield 15, 3) := by decide +kernel
theorem dX6_refuseOrder_51 : decode cX6_refuseOrder 51 = .ok (.iload 4, 2) := by decide +kernel
theorem dX6_refuseOrder_53 : decode cX6_refuseOrder 53 = .ok (.iconst 1, 1) := by decide +kernel
theorem dX6_refuseOrder_54 : decode cX6_refuseOrder 54 = .ok (.isub, 1) := by decide +kernel
theorem dX6_refuseOrder_55 : decode cX6_refuseOrder 55 = .ok (.invokestatic 30, 3) := by decide +kernel
theorem dX6_refuseOrder_58 : decode cX6_refuseOrder 58 = .ok (.invokestatic 34, 3) := by decide +kernel
theorem dX6_refuseOrder_61 : decode cX6_refuseOrder 61 = .ok (.iinc 4 (-1), 3) := by decide +kernel
theorem dX6_refuseOrder_64 : decode cX6_refuseOrder 64 = .ok (.goto (-48), 3) := by decide +kernel
theorem dX6_refuseOrder_67 : decode cX6_refuseOrder 67 = .ok (.aload_n 0, 1) := by decide +kernel
theorem dX6_refuseOrder_68 : decode cX6_refuseOrder 68 = .ok (.getfield 11, 3) := by decide +kernel
theorem dX6_refuseOrder_71 : decode cX6_refuseOrder 71 = .ok (.iconst 0, 1) := by decide +kernel
theorem dX6_refuseOrder_72 : decode cX6_refuseOrder 72 = .ok (.bipush 12, 2) := by decide +kernel
theorem dX6_refuseOrder_74 : decode cX6_refuseOrder 74 = .ok (.invokestatic 34, 3) := by decide +kernel
theorem dX6_refuseOrder_77 : decode cX6_refuseOrder 77 = .ok (.aload_n 0, 1) := by decide +kernel
theorem dX6_refuseOrder_78 : decode cX6_refuseOrder 78 = .ok (.getfield 15, 3) := by decide +kernel
theorem dX6_refuseOrder_81 : decode cX6_refuseOrder 81 = .ok (.iconst 0, 1) := by decide +kernel
theorem dX6_refuseOrder_82 : decode cX6_refuseOrder 82 = .ok (.iload_n 1, 1) := by decide +kernel
theorem dX6_refuseOrder_83 : decode cX6_refuseOrder 83 = .ok (.invokestatic 34, 3) := by decide +kernel
theorem dX6_refuseOrder_86 : decode cX6_refuseOrder 86 = .ok (.aload_n 0, 1) := by decide +kernel
theorem dX6_refuseOrder_87 : decode cX6_refuseOrder 87 = .ok (.iload_n 3, 1) := by decide +kernel
theorem dX6_refuseOrder_88 : decode cX6_refuseOrder 88 = .ok (.iconst 1, 1) := by decide +kernel
theorem dX6_refuseOrder_89 : decode cX6_refuseOrder 89 = .ok (.iadd, 1) := by decide +kernel
theorem dX6_refuseOrder_90 : decode cX6_refuseOrder 90 = .ok (.iconst 3, 1) := by decide +kernel
theorem dX6_refuseOrder_91 : decode cX6_refuseOrder 91 = .ok (.invokestatic 38, 3) := by decide +kernel
theorem dX6_refuseOrder_94 : decode cX6_refuseOrder 94 = .ok (.putfield 18, 3) := by decide +kernel
theorem dX6_refuseOrder_97 : decode cX6_refuseOrder 97 = .ok (.bipush (-3), 2) := by decide +kernel
theorem dX6_refuseOrder_99 : decode cX6_refuseOrder 99 = .ok (.ireturn, 1) := by decide +kernel
theorem dX6_tell_0 : decode cX6_tell 0 = .ok (.iload_n 1, 1) := by decide +kernel
theorem dX6_tell_1 : decode cX6_tell 1 = .ok (.ifCond .ge 6, 3) := by decide +kernel
theorem dX6_tell_4 : decode cX6_tell 4 = .ok (.bipush (-2), 2) := by decide +kernel
theorem dX6_tell_6 : decode cX6_tell 6 = .ok (.ireturn, 1) := by decide +kernel
theorem dX6_tell_7 : decode cX6_tell 7 = .ok (.iload_n 1, 1) := by decide +kernel
theorem dX6_tell_8 : decode cX6_tell 8 = .ok (.aload_n 0, 1) := by decide +kernel
theorem dX6_tell_9 : decode cX6_tell 9 = .ok (.getfield 18, 3) := by decide +kernel
theorem dX6_tell_12 : decode cX6_tell 12 = .ok (.if_icmp .lt 6, 3) := by decide +kernel
theorem dX6_tell_15 : decode cX6_tell 15 = .ok (.bipush (-4), 2) := by decide +kernel
theorem dX6_tell_17 : decode cX6_tell 17 = .ok (.ireturn, 1) := by decide +kernel
theorem dX6_tell_18 : decode cX6_tell 18 = .ok (.iload_n 2, 1) := by decide +kernel
theorem dX6_tell_19 : decode cX6_tell 19 = .ok (.ifCond .eq 10, 3) := by decide +kernel
theorem dX6_tell_22 : decode cX6_tell 22 = .ok (.aload_n 0, 1) := by decide +kernel
theorem dX6_tell_23 : decode cX6_tell 23 = .ok (.getfield 15, 3) := by decide +kernel
theorem dX6_tell_26 : decode cX6_tell 26 = .ok (.goto 7, 3) := by decide +kernel
theorem dX6_tell_29 : decode cX6_tell 29 = .ok (.aload_n 0, 1) := by decide +kernel
theorem dX6_tell_30 : decode cX6_tell 30 = .ok (.getfield 11, 3) := by decide +kernel
theorem dX6_tell_33 : decode cX6_tell 33 = .ok (.iload_n 1, 1) := by decide +kernel
theorem dX6_tell_34 : decode cX6_tell 34 = .ok (.invokestatic 30, 3) := by decide +kernel
theorem dX6_tell_37 : decode cX6_tell 37 = .ok (.ireturn, 1) := by decide +kernel
theorem dX6_putBehind_0 : decode cX6_putBehind 0 = .ok (.aload_n 0, 1) := by decide +kernel
theorem dX6_putBehind_1 : decode cX6_putBehind 1 = .ok (.getfield 11, 3) := by decide +kernel
theorem dX6_putBehind_4 : decode cX6_putBehind 4 = .ok (.aload_n 0, 1) := by decide +kernel
theorem dX6_putBehind_5 : decode cX6_putBehind 5 = .ok (.getfield 18, 3) := by decide +kernel
theorem dX6_putBehind_8 : decode cX6_putBehind 8 = .ok (.iload_n 1, 1) := by decide +kernel
theorem dX6_putBehind_9 : decode cX6_putBehind 9 = .ok (.invokestatic 34, 3) := by decide +kernel
theorem dX6_putBehind_12 : decode cX6_putBehind 12 = .ok (.aload_n 0, 1) := by decide +kernel
theorem dX6_putBehind_13 : decode cX6_putBehind 13 = .ok (.getfield 15, 3) := by decide +kernel
theorem dX6_putBehind_16 : decode cX6_putBehind 16 = .ok (.aload_n 0, 1) := by decide +kernel
theorem dX6_putBehind_17 : decode cX6_putBehind 17 = .ok (.getfield 18, 3) := by decide +kernel
theorem dX6_putBehind_20 : decode cX6_putBehind 20 = .ok (.iload_n 2, 1) := by decide +kernel
theorem dX6_putBehind_21 : decode cX6_putBehind 21 = .ok (.invokestatic 34, 3) := by decide +kernel
theorem dX6_putBehind_24 : decode cX6_putBehind 24 = .ok (.aload_n 0, 1) := by decide +kernel
theorem dX6_putBehind_25 : decode cX6_putBehind 25 = .ok (.dup, 1) := by decide +kernel
theorem dX6_putBehind_26 : decode cX6_putBehind 26 = .ok (.getfield 18, 3) := by decide +kernel
theorem dX6_putBehind_29 : decode cX6_putBehind 29 = .ok (.iconst 1, 1) := by decide +kernel
theorem dX6_putBehind_30 : decode cX6_putBehind 30 = .ok (.iadd, 1) := by decide +kernel
theorem dX6_putBehind_31 : decode cX6_putBehind 31 = .ok (.putfield 18, 3) := by decide +kernel
theorem dX6_putBehind_34 : decode cX6_putBehind 34 = .ok (.return_, 1) := by decide +kernel
theorem dX7_init_0 : decode cX7_init 0 = .ok (.aload_n 0, 1) := by decide +kernel
theorem dX7_init_1 : decode cX7_init 1 = .ok (.invokespecial 3, 3) := by decide +kernel
theorem dX7_init_4 : decode cX7_init 4 = .ok (.aload_n 0, 1) := by decide +kernel
theorem dX7_init_5 : decode cX7_init 5 = .ok (.new 9, 3) := by decide +kernel
theorem dX7_init_8 : decode cX7_init 8 = .ok (.dup, 1) := by decide +kernel
theorem dX7_init_9 : decode cX7_init 9 = .ok (.invokespecial 11, 3) := by decide +kernel
theorem dX7_init_12 : decode cX7_init 12 = .ok (.putfield 12, 3) := by decide +kernel
theorem dX7_init_15 : decode cX7_init 15 = .ok (.aload_n 0, 1) := by decide +kernel
theorem dX7_init_16 : decode cX7_init 16 = .ok (.new 18, 3) := by decide +kernel
theorem dX7_init_19 : decode cX7_init 19 = .ok (.dup, 1) := by decide +kernel
theorem dX7_init_20 : decode cX7_init 20 = .ok (.invokespecial 20, 3) := by decide +kernel
theorem dX7_init_23 : decode cX7_init 23 = .ok (.putfield 21, 3) := by decide +kernel
theorem dX7_init_26 : decode cX7_init 26 = .ok (.aload_n 0, 1) := by decide +kernel
theorem dX7_init_27 : decode cX7_init 27 = .ok (.new 25, 3) := by decide +kernel
theorem dX7_init_30 : decode cX7_init 30 = .ok (.dup, 1) := by decide +kernel
theorem dX7_init_31 : decode cX7_init 31 = .ok (.invokespecial 27, 3) := by decide +kernel
theorem dX7_init_34 : decode cX7_init 34 = .ok (.putfield 28, 3) := by decide +kernel
theorem dX7_init_37 : decode cX7_init 37 = .ok (.aload_n 0, 1) := by decide +kernel
theorem dX7_init_38 : decode cX7_init 38 = .ok (.new 32, 3) := by decide +kernel
theorem dX7_init_41 : decode cX7_init 41 = .ok (.dup, 1) := by decide +kernel
theorem dX7_init_42 : decode cX7_init 42 = .ok (.invokespecial 34, 3) := by decide +kernel
theorem dX7_init_45 : decode cX7_init 45 = .ok (.putfield 35, 3) := by decide +kernel
theorem dX7_init_48 : decode cX7_init 48 = .ok (.aload_n 0, 1) := by decide +kernel
theorem dX7_init_49 : decode cX7_init 49 = .ok (.iconst 0, 1) := by decide +kernel
theorem dX7_init_50 : decode cX7_init 50 = .ok (.putfield 39, 3) := by decide +kernel
theorem dX7_init_53 : decode cX7_init 53 = .ok (.aload_n 0, 1) := by decide +kernel
theorem dX7_init_54 : decode cX7_init 54 = .ok (.iconst 0, 1) := by decide +kernel
theorem dX7_init_55 : decode cX7_init 55 = .ok (.putfield 43, 3) := by decide +kernel
theorem dX7_init_58 : decode cX7_init 58 = .ok (.aload_n 0, 1) := by decide +kernel
theorem dX7_init_59 : decode cX7_init 59 = .ok (.bipush 60, 2) := by decide +kernel
theorem dX7_init_61 : decode cX7_init 61 = .ok (.putfield 46, 3) := by decide +kernel
theorem dX7_init_64 : decode cX7_init 64 = .ok (.aload_n 0, 1) := by decide +kernel
theorem dX7_init_65 : decode cX7_init 65 = .ok (.bipush 20, 2) := by decide +kernel
theorem dX7_init_67 : decode cX7_init 67 = .ok (.putfield 49, 3) := by decide +kernel
theorem dX7_init_70 : decode cX7_init 70 = .ok (.aload_n 0, 1) := by decide +kernel
theorem dX7_init_71 : decode cX7_init 71 = .ok (.iconst 0, 1) := by decide +kernel
theorem dX7_init_72 : decode cX7_init 72 = .ok (.putfield 52, 3) := by decide +kernel
theorem dX7_init_75 : decode cX7_init 75 = .ok (.aload_n 0, 1) := by decide +kernel
theorem dX7_init_76 : decode cX7_init 76 = .ok (.iconst 0, 1) := by decide +kernel
theorem dX7_init_77 : decode cX7_init 77 = .ok (.putfield 55, 3) := by decide +kernel
theorem dX7_init_80 : decode cX7_init 80 = .ok (.aload_n 0, 1) := by decide +kernel
theorem dX7_init_81 : decode cX7_init 81 = .ok (.iconst 0, 1) := by decide +kernel
theorem dX7_init_82 : decode cX7_init 82 = .ok (.putfield 58, 3) := by decide +kernel
theorem dX7_init_85 : decode cX7_init 85 = .ok (.aload_n 0, 1) := by decide +kernel
theorem dX7_init_86 : decode cX7_init 86 = .ok (.iconst 0, 1) := by decide +kernel
theorem dX7_init_87 : decode cX7_init 87 = .ok (.putfield 61, 3) := by decide +kernel
theorem dX7_init_90 : decode cX7_init 90 = .ok (.aload_n 0, 1) := by decide +kernel
theorem dX7_init_91 : decode cX7_init 91 = .ok (.iconst 0, 1) := by decide +kernel
theorem dX7_init_92 : decode cX7_init 92 = .ok (.putfield 64, 3) := by decide +kernel
theorem dX7_init_95 : decode cX7_init 95 = .ok (.aload_n 0, 1) := by decide +kernel
theorem dX7_init_96 : decode cX7_init 96 = .ok (.iconst 0, 1) := by decide +kernel
theorem dX7_init_97 : decode cX7_init 97 = .ok (.putfield 67, 3) := by decide +kernel
theorem dX7_init_100 : decode cX7_init 100 = .ok (.return_, 1) := by decide +kernel
theorem dX7_isWarned_0 : decode cX7_isWarned 0 = .ok (.aload_n 0, 1) := by decide +kernel
theorem dX7_isWarned_1 : decode cX7_isWarned 1 = .ok (.getfield 43, 3) := by decide +kernel
theorem dX7_isWarned_4 : decode cX7_isWarned 4 = .ok (.iconst 3, 1) := by decide +kernel
theorem dX7_isWarned_5 : decode cX7_isWarned 5 = .ok (.if_icmp .lt 7, 3) := by decide +kernel
theorem dX7_isWarned_8 : decode cX7_isWarned 8 = .ok (.iconst 1, 1) := by decide +kernel
theorem dX7_isWarned_9 : decode cX7_isWarned 9 = .ok (.goto 4, 3) := by decide +kernel
theorem dX7_isWarned_12 : decode cX7_isWarned 12 = .ok (.iconst 0, 1) := by decide +kernel
theorem dX7_isWarned_13 : decode cX7_isWarned 13 = .ok (.ireturn, 1) := by decide +kernel
theorem dX7_passDay_0 : decode cX7_passDay 0 = .ok (.iconst 0, 1) := by decide +kernel
theorem dX7_passDay_1 : decode cX7_passDay 1 = .ok (.istore_n 1, 1) := by decide +kernel
theorem dX7_passDay_2 : decode cX7_passDay 2 = .ok (.iload_n 1, 1) := by decide +kernel
theorem dX7_passDay_3 : decode cX7_passDay 3 = .ok (.aload_n 0, 1) := by decide +kernel
theorem dX7_passDay_4 : decode cX7_passDay 4 = .ok (.getfield 28, 3) := by decide +kernel
theorem dX7_passDay_7 : decode cX7_passDay 7 = .ok (.getfield 70, 3) := by decide +kernel
theorem dX7_passDay_10 : decode cX7_passDay 10 = .ok (.if_icmp .ge 22, 3) := by decide +kernel
theorem dX7_passDay_13 : decode cX7_passDay 13 = .ok (.aload_n 0, 1) := by decide +kernel
theorem dX7_passDay_14 : decode cX7_passDay 14 = .ok (.iload_n 1, 1) := by decide +kernel
theorem dX7_passDay_15 : decode cX7_passDay 15 = .ok (.invokevirtual 73, 3) := by decide +kernel
theorem dX7_passDay_18 : decode cX7_passDay 18 = .ok (.ifCond .eq 8, 3) := by decide +kernel
theorem dX7_passDay_21 : decode cX7_passDay 21 = .ok (.aload_n 0, 1) := by decide +kernel
theorem dX7_passDay_22 : decode cX7_passDay 22 = .ok (.iload_n 1, 1) := by decide +kernel
theorem dX7_passDay_23 : decode cX7_passDay 23 = .ok (.invokevirtual 77, 3) := by decide +kernel
theorem dX7_passDay_26 : decode cX7_passDay 26 = .ok (.iinc 1 1, 3) := by decide +kernel
theorem dX7_passDay_29 : decode cX7_passDay 29 = .ok (.goto (-27), 3) := by decide +kernel
theorem dX7_passDay_32 : decode cX7_passDay 32 = .ok (.aload_n 0, 1) := by decide +kernel
theorem dX7_passDay_33 : decode cX7_passDay 33 = .ok (.getfield 43, 3) := by decide +kernel
theorem dX7_passDay_36 : decode cX7_passDay 36 = .ok (.bipush 8, 2) := by decide +kernel
theorem dX7_passDay_38 : decode cX7_passDay 38 = .ok (.if_icmp .lt 7, 3) := by decide +kernel
theorem dX7_passDay_41 : decode cX7_passDay 41 = .ok (.iconst 1, 1) := by decide +kernel
theorem dX7_passDay_42 : decode cX7_passDay 42 = .ok (.goto 4, 3) := by decide +kernel
theorem dX7_passDay_45 : decode cX7_passDay 45 = .ok (.iconst 0, 1) := by decide +kernel
theorem dX7_passDay_46 : decode cX7_passDay 46 = .ok (.istore_n 1, 1) := by decide +kernel
theorem dX7_passDay_47 : decode cX7_passDay 47 = .ok (.aload_n 0, 1) := by decide +kernel
theorem dX7_passDay_48 : decode cX7_passDay 48 = .ok (.getfield 21, 3) := by decide +kernel
theorem dX7_passDay_51 : decode cX7_passDay 51 = .ok (.iload_n 1, 1) := by decide +kernel
theorem dX7_passDay_52 : decode cX7_passDay 52 = .ok (.ifCond .eq 7, 3) := by decide +kernel
theorem dX7_passDay_55 : decode cX7_passDay 55 = .ok (.iconst 4, 1) := by decide +kernel
theorem dX7_passDay_56 : decode cX7_passDay 56 = .ok (.goto 4, 3) := by decide +kernel
theorem dX7_passDay_59 : decode cX7_passDay 59 = .ok (.iconst 1, 1) := by decide +kernel
theorem dX7_passDay_60 : decode cX7_passDay 60 = .ok (.invokevirtual 81, 3) := by decide +kernel
theorem dX7_passDay_63 : decode cX7_passDay 63 = .ok (.iload_n 1, 1) := by decide +kernel
theorem dX7_passDay_64 : decode cX7_passDay 64 = .ok (.ifCond .eq 18, 3) := by decide +kernel
theorem dX7_passDay_67 : decode cX7_passDay 67 = .ok (.aload_n 0, 1) := by decide +kernel
theorem dX7_passDay_68 : decode cX7_passDay 68 = .ok (.aload_n 0, 1) := by decide +kernel
theorem dX7_passDay_69 : decode cX7_passDay 69 = .ok (.getfield 21, 3) := by decide +kernel
theorem dX7_passDay_72 : decode cX7_passDay 72 = .ok (.aload_n 0, 1) := by decide +kernel
theorem dX7_passDay_73 : decode cX7_passDay 73 = .ok (.getfield 43, 3) := by decide +kernel
theorem dX7_passDay_76 : decode cX7_passDay 76 = .ok (.invokevirtual 84, 3) := by decide +kernel
theorem dX7_passDay_79 : decode cX7_passDay 79 = .ok (.invokevirtual 88, 3) := by decide +kernel
theorem dX7_passDay_82 : decode cX7_passDay 82 = .ok (.aload_n 0, 1) := by decide +kernel
theorem dX7_passDay_83 : decode cX7_passDay 83 = .ok (.dup, 1) := by decide +kernel
theorem dX7_passDay_84 : decode cX7_passDay 84 = .ok (.getfield 39, 3) := by decide +kernel
theorem dX7_passDay_87 : decode cX7_passDay 87 = .ok (.iconst 1, 1) := by decide +kernel
theorem dX7_passDay_88 : decode cX7_passDay 88 = .ok (.iadd, 1) := by decide +kernel
theorem dX7_passDay_89 : decode cX7_passDay 89 = .ok (.putfield 39, 3) := by decide +kernel
theorem dX7_passDay_92 : decode cX7_passDay 92 = .ok (.aload_n 0, 1) := by decide +kernel
theorem dX7_passDay_93 : decode cX7_passDay 93 = .ok (.bipush 20, 2) := by decide +kernel
theorem dX7_passDay_95 : decode cX7_passDay 95 = .ok (.putfield 49, 3) := by decide +kernel
theorem dX7_passDay_98 : decode cX7_passDay 98 = .ok (.aload_n 0, 1) := by decide +kernel
theorem dX7_passDay_99 : decode cX7_passDay 99 = .ok (.getfield 39, 3) := by decide +kernel
theorem dX7_passDay_102 : decode cX7_passDay 102 = .ok (.bipush 7, 2) := by decide +kernel
theorem dX7_passDay_104 : decode cX7_passDay 104 = .ok (.irem, 1) := by decide +kernel
theorem dX7_passDay_105 : decode cX7_passDay 105 = .ok (.ifCond .ne 17, 3) := by decide +kernel
theorem dX7_passDay_108 : decode cX7_passDay 108 = .ok (.aload_n 0, 1) := by decide +kernel
theorem dX7_passDay_109 : decode cX7_passDay 109 = .ok (.getfield 12, 3) := by decide +kernel
theorem dX7_passDay_112 : decode cX7_passDay 112 = .ok (.invokevirtual 91, 3) := by decide +kernel
theorem dX7_passDay_115 : decode cX7_passDay 115 = .ok (.aload_n 0, 1) := by decide +kernel
theorem dX7_passDay_116 : decode cX7_passDay 116 = .ok (.getfield 21, 3) := by decide +kernel
theorem dX7_passDay_119 : decode cX7_passDay 119 = .ok (.invokevirtual 94, 3) := by decide +kernel
theorem dX7_passDay_122 : decode cX7_passDay 122 = .ok (.return_, 1) := by decide +kernel
theorem dX7_wouldWork_0 : decode cX7_wouldWork 0 = .ok (.aload_n 0, 1) := by decide +kernel
theorem dX7_wouldWork_1 : decode cX7_wouldWork 1 = .ok (.getfield 28, 3) := by decide +kernel
theorem dX7_wouldWork_4 : decode cX7_wouldWork 4 = .ok (.iload_n 1, 1) := by decide +kernel
theorem dX7_wouldWork_5 : decode cX7_wouldWork 5 = .ok (.invokevirtual 97, 3) := by decide +kernel
theorem dX7_wouldWork_8 : decode cX7_wouldWork 8 = .ok (.ifCond .ne 5, 3) := by decide +kernel
theorem dX7_wouldWork_11 : decode cX7_wouldWork 11 = .ok (.iconst 0, 1) := by decide +kernel
theorem dX7_wouldWork_12 : decode cX7_wouldWork 12 = .ok (.ireturn, 1) := by decide +kernel
theorem dX7_wouldWork_13 : decode cX7_wouldWork 13 = .ok (.aload_n 0, 1) := by decide +kernel
theorem dX7_wouldWork_14 : decode cX7_wouldWork 14 = .ok (.getfield 28, 3) := by decide +kernel
theorem dX7_wouldWork_17 : decode cX7_wouldWork 17 = .ok (.iload_n 1, 1) := by decide +kernel
theorem dX7_wouldWork_18 : decode cX7_wouldWork 18 = .ok (.invokevirtual 100, 3) := by decide +kernel
theorem dX7_wouldWork_21 : decode cX7_wouldWork 21 = .ok (.istore_n 2, 1) := by decide +kernel
theorem dX7_wouldWork_22 : decode cX7_wouldWork 22 = .ok (.aload_n 0, 1) := by decide +kernel
theorem dX7_wouldWork_23 : decode cX7_wouldWork 23 = .ok (.getfield 21, 3) := by decide +kernel
theorem dX7_wouldWork_26 : decode cX7_wouldWork 26 = .ok (.iload_n 2, 1) := by decide +kernel
theorem dX7_wouldWork_27 : decode cX7_wouldWork 27 = .ok (.invokevirtual 103, 3) := by decide +kernel
theorem dX7_wouldWork_30 : decode cX7_wouldWork 30 = .ok (.bipush (-4), 2) := by decide +kernel
theorem dX7_wouldWork_32 : decode cX7_wouldWork 32 = .ok (.if_icmp .ne 29, 3) := by decide +kernel
theorem dX7_wouldWork_35 : decode cX7_wouldWork 35 = .ok (.aload_n 0, 1) := by decide +kernel
theorem dX7_wouldWork_36 : decode cX7_wouldWork 36 = .ok (.getfield 21, 3) := by decide +kernel
theorem dX7_wouldWork_39 : decode cX7_wouldWork 39 = .ok (.iload_n 2, 1) := by decide +kernel
theorem dX7_wouldWork_40 : decode cX7_wouldWork 40 = .ok (.invokevirtual 106, 3) := by decide +kernel
theorem dX7_wouldWork_43 : decode cX7_wouldWork 43 = .ok (.ifCond .le 18, 3) := by decide +kernel
theorem dX7_wouldWork_46 : decode cX7_wouldWork 46 = .ok (.aload_n 0, 1) := by decide +kernel
theorem dX7_wouldWork_47 : decode cX7_wouldWork 47 = .ok (.getfield 21, 3) := by decide +kernel
theorem dX7_wouldWork_50 : decode cX7_wouldWork 50 = .ok (.iload_n 2, 1) := by decide +kernel
theorem dX7_wouldWork_51 : decode cX7_wouldWork 51 = .ok (.invokevirtual 109, 3) := by decide +kernel
theorem dX7_wouldWork_54 : decode cX7_wouldWork 54 = .ok (.ifCond .le 7, 3) := by decide +kernel
theorem dX7_wouldWork_57 : decode cX7_wouldWork 57 = .ok (.iconst 1, 1) := by decide +kernel
theorem dX7_wouldWork_58 : decode cX7_wouldWork 58 = .ok (.goto 4, 3) := by decide +kernel
theorem dX7_wouldWork_61 : decode cX7_wouldWork 61 = .ok (.iconst 0, 1) := by decide +kernel
theorem dX7_wouldWork_62 : decode cX7_wouldWork 62 = .ok (.ireturn, 1) := by decide +kernel
theorem dX7_letWork_0 : decode cX7_letWork 0 = .ok (.aload_n 0, 1) := by decide +kernel
theorem dX7_letWork_1 : decode cX7_letWork 1 = .ok (.getfield 28, 3) := by decide +kernel
theorem dX7_letWork_4 : decode cX7_letWork 4 = .ok (.iload_n 1, 1) := by decide +kernel
theorem dX7_letWork_5 : decode cX7_letWork 5 = .ok (.invokevirtual 100, 3) := by decide +kernel
theorem dX7_letWork_8 : decode cX7_letWork 8 = .ok (.istore_n 2, 1) := by decide +kernel
theorem dX7_letWork_9 : decode cX7_letWork 9 = .ok (.aload_n 0, 1) := by decide +kernel
theorem dX7_letWork_10 : decode cX7_letWork 10 = .ok (.getfield 28, 3) := by decide +kernel
theorem dX7_letWork_13 : decode cX7_letWork 13 = .ok (.iload_n 1, 1) := by decide +kernel
theorem dX7_letWork_14 : decode cX7_letWork 14 = .ok (.invokevirtual 112, 3) := by decide +kernel
theorem dX7_letWork_17 : decode cX7_letWork 17 = .ok (.aload_n 0, 1) := by decide +kernel
theorem dX7_letWork_18 : decode cX7_letWork 18 = .ok (.getfield 21, 3) := by decide +kernel
theorem dX7_letWork_21 : decode cX7_letWork 21 = .ok (.iload_n 2, 1) := by decide +kernel
theorem dX7_letWork_22 : decode cX7_letWork 22 = .ok (.invokevirtual 106, 3) := by decide +kernel
theorem dX7_letWork_25 : decode cX7_letWork 25 = .ok (.invokestatic 115, 3) := by decide +kernel
theorem dX7_letWork_28 : decode cX7_letWork 28 = .ok (.istore_n 3, 1) := by decide +kernel
theorem dX7_letWork_29 : decode cX7_letWork 29 = .ok (.aload_n 0, 1) := by decide +kernel
theorem dX7_letWork_30 : decode cX7_letWork 30 = .ok (.getfield 21, 3) := by decide +kernel
theorem dX7_letWork_33 : decode cX7_letWork 33 = .ok (.iload_n 2, 1) := by decide +kernel
theorem dX7_letWork_34 : decode cX7_letWork 34 = .ok (.iload_n 3, 1) := by decide +kernel
theorem dX7_letWork_35 : decode cX7_letWork 35 = .ok (.invokevirtual 121, 3) := by decide +kernel
theorem dX7_letWork_38 : decode cX7_letWork 38 = .ok (.aload_n 0, 1) := by decide +kernel
theorem dX7_letWork_39 : decode cX7_letWork 39 = .ok (.getfield 28, 3) := by decide +kernel
theorem dX7_letWork_42 : decode cX7_letWork 42 = .ok (.iload_n 1, 1) := by decide +kernel
theorem dX7_letWork_43 : decode cX7_letWork 43 = .ok (.iload_n 3, 1) := by decide +kernel
theorem dX7_letWork_44 : decode cX7_letWork 44 = .ok (.invokevirtual 125, 3) := by decide +kernel
theorem dX7_letWork_47 : decode cX7_letWork 47 = .ok (.aload_n 0, 1) := by decide +kernel
theorem dX7_letWork_48 : decode cX7_letWork 48 = .ok (.dup, 1) := by decide +kernel
theorem dX7_letWork_49 : decode cX7_letWork 49 = .ok (.getfield 58, 3) := by decide +kernel
theorem dX7_letWork_52 : decode cX7_letWork 52 = .ok (.iload_n 3, 1) := by decide +kernel
theorem dX7_letWork_53 : decode cX7_letWork 53 = .ok (.iadd, 1) := by decide +kernel
theorem dX7_letWork_54 : decode cX7_letWork 54 = .ok (.putfield 58, 3) := by decide +kernel
theorem dX7_letWork_57 : decode cX7_letWork 57 = .ok (.return_, 1) := by decide +kernel
theorem dX7_letFallFrom_0 : decode cX7_letFallFrom 0 = .ok (.iload_n 1, 1) := by decide +kernel
theorem dX7_letFallFrom_1 : decode cX7_letFallFrom 1 = .ok (.bipush (-4), 2) := by decide +kernel
theorem dX7_letFallFrom_3 : decode cX7_letFallFrom 3 = .ok (.if_icmp .ne 4, 3) := by decide +kernel
theorem dX7_letFallFrom_6 : decode cX7_letFallFrom 6 = .ok (.return_, 1) := by decide +kernel
theorem dX7_letFallFrom_7 : decode cX7_letFallFrom 7 = .ok (.iload_n 1, 1) := by decide +kernel
theorem dX7_letFallFrom_8 : decode cX7_letFallFrom 8 = .ok (.istore_n 2, 1) := by decide +kernel
theorem dX7_letFallFrom_9 : decode cX7_letFallFrom 9 = .ok (.iload_n 2, 1) := by decide +kernel
theorem dX7_letFallFrom_10 : decode cX7_letFallFrom 10 = .ok (.aload_n 0, 1) := by decide +kernel
theorem dX7_letFallFrom_11 : decode cX7_letFallFrom 11 = .ok (.getfield 21, 3) := by decide +kernel
theorem dX7_letFallFrom_14 : decode cX7_letFallFrom 14 = .ok (.getfield 128, 3) := by decide +kernel
theorem dX7_letFallFrom_17 : decode cX7_letFallFrom 17 = .ok (.if_icmp .ge 53, 3) := by decide +kernel
theorem dX7_letFallFrom_20 : decode cX7_letFallFrom 20 = .ok (.aload_n 0, 1) := by decide +kernel
theorem dX7_letFallFrom_21 : decode cX7_letFallFrom 21 = .ok (.dup, 1) := by decide +kernel
theorem dX7_letFallFrom_22 : decode cX7_letFallFrom 22 = .ok (.getfield 64, 3) := by decide +kernel
theorem dX7_letFallFrom_25 : decode cX7_letFallFrom 25 = .ok (.iconst 1, 1) := by decide +kernel
theorem dX7_letFallFrom_26 : decode cX7_letFallFrom 26 = .ok (.iadd, 1) := by decide +kernel
theorem dX7_letFallFrom_27 : decode cX7_letFallFrom 27 = .ok (.putfield 64, 3) := by decide +kernel
theorem dX7_letFallFrom_30 : decode cX7_letFallFrom 30 = .ok (.aload_n 0, 1) := by decide +kernel
theorem dX7_letFallFrom_31 : decode cX7_letFallFrom 31 = .ok (.dup, 1) := by decide +kernel
theorem dX7_letFallFrom_32 : decode cX7_letFallFrom 32 = .ok (.getfield 67, 3) := by decide +kernel
theorem dX7_letFallFrom_35 : decode cX7_letFallFrom 35 = .ok (.aload_n 0, 1) := by decide +kernel
theorem dX7_letFallFrom_36 : decode cX7_letFallFrom 36 = .ok (.getfield 21, 3) := by decide +kernel
theorem dX7_letFallFrom_39 : decode cX7_letFallFrom 39 = .ok (.iload_n 2, 1) := by decide +kernel
theorem dX7_letFallFrom_40 : decode cX7_letFallFrom 40 = .ok (.invokevirtual 129, 3) := by decide +kernel
theorem dX7_letFallFrom_43 : decode cX7_letFallFrom 43 = .ok (.iadd, 1) := by decide +kernel
theorem dX7_letFallFrom_44 : decode cX7_letFallFrom 44 = .ok (.putfield 67, 3) := by decide +kernel
theorem dX7_letFallFrom_47 : decode cX7_letFallFrom 47 = .ok (.aload_n 0, 1) := by decide +kernel
theorem dX7_letFallFrom_48 : decode cX7_letFallFrom 48 = .ok (.dup, 1) := by decide +kernel
theorem dX7_letFallFrom_49 : decode cX7_letFallFrom 49 = .ok (.getfield 61, 3) := by decide +kernel
theorem dX7_letFallFrom_52 : decode cX7_letFallFrom 52 = .ok (.aload_n 0, 1) := by decide +kernel
theorem dX7_letFallFrom_53 : decode cX7_letFallFrom 53 = .ok (.getfield 21, 3) := by decide +kernel
theorem dX7_letFallFrom_56 : decode cX7_letFallFrom 56 = .ok (.iload_n 2, 1) := by decide +kernel
theorem dX7_letFallFrom_57 : decode cX7_letFallFrom 57 = .ok (.invokevirtual 106, 3) := by decide +kernel
theorem dX7_letFallFrom_60 : decode cX7_letFallFrom 60 = .ok (.iadd, 1) := by decide +kernel
theorem dX7_letFallFrom_61 : decode cX7_letFallFrom 61 = .ok (.putfield 61, 3) := by decide +kernel
theorem dX7_letFallFrom_64 : decode cX7_letFallFrom 64 = .ok (.iinc 2 1, 3) := by decide +kernel
theorem dX7_letFallFrom_67 : decode cX7_letFallFrom 67 = .ok (.goto (-58), 3) := by decide +kernel
theorem dX7_letFallFrom_70 : decode cX7_letFallFrom 70 = .ok (.aload_n 0, 1) := by decide +kernel
theorem dX7_letFallFrom_71 : decode cX7_letFallFrom 71 = .ok (.getfield 21, 3) := by decide +kernel
theorem dX7_letFallFrom_74 : decode cX7_letFallFrom 74 = .ok (.iload_n 1, 1) := by decide +kernel
theorem dX7_letFallFrom_75 : decode cX7_letFallFrom 75 = .ok (.invokevirtual 132, 3) := by decide +kernel
theorem dX7_letFallFrom_78 : decode cX7_letFallFrom 78 = .ok (.return_, 1) := by decide +kernel
theorem dX7_makeBare_0 : decode cX7_makeBare 0 = .ok (.aload_n 0, 1) := by decide +kernel
theorem dX7_makeBare_1 : decode cX7_makeBare 1 = .ok (.getfield 12, 3) := by decide +kernel
theorem dX7_makeBare_4 : decode cX7_makeBare 4 = .ok (.invokevirtual 135, 3) := by decide +kernel
theorem dX7_makeBare_7 : decode cX7_makeBare 7 = .ok (.aload_n 0, 1) := by decide +kernel
theorem dX7_makeBare_8 : decode cX7_makeBare 8 = .ok (.getfield 21, 3) := by decide +kernel
theorem dX7_makeBare_11 : decode cX7_makeBare 11 = .ok (.iconst 0, 1) := by decide +kernel
theorem dX7_makeBare_12 : decode cX7_makeBare 12 = .ok (.invokevirtual 132, 3) := by decide +kernel
theorem dX7_makeBare_15 : decode cX7_makeBare 15 = .ok (.aload_n 0, 1) := by decide +kernel
theorem dX7_makeBare_16 : decode cX7_makeBare 16 = .ok (.getfield 28, 3) := by decide +kernel
theorem dX7_makeBare_19 : decode cX7_makeBare 19 = .ok (.invokevirtual 138, 3) := by decide +kernel
theorem dX7_makeBare_22 : decode cX7_makeBare 22 = .ok (.aload_n 0, 1) := by decide +kernel
theorem dX7_makeBare_23 : decode cX7_makeBare 23 = .ok (.getfield 35, 3) := by decide +kernel
theorem dX7_makeBare_26 : decode cX7_makeBare 26 = .ok (.invokevirtual 139, 3) := by decide +kernel
theorem dX7_makeBare_29 : decode cX7_makeBare 29 = .ok (.aload_n 0, 1) := by decide +kernel
theorem dX7_makeBare_30 : decode cX7_makeBare 30 = .ok (.iconst 0, 1) := by decide +kernel
theorem dX7_makeBare_31 : decode cX7_makeBare 31 = .ok (.putfield 39, 3) := by decide +kernel
theorem dX7_makeBare_34 : decode cX7_makeBare 34 = .ok (.aload_n 0, 1) := by decide +kernel
theorem dX7_makeBare_35 : decode cX7_makeBare 35 = .ok (.iconst 0, 1) := by decide +kernel
theorem dX7_makeBare_36 : decode cX7_makeBare 36 = .ok (.putfield 43, 3) := by decide +kernel
theorem dX7_makeBare_39 : decode cX7_makeBare 39 = .ok (.aload_n 0, 1) := by decide +kernel
theorem dX7_makeBare_40 : decode cX7_makeBare 40 = .ok (.bipush 60, 2) := by decide +kernel
theorem dX7_makeBare_42 : decode cX7_makeBare 42 = .ok (.putfield 46, 3) := by decide +kernel
theorem dX7_makeBare_45 : decode cX7_makeBare 45 = .ok (.aload_n 0, 1) := by decide +kernel
theorem dX7_makeBare_46 : decode cX7_makeBare 46 = .ok (.bipush 20, 2) := by decide +kernel
theorem dX7_makeBare_48 : decode cX7_makeBare 48 = .ok (.putfield 49, 3) := by decide +kernel
theorem dX7_makeBare_51 : decode cX7_makeBare 51 = .ok (.aload_n 0, 1) := by decide +kernel
theorem dX7_makeBare_52 : decode cX7_makeBare 52 = .ok (.iconst 0, 1) := by decide +kernel
theorem dX7_makeBare_53 : decode cX7_makeBare 53 = .ok (.putfield 52, 3) := by decide +kernel
theorem dX7_makeBare_56 : decode cX7_makeBare 56 = .ok (.aload_n 0, 1) := by decide +kernel
theorem dX7_makeBare_57 : decode cX7_makeBare 57 = .ok (.iconst 0, 1) := by decide +kernel
theorem dX7_makeBare_58 : decode cX7_makeBare 58 = .ok (.putfield 55, 3) := by decide +kernel
theorem dX7_makeBare_61 : decode cX7_makeBare 61 = .ok (.aload_n 0, 1) := by decide +kernel
theorem dX7_makeBare_62 : decode cX7_makeBare 62 = .ok (.iconst 0, 1) := by decide +kernel
theorem dX7_makeBare_63 : decode cX7_makeBare 63 = .ok (.putfield 58, 3) := by decide +kernel
theorem dX7_makeBare_66 : decode cX7_makeBare 66 = .ok (.aload_n 0, 1) := by decide +kernel
theorem dX7_makeBare_67 : decode cX7_makeBare 67 = .ok (.iconst 0, 1) := by decide +kernel
theorem dX7_makeBare_68 : decode cX7_makeBare 68 = .ok (.putfield 61, 3) := by decide +kernel
theorem dX7_makeBare_71 : decode cX7_makeBare 71 = .ok (.aload_n 0, 1) := by decide +kernel
theorem dX7_makeBare_72 : decode cX7_makeBare 72 = .ok (.iconst 0, 1) := by decide +kernel
theorem dX7_makeBare_73 : decode cX7_makeBare 73 = .ok (.putfield 64, 3) := by decide +kernel
theorem dX7_makeBare_76 : decode cX7_makeBare 76 = .ok (.aload_n 0, 1) := by decide +kernel
theorem dX7_makeBare_77 : decode cX7_makeBare 77 = .ok (.iconst 0, 1) := by decide +kernel
theorem dX7_makeBare_78 : decode cX7_makeBare 78 = .ok (.putfield 67, 3) := by decide +kernel
theorem dX7_makeBare_81 : decode cX7_makeBare 81 = .ok (.return_, 1) := by decide +kernel
theorem dX7_take_0 : decode cX7_take 0 = .ok (.aload_n 0, 1) := by decide +kernel
theorem dX7_take_1 : decode cX7_take 1 = .ok (.getfield 12, 3) := by decide +kernel
theorem dX7_take_4 : decode cX7_take 4 = .ok (.aload_n 1, 1) := by decide +kernel
theorem dX7_take_5 : decode cX7_take 5 = .ok (.getfield 12, 3) := by decide +kernel
theorem dX7_take_8 : decode cX7_take 8 = .ok (.invokevirtual 140, 3) := by decide +kernel
theorem dX7_take_11 : decode cX7_take 11 = .ok (.aload_n 0, 1) := by decide +kernel
theorem dX7_take_12 : decode cX7_take 12 = .ok (.getfield 21, 3) := by decide +kernel
theorem dX7_take_15 : decode cX7_take 15 = .ok (.aload_n 1, 1) := by decide +kernel
theorem dX7_take_16 : decode cX7_take 16 = .ok (.getfield 21, 3) := by decide +kernel
theorem dX7_take_19 : decode cX7_take 19 = .ok (.invokevirtual 144, 3) := by decide +kernel
theorem dX7_take_22 : decode cX7_take 22 = .ok (.aload_n 0, 1) := by decide +kernel
theorem dX7_take_23 : decode cX7_take 23 = .ok (.getfield 28, 3) := by decide +kernel
theorem dX7_take_26 : decode cX7_take 26 = .ok (.aload_n 1, 1) := by decide +kernel
theorem dX7_take_27 : decode cX7_take 27 = .ok (.getfield 28, 3) := by decide +kernel
theorem dX7_take_30 : decode cX7_take 30 = .ok (.invokevirtual 147, 3) := by decide +kernel
theorem dX7_take_33 : decode cX7_take 33 = .ok (.aload_n 0, 1) := by decide +kernel
theorem dX7_take_34 : decode cX7_take 34 = .ok (.getfield 35, 3) := by decide +kernel
theorem dX7_take_37 : decode cX7_take 37 = .ok (.aload_n 1, 1) := by decide +kernel
theorem dX7_take_38 : decode cX7_take 38 = .ok (.getfield 35, 3) := by decide +kernel
theorem dX7_take_41 : decode cX7_take 41 = .ok (.invokevirtual 150, 3) := by decide +kernel
theorem dX7_take_44 : decode cX7_take 44 = .ok (.aload_n 0, 1) := by decide +kernel
theorem dX7_take_45 : decode cX7_take 45 = .ok (.aload_n 1, 1) := by decide +kernel
theorem dX7_take_46 : decode cX7_take 46 = .ok (.getfield 39, 3) := by decide +kernel
theorem dX7_take_49 : decode cX7_take 49 = .ok (.putfield 39, 3) := by decide +kernel
theorem dX7_take_52 : decode cX7_take 52 = .ok (.aload_n 0, 1) := by decide +kernel
theorem dX7_take_53 : decode cX7_take 53 = .ok (.aload_n 1, 1) := by decide +kernel
theorem dX7_take_54 : decode cX7_take 54 = .ok (.getfield 43, 3) := by decide +kernel
theorem dX7_take_57 : decode cX7_take 57 = .ok (.putfield 43, 3) := by decide +kernel
theorem dX7_take_60 : decode cX7_take 60 = .ok (.aload_n 0, 1) := by decide +kernel
theorem dX7_take_61 : decode cX7_take 61 = .ok (.aload_n 1, 1) := by decide +kernel
theorem dX7_take_62 : decode cX7_take 62 = .ok (.getfield 46, 3) := by decide +kernel
theorem dX7_take_65 : decode cX7_take 65 = .ok (.putfield 46, 3) := by decide +kernel
theorem dX7_take_68 : decode cX7_take 68 = .ok (.aload_n 0, 1) := by decide +kernel
theorem dX7_take_69 : decode cX7_take 69 = .ok (.aload_n 1, 1) := by decide +kernel
theorem dX7_take_70 : decode cX7_take 70 = .ok (.getfield 49, 3) := by decide +kernel
theorem dX7_take_73 : decode cX7_take 73 = .ok (.putfield 49, 3) := by decide +kernel
theorem dX7_take_76 : decode cX7_take 76 = .ok (.aload_n 0, 1) := by decide +kernel
theorem dX7_take_77 : decode cX7_take 77 = .ok (.aload_n 1, 1) := by decide +kernel
theorem dX7_take_78 : decode cX7_take 78 = .ok (.getfield 52, 3) := by decide +kernel
theorem dX7_take_81 : decode cX7_take 81 = .ok (.putfield 52, 3) := by decide +kernel
theorem dX7_take_84 : decode cX7_take 84 = .ok (.aload_n 0, 1) := by decide +kernel
theorem dX7_take_85 : decode cX7_take 85 = .ok (.aload_n 1, 1) := by decide +kernel
theorem dX7_take_86 : decode cX7_take 86 = .ok (.getfield 55, 3) := by decide +kernel
theorem dX7_take_89 : decode cX7_take 89 = .ok (.putfield 55, 3) := by decide +kernel
theorem dX7_take_92 : decode cX7_take 92 = .ok (.aload_n 0, 1) := by decide +kernel
theorem dX7_take_93 : decode cX7_take 93 = .ok (.aload_n 1, 1) := by decide +kernel
theorem dX7_take_94 : decode cX7_take 94 = .ok (.getfield 58, 3) := by decide +kernel
theorem dX7_take_97 : decode cX7_take 97 = .ok (.putfield 58, 3) := by decide +kernel
theorem dX7_take_100 : decode cX7_take 100 = .ok (.aload_n 0, 1) := by decide +kernel
theorem dX7_take_101 : decode cX7_take 101 = .ok (.aload_n 1, 1) := by decide +kernel
theorem dX7_take_102 : decode cX7_take 102 = .ok (.getfield 61, 3) := by decide +kernel
theorem dX7_take_105 : decode cX7_take 105 = .ok (.putfield 61, 3) := by decide +kernel
theorem dX7_take_108 : decode cX7_take 108 = .ok (.aload_n 0, 1) := by decide +kernel
theorem dX7_take_109 : decode cX7_take 109 = .ok (.aload_n 1, 1) := by decide +kernel
theorem dX7_take_110 : decode cX7_take 110 = .ok (.getfield 64, 3) := by decide +kernel
theorem dX7_take_113 : decode cX7_take 113 = .ok (.putfield 64, 3) := by decide +kernel
theorem dX7_take_116 : decode cX7_take 116 = .ok (.aload_n 0, 1) := by decide +kernel
theorem dX7_take_117 : decode cX7_take 117 = .ok (.aload_n 1, 1) := by decide +kernel
theorem dX7_take_118 : decode cX7_take 118 = .ok (.getfield 67, 3) := by decide +kernel
theorem dX7_take_121 : decode cX7_take 121 = .ok (.putfield 67, 3) := by decide +kernel
theorem dX7_take_124 : decode cX7_take 124 = .ok (.return_, 1) := by decide +kernel
theorem dX8_init_0 : decode cX8_init 0 = .ok (.aload_n 0, 1) := by decide +kernel
theorem dX8_init_1 : decode cX8_init 1 = .ok (.invokespecial 3, 3) := by decide +kernel
theorem dX8_init_4 : decode cX8_init 4 = .ok (.aload_n 0, 1) := by decide +kernel
theorem dX8_init_5 : decode cX8_init 5 = .ok (.new 9, 3) := by decide +kernel
theorem dX8_init_8 : decode cX8_init 8 = .ok (.dup, 1) := by decide +kernel
theorem dX8_init_9 : decode cX8_init 9 = .ok (.invokespecial 11, 3) := by decide +kernel
theorem dX8_init_12 : decode cX8_init 12 = .ok (.putfield 12, 3) := by decide +kernel
theorem dX8_init_15 : decode cX8_init 15 = .ok (.aload_n 0, 1) := by decide +kernel
theorem dX8_init_16 : decode cX8_init 16 = .ok (.new 18, 3) := by decide +kernel
theorem dX8_init_19 : decode cX8_init 19 = .ok (.dup, 1) := by decide +kernel
theorem dX8_init_20 : decode cX8_init 20 = .ok (.invokespecial 20, 3) := by decide +kernel
theorem dX8_init_23 : decode cX8_init 23 = .ok (.putfield 21, 3) := by decide +kernel
theorem dX8_init_26 : decode cX8_init 26 = .ok (.return_, 1) := by decide +kernel
theorem dX8_addBundle_0 : decode cX8_addBundle 0 = .ok (.iload_n 1, 1) := by decide +kernel
theorem dX8_addBundle_1 : decode cX8_addBundle 1 = .ok (.iconst 1, 1) := by decide +kernel
theorem dX8_addBundle_2 : decode cX8_addBundle 2 = .ok (.bipush 30, 2) := by decide +kernel
theorem dX8_addBundle_4 : decode cX8_addBundle 4 = .ok (.invokestatic 25, 3) := by decide +kernel
theorem dX8_addBundle_7 : decode cX8_addBundle 7 = .ok (.ifCond .eq 13, 3) := by decide +kernel
theorem dX8_addBundle_10 : decode cX8_addBundle 10 = .ok (.iload_n 2, 1) := by decide +kernel
theorem dX8_addBundle_11 : decode cX8_addBundle 11 = .ok (.iconst 0, 1) := by decide +kernel
theorem dX8_addBundle_12 : decode cX8_addBundle 12 = .ok (.bipush 60, 2) := by decide +kernel
theorem dX8_addBundle_14 : decode cX8_addBundle 14 = .ok (.invokestatic 25, 3) := by decide +kernel
theorem dX8_addBundle_17 : decode cX8_addBundle 17 = .ok (.ifCond .ne 6, 3) := by decide +kernel
theorem dX8_addBundle_20 : decode cX8_addBundle 20 = .ok (.bipush (-2), 2) := by decide +kernel
theorem dX8_addBundle_22 : decode cX8_addBundle 22 = .ok (.ireturn, 1) := by decide +kernel
theorem dX8_addBundle_23 : decode cX8_addBundle 23 = .ok (.aload_n 0, 1) := by decide +kernel
theorem dX8_addBundle_24 : decode cX8_addBundle 24 = .ok (.getfield 21, 3) := by decide +kernel
theorem dX8_addBundle_27 : decode cX8_addBundle 27 = .ok (.getfield 29, 3) := by decide +kernel
theorem dX8_addBundle_30 : decode cX8_addBundle 30 = .ok (.getfield 33, 3) := by decide +kernel
theorem dX8_addBundle_33 : decode cX8_addBundle 33 = .ok (.bipush 8, 2) := by decide +kernel
theorem dX8_addBundle_35 : decode cX8_addBundle 35 = .ok (.if_icmp .lt 14, 3) := by decide +kernel
theorem dX8_addBundle_38 : decode cX8_addBundle 38 = .ok (.aload_n 0, 1) := by decide +kernel
theorem dX8_addBundle_39 : decode cX8_addBundle 39 = .ok (.getfield 12, 3) := by decide +kernel
theorem dX8_addBundle_42 : decode cX8_addBundle 42 = .ok (.iconst 1, 1) := by decide +kernel
theorem dX8_addBundle_43 : decode cX8_addBundle 43 = .ok (.bipush 8, 2) := by decide +kernel
theorem dX8_addBundle_45 : decode cX8_addBundle 45 = .ok (.invokevirtual 39, 3) := by decide +kernel
theorem dX8_addBundle_48 : decode cX8_addBundle 48 = .ok (.ireturn, 1) := by decide +kernel
theorem dX8_addBundle_49 : decode cX8_addBundle 49 = .ok (.aload_n 0, 1) := by decide +kernel
theorem dX8_addBundle_50 : decode cX8_addBundle 50 = .ok (.getfield 21, 3) := by decide +kernel
theorem dX8_addBundle_53 : decode cX8_addBundle 53 = .ok (.getfield 29, 3) := by decide +kernel
theorem dX8_addBundle_56 : decode cX8_addBundle 56 = .ok (.iload_n 1, 1) := by decide +kernel
theorem dX8_addBundle_57 : decode cX8_addBundle 57 = .ok (.iload_n 2, 1) := by decide +kernel
theorem dX8_addBundle_58 : decode cX8_addBundle 58 = .ok (.invokevirtual 43, 3) := by decide +kernel
theorem dX8_addBundle_61 : decode cX8_addBundle 61 = .ok (.ireturn, 1) := by decide +kernel
theorem dX8_addStrips_0 : decode cX8_addStrips 0 = .ok (.iload_n 1, 1) := by decide +kernel
theorem dX8_addStrips_1 : decode cX8_addStrips 1 = .ok (.iconst 1, 1) := by decide +kernel
theorem dX8_addStrips_2 : decode cX8_addStrips 2 = .ok (.bipush 99, 2) := by decide +kernel
theorem dX8_addStrips_4 : decode cX8_addStrips 4 = .ok (.invokestatic 25, 3) := by decide +kernel
theorem dX8_addStrips_7 : decode cX8_addStrips 7 = .ok (.ifCond .ne 6, 3) := by decide +kernel
theorem dX8_addStrips_10 : decode cX8_addStrips 10 = .ok (.bipush (-2), 2) := by decide +kernel
theorem dX8_addStrips_12 : decode cX8_addStrips 12 = .ok (.ireturn, 1) := by decide +kernel
theorem dX8_addStrips_13 : decode cX8_addStrips 13 = .ok (.aload_n 0, 1) := by decide +kernel
theorem dX8_addStrips_14 : decode cX8_addStrips 14 = .ok (.getfield 21, 3) := by decide +kernel
theorem dX8_addStrips_17 : decode cX8_addStrips 17 = .ok (.aload_n 0, 1) := by decide +kernel
theorem dX8_addStrips_18 : decode cX8_addStrips 18 = .ok (.getfield 21, 3) := by decide +kernel
theorem dX8_addStrips_21 : decode cX8_addStrips 21 = .ok (.getfield 46, 3) := by decide +kernel
theorem dX8_addStrips_24 : decode cX8_addStrips 24 = .ok (.iload_n 1, 1) := by decide +kernel
theorem dX8_addStrips_25 : decode cX8_addStrips 25 = .ok (.iadd, 1) := by decide +kernel
theorem dX8_addStrips_26 : decode cX8_addStrips 26 = .ok (.sipush 200, 3) := by decide +kernel
theorem dX8_addStrips_29 : decode cX8_addStrips 29 = .ok (.invokestatic 49, 3) := by decide +kernel
theorem dX8_addStrips_32 : decode cX8_addStrips 32 = .ok (.putfield 46, 3) := by decide +kernel
theorem dX8_addStrips_35 : decode cX8_addStrips 35 = .ok (.aload_n 0, 1) := by decide +kernel
theorem dX8_addStrips_36 : decode cX8_addStrips 36 = .ok (.getfield 21, 3) := by decide +kernel
theorem dX8_addStrips_39 : decode cX8_addStrips 39 = .ok (.getfield 46, 3) := by decide +kernel
theorem dX8_addStrips_42 : decode cX8_addStrips 42 = .ok (.ireturn, 1) := by decide +kernel
theorem dX8_addStorey_0 : decode cX8_addStorey 0 = .ok (.aload_n 0, 1) := by decide +kernel
theorem dX8_addStorey_1 : decode cX8_addStorey 1 = .ok (.getfield 21, 3) := by decide +kernel
theorem dX8_addStorey_4 : decode cX8_addStorey 4 = .ok (.getfield 29, 3) := by decide +kernel
theorem dX8_addStorey_7 : decode cX8_addStorey 7 = .ok (.iload_n 1, 1) := by decide +kernel
theorem dX8_addStorey_8 : decode cX8_addStorey 8 = .ok (.invokevirtual 54, 3) := by decide +kernel
theorem dX8_addStorey_11 : decode cX8_addStorey 11 = .ok (.ifCond .ne 5, 3) := by decide +kernel
theorem dX8_addStorey_14 : decode cX8_addStorey 14 = .ok (.iconst (-1), 1) := by decide +kernel
theorem dX8_addStorey_15 : decode cX8_addStorey 15 = .ok (.ireturn, 1) := by decide +kernel
theorem dX8_addStorey_16 : decode cX8_addStorey 16 = .ok (.iload_n 2, 1) := by decide +kernel
theorem dX8_addStorey_17 : decode cX8_addStorey 17 = .ok (.iconst 4, 1) := by decide +kernel
theorem dX8_addStorey_18 : decode cX8_addStorey 18 = .ok (.bipush 8, 2) := by decide +kernel
theorem dX8_addStorey_20 : decode cX8_addStorey 20 = .ok (.invokestatic 25, 3) := by decide +kernel
theorem dX8_addStorey_23 : decode cX8_addStorey 23 = .ok (.ifCond .eq 13, 3) := by decide +kernel
theorem dX8_addStorey_26 : decode cX8_addStorey 26 = .ok (.iload_n 3, 1) := by decide +kernel
theorem dX8_addStorey_27 : decode cX8_addStorey 27 = .ok (.iconst 0, 1) := by decide +kernel
theorem dX8_addStorey_28 : decode cX8_addStorey 28 = .ok (.bipush 40, 2) := by decide +kernel
theorem dX8_addStorey_30 : decode cX8_addStorey 30 = .ok (.invokestatic 25, 3) := by decide +kernel
theorem dX8_addStorey_33 : decode cX8_addStorey 33 = .ok (.ifCond .ne 6, 3) := by decide +kernel
theorem dX8_addStorey_36 : decode cX8_addStorey 36 = .ok (.bipush (-2), 2) := by decide +kernel
theorem dX8_addStorey_38 : decode cX8_addStorey 38 = .ok (.ireturn, 1) := by decide +kernel
theorem dX8_addStorey_39 : decode cX8_addStorey 39 = .ok (.aload_n 0, 1) := by decide +kernel
theorem dX8_addStorey_40 : decode cX8_addStorey 40 = .ok (.getfield 21, 3) := by decide +kernel
theorem dX8_addStorey_43 : decode cX8_addStorey 43 = .ok (.getfield 58, 3) := by decide +kernel
theorem dX8_addStorey_46 : decode cX8_addStorey 46 = .ok (.getfield 62, 3) := by decide +kernel
theorem dX8_addStorey_49 : decode cX8_addStorey 49 = .ok (.bipush 10, 2) := by decide +kernel
theorem dX8_addStorey_51 : decode cX8_addStorey 51 = .ok (.if_icmp .lt 14, 3) := by decide +kernel
theorem dX8_addStorey_54 : decode cX8_addStorey 54 = .ok (.aload_n 0, 1) := by decide +kernel
theorem dX8_addStorey_55 : decode cX8_addStorey 55 = .ok (.getfield 12, 3) := by decide +kernel
theorem dX8_addStorey_58 : decode cX8_addStorey 58 = .ok (.iconst 1, 1) := by decide +kernel
theorem dX8_addStorey_59 : decode cX8_addStorey 59 = .ok (.bipush 10, 2) := by decide +kernel
theorem dX8_addStorey_61 : decode cX8_addStorey 61 = .ok (.invokevirtual 39, 3) := by decide +kernel
theorem dX8_addStorey_64 : decode cX8_addStorey 64 = .ok (.ireturn, 1) := by decide +kernel
theorem dX8_addStorey_65 : decode cX8_addStorey 65 = .ok (.aload_n 0, 1) := by decide +kernel
theorem dX8_addStorey_66 : decode cX8_addStorey 66 = .ok (.getfield 21, 3) := by decide +kernel
theorem dX8_addStorey_69 : decode cX8_addStorey 69 = .ok (.invokevirtual 65, 3) := by decide +kernel
theorem dX8_addStorey_72 : decode cX8_addStorey 72 = .ok (.ifCond .eq 19, 3) := by decide +kernel
theorem dX8_addStorey_75 : decode cX8_addStorey 75 = .ok (.aload_n 0, 1) := by decide +kernel
theorem dX8_addStorey_76 : decode cX8_addStorey 76 = .ok (.getfield 12, 3) := by decide +kernel
theorem dX8_addStorey_79 : decode cX8_addStorey 79 = .ok (.iconst 4, 1) := by decide +kernel
theorem dX8_addStorey_80 : decode cX8_addStorey 80 = .ok (.aload_n 0, 1) := by decide +kernel
theorem dX8_addStorey_81 : decode cX8_addStorey 81 = .ok (.getfield 21, 3) := by decide +kernel
theorem dX8_addStorey_84 : decode cX8_addStorey 84 = .ok (.getfield 69, 3) := by decide +kernel
theorem dX8_addStorey_87 : decode cX8_addStorey 87 = .ok (.invokevirtual 39, 3) := by decide +kernel
theorem dX8_addStorey_90 : decode cX8_addStorey 90 = .ok (.ireturn, 1) := by decide +kernel
theorem dX8_addStorey_91 : decode cX8_addStorey 91 = .ok (.aload_n 0, 1) := by decide +kernel
theorem dX8_addStorey_92 : decode cX8_addStorey 92 = .ok (.getfield 21, 3) := by decide +kernel
theorem dX8_addStorey_95 : decode cX8_addStorey 95 = .ok (.getfield 29, 3) := by decide +kernel
theorem dX8_addStorey_98 : decode cX8_addStorey 98 = .ok (.iload_n 1, 1) := by decide +kernel
theorem dX8_addStorey_99 : decode cX8_addStorey 99 = .ok (.invokevirtual 72, 3) := by decide +kernel
theorem dX8_addStorey_102 : decode cX8_addStorey 102 = .ok (.iload_n 2, 1) := by decide +kernel
theorem dX8_addStorey_103 : decode cX8_addStorey 103 = .ok (.if_icmp .ge 23, 3) := by decide +kernel
theorem dX8_addStorey_106 : decode cX8_addStorey 106 = .ok (.aload_n 0, 1) := by decide +kernel
theorem dX8_addStorey_107 : decode cX8_addStorey 107 = .ok (.getfield 12, 3) := by decide +kernel
theorem dX8_addStorey_110 : decode cX8_addStorey 110 = .ok (.iconst 2, 1) := by decide +kernel
theorem dX8_addStorey_111 : decode cX8_addStorey 111 = .ok (.aload_n 0, 1) := by decide +kernel
theorem dX8_addStorey_112 : decode cX8_addStorey 112 = .ok (.getfield 21, 3) := by decide +kernel
theorem dX8_addStorey_115 : decode cX8_addStorey 115 = .ok (.getfield 29, 3) := by decide +kernel
theorem dX8_addStorey_118 : decode cX8_addStorey 118 = .ok (.iload_n 1, 1) := by decide +kernel
theorem dX8_addStorey_119 : decode cX8_addStorey 119 = .ok (.invokevirtual 72, 3) := by decide +kernel
theorem dX8_addStorey_122 : decode cX8_addStorey 122 = .ok (.invokevirtual 39, 3) := by decide +kernel
theorem dX8_addStorey_125 : decode cX8_addStorey 125 = .ok (.ireturn, 1) := by decide +kernel
theorem dX8_addStorey_126 : decode cX8_addStorey 126 = .ok (.iload_n 2, 1) := by decide +kernel
theorem dX8_addStorey_127 : decode cX8_addStorey 127 = .ok (.iconst 2, 1) := by decide +kernel
theorem dX8_addStorey_128 : decode cX8_addStorey 128 = .ok (.imul, 1) := by decide +kernel
theorem dX8_addStorey_129 : decode cX8_addStorey 129 = .ok (.istore 4, 2) := by decide +kernel
theorem dX8_addStorey_131 : decode cX8_addStorey 131 = .ok (.aload_n 0, 1) := by decide +kernel
theorem dX8_addStorey_132 : decode cX8_addStorey 132 = .ok (.getfield 21, 3) := by decide +kernel
theorem dX8_addStorey_135 : decode cX8_addStorey 135 = .ok (.getfield 46, 3) := by decide +kernel
theorem dX8_addStorey_138 : decode cX8_addStorey 138 = .ok (.iload 4, 2) := by decide +kernel
theorem dX8_addStorey_140 : decode cX8_addStorey 140 = .ok (.if_icmp .ge 22, 3) := by decide +kernel
theorem dX8_addStorey_143 : decode cX8_addStorey 143 = .ok (.aload_n 0, 1) := by decide +kernel
theorem dX8_addStorey_144 : decode cX8_addStorey 144 = .ok (.getfield 12, 3) := by decide +kernel
theorem dX8_addStorey_147 : decode cX8_addStorey 147 = .ok (.iconst 3, 1) := by decide +kernel
theorem dX8_addStorey_148 : decode cX8_addStorey 148 = .ok (.iload 4, 2) := by decide +kernel
theorem dX8_addStorey_150 : decode cX8_addStorey 150 = .ok (.aload_n 0, 1) := by decide +kernel
theorem dX8_addStorey_151 : decode cX8_addStorey 151 = .ok (.getfield 21, 3) := by decide +kernel
theorem dX8_addStorey_154 : decode cX8_addStorey 154 = .ok (.getfield 46, 3) := by decide +kernel
theorem dX8_addStorey_157 : decode cX8_addStorey 157 = .ok (.isub, 1) := by decide +kernel
theorem dX8_addStorey_158 : decode cX8_addStorey 158 = .ok (.invokevirtual 39, 3) := by decide +kernel
theorem dX8_addStorey_161 : decode cX8_addStorey 161 = .ok (.ireturn, 1) := by decide +kernel
theorem dX8_addStorey_162 : decode cX8_addStorey 162 = .ok (.aload_n 0, 1) := by decide +kernel
theorem dX8_addStorey_163 : decode cX8_addStorey 163 = .ok (.getfield 21, 3) := by decide +kernel
theorem dX8_addStorey_166 : decode cX8_addStorey 166 = .ok (.getfield 29, 3) := by decide +kernel
theorem dX8_addStorey_169 : decode cX8_addStorey 169 = .ok (.iload_n 1, 1) := by decide +kernel
theorem dX8_addStorey_170 : decode cX8_addStorey 170 = .ok (.iload_n 2, 1) := by decide +kernel
theorem dX8_addStorey_171 : decode cX8_addStorey 171 = .ok (.invokevirtual 76, 3) := by decide +kernel
theorem dX8_addStorey_174 : decode cX8_addStorey 174 = .ok (.aload_n 0, 1) := by decide +kernel
theorem dX8_addStorey_175 : decode cX8_addStorey 175 = .ok (.getfield 21, 3) := by decide +kernel
theorem dX8_addStorey_178 : decode cX8_addStorey 178 = .ok (.dup, 1) := by decide +kernel
theorem dX8_addStorey_179 : decode cX8_addStorey 179 = .ok (.getfield 46, 3) := by decide +kernel
theorem dX8_addStorey_182 : decode cX8_addStorey 182 = .ok (.iload 4, 2) := by decide +kernel
theorem dX8_addStorey_184 : decode cX8_addStorey 184 = .ok (.isub, 1) := by decide +kernel
theorem dX8_addStorey_185 : decode cX8_addStorey 185 = .ok (.putfield 46, 3) := by decide +kernel
theorem dX8_addStorey_188 : decode cX8_addStorey 188 = .ok (.aload_n 0, 1) := by decide +kernel
theorem dX8_addStorey_189 : decode cX8_addStorey 189 = .ok (.getfield 21, 3) := by decide +kernel
theorem dX8_addStorey_192 : decode cX8_addStorey 192 = .ok (.dup, 1) := by decide +kernel
theorem dX8_addStorey_193 : decode cX8_addStorey 193 = .ok (.getfield 80, 3) := by decide +kernel
theorem dX8_addStorey_196 : decode cX8_addStorey 196 = .ok (.iload_n 3, 1) := by decide +kernel
theorem dX8_addStorey_197 : decode cX8_addStorey 197 = .ok (.iadd, 1) := by decide +kernel
theorem dX8_addStorey_198 : decode cX8_addStorey 198 = .ok (.putfield 80, 3) := by decide +kernel
theorem dX8_addStorey_201 : decode cX8_addStorey 201 = .ok (.aload_n 0, 1) := by decide +kernel
theorem dX8_addStorey_202 : decode cX8_addStorey 202 = .ok (.getfield 21, 3) := by decide +kernel
theorem dX8_addStorey_205 : decode cX8_addStorey 205 = .ok (.getfield 58, 3) := by decide +kernel
theorem dX8_addStorey_208 : decode cX8_addStorey 208 = .ok (.iload_n 2, 1) := by decide +kernel
theorem dX8_addStorey_209 : decode cX8_addStorey 209 = .ok (.aload_n 0, 1) := by decide +kernel
theorem dX8_addStorey_210 : decode cX8_addStorey 210 = .ok (.getfield 21, 3) := by decide +kernel
theorem dX8_addStorey_213 : decode cX8_addStorey 213 = .ok (.getfield 29, 3) := by decide +kernel
theorem dX8_addStorey_216 : decode cX8_addStorey 216 = .ok (.iload_n 1, 1) := by decide +kernel
theorem dX8_addStorey_217 : decode cX8_addStorey 217 = .ok (.invokevirtual 83, 3) := by decide +kernel
theorem dX8_addStorey_220 : decode cX8_addStorey 220 = .ok (.iload_n 3, 1) := by decide +kernel
theorem dX8_addStorey_221 : decode cX8_addStorey 221 = .ok (.invokevirtual 86, 3) := by decide +kernel
theorem dX8_addStorey_224 : decode cX8_addStorey 224 = .ok (.ireturn, 1) := by decide +kernel
theorem dX8_tieAnew_0 : decode cX8_tieAnew 0 = .ok (.aload_n 0, 1) := by decide +kernel
theorem dX8_tieAnew_1 : decode cX8_tieAnew 1 = .ok (.getfield 21, 3) := by decide +kernel
theorem dX8_tieAnew_4 : decode cX8_tieAnew 4 = .ok (.getfield 58, 3) := by decide +kernel
theorem dX8_tieAnew_7 : decode cX8_tieAnew 7 = .ok (.iload_n 1, 1) := by decide +kernel
theorem dX8_tieAnew_8 : decode cX8_tieAnew 8 = .ok (.invokevirtual 89, 3) := by decide +kernel
theorem dX8_tieAnew_11 : decode cX8_tieAnew 11 = .ok (.ifCond .ne 5, 3) := by decide +kernel
theorem dX8_tieAnew_14 : decode cX8_tieAnew 14 = .ok (.iconst (-1), 1) := by decide +kernel
theorem dX8_tieAnew_15 : decode cX8_tieAnew 15 = .ok (.ireturn, 1) := by decide +kernel
theorem dX8_tieAnew_16 : decode cX8_tieAnew 16 = .ok (.aload_n 0, 1) := by decide +kernel
theorem dX8_tieAnew_17 : decode cX8_tieAnew 17 = .ok (.getfield 21, 3) := by decide +kernel
theorem dX8_tieAnew_20 : decode cX8_tieAnew 20 = .ok (.invokevirtual 65, 3) := by decide +kernel
theorem dX8_tieAnew_23 : decode cX8_tieAnew 23 = .ok (.ifCond .eq 19, 3) := by decide +kernel
theorem dX8_tieAnew_26 : decode cX8_tieAnew 26 = .ok (.aload_n 0, 1) := by decide +kernel
theorem dX8_tieAnew_27 : decode cX8_tieAnew 27 = .ok (.getfield 12, 3) := by decide +kernel
theorem dX8_tieAnew_30 : decode cX8_tieAnew 30 = .ok (.iconst 4, 1) := by decide +kernel
theorem dX8_tieAnew_31 : decode cX8_tieAnew 31 = .ok (.aload_n 0, 1) := by decide +kernel
theorem dX8_tieAnew_32 : decode cX8_tieAnew 32 = .ok (.getfield 21, 3) := by decide +kernel
theorem dX8_tieAnew_35 : decode cX8_tieAnew 35 = .ok (.getfield 69, 3) := by decide +kernel
theorem dX8_tieAnew_38 : decode cX8_tieAnew 38 = .ok (.invokevirtual 39, 3) := by decide +kernel
theorem dX8_tieAnew_41 : decode cX8_tieAnew 41 = .ok (.ireturn, 1) := by decide +kernel
theorem dX8_tieAnew_42 : decode cX8_tieAnew 42 = .ok (.aload_n 0, 1) := by decide +kernel
theorem dX8_tieAnew_43 : decode cX8_tieAnew 43 = .ok (.getfield 21, 3) := by decide +kernel
theorem dX8_tieAnew_46 : decode cX8_tieAnew 46 = .ok (.getfield 58, 3) := by decide +kernel
theorem dX8_tieAnew_49 : decode cX8_tieAnew 49 = .ok (.iload_n 1, 1) := by decide +kernel
theorem dX8_tieAnew_50 : decode cX8_tieAnew 50 = .ok (.invokevirtual 90, 3) := by decide +kernel
theorem dX8_tieAnew_53 : decode cX8_tieAnew 53 = .ok (.istore_n 2, 1) := by decide +kernel
theorem dX8_tieAnew_54 : decode cX8_tieAnew 54 = .ok (.iload_n 2, 1) := by decide +kernel
theorem dX8_tieAnew_55 : decode cX8_tieAnew 55 = .ok (.ifCond .ne 14, 3) := by decide +kernel
theorem dX8_tieAnew_58 : decode cX8_tieAnew 58 = .ok (.aload_n 0, 1) := by decide +kernel
theorem dX8_tieAnew_59 : decode cX8_tieAnew 59 = .ok (.getfield 12, 3) := by decide +kernel
theorem dX8_tieAnew_62 : decode cX8_tieAnew 62 = .ok (.bipush 10, 2) := by decide +kernel
theorem dX8_tieAnew_64 : decode cX8_tieAnew 64 = .ok (.iload_n 1, 1) := by decide +kernel
theorem dX8_tieAnew_65 : decode cX8_tieAnew 65 = .ok (.invokevirtual 39, 3) := by decide +kernel
theorem dX8_tieAnew_68 : decode cX8_tieAnew 68 = .ok (.ireturn, 1) := by decide +kernel
theorem dX8_tieAnew_69 : decode cX8_tieAnew 69 = .ok (.aload_n 0, 1) := by decide +kernel
theorem dX8_tieAnew_70 : decode cX8_tieAnew 70 = .ok (.getfield 21, 3) := by decide +kernel
theorem dX8_tieAnew_73 : decode cX8_tieAnew 73 = .ok (.getfield 58, 3) := by decide +kernel
theorem dX8_tieAnew_76 : decode cX8_tieAnew 76 = .ok (.iload_n 1, 1) := by decide +kernel
theorem dX8_tieAnew_77 : decode cX8_tieAnew 77 = .ok (.invokevirtual 93, 3) := by decide +kernel
theorem dX8_tieAnew_80 : decode cX8_tieAnew 80 = .ok (.istore_n 3, 1) := by decide +kernel
theorem dX8_tieAnew_81 : decode cX8_tieAnew 81 = .ok (.aload_n 0, 1) := by decide +kernel
theorem dX8_tieAnew_82 : decode cX8_tieAnew 82 = .ok (.getfield 21, 3) := by decide +kernel
theorem dX8_tieAnew_85 : decode cX8_tieAnew 85 = .ok (.getfield 46, 3) := by decide +kernel
theorem dX8_tieAnew_88 : decode cX8_tieAnew 88 = .ok (.iload_n 3, 1) := by decide +kernel
theorem dX8_tieAnew_89 : decode cX8_tieAnew 89 = .ok (.if_icmp .ge 21, 3) := by decide +kernel
theorem dX8_tieAnew_92 : decode cX8_tieAnew 92 = .ok (.aload_n 0, 1) := by decide +kernel
theorem dX8_tieAnew_93 : decode cX8_tieAnew 93 = .ok (.getfield 12, 3) := by decide +kernel
theorem dX8_tieAnew_96 : decode cX8_tieAnew 96 = .ok (.iconst 3, 1) := by decide +kernel
theorem dX8_tieAnew_97 : decode cX8_tieAnew 97 = .ok (.iload_n 3, 1) := by decide +kernel
theorem dX8_tieAnew_98 : decode cX8_tieAnew 98 = .ok (.aload_n 0, 1) := by decide +kernel
theorem dX8_tieAnew_99 : decode cX8_tieAnew 99 = .ok (.getfield 21, 3) := by decide +kernel
theorem dX8_tieAnew_102 : decode cX8_tieAnew 102 = .ok (.getfield 46, 3) := by decide +kernel
theorem dX8_tieAnew_105 : decode cX8_tieAnew 105 = .ok (.isub, 1) := by decide +kernel
theorem dX8_tieAnew_106 : decode cX8_tieAnew 106 = .ok (.invokevirtual 39, 3) := by decide +kernel
theorem dX8_tieAnew_109 : decode cX8_tieAnew 109 = .ok (.ireturn, 1) := by decide +kernel
theorem dX8_tieAnew_110 : decode cX8_tieAnew 110 = .ok (.aload_n 0, 1) := by decide +kernel
theorem dX8_tieAnew_111 : decode cX8_tieAnew 111 = .ok (.getfield 21, 3) := by decide +kernel
theorem dX8_tieAnew_114 : decode cX8_tieAnew 114 = .ok (.dup, 1) := by decide +kernel
theorem dX8_tieAnew_115 : decode cX8_tieAnew 115 = .ok (.getfield 46, 3) := by decide +kernel
theorem dX8_tieAnew_118 : decode cX8_tieAnew 118 = .ok (.iload_n 3, 1) := by decide +kernel
theorem dX8_tieAnew_119 : decode cX8_tieAnew 119 = .ok (.isub, 1) := by decide +kernel
theorem dX8_tieAnew_120 : decode cX8_tieAnew 120 = .ok (.putfield 46, 3) := by decide +kernel
theorem dX8_tieAnew_123 : decode cX8_tieAnew 123 = .ok (.aload_n 0, 1) := by decide +kernel
theorem dX8_tieAnew_124 : decode cX8_tieAnew 124 = .ok (.getfield 21, 3) := by decide +kernel
theorem dX8_tieAnew_127 : decode cX8_tieAnew 127 = .ok (.getfield 58, 3) := by decide +kernel
theorem dX8_tieAnew_130 : decode cX8_tieAnew 130 = .ok (.iload_n 1, 1) := by decide +kernel
theorem dX8_tieAnew_131 : decode cX8_tieAnew 131 = .ok (.invokevirtual 96, 3) := by decide +kernel
theorem dX8_tieAnew_134 : decode cX8_tieAnew 134 = .ok (.iload_n 2, 1) := by decide +kernel
theorem dX8_tieAnew_135 : decode cX8_tieAnew 135 = .ok (.ireturn, 1) := by decide +kernel
theorem dX8_addCrew_0 : decode cX8_addCrew 0 = .ok (.iload_n 1, 1) := by decide +kernel
theorem dX8_addCrew_1 : decode cX8_addCrew 1 = .ok (.iconst 1, 1) := by decide +kernel
theorem dX8_addCrew_2 : decode cX8_addCrew 2 = .ok (.iconst 4, 1) := by decide +kernel
theorem dX8_addCrew_3 : decode cX8_addCrew 3 = .ok (.invokestatic 25, 3) := by decide +kernel
theorem dX8_addCrew_6 : decode cX8_addCrew 6 = .ok (.ifCond .ne 6, 3) := by decide +kernel
theorem dX8_addCrew_9 : decode cX8_addCrew 9 = .ok (.bipush (-2), 2) := by decide +kernel
theorem dX8_addCrew_11 : decode cX8_addCrew 11 = .ok (.ireturn, 1) := by decide +kernel
theorem dX8_addCrew_12 : decode cX8_addCrew 12 = .ok (.aload_n 0, 1) := by decide +kernel
theorem dX8_addCrew_13 : decode cX8_addCrew 13 = .ok (.getfield 21, 3) := by decide +kernel
theorem dX8_addCrew_16 : decode cX8_addCrew 16 = .ok (.getfield 100, 3) := by decide +kernel
theorem dX8_addCrew_19 : decode cX8_addCrew 19 = .ok (.getfield 104, 3) := by decide +kernel
theorem dX8_addCrew_22 : decode cX8_addCrew 22 = .ok (.iconst 5, 1) := by decide +kernel
theorem dX8_addCrew_23 : decode cX8_addCrew 23 = .ok (.if_icmp .lt 13, 3) := by decide +kernel
theorem dX8_addCrew_26 : decode cX8_addCrew 26 = .ok (.aload_n 0, 1) := by decide +kernel
theorem dX8_addCrew_27 : decode cX8_addCrew 27 = .ok (.getfield 12, 3) := by decide +kernel
theorem dX8_addCrew_30 : decode cX8_addCrew 30 = .ok (.iconst 1, 1) := by decide +kernel
theorem dX8_addCrew_31 : decode cX8_addCrew 31 = .ok (.iconst 5, 1) := by decide +kernel
theorem dX8_addCrew_32 : decode cX8_addCrew 32 = .ok (.invokevirtual 39, 3) := by decide +kernel
theorem dX8_addCrew_35 : decode cX8_addCrew 35 = .ok (.ireturn, 1) := by decide +kernel
theorem dX8_addCrew_36 : decode cX8_addCrew 36 = .ok (.aload_n 0, 1) := by decide +kernel
theorem dX8_addCrew_37 : decode cX8_addCrew 37 = .ok (.getfield 21, 3) := by decide +kernel
theorem dX8_addCrew_40 : decode cX8_addCrew 40 = .ok (.getfield 100, 3) := by decide +kernel
theorem dX8_addCrew_43 : decode cX8_addCrew 43 = .ok (.iload_n 1, 1) := by decide +kernel
theorem dX8_addCrew_44 : decode cX8_addCrew 44 = .ok (.invokevirtual 107, 3) := by decide +kernel
theorem dX8_addCrew_47 : decode cX8_addCrew 47 = .ok (.ireturn, 1) := by decide +kernel
theorem dX8_sendUp_0 : decode cX8_sendUp 0 = .ok (.aload_n 0, 1) := by decide +kernel
theorem dX8_sendUp_1 : decode cX8_sendUp 1 = .ok (.getfield 21, 3) := by decide +kernel
theorem dX8_sendUp_4 : decode cX8_sendUp 4 = .ok (.getfield 100, 3) := by decide +kernel
theorem dX8_sendUp_7 : decode cX8_sendUp 7 = .ok (.iload_n 1, 1) := by decide +kernel
theorem dX8_sendUp_8 : decode cX8_sendUp 8 = .ok (.invokevirtual 109, 3) := by decide +kernel
theorem dX8_sendUp_11 : decode cX8_sendUp 11 = .ok (.ifCond .eq 17, 3) := by decide +kernel
theorem dX8_sendUp_14 : decode cX8_sendUp 14 = .ok (.aload_n 0, 1) := by decide +kernel
theorem dX8_sendUp_15 : decode cX8_sendUp 15 = .ok (.getfield 21, 3) := by decide +kernel
theorem dX8_sendUp_18 : decode cX8_sendUp 18 = .ok (.getfield 58, 3) := by decide +kernel
theorem dX8_sendUp_21 : decode cX8_sendUp 21 = .ok (.iload_n 2, 1) := by decide +kernel
theorem dX8_sendUp_22 : decode cX8_sendUp 22 = .ok (.invokevirtual 89, 3) := by decide +kernel
theorem dX8_sendUp_25 : decode cX8_sendUp 25 = .ok (.ifCond .ne 5, 3) := by decide +kernel
theorem dX8_sendUp_28 : decode cX8_sendUp 28 = .ok (.iconst (-1), 1) := by decide +kernel
theorem dX8_sendUp_29 : decode cX8_sendUp 29 = .ok (.ireturn, 1) := by decide +kernel
theorem dX8_sendUp_30 : decode cX8_sendUp 30 = .ok (.aload_n 0, 1) := by decide +kernel
theorem dX8_sendUp_31 : decode cX8_sendUp 31 = .ok (.getfield 21, 3) := by decide +kernel
theorem dX8_sendUp_34 : decode cX8_sendUp 34 = .ok (.getfield 100, 3) := by decide +kernel
theorem dX8_sendUp_37 : decode cX8_sendUp 37 = .ok (.iload_n 1, 1) := by decide +kernel
theorem dX8_sendUp_38 : decode cX8_sendUp 38 = .ok (.invokevirtual 110, 3) := by decide +kernel
theorem dX8_sendUp_41 : decode cX8_sendUp 41 = .ok (.iload_n 2, 1) := by decide +kernel
theorem dX8_sendUp_42 : decode cX8_sendUp 42 = .ok (.if_icmp .ne 14, 3) := by decide +kernel
theorem dX8_sendUp_45 : decode cX8_sendUp 45 = .ok (.aload_n 0, 1) := by decide +kernel
theorem dX8_sendUp_46 : decode cX8_sendUp 46 = .ok (.getfield 12, 3) := by decide +kernel
theorem dX8_sendUp_49 : decode cX8_sendUp 49 = .ok (.bipush 7, 2) := by decide +kernel
theorem dX8_sendUp_51 : decode cX8_sendUp 51 = .ok (.iload_n 2, 1) := by decide +kernel
theorem dX8_sendUp_52 : decode cX8_sendUp 52 = .ok (.invokevirtual 39, 3) := by decide +kernel
theorem dX8_sendUp_55 : decode cX8_sendUp 55 = .ok (.ireturn, 1) := by decide +kernel
theorem dX8_sendUp_56 : decode cX8_sendUp 56 = .ok (.aload_n 0, 1) := by decide +kernel
theorem dX8_sendUp_57 : decode cX8_sendUp 57 = .ok (.getfield 21, 3) := by decide +kernel
theorem dX8_sendUp_60 : decode cX8_sendUp 60 = .ok (.invokevirtual 65, 3) := by decide +kernel
theorem dX8_sendUp_63 : decode cX8_sendUp 63 = .ok (.ifCond .eq 19, 3) := by decide +kernel
theorem dX8_sendUp_66 : decode cX8_sendUp 66 = .ok (.aload_n 0, 1) := by decide +kernel
theorem dX8_sendUp_67 : decode cX8_sendUp 67 = .ok (.getfield 12, 3) := by decide +kernel
theorem dX8_sendUp_70 : decode cX8_sendUp 70 = .ok (.iconst 4, 1) := by decide +kernel
theorem dX8_sendUp_71 : decode cX8_sendUp 71 = .ok (.aload_n 0, 1) := by decide +kernel
theorem dX8_sendUp_72 : decode cX8_sendUp 72 = .ok (.getfield 21, 3) := by decide +kernel
theorem dX8_sendUp_75 : decode cX8_sendUp 75 = .ok (.getfield 69, 3) := by decide +kernel
theorem dX8_sendUp_78 : decode cX8_sendUp 78 = .ok (.invokevirtual 39, 3) := by decide +kernel
theorem dX8_sendUp_81 : decode cX8_sendUp 81 = .ok (.ireturn, 1) := by decide +kernel
theorem dX8_sendUp_82 : decode cX8_sendUp 82 = .ok (.aload_n 0, 1) := by decide +kernel
theorem dX8_sendUp_83 : decode cX8_sendUp 83 = .ok (.getfield 21, 3) := by decide +kernel
theorem dX8_sendUp_86 : decode cX8_sendUp 86 = .ok (.getfield 58, 3) := by decide +kernel
theorem dX8_sendUp_89 : decode cX8_sendUp 89 = .ok (.iload_n 2, 1) := by decide +kernel
theorem dX8_sendUp_90 : decode cX8_sendUp 90 = .ok (.invokevirtual 113, 3) := by decide +kernel
theorem dX8_sendUp_93 : decode cX8_sendUp 93 = .ok (.istore_n 3, 1) := by decide +kernel
theorem dX8_sendUp_94 : decode cX8_sendUp 94 = .ok (.iload_n 3, 1) := by decide +kernel
theorem dX8_sendUp_95 : decode cX8_sendUp 95 = .ok (.bipush (-4), 2) := by decide +kernel
theorem dX8_sendUp_97 : decode cX8_sendUp 97 = .ok (.if_icmp .eq 13, 3) := by decide +kernel
theorem dX8_sendUp_100 : decode cX8_sendUp 100 = .ok (.aload_n 0, 1) := by decide +kernel
theorem dX8_sendUp_101 : decode cX8_sendUp 101 = .ok (.getfield 12, 3) := by decide +kernel
theorem dX8_sendUp_104 : decode cX8_sendUp 104 = .ok (.iconst 5, 1) := by decide +kernel
theorem dX8_sendUp_105 : decode cX8_sendUp 105 = .ok (.iload_n 3, 1) := by decide +kernel
theorem dX8_sendUp_106 : decode cX8_sendUp 106 = .ok (.invokevirtual 39, 3) := by decide +kernel
theorem dX8_sendUp_109 : decode cX8_sendUp 109 = .ok (.ireturn, 1) := by decide +kernel
theorem dX8_sendUp_110 : decode cX8_sendUp 110 = .ok (.aload_n 0, 1) := by decide +kernel
theorem dX8_sendUp_111 : decode cX8_sendUp 111 = .ok (.getfield 21, 3) := by decide +kernel
theorem dX8_sendUp_114 : decode cX8_sendUp 114 = .ok (.getfield 58, 3) := by decide +kernel
theorem dX8_sendUp_117 : decode cX8_sendUp 117 = .ok (.iload_n 2, 1) := by decide +kernel
theorem dX8_sendUp_118 : decode cX8_sendUp 118 = .ok (.invokevirtual 116, 3) := by decide +kernel
theorem dX8_sendUp_121 : decode cX8_sendUp 121 = .ok (.ifCond .eq 23, 3) := by decide +kernel
theorem dX8_sendUp_124 : decode cX8_sendUp 124 = .ok (.aload_n 0, 1) := by decide +kernel
theorem dX8_sendUp_125 : decode cX8_sendUp 125 = .ok (.getfield 12, 3) := by decide +kernel
theorem dX8_sendUp_128 : decode cX8_sendUp 128 = .ok (.iload_n 2, 1) := by decide +kernel
theorem dX8_sendUp_129 : decode cX8_sendUp 129 = .ok (.aload_n 0, 1) := by decide +kernel
theorem dX8_sendUp_130 : decode cX8_sendUp 130 = .ok (.getfield 21, 3) := by decide +kernel
theorem dX8_sendUp_133 : decode cX8_sendUp 133 = .ok (.getfield 58, 3) := by decide +kernel
theorem dX8_sendUp_136 : decode cX8_sendUp 136 = .ok (.iload_n 2, 1) := by decide +kernel
theorem dX8_sendUp_137 : decode cX8_sendUp 137 = .ok (.invokevirtual 119, 3) := by decide +kernel
theorem dX8_sendUp_140 : decode cX8_sendUp 140 = .ok (.invokevirtual 122, 3) := by decide +kernel
theorem dX8_sendUp_143 : decode cX8_sendUp 143 = .ok (.ireturn, 1) := by decide +kernel
theorem dX8_sendUp_144 : decode cX8_sendUp 144 = .ok (.aload_n 0, 1) := by decide +kernel
theorem dX8_sendUp_145 : decode cX8_sendUp 145 = .ok (.getfield 21, 3) := by decide +kernel
theorem dX8_sendUp_148 : decode cX8_sendUp 148 = .ok (.getfield 100, 3) := by decide +kernel
theorem dX8_sendUp_151 : decode cX8_sendUp 151 = .ok (.iload_n 1, 1) := by decide +kernel
theorem dX8_sendUp_152 : decode cX8_sendUp 152 = .ok (.iload_n 2, 1) := by decide +kernel
theorem dX8_sendUp_153 : decode cX8_sendUp 153 = .ok (.invokevirtual 125, 3) := by decide +kernel
theorem dX8_sendUp_156 : decode cX8_sendUp 156 = .ok (.aload_n 0, 1) := by decide +kernel
theorem dX8_sendUp_157 : decode cX8_sendUp 157 = .ok (.getfield 21, 3) := by decide +kernel
theorem dX8_sendUp_160 : decode cX8_sendUp 160 = .ok (.getfield 100, 3) := by decide +kernel
theorem dX8_sendUp_163 : decode cX8_sendUp 163 = .ok (.iload_n 2, 1) := by decide +kernel
theorem dX8_sendUp_164 : decode cX8_sendUp 164 = .ok (.invokevirtual 128, 3) := by decide +kernel
theorem dX8_sendUp_167 : decode cX8_sendUp 167 = .ok (.ireturn, 1) := by decide +kernel
theorem dX8_callDown_0 : decode cX8_callDown 0 = .ok (.aload_n 0, 1) := by decide +kernel
theorem dX8_callDown_1 : decode cX8_callDown 1 = .ok (.getfield 21, 3) := by decide +kernel
theorem dX8_callDown_4 : decode cX8_callDown 4 = .ok (.getfield 100, 3) := by decide +kernel
theorem dX8_callDown_7 : decode cX8_callDown 7 = .ok (.iload_n 1, 1) := by decide +kernel
theorem dX8_callDown_8 : decode cX8_callDown 8 = .ok (.invokevirtual 109, 3) := by decide +kernel
theorem dX8_callDown_11 : decode cX8_callDown 11 = .ok (.ifCond .ne 5, 3) := by decide +kernel
theorem dX8_callDown_14 : decode cX8_callDown 14 = .ok (.iconst (-1), 1) := by decide +kernel
theorem dX8_callDown_15 : decode cX8_callDown 15 = .ok (.ireturn, 1) := by decide +kernel
theorem dX8_callDown_16 : decode cX8_callDown 16 = .ok (.aload_n 0, 1) := by decide +kernel
theorem dX8_callDown_17 : decode cX8_callDown 17 = .ok (.getfield 21, 3) := by decide +kernel
theorem dX8_callDown_20 : decode cX8_callDown 20 = .ok (.getfield 100, 3) := by decide +kernel
theorem dX8_callDown_23 : decode cX8_callDown 23 = .ok (.iload_n 1, 1) := by decide +kernel
theorem dX8_callDown_24 : decode cX8_callDown 24 = .ok (.invokevirtual 131, 3) := by decide +kernel
theorem dX8_callDown_27 : decode cX8_callDown 27 = .ok (.ifCond .ne 14, 3) := by decide +kernel
theorem dX8_callDown_30 : decode cX8_callDown 30 = .ok (.aload_n 0, 1) := by decide +kernel
theorem dX8_callDown_31 : decode cX8_callDown 31 = .ok (.getfield 12, 3) := by decide +kernel
theorem dX8_callDown_34 : decode cX8_callDown 34 = .ok (.bipush 11, 2) := by decide +kernel
theorem dX8_callDown_36 : decode cX8_callDown 36 = .ok (.iload_n 1, 1) := by decide +kernel
theorem dX8_callDown_37 : decode cX8_callDown 37 = .ok (.invokevirtual 39, 3) := by decide +kernel
theorem dX8_callDown_40 : decode cX8_callDown 40 = .ok (.ireturn, 1) := by decide +kernel
theorem dX8_callDown_41 : decode cX8_callDown 41 = .ok (.aload_n 0, 1) := by decide +kernel
theorem dX8_callDown_42 : decode cX8_callDown 42 = .ok (.getfield 21, 3) := by decide +kernel
theorem dX8_callDown_45 : decode cX8_callDown 45 = .ok (.getfield 100, 3) := by decide +kernel
theorem dX8_callDown_48 : decode cX8_callDown 48 = .ok (.iload_n 1, 1) := by decide +kernel
theorem dX8_callDown_49 : decode cX8_callDown 49 = .ok (.invokevirtual 110, 3) := by decide +kernel
theorem dX8_callDown_52 : decode cX8_callDown 52 = .ok (.istore_n 2, 1) := by decide +kernel
theorem dX8_callDown_53 : decode cX8_callDown 53 = .ok (.aload_n 0, 1) := by decide +kernel
theorem dX8_callDown_54 : decode cX8_callDown 54 = .ok (.getfield 21, 3) := by decide +kernel
theorem dX8_callDown_57 : decode cX8_callDown 57 = .ok (.getfield 100, 3) := by decide +kernel
theorem dX8_callDown_60 : decode cX8_callDown 60 = .ok (.iload_n 1, 1) := by decide +kernel
theorem dX8_callDown_61 : decode cX8_callDown 61 = .ok (.bipush (-4), 2) := by decide +kernel
theorem dX8_callDown_63 : decode cX8_callDown 63 = .ok (.invokevirtual 125, 3) := by decide +kernel
theorem dX8_callDown_66 : decode cX8_callDown 66 = .ok (.iload_n 2, 1) := by decide +kernel
theorem dX8_callDown_67 : decode cX8_callDown 67 = .ok (.ireturn, 1) := by decide +kernel
theorem dX8_bringLoads_0 : decode cX8_bringLoads 0 = .ok (.aload_n 0, 1) := by decide +kernel
theorem dX8_bringLoads_1 : decode cX8_bringLoads 1 = .ok (.getfield 21, 3) := by decide +kernel
theorem dX8_bringLoads_4 : decode cX8_bringLoads 4 = .ok (.getfield 58, 3) := by decide +kernel
theorem dX8_bringLoads_7 : decode cX8_bringLoads 7 = .ok (.iload_n 1, 1) := by decide +kernel
theorem dX8_bringLoads_8 : decode cX8_bringLoads 8 = .ok (.invokevirtual 89, 3) := by decide +kernel
theorem dX8_bringLoads_11 : decode cX8_bringLoads 11 = .ok (.ifCond .ne 5, 3) := by decide +kernel
theorem dX8_bringLoads_14 : decode cX8_bringLoads 14 = .ok (.iconst (-1), 1) := by decide +kernel
theorem dX8_bringLoads_15 : decode cX8_bringLoads 15 = .ok (.ireturn, 1) := by decide +kernel
theorem dX8_bringLoads_16 : decode cX8_bringLoads 16 = .ok (.iload_n 2, 1) := by decide +kernel
theorem dX8_bringLoads_17 : decode cX8_bringLoads 17 = .ok (.iconst 1, 1) := by decide +kernel
theorem dX8_bringLoads_18 : decode cX8_bringLoads 18 = .ok (.bipush 9, 2) := by decide +kernel
theorem dX8_bringLoads_20 : decode cX8_bringLoads 20 = .ok (.invokestatic 25, 3) := by decide +kernel
theorem dX8_bringLoads_23 : decode cX8_bringLoads 23 = .ok (.ifCond .ne 6, 3) := by decide +kernel
theorem dX8_bringLoads_26 : decode cX8_bringLoads 26 = .ok (.bipush (-2), 2) := by decide +kernel
theorem dX8_bringLoads_28 : decode cX8_bringLoads 28 = .ok (.ireturn, 1) := by decide +kernel
theorem dX8_bringLoads_29 : decode cX8_bringLoads 29 = .ok (.aload_n 0, 1) := by decide +kernel
theorem dX8_bringLoads_30 : decode cX8_bringLoads 30 = .ok (.getfield 21, 3) := by decide +kernel
theorem dX8_bringLoads_33 : decode cX8_bringLoads 33 = .ok (.invokevirtual 65, 3) := by decide +kernel
theorem dX8_bringLoads_36 : decode cX8_bringLoads 36 = .ok (.ifCond .eq 19, 3) := by decide +kernel
theorem dX8_bringLoads_39 : decode cX8_bringLoads 39 = .ok (.aload_n 0, 1) := by decide +kernel
theorem dX8_bringLoads_40 : decode cX8_bringLoads 40 = .ok (.getfield 12, 3) := by decide +kernel
theorem dX8_bringLoads_43 : decode cX8_bringLoads 43 = .ok (.iconst 4, 1) := by decide +kernel
theorem dX8_bringLoads_44 : decode cX8_bringLoads 44 = .ok (.aload_n 0, 1) := by decide +kernel
theorem dX8_bringLoads_45 : decode cX8_bringLoads 45 = .ok (.getfield 21, 3) := by decide +kernel
theorem dX8_bringLoads_48 : decode cX8_bringLoads 48 = .ok (.getfield 69, 3) := by decide +kernel
theorem dX8_bringLoads_51 : decode cX8_bringLoads 51 = .ok (.invokevirtual 39, 3) := by decide +kernel
theorem dX8_bringLoads_54 : decode cX8_bringLoads 54 = .ok (.ireturn, 1) := by decide +kernel
theorem dX8_bringLoads_55 : decode cX8_bringLoads 55 = .ok (.aload_n 0, 1) := by decide +kernel
theorem dX8_bringLoads_56 : decode cX8_bringLoads 56 = .ok (.getfield 21, 3) := by decide +kernel
theorem dX8_bringLoads_59 : decode cX8_bringLoads 59 = .ok (.getfield 58, 3) := by decide +kernel
theorem dX8_bringLoads_62 : decode cX8_bringLoads 62 = .ok (.iload_n 1, 1) := by decide +kernel
theorem dX8_bringLoads_63 : decode cX8_bringLoads 63 = .ok (.invokevirtual 134, 3) := by decide +kernel
theorem dX8_bringLoads_66 : decode cX8_bringLoads 66 = .ok (.iload_n 2, 1) := by decide +kernel
theorem dX8_bringLoads_67 : decode cX8_bringLoads 67 = .ok (.iadd, 1) := by decide +kernel
theorem dX8_bringLoads_68 : decode cX8_bringLoads 68 = .ok (.bipush 9, 2) := by decide +kernel
theorem dX8_bringLoads_70 : decode cX8_bringLoads 70 = .ok (.if_icmp .le 24, 3) := by decide +kernel
theorem dX8_bringLoads_73 : decode cX8_bringLoads 73 = .ok (.aload_n 0, 1) := by decide +kernel
theorem dX8_bringLoads_74 : decode cX8_bringLoads 74 = .ok (.getfield 12, 3) := by decide +kernel
theorem dX8_bringLoads_77 : decode cX8_bringLoads 77 = .ok (.bipush 9, 2) := by decide +kernel
theorem dX8_bringLoads_79 : decode cX8_bringLoads 79 = .ok (.aload_n 0, 1) := by decide +kernel
theorem dX8_bringLoads_80 : decode cX8_bringLoads 80 = .ok (.getfield 21, 3) := by decide +kernel
theorem dX8_bringLoads_83 : decode cX8_bringLoads 83 = .ok (.getfield 58, 3) := by decide +kernel
theorem dX8_bringLoads_86 : decode cX8_bringLoads 86 = .ok (.iload_n 1, 1) := by decide +kernel
theorem dX8_bringLoads_87 : decode cX8_bringLoads 87 = .ok (.invokevirtual 134, 3) := by decide +kernel
theorem dX8_bringLoads_90 : decode cX8_bringLoads 90 = .ok (.invokevirtual 39, 3) := by decide +kernel
theorem dX8_bringLoads_93 : decode cX8_bringLoads 93 = .ok (.ireturn, 1) := by decide +kernel
theorem dX8_bringLoads_94 : decode cX8_bringLoads 94 = .ok (.iload_n 2, 1) := by decide +kernel
theorem dX8_bringLoads_95 : decode cX8_bringLoads 95 = .ok (.iload_n 1, 1) := by decide +kernel
theorem dX8_bringLoads_96 : decode cX8_bringLoads 96 = .ok (.iconst 1, 1) := by decide +kernel
theorem dX8_bringLoads_97 : decode cX8_bringLoads 97 = .ok (.iadd, 1) := by decide +kernel
theorem dX8_bringLoads_98 : decode cX8_bringLoads 98 = .ok (.imul, 1) := by decide +kernel
theorem dX8_bringLoads_99 : decode cX8_bringLoads 99 = .ok (.istore_n 3, 1) := by decide +kernel
theorem dX8_bringLoads_100 : decode cX8_bringLoads 100 = .ok (.aload_n 0, 1) := by decide +kernel
theorem dX8_bringLoads_101 : decode cX8_bringLoads 101 = .ok (.getfield 21, 3) := by decide +kernel
theorem dX8_bringLoads_104 : decode cX8_bringLoads 104 = .ok (.getfield 137, 3) := by decide +kernel
theorem dX8_bringLoads_107 : decode cX8_bringLoads 107 = .ok (.iload_n 3, 1) := by decide +kernel
theorem dX8_bringLoads_108 : decode cX8_bringLoads 108 = .ok (.if_icmp .ge 20, 3) := by decide +kernel
theorem dX8_bringLoads_111 : decode cX8_bringLoads 111 = .ok (.aload_n 0, 1) := by decide +kernel
theorem dX8_bringLoads_112 : decode cX8_bringLoads 112 = .ok (.getfield 12, 3) := by decide +kernel
theorem dX8_bringLoads_115 : decode cX8_bringLoads 115 = .ok (.bipush 8, 2) := by decide +kernel
theorem dX8_bringLoads_117 : decode cX8_bringLoads 117 = .ok (.aload_n 0, 1) := by decide +kernel
theorem dX8_bringLoads_118 : decode cX8_bringLoads 118 = .ok (.getfield 21, 3) := by decide +kernel
theorem dX8_bringLoads_121 : decode cX8_bringLoads 121 = .ok (.getfield 137, 3) := by decide +kernel
theorem dX8_bringLoads_124 : decode cX8_bringLoads 124 = .ok (.invokevirtual 39, 3) := by decide +kernel
theorem dX8_bringLoads_127 : decode cX8_bringLoads 127 = .ok (.ireturn, 1) := by decide +kernel
theorem dX8_bringLoads_128 : decode cX8_bringLoads 128 = .ok (.aload_n 0, 1) := by decide +kernel
theorem dX8_bringLoads_129 : decode cX8_bringLoads 129 = .ok (.getfield 21, 3) := by decide +kernel
theorem dX8_bringLoads_132 : decode cX8_bringLoads 132 = .ok (.dup, 1) := by decide +kernel
theorem dX8_bringLoads_133 : decode cX8_bringLoads 133 = .ok (.getfield 137, 3) := by decide +kernel
theorem dX8_bringLoads_136 : decode cX8_bringLoads 136 = .ok (.iload_n 3, 1) := by decide +kernel
theorem dX8_bringLoads_137 : decode cX8_bringLoads 137 = .ok (.isub, 1) := by decide +kernel
theorem dX8_bringLoads_138 : decode cX8_bringLoads 138 = .ok (.putfield 137, 3) := by decide +kernel
theorem dX8_bringLoads_141 : decode cX8_bringLoads 141 = .ok (.aload_n 0, 1) := by decide +kernel
theorem dX8_bringLoads_142 : decode cX8_bringLoads 142 = .ok (.getfield 21, 3) := by decide +kernel
theorem dX8_bringLoads_145 : decode cX8_bringLoads 145 = .ok (.getfield 58, 3) := by decide +kernel
theorem dX8_bringLoads_148 : decode cX8_bringLoads 148 = .ok (.iload_n 1, 1) := by decide +kernel
theorem dX8_bringLoads_149 : decode cX8_bringLoads 149 = .ok (.iload_n 2, 1) := by decide +kernel
theorem dX8_bringLoads_150 : decode cX8_bringLoads 150 = .ok (.invokevirtual 140, 3) := by decide +kernel
theorem dX8_bringLoads_153 : decode cX8_bringLoads 153 = .ok (.aload_n 0, 1) := by decide +kernel
theorem dX8_bringLoads_154 : decode cX8_bringLoads 154 = .ok (.getfield 21, 3) := by decide +kernel
theorem dX8_bringLoads_157 : decode cX8_bringLoads 157 = .ok (.getfield 137, 3) := by decide +kernel
theorem dX8_bringLoads_160 : decode cX8_bringLoads 160 = .ok (.ireturn, 1) := by decide +kernel
theorem dX8_changeSignal_0 : decode cX8_changeSignal 0 = .ok (.iload_n 1, 1) := by decide +kernel
theorem dX8_changeSignal_1 : decode cX8_changeSignal 1 = .ok (.iconst 0, 1) := by decide +kernel
theorem dX8_changeSignal_2 : decode cX8_changeSignal 2 = .ok (.bipush 10, 2) := by decide +kernel
theorem dX8_changeSignal_4 : decode cX8_changeSignal 4 = .ok (.invokestatic 25, 3) := by decide +kernel
theorem dX8_changeSignal_7 : decode cX8_changeSignal 7 = .ok (.ifCond .ne 6, 3) := by decide +kernel
theorem dX8_changeSignal_10 : decode cX8_changeSignal 10 = .ok (.bipush (-2), 2) := by decide +kernel
theorem dX8_changeSignal_12 : decode cX8_changeSignal 12 = .ok (.ireturn, 1) := by decide +kernel
theorem dX8_changeSignal_13 : decode cX8_changeSignal 13 = .ok (.aload_n 0, 1) := by decide +kernel
theorem dX8_changeSignal_14 : decode cX8_changeSignal 14 = .ok (.getfield 21, 3) := by decide +kernel
theorem dX8_changeSignal_17 : decode cX8_changeSignal 17 = .ok (.getfield 69, 3) := by decide +kernel
theorem dX8_changeSignal_20 : decode cX8_changeSignal 20 = .ok (.istore_n 2, 1) := by decide +kernel
theorem dX8_changeSignal_21 : decode cX8_changeSignal 21 = .ok (.aload_n 0, 1) := by decide +kernel
theorem dX8_changeSignal_22 : decode cX8_changeSignal 22 = .ok (.getfield 21, 3) := by decide +kernel
theorem dX8_changeSignal_25 : decode cX8_changeSignal 25 = .ok (.iload_n 1, 1) := by decide +kernel
theorem dX8_changeSignal_26 : decode cX8_changeSignal 26 = .ok (.putfield 69, 3) := by decide +kernel
theorem dX8_changeSignal_29 : decode cX8_changeSignal 29 = .ok (.aload_n 0, 1) := by decide +kernel
theorem dX8_changeSignal_30 : decode cX8_changeSignal 30 = .ok (.getfield 21, 3) := by decide +kernel
theorem dX8_changeSignal_33 : decode cX8_changeSignal 33 = .ok (.invokevirtual 65, 3) := by decide +kernel
theorem dX8_changeSignal_36 : decode cX8_changeSignal 36 = .ok (.ifCond .eq 13, 3) := by decide +kernel
theorem dX8_changeSignal_39 : decode cX8_changeSignal 39 = .ok (.aload_n 0, 1) := by decide +kernel
theorem dX8_changeSignal_40 : decode cX8_changeSignal 40 = .ok (.getfield 21, 3) := by decide +kernel
theorem dX8_changeSignal_43 : decode cX8_changeSignal 43 = .ok (.getfield 100, 3) := by decide +kernel
theorem dX8_changeSignal_46 : decode cX8_changeSignal 46 = .ok (.invokevirtual 143, 3) := by decide +kernel
theorem dX8_changeSignal_49 : decode cX8_changeSignal 49 = .ok (.iload_n 2, 1) := by decide +kernel
theorem dX8_changeSignal_50 : decode cX8_changeSignal 50 = .ok (.ireturn, 1) := by decide +kernel
theorem dX8_addInspector_0 : decode cX8_addInspector 0 = .ok (.iload_n 1, 1) := by decide +kernel
theorem dX8_addInspector_1 : decode cX8_addInspector 1 = .ok (.iconst 1, 1) := by decide +kernel
theorem dX8_addInspector_2 : decode cX8_addInspector 2 = .ok (.bipush 9, 2) := by decide +kernel
theorem dX8_addInspector_4 : decode cX8_addInspector 4 = .ok (.invokestatic 25, 3) := by decide +kernel
theorem dX8_addInspector_7 : decode cX8_addInspector 7 = .ok (.ifCond .ne 6, 3) := by decide +kernel
theorem dX8_addInspector_10 : decode cX8_addInspector 10 = .ok (.bipush (-2), 2) := by decide +kernel
theorem dX8_addInspector_12 : decode cX8_addInspector 12 = .ok (.ireturn, 1) := by decide +kernel
theorem dX8_addInspector_13 : decode cX8_addInspector 13 = .ok (.aload_n 0, 1) := by decide +kernel
theorem dX8_addInspector_14 : decode cX8_addInspector 14 = .ok (.getfield 21, 3) := by decide +kernel
theorem dX8_addInspector_17 : decode cX8_addInspector 17 = .ok (.getfield 146, 3) := by decide +kernel
theorem dX8_addInspector_20 : decode cX8_addInspector 20 = .ok (.getfield 150, 3) := by decide +kernel
theorem dX8_addInspector_23 : decode cX8_addInspector 23 = .ok (.iconst 3, 1) := by decide +kernel
theorem dX8_addInspector_24 : decode cX8_addInspector 24 = .ok (.if_icmp .lt 13, 3) := by decide +kernel
theorem dX8_addInspector_27 : decode cX8_addInspector 27 = .ok (.aload_n 0, 1) := by decide +kernel
theorem dX8_addInspector_28 : decode cX8_addInspector 28 = .ok (.getfield 12, 3) := by decide +kernel
theorem dX8_addInspector_31 : decode cX8_addInspector 31 = .ok (.iconst 1, 1) := by decide +kernel
theorem dX8_addInspector_32 : decode cX8_addInspector 32 = .ok (.iconst 3, 1) := by decide +kernel
theorem dX8_addInspector_33 : decode cX8_addInspector 33 = .ok (.invokevirtual 39, 3) := by decide +kernel
theorem dX8_addInspector_36 : decode cX8_addInspector 36 = .ok (.ireturn, 1) := by decide +kernel
theorem dX8_addInspector_37 : decode cX8_addInspector 37 = .ok (.aload_n 0, 1) := by decide +kernel
theorem dX8_addInspector_38 : decode cX8_addInspector 38 = .ok (.getfield 21, 3) := by decide +kernel
theorem dX8_addInspector_41 : decode cX8_addInspector 41 = .ok (.getfield 146, 3) := by decide +kernel
theorem dX8_addInspector_44 : decode cX8_addInspector 44 = .ok (.iload_n 1, 1) := by decide +kernel
theorem dX8_addInspector_45 : decode cX8_addInspector 45 = .ok (.invokevirtual 153, 3) := by decide +kernel
theorem dX8_addInspector_48 : decode cX8_addInspector 48 = .ok (.ireturn, 1) := by decide +kernel
theorem dX8_lookAt_0 : decode cX8_lookAt 0 = .ok (.aload_n 0, 1) := by decide +kernel
theorem dX8_lookAt_1 : decode cX8_lookAt 1 = .ok (.getfield 21, 3) := by decide +kernel
theorem dX8_lookAt_4 : decode cX8_lookAt 4 = .ok (.getfield 146, 3) := by decide +kernel
theorem dX8_lookAt_7 : decode cX8_lookAt 7 = .ok (.iload_n 1, 1) := by decide +kernel
theorem dX8_lookAt_8 : decode cX8_lookAt 8 = .ok (.invokevirtual 154, 3) := by decide +kernel
theorem dX8_lookAt_11 : decode cX8_lookAt 11 = .ok (.ifCond .eq 17, 3) := by decide +kernel
theorem dX8_lookAt_14 : decode cX8_lookAt 14 = .ok (.aload_n 0, 1) := by decide +kernel
theorem dX8_lookAt_15 : decode cX8_lookAt 15 = .ok (.getfield 21, 3) := by decide +kernel
theorem dX8_lookAt_18 : decode cX8_lookAt 18 = .ok (.getfield 58, 3) := by decide +kernel
theorem dX8_lookAt_21 : decode cX8_lookAt 21 = .ok (.iload_n 2, 1) := by decide +kernel
theorem dX8_lookAt_22 : decode cX8_lookAt 22 = .ok (.invokevirtual 89, 3) := by decide +kernel
theorem dX8_lookAt_25 : decode cX8_lookAt 25 = .ok (.ifCond .ne 5, 3) := by decide +kernel
theorem dX8_lookAt_28 : decode cX8_lookAt 28 = .ok (.iconst (-1), 1) := by decide +kernel
theorem dX8_lookAt_29 : decode cX8_lookAt 29 = .ok (.ireturn, 1) := by decide +kernel
theorem dX8_lookAt_30 : decode cX8_lookAt 30 = .ok (.aload_n 0, 1) := by decide +kernel
theorem dX8_lookAt_31 : decode cX8_lookAt 31 = .ok (.getfield 21, 3) := by decide +kernel
theorem dX8_lookAt_34 : decode cX8_lookAt 34 = .ok (.invokevirtual 65, 3) := by decide +kernel
theorem dX8_lookAt_37 : decode cX8_lookAt 37 = .ok (.ifCond .eq 19, 3) := by decide +kernel
theorem dX8_lookAt_40 : decode cX8_lookAt 40 = .ok (.aload_n 0, 1) := by decide +kernel
theorem dX8_lookAt_41 : decode cX8_lookAt 41 = .ok (.getfield 12, 3) := by decide +kernel
theorem dX8_lookAt_44 : decode cX8_lookAt 44 = .ok (.iconst 4, 1) := by decide +kernel
theorem dX8_lookAt_45 : decode cX8_lookAt 45 = .ok (.aload_n 0, 1) := by decide +kernel
theorem dX8_lookAt_46 : decode cX8_lookAt 46 = .ok (.getfield 21, 3) := by decide +kernel
theorem dX8_lookAt_49 : decode cX8_lookAt 49 = .ok (.getfield 69, 3) := by decide +kernel
theorem dX8_lookAt_52 : decode cX8_lookAt 52 = .ok (.invokevirtual 39, 3) := by decide +kernel
theorem dX8_lookAt_55 : decode cX8_lookAt 55 = .ok (.ireturn, 1) := by decide +kernel
theorem dX8_lookAt_56 : decode cX8_lookAt 56 = .ok (.aload_n 0, 1) := by decide +kernel
theorem dX8_lookAt_57 : decode cX8_lookAt 57 = .ok (.getfield 21, 3) := by decide +kernel
theorem dX8_lookAt_60 : decode cX8_lookAt 60 = .ok (.getfield 146, 3) := by decide +kernel
theorem dX8_lookAt_63 : decode cX8_lookAt 63 = .ok (.iload_n 1, 1) := by decide +kernel
theorem dX8_lookAt_64 : decode cX8_lookAt 64 = .ok (.invokevirtual 155, 3) := by decide +kernel
theorem dX8_lookAt_67 : decode cX8_lookAt 67 = .ok (.istore_n 3, 1) := by decide +kernel
theorem dX8_lookAt_68 : decode cX8_lookAt 68 = .ok (.aload_n 0, 1) := by decide +kernel
theorem dX8_lookAt_69 : decode cX8_lookAt 69 = .ok (.getfield 21, 3) := by decide +kernel
theorem dX8_lookAt_72 : decode cX8_lookAt 72 = .ok (.getfield 58, 3) := by decide +kernel
theorem dX8_lookAt_75 : decode cX8_lookAt 75 = .ok (.iload_n 2, 1) := by decide +kernel
theorem dX8_lookAt_76 : decode cX8_lookAt 76 = .ok (.invokevirtual 90, 3) := by decide +kernel
theorem dX8_lookAt_79 : decode cX8_lookAt 79 = .ok (.iload_n 3, 1) := by decide +kernel
theorem dX8_lookAt_80 : decode cX8_lookAt 80 = .ok (.iadd, 1) := by decide +kernel
theorem dX8_lookAt_81 : decode cX8_lookAt 81 = .ok (.bipush 20, 2) := by decide +kernel
theorem dX8_lookAt_83 : decode cX8_lookAt 83 = .ok (.if_icmp .gt 5, 3) := by decide +kernel
theorem dX8_lookAt_86 : decode cX8_lookAt 86 = .ok (.iconst 0, 1) := by decide +kernel
theorem dX8_lookAt_87 : decode cX8_lookAt 87 = .ok (.ireturn, 1) := by decide +kernel
theorem dX8_lookAt_88 : decode cX8_lookAt 88 = .ok (.aload_n 0, 1) := by decide +kernel
theorem dX8_lookAt_89 : decode cX8_lookAt 89 = .ok (.getfield 21, 3) := by decide +kernel
theorem dX8_lookAt_92 : decode cX8_lookAt 92 = .ok (.getfield 58, 3) := by decide +kernel
theorem dX8_lookAt_95 : decode cX8_lookAt 95 = .ok (.iload_n 2, 1) := by decide +kernel
theorem dX8_lookAt_96 : decode cX8_lookAt 96 = .ok (.invokevirtual 116, 3) := by decide +kernel
theorem dX8_lookAt_99 : decode cX8_lookAt 99 = .ok (.ifCond .ne 15, 3) := by decide +kernel
theorem dX8_lookAt_102 : decode cX8_lookAt 102 = .ok (.aload_n 0, 1) := by decide +kernel
theorem dX8_lookAt_103 : decode cX8_lookAt 103 = .ok (.getfield 21, 3) := by decide +kernel
theorem dX8_lookAt_106 : decode cX8_lookAt 106 = .ok (.getfield 58, 3) := by decide +kernel
theorem dX8_lookAt_109 : decode cX8_lookAt 109 = .ok (.iload_n 2, 1) := by decide +kernel
theorem dX8_lookAt_110 : decode cX8_lookAt 110 = .ok (.iload_n 1, 1) := by decide +kernel
theorem dX8_lookAt_111 : decode cX8_lookAt 111 = .ok (.invokevirtual 158, 3) := by decide +kernel
theorem dX8_lookAt_114 : decode cX8_lookAt 114 = .ok (.aload_n 0, 1) := by decide +kernel
theorem dX8_lookAt_115 : decode cX8_lookAt 115 = .ok (.getfield 21, 3) := by decide +kernel
theorem dX8_lookAt_118 : decode cX8_lookAt 118 = .ok (.getfield 100, 3) := by decide +kernel
theorem dX8_lookAt_121 : decode cX8_lookAt 121 = .ok (.iload_n 2, 1) := by decide +kernel
theorem dX8_lookAt_122 : decode cX8_lookAt 122 = .ok (.invokevirtual 161, 3) := by decide +kernel
theorem dX8_lookAt_125 : decode cX8_lookAt 125 = .ok (.aload_n 0, 1) := by decide +kernel
theorem dX8_lookAt_126 : decode cX8_lookAt 126 = .ok (.getfield 21, 3) := by decide +kernel
theorem dX8_lookAt_129 : decode cX8_lookAt 129 = .ok (.getfield 146, 3) := by decide +kernel
theorem dX8_lookAt_132 : decode cX8_lookAt 132 = .ok (.iload_n 1, 1) := by decide +kernel
theorem dX8_lookAt_133 : decode cX8_lookAt 133 = .ok (.invokevirtual 164, 3) := by decide +kernel
theorem dX8_lookAt_136 : decode cX8_lookAt 136 = .ok (.aload_n 0, 1) := by decide +kernel
theorem dX8_lookAt_137 : decode cX8_lookAt 137 = .ok (.getfield 21, 3) := by decide +kernel
theorem dX8_lookAt_140 : decode cX8_lookAt 140 = .ok (.dup, 1) := by decide +kernel
theorem dX8_lookAt_141 : decode cX8_lookAt 141 = .ok (.getfield 167, 3) := by decide +kernel
theorem dX8_lookAt_144 : decode cX8_lookAt 144 = .ok (.iload_n 3, 1) := by decide +kernel
theorem dX8_lookAt_145 : decode cX8_lookAt 145 = .ok (.iadd, 1) := by decide +kernel
theorem dX8_lookAt_146 : decode cX8_lookAt 146 = .ok (.putfield 167, 3) := by decide +kernel
theorem dX8_lookAt_149 : decode cX8_lookAt 149 = .ok (.iconst 1, 1) := by decide +kernel
theorem dX8_lookAt_150 : decode cX8_lookAt 150 = .ok (.ireturn, 1) := by decide +kernel
theorem dX8_passDays_0 : decode cX8_passDays 0 = .ok (.iload_n 1, 1) := by decide +kernel
theorem dX8_passDays_1 : decode cX8_passDays 1 = .ok (.iconst 1, 1) := by decide +kernel
theorem dX8_passDays_2 : decode cX8_passDays 2 = .ok (.bipush 30, 2) := by decide +kernel
theorem dX8_passDays_4 : decode cX8_passDays 4 = .ok (.invokestatic 25, 3) := by decide +kernel
theorem dX8_passDays_7 : decode cX8_passDays 7 = .ok (.ifCond .ne 6, 3) := by decide +kernel
theorem dX8_passDays_10 : decode cX8_passDays 10 = .ok (.bipush (-2), 2) := by decide +kernel
theorem dX8_passDays_12 : decode cX8_passDays 12 = .ok (.ireturn, 1) := by decide +kernel
theorem dX8_passDays_13 : decode cX8_passDays 13 = .ok (.aload_n 0, 1) := by decide +kernel
theorem dX8_passDays_14 : decode cX8_passDays 14 = .ok (.getfield 21, 3) := by decide +kernel
theorem dX8_passDays_17 : decode cX8_passDays 17 = .ok (.getfield 170, 3) := by decide +kernel
theorem dX8_passDays_20 : decode cX8_passDays 20 = .ok (.istore_n 2, 1) := by decide +kernel
theorem dX8_passDays_21 : decode cX8_passDays 21 = .ok (.iconst 0, 1) := by decide +kernel
theorem dX8_passDays_22 : decode cX8_passDays 22 = .ok (.istore_n 3, 1) := by decide +kernel
theorem dX8_passDays_23 : decode cX8_passDays 23 = .ok (.iload_n 3, 1) := by decide +kernel
theorem dX8_passDays_24 : decode cX8_passDays 24 = .ok (.iload_n 1, 1) := by decide +kernel
theorem dX8_passDays_25 : decode cX8_passDays 25 = .ok (.if_icmp .ge 16, 3) := by decide +kernel
theorem dX8_passDays_28 : decode cX8_passDays 28 = .ok (.aload_n 0, 1) := by decide +kernel
theorem dX8_passDays_29 : decode cX8_passDays 29 = .ok (.getfield 21, 3) := by decide +kernel
theorem dX8_passDays_32 : decode cX8_passDays 32 = .ok (.invokevirtual 173, 3) := by decide +kernel
theorem dX8_passDays_35 : decode cX8_passDays 35 = .ok (.iinc 3 1, 3) := by decide +kernel
theorem dX8_passDays_38 : decode cX8_passDays 38 = .ok (.goto (-15), 3) := by decide +kernel
theorem dX8_passDays_41 : decode cX8_passDays 41 = .ok (.aload_n 0, 1) := by decide +kernel
theorem dX8_passDays_42 : decode cX8_passDays 42 = .ok (.getfield 21, 3) := by decide +kernel
theorem dX8_passDays_45 : decode cX8_passDays 45 = .ok (.getfield 170, 3) := by decide +kernel
theorem dX8_passDays_48 : decode cX8_passDays 48 = .ok (.iload_n 2, 1) := by decide +kernel
theorem dX8_passDays_49 : decode cX8_passDays 49 = .ok (.isub, 1) := by decide +kernel
theorem dX8_passDays_50 : decode cX8_passDays 50 = .ok (.ireturn, 1) := by decide +kernel
theorem dX9_init_0 : decode cX9_init 0 = .ok (.aload_n 0, 1) := by decide +kernel
theorem dX9_init_1 : decode cX9_init 1 = .ok (.invokespecial 3, 3) := by decide +kernel
theorem dX9_init_4 : decode cX9_init 4 = .ok (.aload_n 0, 1) := by decide +kernel
theorem dX9_init_5 : decode cX9_init 5 = .ok (.bipush 10, 2) := by decide +kernel
theorem dX9_init_7 : decode cX9_init 7 = .ok (.newarray .int, 2) := by decide +kernel
theorem dX9_init_9 : decode cX9_init 9 = .ok (.putfield 9, 3) := by decide +kernel
theorem dX9_init_12 : decode cX9_init 12 = .ok (.aload_n 0, 1) := by decide +kernel
theorem dX9_init_13 : decode cX9_init 13 = .ok (.bipush 10, 2) := by decide +kernel
theorem dX9_init_15 : decode cX9_init 15 = .ok (.newarray .int, 2) := by decide +kernel
theorem dX9_init_17 : decode cX9_init 17 = .ok (.putfield 15, 3) := by decide +kernel
theorem dX9_init_20 : decode cX9_init 20 = .ok (.aload_n 0, 1) := by decide +kernel
theorem dX9_init_21 : decode cX9_init 21 = .ok (.bipush 10, 2) := by decide +kernel
theorem dX9_init_23 : decode cX9_init 23 = .ok (.newarray .int, 2) := by decide +kernel
theorem dX9_init_25 : decode cX9_init 25 = .ok (.putfield 18, 3) := by decide +kernel
theorem dX9_init_28 : decode cX9_init 28 = .ok (.aload_n 0, 1) := by decide +kernel
theorem dX9_init_29 : decode cX9_init 29 = .ok (.bipush 10, 2) := by decide +kernel
theorem dX9_init_31 : decode cX9_init 31 = .ok (.newarray .int, 2) := by decide +kernel
theorem dX9_init_33 : decode cX9_init 33 = .ok (.putfield 21, 3) := by decide +kernel
theorem dX9_init_36 : decode cX9_init 36 = .ok (.aload_n 0, 1) := by decide +kernel
theorem dX9_init_37 : decode cX9_init 37 = .ok (.bipush 10, 2) := by decide +kernel
theorem dX9_init_39 : decode cX9_init 39 = .ok (.newarray .int, 2) := by decide +kernel
theorem dX9_init_41 : decode cX9_init 41 = .ok (.putfield 24, 3) := by decide +kernel
theorem dX9_init_44 : decode cX9_init 44 = .ok (.aload_n 0, 1) := by decide +kernel
theorem dX9_init_45 : decode cX9_init 45 = .ok (.bipush 10, 2) := by decide +kernel
theorem dX9_init_47 : decode cX9_init 47 = .ok (.newarray .int, 2) := by decide +kernel
theorem dX9_init_49 : decode cX9_init 49 = .ok (.putfield 27, 3) := by decide +kernel
theorem dX9_init_52 : decode cX9_init 52 = .ok (.aload_n 0, 1) := by decide +kernel
theorem dX9_init_53 : decode cX9_init 53 = .ok (.iconst 0, 1) := by decide +kernel
theorem dX9_init_54 : decode cX9_init 54 = .ok (.putfield 30, 3) := by decide +kernel
theorem dX9_init_57 : decode cX9_init 57 = .ok (.return_, 1) := by decide +kernel
theorem dX9_has_0 : decode cX9_has 0 = .ok (.iload_n 1, 1) := by decide +kernel
theorem dX9_has_1 : decode cX9_has 1 = .ok (.ifCond .lt 15, 3) := by decide +kernel
theorem dX9_has_4 : decode cX9_has 4 = .ok (.iload_n 1, 1) := by decide +kernel
theorem dX9_has_5 : decode cX9_has 5 = .ok (.aload_n 0, 1) := by decide +kernel
theorem dX9_has_6 : decode cX9_has 6 = .ok (.getfield 30, 3) := by decide +kernel
theorem dX9_has_9 : decode cX9_has 9 = .ok (.if_icmp .ge 7, 3) := by decide +kernel
theorem dX9_has_12 : decode cX9_has 12 = .ok (.iconst 1, 1) := by decide +kernel
theorem dX9_has_13 : decode cX9_has 13 = .ok (.goto 4, 3) := by decide +kernel
theorem dX9_has_16 : decode cX9_has 16 = .ok (.iconst 0, 1) := by decide +kernel
theorem dX9_has_17 : decode cX9_has 17 = .ok (.ireturn, 1) := by decide +kernel
theorem dX9_polesOf_0 : decode cX9_polesOf 0 = .ok (.aload_n 0, 1) := by decide +kernel
theorem dX9_polesOf_1 : decode cX9_polesOf 1 = .ok (.getfield 9, 3) := by decide +kernel
theorem dX9_polesOf_4 : decode cX9_polesOf 4 = .ok (.iload_n 1, 1) := by decide +kernel
theorem dX9_polesOf_5 : decode cX9_polesOf 5 = .ok (.invokestatic 34, 3) := by decide +kernel
theorem dX9_polesOf_8 : decode cX9_polesOf 8 = .ok (.ireturn, 1) := by decide +kernel
theorem dX9_weeksOf_0 : decode cX9_weeksOf 0 = .ok (.aload_n 0, 1) := by decide +kernel
theorem dX9_weeksOf_1 : decode cX9_weeksOf 1 = .ok (.getfield 15, 3) := by decide +kernel
theorem dX9_weeksOf_4 : decode cX9_weeksOf 4 = .ok (.iload_n 1, 1) := by decide +kernel
theorem dX9_weeksOf_5 : decode cX9_weeksOf 5 = .ok (.invokestatic 34, 3) := by decide +kernel
theorem dX9_weeksOf_8 : decode cX9_weeksOf 8 = .ok (.ireturn, 1) := by decide +kernel
theorem dX9_tieOf_0 : decode cX9_tieOf 0 = .ok (.aload_n 0, 1) := by decide +kernel
theorem dX9_tieOf_1 : decode cX9_tieOf 1 = .ok (.getfield 18, 3) := by decide +kernel
theorem dX9_tieOf_4 : decode cX9_tieOf 4 = .ok (.iload_n 1, 1) := by decide +kernel
theorem dX9_tieOf_5 : decode cX9_tieOf 5 = .ok (.invokestatic 34, 3) := by decide +kernel
theorem dX9_tieOf_8 : decode cX9_tieOf 8 = .ok (.ireturn, 1) := by decide +kernel
theorem dX9_hoursOf_0 : decode cX9_hoursOf 0 = .ok (.aload_n 0, 1) := by decide +kernel
theorem dX9_hoursOf_1 : decode cX9_hoursOf 1 = .ok (.getfield 21, 3) := by decide +kernel
theorem dX9_hoursOf_4 : decode cX9_hoursOf 4 = .ok (.iload_n 1, 1) := by decide +kernel
theorem dX9_hoursOf_5 : decode cX9_hoursOf 5 = .ok (.invokestatic 34, 3) := by decide +kernel
theorem dX9_hoursOf_8 : decode cX9_hoursOf 8 = .ok (.ireturn, 1) := by decide +kernel
theorem dX9_loadsOf_0 : decode cX9_loadsOf 0 = .ok (.aload_n 0, 1) := by decide +kernel
theorem dX9_loadsOf_1 : decode cX9_loadsOf 1 = .ok (.getfield 24, 3) := by decide +kernel
theorem dX9_loadsOf_4 : decode cX9_loadsOf 4 = .ok (.iload_n 1, 1) := by decide +kernel
theorem dX9_loadsOf_5 : decode cX9_loadsOf 5 = .ok (.invokestatic 34, 3) := by decide +kernel
theorem dX9_loadsOf_8 : decode cX9_loadsOf 8 = .ok (.ireturn, 1) := by decide +kernel
theorem dX9_shutterOf_0 : decode cX9_shutterOf 0 = .ok (.aload_n 0, 1) := by decide +kernel
theorem dX9_shutterOf_1 : decode cX9_shutterOf 1 = .ok (.getfield 27, 3) := by decide +kernel
theorem dX9_shutterOf_4 : decode cX9_shutterOf 4 = .ok (.iload_n 1, 1) := by decide +kernel
theorem dX9_shutterOf_5 : decode cX9_shutterOf 5 = .ok (.invokestatic 34, 3) := by decide +kernel
theorem dX9_shutterOf_8 : decode cX9_shutterOf 8 = .ok (.ireturn, 1) := by decide +kernel
theorem dX9_isShut_0 : decode cX9_isShut 0 = .ok (.aload_n 0, 1) := by decide +kernel
theorem dX9_isShut_1 : decode cX9_isShut 1 = .ok (.iload_n 1, 1) := by decide +kernel
theorem dX9_isShut_2 : decode cX9_isShut 2 = .ok (.invokevirtual 38, 3) := by decide +kernel
theorem dX9_isShut_5 : decode cX9_isShut 5 = .ok (.bipush (-4), 2) := by decide +kernel
theorem dX9_isShut_7 : decode cX9_isShut 7 = .ok (.if_icmp .eq 7, 3) := by decide +kernel
theorem dX9_isShut_10 : decode cX9_isShut 10 = .ok (.iconst 1, 1) := by decide +kernel
theorem dX9_isShut_11 : decode cX9_isShut 11 = .ok (.goto 4, 3) := by decide +kernel
theorem dX9_isShut_14 : decode cX9_isShut 14 = .ok (.iconst 0, 1) := by decide +kernel
theorem dX9_isShut_15 : decode cX9_isShut 15 = .ok (.ireturn, 1) := by decide +kernel
theorem dX9_isOld_0 : decode cX9_isOld 0 = .ok (.aload_n 0, 1) := by decide +kernel
theorem dX9_isOld_1 : decode cX9_isOld 1 = .ok (.getfield 18, 3) := by decide +kernel
theorem dX9_isOld_4 : decode cX9_isOld 4 = .ok (.iload_n 1, 1) := by decide +kernel
theorem dX9_isOld_5 : decode cX9_isOld 5 = .ok (.invokestatic 34, 3) := by decide +kernel
theorem dX9_isOld_8 : decode cX9_isOld 8 = .ok (.bipush 20, 2) := by decide +kernel
theorem dX9_isOld_10 : decode cX9_isOld 10 = .ok (.if_icmp .le 7, 3) := by decide +kernel
theorem dX9_isOld_13 : decode cX9_isOld 13 = .ok (.iconst 1, 1) := by decide +kernel
theorem dX9_isOld_14 : decode cX9_isOld 14 = .ok (.goto 4, 3) := by decide +kernel
theorem dX9_isOld_17 : decode cX9_isOld 17 = .ok (.iconst 0, 1) := by decide +kernel
theorem dX9_isOld_18 : decode cX9_isOld 18 = .ok (.ireturn, 1) := by decide +kernel
theorem dX9_stripsFor_0 : decode cX9_stripsFor 0 = .ok (.aload_n 0, 1) := by decide +kernel
theorem dX9_stripsFor_1 : decode cX9_stripsFor 1 = .ok (.iload_n 1, 1) := by decide +kernel
theorem dX9_stripsFor_2 : decode cX9_stripsFor 2 = .ok (.invokevirtual 42, 3) := by decide +kernel
theorem dX9_stripsFor_5 : decode cX9_stripsFor 5 = .ok (.iconst 2, 1) := by decide +kernel
