theorem dL_law_416 : decode code 416 = .ok (.iaload, 1) := by decide +kernel
theorem dL_law_417 : decode code 417 = .ok (.aload_n 0, 1) := by decide +kernel
theorem dL_law_418 : decode code 418 = .ok (.iload 4, 2) := by decide +kernel
theorem dL_law_420 : decode code 420 = .ok (.iconst 3, 1) := by decide +kernel
theorem dL_law_421 : decode code 421 = .ok (.iadd, 1) := by decide +kernel
theorem dL_law_422 : decode code 422 = .ok (.iaload, 1) := by decide +kernel
theorem dL_law_423 : decode code 423 = .ok (.ifCond .eq 7, 3) := by decide +kernel
theorem dL_law_426 : decode code 426 = .ok (.iconst 1, 1) := by decide +kernel
theorem dL_law_427 : decode code 427 = .ok (.goto 4, 3) := by decide +kernel
theorem dL_law_430 : decode code 430 = .ok (.iconst 0, 1) := by decide +kernel
theorem dL_law_431 : decode code 431 = .ok (.aload_n 3, 1) := by decide +kernel
theorem dL_law_432 : decode code 432 = .ok (.invokestatic 102, 3) := by decide +kernel
theorem dL_law_435 : decode code 435 = .ok (.istore 5, 2) := by decide +kernel
theorem dL_law_437 : decode code 437 = .ok (.aload_n 2, 1) := by decide +kernel
theorem dL_law_438 : decode code 438 = .ok (.aload_n 0, 1) := by decide +kernel
theorem dL_law_439 : decode code 439 = .ok (.iload 4, 2) := by decide +kernel
theorem dL_law_441 : decode code 441 = .ok (.iconst 1, 1) := by decide +kernel
theorem dL_law_442 : decode code 442 = .ok (.iadd, 1) := by decide +kernel
theorem dL_law_443 : decode code 443 = .ok (.iaload, 1) := by decide +kernel
theorem dL_law_444 : decode code 444 = .ok (.aload_n 0, 1) := by decide +kernel
theorem dL_law_445 : decode code 445 = .ok (.iload 4, 2) := by decide +kernel
theorem dL_law_447 : decode code 447 = .ok (.iconst 2, 1) := by decide +kernel
theorem dL_law_448 : decode code 448 = .ok (.iadd, 1) := by decide +kernel
theorem dL_law_449 : decode code 449 = .ok (.iaload, 1) := by decide +kernel
theorem dL_law_450 : decode code 450 = .ok (.aload_n 0, 1) := by decide +kernel
theorem dL_law_451 : decode code 451 = .ok (.iload 4, 2) := by decide +kernel
theorem dL_law_453 : decode code 453 = .ok (.iconst 3, 1) := by decide +kernel
theorem dL_law_454 : decode code 454 = .ok (.iadd, 1) := by decide +kernel
theorem dL_law_455 : decode code 455 = .ok (.iaload, 1) := by decide +kernel
theorem dL_law_456 : decode code 456 = .ok (.ifCond .eq 7, 3) := by decide +kernel
theorem dL_law_459 : decode code 459 = .ok (.iconst 1, 1) := by decide +kernel
theorem dL_law_460 : decode code 460 = .ok (.goto 4, 3) := by decide +kernel
theorem dL_law_463 : decode code 463 = .ok (.iconst 0, 1) := by decide +kernel
theorem dL_law_464 : decode code 464 = .ok (.invokevirtual 105, 3) := by decide +kernel
theorem dL_law_467 : decode code 467 = .ok (.istore 6, 2) := by decide +kernel
theorem dL_law_469 : decode code 469 = .ok (.aload_n 2, 1) := by decide +kernel
theorem dL_law_470 : decode code 470 = .ok (.invokevirtual 85, 3) := by decide +kernel
theorem dL_law_473 : decode code 473 = .ok (.iload 5, 2) := by decide +kernel
theorem dL_law_475 : decode code 475 = .ok (.if_icmp .eq 5, 3) := by decide +kernel
theorem dL_law_478 : decode code 478 = .ok (.iconst 0, 1) := by decide +kernel
theorem dL_law_479 : decode code 479 = .ok (.ireturn, 1) := by decide +kernel
theorem dL_law_480 : decode code 480 = .ok (.iload 5, 2) := by decide +kernel
theorem dL_law_482 : decode code 482 = .ok (.ifCond .ne 22, 3) := by decide +kernel
theorem dL_law_485 : decode code 485 = .ok (.aload_n 3, 1) := by decide +kernel
theorem dL_law_486 : decode code 486 = .ok (.iconst 0, 1) := by decide +kernel
theorem dL_law_487 : decode code 487 = .ok (.laload, 1) := by decide +kernel
theorem dL_law_488 : decode code 488 = .ok (.iload 6, 2) := by decide +kernel
theorem dL_law_490 : decode code 490 = .ok (.ifCond .eq 7, 3) := by decide +kernel
theorem dL_law_493 : decode code 493 = .ok (.lconst 1, 1) := by decide +kernel
theorem dL_law_494 : decode code 494 = .ok (.goto 4, 3) := by decide +kernel
theorem dL_law_497 : decode code 497 = .ok (.lconst 0, 1) := by decide +kernel
theorem dL_law_498 : decode code 498 = .ok (.lcmp, 1) := by decide +kernel
theorem dL_law_499 : decode code 499 = .ok (.ifCond .eq 5, 3) := by decide +kernel
theorem dL_law_502 : decode code 502 = .ok (.iconst 0, 1) := by decide +kernel
theorem dL_law_503 : decode code 503 = .ok (.ireturn, 1) := by decide +kernel
theorem dL_law_504 : decode code 504 = .ok (.goto 840, 3) := by decide +kernel
theorem dL_law_507 : decode code 507 = .ok (.aload_n 1, 1) := by decide +kernel
theorem dL_law_508 : decode code 508 = .ok (.aload_n 0, 1) := by decide +kernel
theorem dL_law_509 : decode code 509 = .ok (.iload 4, 2) := by decide +kernel
theorem dL_law_511 : decode code 511 = .ok (.iconst 1, 1) := by decide +kernel
theorem dL_law_512 : decode code 512 = .ok (.iadd, 1) := by decide +kernel
theorem dL_law_513 : decode code 513 = .ok (.iaload, 1) := by decide +kernel
theorem dL_law_514 : decode code 514 = .ok (.aload_n 0, 1) := by decide +kernel
theorem dL_law_515 : decode code 515 = .ok (.iload 4, 2) := by decide +kernel
theorem dL_law_517 : decode code 517 = .ok (.iconst 2, 1) := by decide +kernel
theorem dL_law_518 : decode code 518 = .ok (.iadd, 1) := by decide +kernel
theorem dL_law_519 : decode code 519 = .ok (.iaload, 1) := by decide +kernel
theorem dL_law_520 : decode code 520 = .ok (.aload_n 0, 1) := by decide +kernel
theorem dL_law_521 : decode code 521 = .ok (.iload 4, 2) := by decide +kernel
theorem dL_law_523 : decode code 523 = .ok (.iconst 3, 1) := by decide +kernel
theorem dL_law_524 : decode code 524 = .ok (.iadd, 1) := by decide +kernel
theorem dL_law_525 : decode code 525 = .ok (.iaload, 1) := by decide +kernel
theorem dL_law_526 : decode code 526 = .ok (.ifCond .eq 7, 3) := by decide +kernel
theorem dL_law_529 : decode code 529 = .ok (.iconst 1, 1) := by decide +kernel
theorem dL_law_530 : decode code 530 = .ok (.goto 4, 3) := by decide +kernel
theorem dL_law_533 : decode code 533 = .ok (.iconst 0, 1) := by decide +kernel
theorem dL_law_534 : decode code 534 = .ok (.aload_n 3, 1) := by decide +kernel
theorem dL_law_535 : decode code 535 = .ok (.invokestatic 106, 3) := by decide +kernel
theorem dL_law_538 : decode code 538 = .ok (.istore 5, 2) := by decide +kernel
theorem dL_law_540 : decode code 540 = .ok (.aload_n 2, 1) := by decide +kernel
theorem dL_law_541 : decode code 541 = .ok (.aload_n 0, 1) := by decide +kernel
theorem dL_law_542 : decode code 542 = .ok (.iload 4, 2) := by decide +kernel
theorem dL_law_544 : decode code 544 = .ok (.iconst 1, 1) := by decide +kernel
theorem dL_law_545 : decode code 545 = .ok (.iadd, 1) := by decide +kernel
theorem dL_law_546 : decode code 546 = .ok (.iaload, 1) := by decide +kernel
theorem dL_law_547 : decode code 547 = .ok (.aload_n 0, 1) := by decide +kernel
theorem dL_law_548 : decode code 548 = .ok (.iload 4, 2) := by decide +kernel
theorem dL_law_550 : decode code 550 = .ok (.iconst 2, 1) := by decide +kernel
theorem dL_law_551 : decode code 551 = .ok (.iadd, 1) := by decide +kernel
theorem dL_law_552 : decode code 552 = .ok (.iaload, 1) := by decide +kernel
theorem dL_law_553 : decode code 553 = .ok (.aload_n 0, 1) := by decide +kernel
theorem dL_law_554 : decode code 554 = .ok (.iload 4, 2) := by decide +kernel
theorem dL_law_556 : decode code 556 = .ok (.iconst 3, 1) := by decide +kernel
theorem dL_law_557 : decode code 557 = .ok (.iadd, 1) := by decide +kernel
theorem dL_law_558 : decode code 558 = .ok (.iaload, 1) := by decide +kernel
theorem dL_law_559 : decode code 559 = .ok (.ifCond .eq 7, 3) := by decide +kernel
theorem dL_law_562 : decode code 562 = .ok (.iconst 1, 1) := by decide +kernel
theorem dL_law_563 : decode code 563 = .ok (.goto 4, 3) := by decide +kernel
theorem dL_law_566 : decode code 566 = .ok (.iconst 0, 1) := by decide +kernel
theorem dL_law_567 : decode code 567 = .ok (.invokevirtual 108, 3) := by decide +kernel
theorem dL_law_570 : decode code 570 = .ok (.istore 6, 2) := by decide +kernel
theorem dL_law_572 : decode code 572 = .ok (.aload_n 2, 1) := by decide +kernel
theorem dL_law_573 : decode code 573 = .ok (.invokevirtual 85, 3) := by decide +kernel
theorem dL_law_576 : decode code 576 = .ok (.iload 5, 2) := by decide +kernel
theorem dL_law_578 : decode code 578 = .ok (.if_icmp .eq 5, 3) := by decide +kernel
theorem dL_law_581 : decode code 581 = .ok (.iconst 0, 1) := by decide +kernel
theorem dL_law_582 : decode code 582 = .ok (.ireturn, 1) := by decide +kernel
theorem dL_law_583 : decode code 583 = .ok (.iload 5, 2) := by decide +kernel
theorem dL_law_585 : decode code 585 = .ok (.ifCond .ne 22, 3) := by decide +kernel
theorem dL_law_588 : decode code 588 = .ok (.aload_n 3, 1) := by decide +kernel
theorem dL_law_589 : decode code 589 = .ok (.iconst 0, 1) := by decide +kernel
theorem dL_law_590 : decode code 590 = .ok (.laload, 1) := by decide +kernel
theorem dL_law_591 : decode code 591 = .ok (.iload 6, 2) := by decide +kernel
theorem dL_law_593 : decode code 593 = .ok (.ifCond .eq 7, 3) := by decide +kernel
theorem dL_law_596 : decode code 596 = .ok (.lconst 1, 1) := by decide +kernel
theorem dL_law_597 : decode code 597 = .ok (.goto 4, 3) := by decide +kernel
theorem dL_law_600 : decode code 600 = .ok (.lconst 0, 1) := by decide +kernel
theorem dL_law_601 : decode code 601 = .ok (.lcmp, 1) := by decide +kernel
theorem dL_law_602 : decode code 602 = .ok (.ifCond .eq 5, 3) := by decide +kernel
theorem dL_law_605 : decode code 605 = .ok (.iconst 0, 1) := by decide +kernel
theorem dL_law_606 : decode code 606 = .ok (.ireturn, 1) := by decide +kernel
theorem dL_law_607 : decode code 607 = .ok (.goto 737, 3) := by decide +kernel
theorem dL_law_610 : decode code 610 = .ok (.aload_n 1, 1) := by decide +kernel
theorem dL_law_611 : decode code 611 = .ok (.aload_n 0, 1) := by decide +kernel
theorem dL_law_612 : decode code 612 = .ok (.iload 4, 2) := by decide +kernel
theorem dL_law_614 : decode code 614 = .ok (.iconst 1, 1) := by decide +kernel
theorem dL_law_615 : decode code 615 = .ok (.iadd, 1) := by decide +kernel
theorem dL_law_616 : decode code 616 = .ok (.iaload, 1) := by decide +kernel
theorem dL_law_617 : decode code 617 = .ok (.aload_n 0, 1) := by decide +kernel
theorem dL_law_618 : decode code 618 = .ok (.iload 4, 2) := by decide +kernel
theorem dL_law_620 : decode code 620 = .ok (.iconst 2, 1) := by decide +kernel
theorem dL_law_621 : decode code 621 = .ok (.iadd, 1) := by decide +kernel
theorem dL_law_622 : decode code 622 = .ok (.iaload, 1) := by decide +kernel
theorem dL_law_623 : decode code 623 = .ok (.aload_n 0, 1) := by decide +kernel
theorem dL_law_624 : decode code 624 = .ok (.iload 4, 2) := by decide +kernel
theorem dL_law_626 : decode code 626 = .ok (.iconst 3, 1) := by decide +kernel
theorem dL_law_627 : decode code 627 = .ok (.iadd, 1) := by decide +kernel
theorem dL_law_628 : decode code 628 = .ok (.iaload, 1) := by decide +kernel
theorem dL_law_629 : decode code 629 = .ok (.aload_n 0, 1) := by decide +kernel
theorem dL_law_630 : decode code 630 = .ok (.iload 4, 2) := by decide +kernel
theorem dL_law_632 : decode code 632 = .ok (.iconst 4, 1) := by decide +kernel
theorem dL_law_633 : decode code 633 = .ok (.iadd, 1) := by decide +kernel
theorem dL_law_634 : decode code 634 = .ok (.iaload, 1) := by decide +kernel
theorem dL_law_635 : decode code 635 = .ok (.aload_n 3, 1) := by decide +kernel
theorem dL_law_636 : decode code 636 = .ok (.invokestatic 109, 3) := by decide +kernel
theorem dL_law_639 : decode code 639 = .ok (.istore 5, 2) := by decide +kernel
theorem dL_law_641 : decode code 641 = .ok (.aload_n 2, 1) := by decide +kernel
theorem dL_law_642 : decode code 642 = .ok (.aload_n 0, 1) := by decide +kernel
theorem dL_law_643 : decode code 643 = .ok (.iload 4, 2) := by decide +kernel
theorem dL_law_645 : decode code 645 = .ok (.iconst 1, 1) := by decide +kernel
theorem dL_law_646 : decode code 646 = .ok (.iadd, 1) := by decide +kernel
theorem dL_law_647 : decode code 647 = .ok (.iaload, 1) := by decide +kernel
theorem dL_law_648 : decode code 648 = .ok (.aload_n 0, 1) := by decide +kernel
theorem dL_law_649 : decode code 649 = .ok (.iload 4, 2) := by decide +kernel
theorem dL_law_651 : decode code 651 = .ok (.iconst 2, 1) := by decide +kernel
theorem dL_law_652 : decode code 652 = .ok (.iadd, 1) := by decide +kernel
theorem dL_law_653 : decode code 653 = .ok (.iaload, 1) := by decide +kernel
theorem dL_law_654 : decode code 654 = .ok (.aload_n 0, 1) := by decide +kernel
theorem dL_law_655 : decode code 655 = .ok (.iload 4, 2) := by decide +kernel
theorem dL_law_657 : decode code 657 = .ok (.iconst 3, 1) := by decide +kernel
theorem dL_law_658 : decode code 658 = .ok (.iadd, 1) := by decide +kernel
theorem dL_law_659 : decode code 659 = .ok (.iaload, 1) := by decide +kernel
theorem dL_law_660 : decode code 660 = .ok (.aload_n 0, 1) := by decide +kernel
theorem dL_law_661 : decode code 661 = .ok (.iload 4, 2) := by decide +kernel
theorem dL_law_663 : decode code 663 = .ok (.iconst 4, 1) := by decide +kernel
theorem dL_law_664 : decode code 664 = .ok (.iadd, 1) := by decide +kernel
theorem dL_law_665 : decode code 665 = .ok (.iaload, 1) := by decide +kernel
theorem dL_law_666 : decode code 666 = .ok (.invokevirtual 112, 3) := by decide +kernel
theorem dL_law_669 : decode code 669 = .ok (.istore 6, 2) := by decide +kernel
theorem dL_law_671 : decode code 671 = .ok (.aload_n 2, 1) := by decide +kernel
theorem dL_law_672 : decode code 672 = .ok (.invokevirtual 85, 3) := by decide +kernel
theorem dL_law_675 : decode code 675 = .ok (.iload 5, 2) := by decide +kernel
theorem dL_law_677 : decode code 677 = .ok (.if_icmp .eq 5, 3) := by decide +kernel
theorem dL_law_680 : decode code 680 = .ok (.iconst 0, 1) := by decide +kernel
theorem dL_law_681 : decode code 681 = .ok (.ireturn, 1) := by decide +kernel
theorem dL_law_682 : decode code 682 = .ok (.iload 5, 2) := by decide +kernel
theorem dL_law_684 : decode code 684 = .ok (.ifCond .ne 15, 3) := by decide +kernel
theorem dL_law_687 : decode code 687 = .ok (.aload_n 3, 1) := by decide +kernel
theorem dL_law_688 : decode code 688 = .ok (.iconst 0, 1) := by decide +kernel
theorem dL_law_689 : decode code 689 = .ok (.laload, 1) := by decide +kernel
theorem dL_law_690 : decode code 690 = .ok (.iload 6, 2) := by decide +kernel
theorem dL_law_692 : decode code 692 = .ok (.i2l, 1) := by decide +kernel
theorem dL_law_693 : decode code 693 = .ok (.lcmp, 1) := by decide +kernel
theorem dL_law_694 : decode code 694 = .ok (.ifCond .eq 5, 3) := by decide +kernel
theorem dL_law_697 : decode code 697 = .ok (.iconst 0, 1) := by decide +kernel
theorem dL_law_698 : decode code 698 = .ok (.ireturn, 1) := by decide +kernel
theorem dL_law_699 : decode code 699 = .ok (.goto 645, 3) := by decide +kernel
theorem dL_law_702 : decode code 702 = .ok (.aload_n 1, 1) := by decide +kernel
theorem dL_law_703 : decode code 703 = .ok (.aload_n 0, 1) := by decide +kernel
theorem dL_law_704 : decode code 704 = .ok (.iload 4, 2) := by decide +kernel
theorem dL_law_706 : decode code 706 = .ok (.iconst 1, 1) := by decide +kernel
theorem dL_law_707 : decode code 707 = .ok (.iadd, 1) := by decide +kernel
theorem dL_law_708 : decode code 708 = .ok (.iaload, 1) := by decide +kernel
theorem dL_law_709 : decode code 709 = .ok (.aload_n 0, 1) := by decide +kernel
theorem dL_law_710 : decode code 710 = .ok (.iload 4, 2) := by decide +kernel
theorem dL_law_712 : decode code 712 = .ok (.iconst 2, 1) := by decide +kernel
theorem dL_law_713 : decode code 713 = .ok (.iadd, 1) := by decide +kernel
theorem dL_law_714 : decode code 714 = .ok (.iaload, 1) := by decide +kernel
theorem dL_law_715 : decode code 715 = .ok (.aload_n 0, 1) := by decide +kernel
theorem dL_law_716 : decode code 716 = .ok (.iload 4, 2) := by decide +kernel
theorem dL_law_718 : decode code 718 = .ok (.iconst 3, 1) := by decide +kernel
theorem dL_law_719 : decode code 719 = .ok (.iadd, 1) := by decide +kernel
theorem dL_law_720 : decode code 720 = .ok (.iaload, 1) := by decide +kernel
theorem dL_law_721 : decode code 721 = .ok (.aload_n 0, 1) := by decide +kernel
theorem dL_law_722 : decode code 722 = .ok (.iload 4, 2) := by decide +kernel
theorem dL_law_724 : decode code 724 = .ok (.iconst 4, 1) := by decide +kernel
theorem dL_law_725 : decode code 725 = .ok (.iadd, 1) := by decide +kernel
theorem dL_law_726 : decode code 726 = .ok (.iaload, 1) := by decide +kernel
theorem dL_law_727 : decode code 727 = .ok (.aload_n 0, 1) := by decide +kernel
theorem dL_law_728 : decode code 728 = .ok (.iload 4, 2) := by decide +kernel
