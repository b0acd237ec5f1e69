/-! the instructions, by program -/
theorem d_L_law_415 : decode code 415 = .ok (.aload_n 0, 1) := by decide +kernel
theorem d_L_law_416 : decode code 416 = .ok (.iload 4, 2) := by decide +kernel
theorem d_L_law_418 : decode code 418 = .ok (.iconst 2, 1) := by decide +kernel
theorem d_L_law_419 : decode code 419 = .ok (.iadd, 1) := by decide +kernel
theorem d_L_law_420 : decode code 420 = .ok (.iaload, 1) := by decide +kernel
theorem d_L_law_421 : decode code 421 = .ok (.aload_n 0, 1) := by decide +kernel
theorem d_L_law_422 : decode code 422 = .ok (.iload 4, 2) := by decide +kernel
theorem d_L_law_424 : decode code 424 = .ok (.iconst 3, 1) := by decide +kernel
theorem d_L_law_425 : decode code 425 = .ok (.iadd, 1) := by decide +kernel
theorem d_L_law_426 : decode code 426 = .ok (.iaload, 1) := by decide +kernel
theorem d_L_law_427 : decode code 427 = .ok (.aload_n 3, 1) := by decide +kernel
theorem d_L_law_428 : decode code 428 = .ok (.invokestatic 73, 3) := by decide +kernel
theorem d_L_law_431 : decode code 431 = .ok (.istore 5, 2) := by decide +kernel
theorem d_L_law_433 : decode code 433 = .ok (.aload_n 2, 1) := by decide +kernel
theorem d_L_law_434 : decode code 434 = .ok (.aload_n 0, 1) := by decide +kernel
theorem d_L_law_435 : decode code 435 = .ok (.iload 4, 2) := by decide +kernel
theorem d_L_law_437 : decode code 437 = .ok (.iconst 1, 1) := by decide +kernel
theorem d_L_law_438 : decode code 438 = .ok (.iadd, 1) := by decide +kernel
theorem d_L_law_439 : decode code 439 = .ok (.iaload, 1) := by decide +kernel
theorem d_L_law_440 : decode code 440 = .ok (.aload_n 0, 1) := by decide +kernel
theorem d_L_law_441 : decode code 441 = .ok (.iload 4, 2) := by decide +kernel
theorem d_L_law_443 : decode code 443 = .ok (.iconst 2, 1) := by decide +kernel
theorem d_L_law_444 : decode code 444 = .ok (.iadd, 1) := by decide +kernel
theorem d_L_law_445 : decode code 445 = .ok (.iaload, 1) := by decide +kernel
theorem d_L_law_446 : decode code 446 = .ok (.aload_n 0, 1) := by decide +kernel
theorem d_L_law_447 : decode code 447 = .ok (.iload 4, 2) := by decide +kernel
theorem d_L_law_449 : decode code 449 = .ok (.iconst 3, 1) := by decide +kernel
theorem d_L_law_450 : decode code 450 = .ok (.iadd, 1) := by decide +kernel
theorem d_L_law_451 : decode code 451 = .ok (.iaload, 1) := by decide +kernel
theorem d_L_law_452 : decode code 452 = .ok (.invokevirtual 75, 3) := by decide +kernel
theorem d_L_law_455 : decode code 455 = .ok (.istore 6, 2) := by decide +kernel
theorem d_L_law_457 : decode code 457 = .ok (.aload_n 2, 1) := by decide +kernel
theorem d_L_law_458 : decode code 458 = .ok (.invokevirtual 61, 3) := by decide +kernel
theorem d_L_law_461 : decode code 461 = .ok (.iload 5, 2) := by decide +kernel
theorem d_L_law_463 : decode code 463 = .ok (.if_icmp .eq 5, 3) := by decide +kernel
theorem d_L_law_466 : decode code 466 = .ok (.iconst 0, 1) := by decide +kernel
theorem d_L_law_467 : decode code 467 = .ok (.ireturn, 1) := by decide +kernel
theorem d_L_law_468 : decode code 468 = .ok (.iload 5, 2) := by decide +kernel
theorem d_L_law_470 : decode code 470 = .ok (.ifCond .ne 15, 3) := by decide +kernel
theorem d_L_law_473 : decode code 473 = .ok (.aload_n 3, 1) := by decide +kernel
theorem d_L_law_474 : decode code 474 = .ok (.iconst 0, 1) := by decide +kernel
theorem d_L_law_475 : decode code 475 = .ok (.laload, 1) := by decide +kernel
theorem d_L_law_476 : decode code 476 = .ok (.iload 6, 2) := by decide +kernel
theorem d_L_law_478 : decode code 478 = .ok (.i2l, 1) := by decide +kernel
theorem d_L_law_479 : decode code 479 = .ok (.lcmp, 1) := by decide +kernel
theorem d_L_law_480 : decode code 480 = .ok (.ifCond .eq 5, 3) := by decide +kernel
theorem d_L_law_483 : decode code 483 = .ok (.iconst 0, 1) := by decide +kernel
theorem d_L_law_484 : decode code 484 = .ok (.ireturn, 1) := by decide +kernel
theorem d_L_law_485 : decode code 485 = .ok (.goto 506, 3) := by decide +kernel
theorem d_L_law_488 : decode code 488 = .ok (.aload_n 1, 1) := by decide +kernel
theorem d_L_law_489 : decode code 489 = .ok (.aload_n 0, 1) := by decide +kernel
theorem d_L_law_490 : decode code 490 = .ok (.iload 4, 2) := by decide +kernel
theorem d_L_law_492 : decode code 492 = .ok (.iconst 1, 1) := by decide +kernel
theorem d_L_law_493 : decode code 493 = .ok (.iadd, 1) := by decide +kernel
theorem d_L_law_494 : decode code 494 = .ok (.iaload, 1) := by decide +kernel
theorem d_L_law_495 : decode code 495 = .ok (.aload_n 0, 1) := by decide +kernel
theorem d_L_law_496 : decode code 496 = .ok (.iload 4, 2) := by decide +kernel
theorem d_L_law_498 : decode code 498 = .ok (.iconst 2, 1) := by decide +kernel
theorem d_L_law_499 : decode code 499 = .ok (.iadd, 1) := by decide +kernel
theorem d_L_law_500 : decode code 500 = .ok (.iaload, 1) := by decide +kernel
theorem d_L_law_501 : decode code 501 = .ok (.aload_n 3, 1) := by decide +kernel
theorem d_L_law_502 : decode code 502 = .ok (.invokestatic 76, 3) := by decide +kernel
theorem d_L_law_505 : decode code 505 = .ok (.istore 5, 2) := by decide +kernel
theorem d_L_law_507 : decode code 507 = .ok (.aload_n 2, 1) := by decide +kernel
theorem d_L_law_508 : decode code 508 = .ok (.aload_n 0, 1) := by decide +kernel
theorem d_L_law_509 : decode code 509 = .ok (.iload 4, 2) := by decide +kernel
theorem d_L_law_511 : decode code 511 = .ok (.iconst 1, 1) := by decide +kernel
theorem d_L_law_512 : decode code 512 = .ok (.iadd, 1) := by decide +kernel
theorem d_L_law_513 : decode code 513 = .ok (.iaload, 1) := by decide +kernel
theorem d_L_law_514 : decode code 514 = .ok (.aload_n 0, 1) := by decide +kernel
theorem d_L_law_515 : decode code 515 = .ok (.iload 4, 2) := by decide +kernel
theorem d_L_law_517 : decode code 517 = .ok (.iconst 2, 1) := by decide +kernel
theorem d_L_law_518 : decode code 518 = .ok (.iadd, 1) := by decide +kernel
theorem d_L_law_519 : decode code 519 = .ok (.iaload, 1) := by decide +kernel
theorem d_L_law_520 : decode code 520 = .ok (.invokevirtual 79, 3) := by decide +kernel
theorem d_L_law_523 : decode code 523 = .ok (.istore 6, 2) := by decide +kernel
theorem d_L_law_525 : decode code 525 = .ok (.aload_n 2, 1) := by decide +kernel
theorem d_L_law_526 : decode code 526 = .ok (.invokevirtual 61, 3) := by decide +kernel
theorem d_L_law_529 : decode code 529 = .ok (.iload 5, 2) := by decide +kernel
theorem d_L_law_531 : decode code 531 = .ok (.if_icmp .eq 5, 3) := by decide +kernel
theorem d_L_law_534 : decode code 534 = .ok (.iconst 0, 1) := by decide +kernel
theorem d_L_law_535 : decode code 535 = .ok (.ireturn, 1) := by decide +kernel
theorem d_L_law_536 : decode code 536 = .ok (.iload 5, 2) := by decide +kernel
theorem d_L_law_538 : decode code 538 = .ok (.ifCond .ne 15, 3) := by decide +kernel
theorem d_L_law_541 : decode code 541 = .ok (.aload_n 3, 1) := by decide +kernel
theorem d_L_law_542 : decode code 542 = .ok (.iconst 0, 1) := by decide +kernel
theorem d_L_law_543 : decode code 543 = .ok (.laload, 1) := by decide +kernel
theorem d_L_law_544 : decode code 544 = .ok (.iload 6, 2) := by decide +kernel
theorem d_L_law_546 : decode code 546 = .ok (.i2l, 1) := by decide +kernel
theorem d_L_law_547 : decode code 547 = .ok (.lcmp, 1) := by decide +kernel
theorem d_L_law_548 : decode code 548 = .ok (.ifCond .eq 5, 3) := by decide +kernel
theorem d_L_law_551 : decode code 551 = .ok (.iconst 0, 1) := by decide +kernel
theorem d_L_law_552 : decode code 552 = .ok (.ireturn, 1) := by decide +kernel
theorem d_L_law_553 : decode code 553 = .ok (.goto 438, 3) := by decide +kernel
theorem d_L_law_556 : decode code 556 = .ok (.aload_n 1, 1) := by decide +kernel
theorem d_L_law_557 : decode code 557 = .ok (.aload_n 0, 1) := by decide +kernel
theorem d_L_law_558 : decode code 558 = .ok (.iload 4, 2) := by decide +kernel
theorem d_L_law_560 : decode code 560 = .ok (.iconst 1, 1) := by decide +kernel
theorem d_L_law_561 : decode code 561 = .ok (.iadd, 1) := by decide +kernel
theorem d_L_law_562 : decode code 562 = .ok (.iaload, 1) := by decide +kernel
theorem d_L_law_563 : decode code 563 = .ok (.aload_n 3, 1) := by decide +kernel
theorem d_L_law_564 : decode code 564 = .ok (.invokestatic 80, 3) := by decide +kernel
theorem d_L_law_567 : decode code 567 = .ok (.istore 5, 2) := by decide +kernel
theorem d_L_law_569 : decode code 569 = .ok (.aload_n 2, 1) := by decide +kernel
theorem d_L_law_570 : decode code 570 = .ok (.aload_n 0, 1) := by decide +kernel
theorem d_L_law_571 : decode code 571 = .ok (.iload 4, 2) := by decide +kernel
theorem d_L_law_573 : decode code 573 = .ok (.iconst 1, 1) := by decide +kernel
theorem d_L_law_574 : decode code 574 = .ok (.iadd, 1) := by decide +kernel
theorem d_L_law_575 : decode code 575 = .ok (.iaload, 1) := by decide +kernel
theorem d_L_law_576 : decode code 576 = .ok (.invokevirtual 83, 3) := by decide +kernel
theorem d_L_law_579 : decode code 579 = .ok (.istore 6, 2) := by decide +kernel
theorem d_L_law_581 : decode code 581 = .ok (.aload_n 2, 1) := by decide +kernel
theorem d_L_law_582 : decode code 582 = .ok (.invokevirtual 61, 3) := by decide +kernel
theorem d_L_law_585 : decode code 585 = .ok (.iload 5, 2) := by decide +kernel
theorem d_L_law_587 : decode code 587 = .ok (.if_icmp .eq 5, 3) := by decide +kernel
theorem d_L_law_590 : decode code 590 = .ok (.iconst 0, 1) := by decide +kernel
theorem d_L_law_591 : decode code 591 = .ok (.ireturn, 1) := by decide +kernel
theorem d_L_law_592 : decode code 592 = .ok (.iload 5, 2) := by decide +kernel
theorem d_L_law_594 : decode code 594 = .ok (.ifCond .ne 15, 3) := by decide +kernel
theorem d_L_law_597 : decode code 597 = .ok (.aload_n 3, 1) := by decide +kernel
theorem d_L_law_598 : decode code 598 = .ok (.iconst 0, 1) := by decide +kernel
theorem d_L_law_599 : decode code 599 = .ok (.laload, 1) := by decide +kernel
theorem d_L_law_600 : decode code 600 = .ok (.iload 6, 2) := by decide +kernel
theorem d_L_law_602 : decode code 602 = .ok (.i2l, 1) := by decide +kernel
theorem d_L_law_603 : decode code 603 = .ok (.lcmp, 1) := by decide +kernel
theorem d_L_law_604 : decode code 604 = .ok (.ifCond .eq 5, 3) := by decide +kernel
theorem d_L_law_607 : decode code 607 = .ok (.iconst 0, 1) := by decide +kernel
theorem d_L_law_608 : decode code 608 = .ok (.ireturn, 1) := by decide +kernel
theorem d_L_law_609 : decode code 609 = .ok (.goto 382, 3) := by decide +kernel
theorem d_L_law_612 : decode code 612 = .ok (.aload_n 1, 1) := by decide +kernel
theorem d_L_law_613 : decode code 613 = .ok (.aload_n 0, 1) := by decide +kernel
theorem d_L_law_614 : decode code 614 = .ok (.iload 4, 2) := by decide +kernel
theorem d_L_law_616 : decode code 616 = .ok (.iconst 1, 1) := by decide +kernel
theorem d_L_law_617 : decode code 617 = .ok (.iadd, 1) := by decide +kernel
theorem d_L_law_618 : decode code 618 = .ok (.iaload, 1) := by decide +kernel
theorem d_L_law_619 : decode code 619 = .ok (.aload_n 0, 1) := by decide +kernel
theorem d_L_law_620 : decode code 620 = .ok (.iload 4, 2) := by decide +kernel
theorem d_L_law_622 : decode code 622 = .ok (.iconst 2, 1) := by decide +kernel
theorem d_L_law_623 : decode code 623 = .ok (.iadd, 1) := by decide +kernel
theorem d_L_law_624 : decode code 624 = .ok (.iaload, 1) := by decide +kernel
theorem d_L_law_625 : decode code 625 = .ok (.aload_n 3, 1) := by decide +kernel
theorem d_L_law_626 : decode code 626 = .ok (.invokestatic 84, 3) := by decide +kernel
theorem d_L_law_629 : decode code 629 = .ok (.istore 5, 2) := by decide +kernel
theorem d_L_law_631 : decode code 631 = .ok (.aload_n 2, 1) := by decide +kernel
theorem d_L_law_632 : decode code 632 = .ok (.aload_n 0, 1) := by decide +kernel
theorem d_L_law_633 : decode code 633 = .ok (.iload 4, 2) := by decide +kernel
theorem d_L_law_635 : decode code 635 = .ok (.iconst 1, 1) := by decide +kernel
theorem d_L_law_636 : decode code 636 = .ok (.iadd, 1) := by decide +kernel
theorem d_L_law_637 : decode code 637 = .ok (.iaload, 1) := by decide +kernel
theorem d_L_law_638 : decode code 638 = .ok (.aload_n 0, 1) := by decide +kernel
theorem d_L_law_639 : decode code 639 = .ok (.iload 4, 2) := by decide +kernel
theorem d_L_law_641 : decode code 641 = .ok (.iconst 2, 1) := by decide +kernel
theorem d_L_law_642 : decode code 642 = .ok (.iadd, 1) := by decide +kernel
theorem d_L_law_643 : decode code 643 = .ok (.iaload, 1) := by decide +kernel
theorem d_L_law_644 : decode code 644 = .ok (.invokevirtual 86, 3) := by decide +kernel
theorem d_L_law_647 : decode code 647 = .ok (.istore 6, 2) := by decide +kernel
theorem d_L_law_649 : decode code 649 = .ok (.aload_n 2, 1) := by decide +kernel
theorem d_L_law_650 : decode code 650 = .ok (.invokevirtual 61, 3) := by decide +kernel
theorem d_L_law_653 : decode code 653 = .ok (.iload 5, 2) := by decide +kernel
theorem d_L_law_655 : decode code 655 = .ok (.if_icmp .eq 5, 3) := by decide +kernel
theorem d_L_law_658 : decode code 658 = .ok (.iconst 0, 1) := by decide +kernel
theorem d_L_law_659 : decode code 659 = .ok (.ireturn, 1) := by decide +kernel
theorem d_L_law_660 : decode code 660 = .ok (.iload 5, 2) := by decide +kernel
theorem d_L_law_662 : decode code 662 = .ok (.ifCond .ne 15, 3) := by decide +kernel
theorem d_L_law_665 : decode code 665 = .ok (.aload_n 3, 1) := by decide +kernel
theorem d_L_law_666 : decode code 666 = .ok (.iconst 0, 1) := by decide +kernel
theorem d_L_law_667 : decode code 667 = .ok (.laload, 1) := by decide +kernel
theorem d_L_law_668 : decode code 668 = .ok (.iload 6, 2) := by decide +kernel
theorem d_L_law_670 : decode code 670 = .ok (.i2l, 1) := by decide +kernel
theorem d_L_law_671 : decode code 671 = .ok (.lcmp, 1) := by decide +kernel
theorem d_L_law_672 : decode code 672 = .ok (.ifCond .eq 5, 3) := by decide +kernel
theorem d_L_law_675 : decode code 675 = .ok (.iconst 0, 1) := by decide +kernel
theorem d_L_law_676 : decode code 676 = .ok (.ireturn, 1) := by decide +kernel
theorem d_L_law_677 : decode code 677 = .ok (.goto 314, 3) := by decide +kernel
theorem d_L_law_680 : decode code 680 = .ok (.aload_n 1, 1) := by decide +kernel
theorem d_L_law_681 : decode code 681 = .ok (.aload_n 0, 1) := by decide +kernel
theorem d_L_law_682 : decode code 682 = .ok (.iload 4, 2) := by decide +kernel
theorem d_L_law_684 : decode code 684 = .ok (.iconst 1, 1) := by decide +kernel
theorem d_L_law_685 : decode code 685 = .ok (.iadd, 1) := by decide +kernel
theorem d_L_law_686 : decode code 686 = .ok (.iaload, 1) := by decide +kernel
theorem d_L_law_687 : decode code 687 = .ok (.aload_n 0, 1) := by decide +kernel
theorem d_L_law_688 : decode code 688 = .ok (.iload 4, 2) := by decide +kernel
theorem d_L_law_690 : decode code 690 = .ok (.iconst 2, 1) := by decide +kernel
theorem d_L_law_691 : decode code 691 = .ok (.iadd, 1) := by decide +kernel
theorem d_L_law_692 : decode code 692 = .ok (.iaload, 1) := by decide +kernel
theorem d_L_law_693 : decode code 693 = .ok (.aload_n 0, 1) := by decide +kernel
theorem d_L_law_694 : decode code 694 = .ok (.iload 4, 2) := by decide +kernel
theorem d_L_law_696 : decode code 696 = .ok (.iconst 3, 1) := by decide +kernel
theorem d_L_law_697 : decode code 697 = .ok (.iadd, 1) := by decide +kernel
theorem d_L_law_698 : decode code 698 = .ok (.iaload, 1) := by decide +kernel
theorem d_L_law_699 : decode code 699 = .ok (.aload_n 3, 1) := by decide +kernel
theorem d_L_law_700 : decode code 700 = .ok (.invokestatic 87, 3) := by decide +kernel
theorem d_L_law_703 : decode code 703 = .ok (.istore 5, 2) := by decide +kernel
theorem d_L_law_705 : decode code 705 = .ok (.aload_n 2, 1) := by decide +kernel
theorem d_L_law_706 : decode code 706 = .ok (.aload_n 0, 1) := by decide +kernel
theorem d_L_law_707 : decode code 707 = .ok (.iload 4, 2) := by decide +kernel
theorem d_L_law_709 : decode code 709 = .ok (.iconst 1, 1) := by decide +kernel
theorem d_L_law_710 : decode code 710 = .ok (.iadd, 1) := by decide +kernel
theorem d_L_law_711 : decode code 711 = .ok (.iaload, 1) := by decide +kernel
theorem d_L_law_712 : decode code 712 = .ok (.aload_n 0, 1) := by decide +kernel
theorem d_L_law_713 : decode code 713 = .ok (.iload 4, 2) := by decide +kernel
theorem d_L_law_715 : decode code 715 = .ok (.iconst 2, 1) := by decide +kernel
theorem d_L_law_716 : decode code 716 = .ok (.iadd, 1) := by decide +kernel
theorem d_L_law_717 : decode code 717 = .ok (.iaload, 1) := by decide +kernel
theorem d_L_law_718 : decode code 718 = .ok (.aload_n 0, 1) := by decide +kernel
theorem d_L_law_719 : decode code 719 = .ok (.iload 4, 2) := by decide +kernel
theorem d_L_law_721 : decode code 721 = .ok (.iconst 3, 1) := by decide +kernel
theorem d_L_law_722 : decode code 722 = .ok (.iadd, 1) := by decide +kernel
theorem d_L_law_723 : decode code 723 = .ok (.iaload, 1) := by decide +kernel
theorem d_L_law_724 : decode code 724 = .ok (.invokevirtual 89, 3) := by decide +kernel
theorem d_L_law_727 : decode code 727 = .ok (.lstore 6, 2) := by decide +kernel
theorem d_L_law_729 : decode code 729 = .ok (.aload_n 2, 1) := by decide +kernel
theorem d_L_law_730 : decode code 730 = .ok (.invokevirtual 61, 3) := by decide +kernel
theorem d_L_law_733 : decode code 733 = .ok (.iload 5, 2) := by decide +kernel
theorem d_L_law_735 : decode code 735 = .ok (.if_icmp .eq 5, 3) := by decide +kernel
theorem d_L_law_738 : decode code 738 = .ok (.iconst 0, 1) := by decide +kernel
theorem d_L_law_739 : decode code 739 = .ok (.ireturn, 1) := by decide +kernel
theorem d_L_law_740 : decode code 740 = .ok (.iload 5, 2) := by decide +kernel
theorem d_L_law_742 : decode code 742 = .ok (.ifCond .ne 14, 3) := by decide +kernel
theorem d_L_law_745 : decode code 745 = .ok (.aload_n 3, 1) := by decide +kernel
theorem d_L_law_746 : decode code 746 = .ok (.iconst 0, 1) := by decide +kernel
theorem d_L_law_747 : decode code 747 = .ok (.laload, 1) := by decide +kernel
theorem d_L_law_748 : decode code 748 = .ok (.lload 6, 2) := by decide +kernel
theorem d_L_law_750 : decode code 750 = .ok (.lcmp, 1) := by decide +kernel
theorem d_L_law_751 : decode code 751 = .ok (.ifCond .eq 5, 3) := by decide +kernel
theorem d_L_law_754 : decode code 754 = .ok (.iconst 0, 1) := by decide +kernel
theorem d_L_law_755 : decode code 755 = .ok (.ireturn, 1) := by decide +kernel
theorem d_L_law_756 : decode code 756 = .ok (.goto 235, 3) := by decide +kernel
theorem d_L_law_759 : decode code 759 = .ok (.aload_n 1, 1) := by decide +kernel
theorem d_L_law_760 : decode code 760 = .ok (.aload_n 0, 1) := by decide +kernel
theorem d_L_law_761 : decode code 761 = .ok (.iload 4, 2) := by decide +kernel
theorem d_L_law_763 : decode code 763 = .ok (.iconst 1, 1) := by decide +kernel
theorem d_L_law_764 : decode code 764 = .ok (.iadd, 1) := by decide +kernel
theorem d_L_law_765 : decode code 765 = .ok (.iaload, 1) := by decide +kernel
theorem d_L_law_766 : decode code 766 = .ok (.aload_n 3, 1) := by decide +kernel
theorem d_L_law_767 : decode code 767 = .ok (.invokestatic 90, 3) := by decide +kernel
theorem d_L_law_770 : decode code 770 = .ok (.istore 5, 2) := by decide +kernel
theorem d_L_law_772 : decode code 772 = .ok (.aload_n 2, 1) := by decide +kernel
theorem d_L_law_773 : decode code 773 = .ok (.aload_n 0, 1) := by decide +kernel
theorem d_L_law_774 : decode code 774 = .ok (.iload 4, 2) := by decide +kernel
theorem d_L_law_776 : decode code 776 = .ok (.iconst 1, 1) := by decide +kernel
theorem d_L_law_777 : decode code 777 = .ok (.iadd, 1) := by decide +kernel
theorem d_L_law_778 : decode code 778 = .ok (.iaload, 1) := by decide +kernel
theorem d_L_law_779 : decode code 779 = .ok (.invokevirtual 92, 3) := by decide +kernel
theorem d_L_law_782 : decode code 782 = .ok (.istore 6, 2) := by decide +kernel
theorem d_L_law_784 : decode code 784 = .ok (.aload_n 2, 1) := by decide +kernel
theorem d_L_law_785 : decode code 785 = .ok (.invokevirtual 61, 3) := by decide +kernel
theorem d_L_law_788 : decode code 788 = .ok (.iload 5, 2) := by decide +kernel
theorem d_L_law_790 : decode code 790 = .ok (.if_icmp .eq 5, 3) := by decide +kernel
theorem d_L_law_793 : decode code 793 = .ok (.iconst 0, 1) := by decide +kernel
theorem d_L_law_794 : decode code 794 = .ok (.ireturn, 1) := by decide +kernel
theorem d_L_law_795 : decode code 795 = .ok (.iload 5, 2) := by decide +kernel
theorem d_L_law_797 : decode code 797 = .ok (.ifCond .ne 15, 3) := by decide +kernel
theorem d_L_law_800 : decode code 800 = .ok (.aload_n 3, 1) := by decide +kernel
theorem d_L_law_801 : decode code 801 = .ok (.iconst 0, 1) := by decide +kernel
theorem d_L_law_802 : decode code 802 = .ok (.laload, 1) := by decide +kernel
theorem d_L_law_803 : decode code 803 = .ok (.iload 6, 2) := by decide +kernel
theorem d_L_law_805 : decode code 805 = .ok (.i2l, 1) := by decide +kernel
theorem d_L_law_806 : decode code 806 = .ok (.lcmp, 1) := by decide +kernel
theorem d_L_law_807 : decode code 807 = .ok (.ifCond .eq 5, 3) := by decide +kernel
theorem d_L_law_810 : decode code 810 = .ok (.iconst 0, 1) := by decide +kernel
theorem d_L_law_811 : decode code 811 = .ok (.ireturn, 1) := by decide +kernel
theorem d_L_law_812 : decode code 812 = .ok (.goto 179, 3) := by decide +kernel
theorem d_L_law_815 : decode code 815 = .ok (.aload_n 1, 1) := by decide +kernel
theorem d_L_law_816 : decode code 816 = .ok (.aload_n 0, 1) := by decide +kernel
theorem d_L_law_817 : decode code 817 = .ok (.iload 4, 2) := by decide +kernel
theorem d_L_law_819 : decode code 819 = .ok (.iconst 1, 1) := by decide +kernel
theorem d_L_law_820 : decode code 820 = .ok (.iadd, 1) := by decide +kernel
theorem d_L_law_821 : decode code 821 = .ok (.iaload, 1) := by decide +kernel
theorem d_L_law_822 : decode code 822 = .ok (.i2l, 1) := by decide +kernel
theorem d_L_law_823 : decode code 823 = .ok (.bipush 32, 2) := by decide +kernel
theorem d_L_law_825 : decode code 825 = .ok (.lshl, 1) := by decide +kernel
theorem d_L_law_826 : decode code 826 = .ok (.aload_n 0, 1) := by decide +kernel
theorem d_L_law_827 : decode code 827 = .ok (.iload 4, 2) := by decide +kernel
theorem d_L_law_829 : decode code 829 = .ok (.iconst 2, 1) := by decide +kernel
theorem d_L_law_830 : decode code 830 = .ok (.iadd, 1) := by decide +kernel
theorem d_L_law_831 : decode code 831 = .ok (.iaload, 1) := by decide +kernel
theorem d_L_law_832 : decode code 832 = .ok (.i2l, 1) := by decide +kernel
theorem d_L_law_833 : decode code 833 = .ok (.ldc2_w 53, 3) := by decide +kernel
theorem d_L_law_836 : decode code 836 = .ok (.land, 1) := by decide +kernel
theorem d_L_law_837 : decode code 837 = .ok (.lor, 1) := by decide +kernel
theorem d_L_law_838 : decode code 838 = .ok (.aload_n 0, 1) := by decide +kernel
theorem d_L_law_839 : decode code 839 = .ok (.iload 4, 2) := by decide +kernel
theorem d_L_law_841 : decode code 841 = .ok (.iconst 3, 1) := by decide +kernel
theorem d_L_law_842 : decode code 842 = .ok (.iadd, 1) := by decide +kernel
theorem d_L_law_843 : decode code 843 = .ok (.iaload, 1) := by decide +kernel
theorem d_L_law_844 : decode code 844 = .ok (.invokevirtual 93, 3) := by decide +kernel
theorem d_L_law_847 : decode code 847 = .ok (.aload_n 2, 1) := by decide +kernel
theorem d_L_law_848 : decode code 848 = .ok (.aload_n 0, 1) := by decide +kernel
theorem d_L_law_849 : decode code 849 = .ok (.iload 4, 2) := by decide +kernel
theorem d_L_law_851 : decode code 851 = .ok (.iconst 1, 1) := by decide +kernel
theorem d_L_law_852 : decode code 852 = .ok (.iadd, 1) := by decide +kernel
theorem d_L_law_853 : decode code 853 = .ok (.iaload, 1) := by decide +kernel
theorem d_L_law_854 : decode code 854 = .ok (.i2l, 1) := by decide +kernel
theorem d_L_law_855 : decode code 855 = .ok (.bipush 32, 2) := by decide +kernel
theorem d_L_law_857 : decode code 857 = .ok (.lshl, 1) := by decide +kernel
theorem d_L_law_858 : decode code 858 = .ok (.aload_n 0, 1) := by decide +kernel
theorem d_L_law_859 : decode code 859 = .ok (.iload 4, 2) := by decide +kernel
theorem d_L_law_861 : decode code 861 = .ok (.iconst 2, 1) := by decide +kernel
theorem d_L_law_862 : decode code 862 = .ok (.iadd, 1) := by decide +kernel
theorem d_L_law_863 : decode code 863 = .ok (.iaload, 1) := by decide +kernel
theorem d_L_law_864 : decode code 864 = .ok (.i2l, 1) := by decide +kernel
theorem d_L_law_865 : decode code 865 = .ok (.ldc2_w 53, 3) := by decide +kernel
theorem d_L_law_868 : decode code 868 = .ok (.land, 1) := by decide +kernel
theorem d_L_law_869 : decode code 869 = .ok (.lor, 1) := by decide +kernel
theorem d_L_law_870 : decode code 870 = .ok (.aload_n 0, 1) := by decide +kernel
theorem d_L_law_871 : decode code 871 = .ok (.iload 4, 2) := by decide +kernel
theorem d_L_law_873 : decode code 873 = .ok (.iconst 3, 1) := by decide +kernel
theorem d_L_law_874 : decode code 874 = .ok (.iadd, 1) := by decide +kernel
theorem d_L_law_875 : decode code 875 = .ok (.iaload, 1) := by decide +kernel
theorem d_L_law_876 : decode code 876 = .ok (.invokevirtual 97, 3) := by decide +kernel
theorem d_L_law_879 : decode code 879 = .ok (.if_icmp .eq 112, 3) := by decide +kernel
theorem d_L_law_882 : decode code 882 = .ok (.iconst 0, 1) := by decide +kernel
theorem d_L_law_883 : decode code 883 = .ok (.ireturn, 1) := by decide +kernel
theorem d_L_law_884 : decode code 884 = .ok (.aload_n 1, 1) := by decide +kernel
theorem d_L_law_885 : decode code 885 = .ok (.invokevirtual 98, 3) := by decide +kernel
theorem d_L_law_888 : decode code 888 = .ok (.aload_n 2, 1) := by decide +kernel
theorem d_L_law_889 : decode code 889 = .ok (.invokevirtual 101, 3) := by decide +kernel
theorem d_L_law_892 : decode code 892 = .ok (.if_icmp .eq 99, 3) := by decide +kernel
theorem d_L_law_895 : decode code 895 = .ok (.iconst 0, 1) := by decide +kernel
theorem d_L_law_896 : decode code 896 = .ok (.ireturn, 1) := by decide +kernel
theorem d_L_law_897 : decode code 897 = .ok (.aload_n 1, 1) := by decide +kernel
theorem d_L_law_898 : decode code 898 = .ok (.aload_n 0, 1) := by decide +kernel
theorem d_L_law_899 : decode code 899 = .ok (.iload 4, 2) := by decide +kernel
theorem d_L_law_901 : decode code 901 = .ok (.iconst 1, 1) := by decide +kernel
theorem d_L_law_902 : decode code 902 = .ok (.iadd, 1) := by decide +kernel
theorem d_L_law_903 : decode code 903 = .ok (.iaload, 1) := by decide +kernel
theorem d_L_law_904 : decode code 904 = .ok (.invokevirtual 102, 3) := by decide +kernel
theorem d_L_law_907 : decode code 907 = .ok (.aload_n 2, 1) := by decide +kernel
theorem d_L_law_908 : decode code 908 = .ok (.aload_n 0, 1) := by decide +kernel
theorem d_L_law_909 : decode code 909 = .ok (.iload 4, 2) := by decide +kernel
theorem d_L_law_911 : decode code 911 = .ok (.iconst 1, 1) := by decide +kernel
theorem d_L_law_912 : decode code 912 = .ok (.iadd, 1) := by decide +kernel
theorem d_L_law_913 : decode code 913 = .ok (.iaload, 1) := by decide +kernel
theorem d_L_law_914 : decode code 914 = .ok (.invokevirtual 105, 3) := by decide +kernel
theorem d_L_law_917 : decode code 917 = .ok (.if_icmp .eq 74, 3) := by decide +kernel
theorem d_L_law_920 : decode code 920 = .ok (.iconst 0, 1) := by decide +kernel
theorem d_L_law_921 : decode code 921 = .ok (.ireturn, 1) := by decide +kernel
theorem d_L_law_922 : decode code 922 = .ok (.aload_n 1, 1) := by decide +kernel
theorem d_L_law_923 : decode code 923 = .ok (.aload_n 0, 1) := by decide +kernel
theorem d_L_law_924 : decode code 924 = .ok (.iload 4, 2) := by decide +kernel
theorem d_L_law_926 : decode code 926 = .ok (.iconst 1, 1) := by decide +kernel
theorem d_L_law_927 : decode code 927 = .ok (.iadd, 1) := by decide +kernel
theorem d_L_law_928 : decode code 928 = .ok (.iaload, 1) := by decide +kernel
theorem d_L_law_929 : decode code 929 = .ok (.aload_n 3, 1) := by decide +kernel
theorem d_L_law_930 : decode code 930 = .ok (.invokestatic 106, 3) := by decide +kernel
theorem d_L_law_933 : decode code 933 = .ok (.istore 5, 2) := by decide +kernel
theorem d_L_law_935 : decode code 935 = .ok (.aload_n 2, 1) := by decide +kernel
theorem d_L_law_936 : decode code 936 = .ok (.aload_n 0, 1) := by decide +kernel
theorem d_L_law_937 : decode code 937 = .ok (.iload 4, 2) := by decide +kernel
theorem d_L_law_939 : decode code 939 = .ok (.iconst 1, 1) := by decide +kernel
theorem d_L_law_940 : decode code 940 = .ok (.iadd, 1) := by decide +kernel
theorem d_L_law_941 : decode code 941 = .ok (.iaload, 1) := by decide +kernel
theorem d_L_law_942 : decode code 942 = .ok (.invokevirtual 108, 3) := by decide +kernel
theorem d_L_law_945 : decode code 945 = .ok (.istore 6, 2) := by decide +kernel
theorem d_L_law_947 : decode code 947 = .ok (.aload_n 2, 1) := by decide +kernel
theorem d_L_law_948 : decode code 948 = .ok (.invokevirtual 61, 3) := by decide +kernel
theorem d_L_law_951 : decode code 951 = .ok (.iload 5, 2) := by decide +kernel
theorem d_L_law_953 : decode code 953 = .ok (.if_icmp .eq 5, 3) := by decide +kernel
theorem d_L_law_956 : decode code 956 = .ok (.iconst 0, 1) := by decide +kernel
theorem d_L_law_957 : decode code 957 = .ok (.ireturn, 1) := by decide +kernel
theorem d_L_law_958 : decode code 958 = .ok (.iload 5, 2) := by decide +kernel
theorem d_L_law_960 : decode code 960 = .ok (.ifCond .ne 15, 3) := by decide +kernel
theorem d_L_law_963 : decode code 963 = .ok (.aload_n 3, 1) := by decide +kernel
theorem d_L_law_964 : decode code 964 = .ok (.iconst 0, 1) := by decide +kernel
theorem d_L_law_965 : decode code 965 = .ok (.laload, 1) := by decide +kernel
theorem d_L_law_966 : decode code 966 = .ok (.iload 6, 2) := by decide +kernel
theorem d_L_law_968 : decode code 968 = .ok (.i2l, 1) := by decide +kernel
theorem d_L_law_969 : decode code 969 = .ok (.lcmp, 1) := by decide +kernel
theorem d_L_law_970 : decode code 970 = .ok (.ifCond .eq 5, 3) := by decide +kernel
theorem d_L_law_973 : decode code 973 = .ok (.iconst 0, 1) := by decide +kernel
theorem d_L_law_974 : decode code 974 = .ok (.ireturn, 1) := by decide +kernel
theorem d_L_law_975 : decode code 975 = .ok (.goto 16, 3) := by decide +kernel
theorem d_L_law_978 : decode code 978 = .ok (.aload_n 1, 1) := by decide +kernel
theorem d_L_law_979 : decode code 979 = .ok (.invokevirtual 109, 3) := by decide +kernel
theorem d_L_law_982 : decode code 982 = .ok (.aload_n 2, 1) := by decide +kernel
theorem d_L_law_983 : decode code 983 = .ok (.invokevirtual 112, 3) := by decide +kernel
theorem d_L_law_986 : decode code 986 = .ok (.if_icmp .eq 5, 3) := by decide +kernel
theorem d_L_law_989 : decode code 989 = .ok (.iconst 0, 1) := by decide +kernel
theorem d_L_law_990 : decode code 990 = .ok (.ireturn, 1) := by decide +kernel
theorem d_L_law_991 : decode code 991 = .ok (.iinc 4 6, 3) := by decide +kernel
theorem d_L_law_994 : decode code 994 = .ok (.goto (-971), 3) := by decide +kernel
theorem d_L_law_997 : decode code 997 = .ok (.iconst 1, 1) := by decide +kernel
theorem d_L_law_998 : decode code 998 = .ok (.ireturn, 1) := by decide +kernel
