theorem d_W_law_457 : decode code 457 = .ok (.iadd, 1) := by decide +kernel
theorem d_W_law_458 : decode code 458 = .ok (.iaload, 1) := by decide +kernel
theorem d_W_law_459 : decode code 459 = .ok (.aload_n 0, 1) := by decide +kernel
theorem d_W_law_460 : decode code 460 = .ok (.iload 4, 2) := by decide +kernel
theorem d_W_law_462 : decode code 462 = .ok (.iconst 3, 1) := by decide +kernel
theorem d_W_law_463 : decode code 463 = .ok (.iadd, 1) := by decide +kernel
theorem d_W_law_464 : decode code 464 = .ok (.iaload, 1) := by decide +kernel
theorem d_W_law_465 : decode code 465 = .ok (.aload_n 0, 1) := by decide +kernel
theorem d_W_law_466 : decode code 466 = .ok (.iload 4, 2) := by decide +kernel
theorem d_W_law_468 : decode code 468 = .ok (.iconst 4, 1) := by decide +kernel
theorem d_W_law_469 : decode code 469 = .ok (.iadd, 1) := by decide +kernel
theorem d_W_law_470 : decode code 470 = .ok (.iaload, 1) := by decide +kernel
theorem d_W_law_471 : decode code 471 = .ok (.aload_n 0, 1) := by decide +kernel
theorem d_W_law_472 : decode code 472 = .ok (.iload 4, 2) := by decide +kernel
theorem d_W_law_474 : decode code 474 = .ok (.iconst 5, 1) := by decide +kernel
theorem d_W_law_475 : decode code 475 = .ok (.iadd, 1) := by decide +kernel
theorem d_W_law_476 : decode code 476 = .ok (.iaload, 1) := by decide +kernel
theorem d_W_law_477 : decode code 477 = .ok (.aload_n 3, 1) := by decide +kernel
theorem d_W_law_478 : decode code 478 = .ok (.invokestatic 104, 3) := by decide +kernel
theorem d_W_law_481 : decode code 481 = .ok (.istore 5, 2) := by decide +kernel
theorem d_W_law_483 : decode code 483 = .ok (.aload_n 2, 1) := by decide +kernel
theorem d_W_law_484 : decode code 484 = .ok (.aload_n 0, 1) := by decide +kernel
theorem d_W_law_485 : decode code 485 = .ok (.iload 4, 2) := by decide +kernel
theorem d_W_law_487 : decode code 487 = .ok (.iconst 1, 1) := by decide +kernel
theorem d_W_law_488 : decode code 488 = .ok (.iadd, 1) := by decide +kernel
theorem d_W_law_489 : decode code 489 = .ok (.iaload, 1) := by decide +kernel
theorem d_W_law_490 : decode code 490 = .ok (.aload_n 0, 1) := by decide +kernel
theorem d_W_law_491 : decode code 491 = .ok (.iload 4, 2) := by decide +kernel
theorem d_W_law_493 : decode code 493 = .ok (.iconst 2, 1) := by decide +kernel
theorem d_W_law_494 : decode code 494 = .ok (.iadd, 1) := by decide +kernel
theorem d_W_law_495 : decode code 495 = .ok (.iaload, 1) := by decide +kernel
theorem d_W_law_496 : decode code 496 = .ok (.aload_n 0, 1) := by decide +kernel
theorem d_W_law_497 : decode code 497 = .ok (.iload 4, 2) := by decide +kernel
theorem d_W_law_499 : decode code 499 = .ok (.iconst 3, 1) := by decide +kernel
theorem d_W_law_500 : decode code 500 = .ok (.iadd, 1) := by decide +kernel
theorem d_W_law_501 : decode code 501 = .ok (.iaload, 1) := by decide +kernel
theorem d_W_law_502 : decode code 502 = .ok (.aload_n 0, 1) := by decide +kernel
theorem d_W_law_503 : decode code 503 = .ok (.iload 4, 2) := by decide +kernel
theorem d_W_law_505 : decode code 505 = .ok (.iconst 4, 1) := by decide +kernel
theorem d_W_law_506 : decode code 506 = .ok (.iadd, 1) := by decide +kernel
theorem d_W_law_507 : decode code 507 = .ok (.iaload, 1) := by decide +kernel
theorem d_W_law_508 : decode code 508 = .ok (.aload_n 0, 1) := by decide +kernel
theorem d_W_law_509 : decode code 509 = .ok (.iload 4, 2) := by decide +kernel
theorem d_W_law_511 : decode code 511 = .ok (.iconst 5, 1) := by decide +kernel
theorem d_W_law_512 : decode code 512 = .ok (.iadd, 1) := by decide +kernel
theorem d_W_law_513 : decode code 513 = .ok (.iaload, 1) := by decide +kernel
theorem d_W_law_514 : decode code 514 = .ok (.invokevirtual 107, 3) := by decide +kernel
theorem d_W_law_517 : decode code 517 = .ok (.istore 6, 2) := by decide +kernel
theorem d_W_law_519 : decode code 519 = .ok (.aload_n 2, 1) := by decide +kernel
theorem d_W_law_520 : decode code 520 = .ok (.invokevirtual 91, 3) := by decide +kernel
theorem d_W_law_523 : decode code 523 = .ok (.iload 5, 2) := by decide +kernel
theorem d_W_law_525 : decode code 525 = .ok (.if_icmp .eq 5, 3) := by decide +kernel
theorem d_W_law_528 : decode code 528 = .ok (.iconst 0, 1) := by decide +kernel
theorem d_W_law_529 : decode code 529 = .ok (.ireturn, 1) := by decide +kernel
theorem d_W_law_530 : decode code 530 = .ok (.iload 5, 2) := by decide +kernel
theorem d_W_law_532 : decode code 532 = .ok (.ifCond .ne 15, 3) := by decide +kernel
theorem d_W_law_535 : decode code 535 = .ok (.aload_n 3, 1) := by decide +kernel
theorem d_W_law_536 : decode code 536 = .ok (.iconst 0, 1) := by decide +kernel
theorem d_W_law_537 : decode code 537 = .ok (.laload, 1) := by decide +kernel
theorem d_W_law_538 : decode code 538 = .ok (.iload 6, 2) := by decide +kernel
theorem d_W_law_540 : decode code 540 = .ok (.i2l, 1) := by decide +kernel
theorem d_W_law_541 : decode code 541 = .ok (.lcmp, 1) := by decide +kernel
theorem d_W_law_542 : decode code 542 = .ok (.ifCond .eq 5, 3) := by decide +kernel
theorem d_W_law_545 : decode code 545 = .ok (.iconst 0, 1) := by decide +kernel
theorem d_W_law_546 : decode code 546 = .ok (.ireturn, 1) := by decide +kernel
theorem d_W_law_547 : decode code 547 = .ok (.goto 1045, 3) := by decide +kernel
theorem d_W_law_550 : decode code 550 = .ok (.aload_n 1, 1) := by decide +kernel
theorem d_W_law_551 : decode code 551 = .ok (.aload_n 0, 1) := by decide +kernel
theorem d_W_law_552 : decode code 552 = .ok (.iload 4, 2) := by decide +kernel
theorem d_W_law_554 : decode code 554 = .ok (.iconst 1, 1) := by decide +kernel
theorem d_W_law_555 : decode code 555 = .ok (.iadd, 1) := by decide +kernel
theorem d_W_law_556 : decode code 556 = .ok (.iaload, 1) := by decide +kernel
theorem d_W_law_557 : decode code 557 = .ok (.aload_n 0, 1) := by decide +kernel
theorem d_W_law_558 : decode code 558 = .ok (.iload 4, 2) := by decide +kernel
theorem d_W_law_560 : decode code 560 = .ok (.iconst 2, 1) := by decide +kernel
theorem d_W_law_561 : decode code 561 = .ok (.iadd, 1) := by decide +kernel
theorem d_W_law_562 : decode code 562 = .ok (.iaload, 1) := by decide +kernel
theorem d_W_law_563 : decode code 563 = .ok (.aload_n 0, 1) := by decide +kernel
theorem d_W_law_564 : decode code 564 = .ok (.iload 4, 2) := by decide +kernel
theorem d_W_law_566 : decode code 566 = .ok (.iconst 3, 1) := by decide +kernel
theorem d_W_law_567 : decode code 567 = .ok (.iadd, 1) := by decide +kernel
theorem d_W_law_568 : decode code 568 = .ok (.iaload, 1) := by decide +kernel
theorem d_W_law_569 : decode code 569 = .ok (.aload_n 3, 1) := by decide +kernel
theorem d_W_law_570 : decode code 570 = .ok (.invokestatic 108, 3) := by decide +kernel
theorem d_W_law_573 : decode code 573 = .ok (.istore 5, 2) := by decide +kernel
theorem d_W_law_575 : decode code 575 = .ok (.aload_n 2, 1) := by decide +kernel
theorem d_W_law_576 : decode code 576 = .ok (.aload_n 0, 1) := by decide +kernel
theorem d_W_law_577 : decode code 577 = .ok (.iload 4, 2) := by decide +kernel
theorem d_W_law_579 : decode code 579 = .ok (.iconst 1, 1) := by decide +kernel
theorem d_W_law_580 : decode code 580 = .ok (.iadd, 1) := by decide +kernel
theorem d_W_law_581 : decode code 581 = .ok (.iaload, 1) := by decide +kernel
theorem d_W_law_582 : decode code 582 = .ok (.aload_n 0, 1) := by decide +kernel
theorem d_W_law_583 : decode code 583 = .ok (.iload 4, 2) := by decide +kernel
theorem d_W_law_585 : decode code 585 = .ok (.iconst 2, 1) := by decide +kernel
theorem d_W_law_586 : decode code 586 = .ok (.iadd, 1) := by decide +kernel
theorem d_W_law_587 : decode code 587 = .ok (.iaload, 1) := by decide +kernel
theorem d_W_law_588 : decode code 588 = .ok (.aload_n 0, 1) := by decide +kernel
theorem d_W_law_589 : decode code 589 = .ok (.iload 4, 2) := by decide +kernel
theorem d_W_law_591 : decode code 591 = .ok (.iconst 3, 1) := by decide +kernel
theorem d_W_law_592 : decode code 592 = .ok (.iadd, 1) := by decide +kernel
theorem d_W_law_593 : decode code 593 = .ok (.iaload, 1) := by decide +kernel
theorem d_W_law_594 : decode code 594 = .ok (.invokevirtual 110, 3) := by decide +kernel
theorem d_W_law_597 : decode code 597 = .ok (.istore 6, 2) := by decide +kernel
theorem d_W_law_599 : decode code 599 = .ok (.aload_n 2, 1) := by decide +kernel
theorem d_W_law_600 : decode code 600 = .ok (.invokevirtual 91, 3) := by decide +kernel
theorem d_W_law_603 : decode code 603 = .ok (.iload 5, 2) := by decide +kernel
theorem d_W_law_605 : decode code 605 = .ok (.if_icmp .eq 5, 3) := by decide +kernel
theorem d_W_law_608 : decode code 608 = .ok (.iconst 0, 1) := by decide +kernel
theorem d_W_law_609 : decode code 609 = .ok (.ireturn, 1) := by decide +kernel
theorem d_W_law_610 : decode code 610 = .ok (.iload 5, 2) := by decide +kernel
theorem d_W_law_612 : decode code 612 = .ok (.ifCond .ne 15, 3) := by decide +kernel
theorem d_W_law_615 : decode code 615 = .ok (.aload_n 3, 1) := by decide +kernel
theorem d_W_law_616 : decode code 616 = .ok (.iconst 0, 1) := by decide +kernel
theorem d_W_law_617 : decode code 617 = .ok (.laload, 1) := by decide +kernel
theorem d_W_law_618 : decode code 618 = .ok (.iload 6, 2) := by decide +kernel
theorem d_W_law_620 : decode code 620 = .ok (.i2l, 1) := by decide +kernel
theorem d_W_law_621 : decode code 621 = .ok (.lcmp, 1) := by decide +kernel
theorem d_W_law_622 : decode code 622 = .ok (.ifCond .eq 5, 3) := by decide +kernel
theorem d_W_law_625 : decode code 625 = .ok (.iconst 0, 1) := by decide +kernel
theorem d_W_law_626 : decode code 626 = .ok (.ireturn, 1) := by decide +kernel
theorem d_W_law_627 : decode code 627 = .ok (.goto 965, 3) := by decide +kernel
theorem d_W_law_630 : decode code 630 = .ok (.aload_n 1, 1) := by decide +kernel
theorem d_W_law_631 : decode code 631 = .ok (.aload_n 0, 1) := by decide +kernel
theorem d_W_law_632 : decode code 632 = .ok (.iload 4, 2) := by decide +kernel
theorem d_W_law_634 : decode code 634 = .ok (.iconst 1, 1) := by decide +kernel
theorem d_W_law_635 : decode code 635 = .ok (.iadd, 1) := by decide +kernel
theorem d_W_law_636 : decode code 636 = .ok (.iaload, 1) := by decide +kernel
theorem d_W_law_637 : decode code 637 = .ok (.aload_n 0, 1) := by decide +kernel
theorem d_W_law_638 : decode code 638 = .ok (.iload 4, 2) := by decide +kernel
theorem d_W_law_640 : decode code 640 = .ok (.iconst 2, 1) := by decide +kernel
theorem d_W_law_641 : decode code 641 = .ok (.iadd, 1) := by decide +kernel
theorem d_W_law_642 : decode code 642 = .ok (.iaload, 1) := by decide +kernel
theorem d_W_law_643 : decode code 643 = .ok (.aload_n 0, 1) := by decide +kernel
theorem d_W_law_644 : decode code 644 = .ok (.iload 4, 2) := by decide +kernel
theorem d_W_law_646 : decode code 646 = .ok (.iconst 3, 1) := by decide +kernel
theorem d_W_law_647 : decode code 647 = .ok (.iadd, 1) := by decide +kernel
theorem d_W_law_648 : decode code 648 = .ok (.iaload, 1) := by decide +kernel
theorem d_W_law_649 : decode code 649 = .ok (.aload_n 3, 1) := by decide +kernel
theorem d_W_law_650 : decode code 650 = .ok (.invokestatic 111, 3) := by decide +kernel
theorem d_W_law_653 : decode code 653 = .ok (.istore 5, 2) := by decide +kernel
theorem d_W_law_655 : decode code 655 = .ok (.aload_n 2, 1) := by decide +kernel
theorem d_W_law_656 : decode code 656 = .ok (.aload_n 0, 1) := by decide +kernel
theorem d_W_law_657 : decode code 657 = .ok (.iload 4, 2) := by decide +kernel
theorem d_W_law_659 : decode code 659 = .ok (.iconst 1, 1) := by decide +kernel
theorem d_W_law_660 : decode code 660 = .ok (.iadd, 1) := by decide +kernel
theorem d_W_law_661 : decode code 661 = .ok (.iaload, 1) := by decide +kernel
theorem d_W_law_662 : decode code 662 = .ok (.aload_n 0, 1) := by decide +kernel
theorem d_W_law_663 : decode code 663 = .ok (.iload 4, 2) := by decide +kernel
theorem d_W_law_665 : decode code 665 = .ok (.iconst 2, 1) := by decide +kernel
theorem d_W_law_666 : decode code 666 = .ok (.iadd, 1) := by decide +kernel
theorem d_W_law_667 : decode code 667 = .ok (.iaload, 1) := by decide +kernel
theorem d_W_law_668 : decode code 668 = .ok (.aload_n 0, 1) := by decide +kernel
theorem d_W_law_669 : decode code 669 = .ok (.iload 4, 2) := by decide +kernel
theorem d_W_law_671 : decode code 671 = .ok (.iconst 3, 1) := by decide +kernel
theorem d_W_law_672 : decode code 672 = .ok (.iadd, 1) := by decide +kernel
theorem d_W_law_673 : decode code 673 = .ok (.iaload, 1) := by decide +kernel
theorem d_W_law_674 : decode code 674 = .ok (.invokevirtual 113, 3) := by decide +kernel
theorem d_W_law_677 : decode code 677 = .ok (.istore 6, 2) := by decide +kernel
theorem d_W_law_679 : decode code 679 = .ok (.aload_n 2, 1) := by decide +kernel
theorem d_W_law_680 : decode code 680 = .ok (.invokevirtual 91, 3) := by decide +kernel
theorem d_W_law_683 : decode code 683 = .ok (.iload 5, 2) := by decide +kernel
theorem d_W_law_685 : decode code 685 = .ok (.if_icmp .eq 5, 3) := by decide +kernel
theorem d_W_law_688 : decode code 688 = .ok (.iconst 0, 1) := by decide +kernel
theorem d_W_law_689 : decode code 689 = .ok (.ireturn, 1) := by decide +kernel
theorem d_W_law_690 : decode code 690 = .ok (.iload 5, 2) := by decide +kernel
theorem d_W_law_692 : decode code 692 = .ok (.ifCond .ne 15, 3) := by decide +kernel
theorem d_W_law_695 : decode code 695 = .ok (.aload_n 3, 1) := by decide +kernel
theorem d_W_law_696 : decode code 696 = .ok (.iconst 0, 1) := by decide +kernel
theorem d_W_law_697 : decode code 697 = .ok (.laload, 1) := by decide +kernel
theorem d_W_law_698 : decode code 698 = .ok (.iload 6, 2) := by decide +kernel
theorem d_W_law_700 : decode code 700 = .ok (.i2l, 1) := by decide +kernel
theorem d_W_law_701 : decode code 701 = .ok (.lcmp, 1) := by decide +kernel
theorem d_W_law_702 : decode code 702 = .ok (.ifCond .eq 5, 3) := by decide +kernel
theorem d_W_law_705 : decode code 705 = .ok (.iconst 0, 1) := by decide +kernel
theorem d_W_law_706 : decode code 706 = .ok (.ireturn, 1) := by decide +kernel
theorem d_W_law_707 : decode code 707 = .ok (.goto 885, 3) := by decide +kernel
theorem d_W_law_710 : decode code 710 = .ok (.aload_n 1, 1) := by decide +kernel
theorem d_W_law_711 : decode code 711 = .ok (.aload_n 0, 1) := by decide +kernel
theorem d_W_law_712 : decode code 712 = .ok (.iload 4, 2) := by decide +kernel
theorem d_W_law_714 : decode code 714 = .ok (.iconst 1, 1) := by decide +kernel
theorem d_W_law_715 : decode code 715 = .ok (.iadd, 1) := by decide +kernel
theorem d_W_law_716 : decode code 716 = .ok (.iaload, 1) := by decide +kernel
theorem d_W_law_717 : decode code 717 = .ok (.aload_n 0, 1) := by decide +kernel
theorem d_W_law_718 : decode code 718 = .ok (.iload 4, 2) := by decide +kernel
theorem d_W_law_720 : decode code 720 = .ok (.iconst 2, 1) := by decide +kernel
theorem d_W_law_721 : decode code 721 = .ok (.iadd, 1) := by decide +kernel
theorem d_W_law_722 : decode code 722 = .ok (.iaload, 1) := by decide +kernel
theorem d_W_law_723 : decode code 723 = .ok (.aload_n 0, 1) := by decide +kernel
theorem d_W_law_724 : decode code 724 = .ok (.iload 4, 2) := by decide +kernel
theorem d_W_law_726 : decode code 726 = .ok (.iconst 3, 1) := by decide +kernel
theorem d_W_law_727 : decode code 727 = .ok (.iadd, 1) := by decide +kernel
theorem d_W_law_728 : decode code 728 = .ok (.iaload, 1) := by decide +kernel
theorem d_W_law_729 : decode code 729 = .ok (.aload_n 3, 1) := by decide +kernel
theorem d_W_law_730 : decode code 730 = .ok (.invokestatic 114, 3) := by decide +kernel
theorem d_W_law_733 : decode code 733 = .ok (.istore 5, 2) := by decide +kernel
theorem d_W_law_735 : decode code 735 = .ok (.aload_n 2, 1) := by decide +kernel
theorem d_W_law_736 : decode code 736 = .ok (.aload_n 0, 1) := by decide +kernel
theorem d_W_law_737 : decode code 737 = .ok (.iload 4, 2) := by decide +kernel
theorem d_W_law_739 : decode code 739 = .ok (.iconst 1, 1) := by decide +kernel
theorem d_W_law_740 : decode code 740 = .ok (.iadd, 1) := by decide +kernel
theorem d_W_law_741 : decode code 741 = .ok (.iaload, 1) := by decide +kernel
theorem d_W_law_742 : decode code 742 = .ok (.aload_n 0, 1) := by decide +kernel
theorem d_W_law_743 : decode code 743 = .ok (.iload 4, 2) := by decide +kernel
theorem d_W_law_745 : decode code 745 = .ok (.iconst 2, 1) := by decide +kernel
theorem d_W_law_746 : decode code 746 = .ok (.iadd, 1) := by decide +kernel
theorem d_W_law_747 : decode code 747 = .ok (.iaload, 1) := by decide +kernel
theorem d_W_law_748 : decode code 748 = .ok (.aload_n 0, 1) := by decide +kernel
theorem d_W_law_749 : decode code 749 = .ok (.iload 4, 2) := by decide +kernel
theorem d_W_law_751 : decode code 751 = .ok (.iconst 3, 1) := by decide +kernel
theorem d_W_law_752 : decode code 752 = .ok (.iadd, 1) := by decide +kernel
theorem d_W_law_753 : decode code 753 = .ok (.iaload, 1) := by decide +kernel
theorem d_W_law_754 : decode code 754 = .ok (.invokevirtual 116, 3) := by decide +kernel
theorem d_W_law_757 : decode code 757 = .ok (.istore 6, 2) := by decide +kernel
theorem d_W_law_759 : decode code 759 = .ok (.aload_n 2, 1) := by decide +kernel
theorem d_W_law_760 : decode code 760 = .ok (.invokevirtual 91, 3) := by decide +kernel
theorem d_W_law_763 : decode code 763 = .ok (.iload 5, 2) := by decide +kernel
theorem d_W_law_765 : decode code 765 = .ok (.if_icmp .eq 5, 3) := by decide +kernel
theorem d_W_law_768 : decode code 768 = .ok (.iconst 0, 1) := by decide +kernel
theorem d_W_law_769 : decode code 769 = .ok (.ireturn, 1) := by decide +kernel
theorem d_W_law_770 : decode code 770 = .ok (.iload 5, 2) := by decide +kernel
theorem d_W_law_772 : decode code 772 = .ok (.ifCond .ne 15, 3) := by decide +kernel
theorem d_W_law_775 : decode code 775 = .ok (.aload_n 3, 1) := by decide +kernel
theorem d_W_law_776 : decode code 776 = .ok (.iconst 0, 1) := by decide +kernel
theorem d_W_law_777 : decode code 777 = .ok (.laload, 1) := by decide +kernel
theorem d_W_law_778 : decode code 778 = .ok (.iload 6, 2) := by decide +kernel
theorem d_W_law_780 : decode code 780 = .ok (.i2l, 1) := by decide +kernel
theorem d_W_law_781 : decode code 781 = .ok (.lcmp, 1) := by decide +kernel
theorem d_W_law_782 : decode code 782 = .ok (.ifCond .eq 5, 3) := by decide +kernel
theorem d_W_law_785 : decode code 785 = .ok (.iconst 0, 1) := by decide +kernel
theorem d_W_law_786 : decode code 786 = .ok (.ireturn, 1) := by decide +kernel
theorem d_W_law_787 : decode code 787 = .ok (.goto 805, 3) := by decide +kernel
theorem d_W_law_790 : decode code 790 = .ok (.aload_n 1, 1) := by decide +kernel
theorem d_W_law_791 : decode code 791 = .ok (.aload_n 0, 1) := by decide +kernel
theorem d_W_law_792 : decode code 792 = .ok (.iload 4, 2) := by decide +kernel
theorem d_W_law_794 : decode code 794 = .ok (.iconst 1, 1) := by decide +kernel
theorem d_W_law_795 : decode code 795 = .ok (.iadd, 1) := by decide +kernel
theorem d_W_law_796 : decode code 796 = .ok (.iaload, 1) := by decide +kernel
theorem d_W_law_797 : decode code 797 = .ok (.aload_n 0, 1) := by decide +kernel
theorem d_W_law_798 : decode code 798 = .ok (.iload 4, 2) := by decide +kernel
theorem d_W_law_800 : decode code 800 = .ok (.iconst 2, 1) := by decide +kernel
theorem d_W_law_801 : decode code 801 = .ok (.iadd, 1) := by decide +kernel
theorem d_W_law_802 : decode code 802 = .ok (.iaload, 1) := by decide +kernel
theorem d_W_law_803 : decode code 803 = .ok (.aload_n 0, 1) := by decide +kernel
theorem d_W_law_804 : decode code 804 = .ok (.iload 4, 2) := by decide +kernel
theorem d_W_law_806 : decode code 806 = .ok (.iconst 3, 1) := by decide +kernel
theorem d_W_law_807 : decode code 807 = .ok (.iadd, 1) := by decide +kernel
theorem d_W_law_808 : decode code 808 = .ok (.iaload, 1) := by decide +kernel
theorem d_W_law_809 : decode code 809 = .ok (.aload_n 3, 1) := by decide +kernel
theorem d_W_law_810 : decode code 810 = .ok (.invokestatic 117, 3) := by decide +kernel
theorem d_W_law_813 : decode code 813 = .ok (.istore 5, 2) := by decide +kernel
theorem d_W_law_815 : decode code 815 = .ok (.aload_n 2, 1) := by decide +kernel
theorem d_W_law_816 : decode code 816 = .ok (.aload_n 0, 1) := by decide +kernel
theorem d_W_law_817 : decode code 817 = .ok (.iload 4, 2) := by decide +kernel
