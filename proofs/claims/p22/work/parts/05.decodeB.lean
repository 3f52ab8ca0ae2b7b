theorem dL_refuses_415 : decode cL_refuses 415 = .ok (.ifCond .eq 95, 3) := by decide +kernel
theorem dL_refuses_418 : decode cL_refuses 418 = .ok (.aload_n 0, 1) := by decide +kernel
theorem dL_refuses_419 : decode cL_refuses 419 = .ok (.iconst 3, 1) := by decide +kernel
theorem dL_refuses_420 : decode cL_refuses 420 = .ok (.iconst 0, 1) := by decide +kernel
theorem dL_refuses_421 : decode cL_refuses 421 = .ok (.iload 9, 2) := by decide +kernel
theorem dL_refuses_423 : decode cL_refuses 423 = .ok (.iconst 0, 1) := by decide +kernel
theorem dL_refuses_424 : decode cL_refuses 424 = .ok (.invokestatic 82, 3) := by decide +kernel
theorem dL_refuses_427 : decode cL_refuses 427 = .ok (.bipush (-71), 2) := by decide +kernel
theorem dL_refuses_429 : decode cL_refuses 429 = .ok (.if_icmp .ne 81, 3) := by decide +kernel
theorem dL_refuses_432 : decode cL_refuses 432 = .ok (.aload_n 0, 1) := by decide +kernel
theorem dL_refuses_433 : decode cL_refuses 433 = .ok (.iconst 4, 1) := by decide +kernel
theorem dL_refuses_434 : decode cL_refuses 434 = .ok (.iconst 0, 1) := by decide +kernel
theorem dL_refuses_435 : decode cL_refuses 435 = .ok (.iload 9, 2) := by decide +kernel
theorem dL_refuses_437 : decode cL_refuses 437 = .ok (.iconst 0, 1) := by decide +kernel
theorem dL_refuses_438 : decode cL_refuses 438 = .ok (.invokestatic 82, 3) := by decide +kernel
theorem dL_refuses_441 : decode cL_refuses 441 = .ok (.bipush (-71), 2) := by decide +kernel
theorem dL_refuses_443 : decode cL_refuses 443 = .ok (.if_icmp .ne 67, 3) := by decide +kernel
theorem dL_refuses_446 : decode cL_refuses 446 = .ok (.aload_n 0, 1) := by decide +kernel
theorem dL_refuses_447 : decode cL_refuses 447 = .ok (.iload 12, 2) := by decide +kernel
theorem dL_refuses_449 : decode cL_refuses 449 = .ok (.iconst 0, 1) := by decide +kernel
theorem dL_refuses_450 : decode cL_refuses 450 = .ok (.iconst 0, 1) := by decide +kernel
theorem dL_refuses_451 : decode cL_refuses 451 = .ok (.iconst 5, 1) := by decide +kernel
theorem dL_refuses_452 : decode cL_refuses 452 = .ok (.iconst 5, 1) := by decide +kernel
theorem dL_refuses_453 : decode cL_refuses 453 = .ok (.invokestatic 88, 3) := by decide +kernel
theorem dL_refuses_456 : decode cL_refuses 456 = .ok (.bipush (-72), 2) := by decide +kernel
theorem dL_refuses_458 : decode cL_refuses 458 = .ok (.if_icmp .ne 52, 3) := by decide +kernel
theorem dL_refuses_461 : decode cL_refuses 461 = .ok (.aload_n 0, 1) := by decide +kernel
theorem dL_refuses_462 : decode cL_refuses 462 = .ok (.iconst 0, 1) := by decide +kernel
theorem dL_refuses_463 : decode cL_refuses 463 = .ok (.iload 12, 2) := by decide +kernel
theorem dL_refuses_465 : decode cL_refuses 465 = .ok (.iconst 0, 1) := by decide +kernel
theorem dL_refuses_466 : decode cL_refuses 466 = .ok (.iconst 5, 1) := by decide +kernel
theorem dL_refuses_467 : decode cL_refuses 467 = .ok (.iconst 5, 1) := by decide +kernel
theorem dL_refuses_468 : decode cL_refuses 468 = .ok (.invokestatic 88, 3) := by decide +kernel
theorem dL_refuses_471 : decode cL_refuses 471 = .ok (.bipush (-72), 2) := by decide +kernel
theorem dL_refuses_473 : decode cL_refuses 473 = .ok (.if_icmp .ne 37, 3) := by decide +kernel
theorem dL_refuses_476 : decode cL_refuses 476 = .ok (.aload_n 0, 1) := by decide +kernel
theorem dL_refuses_477 : decode cL_refuses 477 = .ok (.iconst 0, 1) := by decide +kernel
theorem dL_refuses_478 : decode cL_refuses 478 = .ok (.iconst 0, 1) := by decide +kernel
theorem dL_refuses_479 : decode cL_refuses 479 = .ok (.iconst 0, 1) := by decide +kernel
theorem dL_refuses_480 : decode cL_refuses 480 = .ok (.iload 13, 2) := by decide +kernel
theorem dL_refuses_482 : decode cL_refuses 482 = .ok (.iconst 5, 1) := by decide +kernel
theorem dL_refuses_483 : decode cL_refuses 483 = .ok (.invokestatic 88, 3) := by decide +kernel
theorem dL_refuses_486 : decode cL_refuses 486 = .ok (.bipush (-72), 2) := by decide +kernel
theorem dL_refuses_488 : decode cL_refuses 488 = .ok (.if_icmp .ne 22, 3) := by decide +kernel
theorem dL_refuses_491 : decode cL_refuses 491 = .ok (.aload_n 0, 1) := by decide +kernel
theorem dL_refuses_492 : decode cL_refuses 492 = .ok (.iconst 0, 1) := by decide +kernel
theorem dL_refuses_493 : decode cL_refuses 493 = .ok (.iconst 0, 1) := by decide +kernel
theorem dL_refuses_494 : decode cL_refuses 494 = .ok (.iconst 0, 1) := by decide +kernel
theorem dL_refuses_495 : decode cL_refuses 495 = .ok (.iconst 5, 1) := by decide +kernel
theorem dL_refuses_496 : decode cL_refuses 496 = .ok (.iload 14, 2) := by decide +kernel
theorem dL_refuses_498 : decode cL_refuses 498 = .ok (.invokestatic 88, 3) := by decide +kernel
theorem dL_refuses_501 : decode cL_refuses 501 = .ok (.bipush (-72), 2) := by decide +kernel
theorem dL_refuses_503 : decode cL_refuses 503 = .ok (.if_icmp .ne 7, 3) := by decide +kernel
theorem dL_refuses_506 : decode cL_refuses 506 = .ok (.iconst 1, 1) := by decide +kernel
theorem dL_refuses_507 : decode cL_refuses 507 = .ok (.goto 4, 3) := by decide +kernel
theorem dL_refuses_510 : decode cL_refuses 510 = .ok (.iconst 0, 1) := by decide +kernel
theorem dL_refuses_511 : decode cL_refuses 511 = .ok (.istore 15, 2) := by decide +kernel
theorem dL_refuses_513 : decode cL_refuses 513 = .ok (.iload_n 2, 1) := by decide +kernel
theorem dL_refuses_514 : decode cL_refuses 514 = .ok (.ifCond .le 155, 3) := by decide +kernel
theorem dL_refuses_517 : decode cL_refuses 517 = .ok (.iload 15, 2) := by decide +kernel
theorem dL_refuses_519 : decode cL_refuses 519 = .ok (.ifCond .eq 147, 3) := by decide +kernel
theorem dL_refuses_522 : decode cL_refuses 522 = .ok (.aload_n 0, 1) := by decide +kernel
theorem dL_refuses_523 : decode cL_refuses 523 = .ok (.iconst 5, 1) := by decide +kernel
theorem dL_refuses_524 : decode cL_refuses 524 = .ok (.iconst 0, 1) := by decide +kernel
theorem dL_refuses_525 : decode cL_refuses 525 = .ok (.iload 9, 2) := by decide +kernel
theorem dL_refuses_527 : decode cL_refuses 527 = .ok (.iconst (-1), 1) := by decide +kernel
theorem dL_refuses_528 : decode cL_refuses 528 = .ok (.invokestatic 82, 3) := by decide +kernel
theorem dL_refuses_531 : decode cL_refuses 531 = .ok (.bipush (-71), 2) := by decide +kernel
theorem dL_refuses_533 : decode cL_refuses 533 = .ok (.if_icmp .ne 133, 3) := by decide +kernel
theorem dL_refuses_536 : decode cL_refuses 536 = .ok (.aload_n 0, 1) := by decide +kernel
theorem dL_refuses_537 : decode cL_refuses 537 = .ok (.iconst 5, 1) := by decide +kernel
theorem dL_refuses_538 : decode cL_refuses 538 = .ok (.iconst 0, 1) := by decide +kernel
theorem dL_refuses_539 : decode cL_refuses 539 = .ok (.iconst 0, 1) := by decide +kernel
theorem dL_refuses_540 : decode cL_refuses 540 = .ok (.iload 7, 2) := by decide +kernel
theorem dL_refuses_542 : decode cL_refuses 542 = .ok (.iconst 1, 1) := by decide +kernel
theorem dL_refuses_543 : decode cL_refuses 543 = .ok (.if_icmp .ne 8, 3) := by decide +kernel
theorem dL_refuses_546 : decode cL_refuses 546 = .ok (.bipush 60, 2) := by decide +kernel
theorem dL_refuses_548 : decode cL_refuses 548 = .ok (.goto 5, 3) := by decide +kernel
theorem dL_refuses_551 : decode cL_refuses 551 = .ok (.iload 8, 2) := by decide +kernel
theorem dL_refuses_553 : decode cL_refuses 553 = .ok (.invokestatic 82, 3) := by decide +kernel
theorem dL_refuses_556 : decode cL_refuses 556 = .ok (.bipush (-72), 2) := by decide +kernel
theorem dL_refuses_558 : decode cL_refuses 558 = .ok (.if_icmp .ne 108, 3) := by decide +kernel
theorem dL_refuses_561 : decode cL_refuses 561 = .ok (.aload_n 0, 1) := by decide +kernel
theorem dL_refuses_562 : decode cL_refuses 562 = .ok (.bipush 7, 2) := by decide +kernel
theorem dL_refuses_564 : decode cL_refuses 564 = .ok (.iconst 0, 1) := by decide +kernel
theorem dL_refuses_565 : decode cL_refuses 565 = .ok (.iload 7, 2) := by decide +kernel
theorem dL_refuses_567 : decode cL_refuses 567 = .ok (.iconst 1, 1) := by decide +kernel
theorem dL_refuses_568 : decode cL_refuses 568 = .ok (.if_icmp .ne 8, 3) := by decide +kernel
theorem dL_refuses_571 : decode cL_refuses 571 = .ok (.ldc 94, 2) := by decide +kernel
theorem dL_refuses_573 : decode cL_refuses 573 = .ok (.goto 5, 3) := by decide +kernel
theorem dL_refuses_576 : decode cL_refuses 576 = .ok (.iload 8, 2) := by decide +kernel
theorem dL_refuses_578 : decode cL_refuses 578 = .ok (.iconst 0, 1) := by decide +kernel
theorem dL_refuses_579 : decode cL_refuses 579 = .ok (.invokestatic 82, 3) := by decide +kernel
theorem dL_refuses_582 : decode cL_refuses 582 = .ok (.bipush (-72), 2) := by decide +kernel
theorem dL_refuses_584 : decode cL_refuses 584 = .ok (.if_icmp .ne 82, 3) := by decide +kernel
theorem dL_refuses_587 : decode cL_refuses 587 = .ok (.aload_n 0, 1) := by decide +kernel
theorem dL_refuses_588 : decode cL_refuses 588 = .ok (.bipush 8, 2) := by decide +kernel
theorem dL_refuses_590 : decode cL_refuses 590 = .ok (.iconst 0, 1) := by decide +kernel
theorem dL_refuses_591 : decode cL_refuses 591 = .ok (.iload 12, 2) := by decide +kernel
theorem dL_refuses_593 : decode cL_refuses 593 = .ok (.iconst 0, 1) := by decide +kernel
theorem dL_refuses_594 : decode cL_refuses 594 = .ok (.invokestatic 82, 3) := by decide +kernel
theorem dL_refuses_597 : decode cL_refuses 597 = .ok (.bipush (-72), 2) := by decide +kernel
theorem dL_refuses_599 : decode cL_refuses 599 = .ok (.if_icmp .ne 67, 3) := by decide +kernel
theorem dL_refuses_602 : decode cL_refuses 602 = .ok (.aload_n 0, 1) := by decide +kernel
theorem dL_refuses_603 : decode cL_refuses 603 = .ok (.bipush 8, 2) := by decide +kernel
theorem dL_refuses_605 : decode cL_refuses 605 = .ok (.iconst 0, 1) := by decide +kernel
theorem dL_refuses_606 : decode cL_refuses 606 = .ok (.iconst 0, 1) := by decide +kernel
theorem dL_refuses_607 : decode cL_refuses 607 = .ok (.iload 12, 2) := by decide +kernel
theorem dL_refuses_609 : decode cL_refuses 609 = .ok (.invokestatic 82, 3) := by decide +kernel
theorem dL_refuses_612 : decode cL_refuses 612 = .ok (.bipush (-72), 2) := by decide +kernel
theorem dL_refuses_614 : decode cL_refuses 614 = .ok (.if_icmp .ne 52, 3) := by decide +kernel
theorem dL_refuses_617 : decode cL_refuses 617 = .ok (.aload_n 0, 1) := by decide +kernel
theorem dL_refuses_618 : decode cL_refuses 618 = .ok (.bipush 9, 2) := by decide +kernel
theorem dL_refuses_620 : decode cL_refuses 620 = .ok (.iconst 0, 1) := by decide +kernel
theorem dL_refuses_621 : decode cL_refuses 621 = .ok (.iload 12, 2) := by decide +kernel
theorem dL_refuses_623 : decode cL_refuses 623 = .ok (.iconst 0, 1) := by decide +kernel
theorem dL_refuses_624 : decode cL_refuses 624 = .ok (.invokestatic 82, 3) := by decide +kernel
theorem dL_refuses_627 : decode cL_refuses 627 = .ok (.bipush (-72), 2) := by decide +kernel
theorem dL_refuses_629 : decode cL_refuses 629 = .ok (.if_icmp .ne 37, 3) := by decide +kernel
theorem dL_refuses_632 : decode cL_refuses 632 = .ok (.aload_n 0, 1) := by decide +kernel
theorem dL_refuses_633 : decode cL_refuses 633 = .ok (.bipush 9, 2) := by decide +kernel
theorem dL_refuses_635 : decode cL_refuses 635 = .ok (.iconst 0, 1) := by decide +kernel
theorem dL_refuses_636 : decode cL_refuses 636 = .ok (.iconst 0, 1) := by decide +kernel
theorem dL_refuses_637 : decode cL_refuses 637 = .ok (.iload 12, 2) := by decide +kernel
theorem dL_refuses_639 : decode cL_refuses 639 = .ok (.invokestatic 82, 3) := by decide +kernel
theorem dL_refuses_642 : decode cL_refuses 642 = .ok (.bipush (-72), 2) := by decide +kernel
theorem dL_refuses_644 : decode cL_refuses 644 = .ok (.if_icmp .ne 22, 3) := by decide +kernel
theorem dL_refuses_647 : decode cL_refuses 647 = .ok (.aload_n 0, 1) := by decide +kernel
theorem dL_refuses_648 : decode cL_refuses 648 = .ok (.bipush 10, 2) := by decide +kernel
theorem dL_refuses_650 : decode cL_refuses 650 = .ok (.iconst 0, 1) := by decide +kernel
theorem dL_refuses_651 : decode cL_refuses 651 = .ok (.iload 10, 2) := by decide +kernel
theorem dL_refuses_653 : decode cL_refuses 653 = .ok (.iconst 0, 1) := by decide +kernel
theorem dL_refuses_654 : decode cL_refuses 654 = .ok (.invokestatic 82, 3) := by decide +kernel
theorem dL_refuses_657 : decode cL_refuses 657 = .ok (.bipush (-71), 2) := by decide +kernel
theorem dL_refuses_659 : decode cL_refuses 659 = .ok (.if_icmp .ne 7, 3) := by decide +kernel
theorem dL_refuses_662 : decode cL_refuses 662 = .ok (.iconst 1, 1) := by decide +kernel
theorem dL_refuses_663 : decode cL_refuses 663 = .ok (.goto 4, 3) := by decide +kernel
theorem dL_refuses_666 : decode cL_refuses 666 = .ok (.iconst 0, 1) := by decide +kernel
theorem dL_refuses_667 : decode cL_refuses 667 = .ok (.istore 15, 2) := by decide +kernel
theorem dL_refuses_669 : decode cL_refuses 669 = .ok (.iload_n 3, 1) := by decide +kernel
theorem dL_refuses_670 : decode cL_refuses 670 = .ok (.ifCond .le 81, 3) := by decide +kernel
theorem dL_refuses_673 : decode cL_refuses 673 = .ok (.iload 15, 2) := by decide +kernel
theorem dL_refuses_675 : decode cL_refuses 675 = .ok (.ifCond .eq 73, 3) := by decide +kernel
theorem dL_refuses_678 : decode cL_refuses 678 = .ok (.aload_n 0, 1) := by decide +kernel
theorem dL_refuses_679 : decode cL_refuses 679 = .ok (.bipush 12, 2) := by decide +kernel
theorem dL_refuses_681 : decode cL_refuses 681 = .ok (.iconst 0, 1) := by decide +kernel
theorem dL_refuses_682 : decode cL_refuses 682 = .ok (.iload 7, 2) := by decide +kernel
theorem dL_refuses_684 : decode cL_refuses 684 = .ok (.ifCond .ne 7, 3) := by decide +kernel
theorem dL_refuses_687 : decode cL_refuses 687 = .ok (.iconst 0, 1) := by decide +kernel
theorem dL_refuses_688 : decode cL_refuses 688 = .ok (.goto 16, 3) := by decide +kernel
theorem dL_refuses_691 : decode cL_refuses 691 = .ok (.iload 7, 2) := by decide +kernel
theorem dL_refuses_693 : decode cL_refuses 693 = .ok (.iconst 1, 1) := by decide +kernel
theorem dL_refuses_694 : decode cL_refuses 694 = .ok (.if_icmp .ne 8, 3) := by decide +kernel
theorem dL_refuses_697 : decode cL_refuses 697 = .ok (.bipush 101, 2) := by decide +kernel
theorem dL_refuses_699 : decode cL_refuses 699 = .ok (.goto 5, 3) := by decide +kernel
theorem dL_refuses_702 : decode cL_refuses 702 = .ok (.iload 8, 2) := by decide +kernel
theorem dL_refuses_704 : decode cL_refuses 704 = .ok (.iconst 0, 1) := by decide +kernel
theorem dL_refuses_705 : decode cL_refuses 705 = .ok (.invokestatic 82, 3) := by decide +kernel
theorem dL_refuses_708 : decode cL_refuses 708 = .ok (.bipush (-72), 2) := by decide +kernel
theorem dL_refuses_710 : decode cL_refuses 710 = .ok (.if_icmp .ne 38, 3) := by decide +kernel
theorem dL_refuses_713 : decode cL_refuses 713 = .ok (.aload_n 0, 1) := by decide +kernel
theorem dL_refuses_714 : decode cL_refuses 714 = .ok (.bipush 14, 2) := by decide +kernel
theorem dL_refuses_716 : decode cL_refuses 716 = .ok (.iconst 0, 1) := by decide +kernel
theorem dL_refuses_717 : decode cL_refuses 717 = .ok (.iload 10, 2) := by decide +kernel
theorem dL_refuses_719 : decode cL_refuses 719 = .ok (.iconst 0, 1) := by decide +kernel
theorem dL_refuses_720 : decode cL_refuses 720 = .ok (.invokestatic 82, 3) := by decide +kernel
theorem dL_refuses_723 : decode cL_refuses 723 = .ok (.bipush (-71), 2) := by decide +kernel
theorem dL_refuses_725 : decode cL_refuses 725 = .ok (.if_icmp .ne 23, 3) := by decide +kernel
theorem dL_refuses_728 : decode cL_refuses 728 = .ok (.aload_n 0, 1) := by decide +kernel
theorem dL_refuses_729 : decode cL_refuses 729 = .ok (.iconst 0, 1) := by decide +kernel
theorem dL_refuses_730 : decode cL_refuses 730 = .ok (.iconst (-1), 1) := by decide +kernel
theorem dL_refuses_731 : decode cL_refuses 731 = .ok (.iconst 0, 1) := by decide +kernel
theorem dL_refuses_732 : decode cL_refuses 732 = .ok (.iload 10, 2) := by decide +kernel
theorem dL_refuses_734 : decode cL_refuses 734 = .ok (.iconst 0, 1) := by decide +kernel
theorem dL_refuses_735 : decode cL_refuses 735 = .ok (.iconst 1, 1) := by decide +kernel
theorem dL_refuses_736 : decode cL_refuses 736 = .ok (.invokestatic 91, 3) := by decide +kernel
theorem dL_refuses_739 : decode cL_refuses 739 = .ok (.bipush (-71), 2) := by decide +kernel
theorem dL_refuses_741 : decode cL_refuses 741 = .ok (.if_icmp .ne 7, 3) := by decide +kernel
theorem dL_refuses_744 : decode cL_refuses 744 = .ok (.iconst 1, 1) := by decide +kernel
theorem dL_refuses_745 : decode cL_refuses 745 = .ok (.goto 4, 3) := by decide +kernel
theorem dL_refuses_748 : decode cL_refuses 748 = .ok (.iconst 0, 1) := by decide +kernel
theorem dL_refuses_749 : decode cL_refuses 749 = .ok (.istore 15, 2) := by decide +kernel
theorem dL_refuses_751 : decode cL_refuses 751 = .ok (.iload_n 3, 1) := by decide +kernel
theorem dL_refuses_752 : decode cL_refuses 752 = .ok (.ifCond .le 115, 3) := by decide +kernel
theorem dL_refuses_755 : decode cL_refuses 755 = .ok (.iload_n 2, 1) := by decide +kernel
theorem dL_refuses_756 : decode cL_refuses 756 = .ok (.ifCond .le 111, 3) := by decide +kernel
theorem dL_refuses_759 : decode cL_refuses 759 = .ok (.iload 15, 2) := by decide +kernel
theorem dL_refuses_761 : decode cL_refuses 761 = .ok (.ifCond .eq 103, 3) := by decide +kernel
theorem dL_refuses_764 : decode cL_refuses 764 = .ok (.aload_n 0, 1) := by decide +kernel
theorem dL_refuses_765 : decode cL_refuses 765 = .ok (.iconst 0, 1) := by decide +kernel
theorem dL_refuses_766 : decode cL_refuses 766 = .ok (.iload 12, 2) := by decide +kernel
theorem dL_refuses_768 : decode cL_refuses 768 = .ok (.iconst 0, 1) := by decide +kernel
theorem dL_refuses_769 : decode cL_refuses 769 = .ok (.iconst 0, 1) := by decide +kernel
theorem dL_refuses_770 : decode cL_refuses 770 = .ok (.iconst 0, 1) := by decide +kernel
theorem dL_refuses_771 : decode cL_refuses 771 = .ok (.iconst 1, 1) := by decide +kernel
theorem dL_refuses_772 : decode cL_refuses 772 = .ok (.invokestatic 91, 3) := by decide +kernel
theorem dL_refuses_775 : decode cL_refuses 775 = .ok (.bipush (-72), 2) := by decide +kernel
theorem dL_refuses_777 : decode cL_refuses 777 = .ok (.if_icmp .ne 87, 3) := by decide +kernel
theorem dL_refuses_780 : decode cL_refuses 780 = .ok (.aload_n 0, 1) := by decide +kernel
theorem dL_refuses_781 : decode cL_refuses 781 = .ok (.iconst 0, 1) := by decide +kernel
theorem dL_refuses_782 : decode cL_refuses 782 = .ok (.iconst 0, 1) := by decide +kernel
theorem dL_refuses_783 : decode cL_refuses 783 = .ok (.iload 12, 2) := by decide +kernel
theorem dL_refuses_785 : decode cL_refuses 785 = .ok (.iconst 0, 1) := by decide +kernel
theorem dL_refuses_786 : decode cL_refuses 786 = .ok (.iconst 0, 1) := by decide +kernel
theorem dL_refuses_787 : decode cL_refuses 787 = .ok (.iconst 1, 1) := by decide +kernel
theorem dL_refuses_788 : decode cL_refuses 788 = .ok (.invokestatic 91, 3) := by decide +kernel
theorem dL_refuses_791 : decode cL_refuses 791 = .ok (.bipush (-72), 2) := by decide +kernel
theorem dL_refuses_793 : decode cL_refuses 793 = .ok (.if_icmp .ne 71, 3) := by decide +kernel
theorem dL_refuses_796 : decode cL_refuses 796 = .ok (.aload_n 0, 1) := by decide +kernel
theorem dL_refuses_797 : decode cL_refuses 797 = .ok (.iconst 0, 1) := by decide +kernel
theorem dL_refuses_798 : decode cL_refuses 798 = .ok (.iconst 0, 1) := by decide +kernel
theorem dL_refuses_799 : decode cL_refuses 799 = .ok (.iconst 0, 1) := by decide +kernel
theorem dL_refuses_800 : decode cL_refuses 800 = .ok (.iconst 0, 1) := by decide +kernel
theorem dL_refuses_801 : decode cL_refuses 801 = .ok (.iload 7, 2) := by decide +kernel
theorem dL_refuses_803 : decode cL_refuses 803 = .ok (.iconst 1, 1) := by decide +kernel
theorem dL_refuses_804 : decode cL_refuses 804 = .ok (.if_icmp .ne 9, 3) := by decide +kernel
theorem dL_refuses_807 : decode cL_refuses 807 = .ok (.sipush 1001, 3) := by decide +kernel
theorem dL_refuses_810 : decode cL_refuses 810 = .ok (.goto 5, 3) := by decide +kernel
theorem dL_refuses_813 : decode cL_refuses 813 = .ok (.iload 8, 2) := by decide +kernel
theorem dL_refuses_815 : decode cL_refuses 815 = .ok (.iconst 1, 1) := by decide +kernel
theorem dL_refuses_816 : decode cL_refuses 816 = .ok (.invokestatic 91, 3) := by decide +kernel
theorem dL_refuses_819 : decode cL_refuses 819 = .ok (.bipush (-72), 2) := by decide +kernel
theorem dL_refuses_821 : decode cL_refuses 821 = .ok (.if_icmp .ne 43, 3) := by decide +kernel
theorem dL_refuses_824 : decode cL_refuses 824 = .ok (.aload_n 0, 1) := by decide +kernel
theorem dL_refuses_825 : decode cL_refuses 825 = .ok (.iconst 0, 1) := by decide +kernel
theorem dL_refuses_826 : decode cL_refuses 826 = .ok (.iconst 0, 1) := by decide +kernel
theorem dL_refuses_827 : decode cL_refuses 827 = .ok (.iconst 0, 1) := by decide +kernel
theorem dL_refuses_828 : decode cL_refuses 828 = .ok (.iconst 0, 1) := by decide +kernel
theorem dL_refuses_829 : decode cL_refuses 829 = .ok (.iconst 0, 1) := by decide +kernel
theorem dL_refuses_830 : decode cL_refuses 830 = .ok (.iload 7, 2) := by decide +kernel
theorem dL_refuses_832 : decode cL_refuses 832 = .ok (.ifCond .ne 7, 3) := by decide +kernel
theorem dL_refuses_835 : decode cL_refuses 835 = .ok (.iconst 0, 1) := by decide +kernel
theorem dL_refuses_836 : decode cL_refuses 836 = .ok (.goto 16, 3) := by decide +kernel
theorem dL_refuses_839 : decode cL_refuses 839 = .ok (.iload 7, 2) := by decide +kernel
theorem dL_refuses_841 : decode cL_refuses 841 = .ok (.iconst 1, 1) := by decide +kernel
theorem dL_refuses_842 : decode cL_refuses 842 = .ok (.if_icmp .ne 8, 3) := by decide +kernel
theorem dL_refuses_845 : decode cL_refuses 845 = .ok (.bipush 61, 2) := by decide +kernel
theorem dL_refuses_847 : decode cL_refuses 847 = .ok (.goto 5, 3) := by decide +kernel
theorem dL_refuses_850 : decode cL_refuses 850 = .ok (.iload 8, 2) := by decide +kernel
theorem dL_refuses_852 : decode cL_refuses 852 = .ok (.invokestatic 91, 3) := by decide +kernel
theorem dL_refuses_855 : decode cL_refuses 855 = .ok (.bipush (-72), 2) := by decide +kernel
theorem dL_refuses_857 : decode cL_refuses 857 = .ok (.if_icmp .ne 7, 3) := by decide +kernel
theorem dL_refuses_860 : decode cL_refuses 860 = .ok (.iconst 1, 1) := by decide +kernel
theorem dL_refuses_861 : decode cL_refuses 861 = .ok (.goto 4, 3) := by decide +kernel
theorem dL_refuses_864 : decode cL_refuses 864 = .ok (.iconst 0, 1) := by decide +kernel
theorem dL_refuses_865 : decode cL_refuses 865 = .ok (.istore 15, 2) := by decide +kernel
theorem dL_refuses_867 : decode cL_refuses 867 = .ok (.iload 15, 2) := by decide +kernel
theorem dL_refuses_869 : decode cL_refuses 869 = .ok (.ifCond .ne 5, 3) := by decide +kernel
theorem dL_refuses_872 : decode cL_refuses 872 = .ok (.iconst 0, 1) := by decide +kernel
theorem dL_refuses_873 : decode cL_refuses 873 = .ok (.ireturn, 1) := by decide +kernel
theorem dL_refuses_874 : decode cL_refuses 874 = .ok (.iinc 7 1, 3) := by decide +kernel
theorem dL_refuses_877 : decode cL_refuses 877 = .ok (.goto (-858), 3) := by decide +kernel
theorem dL_refuses_880 : decode cL_refuses 880 = .ok (.aload_n 0, 1) := by decide +kernel
theorem dL_refuses_881 : decode cL_refuses 881 = .ok (.invokevirtual 75, 3) := by decide +kernel
theorem dL_refuses_884 : decode cL_refuses 884 = .ok (.iload 4, 2) := by decide +kernel
theorem dL_refuses_886 : decode cL_refuses 886 = .ok (.if_icmp .ne 16, 3) := by decide +kernel
theorem dL_refuses_889 : decode cL_refuses 889 = .ok (.aload_n 0, 1) := by decide +kernel
theorem dL_refuses_890 : decode cL_refuses 890 = .ok (.invokevirtual 78, 3) := by decide +kernel
theorem dL_refuses_893 : decode cL_refuses 893 = .ok (.iload 5, 2) := by decide +kernel
theorem dL_refuses_895 : decode cL_refuses 895 = .ok (.if_icmp .ne 7, 3) := by decide +kernel
theorem dL_refuses_898 : decode cL_refuses 898 = .ok (.iconst 1, 1) := by decide +kernel
theorem dL_refuses_899 : decode cL_refuses 899 = .ok (.goto 4, 3) := by decide +kernel
theorem dL_refuses_902 : decode cL_refuses 902 = .ok (.iconst 0, 1) := by decide +kernel
theorem dL_refuses_903 : decode cL_refuses 903 = .ok (.ireturn, 1) := by decide +kernel
theorem dL_pattern_0 : decode cL_pattern 0 = .ok (.iconst 1, 1) := by decide +kernel
theorem dL_pattern_1 : decode cL_pattern 1 = .ok (.istore_n 2, 1) := by decide +kernel
theorem dL_pattern_2 : decode cL_pattern 2 = .ok (.iconst 1, 1) := by decide +kernel
theorem dL_pattern_3 : decode cL_pattern 3 = .ok (.istore_n 3, 1) := by decide +kernel
theorem dL_pattern_4 : decode cL_pattern 4 = .ok (.iload_n 1, 1) := by decide +kernel
theorem dL_pattern_5 : decode cL_pattern 5 = .ok (.iload_n 2, 1) := by decide +kernel
theorem dL_pattern_6 : decode cL_pattern 6 = .ok (.idiv, 1) := by decide +kernel
theorem dL_pattern_7 : decode cL_pattern 7 = .ok (.bipush 9, 2) := by decide +kernel
theorem dL_pattern_9 : decode cL_pattern 9 = .ok (.if_icmp .le 11, 3) := by decide +kernel
theorem dL_pattern_12 : decode cL_pattern 12 = .ok (.iload_n 2, 1) := by decide +kernel
theorem dL_pattern_13 : decode cL_pattern 13 = .ok (.bipush 10, 2) := by decide +kernel
theorem dL_pattern_15 : decode cL_pattern 15 = .ok (.imul, 1) := by decide +kernel
theorem dL_pattern_16 : decode cL_pattern 16 = .ok (.istore_n 2, 1) := by decide +kernel
theorem dL_pattern_17 : decode cL_pattern 17 = .ok (.goto (-13), 3) := by decide +kernel
theorem dL_pattern_20 : decode cL_pattern 20 = .ok (.iload_n 2, 1) := by decide +kernel
theorem dL_pattern_21 : decode cL_pattern 21 = .ok (.istore 4, 2) := by decide +kernel
theorem dL_pattern_23 : decode cL_pattern 23 = .ok (.iload 4, 2) := by decide +kernel
theorem dL_pattern_25 : decode cL_pattern 25 = .ok (.ifCond .le 34, 3) := by decide +kernel
theorem dL_pattern_28 : decode cL_pattern 28 = .ok (.aload_n 0, 1) := by decide +kernel
theorem dL_pattern_29 : decode cL_pattern 29 = .ok (.iload_n 1, 1) := by decide +kernel
theorem dL_pattern_30 : decode cL_pattern 30 = .ok (.iload 4, 2) := by decide +kernel
theorem dL_pattern_32 : decode cL_pattern 32 = .ok (.idiv, 1) := by decide +kernel
theorem dL_pattern_33 : decode cL_pattern 33 = .ok (.bipush 10, 2) := by decide +kernel
theorem dL_pattern_35 : decode cL_pattern 35 = .ok (.irem, 1) := by decide +kernel
theorem dL_pattern_36 : decode cL_pattern 36 = .ok (.invokevirtual 7, 3) := by decide +kernel
theorem dL_pattern_39 : decode cL_pattern 39 = .ok (.iload_n 3, 1) := by decide +kernel
theorem dL_pattern_40 : decode cL_pattern 40 = .ok (.if_icmp .eq 6, 3) := by decide +kernel
theorem dL_pattern_43 : decode cL_pattern 43 = .ok (.bipush (-9), 2) := by decide +kernel
theorem dL_pattern_45 : decode cL_pattern 45 = .ok (.ireturn, 1) := by decide +kernel
theorem dL_pattern_46 : decode cL_pattern 46 = .ok (.iinc 3 1, 3) := by decide +kernel
theorem dL_pattern_49 : decode cL_pattern 49 = .ok (.iload 4, 2) := by decide +kernel
theorem dL_pattern_51 : decode cL_pattern 51 = .ok (.bipush 10, 2) := by decide +kernel
theorem dL_pattern_53 : decode cL_pattern 53 = .ok (.idiv, 1) := by decide +kernel
theorem dL_pattern_54 : decode cL_pattern 54 = .ok (.istore 4, 2) := by decide +kernel
theorem dL_pattern_56 : decode cL_pattern 56 = .ok (.goto (-33), 3) := by decide +kernel
theorem dL_pattern_59 : decode cL_pattern 59 = .ok (.aload_n 0, 1) := by decide +kernel
theorem dL_pattern_60 : decode cL_pattern 60 = .ok (.invokevirtual 13, 3) := by decide +kernel
theorem dL_pattern_63 : decode cL_pattern 63 = .ok (.ireturn, 1) := by decide +kernel
theorem dL_alike_0 : decode cL_alike 0 = .ok (.aload_n 0, 1) := by decide +kernel
theorem dL_alike_1 : decode cL_alike 1 = .ok (.iload_n 1, 1) := by decide +kernel
theorem dL_alike_2 : decode cL_alike 2 = .ok (.iload_n 2, 1) := by decide +kernel
theorem dL_alike_3 : decode cL_alike 3 = .ok (.invokevirtual 20, 3) := by decide +kernel
theorem dL_alike_6 : decode cL_alike 6 = .ok (.iload_n 3, 1) := by decide +kernel
theorem dL_alike_7 : decode cL_alike 7 = .ok (.if_icmp .ne 37, 3) := by decide +kernel
theorem dL_alike_10 : decode cL_alike 10 = .ok (.aload_n 0, 1) := by decide +kernel
theorem dL_alike_11 : decode cL_alike 11 = .ok (.iload_n 2, 1) := by decide +kernel
theorem dL_alike_12 : decode cL_alike 12 = .ok (.iload_n 1, 1) := by decide +kernel
theorem dL_alike_13 : decode cL_alike 13 = .ok (.invokevirtual 20, 3) := by decide +kernel
theorem dL_alike_16 : decode cL_alike 16 = .ok (.iload_n 3, 1) := by decide +kernel
theorem dL_alike_17 : decode cL_alike 17 = .ok (.if_icmp .ne 27, 3) := by decide +kernel
theorem dL_alike_20 : decode cL_alike 20 = .ok (.aload_n 0, 1) := by decide +kernel
theorem dL_alike_21 : decode cL_alike 21 = .ok (.iload_n 1, 1) := by decide +kernel
theorem dL_alike_22 : decode cL_alike 22 = .ok (.iload_n 2, 1) := by decide +kernel
theorem dL_alike_23 : decode cL_alike 23 = .ok (.invokevirtual 24, 3) := by decide +kernel
theorem dL_alike_26 : decode cL_alike 26 = .ok (.iload_n 3, 1) := by decide +kernel
theorem dL_alike_27 : decode cL_alike 27 = .ok (.if_icmp .ne 17, 3) := by decide +kernel
theorem dL_alike_30 : decode cL_alike 30 = .ok (.aload_n 0, 1) := by decide +kernel
theorem dL_alike_31 : decode cL_alike 31 = .ok (.iload_n 2, 1) := by decide +kernel
theorem dL_alike_32 : decode cL_alike 32 = .ok (.iload_n 1, 1) := by decide +kernel
theorem dL_alike_33 : decode cL_alike 33 = .ok (.invokevirtual 24, 3) := by decide +kernel
theorem dL_alike_36 : decode cL_alike 36 = .ok (.iload_n 3, 1) := by decide +kernel
theorem dL_alike_37 : decode cL_alike 37 = .ok (.if_icmp .ne 7, 3) := by decide +kernel
theorem dL_alike_40 : decode cL_alike 40 = .ok (.iconst 1, 1) := by decide +kernel
theorem dL_alike_41 : decode cL_alike 41 = .ok (.goto 4, 3) := by decide +kernel
theorem dL_alike_44 : decode cL_alike 44 = .ok (.iconst 0, 1) := by decide +kernel
theorem dL_alike_45 : decode cL_alike 45 = .ok (.ireturn, 1) := by decide +kernel
theorem dL_rhythms_0 : decode cL_rhythms 0 = .ok (.new 8, 3) := by decide +kernel
theorem dL_rhythms_3 : decode cL_rhythms 3 = .ok (.dup, 1) := by decide +kernel
theorem dL_rhythms_4 : decode cL_rhythms 4 = .ok (.invokespecial 95, 3) := by decide +kernel
theorem dL_rhythms_7 : decode cL_rhythms 7 = .ok (.astore_n 0, 1) := by decide +kernel
theorem dL_rhythms_8 : decode cL_rhythms 8 = .ok (.aload_n 0, 1) := by decide +kernel
theorem dL_rhythms_9 : decode cL_rhythms 9 = .ok (.iconst 0, 1) := by decide +kernel
theorem dL_rhythms_10 : decode cL_rhythms 10 = .ok (.iconst 0, 1) := by decide +kernel
theorem dL_rhythms_11 : decode cL_rhythms 11 = .ok (.iconst 0, 1) := by decide +kernel
theorem dL_rhythms_12 : decode cL_rhythms 12 = .ok (.invokestatic 96, 3) := by decide +kernel
theorem dL_rhythms_15 : decode cL_rhythms 15 = .ok (.ifCond .eq 276, 3) := by decide +kernel
theorem dL_rhythms_18 : decode cL_rhythms 18 = .ok (.aload_n 0, 1) := by decide +kernel
theorem dL_rhythms_19 : decode cL_rhythms 19 = .ok (.invokevirtual 75, 3) := by decide +kernel
theorem dL_rhythms_22 : decode cL_rhythms 22 = .ok (.ifCond .ne 269, 3) := by decide +kernel
theorem dL_rhythms_25 : decode cL_rhythms 25 = .ok (.aload_n 0, 1) := by decide +kernel
theorem dL_rhythms_26 : decode cL_rhythms 26 = .ok (.invokevirtual 78, 3) := by decide +kernel
theorem dL_rhythms_29 : decode cL_rhythms 29 = .ok (.ifCond .ne 262, 3) := by decide +kernel
theorem dL_rhythms_32 : decode cL_rhythms 32 = .ok (.aload_n 0, 1) := by decide +kernel
theorem dL_rhythms_33 : decode cL_rhythms 33 = .ok (.iconst 1, 1) := by decide +kernel
theorem dL_rhythms_34 : decode cL_rhythms 34 = .ok (.iconst 0, 1) := by decide +kernel
theorem dL_rhythms_35 : decode cL_rhythms 35 = .ok (.iconst 0, 1) := by decide +kernel
theorem dL_rhythms_36 : decode cL_rhythms 36 = .ok (.iconst 0, 1) := by decide +kernel
theorem dL_rhythms_37 : decode cL_rhythms 37 = .ok (.invokestatic 82, 3) := by decide +kernel
theorem dL_rhythms_40 : decode cL_rhythms 40 = .ok (.bipush (-73), 2) := by decide +kernel
theorem dL_rhythms_42 : decode cL_rhythms 42 = .ok (.if_icmp .ne 249, 3) := by decide +kernel
theorem dL_rhythms_45 : decode cL_rhythms 45 = .ok (.aload_n 0, 1) := by decide +kernel
theorem dL_rhythms_46 : decode cL_rhythms 46 = .ok (.iconst 2, 1) := by decide +kernel
theorem dL_rhythms_47 : decode cL_rhythms 47 = .ok (.invokevirtual 7, 3) := by decide +kernel
theorem dL_rhythms_50 : decode cL_rhythms 50 = .ok (.iconst 1, 1) := by decide +kernel
theorem dL_rhythms_51 : decode cL_rhythms 51 = .ok (.if_icmp .ne 240, 3) := by decide +kernel
theorem dL_rhythms_54 : decode cL_rhythms 54 = .ok (.aload_n 0, 1) := by decide +kernel
theorem dL_rhythms_55 : decode cL_rhythms 55 = .ok (.iconst 1, 1) := by decide +kernel
theorem dL_rhythms_56 : decode cL_rhythms 56 = .ok (.iconst 0, 1) := by decide +kernel
theorem dL_rhythms_57 : decode cL_rhythms 57 = .ok (.iconst 0, 1) := by decide +kernel
theorem dL_rhythms_58 : decode cL_rhythms 58 = .ok (.iconst 0, 1) := by decide +kernel
theorem dL_rhythms_59 : decode cL_rhythms 59 = .ok (.invokestatic 82, 3) := by decide +kernel
theorem dL_rhythms_62 : decode cL_rhythms 62 = .ok (.bipush (-73), 2) := by decide +kernel
theorem dL_rhythms_64 : decode cL_rhythms 64 = .ok (.if_icmp .ne 227, 3) := by decide +kernel
theorem dL_rhythms_67 : decode cL_rhythms 67 = .ok (.aload_n 0, 1) := by decide +kernel
theorem dL_rhythms_68 : decode cL_rhythms 68 = .ok (.iconst 3, 1) := by decide +kernel
theorem dL_rhythms_69 : decode cL_rhythms 69 = .ok (.invokevirtual 7, 3) := by decide +kernel
theorem dL_rhythms_72 : decode cL_rhythms 72 = .ok (.iconst 2, 1) := by decide +kernel
theorem dL_rhythms_73 : decode cL_rhythms 73 = .ok (.if_icmp .ne 218, 3) := by decide +kernel
theorem dL_rhythms_76 : decode cL_rhythms 76 = .ok (.aload_n 0, 1) := by decide +kernel
theorem dL_rhythms_77 : decode cL_rhythms 77 = .ok (.invokevirtual 13, 3) := by decide +kernel
theorem dL_rhythms_80 : decode cL_rhythms 80 = .ok (.ifCond .ne 211, 3) := by decide +kernel
theorem dL_rhythms_83 : decode cL_rhythms 83 = .ok (.aload_n 0, 1) := by decide +kernel
theorem dL_rhythms_84 : decode cL_rhythms 84 = .ok (.iconst 1, 1) := by decide +kernel
theorem dL_rhythms_85 : decode cL_rhythms 85 = .ok (.iconst 0, 1) := by decide +kernel
theorem dL_rhythms_86 : decode cL_rhythms 86 = .ok (.iconst 0, 1) := by decide +kernel
theorem dL_rhythms_87 : decode cL_rhythms 87 = .ok (.iconst 0, 1) := by decide +kernel
theorem dL_rhythms_88 : decode cL_rhythms 88 = .ok (.invokestatic 82, 3) := by decide +kernel
theorem dL_rhythms_91 : decode cL_rhythms 91 = .ok (.bipush (-73), 2) := by decide +kernel
theorem dL_rhythms_93 : decode cL_rhythms 93 = .ok (.if_icmp .ne 198, 3) := by decide +kernel
theorem dL_rhythms_96 : decode cL_rhythms 96 = .ok (.aload_n 0, 1) := by decide +kernel
theorem dL_rhythms_97 : decode cL_rhythms 97 = .ok (.sipush 2323, 3) := by decide +kernel
theorem dL_rhythms_100 : decode cL_rhythms 100 = .ok (.invokestatic 100, 3) := by decide +kernel
theorem dL_rhythms_103 : decode cL_rhythms 103 = .ok (.iconst 1, 1) := by decide +kernel
theorem dL_rhythms_104 : decode cL_rhythms 104 = .ok (.if_icmp .ne 187, 3) := by decide +kernel
theorem dL_rhythms_107 : decode cL_rhythms 107 = .ok (.aload_n 0, 1) := by decide +kernel
theorem dL_rhythms_108 : decode cL_rhythms 108 = .ok (.bipush 32, 2) := by decide +kernel
theorem dL_rhythms_110 : decode cL_rhythms 110 = .ok (.invokestatic 100, 3) := by decide +kernel
theorem dL_rhythms_113 : decode cL_rhythms 113 = .ok (.iconst 2, 1) := by decide +kernel
theorem dL_rhythms_114 : decode cL_rhythms 114 = .ok (.if_icmp .ne 177, 3) := by decide +kernel
theorem dL_rhythms_117 : decode cL_rhythms 117 = .ok (.aload_n 0, 1) := by decide +kernel
theorem dL_rhythms_118 : decode cL_rhythms 118 = .ok (.ldc 103, 2) := by decide +kernel
theorem dL_rhythms_120 : decode cL_rhythms 120 = .ok (.invokestatic 100, 3) := by decide +kernel
theorem dL_rhythms_123 : decode cL_rhythms 123 = .ok (.iconst 3, 1) := by decide +kernel
theorem dL_rhythms_124 : decode cL_rhythms 124 = .ok (.if_icmp .ne 167, 3) := by decide +kernel
theorem dL_rhythms_127 : decode cL_rhythms 127 = .ok (.aload_n 0, 1) := by decide +kernel
theorem dL_rhythms_128 : decode cL_rhythms 128 = .ok (.bipush 11, 2) := by decide +kernel
theorem dL_rhythms_130 : decode cL_rhythms 130 = .ok (.invokestatic 100, 3) := by decide +kernel
theorem dL_rhythms_133 : decode cL_rhythms 133 = .ok (.iconst 4, 1) := by decide +kernel
theorem dL_rhythms_134 : decode cL_rhythms 134 = .ok (.if_icmp .ne 157, 3) := by decide +kernel
theorem dL_rhythms_137 : decode cL_rhythms 137 = .ok (.aload_n 0, 1) := by decide +kernel
theorem dL_rhythms_138 : decode cL_rhythms 138 = .ok (.sipush 2311, 3) := by decide +kernel
theorem dL_rhythms_141 : decode cL_rhythms 141 = .ok (.invokestatic 100, 3) := by decide +kernel
theorem dL_rhythms_144 : decode cL_rhythms 144 = .ok (.iconst 5, 1) := by decide +kernel
theorem dL_rhythms_145 : decode cL_rhythms 145 = .ok (.if_icmp .ne 146, 3) := by decide +kernel
theorem dL_rhythms_148 : decode cL_rhythms 148 = .ok (.aload_n 0, 1) := by decide +kernel
theorem dL_rhythms_149 : decode cL_rhythms 149 = .ok (.sipush 1123, 3) := by decide +kernel
theorem dL_rhythms_152 : decode cL_rhythms 152 = .ok (.invokestatic 100, 3) := by decide +kernel
theorem dL_rhythms_155 : decode cL_rhythms 155 = .ok (.bipush 6, 2) := by decide +kernel
theorem dL_rhythms_157 : decode cL_rhythms 157 = .ok (.if_icmp .ne 134, 3) := by decide +kernel
theorem dL_rhythms_160 : decode cL_rhythms 160 = .ok (.aload_n 0, 1) := by decide +kernel
theorem dL_rhythms_161 : decode cL_rhythms 161 = .ok (.sipush 2113, 3) := by decide +kernel
theorem dL_rhythms_164 : decode cL_rhythms 164 = .ok (.invokestatic 100, 3) := by decide +kernel
theorem dL_rhythms_167 : decode cL_rhythms 167 = .ok (.bipush 7, 2) := by decide +kernel
theorem dL_rhythms_169 : decode cL_rhythms 169 = .ok (.if_icmp .ne 122, 3) := by decide +kernel
theorem dL_rhythms_172 : decode cL_rhythms 172 = .ok (.aload_n 0, 1) := by decide +kernel
theorem dL_rhythms_173 : decode cL_rhythms 173 = .ok (.ldc 104, 2) := by decide +kernel
theorem dL_rhythms_175 : decode cL_rhythms 175 = .ok (.invokestatic 100, 3) := by decide +kernel
theorem dL_rhythms_178 : decode cL_rhythms 178 = .ok (.bipush 8, 2) := by decide +kernel
theorem dL_rhythms_180 : decode cL_rhythms 180 = .ok (.if_icmp .ne 111, 3) := by decide +kernel
theorem dL_rhythms_183 : decode cL_rhythms 183 = .ok (.aload_n 0, 1) := by decide +kernel
theorem dL_rhythms_184 : decode cL_rhythms 184 = .ok (.ldc 105, 2) := by decide +kernel
theorem dL_rhythms_186 : decode cL_rhythms 186 = .ok (.invokestatic 100, 3) := by decide +kernel
theorem dL_rhythms_189 : decode cL_rhythms 189 = .ok (.bipush 9, 2) := by decide +kernel
theorem dL_rhythms_191 : decode cL_rhythms 191 = .ok (.if_icmp .ne 100, 3) := by decide +kernel
theorem dL_rhythms_194 : decode cL_rhythms 194 = .ok (.aload_n 0, 1) := by decide +kernel
theorem dL_rhythms_195 : decode cL_rhythms 195 = .ok (.ldc 106, 2) := by decide +kernel
theorem dL_rhythms_197 : decode cL_rhythms 197 = .ok (.invokestatic 100, 3) := by decide +kernel
theorem dL_rhythms_200 : decode cL_rhythms 200 = .ok (.bipush 10, 2) := by decide +kernel
theorem dL_rhythms_202 : decode cL_rhythms 202 = .ok (.if_icmp .ne 89, 3) := by decide +kernel
theorem dL_rhythms_205 : decode cL_rhythms 205 = .ok (.aload_n 0, 1) := by decide +kernel
theorem dL_rhythms_206 : decode cL_rhythms 206 = .ok (.ldc 107, 2) := by decide +kernel
theorem dL_rhythms_208 : decode cL_rhythms 208 = .ok (.invokestatic 100, 3) := by decide +kernel
theorem dL_rhythms_211 : decode cL_rhythms 211 = .ok (.bipush 11, 2) := by decide +kernel
theorem dL_rhythms_213 : decode cL_rhythms 213 = .ok (.if_icmp .ne 78, 3) := by decide +kernel
theorem dL_rhythms_216 : decode cL_rhythms 216 = .ok (.aload_n 0, 1) := by decide +kernel
theorem dL_rhythms_217 : decode cL_rhythms 217 = .ok (.ldc 108, 2) := by decide +kernel
theorem dL_rhythms_219 : decode cL_rhythms 219 = .ok (.invokestatic 100, 3) := by decide +kernel
theorem dL_rhythms_222 : decode cL_rhythms 222 = .ok (.bipush 12, 2) := by decide +kernel
theorem dL_rhythms_224 : decode cL_rhythms 224 = .ok (.if_icmp .ne 67, 3) := by decide +kernel
theorem dL_rhythms_227 : decode cL_rhythms 227 = .ok (.aload_n 0, 1) := by decide +kernel
theorem dL_rhythms_228 : decode cL_rhythms 228 = .ok (.sipush 1111, 3) := by decide +kernel
theorem dL_rhythms_231 : decode cL_rhythms 231 = .ok (.invokestatic 100, 3) := by decide +kernel
theorem dL_rhythms_234 : decode cL_rhythms 234 = .ok (.bipush 13, 2) := by decide +kernel
theorem dL_rhythms_236 : decode cL_rhythms 236 = .ok (.if_icmp .ne 55, 3) := by decide +kernel
theorem dL_rhythms_239 : decode cL_rhythms 239 = .ok (.aload_n 0, 1) := by decide +kernel
theorem dL_rhythms_240 : decode cL_rhythms 240 = .ok (.iconst 0, 1) := by decide +kernel
theorem dL_rhythms_241 : decode cL_rhythms 241 = .ok (.invokevirtual 17, 3) := by decide +kernel
theorem dL_rhythms_244 : decode cL_rhythms 244 = .ok (.iconst 5, 1) := by decide +kernel
theorem dL_rhythms_245 : decode cL_rhythms 245 = .ok (.if_icmp .ne 46, 3) := by decide +kernel
theorem dL_rhythms_248 : decode cL_rhythms 248 = .ok (.aload_n 0, 1) := by decide +kernel
theorem dL_rhythms_249 : decode cL_rhythms 249 = .ok (.iconst 1, 1) := by decide +kernel
theorem dL_rhythms_250 : decode cL_rhythms 250 = .ok (.invokevirtual 17, 3) := by decide +kernel
theorem dL_rhythms_253 : decode cL_rhythms 253 = .ok (.bipush 10, 2) := by decide +kernel
theorem dL_rhythms_255 : decode cL_rhythms 255 = .ok (.if_icmp .ne 36, 3) := by decide +kernel
theorem dL_rhythms_258 : decode cL_rhythms 258 = .ok (.aload_n 0, 1) := by decide +kernel
theorem dL_rhythms_259 : decode cL_rhythms 259 = .ok (.bipush 8, 2) := by decide +kernel
theorem dL_rhythms_261 : decode cL_rhythms 261 = .ok (.invokevirtual 17, 3) := by decide +kernel
theorem dL_rhythms_264 : decode cL_rhythms 264 = .ok (.bipush 21, 2) := by decide +kernel
theorem dL_rhythms_266 : decode cL_rhythms 266 = .ok (.if_icmp .ne 25, 3) := by decide +kernel
theorem dL_rhythms_269 : decode cL_rhythms 269 = .ok (.aload_n 0, 1) := by decide +kernel
theorem dL_rhythms_270 : decode cL_rhythms 270 = .ok (.bipush 11, 2) := by decide +kernel
theorem dL_rhythms_272 : decode cL_rhythms 272 = .ok (.invokevirtual 17, 3) := by decide +kernel
theorem dL_rhythms_275 : decode cL_rhythms 275 = .ok (.bipush 46, 2) := by decide +kernel
theorem dL_rhythms_277 : decode cL_rhythms 277 = .ok (.if_icmp .ne 14, 3) := by decide +kernel
theorem dL_rhythms_280 : decode cL_rhythms 280 = .ok (.aload_n 0, 1) := by decide +kernel
theorem dL_rhythms_281 : decode cL_rhythms 281 = .ok (.bipush 12, 2) := by decide +kernel
theorem dL_rhythms_283 : decode cL_rhythms 283 = .ok (.invokevirtual 17, 3) := by decide +kernel
theorem dL_rhythms_286 : decode cL_rhythms 286 = .ok (.bipush 15, 2) := by decide +kernel
theorem dL_rhythms_288 : decode cL_rhythms 288 = .ok (.if_icmp .eq 5, 3) := by decide +kernel
theorem dL_rhythms_291 : decode cL_rhythms 291 = .ok (.iconst 0, 1) := by decide +kernel
theorem dL_rhythms_292 : decode cL_rhythms 292 = .ok (.ireturn, 1) := by decide +kernel
theorem dL_rhythms_293 : decode cL_rhythms 293 = .ok (.aload_n 0, 1) := by decide +kernel
theorem dL_rhythms_294 : decode cL_rhythms 294 = .ok (.iconst 0, 1) := by decide +kernel
theorem dL_rhythms_295 : decode cL_rhythms 295 = .ok (.iconst 1, 1) := by decide +kernel
theorem dL_rhythms_296 : decode cL_rhythms 296 = .ok (.iconst 1, 1) := by decide +kernel
theorem dL_rhythms_297 : decode cL_rhythms 297 = .ok (.invokestatic 109, 3) := by decide +kernel
theorem dL_rhythms_300 : decode cL_rhythms 300 = .ok (.ifCond .eq 146, 3) := by decide +kernel
theorem dL_rhythms_303 : decode cL_rhythms 303 = .ok (.aload_n 0, 1) := by decide +kernel
theorem dL_rhythms_304 : decode cL_rhythms 304 = .ok (.iconst 0, 1) := by decide +kernel
theorem dL_rhythms_305 : decode cL_rhythms 305 = .ok (.bipush 12, 2) := by decide +kernel
theorem dL_rhythms_307 : decode cL_rhythms 307 = .ok (.iconst 1, 1) := by decide +kernel
theorem dL_rhythms_308 : decode cL_rhythms 308 = .ok (.invokestatic 109, 3) := by decide +kernel
theorem dL_rhythms_311 : decode cL_rhythms 311 = .ok (.ifCond .eq 135, 3) := by decide +kernel
theorem dL_rhythms_314 : decode cL_rhythms 314 = .ok (.aload_n 0, 1) := by decide +kernel
theorem dL_rhythms_315 : decode cL_rhythms 315 = .ok (.iconst 1, 1) := by decide +kernel
theorem dL_rhythms_316 : decode cL_rhythms 316 = .ok (.bipush 12, 2) := by decide +kernel
theorem dL_rhythms_318 : decode cL_rhythms 318 = .ok (.iconst 1, 1) := by decide +kernel
theorem dL_rhythms_319 : decode cL_rhythms 319 = .ok (.invokestatic 109, 3) := by decide +kernel
theorem dL_rhythms_322 : decode cL_rhythms 322 = .ok (.ifCond .eq 124, 3) := by decide +kernel
theorem dL_rhythms_325 : decode cL_rhythms 325 = .ok (.aload_n 0, 1) := by decide +kernel
theorem dL_rhythms_326 : decode cL_rhythms 326 = .ok (.iconst 0, 1) := by decide +kernel
theorem dL_rhythms_327 : decode cL_rhythms 327 = .ok (.iconst 2, 1) := by decide +kernel
theorem dL_rhythms_328 : decode cL_rhythms 328 = .ok (.iconst 0, 1) := by decide +kernel
theorem dL_rhythms_329 : decode cL_rhythms 329 = .ok (.invokestatic 109, 3) := by decide +kernel
theorem dL_rhythms_332 : decode cL_rhythms 332 = .ok (.ifCond .eq 114, 3) := by decide +kernel
theorem dL_rhythms_335 : decode cL_rhythms 335 = .ok (.aload_n 0, 1) := by decide +kernel
theorem dL_rhythms_336 : decode cL_rhythms 336 = .ok (.iconst 1, 1) := by decide +kernel
theorem dL_rhythms_337 : decode cL_rhythms 337 = .ok (.iconst 2, 1) := by decide +kernel
theorem dL_rhythms_338 : decode cL_rhythms 338 = .ok (.iconst 0, 1) := by decide +kernel
theorem dL_rhythms_339 : decode cL_rhythms 339 = .ok (.invokestatic 109, 3) := by decide +kernel
theorem dL_rhythms_342 : decode cL_rhythms 342 = .ok (.ifCond .eq 104, 3) := by decide +kernel
theorem dL_rhythms_345 : decode cL_rhythms 345 = .ok (.aload_n 0, 1) := by decide +kernel
theorem dL_rhythms_346 : decode cL_rhythms 346 = .ok (.iconst 3, 1) := by decide +kernel
theorem dL_rhythms_347 : decode cL_rhythms 347 = .ok (.iconst 4, 1) := by decide +kernel
theorem dL_rhythms_348 : decode cL_rhythms 348 = .ok (.iconst 1, 1) := by decide +kernel
theorem dL_rhythms_349 : decode cL_rhythms 349 = .ok (.invokestatic 109, 3) := by decide +kernel
theorem dL_rhythms_352 : decode cL_rhythms 352 = .ok (.ifCond .eq 94, 3) := by decide +kernel
theorem dL_rhythms_355 : decode cL_rhythms 355 = .ok (.aload_n 0, 1) := by decide +kernel
theorem dL_rhythms_356 : decode cL_rhythms 356 = .ok (.iconst 3, 1) := by decide +kernel
theorem dL_rhythms_357 : decode cL_rhythms 357 = .ok (.bipush 13, 2) := by decide +kernel
theorem dL_rhythms_359 : decode cL_rhythms 359 = .ok (.iconst 1, 1) := by decide +kernel
theorem dL_rhythms_360 : decode cL_rhythms 360 = .ok (.invokestatic 109, 3) := by decide +kernel
theorem dL_rhythms_363 : decode cL_rhythms 363 = .ok (.ifCond .eq 83, 3) := by decide +kernel
theorem dL_rhythms_366 : decode cL_rhythms 366 = .ok (.aload_n 0, 1) := by decide +kernel
theorem dL_rhythms_367 : decode cL_rhythms 367 = .ok (.iconst 5, 1) := by decide +kernel
theorem dL_rhythms_368 : decode cL_rhythms 368 = .ok (.bipush 6, 2) := by decide +kernel
theorem dL_rhythms_370 : decode cL_rhythms 370 = .ok (.iconst 1, 1) := by decide +kernel
theorem dL_rhythms_371 : decode cL_rhythms 371 = .ok (.invokestatic 109, 3) := by decide +kernel
theorem dL_rhythms_374 : decode cL_rhythms 374 = .ok (.ifCond .eq 72, 3) := by decide +kernel
theorem dL_rhythms_377 : decode cL_rhythms 377 = .ok (.aload_n 0, 1) := by decide +kernel
theorem dL_rhythms_378 : decode cL_rhythms 378 = .ok (.iconst 5, 1) := by decide +kernel
theorem dL_rhythms_379 : decode cL_rhythms 379 = .ok (.bipush 7, 2) := by decide +kernel
theorem dL_rhythms_381 : decode cL_rhythms 381 = .ok (.iconst 0, 1) := by decide +kernel
theorem dL_rhythms_382 : decode cL_rhythms 382 = .ok (.invokestatic 109, 3) := by decide +kernel
theorem dL_rhythms_385 : decode cL_rhythms 385 = .ok (.ifCond .eq 61, 3) := by decide +kernel
theorem dL_rhythms_388 : decode cL_rhythms 388 = .ok (.aload_n 0, 1) := by decide +kernel
theorem dL_rhythms_389 : decode cL_rhythms 389 = .ok (.bipush 8, 2) := by decide +kernel
theorem dL_rhythms_391 : decode cL_rhythms 391 = .ok (.bipush 9, 2) := by decide +kernel
theorem dL_rhythms_393 : decode cL_rhythms 393 = .ok (.iconst 1, 1) := by decide +kernel
theorem dL_rhythms_394 : decode cL_rhythms 394 = .ok (.invokestatic 109, 3) := by decide +kernel
theorem dL_rhythms_397 : decode cL_rhythms 397 = .ok (.ifCond .eq 49, 3) := by decide +kernel
theorem dL_rhythms_400 : decode cL_rhythms 400 = .ok (.aload_n 0, 1) := by decide +kernel
theorem dL_rhythms_401 : decode cL_rhythms 401 = .ok (.bipush 8, 2) := by decide +kernel
theorem dL_rhythms_403 : decode cL_rhythms 403 = .ok (.bipush 10, 2) := by decide +kernel
theorem dL_rhythms_405 : decode cL_rhythms 405 = .ok (.iconst 0, 1) := by decide +kernel
theorem dL_rhythms_406 : decode cL_rhythms 406 = .ok (.invokestatic 109, 3) := by decide +kernel
theorem dL_rhythms_409 : decode cL_rhythms 409 = .ok (.ifCond .eq 37, 3) := by decide +kernel
theorem dL_rhythms_412 : decode cL_rhythms 412 = .ok (.aload_n 0, 1) := by decide +kernel
theorem dL_rhythms_413 : decode cL_rhythms 413 = .ok (.bipush 9, 2) := by decide +kernel
theorem dL_rhythms_415 : decode cL_rhythms 415 = .ok (.bipush 10, 2) := by decide +kernel
theorem dL_rhythms_417 : decode cL_rhythms 417 = .ok (.iconst 0, 1) := by decide +kernel
theorem dL_rhythms_418 : decode cL_rhythms 418 = .ok (.invokestatic 109, 3) := by decide +kernel
theorem dL_rhythms_421 : decode cL_rhythms 421 = .ok (.ifCond .eq 25, 3) := by decide +kernel
theorem dL_rhythms_424 : decode cL_rhythms 424 = .ok (.aload_n 0, 1) := by decide +kernel
theorem dL_rhythms_425 : decode cL_rhythms 425 = .ok (.bipush 11, 2) := by decide +kernel
theorem dL_rhythms_427 : decode cL_rhythms 427 = .ok (.bipush 11, 2) := by decide +kernel
theorem dL_rhythms_429 : decode cL_rhythms 429 = .ok (.iconst 1, 1) := by decide +kernel
theorem dL_rhythms_430 : decode cL_rhythms 430 = .ok (.invokestatic 109, 3) := by decide +kernel
theorem dL_rhythms_433 : decode cL_rhythms 433 = .ok (.ifCond .eq 13, 3) := by decide +kernel
theorem dL_rhythms_436 : decode cL_rhythms 436 = .ok (.aload_n 0, 1) := by decide +kernel
theorem dL_rhythms_437 : decode cL_rhythms 437 = .ok (.iconst 0, 1) := by decide +kernel
theorem dL_rhythms_438 : decode cL_rhythms 438 = .ok (.iconst 5, 1) := by decide +kernel
theorem dL_rhythms_439 : decode cL_rhythms 439 = .ok (.iconst 0, 1) := by decide +kernel
theorem dL_rhythms_440 : decode cL_rhythms 440 = .ok (.invokestatic 109, 3) := by decide +kernel
theorem dL_rhythms_443 : decode cL_rhythms 443 = .ok (.ifCond .ne 5, 3) := by decide +kernel
theorem dL_rhythms_446 : decode cL_rhythms 446 = .ok (.iconst 0, 1) := by decide +kernel
theorem dL_rhythms_447 : decode cL_rhythms 447 = .ok (.ireturn, 1) := by decide +kernel
theorem dL_rhythms_448 : decode cL_rhythms 448 = .ok (.iconst 1, 1) := by decide +kernel
theorem dL_rhythms_449 : decode cL_rhythms 449 = .ok (.istore_n 1, 1) := by decide +kernel
theorem dL_rhythms_450 : decode cL_rhythms 450 = .ok (.iload_n 1, 1) := by decide +kernel
theorem dL_rhythms_451 : decode cL_rhythms 451 = .ok (.bipush 8, 2) := by decide +kernel
theorem dL_rhythms_453 : decode cL_rhythms 453 = .ok (.if_icmp .ge 39, 3) := by decide +kernel
theorem dL_rhythms_456 : decode cL_rhythms 456 = .ok (.aload_n 0, 1) := by decide +kernel
theorem dL_rhythms_457 : decode cL_rhythms 457 = .ok (.iconst 0, 1) := by decide +kernel
theorem dL_rhythms_458 : decode cL_rhythms 458 = .ok (.iload_n 1, 1) := by decide +kernel
theorem dL_rhythms_459 : decode cL_rhythms 459 = .ok (.bipush 9, 2) := by decide +kernel
theorem dL_rhythms_461 : decode cL_rhythms 461 = .ok (.irem, 1) := by decide +kernel
theorem dL_rhythms_462 : decode cL_rhythms 462 = .ok (.iconst 1, 1) := by decide +kernel
theorem dL_rhythms_463 : decode cL_rhythms 463 = .ok (.iadd, 1) := by decide +kernel
theorem dL_rhythms_464 : decode cL_rhythms 464 = .ok (.iconst 0, 1) := by decide +kernel
theorem dL_rhythms_465 : decode cL_rhythms 465 = .ok (.iconst 0, 1) := by decide +kernel
theorem dL_rhythms_466 : decode cL_rhythms 466 = .ok (.invokestatic 82, 3) := by decide +kernel
theorem dL_rhythms_469 : decode cL_rhythms 469 = .ok (.iload_n 1, 1) := by decide +kernel
theorem dL_rhythms_470 : decode cL_rhythms 470 = .ok (.bipush 7, 2) := by decide +kernel
theorem dL_rhythms_472 : decode cL_rhythms 472 = .ok (.if_icmp .ge 7, 3) := by decide +kernel
theorem dL_rhythms_475 : decode cL_rhythms 475 = .ok (.iload_n 1, 1) := by decide +kernel
theorem dL_rhythms_476 : decode cL_rhythms 476 = .ok (.goto 5, 3) := by decide +kernel
theorem dL_rhythms_479 : decode cL_rhythms 479 = .ok (.bipush (-73), 2) := by decide +kernel
theorem dL_rhythms_481 : decode cL_rhythms 481 = .ok (.if_icmp .eq 5, 3) := by decide +kernel
theorem dL_rhythms_484 : decode cL_rhythms 484 = .ok (.iconst 0, 1) := by decide +kernel
theorem dL_rhythms_485 : decode cL_rhythms 485 = .ok (.ireturn, 1) := by decide +kernel
theorem dL_rhythms_486 : decode cL_rhythms 486 = .ok (.iinc 1 1, 3) := by decide +kernel
theorem dL_rhythms_489 : decode cL_rhythms 489 = .ok (.goto (-39), 3) := by decide +kernel
theorem dL_rhythms_492 : decode cL_rhythms 492 = .ok (.aload_n 0, 1) := by decide +kernel
theorem dL_rhythms_493 : decode cL_rhythms 493 = .ok (.invokevirtual 13, 3) := by decide +kernel
theorem dL_rhythms_496 : decode cL_rhythms 496 = .ok (.bipush 14, 2) := by decide +kernel
theorem dL_rhythms_498 : decode cL_rhythms 498 = .ok (.if_icmp .ne 72, 3) := by decide +kernel
theorem dL_rhythms_501 : decode cL_rhythms 501 = .ok (.aload_n 0, 1) := by decide +kernel
theorem dL_rhythms_502 : decode cL_rhythms 502 = .ok (.bipush 14, 2) := by decide +kernel
theorem dL_rhythms_504 : decode cL_rhythms 504 = .ok (.invokevirtual 17, 3) := by decide +kernel
theorem dL_rhythms_507 : decode cL_rhythms 507 = .ok (.bipush 27, 2) := by decide +kernel
theorem dL_rhythms_509 : decode cL_rhythms 509 = .ok (.if_icmp .ne 61, 3) := by decide +kernel
theorem dL_rhythms_512 : decode cL_rhythms 512 = .ok (.aload_n 0, 1) := by decide +kernel
theorem dL_rhythms_513 : decode cL_rhythms 513 = .ok (.iconst 1, 1) := by decide +kernel
theorem dL_rhythms_514 : decode cL_rhythms 514 = .ok (.invokevirtual 7, 3) := by decide +kernel
theorem dL_rhythms_517 : decode cL_rhythms 517 = .ok (.iconst 1, 1) := by decide +kernel
theorem dL_rhythms_518 : decode cL_rhythms 518 = .ok (.if_icmp .ne 52, 3) := by decide +kernel
theorem dL_rhythms_521 : decode cL_rhythms 521 = .ok (.aload_n 0, 1) := by decide +kernel
theorem dL_rhythms_522 : decode cL_rhythms 522 = .ok (.iconst 1, 1) := by decide +kernel
theorem dL_rhythms_523 : decode cL_rhythms 523 = .ok (.invokevirtual 7, 3) := by decide +kernel
theorem dL_rhythms_526 : decode cL_rhythms 526 = .ok (.iconst 2, 1) := by decide +kernel
theorem dL_rhythms_527 : decode cL_rhythms 527 = .ok (.if_icmp .ne 43, 3) := by decide +kernel
theorem dL_rhythms_530 : decode cL_rhythms 530 = .ok (.aload_n 0, 1) := by decide +kernel
theorem dL_rhythms_531 : decode cL_rhythms 531 = .ok (.iconst 1, 1) := by decide +kernel
theorem dL_rhythms_532 : decode cL_rhythms 532 = .ok (.invokevirtual 7, 3) := by decide +kernel
theorem dL_rhythms_535 : decode cL_rhythms 535 = .ok (.iconst 3, 1) := by decide +kernel
theorem dL_rhythms_536 : decode cL_rhythms 536 = .ok (.if_icmp .ne 34, 3) := by decide +kernel
theorem dL_rhythms_539 : decode cL_rhythms 539 = .ok (.aload_n 0, 1) := by decide +kernel
theorem dL_rhythms_540 : decode cL_rhythms 540 = .ok (.iconst 1, 1) := by decide +kernel
theorem dL_rhythms_541 : decode cL_rhythms 541 = .ok (.iconst 0, 1) := by decide +kernel
theorem dL_rhythms_542 : decode cL_rhythms 542 = .ok (.iconst 0, 1) := by decide +kernel
theorem dL_rhythms_543 : decode cL_rhythms 543 = .ok (.iconst 0, 1) := by decide +kernel
theorem dL_rhythms_544 : decode cL_rhythms 544 = .ok (.invokestatic 82, 3) := by decide +kernel
theorem dL_rhythms_547 : decode cL_rhythms 547 = .ok (.bipush (-73), 2) := by decide +kernel
theorem dL_rhythms_549 : decode cL_rhythms 549 = .ok (.if_icmp .ne 21, 3) := by decide +kernel
theorem dL_rhythms_552 : decode cL_rhythms 552 = .ok (.aload_n 0, 1) := by decide +kernel
theorem dL_rhythms_553 : decode cL_rhythms 553 = .ok (.iconst 1, 1) := by decide +kernel
theorem dL_rhythms_554 : decode cL_rhythms 554 = .ok (.invokevirtual 7, 3) := by decide +kernel
theorem dL_rhythms_557 : decode cL_rhythms 557 = .ok (.iconst 4, 1) := by decide +kernel
theorem dL_rhythms_558 : decode cL_rhythms 558 = .ok (.if_icmp .ne 12, 3) := by decide +kernel
theorem dL_rhythms_561 : decode cL_rhythms 561 = .ok (.aload_n 0, 1) := by decide +kernel
theorem dL_rhythms_562 : decode cL_rhythms 562 = .ok (.invokevirtual 13, 3) := by decide +kernel
theorem dL_rhythms_565 : decode cL_rhythms 565 = .ok (.bipush 15, 2) := by decide +kernel
theorem dL_rhythms_567 : decode cL_rhythms 567 = .ok (.if_icmp .eq 5, 3) := by decide +kernel
theorem dL_rhythms_570 : decode cL_rhythms 570 = .ok (.iconst 0, 1) := by decide +kernel
theorem dL_rhythms_571 : decode cL_rhythms 571 = .ok (.ireturn, 1) := by decide +kernel
theorem dL_rhythms_572 : decode cL_rhythms 572 = .ok (.bipush 16, 2) := by decide +kernel
theorem dL_rhythms_574 : decode cL_rhythms 574 = .ok (.istore_n 1, 1) := by decide +kernel
theorem dL_rhythms_575 : decode cL_rhythms 575 = .ok (.iload_n 1, 1) := by decide +kernel
theorem dL_rhythms_576 : decode cL_rhythms 576 = .ok (.bipush 20, 2) := by decide +kernel
theorem dL_rhythms_578 : decode cL_rhythms 578 = .ok (.if_icmp .ge 21, 3) := by decide +kernel
theorem dL_rhythms_581 : decode cL_rhythms 581 = .ok (.aload_n 0, 1) := by decide +kernel
theorem dL_rhythms_582 : decode cL_rhythms 582 = .ok (.bipush 99, 2) := by decide +kernel
theorem dL_rhythms_584 : decode cL_rhythms 584 = .ok (.invokestatic 100, 3) := by decide +kernel
theorem dL_rhythms_587 : decode cL_rhythms 587 = .ok (.iload_n 1, 1) := by decide +kernel
theorem dL_rhythms_588 : decode cL_rhythms 588 = .ok (.if_icmp .eq 5, 3) := by decide +kernel
theorem dL_rhythms_591 : decode cL_rhythms 591 = .ok (.iconst 0, 1) := by decide +kernel
theorem dL_rhythms_592 : decode cL_rhythms 592 = .ok (.ireturn, 1) := by decide +kernel
theorem dL_rhythms_593 : decode cL_rhythms 593 = .ok (.iinc 1 1, 3) := by decide +kernel
theorem dL_rhythms_596 : decode cL_rhythms 596 = .ok (.goto (-21), 3) := by decide +kernel
theorem dL_rhythms_599 : decode cL_rhythms 599 = .ok (.aload_n 0, 1) := by decide +kernel
theorem dL_rhythms_600 : decode cL_rhythms 600 = .ok (.iconst 4, 1) := by decide +kernel
theorem dL_rhythms_601 : decode cL_rhythms 601 = .ok (.invokevirtual 7, 3) := by decide +kernel
theorem dL_rhythms_604 : decode cL_rhythms 604 = .ok (.iconst 1, 1) := by decide +kernel
theorem dL_rhythms_605 : decode cL_rhythms 605 = .ok (.if_icmp .ne 60, 3) := by decide +kernel
theorem dL_rhythms_608 : decode cL_rhythms 608 = .ok (.aload_n 0, 1) := by decide +kernel
theorem dL_rhythms_609 : decode cL_rhythms 609 = .ok (.iconst 4, 1) := by decide +kernel
theorem dL_rhythms_610 : decode cL_rhythms 610 = .ok (.invokevirtual 7, 3) := by decide +kernel
theorem dL_rhythms_613 : decode cL_rhythms 613 = .ok (.iconst 2, 1) := by decide +kernel
theorem dL_rhythms_614 : decode cL_rhythms 614 = .ok (.if_icmp .ne 51, 3) := by decide +kernel
theorem dL_rhythms_617 : decode cL_rhythms 617 = .ok (.aload_n 0, 1) := by decide +kernel
theorem dL_rhythms_618 : decode cL_rhythms 618 = .ok (.iconst 1, 1) := by decide +kernel
theorem dL_rhythms_619 : decode cL_rhythms 619 = .ok (.iconst 0, 1) := by decide +kernel
theorem dL_rhythms_620 : decode cL_rhythms 620 = .ok (.iconst 0, 1) := by decide +kernel
theorem dL_rhythms_621 : decode cL_rhythms 621 = .ok (.iconst 0, 1) := by decide +kernel
theorem dL_rhythms_622 : decode cL_rhythms 622 = .ok (.invokestatic 82, 3) := by decide +kernel
theorem dL_rhythms_625 : decode cL_rhythms 625 = .ok (.bipush (-73), 2) := by decide +kernel
theorem dL_rhythms_627 : decode cL_rhythms 627 = .ok (.if_icmp .ne 38, 3) := by decide +kernel
theorem dL_rhythms_630 : decode cL_rhythms 630 = .ok (.aload_n 0, 1) := by decide +kernel
theorem dL_rhythms_631 : decode cL_rhythms 631 = .ok (.iconst 4, 1) := by decide +kernel
theorem dL_rhythms_632 : decode cL_rhythms 632 = .ok (.invokevirtual 7, 3) := by decide +kernel
theorem dL_rhythms_635 : decode cL_rhythms 635 = .ok (.iconst 3, 1) := by decide +kernel
theorem dL_rhythms_636 : decode cL_rhythms 636 = .ok (.if_icmp .ne 29, 3) := by decide +kernel
theorem dL_rhythms_639 : decode cL_rhythms 639 = .ok (.aload_n 0, 1) := by decide +kernel
theorem dL_rhythms_640 : decode cL_rhythms 640 = .ok (.bipush 19, 2) := by decide +kernel
theorem dL_rhythms_642 : decode cL_rhythms 642 = .ok (.invokevirtual 17, 3) := by decide +kernel
theorem dL_rhythms_645 : decode cL_rhythms 645 = .ok (.bipush 18, 2) := by decide +kernel
theorem dL_rhythms_647 : decode cL_rhythms 647 = .ok (.if_icmp .ne 18, 3) := by decide +kernel
theorem dL_rhythms_650 : decode cL_rhythms 650 = .ok (.aload_n 0, 1) := by decide +kernel
theorem dL_rhythms_651 : decode cL_rhythms 651 = .ok (.bipush 20, 2) := by decide +kernel
theorem dL_rhythms_653 : decode cL_rhythms 653 = .ok (.iconst 0, 1) := by decide +kernel
theorem dL_rhythms_654 : decode cL_rhythms 654 = .ok (.iconst 0, 1) := by decide +kernel
theorem dL_rhythms_655 : decode cL_rhythms 655 = .ok (.invokestatic 96, 3) := by decide +kernel
theorem dL_rhythms_658 : decode cL_rhythms 658 = .ok (.ifCond .eq 7, 3) := by decide +kernel
theorem dL_rhythms_661 : decode cL_rhythms 661 = .ok (.iconst 1, 1) := by decide +kernel
theorem dL_rhythms_662 : decode cL_rhythms 662 = .ok (.goto 4, 3) := by decide +kernel
theorem dL_rhythms_665 : decode cL_rhythms 665 = .ok (.iconst 0, 1) := by decide +kernel
theorem dL_rhythms_666 : decode cL_rhythms 666 = .ok (.ireturn, 1) := by decide +kernel
theorem dL_sector_0 : decode cL_sector 0 = .ok (.aload_n 0, 1) := by decide +kernel
theorem dL_sector_1 : decode cL_sector 1 = .ok (.iconst 0, 1) := by decide +kernel
theorem dL_sector_2 : decode cL_sector 2 = .ok (.bipush 10, 2) := by decide +kernel
theorem dL_sector_4 : decode cL_sector 4 = .ok (.iload_n 1, 1) := by decide +kernel
theorem dL_sector_5 : decode cL_sector 5 = .ok (.iadd, 1) := by decide +kernel
theorem dL_sector_6 : decode cL_sector 6 = .ok (.bipush 10, 2) := by decide +kernel
theorem dL_sector_8 : decode cL_sector 8 = .ok (.iload_n 2, 1) := by decide +kernel
theorem dL_sector_9 : decode cL_sector 9 = .ok (.iadd, 1) := by decide +kernel
theorem dL_sector_10 : decode cL_sector 10 = .ok (.invokevirtual 38, 3) := by decide +kernel
theorem dL_sector_13 : decode cL_sector 13 = .ok (.iload_n 3, 1) := by decide +kernel
theorem dL_sector_14 : decode cL_sector 14 = .ok (.if_icmp .ne 7, 3) := by decide +kernel
theorem dL_sector_17 : decode cL_sector 17 = .ok (.iconst 1, 1) := by decide +kernel
theorem dL_sector_18 : decode cL_sector 18 = .ok (.goto 4, 3) := by decide +kernel
theorem dL_sector_21 : decode cL_sector 21 = .ok (.iconst 0, 1) := by decide +kernel
theorem dL_sector_22 : decode cL_sector 22 = .ok (.ireturn, 1) := by decide +kernel
theorem dL_shines_0 : decode cL_shines 0 = .ok (.iconst 0, 1) := by decide +kernel
theorem dL_shines_1 : decode cL_shines 1 = .ok (.istore 5, 2) := by decide +kernel
theorem dL_shines_3 : decode cL_shines 3 = .ok (.iload 5, 2) := by decide +kernel
theorem dL_shines_5 : decode cL_shines 5 = .ok (.iload_n 3, 1) := by decide +kernel
theorem dL_shines_6 : decode cL_shines 6 = .ok (.if_icmp .ge 39, 3) := by decide +kernel
theorem dL_shines_9 : decode cL_shines 9 = .ok (.aload_n 0, 1) := by decide +kernel
theorem dL_shines_10 : decode cL_shines 10 = .ok (.iload_n 1, 1) := by decide +kernel
theorem dL_shines_11 : decode cL_shines 11 = .ok (.iload_n 2, 1) := by decide +kernel
theorem dL_shines_12 : decode cL_shines 12 = .ok (.iload 5, 2) := by decide +kernel
theorem dL_shines_14 : decode cL_shines 14 = .ok (.iadd, 1) := by decide +kernel
theorem dL_shines_15 : decode cL_shines 15 = .ok (.invokevirtual 35, 3) := by decide +kernel
theorem dL_shines_18 : decode cL_shines 18 = .ok (.iload 4, 2) := by decide +kernel
theorem dL_shines_20 : decode cL_shines 20 = .ok (.iload 5, 2) := by decide +kernel
theorem dL_shines_22 : decode cL_shines 22 = .ok (.ishr, 1) := by decide +kernel
theorem dL_shines_23 : decode cL_shines 23 = .ok (.iconst 1, 1) := by decide +kernel
theorem dL_shines_24 : decode cL_shines 24 = .ok (.iand, 1) := by decide +kernel
theorem dL_shines_25 : decode cL_shines 25 = .ok (.iconst 1, 1) := by decide +kernel
theorem dL_shines_26 : decode cL_shines 26 = .ok (.if_icmp .ne 7, 3) := by decide +kernel
theorem dL_shines_29 : decode cL_shines 29 = .ok (.iconst 1, 1) := by decide +kernel
theorem dL_shines_30 : decode cL_shines 30 = .ok (.goto 4, 3) := by decide +kernel
theorem dL_shines_33 : decode cL_shines 33 = .ok (.iconst 0, 1) := by decide +kernel
theorem dL_shines_34 : decode cL_shines 34 = .ok (.if_icmp .eq 5, 3) := by decide +kernel
theorem dL_shines_37 : decode cL_shines 37 = .ok (.iconst 0, 1) := by decide +kernel
theorem dL_shines_38 : decode cL_shines 38 = .ok (.ireturn, 1) := by decide +kernel
theorem dL_shines_39 : decode cL_shines 39 = .ok (.iinc 5 1, 3) := by decide +kernel
theorem dL_shines_42 : decode cL_shines 42 = .ok (.goto (-39), 3) := by decide +kernel
theorem dL_shines_45 : decode cL_shines 45 = .ok (.iconst 1, 1) := by decide +kernel
theorem dL_shines_46 : decode cL_shines 46 = .ok (.ireturn, 1) := by decide +kernel
theorem dL_harbour_0 : decode cL_harbour 0 = .ok (.new 8, 3) := by decide +kernel
theorem dL_harbour_3 : decode cL_harbour 3 = .ok (.dup, 1) := by decide +kernel
theorem dL_harbour_4 : decode cL_harbour 4 = .ok (.invokespecial 95, 3) := by decide +kernel
theorem dL_harbour_7 : decode cL_harbour 7 = .ok (.astore_n 0, 1) := by decide +kernel
theorem dL_harbour_8 : decode cL_harbour 8 = .ok (.aload_n 0, 1) := by decide +kernel
theorem dL_harbour_9 : decode cL_harbour 9 = .ok (.bipush 23, 2) := by decide +kernel
theorem dL_harbour_11 : decode cL_harbour 11 = .ok (.invokestatic 100, 3) := by decide +kernel
theorem dL_harbour_14 : decode cL_harbour 14 = .ok (.ifCond .ne 390, 3) := by decide +kernel
theorem dL_harbour_17 : decode cL_harbour 17 = .ok (.aload_n 0, 1) := by decide +kernel
theorem dL_harbour_18 : decode cL_harbour 18 = .ok (.sipush 2323, 3) := by decide +kernel
theorem dL_harbour_21 : decode cL_harbour 21 = .ok (.invokestatic 100, 3) := by decide +kernel
theorem dL_harbour_24 : decode cL_harbour 24 = .ok (.iconst 1, 1) := by decide +kernel
theorem dL_harbour_25 : decode cL_harbour 25 = .ok (.if_icmp .ne 379, 3) := by decide +kernel
theorem dL_harbour_28 : decode cL_harbour 28 = .ok (.aload_n 0, 1) := by decide +kernel
theorem dL_harbour_29 : decode cL_harbour 29 = .ok (.bipush 32, 2) := by decide +kernel
theorem dL_harbour_31 : decode cL_harbour 31 = .ok (.invokestatic 100, 3) := by decide +kernel
theorem dL_harbour_34 : decode cL_harbour 34 = .ok (.iconst 2, 1) := by decide +kernel
theorem dL_harbour_35 : decode cL_harbour 35 = .ok (.if_icmp .ne 369, 3) := by decide +kernel
theorem dL_harbour_38 : decode cL_harbour 38 = .ok (.aload_n 0, 1) := by decide +kernel
theorem dL_harbour_39 : decode cL_harbour 39 = .ok (.bipush 11, 2) := by decide +kernel
theorem dL_harbour_41 : decode cL_harbour 41 = .ok (.invokestatic 100, 3) := by decide +kernel
theorem dL_harbour_44 : decode cL_harbour 44 = .ok (.iconst 3, 1) := by decide +kernel
theorem dL_harbour_45 : decode cL_harbour 45 = .ok (.if_icmp .ne 359, 3) := by decide +kernel
theorem dL_harbour_48 : decode cL_harbour 48 = .ok (.aload_n 0, 1) := by decide +kernel
theorem dL_harbour_49 : decode cL_harbour 49 = .ok (.bipush 10, 2) := by decide +kernel
theorem dL_harbour_51 : decode cL_harbour 51 = .ok (.bipush 10, 2) := by decide +kernel
theorem dL_harbour_53 : decode cL_harbour 53 = .ok (.iconst 4, 1) := by decide +kernel
theorem dL_harbour_54 : decode cL_harbour 54 = .ok (.iconst 5, 1) := by decide +kernel
theorem dL_harbour_55 : decode cL_harbour 55 = .ok (.sipush 255, 3) := by decide +kernel
theorem dL_harbour_58 : decode cL_harbour 58 = .ok (.invokestatic 88, 3) := by decide +kernel
theorem dL_harbour_61 : decode cL_harbour 61 = .ok (.bipush (-71), 2) := by decide +kernel
theorem dL_harbour_63 : decode cL_harbour 63 = .ok (.if_icmp .ne 341, 3) := by decide +kernel
theorem dL_harbour_66 : decode cL_harbour 66 = .ok (.aload_n 0, 1) := by decide +kernel
theorem dL_harbour_67 : decode cL_harbour 67 = .ok (.bipush 10, 2) := by decide +kernel
theorem dL_harbour_69 : decode cL_harbour 69 = .ok (.bipush 10, 2) := by decide +kernel
theorem dL_harbour_71 : decode cL_harbour 71 = .ok (.iconst 0, 1) := by decide +kernel
theorem dL_harbour_72 : decode cL_harbour 72 = .ok (.iconst 5, 1) := by decide +kernel
theorem dL_harbour_73 : decode cL_harbour 73 = .ok (.sipush 255, 3) := by decide +kernel
theorem dL_harbour_76 : decode cL_harbour 76 = .ok (.invokevirtual 67, 3) := by decide +kernel
theorem dL_harbour_79 : decode cL_harbour 79 = .ok (.ifCond .ne 325, 3) := by decide +kernel
theorem dL_harbour_82 : decode cL_harbour 82 = .ok (.aload_n 0, 1) := by decide +kernel
theorem dL_harbour_83 : decode cL_harbour 83 = .ok (.invokevirtual 75, 3) := by decide +kernel
theorem dL_harbour_86 : decode cL_harbour 86 = .ok (.iconst 1, 1) := by decide +kernel
theorem dL_harbour_87 : decode cL_harbour 87 = .ok (.if_icmp .ne 317, 3) := by decide +kernel
theorem dL_harbour_90 : decode cL_harbour 90 = .ok (.aload_n 0, 1) := by decide +kernel
theorem dL_harbour_91 : decode cL_harbour 91 = .ok (.iconst 0, 1) := by decide +kernel
theorem dL_harbour_92 : decode cL_harbour 92 = .ok (.iconst 0, 1) := by decide +kernel
theorem dL_harbour_93 : decode cL_harbour 93 = .ok (.bipush 10, 2) := by decide +kernel
theorem dL_harbour_95 : decode cL_harbour 95 = .ok (.bipush 99, 2) := by decide +kernel
theorem dL_harbour_97 : decode cL_harbour 97 = .ok (.invokestatic 113, 3) := by decide +kernel
theorem dL_harbour_100 : decode cL_harbour 100 = .ok (.ifCond .eq 304, 3) := by decide +kernel
theorem dL_harbour_103 : decode cL_harbour 103 = .ok (.aload_n 0, 1) := by decide +kernel
theorem dL_harbour_104 : decode cL_harbour 104 = .ok (.iconst 0, 1) := by decide +kernel
theorem dL_harbour_105 : decode cL_harbour 105 = .ok (.ldc 116, 2) := by decide +kernel
theorem dL_harbour_107 : decode cL_harbour 107 = .ok (.iconst 1, 1) := by decide +kernel
theorem dL_harbour_108 : decode cL_harbour 108 = .ok (.iconst 1, 1) := by decide +kernel
theorem dL_harbour_109 : decode cL_harbour 109 = .ok (.invokestatic 113, 3) := by decide +kernel
theorem dL_harbour_112 : decode cL_harbour 112 = .ok (.ifCond .eq 292, 3) := by decide +kernel
theorem dL_harbour_115 : decode cL_harbour 115 = .ok (.aload_n 0, 1) := by decide +kernel
theorem dL_harbour_116 : decode cL_harbour 116 = .ok (.iconst 0, 1) := by decide +kernel
theorem dL_harbour_117 : decode cL_harbour 117 = .ok (.iconst 0, 1) := by decide +kernel
theorem dL_harbour_118 : decode cL_harbour 118 = .ok (.iconst 3, 1) := by decide +kernel
theorem dL_harbour_119 : decode cL_harbour 119 = .ok (.invokevirtual 27, 3) := by decide +kernel
theorem dL_harbour_122 : decode cL_harbour 122 = .ok (.iconst 1, 1) := by decide +kernel
theorem dL_harbour_123 : decode cL_harbour 123 = .ok (.if_icmp .ne 281, 3) := by decide +kernel
theorem dL_harbour_126 : decode cL_harbour 126 = .ok (.aload_n 0, 1) := by decide +kernel
theorem dL_harbour_127 : decode cL_harbour 127 = .ok (.iconst 0, 1) := by decide +kernel
theorem dL_harbour_128 : decode cL_harbour 128 = .ok (.iconst 0, 1) := by decide +kernel
theorem dL_harbour_129 : decode cL_harbour 129 = .ok (.bipush 10, 2) := by decide +kernel
theorem dL_harbour_131 : decode cL_harbour 131 = .ok (.sipush 396, 3) := by decide +kernel
theorem dL_harbour_134 : decode cL_harbour 134 = .ok (.invokestatic 113, 3) := by decide +kernel
theorem dL_harbour_137 : decode cL_harbour 137 = .ok (.ifCond .eq 267, 3) := by decide +kernel
theorem dL_harbour_140 : decode cL_harbour 140 = .ok (.aload_n 0, 1) := by decide +kernel
theorem dL_harbour_141 : decode cL_harbour 141 = .ok (.iconst 1, 1) := by decide +kernel
theorem dL_harbour_142 : decode cL_harbour 142 = .ok (.iconst 0, 1) := by decide +kernel
theorem dL_harbour_143 : decode cL_harbour 143 = .ok (.iconst 0, 1) := by decide +kernel
theorem dL_harbour_144 : decode cL_harbour 144 = .ok (.invokestatic 117, 3) := by decide +kernel
theorem dL_harbour_147 : decode cL_harbour 147 = .ok (.ifCond .eq 257, 3) := by decide +kernel
theorem dL_harbour_150 : decode cL_harbour 150 = .ok (.aload_n 0, 1) := by decide +kernel
theorem dL_harbour_151 : decode cL_harbour 151 = .ok (.iconst 2, 1) := by decide +kernel
theorem dL_harbour_152 : decode cL_harbour 152 = .ok (.iconst 1, 1) := by decide +kernel
theorem dL_harbour_153 : decode cL_harbour 153 = .ok (.iconst 0, 1) := by decide +kernel
theorem dL_harbour_154 : decode cL_harbour 154 = .ok (.invokestatic 117, 3) := by decide +kernel
theorem dL_harbour_157 : decode cL_harbour 157 = .ok (.ifCond .eq 247, 3) := by decide +kernel
theorem dL_harbour_160 : decode cL_harbour 160 = .ok (.aload_n 0, 1) := by decide +kernel
theorem dL_harbour_161 : decode cL_harbour 161 = .ok (.iconst 1, 1) := by decide +kernel
theorem dL_harbour_162 : decode cL_harbour 162 = .ok (.iconst 1, 1) := by decide +kernel
theorem dL_harbour_163 : decode cL_harbour 163 = .ok (.iconst 1, 1) := by decide +kernel
theorem dL_harbour_164 : decode cL_harbour 164 = .ok (.invokestatic 117, 3) := by decide +kernel
theorem dL_harbour_167 : decode cL_harbour 167 = .ok (.ifCond .eq 237, 3) := by decide +kernel
theorem dL_harbour_170 : decode cL_harbour 170 = .ok (.aload_n 0, 1) := by decide +kernel
theorem dL_harbour_171 : decode cL_harbour 171 = .ok (.iconst 1, 1) := by decide +kernel
theorem dL_harbour_172 : decode cL_harbour 172 = .ok (.iconst 2, 1) := by decide +kernel
theorem dL_harbour_173 : decode cL_harbour 173 = .ok (.iconst 1, 1) := by decide +kernel
theorem dL_harbour_174 : decode cL_harbour 174 = .ok (.invokestatic 117, 3) := by decide +kernel
theorem dL_harbour_177 : decode cL_harbour 177 = .ok (.ifCond .eq 227, 3) := by decide +kernel
theorem dL_harbour_180 : decode cL_harbour 180 = .ok (.aload_n 0, 1) := by decide +kernel
theorem dL_harbour_181 : decode cL_harbour 181 = .ok (.iconst 0, 1) := by decide +kernel
theorem dL_harbour_182 : decode cL_harbour 182 = .ok (.iconst 1, 1) := by decide +kernel
theorem dL_harbour_183 : decode cL_harbour 183 = .ok (.iconst 2, 1) := by decide +kernel
theorem dL_harbour_184 : decode cL_harbour 184 = .ok (.invokestatic 117, 3) := by decide +kernel
theorem dL_harbour_187 : decode cL_harbour 187 = .ok (.ifCond .eq 217, 3) := by decide +kernel
theorem dL_harbour_190 : decode cL_harbour 190 = .ok (.aload_n 0, 1) := by decide +kernel
theorem dL_harbour_191 : decode cL_harbour 191 = .ok (.iconst (-1), 1) := by decide +kernel
theorem dL_harbour_192 : decode cL_harbour 192 = .ok (.iconst 2, 1) := by decide +kernel
theorem dL_harbour_193 : decode cL_harbour 193 = .ok (.iconst 2, 1) := by decide +kernel
theorem dL_harbour_194 : decode cL_harbour 194 = .ok (.invokestatic 117, 3) := by decide +kernel
theorem dL_harbour_197 : decode cL_harbour 197 = .ok (.ifCond .eq 207, 3) := by decide +kernel
theorem dL_harbour_200 : decode cL_harbour 200 = .ok (.aload_n 0, 1) := by decide +kernel
theorem dL_harbour_201 : decode cL_harbour 201 = .ok (.iconst (-1), 1) := by decide +kernel
theorem dL_harbour_202 : decode cL_harbour 202 = .ok (.iconst 1, 1) := by decide +kernel
theorem dL_harbour_203 : decode cL_harbour 203 = .ok (.iconst 3, 1) := by decide +kernel
theorem dL_harbour_204 : decode cL_harbour 204 = .ok (.invokestatic 117, 3) := by decide +kernel
theorem dL_harbour_207 : decode cL_harbour 207 = .ok (.ifCond .eq 197, 3) := by decide +kernel
theorem dL_harbour_210 : decode cL_harbour 210 = .ok (.aload_n 0, 1) := by decide +kernel
theorem dL_harbour_211 : decode cL_harbour 211 = .ok (.bipush (-2), 2) := by decide +kernel
theorem dL_harbour_213 : decode cL_harbour 213 = .ok (.iconst 1, 1) := by decide +kernel
theorem dL_harbour_214 : decode cL_harbour 214 = .ok (.iconst 3, 1) := by decide +kernel
theorem dL_harbour_215 : decode cL_harbour 215 = .ok (.invokestatic 117, 3) := by decide +kernel
theorem dL_harbour_218 : decode cL_harbour 218 = .ok (.ifCond .eq 186, 3) := by decide +kernel
theorem dL_harbour_221 : decode cL_harbour 221 = .ok (.aload_n 0, 1) := by decide +kernel
theorem dL_harbour_222 : decode cL_harbour 222 = .ok (.iconst (-1), 1) := by decide +kernel
theorem dL_harbour_223 : decode cL_harbour 223 = .ok (.iconst 0, 1) := by decide +kernel
theorem dL_harbour_224 : decode cL_harbour 224 = .ok (.iconst 4, 1) := by decide +kernel
theorem dL_harbour_225 : decode cL_harbour 225 = .ok (.invokestatic 117, 3) := by decide +kernel
theorem dL_harbour_228 : decode cL_harbour 228 = .ok (.ifCond .eq 176, 3) := by decide +kernel
theorem dL_harbour_231 : decode cL_harbour 231 = .ok (.aload_n 0, 1) := by decide +kernel
theorem dL_harbour_232 : decode cL_harbour 232 = .ok (.bipush (-2), 2) := by decide +kernel
theorem dL_harbour_234 : decode cL_harbour 234 = .ok (.iconst (-1), 1) := by decide +kernel
theorem dL_harbour_235 : decode cL_harbour 235 = .ok (.iconst 4, 1) := by decide +kernel
theorem dL_harbour_236 : decode cL_harbour 236 = .ok (.invokestatic 117, 3) := by decide +kernel
theorem dL_harbour_239 : decode cL_harbour 239 = .ok (.ifCond .eq 165, 3) := by decide +kernel
theorem dL_harbour_242 : decode cL_harbour 242 = .ok (.aload_n 0, 1) := by decide +kernel
theorem dL_harbour_243 : decode cL_harbour 243 = .ok (.iconst (-1), 1) := by decide +kernel
theorem dL_harbour_244 : decode cL_harbour 244 = .ok (.iconst (-1), 1) := by decide +kernel
theorem dL_harbour_245 : decode cL_harbour 245 = .ok (.iconst 5, 1) := by decide +kernel
theorem dL_harbour_246 : decode cL_harbour 246 = .ok (.invokestatic 117, 3) := by decide +kernel
theorem dL_harbour_249 : decode cL_harbour 249 = .ok (.ifCond .eq 155, 3) := by decide +kernel
theorem dL_harbour_252 : decode cL_harbour 252 = .ok (.aload_n 0, 1) := by decide +kernel
theorem dL_harbour_253 : decode cL_harbour 253 = .ok (.iconst (-1), 1) := by decide +kernel
theorem dL_harbour_254 : decode cL_harbour 254 = .ok (.bipush (-2), 2) := by decide +kernel
theorem dL_harbour_256 : decode cL_harbour 256 = .ok (.iconst 5, 1) := by decide +kernel
theorem dL_harbour_257 : decode cL_harbour 257 = .ok (.invokestatic 117, 3) := by decide +kernel
theorem dL_harbour_260 : decode cL_harbour 260 = .ok (.ifCond .eq 144, 3) := by decide +kernel
theorem dL_harbour_263 : decode cL_harbour 263 = .ok (.aload_n 0, 1) := by decide +kernel
theorem dL_harbour_264 : decode cL_harbour 264 = .ok (.iconst 0, 1) := by decide +kernel
theorem dL_harbour_265 : decode cL_harbour 265 = .ok (.iconst (-1), 1) := by decide +kernel
theorem dL_harbour_266 : decode cL_harbour 266 = .ok (.bipush 6, 2) := by decide +kernel
theorem dL_harbour_268 : decode cL_harbour 268 = .ok (.invokestatic 117, 3) := by decide +kernel
theorem dL_harbour_271 : decode cL_harbour 271 = .ok (.ifCond .eq 133, 3) := by decide +kernel
theorem dL_harbour_274 : decode cL_harbour 274 = .ok (.aload_n 0, 1) := by decide +kernel
theorem dL_harbour_275 : decode cL_harbour 275 = .ok (.iconst 1, 1) := by decide +kernel
theorem dL_harbour_276 : decode cL_harbour 276 = .ok (.bipush (-2), 2) := by decide +kernel
theorem dL_harbour_278 : decode cL_harbour 278 = .ok (.bipush 6, 2) := by decide +kernel
theorem dL_harbour_280 : decode cL_harbour 280 = .ok (.invokestatic 117, 3) := by decide +kernel
theorem dL_harbour_283 : decode cL_harbour 283 = .ok (.ifCond .eq 121, 3) := by decide +kernel
theorem dL_harbour_286 : decode cL_harbour 286 = .ok (.aload_n 0, 1) := by decide +kernel
theorem dL_harbour_287 : decode cL_harbour 287 = .ok (.iconst 1, 1) := by decide +kernel
theorem dL_harbour_288 : decode cL_harbour 288 = .ok (.iconst (-1), 1) := by decide +kernel
theorem dL_harbour_289 : decode cL_harbour 289 = .ok (.bipush 7, 2) := by decide +kernel
theorem dL_harbour_291 : decode cL_harbour 291 = .ok (.invokestatic 117, 3) := by decide +kernel
theorem dL_harbour_294 : decode cL_harbour 294 = .ok (.ifCond .eq 110, 3) := by decide +kernel
theorem dL_harbour_297 : decode cL_harbour 297 = .ok (.aload_n 0, 1) := by decide +kernel
theorem dL_harbour_298 : decode cL_harbour 298 = .ok (.iconst 2, 1) := by decide +kernel
theorem dL_harbour_299 : decode cL_harbour 299 = .ok (.iconst (-1), 1) := by decide +kernel
theorem dL_harbour_300 : decode cL_harbour 300 = .ok (.bipush 7, 2) := by decide +kernel
theorem dL_harbour_302 : decode cL_harbour 302 = .ok (.invokestatic 117, 3) := by decide +kernel
theorem dL_harbour_305 : decode cL_harbour 305 = .ok (.ifCond .eq 99, 3) := by decide +kernel
theorem dL_harbour_308 : decode cL_harbour 308 = .ok (.aload_n 0, 1) := by decide +kernel
theorem dL_harbour_309 : decode cL_harbour 309 = .ok (.iconst 0, 1) := by decide +kernel
theorem dL_harbour_310 : decode cL_harbour 310 = .ok (.iconst 0, 1) := by decide +kernel
theorem dL_harbour_311 : decode cL_harbour 311 = .ok (.iconst (-1), 1) := by decide +kernel
theorem dL_harbour_312 : decode cL_harbour 312 = .ok (.invokestatic 117, 3) := by decide +kernel
theorem dL_harbour_315 : decode cL_harbour 315 = .ok (.ifCond .eq 89, 3) := by decide +kernel
theorem dL_harbour_318 : decode cL_harbour 318 = .ok (.aload_n 0, 1) := by decide +kernel
theorem dL_harbour_319 : decode cL_harbour 319 = .ok (.iconst 0, 1) := by decide +kernel
theorem dL_harbour_320 : decode cL_harbour 320 = .ok (.bipush 15, 2) := by decide +kernel
theorem dL_harbour_322 : decode cL_harbour 322 = .ok (.bipush 10, 2) := by decide +kernel
theorem dL_harbour_324 : decode cL_harbour 324 = .ok (.invokevirtual 41, 3) := by decide +kernel
theorem dL_harbour_327 : decode cL_harbour 327 = .ok (.ifCond .eq 77, 3) := by decide +kernel
theorem dL_harbour_330 : decode cL_harbour 330 = .ok (.aload_n 0, 1) := by decide +kernel
theorem dL_harbour_331 : decode cL_harbour 331 = .ok (.iconst 0, 1) := by decide +kernel
theorem dL_harbour_332 : decode cL_harbour 332 = .ok (.bipush 16, 2) := by decide +kernel
theorem dL_harbour_334 : decode cL_harbour 334 = .ok (.bipush 10, 2) := by decide +kernel
theorem dL_harbour_336 : decode cL_harbour 336 = .ok (.invokevirtual 41, 3) := by decide +kernel
theorem dL_harbour_339 : decode cL_harbour 339 = .ok (.ifCond .ne 65, 3) := by decide +kernel
theorem dL_harbour_342 : decode cL_harbour 342 = .ok (.aload_n 0, 1) := by decide +kernel
theorem dL_harbour_343 : decode cL_harbour 343 = .ok (.iconst 0, 1) := by decide +kernel
theorem dL_harbour_344 : decode cL_harbour 344 = .ok (.iconst 5, 1) := by decide +kernel
theorem dL_harbour_345 : decode cL_harbour 345 = .ok (.bipush 15, 2) := by decide +kernel
theorem dL_harbour_347 : decode cL_harbour 347 = .ok (.invokevirtual 41, 3) := by decide +kernel
theorem dL_harbour_350 : decode cL_harbour 350 = .ok (.ifCond .eq 54, 3) := by decide +kernel
theorem dL_harbour_353 : decode cL_harbour 353 = .ok (.aload_n 0, 1) := by decide +kernel
theorem dL_harbour_354 : decode cL_harbour 354 = .ok (.iconst 0, 1) := by decide +kernel
theorem dL_harbour_355 : decode cL_harbour 355 = .ok (.iconst 5, 1) := by decide +kernel
theorem dL_harbour_356 : decode cL_harbour 356 = .ok (.bipush 16, 2) := by decide +kernel
theorem dL_harbour_358 : decode cL_harbour 358 = .ok (.invokevirtual 41, 3) := by decide +kernel
theorem dL_harbour_361 : decode cL_harbour 361 = .ok (.ifCond .ne 43, 3) := by decide +kernel
theorem dL_harbour_364 : decode cL_harbour 364 = .ok (.aload_n 0, 1) := by decide +kernel
theorem dL_harbour_365 : decode cL_harbour 365 = .ok (.iconst 0, 1) := by decide +kernel
theorem dL_harbour_366 : decode cL_harbour 366 = .ok (.bipush 10, 2) := by decide +kernel
theorem dL_harbour_368 : decode cL_harbour 368 = .ok (.bipush 10, 2) := by decide +kernel
theorem dL_harbour_370 : decode cL_harbour 370 = .ok (.invokevirtual 41, 3) := by decide +kernel
theorem dL_harbour_373 : decode cL_harbour 373 = .ok (.ifCond .eq 31, 3) := by decide +kernel
theorem dL_harbour_376 : decode cL_harbour 376 = .ok (.aload_n 0, 1) := by decide +kernel
theorem dL_harbour_377 : decode cL_harbour 377 = .ok (.iconst 0, 1) := by decide +kernel
theorem dL_harbour_378 : decode cL_harbour 378 = .ok (.iconst 0, 1) := by decide +kernel
theorem dL_harbour_379 : decode cL_harbour 379 = .ok (.invokevirtual 45, 3) := by decide +kernel
theorem dL_harbour_382 : decode cL_harbour 382 = .ok (.bipush 121, 2) := by decide +kernel
theorem dL_harbour_384 : decode cL_harbour 384 = .ok (.if_icmp .ne 20, 3) := by decide +kernel
theorem dL_harbour_387 : decode cL_harbour 387 = .ok (.aload_n 0, 1) := by decide +kernel
theorem dL_harbour_388 : decode cL_harbour 388 = .ok (.invokevirtual 78, 3) := by decide +kernel
theorem dL_harbour_391 : decode cL_harbour 391 = .ok (.ifCond .ne 13, 3) := by decide +kernel
theorem dL_harbour_394 : decode cL_harbour 394 = .ok (.aload_n 0, 1) := by decide +kernel
theorem dL_harbour_395 : decode cL_harbour 395 = .ok (.iconst 4, 1) := by decide +kernel
theorem dL_harbour_396 : decode cL_harbour 396 = .ok (.iconst 1, 1) := by decide +kernel
theorem dL_harbour_397 : decode cL_harbour 397 = .ok (.iconst 0, 1) := by decide +kernel
theorem dL_harbour_398 : decode cL_harbour 398 = .ok (.invokestatic 96, 3) := by decide +kernel
theorem dL_harbour_401 : decode cL_harbour 401 = .ok (.ifCond .ne 5, 3) := by decide +kernel
theorem dL_harbour_404 : decode cL_harbour 404 = .ok (.iconst 0, 1) := by decide +kernel
theorem dL_harbour_405 : decode cL_harbour 405 = .ok (.ireturn, 1) := by decide +kernel
theorem dL_harbour_406 : decode cL_harbour 406 = .ok (.aload_n 0, 1) := by decide +kernel
theorem dL_harbour_407 : decode cL_harbour 407 = .ok (.iconst 0, 1) := by decide +kernel
theorem dL_harbour_408 : decode cL_harbour 408 = .ok (.iconst 0, 1) := by decide +kernel
theorem dL_harbour_409 : decode cL_harbour 409 = .ok (.iconst 1, 1) := by decide +kernel
theorem dL_harbour_410 : decode cL_harbour 410 = .ok (.bipush 40, 2) := by decide +kernel
theorem dL_harbour_412 : decode cL_harbour 412 = .ok (.iconst 1, 1) := by decide +kernel
theorem dL_harbour_413 : decode cL_harbour 413 = .ok (.invokevirtual 67, 3) := by decide +kernel
theorem dL_harbour_416 : decode cL_harbour 416 = .ok (.iconst 1, 1) := by decide +kernel
theorem dL_harbour_417 : decode cL_harbour 417 = .ok (.if_icmp .ne 389, 3) := by decide +kernel
theorem dL_harbour_420 : decode cL_harbour 420 = .ok (.aload_n 0, 1) := by decide +kernel
theorem dL_harbour_421 : decode cL_harbour 421 = .ok (.iconst 1, 1) := by decide +kernel
theorem dL_harbour_422 : decode cL_harbour 422 = .ok (.iconst 1, 1) := by decide +kernel
theorem dL_harbour_423 : decode cL_harbour 423 = .ok (.invokevirtual 45, 3) := by decide +kernel
theorem dL_harbour_426 : decode cL_harbour 426 = .ok (.sipush 497, 3) := by decide +kernel
theorem dL_harbour_429 : decode cL_harbour 429 = .ok (.if_icmp .ne 377, 3) := by decide +kernel
theorem dL_harbour_432 : decode cL_harbour 432 = .ok (.aload_n 0, 1) := by decide +kernel
theorem dL_harbour_433 : decode cL_harbour 433 = .ok (.iconst 1, 1) := by decide +kernel
theorem dL_harbour_434 : decode cL_harbour 434 = .ok (.bipush 31, 2) := by decide +kernel
theorem dL_harbour_436 : decode cL_harbour 436 = .ok (.bipush 30, 2) := by decide +kernel
theorem dL_harbour_438 : decode cL_harbour 438 = .ok (.invokevirtual 41, 3) := by decide +kernel
theorem dL_harbour_441 : decode cL_harbour 441 = .ok (.ifCond .eq 365, 3) := by decide +kernel
theorem dL_harbour_444 : decode cL_harbour 444 = .ok (.aload_n 0, 1) := by decide +kernel
theorem dL_harbour_445 : decode cL_harbour 445 = .ok (.iconst 1, 1) := by decide +kernel
theorem dL_harbour_446 : decode cL_harbour 446 = .ok (.bipush 31, 2) := by decide +kernel
theorem dL_harbour_448 : decode cL_harbour 448 = .ok (.bipush 31, 2) := by decide +kernel
theorem dL_harbour_450 : decode cL_harbour 450 = .ok (.invokevirtual 41, 3) := by decide +kernel
theorem dL_harbour_453 : decode cL_harbour 453 = .ok (.ifCond .ne 353, 3) := by decide +kernel
theorem dL_harbour_456 : decode cL_harbour 456 = .ok (.aload_n 0, 1) := by decide +kernel
theorem dL_harbour_457 : decode cL_harbour 457 = .ok (.iconst 1, 1) := by decide +kernel
theorem dL_harbour_458 : decode cL_harbour 458 = .ok (.iconst 0, 1) := by decide +kernel
theorem dL_harbour_459 : decode cL_harbour 459 = .ok (.iconst 0, 1) := by decide +kernel
theorem dL_harbour_460 : decode cL_harbour 460 = .ok (.invokevirtual 41, 3) := by decide +kernel
theorem dL_harbour_463 : decode cL_harbour 463 = .ok (.ifCond .eq 343, 3) := by decide +kernel
theorem dL_harbour_466 : decode cL_harbour 466 = .ok (.aload_n 0, 1) := by decide +kernel
theorem dL_harbour_467 : decode cL_harbour 467 = .ok (.iconst 1, 1) := by decide +kernel
theorem dL_harbour_468 : decode cL_harbour 468 = .ok (.iconst 0, 1) := by decide +kernel
theorem dL_harbour_469 : decode cL_harbour 469 = .ok (.iconst 1, 1) := by decide +kernel
theorem dL_harbour_470 : decode cL_harbour 470 = .ok (.invokevirtual 41, 3) := by decide +kernel
theorem dL_harbour_473 : decode cL_harbour 473 = .ok (.ifCond .ne 333, 3) := by decide +kernel
theorem dL_harbour_476 : decode cL_harbour 476 = .ok (.aload_n 0, 1) := by decide +kernel
theorem dL_harbour_477 : decode cL_harbour 477 = .ok (.iconst 0, 1) := by decide +kernel
theorem dL_harbour_478 : decode cL_harbour 478 = .ok (.iconst 1, 1) := by decide +kernel
theorem dL_harbour_479 : decode cL_harbour 479 = .ok (.invokevirtual 45, 3) := by decide +kernel
theorem dL_harbour_482 : decode cL_harbour 482 = .ok (.bipush 55, 2) := by decide +kernel
theorem dL_harbour_484 : decode cL_harbour 484 = .ok (.if_icmp .ne 322, 3) := by decide +kernel
theorem dL_harbour_487 : decode cL_harbour 487 = .ok (.aload_n 0, 1) := by decide +kernel
theorem dL_harbour_488 : decode cL_harbour 488 = .ok (.iconst 1, 1) := by decide +kernel
theorem dL_harbour_489 : decode cL_harbour 489 = .ok (.iconst 0, 1) := by decide +kernel
theorem dL_harbour_490 : decode cL_harbour 490 = .ok (.invokevirtual 45, 3) := by decide +kernel
theorem dL_harbour_493 : decode cL_harbour 493 = .ok (.bipush 55, 2) := by decide +kernel
theorem dL_harbour_495 : decode cL_harbour 495 = .ok (.if_icmp .ne 311, 3) := by decide +kernel
theorem dL_harbour_498 : decode cL_harbour 498 = .ok (.aload_n 0, 1) := by decide +kernel
theorem dL_harbour_499 : decode cL_harbour 499 = .ok (.invokevirtual 78, 3) := by decide +kernel
theorem dL_harbour_502 : decode cL_harbour 502 = .ok (.iconst 1, 1) := by decide +kernel
theorem dL_harbour_503 : decode cL_harbour 503 = .ok (.if_icmp .ne 303, 3) := by decide +kernel
theorem dL_harbour_506 : decode cL_harbour 506 = .ok (.aload_n 0, 1) := by decide +kernel
theorem dL_harbour_507 : decode cL_harbour 507 = .ok (.bipush 31, 2) := by decide +kernel
theorem dL_harbour_509 : decode cL_harbour 509 = .ok (.bipush 31, 2) := by decide +kernel
theorem dL_harbour_511 : decode cL_harbour 511 = .ok (.iconst 3, 1) := by decide +kernel
theorem dL_harbour_512 : decode cL_harbour 512 = .ok (.iconst 1, 1) := by decide +kernel
theorem dL_harbour_513 : decode cL_harbour 513 = .ok (.sipush 255, 3) := by decide +kernel
theorem dL_harbour_516 : decode cL_harbour 516 = .ok (.invokevirtual 67, 3) := by decide +kernel
theorem dL_harbour_519 : decode cL_harbour 519 = .ok (.iconst 2, 1) := by decide +kernel
theorem dL_harbour_520 : decode cL_harbour 520 = .ok (.if_icmp .ne 286, 3) := by decide +kernel
theorem dL_harbour_523 : decode cL_harbour 523 = .ok (.aload_n 0, 1) := by decide +kernel
theorem dL_harbour_524 : decode cL_harbour 524 = .ok (.iconst 2, 1) := by decide +kernel
theorem dL_harbour_525 : decode cL_harbour 525 = .ok (.iconst 2, 1) := by decide +kernel
theorem dL_harbour_526 : decode cL_harbour 526 = .ok (.invokevirtual 45, 3) := by decide +kernel
theorem dL_harbour_529 : decode cL_harbour 529 = .ok (.iconst 4, 1) := by decide +kernel
theorem dL_harbour_530 : decode cL_harbour 530 = .ok (.if_icmp .ne 276, 3) := by decide +kernel
theorem dL_harbour_533 : decode cL_harbour 533 = .ok (.aload_n 0, 1) := by decide +kernel
theorem dL_harbour_534 : decode cL_harbour 534 = .ok (.iconst 0, 1) := by decide +kernel
theorem dL_harbour_535 : decode cL_harbour 535 = .ok (.iconst 2, 1) := by decide +kernel
theorem dL_harbour_536 : decode cL_harbour 536 = .ok (.invokevirtual 45, 3) := by decide +kernel
theorem dL_harbour_539 : decode cL_harbour 539 = .ok (.ifCond .ne 267, 3) := by decide +kernel
theorem dL_harbour_542 : decode cL_harbour 542 = .ok (.aload_n 0, 1) := by decide +kernel
theorem dL_harbour_543 : decode cL_harbour 543 = .ok (.bipush 20, 2) := by decide +kernel
theorem dL_harbour_545 : decode cL_harbour 545 = .ok (.bipush 10, 2) := by decide +kernel
theorem dL_harbour_547 : decode cL_harbour 547 = .ok (.iconst 2, 1) := by decide +kernel
theorem dL_harbour_548 : decode cL_harbour 548 = .ok (.iconst 5, 1) := by decide +kernel
theorem dL_harbour_549 : decode cL_harbour 549 = .ok (.sipush 255, 3) := by decide +kernel
theorem dL_harbour_552 : decode cL_harbour 552 = .ok (.invokevirtual 67, 3) := by decide +kernel
theorem dL_harbour_555 : decode cL_harbour 555 = .ok (.iconst 3, 1) := by decide +kernel
theorem dL_harbour_556 : decode cL_harbour 556 = .ok (.if_icmp .ne 250, 3) := by decide +kernel
theorem dL_harbour_559 : decode cL_harbour 559 = .ok (.aload_n 0, 1) := by decide +kernel
theorem dL_harbour_560 : decode cL_harbour 560 = .ok (.iconst 0, 1) := by decide +kernel
theorem dL_harbour_561 : decode cL_harbour 561 = .ok (.iconst 3, 1) := by decide +kernel
theorem dL_harbour_562 : decode cL_harbour 562 = .ok (.invokevirtual 45, 3) := by decide +kernel
theorem dL_harbour_565 : decode cL_harbour 565 = .ok (.bipush 11, 2) := by decide +kernel
theorem dL_harbour_567 : decode cL_harbour 567 = .ok (.if_icmp .ne 239, 3) := by decide +kernel
theorem dL_harbour_570 : decode cL_harbour 570 = .ok (.aload_n 0, 1) := by decide +kernel
theorem dL_harbour_571 : decode cL_harbour 571 = .ok (.iconst 1, 1) := by decide +kernel
theorem dL_harbour_572 : decode cL_harbour 572 = .ok (.iconst 3, 1) := by decide +kernel
theorem dL_harbour_573 : decode cL_harbour 573 = .ok (.invokevirtual 45, 3) := by decide +kernel
theorem dL_harbour_576 : decode cL_harbour 576 = .ok (.bipush 120, 2) := by decide +kernel
theorem dL_harbour_578 : decode cL_harbour 578 = .ok (.if_icmp .ne 228, 3) := by decide +kernel
theorem dL_harbour_581 : decode cL_harbour 581 = .ok (.aload_n 0, 1) := by decide +kernel
theorem dL_harbour_582 : decode cL_harbour 582 = .ok (.invokevirtual 78, 3) := by decide +kernel
theorem dL_harbour_585 : decode cL_harbour 585 = .ok (.iconst 1, 1) := by decide +kernel
theorem dL_harbour_586 : decode cL_harbour 586 = .ok (.if_icmp .ne 220, 3) := by decide +kernel
theorem dL_harbour_589 : decode cL_harbour 589 = .ok (.aload_n 0, 1) := by decide +kernel
theorem dL_harbour_590 : decode cL_harbour 590 = .ok (.invokevirtual 75, 3) := by decide +kernel
theorem dL_harbour_593 : decode cL_harbour 593 = .ok (.iconst 5, 1) := by decide +kernel
theorem dL_harbour_594 : decode cL_harbour 594 = .ok (.if_icmp .ne 212, 3) := by decide +kernel
theorem dL_harbour_597 : decode cL_harbour 597 = .ok (.aload_n 0, 1) := by decide +kernel
theorem dL_harbour_598 : decode cL_harbour 598 = .ok (.invokevirtual 49, 3) := by decide +kernel
theorem dL_harbour_601 : decode cL_harbour 601 = .ok (.ifCond .ne 205, 3) := by decide +kernel
theorem dL_harbour_604 : decode cL_harbour 604 = .ok (.aload_n 0, 1) := by decide +kernel
theorem dL_harbour_605 : decode cL_harbour 605 = .ok (.iconst 0, 1) := by decide +kernel
theorem dL_harbour_606 : decode cL_harbour 606 = .ok (.invokevirtual 55, 3) := by decide +kernel
theorem dL_harbour_609 : decode cL_harbour 609 = .ok (.ifCond .ne 197, 3) := by decide +kernel
theorem dL_harbour_612 : decode cL_harbour 612 = .ok (.aload_n 0, 1) := by decide +kernel
theorem dL_harbour_613 : decode cL_harbour 613 = .ok (.iconst 0, 1) := by decide +kernel
theorem dL_harbour_614 : decode cL_harbour 614 = .ok (.iconst 0, 1) := by decide +kernel
theorem dL_harbour_615 : decode cL_harbour 615 = .ok (.invokevirtual 58, 3) := by decide +kernel
theorem dL_harbour_618 : decode cL_harbour 618 = .ok (.ifCond .ne 188, 3) := by decide +kernel
theorem dL_harbour_621 : decode cL_harbour 621 = .ok (.aload_n 0, 1) := by decide +kernel
theorem dL_harbour_622 : decode cL_harbour 622 = .ok (.iconst 0, 1) := by decide +kernel
theorem dL_harbour_623 : decode cL_harbour 623 = .ok (.iconst 3, 1) := by decide +kernel
theorem dL_harbour_624 : decode cL_harbour 624 = .ok (.invokevirtual 58, 3) := by decide +kernel
theorem dL_harbour_627 : decode cL_harbour 627 = .ok (.iconst 2, 1) := by decide +kernel
theorem dL_harbour_628 : decode cL_harbour 628 = .ok (.if_icmp .ne 178, 3) := by decide +kernel
theorem dL_harbour_631 : decode cL_harbour 631 = .ok (.aload_n 0, 1) := by decide +kernel
theorem dL_harbour_632 : decode cL_harbour 632 = .ok (.iconst 3, 1) := by decide +kernel
theorem dL_harbour_633 : decode cL_harbour 633 = .ok (.iconst 0, 1) := by decide +kernel
theorem dL_harbour_634 : decode cL_harbour 634 = .ok (.iconst 0, 1) := by decide +kernel
theorem dL_harbour_635 : decode cL_harbour 635 = .ok (.invokevirtual 27, 3) := by decide +kernel
theorem dL_harbour_638 : decode cL_harbour 638 = .ok (.iconst 5, 1) := by decide +kernel
theorem dL_harbour_639 : decode cL_harbour 639 = .ok (.if_icmp .ne 167, 3) := by decide +kernel
theorem dL_harbour_642 : decode cL_harbour 642 = .ok (.aload_n 0, 1) := by decide +kernel
theorem dL_harbour_643 : decode cL_harbour 643 = .ok (.invokevirtual 78, 3) := by decide +kernel
theorem dL_harbour_646 : decode cL_harbour 646 = .ok (.iconst 3, 1) := by decide +kernel
theorem dL_harbour_647 : decode cL_harbour 647 = .ok (.if_icmp .ne 159, 3) := by decide +kernel
theorem dL_harbour_650 : decode cL_harbour 650 = .ok (.aload_n 0, 1) := by decide +kernel
theorem dL_harbour_651 : decode cL_harbour 651 = .ok (.iconst 0, 1) := by decide +kernel
theorem dL_harbour_652 : decode cL_harbour 652 = .ok (.iconst 3, 1) := by decide +kernel
theorem dL_harbour_653 : decode cL_harbour 653 = .ok (.invokevirtual 58, 3) := by decide +kernel
theorem dL_harbour_656 : decode cL_harbour 656 = .ok (.iconst 2, 1) := by decide +kernel
theorem dL_harbour_657 : decode cL_harbour 657 = .ok (.if_icmp .ne 149, 3) := by decide +kernel
theorem dL_harbour_660 : decode cL_harbour 660 = .ok (.aload_n 0, 1) := by decide +kernel
theorem dL_harbour_661 : decode cL_harbour 661 = .ok (.iconst 0, 1) := by decide +kernel
theorem dL_harbour_662 : decode cL_harbour 662 = .ok (.invokevirtual 55, 3) := by decide +kernel
theorem dL_harbour_665 : decode cL_harbour 665 = .ok (.iconst 1, 1) := by decide +kernel
theorem dL_harbour_666 : decode cL_harbour 666 = .ok (.if_icmp .ne 140, 3) := by decide +kernel
theorem dL_harbour_669 : decode cL_harbour 669 = .ok (.aload_n 0, 1) := by decide +kernel
theorem dL_harbour_670 : decode cL_harbour 670 = .ok (.iconst 2, 1) := by decide +kernel
theorem dL_harbour_671 : decode cL_harbour 671 = .ok (.iconst 0, 1) := by decide +kernel
theorem dL_harbour_672 : decode cL_harbour 672 = .ok (.bipush 59, 2) := by decide +kernel
theorem dL_harbour_674 : decode cL_harbour 674 = .ok (.invokevirtual 27, 3) := by decide +kernel
theorem dL_harbour_677 : decode cL_harbour 677 = .ok (.bipush 6, 2) := by decide +kernel
theorem dL_harbour_679 : decode cL_harbour 679 = .ok (.if_icmp .ne 127, 3) := by decide +kernel
theorem dL_harbour_682 : decode cL_harbour 682 = .ok (.aload_n 0, 1) := by decide +kernel
theorem dL_harbour_683 : decode cL_harbour 683 = .ok (.iconst 1, 1) := by decide +kernel
theorem dL_harbour_684 : decode cL_harbour 684 = .ok (.iconst 2, 1) := by decide +kernel
theorem dL_harbour_685 : decode cL_harbour 685 = .ok (.invokevirtual 45, 3) := by decide +kernel
theorem dL_harbour_688 : decode cL_harbour 688 = .ok (.iconst 1, 1) := by decide +kernel
theorem dL_harbour_689 : decode cL_harbour 689 = .ok (.if_icmp .ne 117, 3) := by decide +kernel
theorem dL_harbour_692 : decode cL_harbour 692 = .ok (.aload_n 0, 1) := by decide +kernel
theorem dL_harbour_693 : decode cL_harbour 693 = .ok (.invokevirtual 78, 3) := by decide +kernel
theorem dL_harbour_696 : decode cL_harbour 696 = .ok (.iconst 4, 1) := by decide +kernel
theorem dL_harbour_697 : decode cL_harbour 697 = .ok (.if_icmp .ne 109, 3) := by decide +kernel
theorem dL_harbour_700 : decode cL_harbour 700 = .ok (.aload_n 0, 1) := by decide +kernel
theorem dL_harbour_701 : decode cL_harbour 701 = .ok (.iconst 0, 1) := by decide +kernel
theorem dL_harbour_702 : decode cL_harbour 702 = .ok (.iconst 1, 1) := by decide +kernel
theorem dL_harbour_703 : decode cL_harbour 703 = .ok (.invokevirtual 52, 3) := by decide +kernel
theorem dL_harbour_706 : decode cL_harbour 706 = .ok (.iconst 1, 1) := by decide +kernel
theorem dL_harbour_707 : decode cL_harbour 707 = .ok (.if_icmp .ne 99, 3) := by decide +kernel
theorem dL_harbour_710 : decode cL_harbour 710 = .ok (.aload_n 0, 1) := by decide +kernel
theorem dL_harbour_711 : decode cL_harbour 711 = .ok (.iconst 0, 1) := by decide +kernel
theorem dL_harbour_712 : decode cL_harbour 712 = .ok (.iconst 3, 1) := by decide +kernel
theorem dL_harbour_713 : decode cL_harbour 713 = .ok (.invokevirtual 58, 3) := by decide +kernel
theorem dL_harbour_716 : decode cL_harbour 716 = .ok (.ifCond .ne 90, 3) := by decide +kernel
theorem dL_harbour_719 : decode cL_harbour 719 = .ok (.aload_n 0, 1) := by decide +kernel
theorem dL_harbour_720 : decode cL_harbour 720 = .ok (.iconst 0, 1) := by decide +kernel
theorem dL_harbour_721 : decode cL_harbour 721 = .ok (.iconst 2, 1) := by decide +kernel
theorem dL_harbour_722 : decode cL_harbour 722 = .ok (.invokevirtual 58, 3) := by decide +kernel
theorem dL_harbour_725 : decode cL_harbour 725 = .ok (.iconst 3, 1) := by decide +kernel
theorem dL_harbour_726 : decode cL_harbour 726 = .ok (.if_icmp .ne 80, 3) := by decide +kernel
theorem dL_harbour_729 : decode cL_harbour 729 = .ok (.aload_n 0, 1) := by decide +kernel
theorem dL_harbour_730 : decode cL_harbour 730 = .ok (.iconst 0, 1) := by decide +kernel
theorem dL_harbour_731 : decode cL_harbour 731 = .ok (.bipush 100, 2) := by decide +kernel
theorem dL_harbour_733 : decode cL_harbour 733 = .ok (.invokevirtual 52, 3) := by decide +kernel
theorem dL_harbour_736 : decode cL_harbour 736 = .ok (.iconst 1, 1) := by decide +kernel
theorem dL_harbour_737 : decode cL_harbour 737 = .ok (.if_icmp .ne 69, 3) := by decide +kernel
theorem dL_harbour_740 : decode cL_harbour 740 = .ok (.aload_n 0, 1) := by decide +kernel
theorem dL_harbour_741 : decode cL_harbour 741 = .ok (.iconst 0, 1) := by decide +kernel
theorem dL_harbour_742 : decode cL_harbour 742 = .ok (.bipush 100, 2) := by decide +kernel
theorem dL_harbour_744 : decode cL_harbour 744 = .ok (.invokevirtual 52, 3) := by decide +kernel
theorem dL_harbour_747 : decode cL_harbour 747 = .ok (.ifCond .ne 59, 3) := by decide +kernel
theorem dL_harbour_750 : decode cL_harbour 750 = .ok (.aload_n 0, 1) := by decide +kernel
theorem dL_harbour_751 : decode cL_harbour 751 = .ok (.iconst 0, 1) := by decide +kernel
theorem dL_harbour_752 : decode cL_harbour 752 = .ok (.iconst 2, 1) := by decide +kernel
theorem dL_harbour_753 : decode cL_harbour 753 = .ok (.invokevirtual 58, 3) := by decide +kernel
theorem dL_harbour_756 : decode cL_harbour 756 = .ok (.ifCond .ne 50, 3) := by decide +kernel
theorem dL_harbour_759 : decode cL_harbour 759 = .ok (.aload_n 0, 1) := by decide +kernel
theorem dL_harbour_760 : decode cL_harbour 760 = .ok (.iconst 3, 1) := by decide +kernel
theorem dL_harbour_761 : decode cL_harbour 761 = .ok (.iconst 2, 1) := by decide +kernel
theorem dL_harbour_762 : decode cL_harbour 762 = .ok (.iconst 0, 1) := by decide +kernel
theorem dL_harbour_763 : decode cL_harbour 763 = .ok (.invokevirtual 27, 3) := by decide +kernel
theorem dL_harbour_766 : decode cL_harbour 766 = .ok (.bipush 7, 2) := by decide +kernel
theorem dL_harbour_768 : decode cL_harbour 768 = .ok (.if_icmp .ne 38, 3) := by decide +kernel
theorem dL_harbour_771 : decode cL_harbour 771 = .ok (.aload_n 0, 1) := by decide +kernel
theorem dL_harbour_772 : decode cL_harbour 772 = .ok (.invokevirtual 49, 3) := by decide +kernel
theorem dL_harbour_775 : decode cL_harbour 775 = .ok (.iconst 1, 1) := by decide +kernel
theorem dL_harbour_776 : decode cL_harbour 776 = .ok (.if_icmp .ne 30, 3) := by decide +kernel
theorem dL_harbour_779 : decode cL_harbour 779 = .ok (.aload_n 0, 1) := by decide +kernel
theorem dL_harbour_780 : decode cL_harbour 780 = .ok (.iconst 1, 1) := by decide +kernel
theorem dL_harbour_781 : decode cL_harbour 781 = .ok (.invokevirtual 55, 3) := by decide +kernel
theorem dL_harbour_784 : decode cL_harbour 784 = .ok (.ifCond .ne 22, 3) := by decide +kernel
theorem dL_harbour_787 : decode cL_harbour 787 = .ok (.aload_n 0, 1) := by decide +kernel
theorem dL_harbour_788 : decode cL_harbour 788 = .ok (.iconst 0, 1) := by decide +kernel
theorem dL_harbour_789 : decode cL_harbour 789 = .ok (.invokevirtual 55, 3) := by decide +kernel
theorem dL_harbour_792 : decode cL_harbour 792 = .ok (.iconst 1, 1) := by decide +kernel
theorem dL_harbour_793 : decode cL_harbour 793 = .ok (.if_icmp .ne 13, 3) := by decide +kernel
theorem dL_harbour_796 : decode cL_harbour 796 = .ok (.aload_n 0, 1) := by decide +kernel
theorem dL_harbour_797 : decode cL_harbour 797 = .ok (.iconst 4, 1) := by decide +kernel
theorem dL_harbour_798 : decode cL_harbour 798 = .ok (.iconst 4, 1) := by decide +kernel
theorem dL_harbour_799 : decode cL_harbour 799 = .ok (.iconst 2, 1) := by decide +kernel
theorem dL_harbour_800 : decode cL_harbour 800 = .ok (.invokestatic 96, 3) := by decide +kernel
theorem dL_harbour_803 : decode cL_harbour 803 = .ok (.ifCond .ne 5, 3) := by decide +kernel
theorem dL_harbour_806 : decode cL_harbour 806 = .ok (.iconst 0, 1) := by decide +kernel
theorem dL_harbour_807 : decode cL_harbour 807 = .ok (.ireturn, 1) := by decide +kernel
theorem dL_harbour_808 : decode cL_harbour 808 = .ok (.aload_n 0, 1) := by decide +kernel
theorem dL_harbour_809 : decode cL_harbour 809 = .ok (.iconst 1, 1) := by decide +kernel
theorem dL_harbour_810 : decode cL_harbour 810 = .ok (.bipush 15, 2) := by decide +kernel
theorem dL_harbour_812 : decode cL_harbour 812 = .ok (.bipush 10, 2) := by decide +kernel
theorem dL_harbour_814 : decode cL_harbour 814 = .ok (.iconst 0, 1) := by decide +kernel
theorem dL_harbour_815 : decode cL_harbour 815 = .ok (.iconst 0, 1) := by decide +kernel
theorem dL_harbour_816 : decode cL_harbour 816 = .ok (.iconst 5, 1) := by decide +kernel
theorem dL_harbour_817 : decode cL_harbour 817 = .ok (.invokevirtual 71, 3) := by decide +kernel
theorem dL_harbour_820 : decode cL_harbour 820 = .ok (.bipush (-2), 2) := by decide +kernel
theorem dL_harbour_822 : decode cL_harbour 822 = .ok (.if_icmp .ne 305, 3) := by decide +kernel
theorem dL_harbour_825 : decode cL_harbour 825 = .ok (.aload_n 0, 1) := by decide +kernel
theorem dL_harbour_826 : decode cL_harbour 826 = .ok (.iconst 1, 1) := by decide +kernel
theorem dL_harbour_827 : decode cL_harbour 827 = .ok (.bipush 10, 2) := by decide +kernel
theorem dL_harbour_829 : decode cL_harbour 829 = .ok (.bipush 15, 2) := by decide +kernel
theorem dL_harbour_831 : decode cL_harbour 831 = .ok (.iconst 0, 1) := by decide +kernel
theorem dL_harbour_832 : decode cL_harbour 832 = .ok (.iconst 0, 1) := by decide +kernel
theorem dL_harbour_833 : decode cL_harbour 833 = .ok (.iconst 5, 1) := by decide +kernel
theorem dL_harbour_834 : decode cL_harbour 834 = .ok (.invokevirtual 71, 3) := by decide +kernel
theorem dL_harbour_837 : decode cL_harbour 837 = .ok (.ifCond .ne 290, 3) := by decide +kernel
theorem dL_harbour_840 : decode cL_harbour 840 = .ok (.aload_n 0, 1) := by decide +kernel
theorem dL_harbour_841 : decode cL_harbour 841 = .ok (.iconst 1, 1) := by decide +kernel
theorem dL_harbour_842 : decode cL_harbour 842 = .ok (.bipush 15, 2) := by decide +kernel
theorem dL_harbour_844 : decode cL_harbour 844 = .ok (.bipush 10, 2) := by decide +kernel
theorem dL_harbour_846 : decode cL_harbour 846 = .ok (.iconst 3, 1) := by decide +kernel
theorem dL_harbour_847 : decode cL_harbour 847 = .ok (.iconst 0, 1) := by decide +kernel
theorem dL_harbour_848 : decode cL_harbour 848 = .ok (.iconst 5, 1) := by decide +kernel
theorem dL_harbour_849 : decode cL_harbour 849 = .ok (.invokevirtual 71, 3) := by decide +kernel
theorem dL_harbour_852 : decode cL_harbour 852 = .ok (.iconst 3, 1) := by decide +kernel
theorem dL_harbour_853 : decode cL_harbour 853 = .ok (.if_icmp .ne 274, 3) := by decide +kernel
theorem dL_harbour_856 : decode cL_harbour 856 = .ok (.aload_n 0, 1) := by decide +kernel
theorem dL_harbour_857 : decode cL_harbour 857 = .ok (.iconst 1, 1) := by decide +kernel
theorem dL_harbour_858 : decode cL_harbour 858 = .ok (.bipush 15, 2) := by decide +kernel
theorem dL_harbour_860 : decode cL_harbour 860 = .ok (.bipush 10, 2) := by decide +kernel
theorem dL_harbour_862 : decode cL_harbour 862 = .ok (.iconst 3, 1) := by decide +kernel
theorem dL_harbour_863 : decode cL_harbour 863 = .ok (.iconst 0, 1) := by decide +kernel
theorem dL_harbour_864 : decode cL_harbour 864 = .ok (.iconst 2, 1) := by decide +kernel
theorem dL_harbour_865 : decode cL_harbour 865 = .ok (.invokevirtual 71, 3) := by decide +kernel
theorem dL_harbour_868 : decode cL_harbour 868 = .ok (.bipush (-2), 2) := by decide +kernel
theorem dL_harbour_870 : decode cL_harbour 870 = .ok (.if_icmp .ne 257, 3) := by decide +kernel
theorem dL_harbour_873 : decode cL_harbour 873 = .ok (.aload_n 0, 1) := by decide +kernel
theorem dL_harbour_874 : decode cL_harbour 874 = .ok (.iconst 1, 1) := by decide +kernel
theorem dL_harbour_875 : decode cL_harbour 875 = .ok (.bipush 20, 2) := by decide +kernel
theorem dL_harbour_877 : decode cL_harbour 877 = .ok (.bipush 10, 2) := by decide +kernel
theorem dL_harbour_879 : decode cL_harbour 879 = .ok (.iconst 3, 1) := by decide +kernel
theorem dL_harbour_880 : decode cL_harbour 880 = .ok (.iconst 0, 1) := by decide +kernel
theorem dL_harbour_881 : decode cL_harbour 881 = .ok (.bipush 60, 2) := by decide +kernel
theorem dL_harbour_883 : decode cL_harbour 883 = .ok (.invokevirtual 71, 3) := by decide +kernel
theorem dL_harbour_886 : decode cL_harbour 886 = .ok (.iconst 3, 1) := by decide +kernel
theorem dL_harbour_887 : decode cL_harbour 887 = .ok (.if_icmp .ne 240, 3) := by decide +kernel
theorem dL_harbour_890 : decode cL_harbour 890 = .ok (.aload_n 0, 1) := by decide +kernel
theorem dL_harbour_891 : decode cL_harbour 891 = .ok (.iconst 1, 1) := by decide +kernel
theorem dL_harbour_892 : decode cL_harbour 892 = .ok (.bipush 15, 2) := by decide +kernel
theorem dL_harbour_894 : decode cL_harbour 894 = .ok (.bipush 10, 2) := by decide +kernel
theorem dL_harbour_896 : decode cL_harbour 896 = .ok (.iconst 1, 1) := by decide +kernel
theorem dL_harbour_897 : decode cL_harbour 897 = .ok (.sipush 1000, 3) := by decide +kernel
theorem dL_harbour_900 : decode cL_harbour 900 = .ok (.bipush 60, 2) := by decide +kernel
theorem dL_harbour_902 : decode cL_harbour 902 = .ok (.invokevirtual 71, 3) := by decide +kernel
theorem dL_harbour_905 : decode cL_harbour 905 = .ok (.bipush (-2), 2) := by decide +kernel
theorem dL_harbour_907 : decode cL_harbour 907 = .ok (.if_icmp .ne 220, 3) := by decide +kernel
theorem dL_harbour_910 : decode cL_harbour 910 = .ok (.aload_n 0, 1) := by decide +kernel
theorem dL_harbour_911 : decode cL_harbour 911 = .ok (.iconst 1, 1) := by decide +kernel
theorem dL_harbour_912 : decode cL_harbour 912 = .ok (.iconst 5, 1) := by decide +kernel
theorem dL_harbour_913 : decode cL_harbour 913 = .ok (.iconst 5, 1) := by decide +kernel
theorem dL_harbour_914 : decode cL_harbour 914 = .ok (.iconst 3, 1) := by decide +kernel
theorem dL_harbour_915 : decode cL_harbour 915 = .ok (.iconst 0, 1) := by decide +kernel
theorem dL_harbour_916 : decode cL_harbour 916 = .ok (.iconst 5, 1) := by decide +kernel
theorem dL_harbour_917 : decode cL_harbour 917 = .ok (.invokevirtual 71, 3) := by decide +kernel
theorem dL_harbour_920 : decode cL_harbour 920 = .ok (.iconst (-1), 1) := by decide +kernel
theorem dL_harbour_921 : decode cL_harbour 921 = .ok (.if_icmp .ne 206, 3) := by decide +kernel
theorem dL_harbour_924 : decode cL_harbour 924 = .ok (.aload_n 0, 1) := by decide +kernel
theorem dL_harbour_925 : decode cL_harbour 925 = .ok (.iconst 1, 1) := by decide +kernel
theorem dL_harbour_926 : decode cL_harbour 926 = .ok (.iconst 0, 1) := by decide +kernel
theorem dL_harbour_927 : decode cL_harbour 927 = .ok (.iconst 1, 1) := by decide +kernel
theorem dL_harbour_928 : decode cL_harbour 928 = .ok (.iconst 3, 1) := by decide +kernel
theorem dL_harbour_929 : decode cL_harbour 929 = .ok (.iconst 0, 1) := by decide +kernel
theorem dL_harbour_930 : decode cL_harbour 930 = .ok (.iconst 5, 1) := by decide +kernel
theorem dL_harbour_931 : decode cL_harbour 931 = .ok (.invokevirtual 71, 3) := by decide +kernel
theorem dL_harbour_934 : decode cL_harbour 934 = .ok (.iconst (-1), 1) := by decide +kernel
theorem dL_harbour_935 : decode cL_harbour 935 = .ok (.if_icmp .ne 192, 3) := by decide +kernel
theorem dL_harbour_938 : decode cL_harbour 938 = .ok (.aload_n 0, 1) := by decide +kernel
theorem dL_harbour_939 : decode cL_harbour 939 = .ok (.iconst 1, 1) := by decide +kernel
theorem dL_harbour_940 : decode cL_harbour 940 = .ok (.bipush 31, 2) := by decide +kernel
theorem dL_harbour_942 : decode cL_harbour 942 = .ok (.bipush 30, 2) := by decide +kernel
theorem dL_harbour_944 : decode cL_harbour 944 = .ok (.iconst 0, 1) := by decide +kernel
theorem dL_harbour_945 : decode cL_harbour 945 = .ok (.iconst 0, 1) := by decide +kernel
theorem dL_harbour_946 : decode cL_harbour 946 = .ok (.iconst 4, 1) := by decide +kernel
theorem dL_harbour_947 : decode cL_harbour 947 = .ok (.invokevirtual 71, 3) := by decide +kernel
theorem dL_harbour_950 : decode cL_harbour 950 = .ok (.bipush (-2), 2) := by decide +kernel
theorem dL_harbour_952 : decode cL_harbour 952 = .ok (.if_icmp .ne 175, 3) := by decide +kernel
theorem dL_harbour_955 : decode cL_harbour 955 = .ok (.aload_n 0, 1) := by decide +kernel
theorem dL_harbour_956 : decode cL_harbour 956 = .ok (.iconst 0, 1) := by decide +kernel
theorem dL_harbour_957 : decode cL_harbour 957 = .ok (.bipush 15, 2) := by decide +kernel
theorem dL_harbour_959 : decode cL_harbour 959 = .ok (.bipush 10, 2) := by decide +kernel
theorem dL_harbour_961 : decode cL_harbour 961 = .ok (.iconst 3, 1) := by decide +kernel
theorem dL_harbour_962 : decode cL_harbour 962 = .ok (.iconst 0, 1) := by decide +kernel
theorem dL_harbour_963 : decode cL_harbour 963 = .ok (.iconst 5, 1) := by decide +kernel
theorem dL_harbour_964 : decode cL_harbour 964 = .ok (.invokevirtual 71, 3) := by decide +kernel
theorem dL_harbour_967 : decode cL_harbour 967 = .ok (.iconst (-1), 1) := by decide +kernel
theorem dL_harbour_968 : decode cL_harbour 968 = .ok (.if_icmp .ne 159, 3) := by decide +kernel
theorem dL_harbour_971 : decode cL_harbour 971 = .ok (.aload_n 0, 1) := by decide +kernel
theorem dL_harbour_972 : decode cL_harbour 972 = .ok (.iconst 0, 1) := by decide +kernel
theorem dL_harbour_973 : decode cL_harbour 973 = .ok (.bipush 15, 2) := by decide +kernel
theorem dL_harbour_975 : decode cL_harbour 975 = .ok (.bipush 10, 2) := by decide +kernel
theorem dL_harbour_977 : decode cL_harbour 977 = .ok (.iconst 3, 1) := by decide +kernel
theorem dL_harbour_978 : decode cL_harbour 978 = .ok (.iconst 3, 1) := by decide +kernel
theorem dL_harbour_979 : decode cL_harbour 979 = .ok (.iconst 2, 1) := by decide +kernel
theorem dL_harbour_980 : decode cL_harbour 980 = .ok (.invokevirtual 71, 3) := by decide +kernel
theorem dL_harbour_983 : decode cL_harbour 983 = .ok (.bipush (-2), 2) := by decide +kernel
theorem dL_harbour_985 : decode cL_harbour 985 = .ok (.if_icmp .ne 142, 3) := by decide +kernel
theorem dL_harbour_988 : decode cL_harbour 988 = .ok (.aload_n 0, 1) := by decide +kernel
theorem dL_harbour_989 : decode cL_harbour 989 = .ok (.iconst 3, 1) := by decide +kernel
theorem dL_harbour_990 : decode cL_harbour 990 = .ok (.iconst 1, 1) := by decide +kernel
theorem dL_harbour_991 : decode cL_harbour 991 = .ok (.invokevirtual 31, 3) := by decide +kernel
theorem dL_harbour_994 : decode cL_harbour 994 = .ok (.bipush 8, 2) := by decide +kernel
theorem dL_harbour_996 : decode cL_harbour 996 = .ok (.if_icmp .ne 131, 3) := by decide +kernel
theorem dL_harbour_999 : decode cL_harbour 999 = .ok (.aload_n 0, 1) := by decide +kernel
theorem dL_harbour_1000 : decode cL_harbour 1000 = .ok (.bipush 6, 2) := by decide +kernel
theorem dL_harbour_1002 : decode cL_harbour 1002 = .ok (.iconst 3, 1) := by decide +kernel
theorem dL_harbour_1003 : decode cL_harbour 1003 = .ok (.iconst 1, 1) := by decide +kernel
theorem dL_harbour_1004 : decode cL_harbour 1004 = .ok (.iconst 0, 1) := by decide +kernel
theorem dL_harbour_1005 : decode cL_harbour 1005 = .ok (.invokestatic 82, 3) := by decide +kernel
theorem dL_harbour_1008 : decode cL_harbour 1008 = .ok (.bipush (-73), 2) := by decide +kernel
theorem dL_harbour_1010 : decode cL_harbour 1010 = .ok (.if_icmp .ne 117, 3) := by decide +kernel
theorem dL_harbour_1013 : decode cL_harbour 1013 = .ok (.aload_n 0, 1) := by decide +kernel
theorem dL_harbour_1014 : decode cL_harbour 1014 = .ok (.bipush 6, 2) := by decide +kernel
theorem dL_harbour_1016 : decode cL_harbour 1016 = .ok (.iconst 2, 1) := by decide +kernel
theorem dL_harbour_1017 : decode cL_harbour 1017 = .ok (.iconst 0, 1) := by decide +kernel
theorem dL_harbour_1018 : decode cL_harbour 1018 = .ok (.iconst 0, 1) := by decide +kernel
theorem dL_harbour_1019 : decode cL_harbour 1019 = .ok (.invokestatic 82, 3) := by decide +kernel
theorem dL_harbour_1022 : decode cL_harbour 1022 = .ok (.bipush (-73), 2) := by decide +kernel
theorem dL_harbour_1024 : decode cL_harbour 1024 = .ok (.if_icmp .ne 103, 3) := by decide +kernel
theorem dL_harbour_1027 : decode cL_harbour 1027 = .ok (.aload_n 0, 1) := by decide +kernel
theorem dL_harbour_1028 : decode cL_harbour 1028 = .ok (.iconst 3, 1) := by decide +kernel
theorem dL_harbour_1029 : decode cL_harbour 1029 = .ok (.iconst 0, 1) := by decide +kernel
theorem dL_harbour_1030 : decode cL_harbour 1030 = .ok (.invokevirtual 35, 3) := by decide +kernel
theorem dL_harbour_1033 : decode cL_harbour 1033 = .ok (.ifCond .ne 94, 3) := by decide +kernel
theorem dL_harbour_1036 : decode cL_harbour 1036 = .ok (.aload_n 0, 1) := by decide +kernel
theorem dL_harbour_1037 : decode cL_harbour 1037 = .ok (.invokevirtual 78, 3) := by decide +kernel
theorem dL_harbour_1040 : decode cL_harbour 1040 = .ok (.iconst 2, 1) := by decide +kernel
theorem dL_harbour_1041 : decode cL_harbour 1041 = .ok (.if_icmp .ne 86, 3) := by decide +kernel
theorem dL_harbour_1044 : decode cL_harbour 1044 = .ok (.aload_n 0, 1) := by decide +kernel
theorem dL_harbour_1045 : decode cL_harbour 1045 = .ok (.iconst 1, 1) := by decide +kernel
theorem dL_harbour_1046 : decode cL_harbour 1046 = .ok (.bipush 20, 2) := by decide +kernel
theorem dL_harbour_1048 : decode cL_harbour 1048 = .ok (.bipush 10, 2) := by decide +kernel
theorem dL_harbour_1050 : decode cL_harbour 1050 = .ok (.iconst 3, 1) := by decide +kernel
theorem dL_harbour_1051 : decode cL_harbour 1051 = .ok (.iconst 0, 1) := by decide +kernel
theorem dL_harbour_1052 : decode cL_harbour 1052 = .ok (.iconst 2, 1) := by decide +kernel
theorem dL_harbour_1053 : decode cL_harbour 1053 = .ok (.invokevirtual 71, 3) := by decide +kernel
theorem dL_harbour_1056 : decode cL_harbour 1056 = .ok (.bipush (-2), 2) := by decide +kernel
theorem dL_harbour_1058 : decode cL_harbour 1058 = .ok (.if_icmp .ne 69, 3) := by decide +kernel
theorem dL_harbour_1061 : decode cL_harbour 1061 = .ok (.aload_n 0, 1) := by decide +kernel
theorem dL_harbour_1062 : decode cL_harbour 1062 = .ok (.iconst 1, 1) := by decide +kernel
theorem dL_harbour_1063 : decode cL_harbour 1063 = .ok (.bipush 22, 2) := by decide +kernel
theorem dL_harbour_1065 : decode cL_harbour 1065 = .ok (.bipush 10, 2) := by decide +kernel
theorem dL_harbour_1067 : decode cL_harbour 1067 = .ok (.iconst 3, 1) := by decide +kernel
theorem dL_harbour_1068 : decode cL_harbour 1068 = .ok (.iconst 0, 1) := by decide +kernel
theorem dL_harbour_1069 : decode cL_harbour 1069 = .ok (.iconst 3, 1) := by decide +kernel
theorem dL_harbour_1070 : decode cL_harbour 1070 = .ok (.invokevirtual 71, 3) := by decide +kernel
theorem dL_harbour_1073 : decode cL_harbour 1073 = .ok (.iconst 1, 1) := by decide +kernel
theorem dL_harbour_1074 : decode cL_harbour 1074 = .ok (.if_icmp .ne 53, 3) := by decide +kernel
theorem dL_harbour_1077 : decode cL_harbour 1077 = .ok (.aload_n 0, 1) := by decide +kernel
theorem dL_harbour_1078 : decode cL_harbour 1078 = .ok (.iconst 1, 1) := by decide +kernel
theorem dL_harbour_1079 : decode cL_harbour 1079 = .ok (.bipush 22, 2) := by decide +kernel
theorem dL_harbour_1081 : decode cL_harbour 1081 = .ok (.bipush 15, 2) := by decide +kernel
theorem dL_harbour_1083 : decode cL_harbour 1083 = .ok (.iconst 3, 1) := by decide +kernel
theorem dL_harbour_1084 : decode cL_harbour 1084 = .ok (.bipush 7, 2) := by decide +kernel
theorem dL_harbour_1086 : decode cL_harbour 1086 = .ok (.iconst 4, 1) := by decide +kernel
theorem dL_harbour_1087 : decode cL_harbour 1087 = .ok (.invokevirtual 71, 3) := by decide +kernel
theorem dL_harbour_1090 : decode cL_harbour 1090 = .ok (.iconst (-1), 1) := by decide +kernel
theorem dL_harbour_1091 : decode cL_harbour 1091 = .ok (.if_icmp .ne 36, 3) := by decide +kernel
theorem dL_harbour_1094 : decode cL_harbour 1094 = .ok (.aload_n 0, 1) := by decide +kernel
theorem dL_harbour_1095 : decode cL_harbour 1095 = .ok (.iconst 1, 1) := by decide +kernel
theorem dL_harbour_1096 : decode cL_harbour 1096 = .ok (.bipush 22, 2) := by decide +kernel
theorem dL_harbour_1098 : decode cL_harbour 1098 = .ok (.bipush 12, 2) := by decide +kernel
theorem dL_harbour_1100 : decode cL_harbour 1100 = .ok (.iconst 1, 1) := by decide +kernel
theorem dL_harbour_1101 : decode cL_harbour 1101 = .ok (.iconst 0, 1) := by decide +kernel
theorem dL_harbour_1102 : decode cL_harbour 1102 = .ok (.iconst 3, 1) := by decide +kernel
theorem dL_harbour_1103 : decode cL_harbour 1103 = .ok (.invokevirtual 71, 3) := by decide +kernel
theorem dL_harbour_1106 : decode cL_harbour 1106 = .ok (.bipush (-2), 2) := by decide +kernel
theorem dL_harbour_1108 : decode cL_harbour 1108 = .ok (.if_icmp .ne 19, 3) := by decide +kernel
theorem dL_harbour_1111 : decode cL_harbour 1111 = .ok (.aload_n 0, 1) := by decide +kernel
theorem dL_harbour_1112 : decode cL_harbour 1112 = .ok (.iconst 1, 1) := by decide +kernel
theorem dL_harbour_1113 : decode cL_harbour 1113 = .ok (.bipush 22, 2) := by decide +kernel
theorem dL_harbour_1115 : decode cL_harbour 1115 = .ok (.bipush 12, 2) := by decide +kernel
theorem dL_harbour_1117 : decode cL_harbour 1117 = .ok (.iconst 1, 1) := by decide +kernel
theorem dL_harbour_1118 : decode cL_harbour 1118 = .ok (.iconst 0, 1) := by decide +kernel
theorem dL_harbour_1119 : decode cL_harbour 1119 = .ok (.iconst 5, 1) := by decide +kernel
theorem dL_harbour_1120 : decode cL_harbour 1120 = .ok (.invokevirtual 71, 3) := by decide +kernel
theorem dL_harbour_1123 : decode cL_harbour 1123 = .ok (.iconst 1, 1) := by decide +kernel
theorem dL_harbour_1124 : decode cL_harbour 1124 = .ok (.if_icmp .eq 5, 3) := by decide +kernel
theorem dL_harbour_1127 : decode cL_harbour 1127 = .ok (.iconst 0, 1) := by decide +kernel
theorem dL_harbour_1128 : decode cL_harbour 1128 = .ok (.ireturn, 1) := by decide +kernel
theorem dL_harbour_1129 : decode cL_harbour 1129 = .ok (.aload_n 0, 1) := by decide +kernel
theorem dL_harbour_1130 : decode cL_harbour 1130 = .ok (.iconst 1, 1) := by decide +kernel
theorem dL_harbour_1131 : decode cL_harbour 1131 = .ok (.iconst 3, 1) := by decide +kernel
theorem dL_harbour_1132 : decode cL_harbour 1132 = .ok (.invokevirtual 58, 3) := by decide +kernel
theorem dL_harbour_1135 : decode cL_harbour 1135 = .ok (.iconst 2, 1) := by decide +kernel
theorem dL_harbour_1136 : decode cL_harbour 1136 = .ok (.if_icmp .ne 205, 3) := by decide +kernel
theorem dL_harbour_1139 : decode cL_harbour 1139 = .ok (.aload_n 0, 1) := by decide +kernel
theorem dL_harbour_1140 : decode cL_harbour 1140 = .ok (.iconst 1, 1) := by decide +kernel
theorem dL_harbour_1141 : decode cL_harbour 1141 = .ok (.iconst 1, 1) := by decide +kernel
theorem dL_harbour_1142 : decode cL_harbour 1142 = .ok (.invokevirtual 52, 3) := by decide +kernel
theorem dL_harbour_1145 : decode cL_harbour 1145 = .ok (.iconst 1, 1) := by decide +kernel
theorem dL_harbour_1146 : decode cL_harbour 1146 = .ok (.if_icmp .ne 195, 3) := by decide +kernel
theorem dL_harbour_1149 : decode cL_harbour 1149 = .ok (.aload_n 0, 1) := by decide +kernel
theorem dL_harbour_1150 : decode cL_harbour 1150 = .ok (.iconst 1, 1) := by decide +kernel
theorem dL_harbour_1151 : decode cL_harbour 1151 = .ok (.iconst 3, 1) := by decide +kernel
theorem dL_harbour_1152 : decode cL_harbour 1152 = .ok (.invokevirtual 58, 3) := by decide +kernel
theorem dL_harbour_1155 : decode cL_harbour 1155 = .ok (.iconst (-1), 1) := by decide +kernel
theorem dL_harbour_1156 : decode cL_harbour 1156 = .ok (.if_icmp .ne 185, 3) := by decide +kernel
theorem dL_harbour_1159 : decode cL_harbour 1159 = .ok (.aload_n 0, 1) := by decide +kernel
theorem dL_harbour_1160 : decode cL_harbour 1160 = .ok (.iconst 1, 1) := by decide +kernel
theorem dL_harbour_1161 : decode cL_harbour 1161 = .ok (.bipush 20, 2) := by decide +kernel
theorem dL_harbour_1163 : decode cL_harbour 1163 = .ok (.bipush 10, 2) := by decide +kernel
theorem dL_harbour_1165 : decode cL_harbour 1165 = .ok (.iconst 3, 1) := by decide +kernel
theorem dL_harbour_1166 : decode cL_harbour 1166 = .ok (.iconst 0, 1) := by decide +kernel
theorem dL_harbour_1167 : decode cL_harbour 1167 = .ok (.iconst 2, 1) := by decide +kernel
theorem dL_harbour_1168 : decode cL_harbour 1168 = .ok (.invokevirtual 71, 3) := by decide +kernel
theorem dL_harbour_1171 : decode cL_harbour 1171 = .ok (.iconst 1, 1) := by decide +kernel
theorem dL_harbour_1172 : decode cL_harbour 1172 = .ok (.if_icmp .ne 169, 3) := by decide +kernel
theorem dL_harbour_1175 : decode cL_harbour 1175 = .ok (.aload_n 0, 1) := by decide +kernel
theorem dL_harbour_1176 : decode cL_harbour 1176 = .ok (.iconst 3, 1) := by decide +kernel
theorem dL_harbour_1177 : decode cL_harbour 1177 = .ok (.iconst 3, 1) := by decide +kernel
theorem dL_harbour_1178 : decode cL_harbour 1178 = .ok (.iconst 0, 1) := by decide +kernel
theorem dL_harbour_1179 : decode cL_harbour 1179 = .ok (.invokevirtual 27, 3) := by decide +kernel
theorem dL_harbour_1182 : decode cL_harbour 1182 = .ok (.bipush 9, 2) := by decide +kernel
theorem dL_harbour_1184 : decode cL_harbour 1184 = .ok (.if_icmp .ne 157, 3) := by decide +kernel
theorem dL_harbour_1187 : decode cL_harbour 1187 = .ok (.aload_n 0, 1) := by decide +kernel
theorem dL_harbour_1188 : decode cL_harbour 1188 = .ok (.iconst 1, 1) := by decide +kernel
theorem dL_harbour_1189 : decode cL_harbour 1189 = .ok (.bipush 100, 2) := by decide +kernel
theorem dL_harbour_1191 : decode cL_harbour 1191 = .ok (.invokevirtual 52, 3) := by decide +kernel
theorem dL_harbour_1194 : decode cL_harbour 1194 = .ok (.iconst 1, 1) := by decide +kernel
theorem dL_harbour_1195 : decode cL_harbour 1195 = .ok (.if_icmp .ne 146, 3) := by decide +kernel
theorem dL_harbour_1198 : decode cL_harbour 1198 = .ok (.aload_n 0, 1) := by decide +kernel
theorem dL_harbour_1199 : decode cL_harbour 1199 = .ok (.iconst 1, 1) := by decide +kernel
theorem dL_harbour_1200 : decode cL_harbour 1200 = .ok (.iconst 3, 1) := by decide +kernel
theorem dL_harbour_1201 : decode cL_harbour 1201 = .ok (.invokevirtual 58, 3) := by decide +kernel
theorem dL_harbour_1204 : decode cL_harbour 1204 = .ok (.iconst (-1), 1) := by decide +kernel
theorem dL_harbour_1205 : decode cL_harbour 1205 = .ok (.if_icmp .ne 136, 3) := by decide +kernel
theorem dL_harbour_1208 : decode cL_harbour 1208 = .ok (.aload_n 0, 1) := by decide +kernel
theorem dL_harbour_1209 : decode cL_harbour 1209 = .ok (.invokevirtual 49, 3) := by decide +kernel
theorem dL_harbour_1212 : decode cL_harbour 1212 = .ok (.iconst 2, 1) := by decide +kernel
theorem dL_harbour_1213 : decode cL_harbour 1213 = .ok (.if_icmp .ne 128, 3) := by decide +kernel
theorem dL_harbour_1216 : decode cL_harbour 1216 = .ok (.aload_n 0, 1) := by decide +kernel
theorem dL_harbour_1217 : decode cL_harbour 1217 = .ok (.iconst 2, 1) := by decide +kernel
theorem dL_harbour_1218 : decode cL_harbour 1218 = .ok (.iconst 3, 1) := by decide +kernel
theorem dL_harbour_1219 : decode cL_harbour 1219 = .ok (.invokevirtual 58, 3) := by decide +kernel
theorem dL_harbour_1222 : decode cL_harbour 1222 = .ok (.iconst (-1), 1) := by decide +kernel
theorem dL_harbour_1223 : decode cL_harbour 1223 = .ok (.if_icmp .ne 118, 3) := by decide +kernel
theorem dL_harbour_1226 : decode cL_harbour 1226 = .ok (.aload_n 0, 1) := by decide +kernel
theorem dL_harbour_1227 : decode cL_harbour 1227 = .ok (.iconst 3, 1) := by decide +kernel
theorem dL_harbour_1228 : decode cL_harbour 1228 = .ok (.iconst 0, 1) := by decide +kernel
theorem dL_harbour_1229 : decode cL_harbour 1229 = .ok (.invokevirtual 31, 3) := by decide +kernel
theorem dL_harbour_1232 : decode cL_harbour 1232 = .ok (.bipush 10, 2) := by decide +kernel
theorem dL_harbour_1234 : decode cL_harbour 1234 = .ok (.if_icmp .ne 107, 3) := by decide +kernel
theorem dL_harbour_1237 : decode cL_harbour 1237 = .ok (.aload_n 0, 1) := by decide +kernel
theorem dL_harbour_1238 : decode cL_harbour 1238 = .ok (.iconst 3, 1) := by decide +kernel
theorem dL_harbour_1239 : decode cL_harbour 1239 = .ok (.iconst 0, 1) := by decide +kernel
theorem dL_harbour_1240 : decode cL_harbour 1240 = .ok (.invokevirtual 35, 3) := by decide +kernel
theorem dL_harbour_1243 : decode cL_harbour 1243 = .ok (.ifCond .eq 98, 3) := by decide +kernel
theorem dL_harbour_1246 : decode cL_harbour 1246 = .ok (.aload_n 0, 1) := by decide +kernel
theorem dL_harbour_1247 : decode cL_harbour 1247 = .ok (.iconst 1, 1) := by decide +kernel
theorem dL_harbour_1248 : decode cL_harbour 1248 = .ok (.bipush 100, 2) := by decide +kernel
theorem dL_harbour_1250 : decode cL_harbour 1250 = .ok (.invokevirtual 52, 3) := by decide +kernel
theorem dL_harbour_1253 : decode cL_harbour 1253 = .ok (.iconst 1, 1) := by decide +kernel
theorem dL_harbour_1254 : decode cL_harbour 1254 = .ok (.if_icmp .ne 87, 3) := by decide +kernel
theorem dL_harbour_1257 : decode cL_harbour 1257 = .ok (.aload_n 0, 1) := by decide +kernel
theorem dL_harbour_1258 : decode cL_harbour 1258 = .ok (.iconst 1, 1) := by decide +kernel
theorem dL_harbour_1259 : decode cL_harbour 1259 = .ok (.iconst 3, 1) := by decide +kernel
theorem dL_harbour_1260 : decode cL_harbour 1260 = .ok (.invokevirtual 58, 3) := by decide +kernel
theorem dL_harbour_1263 : decode cL_harbour 1263 = .ok (.iconst 3, 1) := by decide +kernel
theorem dL_harbour_1264 : decode cL_harbour 1264 = .ok (.if_icmp .ne 77, 3) := by decide +kernel
theorem dL_harbour_1267 : decode cL_harbour 1267 = .ok (.aload_n 0, 1) := by decide +kernel
theorem dL_harbour_1268 : decode cL_harbour 1268 = .ok (.iconst 2, 1) := by decide +kernel
theorem dL_harbour_1269 : decode cL_harbour 1269 = .ok (.iconst 3, 1) := by decide +kernel
theorem dL_harbour_1270 : decode cL_harbour 1270 = .ok (.invokevirtual 58, 3) := by decide +kernel
theorem dL_harbour_1273 : decode cL_harbour 1273 = .ok (.iconst (-1), 1) := by decide +kernel
theorem dL_harbour_1274 : decode cL_harbour 1274 = .ok (.if_icmp .ne 67, 3) := by decide +kernel
theorem dL_harbour_1277 : decode cL_harbour 1277 = .ok (.aload_n 0, 1) := by decide +kernel
theorem dL_harbour_1278 : decode cL_harbour 1278 = .ok (.iconst 0, 1) := by decide +kernel
theorem dL_harbour_1279 : decode cL_harbour 1279 = .ok (.invokevirtual 55, 3) := by decide +kernel
theorem dL_harbour_1282 : decode cL_harbour 1282 = .ok (.iconst 4, 1) := by decide +kernel
theorem dL_harbour_1283 : decode cL_harbour 1283 = .ok (.if_icmp .ne 58, 3) := by decide +kernel
theorem dL_harbour_1286 : decode cL_harbour 1286 = .ok (.aload_n 0, 1) := by decide +kernel
theorem dL_harbour_1287 : decode cL_harbour 1287 = .ok (.iconst 0, 1) := by decide +kernel
theorem dL_harbour_1288 : decode cL_harbour 1288 = .ok (.iconst 2, 1) := by decide +kernel
theorem dL_harbour_1289 : decode cL_harbour 1289 = .ok (.invokevirtual 52, 3) := by decide +kernel
theorem dL_harbour_1292 : decode cL_harbour 1292 = .ok (.iconst 2, 1) := by decide +kernel
theorem dL_harbour_1293 : decode cL_harbour 1293 = .ok (.if_icmp .ne 48, 3) := by decide +kernel
theorem dL_harbour_1296 : decode cL_harbour 1296 = .ok (.aload_n 0, 1) := by decide +kernel
theorem dL_harbour_1297 : decode cL_harbour 1297 = .ok (.iconst 0, 1) := by decide +kernel
theorem dL_harbour_1298 : decode cL_harbour 1298 = .ok (.iconst 3, 1) := by decide +kernel
theorem dL_harbour_1299 : decode cL_harbour 1299 = .ok (.invokevirtual 58, 3) := by decide +kernel
theorem dL_harbour_1302 : decode cL_harbour 1302 = .ok (.iconst (-1), 1) := by decide +kernel
theorem dL_harbour_1303 : decode cL_harbour 1303 = .ok (.if_icmp .ne 38, 3) := by decide +kernel
theorem dL_harbour_1306 : decode cL_harbour 1306 = .ok (.aload_n 0, 1) := by decide +kernel
theorem dL_harbour_1307 : decode cL_harbour 1307 = .ok (.iconst 0, 1) := by decide +kernel
theorem dL_harbour_1308 : decode cL_harbour 1308 = .ok (.bipush 100, 2) := by decide +kernel
theorem dL_harbour_1310 : decode cL_harbour 1310 = .ok (.invokevirtual 52, 3) := by decide +kernel
theorem dL_harbour_1313 : decode cL_harbour 1313 = .ok (.iconst 2, 1) := by decide +kernel
theorem dL_harbour_1314 : decode cL_harbour 1314 = .ok (.if_icmp .ne 27, 3) := by decide +kernel
theorem dL_harbour_1317 : decode cL_harbour 1317 = .ok (.aload_n 0, 1) := by decide +kernel
theorem dL_harbour_1318 : decode cL_harbour 1318 = .ok (.iconst 0, 1) := by decide +kernel
theorem dL_harbour_1319 : decode cL_harbour 1319 = .ok (.iconst 3, 1) := by decide +kernel
theorem dL_harbour_1320 : decode cL_harbour 1320 = .ok (.invokevirtual 58, 3) := by decide +kernel
theorem dL_harbour_1323 : decode cL_harbour 1323 = .ok (.iconst 3, 1) := by decide +kernel
theorem dL_harbour_1324 : decode cL_harbour 1324 = .ok (.if_icmp .ne 17, 3) := by decide +kernel
theorem dL_harbour_1327 : decode cL_harbour 1327 = .ok (.aload_n 0, 1) := by decide +kernel
theorem dL_harbour_1328 : decode cL_harbour 1328 = .ok (.iconst 4, 1) := by decide +kernel
theorem dL_harbour_1329 : decode cL_harbour 1329 = .ok (.iconst 4, 1) := by decide +kernel
theorem dL_harbour_1330 : decode cL_harbour 1330 = .ok (.iconst 3, 1) := by decide +kernel
theorem dL_harbour_1331 : decode cL_harbour 1331 = .ok (.invokestatic 96, 3) := by decide +kernel
theorem dL_harbour_1334 : decode cL_harbour 1334 = .ok (.ifCond .eq 7, 3) := by decide +kernel
theorem dL_harbour_1337 : decode cL_harbour 1337 = .ok (.iconst 1, 1) := by decide +kernel
theorem dL_harbour_1338 : decode cL_harbour 1338 = .ok (.goto 4, 3) := by decide +kernel
theorem dL_harbour_1341 : decode cL_harbour 1341 = .ok (.iconst 0, 1) := by decide +kernel
theorem dL_harbour_1342 : decode cL_harbour 1342 = .ok (.ireturn, 1) := by decide +kernel
theorem dL_most_0 : decode cL_most 0 = .ok (.new 8, 3) := by decide +kernel
theorem dL_most_3 : decode cL_most 3 = .ok (.dup, 1) := by decide +kernel
theorem dL_most_4 : decode cL_most 4 = .ok (.invokespecial 95, 3) := by decide +kernel
theorem dL_most_7 : decode cL_most 7 = .ok (.astore_n 0, 1) := by decide +kernel
theorem dL_most_8 : decode cL_most 8 = .ok (.aload_n 0, 1) := by decide +kernel
theorem dL_most_9 : decode cL_most 9 = .ok (.bipush 11, 2) := by decide +kernel
theorem dL_most_11 : decode cL_most 11 = .ok (.invokestatic 100, 3) := by decide +kernel
theorem dL_most_14 : decode cL_most 14 = .ok (.ifCond .ne 34, 3) := by decide +kernel
theorem dL_most_17 : decode cL_most 17 = .ok (.aload_n 0, 1) := by decide +kernel
theorem dL_most_18 : decode cL_most 18 = .ok (.bipush 12, 2) := by decide +kernel
theorem dL_most_20 : decode cL_most 20 = .ok (.invokestatic 100, 3) := by decide +kernel
theorem dL_most_23 : decode cL_most 23 = .ok (.iconst 1, 1) := by decide +kernel
theorem dL_most_24 : decode cL_most 24 = .ok (.if_icmp .ne 24, 3) := by decide +kernel
theorem dL_most_27 : decode cL_most 27 = .ok (.aload_n 0, 1) := by decide +kernel
theorem dL_most_28 : decode cL_most 28 = .ok (.invokevirtual 49, 3) := by decide +kernel
theorem dL_most_31 : decode cL_most 31 = .ok (.ifCond .ne 17, 3) := by decide +kernel
theorem dL_most_34 : decode cL_most 34 = .ok (.aload_n 0, 1) := by decide +kernel
theorem dL_most_35 : decode cL_most 35 = .ok (.bipush 14, 2) := by decide +kernel
theorem dL_most_37 : decode cL_most 37 = .ok (.iconst 0, 1) := by decide +kernel
theorem dL_most_38 : decode cL_most 38 = .ok (.iconst 0, 1) := by decide +kernel
theorem dL_most_39 : decode cL_most 39 = .ok (.iconst 0, 1) := by decide +kernel
theorem dL_most_40 : decode cL_most 40 = .ok (.invokestatic 82, 3) := by decide +kernel
theorem dL_most_43 : decode cL_most 43 = .ok (.bipush (-71), 2) := by decide +kernel
theorem dL_most_45 : decode cL_most 45 = .ok (.if_icmp .eq 5, 3) := by decide +kernel
theorem dL_most_48 : decode cL_most 48 = .ok (.iconst 0, 1) := by decide +kernel
theorem dL_most_49 : decode cL_most 49 = .ok (.ireturn, 1) := by decide +kernel
theorem dL_most_50 : decode cL_most 50 = .ok (.iconst 0, 1) := by decide +kernel
theorem dL_most_51 : decode cL_most 51 = .ok (.istore_n 1, 1) := by decide +kernel
theorem dL_most_52 : decode cL_most 52 = .ok (.iload_n 1, 1) := by decide +kernel
theorem dL_most_53 : decode cL_most 53 = .ok (.bipush 13, 2) := by decide +kernel
theorem dL_most_55 : decode cL_most 55 = .ok (.if_icmp .ge 48, 3) := by decide +kernel
theorem dL_most_58 : decode cL_most 58 = .ok (.aload_n 0, 1) := by decide +kernel
theorem dL_most_59 : decode cL_most 59 = .ok (.iconst 2, 1) := by decide +kernel
theorem dL_most_60 : decode cL_most 60 = .ok (.iload_n 1, 1) := by decide +kernel
theorem dL_most_61 : decode cL_most 61 = .ok (.imul, 1) := by decide +kernel
theorem dL_most_62 : decode cL_most 62 = .ok (.bipush 31, 2) := by decide +kernel
theorem dL_most_64 : decode cL_most 64 = .ok (.iload_n 1, 1) := by decide +kernel
theorem dL_most_65 : decode cL_most 65 = .ok (.isub, 1) := by decide +kernel
theorem dL_most_66 : decode cL_most 66 = .ok (.iload_n 1, 1) := by decide +kernel
theorem dL_most_67 : decode cL_most 67 = .ok (.iconst 2, 1) := by decide +kernel
theorem dL_most_68 : decode cL_most 68 = .ok (.irem, 1) := by decide +kernel
theorem dL_most_69 : decode cL_most 69 = .ok (.iconst 1, 1) := by decide +kernel
theorem dL_most_70 : decode cL_most 70 = .ok (.iconst 3, 1) := by decide +kernel
theorem dL_most_71 : decode cL_most 71 = .ok (.iload_n 1, 1) := by decide +kernel
theorem dL_most_72 : decode cL_most 72 = .ok (.imul, 1) := by decide +kernel
theorem dL_most_73 : decode cL_most 73 = .ok (.iadd, 1) := by decide +kernel
theorem dL_most_74 : decode cL_most 74 = .ok (.sipush 255, 3) := by decide +kernel
theorem dL_most_77 : decode cL_most 77 = .ok (.invokestatic 88, 3) := by decide +kernel
theorem dL_most_80 : decode cL_most 80 = .ok (.iload_n 1, 1) := by decide +kernel
theorem dL_most_81 : decode cL_most 81 = .ok (.bipush 12, 2) := by decide +kernel
theorem dL_most_83 : decode cL_most 83 = .ok (.if_icmp .ge 7, 3) := by decide +kernel
theorem dL_most_86 : decode cL_most 86 = .ok (.iload_n 1, 1) := by decide +kernel
theorem dL_most_87 : decode cL_most 87 = .ok (.goto 5, 3) := by decide +kernel
theorem dL_most_90 : decode cL_most 90 = .ok (.bipush (-73), 2) := by decide +kernel
theorem dL_most_92 : decode cL_most 92 = .ok (.if_icmp .eq 5, 3) := by decide +kernel
theorem dL_most_95 : decode cL_most 95 = .ok (.iconst 0, 1) := by decide +kernel
theorem dL_most_96 : decode cL_most 96 = .ok (.ireturn, 1) := by decide +kernel
theorem dL_most_97 : decode cL_most 97 = .ok (.iinc 1 1, 3) := by decide +kernel
theorem dL_most_100 : decode cL_most 100 = .ok (.goto (-48), 3) := by decide +kernel
theorem dL_most_103 : decode cL_most 103 = .ok (.aload_n 0, 1) := by decide +kernel
theorem dL_most_104 : decode cL_most 104 = .ok (.iconst 0, 1) := by decide +kernel
theorem dL_most_105 : decode cL_most 105 = .ok (.bipush 11, 2) := by decide +kernel
theorem dL_most_107 : decode cL_most 107 = .ok (.invokevirtual 58, 3) := by decide +kernel
theorem dL_most_110 : decode cL_most 110 = .ok (.iconst (-1), 1) := by decide +kernel
theorem dL_most_111 : decode cL_most 111 = .ok (.if_icmp .ne 42, 3) := by decide +kernel
theorem dL_most_114 : decode cL_most 114 = .ok (.aload_n 0, 1) := by decide +kernel
theorem dL_most_115 : decode cL_most 115 = .ok (.iconst 0, 1) := by decide +kernel
theorem dL_most_116 : decode cL_most 116 = .ok (.invokevirtual 55, 3) := by decide +kernel
theorem dL_most_119 : decode cL_most 119 = .ok (.bipush 12, 2) := by decide +kernel
theorem dL_most_121 : decode cL_most 121 = .ok (.if_icmp .ne 32, 3) := by decide +kernel
theorem dL_most_124 : decode cL_most 124 = .ok (.aload_n 0, 1) := by decide +kernel
theorem dL_most_125 : decode cL_most 125 = .ok (.iconst 0, 1) := by decide +kernel
theorem dL_most_126 : decode cL_most 126 = .ok (.iconst 5, 1) := by decide +kernel
theorem dL_most_127 : decode cL_most 127 = .ok (.invokevirtual 52, 3) := by decide +kernel
theorem dL_most_130 : decode cL_most 130 = .ok (.iconst 5, 1) := by decide +kernel
theorem dL_most_131 : decode cL_most 131 = .ok (.if_icmp .ne 22, 3) := by decide +kernel
theorem dL_most_134 : decode cL_most 134 = .ok (.aload_n 0, 1) := by decide +kernel
theorem dL_most_135 : decode cL_most 135 = .ok (.iconst 0, 1) := by decide +kernel
theorem dL_most_136 : decode cL_most 136 = .ok (.iconst 4, 1) := by decide +kernel
theorem dL_most_137 : decode cL_most 137 = .ok (.invokevirtual 58, 3) := by decide +kernel
theorem dL_most_140 : decode cL_most 140 = .ok (.ifCond .ne 13, 3) := by decide +kernel
theorem dL_most_143 : decode cL_most 143 = .ok (.aload_n 0, 1) := by decide +kernel
theorem dL_most_144 : decode cL_most 144 = .ok (.iconst 0, 1) := by decide +kernel
theorem dL_most_145 : decode cL_most 145 = .ok (.iconst 5, 1) := by decide +kernel
theorem dL_most_146 : decode cL_most 146 = .ok (.invokevirtual 58, 3) := by decide +kernel
theorem dL_most_149 : decode cL_most 149 = .ok (.iconst (-1), 1) := by decide +kernel
theorem dL_most_150 : decode cL_most 150 = .ok (.if_icmp .eq 5, 3) := by decide +kernel
theorem dL_most_153 : decode cL_most 153 = .ok (.iconst 0, 1) := by decide +kernel
theorem dL_most_154 : decode cL_most 154 = .ok (.ireturn, 1) := by decide +kernel
theorem dL_most_155 : decode cL_most 155 = .ok (.iconst 0, 1) := by decide +kernel
theorem dL_most_156 : decode cL_most 156 = .ok (.istore_n 1, 1) := by decide +kernel
theorem dL_most_157 : decode cL_most 157 = .ok (.iload_n 1, 1) := by decide +kernel
theorem dL_most_158 : decode cL_most 158 = .ok (.bipush 90, 2) := by decide +kernel
theorem dL_most_160 : decode cL_most 160 = .ok (.if_icmp .ge 35, 3) := by decide +kernel
theorem dL_most_163 : decode cL_most 163 = .ok (.aload_n 0, 1) := by decide +kernel
theorem dL_most_164 : decode cL_most 164 = .ok (.iload_n 1, 1) := by decide +kernel
theorem dL_most_165 : decode cL_most 165 = .ok (.bipush 12, 2) := by decide +kernel
theorem dL_most_167 : decode cL_most 167 = .ok (.irem, 1) := by decide +kernel
theorem dL_most_168 : decode cL_most 168 = .ok (.iconst 1, 1) := by decide +kernel
theorem dL_most_169 : decode cL_most 169 = .ok (.iload_n 1, 1) := by decide +kernel
theorem dL_most_170 : decode cL_most 170 = .ok (.iconst 2, 1) := by decide +kernel
theorem dL_most_171 : decode cL_most 171 = .ok (.irem, 1) := by decide +kernel
theorem dL_most_172 : decode cL_most 172 = .ok (.isub, 1) := by decide +kernel
theorem dL_most_173 : decode cL_most 173 = .ok (.iload_n 1, 1) := by decide +kernel
theorem dL_most_174 : decode cL_most 174 = .ok (.bipush 60, 2) := by decide +kernel
theorem dL_most_176 : decode cL_most 176 = .ok (.irem, 1) := by decide +kernel
theorem dL_most_177 : decode cL_most 177 = .ok (.invokevirtual 27, 3) := by decide +kernel
theorem dL_most_180 : decode cL_most 180 = .ok (.bipush 12, 2) := by decide +kernel
theorem dL_most_182 : decode cL_most 182 = .ok (.iload_n 1, 1) := by decide +kernel
theorem dL_most_183 : decode cL_most 183 = .ok (.iadd, 1) := by decide +kernel
theorem dL_most_184 : decode cL_most 184 = .ok (.if_icmp .eq 5, 3) := by decide +kernel
theorem dL_most_187 : decode cL_most 187 = .ok (.iconst 0, 1) := by decide +kernel
theorem dL_most_188 : decode cL_most 188 = .ok (.ireturn, 1) := by decide +kernel
theorem dL_most_189 : decode cL_most 189 = .ok (.iinc 1 1, 3) := by decide +kernel
theorem dL_most_192 : decode cL_most 192 = .ok (.goto (-35), 3) := by decide +kernel
theorem dL_most_195 : decode cL_most 195 = .ok (.iconst 1, 1) := by decide +kernel
theorem dL_most_196 : decode cL_most 196 = .ok (.istore_n 1, 1) := by decide +kernel
theorem dL_most_197 : decode cL_most 197 = .ok (.iload_n 1, 1) := by decide +kernel
theorem dL_most_198 : decode cL_most 198 = .ok (.bipush 11, 2) := by decide +kernel
theorem dL_most_200 : decode cL_most 200 = .ok (.if_icmp .ge 35, 3) := by decide +kernel
theorem dL_most_203 : decode cL_most 203 = .ok (.aload_n 0, 1) := by decide +kernel
theorem dL_most_204 : decode cL_most 204 = .ok (.bipush 11, 2) := by decide +kernel
theorem dL_most_206 : decode cL_most 206 = .ok (.iconst 0, 1) := by decide +kernel
theorem dL_most_207 : decode cL_most 207 = .ok (.iconst 0, 1) := by decide +kernel
theorem dL_most_208 : decode cL_most 208 = .ok (.iconst 0, 1) := by decide +kernel
theorem dL_most_209 : decode cL_most 209 = .ok (.invokestatic 82, 3) := by decide +kernel
theorem dL_most_212 : decode cL_most 212 = .ok (.iload_n 1, 1) := by decide +kernel
theorem dL_most_213 : decode cL_most 213 = .ok (.bipush 10, 2) := by decide +kernel
theorem dL_most_215 : decode cL_most 215 = .ok (.if_icmp .ge 7, 3) := by decide +kernel
theorem dL_most_218 : decode cL_most 218 = .ok (.iload_n 1, 1) := by decide +kernel
theorem dL_most_219 : decode cL_most 219 = .ok (.goto 5, 3) := by decide +kernel
theorem dL_most_222 : decode cL_most 222 = .ok (.bipush (-73), 2) := by decide +kernel
theorem dL_most_224 : decode cL_most 224 = .ok (.if_icmp .eq 5, 3) := by decide +kernel
theorem dL_most_227 : decode cL_most 227 = .ok (.iconst 0, 1) := by decide +kernel
theorem dL_most_228 : decode cL_most 228 = .ok (.ireturn, 1) := by decide +kernel
theorem dL_most_229 : decode cL_most 229 = .ok (.iinc 1 1, 3) := by decide +kernel
theorem dL_most_232 : decode cL_most 232 = .ok (.goto (-35), 3) := by decide +kernel
theorem dL_most_235 : decode cL_most 235 = .ok (.aload_n 0, 1) := by decide +kernel
theorem dL_most_236 : decode cL_most 236 = .ok (.invokevirtual 75, 3) := by decide +kernel
theorem dL_most_239 : decode cL_most 239 = .ok (.bipush 102, 2) := by decide +kernel
theorem dL_most_241 : decode cL_most 241 = .ok (.if_icmp .ne 101, 3) := by decide +kernel
theorem dL_most_244 : decode cL_most 244 = .ok (.aload_n 0, 1) := by decide +kernel
theorem dL_most_245 : decode cL_most 245 = .ok (.iconst 0, 1) := by decide +kernel
theorem dL_most_246 : decode cL_most 246 = .ok (.invokevirtual 55, 3) := by decide +kernel
theorem dL_most_249 : decode cL_most 249 = .ok (.bipush 97, 2) := by decide +kernel
theorem dL_most_251 : decode cL_most 251 = .ok (.if_icmp .ne 91, 3) := by decide +kernel
theorem dL_most_254 : decode cL_most 254 = .ok (.aload_n 0, 1) := by decide +kernel
theorem dL_most_255 : decode cL_most 255 = .ok (.iconst 0, 1) := by decide +kernel
theorem dL_most_256 : decode cL_most 256 = .ok (.bipush 96, 2) := by decide +kernel
theorem dL_most_258 : decode cL_most 258 = .ok (.invokevirtual 52, 3) := by decide +kernel
theorem dL_most_261 : decode cL_most 261 = .ok (.bipush 96, 2) := by decide +kernel
theorem dL_most_263 : decode cL_most 263 = .ok (.if_icmp .ne 79, 3) := by decide +kernel
theorem dL_most_266 : decode cL_most 266 = .ok (.aload_n 0, 1) := by decide +kernel
theorem dL_most_267 : decode cL_most 267 = .ok (.iconst 0, 1) := by decide +kernel
theorem dL_most_268 : decode cL_most 268 = .ok (.iconst 5, 1) := by decide +kernel
theorem dL_most_269 : decode cL_most 269 = .ok (.invokevirtual 58, 3) := by decide +kernel
theorem dL_most_272 : decode cL_most 272 = .ok (.ifCond .ne 70, 3) := by decide +kernel
theorem dL_most_275 : decode cL_most 275 = .ok (.aload_n 0, 1) := by decide +kernel
theorem dL_most_276 : decode cL_most 276 = .ok (.iconst 0, 1) := by decide +kernel
theorem dL_most_277 : decode cL_most 277 = .ok (.invokevirtual 55, 3) := by decide +kernel
theorem dL_most_280 : decode cL_most 280 = .ok (.iconst 1, 1) := by decide +kernel
theorem dL_most_281 : decode cL_most 281 = .ok (.if_icmp .ne 61, 3) := by decide +kernel
theorem dL_most_284 : decode cL_most 284 = .ok (.aload_n 0, 1) := by decide +kernel
theorem dL_most_285 : decode cL_most 285 = .ok (.iconst 0, 1) := by decide +kernel
theorem dL_most_286 : decode cL_most 286 = .ok (.bipush 100, 2) := by decide +kernel
theorem dL_most_288 : decode cL_most 288 = .ok (.invokevirtual 52, 3) := by decide +kernel
theorem dL_most_291 : decode cL_most 291 = .ok (.iconst 1, 1) := by decide +kernel
theorem dL_most_292 : decode cL_most 292 = .ok (.if_icmp .ne 50, 3) := by decide +kernel
theorem dL_most_295 : decode cL_most 295 = .ok (.aload_n 0, 1) := by decide +kernel
theorem dL_most_296 : decode cL_most 296 = .ok (.bipush 9, 2) := by decide +kernel
theorem dL_most_298 : decode cL_most 298 = .ok (.invokevirtual 55, 3) := by decide +kernel
theorem dL_most_301 : decode cL_most 301 = .ok (.ifCond .ne 41, 3) := by decide +kernel
theorem dL_most_304 : decode cL_most 304 = .ok (.aload_n 0, 1) := by decide +kernel
theorem dL_most_305 : decode cL_most 305 = .ok (.bipush 9, 2) := by decide +kernel
theorem dL_most_307 : decode cL_most 307 = .ok (.bipush 11, 2) := by decide +kernel
theorem dL_most_309 : decode cL_most 309 = .ok (.invokevirtual 58, 3) := by decide +kernel
theorem dL_most_312 : decode cL_most 312 = .ok (.ifCond .ne 30, 3) := by decide +kernel
theorem dL_most_315 : decode cL_most 315 = .ok (.aload_n 0, 1) := by decide +kernel
theorem dL_most_316 : decode cL_most 316 = .ok (.bipush 9, 2) := by decide +kernel
theorem dL_most_318 : decode cL_most 318 = .ok (.iconst 0, 1) := by decide +kernel
theorem dL_most_319 : decode cL_most 319 = .ok (.invokevirtual 58, 3) := by decide +kernel
theorem dL_most_322 : decode cL_most 322 = .ok (.iconst 1, 1) := by decide +kernel
theorem dL_most_323 : decode cL_most 323 = .ok (.if_icmp .ne 19, 3) := by decide +kernel
theorem dL_most_326 : decode cL_most 326 = .ok (.aload_n 0, 1) := by decide +kernel
theorem dL_most_327 : decode cL_most 327 = .ok (.iconst 2, 1) := by decide +kernel
theorem dL_most_328 : decode cL_most 328 = .ok (.bipush 12, 2) := by decide +kernel
theorem dL_most_330 : decode cL_most 330 = .ok (.bipush 10, 2) := by decide +kernel
theorem dL_most_332 : decode cL_most 332 = .ok (.invokestatic 96, 3) := by decide +kernel
theorem dL_most_335 : decode cL_most 335 = .ok (.ifCond .eq 7, 3) := by decide +kernel
theorem dL_most_338 : decode cL_most 338 = .ok (.iconst 1, 1) := by decide +kernel
theorem dL_most_339 : decode cL_most 339 = .ok (.goto 4, 3) := by decide +kernel
theorem dL_most_342 : decode cL_most 342 = .ok (.iconst 0, 1) := by decide +kernel
theorem dL_most_343 : decode cL_most 343 = .ok (.ireturn, 1) := by decide +kernel
theorem dL_law_0 : decode cL_law 0 = .ok (.invokestatic 119, 3) := by decide +kernel
theorem dL_law_3 : decode cL_law 3 = .ok (.ifCond .eq 15, 3) := by decide +kernel
theorem dL_law_6 : decode cL_law 6 = .ok (.invokestatic 123, 3) := by decide +kernel
theorem dL_law_9 : decode cL_law 9 = .ok (.ifCond .eq 9, 3) := by decide +kernel
theorem dL_law_12 : decode cL_law 12 = .ok (.invokestatic 126, 3) := by decide +kernel
theorem dL_law_15 : decode cL_law 15 = .ok (.ifCond .ne 5, 3) := by decide +kernel
theorem dL_law_18 : decode cL_law 18 = .ok (.iconst 0, 1) := by decide +kernel
theorem dL_law_19 : decode cL_law 19 = .ok (.ireturn, 1) := by decide +kernel
theorem dL_law_20 : decode cL_law 20 = .ok (.new 8, 3) := by decide +kernel
theorem dL_law_23 : decode cL_law 23 = .ok (.dup, 1) := by decide +kernel
theorem dL_law_24 : decode cL_law 24 = .ok (.invokespecial 95, 3) := by decide +kernel
theorem dL_law_27 : decode cL_law 27 = .ok (.astore_n 1, 1) := by decide +kernel
theorem dL_law_28 : decode cL_law 28 = .ok (.iconst 0, 1) := by decide +kernel
theorem dL_law_29 : decode cL_law 29 = .ok (.istore_n 2, 1) := by decide +kernel
theorem dL_law_30 : decode cL_law 30 = .ok (.iload_n 2, 1) := by decide +kernel
theorem dL_law_31 : decode cL_law 31 = .ok (.bipush 12, 2) := by decide +kernel
theorem dL_law_33 : decode cL_law 33 = .ok (.if_icmp .ge 258, 3) := by decide +kernel
theorem dL_law_36 : decode cL_law 36 = .ok (.aload_n 0, 1) := by decide +kernel
theorem dL_law_37 : decode cL_law 37 = .ok (.arraylength, 1) := by decide +kernel
theorem dL_law_38 : decode cL_law 38 = .ok (.ifCond .ne 10, 3) := by decide +kernel
theorem dL_law_41 : decode cL_law 41 = .ok (.bipush 67, 2) := by decide +kernel
theorem dL_law_43 : decode cL_law 43 = .ok (.iload_n 2, 1) := by decide +kernel
theorem dL_law_44 : decode cL_law 44 = .ok (.imul, 1) := by decide +kernel
theorem dL_law_45 : decode cL_law 45 = .ok (.goto 12, 3) := by decide +kernel
theorem dL_law_48 : decode cL_law 48 = .ok (.aload_n 0, 1) := by decide +kernel
theorem dL_law_49 : decode cL_law 49 = .ok (.iload_n 2, 1) := by decide +kernel
theorem dL_law_50 : decode cL_law 50 = .ok (.aload_n 0, 1) := by decide +kernel
theorem dL_law_51 : decode cL_law 51 = .ok (.arraylength, 1) := by decide +kernel
theorem dL_law_52 : decode cL_law 52 = .ok (.irem, 1) := by decide +kernel
theorem dL_law_53 : decode cL_law 53 = .ok (.iaload, 1) := by decide +kernel
theorem dL_law_54 : decode cL_law 54 = .ok (.bipush 8, 2) := by decide +kernel
theorem dL_law_56 : decode cL_law 56 = .ok (.iushr, 1) := by decide +kernel
theorem dL_law_57 : decode cL_law 57 = .ok (.istore_n 3, 1) := by decide +kernel
theorem dL_law_58 : decode cL_law 58 = .ok (.aload_n 1, 1) := by decide +kernel
theorem dL_law_59 : decode cL_law 59 = .ok (.iconst 1, 1) := by decide +kernel
theorem dL_law_60 : decode cL_law 60 = .ok (.iload_n 3, 1) := by decide +kernel
theorem dL_law_61 : decode cL_law 61 = .ok (.bipush 9, 2) := by decide +kernel
theorem dL_law_63 : decode cL_law 63 = .ok (.irem, 1) := by decide +kernel
theorem dL_law_64 : decode cL_law 64 = .ok (.iadd, 1) := by decide +kernel
theorem dL_law_65 : decode cL_law 65 = .ok (.invokevirtual 7, 3) := by decide +kernel
theorem dL_law_68 : decode cL_law 68 = .ok (.iconst 1, 1) := by decide +kernel
theorem dL_law_69 : decode cL_law 69 = .ok (.if_icmp .ne 152, 3) := by decide +kernel
theorem dL_law_72 : decode cL_law 72 = .ok (.aload_n 1, 1) := by decide +kernel
theorem dL_law_73 : decode cL_law 73 = .ok (.iconst 1, 1) := by decide +kernel
theorem dL_law_74 : decode cL_law 74 = .ok (.iload_n 3, 1) := by decide +kernel
theorem dL_law_75 : decode cL_law 75 = .ok (.bipush 9, 2) := by decide +kernel
theorem dL_law_77 : decode cL_law 77 = .ok (.idiv, 1) := by decide +kernel
theorem dL_law_78 : decode cL_law 78 = .ok (.bipush 9, 2) := by decide +kernel
theorem dL_law_80 : decode cL_law 80 = .ok (.irem, 1) := by decide +kernel
theorem dL_law_81 : decode cL_law 81 = .ok (.iadd, 1) := by decide +kernel
theorem dL_law_82 : decode cL_law 82 = .ok (.invokevirtual 7, 3) := by decide +kernel
theorem dL_law_85 : decode cL_law 85 = .ok (.iconst 2, 1) := by decide +kernel
theorem dL_law_86 : decode cL_law 86 = .ok (.if_icmp .ne 135, 3) := by decide +kernel
theorem dL_law_89 : decode cL_law 89 = .ok (.aload_n 1, 1) := by decide +kernel
theorem dL_law_90 : decode cL_law 90 = .ok (.invokevirtual 13, 3) := by decide +kernel
theorem dL_law_93 : decode cL_law 93 = .ok (.iload_n 2, 1) := by decide +kernel
theorem dL_law_94 : decode cL_law 94 = .ok (.if_icmp .ne 127, 3) := by decide +kernel
theorem dL_law_97 : decode cL_law 97 = .ok (.aload_n 1, 1) := by decide +kernel
theorem dL_law_98 : decode cL_law 98 = .ok (.iload_n 2, 1) := by decide +kernel
theorem dL_law_99 : decode cL_law 99 = .ok (.invokevirtual 17, 3) := by decide +kernel
theorem dL_law_102 : decode cL_law 102 = .ok (.iconst 2, 1) := by decide +kernel
theorem dL_law_103 : decode cL_law 103 = .ok (.iload_n 3, 1) := by decide +kernel
theorem dL_law_104 : decode cL_law 104 = .ok (.bipush 9, 2) := by decide +kernel
theorem dL_law_106 : decode cL_law 106 = .ok (.irem, 1) := by decide +kernel
theorem dL_law_107 : decode cL_law 107 = .ok (.iadd, 1) := by decide +kernel
theorem dL_law_108 : decode cL_law 108 = .ok (.iload_n 3, 1) := by decide +kernel
theorem dL_law_109 : decode cL_law 109 = .ok (.bipush 9, 2) := by decide +kernel
theorem dL_law_111 : decode cL_law 111 = .ok (.idiv, 1) := by decide +kernel
theorem dL_law_112 : decode cL_law 112 = .ok (.bipush 9, 2) := by decide +kernel
theorem dL_law_114 : decode cL_law 114 = .ok (.irem, 1) := by decide +kernel
theorem dL_law_115 : decode cL_law 115 = .ok (.iadd, 1) := by decide +kernel
theorem dL_law_116 : decode cL_law 116 = .ok (.if_icmp .ne 105, 3) := by decide +kernel
theorem dL_law_119 : decode cL_law 119 = .ok (.aload_n 1, 1) := by decide +kernel
theorem dL_law_120 : decode cL_law 120 = .ok (.iload_n 3, 1) := by decide +kernel
theorem dL_law_121 : decode cL_law 121 = .ok (.bipush 32, 2) := by decide +kernel
theorem dL_law_123 : decode cL_law 123 = .ok (.irem, 1) := by decide +kernel
theorem dL_law_124 : decode cL_law 124 = .ok (.iload_n 3, 1) := by decide +kernel
theorem dL_law_125 : decode cL_law 125 = .ok (.bipush 32, 2) := by decide +kernel
theorem dL_law_127 : decode cL_law 127 = .ok (.idiv, 1) := by decide +kernel
theorem dL_law_128 : decode cL_law 128 = .ok (.bipush 32, 2) := by decide +kernel
theorem dL_law_130 : decode cL_law 130 = .ok (.irem, 1) := by decide +kernel
theorem dL_law_131 : decode cL_law 131 = .ok (.iload_n 2, 1) := by decide +kernel
theorem dL_law_132 : decode cL_law 132 = .ok (.iconst 1, 1) := by decide +kernel
theorem dL_law_133 : decode cL_law 133 = .ok (.iload_n 3, 1) := by decide +kernel
theorem dL_law_134 : decode cL_law 134 = .ok (.bipush 40, 2) := by decide +kernel
theorem dL_law_136 : decode cL_law 136 = .ok (.irem, 1) := by decide +kernel
theorem dL_law_137 : decode cL_law 137 = .ok (.iadd, 1) := by decide +kernel
theorem dL_law_138 : decode cL_law 138 = .ok (.iconst 1, 1) := by decide +kernel
theorem dL_law_139 : decode cL_law 139 = .ok (.iload_n 3, 1) := by decide +kernel
theorem dL_law_140 : decode cL_law 140 = .ok (.sipush 255, 3) := by decide +kernel
theorem dL_law_143 : decode cL_law 143 = .ok (.irem, 1) := by decide +kernel
theorem dL_law_144 : decode cL_law 144 = .ok (.iadd, 1) := by decide +kernel
theorem dL_law_145 : decode cL_law 145 = .ok (.invokevirtual 67, 3) := by decide +kernel
theorem dL_law_148 : decode cL_law 148 = .ok (.iload_n 2, 1) := by decide +kernel
theorem dL_law_149 : decode cL_law 149 = .ok (.if_icmp .ne 72, 3) := by decide +kernel
theorem dL_law_152 : decode cL_law 152 = .ok (.aload_n 1, 1) := by decide +kernel
theorem dL_law_153 : decode cL_law 153 = .ok (.iload_n 2, 1) := by decide +kernel
theorem dL_law_154 : decode cL_law 154 = .ok (.iload_n 3, 1) := by decide +kernel
theorem dL_law_155 : decode cL_law 155 = .ok (.bipush 32, 2) := by decide +kernel
theorem dL_law_157 : decode cL_law 157 = .ok (.irem, 1) := by decide +kernel
theorem dL_law_158 : decode cL_law 158 = .ok (.iload_n 3, 1) := by decide +kernel
theorem dL_law_159 : decode cL_law 159 = .ok (.bipush 32, 2) := by decide +kernel
theorem dL_law_161 : decode cL_law 161 = .ok (.idiv, 1) := by decide +kernel
theorem dL_law_162 : decode cL_law 162 = .ok (.bipush 32, 2) := by decide +kernel
theorem dL_law_164 : decode cL_law 164 = .ok (.irem, 1) := by decide +kernel
theorem dL_law_165 : decode cL_law 165 = .ok (.invokevirtual 41, 3) := by decide +kernel
theorem dL_law_168 : decode cL_law 168 = .ok (.ifCond .eq 53, 3) := by decide +kernel
theorem dL_law_171 : decode cL_law 171 = .ok (.aload_n 1, 1) := by decide +kernel
theorem dL_law_172 : decode cL_law 172 = .ok (.iload_n 2, 1) := by decide +kernel
theorem dL_law_173 : decode cL_law 173 = .ok (.iload_n 3, 1) := by decide +kernel
theorem dL_law_174 : decode cL_law 174 = .ok (.bipush 9, 2) := by decide +kernel
theorem dL_law_176 : decode cL_law 176 = .ok (.irem, 1) := by decide +kernel
theorem dL_law_177 : decode cL_law 177 = .ok (.invokevirtual 35, 3) := by decide +kernel
theorem dL_law_180 : decode cL_law 180 = .ok (.ifCond .eq 41, 3) := by decide +kernel
theorem dL_law_183 : decode cL_law 183 = .ok (.aload_n 1, 1) := by decide +kernel
theorem dL_law_184 : decode cL_law 184 = .ok (.iload_n 2, 1) := by decide +kernel
theorem dL_law_185 : decode cL_law 185 = .ok (.iconst 1, 1) := by decide +kernel
theorem dL_law_186 : decode cL_law 186 = .ok (.iload_n 3, 1) := by decide +kernel
theorem dL_law_187 : decode cL_law 187 = .ok (.bipush 9, 2) := by decide +kernel
theorem dL_law_189 : decode cL_law 189 = .ok (.irem, 1) := by decide +kernel
theorem dL_law_190 : decode cL_law 190 = .ok (.iadd, 1) := by decide +kernel
theorem dL_law_191 : decode cL_law 191 = .ok (.invokevirtual 35, 3) := by decide +kernel
theorem dL_law_194 : decode cL_law 194 = .ok (.ifCond .ne 27, 3) := by decide +kernel
theorem dL_law_197 : decode cL_law 197 = .ok (.aload_n 1, 1) := by decide +kernel
theorem dL_law_198 : decode cL_law 198 = .ok (.iload_n 2, 1) := by decide +kernel
theorem dL_law_199 : decode cL_law 199 = .ok (.iload_n 2, 1) := by decide +kernel
theorem dL_law_200 : decode cL_law 200 = .ok (.invokevirtual 20, 3) := by decide +kernel
theorem dL_law_203 : decode cL_law 203 = .ok (.ifCond .eq 18, 3) := by decide +kernel
theorem dL_law_206 : decode cL_law 206 = .ok (.aload_n 1, 1) := by decide +kernel
theorem dL_law_207 : decode cL_law 207 = .ok (.iload_n 2, 1) := by decide +kernel
theorem dL_law_208 : decode cL_law 208 = .ok (.iconst 0, 1) := by decide +kernel
theorem dL_law_209 : decode cL_law 209 = .ok (.invokevirtual 45, 3) := by decide +kernel
theorem dL_law_212 : decode cL_law 212 = .ok (.aload_n 1, 1) := by decide +kernel
theorem dL_law_213 : decode cL_law 213 = .ok (.iconst 0, 1) := by decide +kernel
theorem dL_law_214 : decode cL_law 214 = .ok (.iload_n 2, 1) := by decide +kernel
theorem dL_law_215 : decode cL_law 215 = .ok (.invokevirtual 45, 3) := by decide +kernel
theorem dL_law_218 : decode cL_law 218 = .ok (.if_icmp .eq 5, 3) := by decide +kernel
theorem dL_law_221 : decode cL_law 221 = .ok (.iconst 0, 1) := by decide +kernel
theorem dL_law_222 : decode cL_law 222 = .ok (.ireturn, 1) := by decide +kernel
theorem dL_law_223 : decode cL_law 223 = .ok (.iload_n 2, 1) := by decide +kernel
theorem dL_law_224 : decode cL_law 224 = .ok (.iconst 4, 1) := by decide +kernel
theorem dL_law_225 : decode cL_law 225 = .ok (.irem, 1) := by decide +kernel
theorem dL_law_226 : decode cL_law 226 = .ok (.ifCond .ne 59, 3) := by decide +kernel
theorem dL_law_229 : decode cL_law 229 = .ok (.aload_n 1, 1) := by decide +kernel
theorem dL_law_230 : decode cL_law 230 = .ok (.invokevirtual 49, 3) := by decide +kernel
theorem dL_law_233 : decode cL_law 233 = .ok (.iload_n 2, 1) := by decide +kernel
theorem dL_law_234 : decode cL_law 234 = .ok (.iconst 4, 1) := by decide +kernel
theorem dL_law_235 : decode cL_law 235 = .ok (.idiv, 1) := by decide +kernel
theorem dL_law_236 : decode cL_law 236 = .ok (.if_icmp .ne 47, 3) := by decide +kernel
theorem dL_law_239 : decode cL_law 239 = .ok (.aload_n 1, 1) := by decide +kernel
theorem dL_law_240 : decode cL_law 240 = .ok (.iload_n 2, 1) := by decide +kernel
theorem dL_law_241 : decode cL_law 241 = .ok (.iconst 4, 1) := by decide +kernel
theorem dL_law_242 : decode cL_law 242 = .ok (.idiv, 1) := by decide +kernel
theorem dL_law_243 : decode cL_law 243 = .ok (.iload_n 3, 1) := by decide +kernel
theorem dL_law_244 : decode cL_law 244 = .ok (.bipush 32, 2) := by decide +kernel
theorem dL_law_246 : decode cL_law 246 = .ok (.irem, 1) := by decide +kernel
theorem dL_law_247 : decode cL_law 247 = .ok (.iload_n 3, 1) := by decide +kernel
theorem dL_law_248 : decode cL_law 248 = .ok (.bipush 32, 2) := by decide +kernel
theorem dL_law_250 : decode cL_law 250 = .ok (.idiv, 1) := by decide +kernel
theorem dL_law_251 : decode cL_law 251 = .ok (.bipush 32, 2) := by decide +kernel
theorem dL_law_253 : decode cL_law 253 = .ok (.irem, 1) := by decide +kernel
theorem dL_law_254 : decode cL_law 254 = .ok (.iload_n 2, 1) := by decide +kernel
theorem dL_law_255 : decode cL_law 255 = .ok (.iconst 0, 1) := by decide +kernel
theorem dL_law_256 : decode cL_law 256 = .ok (.bipush 60, 2) := by decide +kernel
theorem dL_law_258 : decode cL_law 258 = .ok (.invokevirtual 71, 3) := by decide +kernel
theorem dL_law_261 : decode cL_law 261 = .ok (.iconst (-1), 1) := by decide +kernel
theorem dL_law_262 : decode cL_law 262 = .ok (.if_icmp .eq 21, 3) := by decide +kernel
theorem dL_law_265 : decode cL_law 265 = .ok (.aload_n 1, 1) := by decide +kernel
theorem dL_law_266 : decode cL_law 266 = .ok (.iload_n 2, 1) := by decide +kernel
theorem dL_law_267 : decode cL_law 267 = .ok (.iconst 1, 1) := by decide +kernel
theorem dL_law_268 : decode cL_law 268 = .ok (.iadd, 1) := by decide +kernel
theorem dL_law_269 : decode cL_law 269 = .ok (.iload_n 2, 1) := by decide +kernel
theorem dL_law_270 : decode cL_law 270 = .ok (.iconst 1, 1) := by decide +kernel
theorem dL_law_271 : decode cL_law 271 = .ok (.iadd, 1) := by decide +kernel
theorem dL_law_272 : decode cL_law 272 = .ok (.iload_n 2, 1) := by decide +kernel
theorem dL_law_273 : decode cL_law 273 = .ok (.iconst 4, 1) := by decide +kernel
theorem dL_law_274 : decode cL_law 274 = .ok (.idiv, 1) := by decide +kernel
theorem dL_law_275 : decode cL_law 275 = .ok (.iconst 1, 1) := by decide +kernel
theorem dL_law_276 : decode cL_law 276 = .ok (.iadd, 1) := by decide +kernel
theorem dL_law_277 : decode cL_law 277 = .ok (.invokestatic 96, 3) := by decide +kernel
theorem dL_law_280 : decode cL_law 280 = .ok (.ifCond .ne 5, 3) := by decide +kernel
theorem dL_law_283 : decode cL_law 283 = .ok (.iconst 0, 1) := by decide +kernel
theorem dL_law_284 : decode cL_law 284 = .ok (.ireturn, 1) := by decide +kernel
theorem dL_law_285 : decode cL_law 285 = .ok (.iinc 2 1, 3) := by decide +kernel
theorem dL_law_288 : decode cL_law 288 = .ok (.goto (-258), 3) := by decide +kernel
theorem dL_law_291 : decode cL_law 291 = .ok (.aload_n 1, 1) := by decide +kernel
theorem dL_law_292 : decode cL_law 292 = .ok (.invokevirtual 75, 3) := by decide +kernel
theorem dL_law_295 : decode cL_law 295 = .ok (.bipush 12, 2) := by decide +kernel
theorem dL_law_297 : decode cL_law 297 = .ok (.if_icmp .ne 7, 3) := by decide +kernel
theorem dL_law_300 : decode cL_law 300 = .ok (.iconst 1, 1) := by decide +kernel
theorem dL_law_301 : decode cL_law 301 = .ok (.goto 4, 3) := by decide +kernel
theorem dL_law_304 : decode cL_law 304 = .ok (.iconst 0, 1) := by decide +kernel
theorem dL_law_305 : decode cL_law 305 = .ok (.ireturn, 1) := by decide +kernel
