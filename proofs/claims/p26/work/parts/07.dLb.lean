theorem dL_isAsked_423 : decode cL_isAsked 423 = .ok (.if_icmp .eq 7, 3) := by decide +kernel
theorem dL_isAsked_426 : decode cL_isAsked 426 = .ok (.iconst 1, 1) := by decide +kernel
theorem dL_isAsked_427 : decode cL_isAsked 427 = .ok (.goto 4, 3) := by decide +kernel
theorem dL_isAsked_430 : decode cL_isAsked 430 = .ok (.iconst 0, 1) := by decide +kernel
theorem dL_isAsked_431 : decode cL_isAsked 431 = .ok (.istore 13, 2) := by decide +kernel
theorem dL_isAsked_433 : decode cL_isAsked 433 = .ok (.aload 6, 2) := by decide +kernel
theorem dL_isAsked_435 : decode cL_isAsked 435 = .ok (.iconst 3, 1) := by decide +kernel
theorem dL_isAsked_436 : decode cL_isAsked 436 = .ok (.iload 12, 2) := by decide +kernel
theorem dL_isAsked_438 : decode cL_isAsked 438 = .ok (.imul, 1) := by decide +kernel
theorem dL_isAsked_439 : decode cL_isAsked 439 = .ok (.iconst 2, 1) := by decide +kernel
theorem dL_isAsked_440 : decode cL_isAsked 440 = .ok (.iadd, 1) := by decide +kernel
theorem dL_isAsked_441 : decode cL_isAsked 441 = .ok (.iload 13, 2) := by decide +kernel
theorem dL_isAsked_443 : decode cL_isAsked 443 = .ok (.ifCond .eq 7, 3) := by decide +kernel
theorem dL_isAsked_446 : decode cL_isAsked 446 = .ok (.iconst 1, 1) := by decide +kernel
theorem dL_isAsked_447 : decode cL_isAsked 447 = .ok (.goto 12, 3) := by decide +kernel
theorem dL_isAsked_450 : decode cL_isAsked 450 = .ok (.aload 6, 2) := by decide +kernel
theorem dL_isAsked_452 : decode cL_isAsked 452 = .ok (.iconst 3, 1) := by decide +kernel
theorem dL_isAsked_453 : decode cL_isAsked 453 = .ok (.iload 12, 2) := by decide +kernel
theorem dL_isAsked_455 : decode cL_isAsked 455 = .ok (.imul, 1) := by decide +kernel
theorem dL_isAsked_456 : decode cL_isAsked 456 = .ok (.iconst 2, 1) := by decide +kernel
theorem dL_isAsked_457 : decode cL_isAsked 457 = .ok (.iadd, 1) := by decide +kernel
theorem dL_isAsked_458 : decode cL_isAsked 458 = .ok (.iaload, 1) := by decide +kernel
theorem dL_isAsked_459 : decode cL_isAsked 459 = .ok (.iastore, 1) := by decide +kernel
theorem dL_isAsked_460 : decode cL_isAsked 460 = .ok (.aload_n 0, 1) := by decide +kernel
theorem dL_isAsked_461 : decode cL_isAsked 461 = .ok (.iload 12, 2) := by decide +kernel
theorem dL_isAsked_463 : decode cL_isAsked 463 = .ok (.iload 9, 2) := by decide +kernel
theorem dL_isAsked_465 : decode cL_isAsked 465 = .ok (.invokestatic 94, 3) := by decide +kernel
theorem dL_isAsked_468 : decode cL_isAsked 468 = .ok (.iload 13, 2) := by decide +kernel
theorem dL_isAsked_470 : decode cL_isAsked 470 = .ok (.ifCond .eq 19, 3) := by decide +kernel
theorem dL_isAsked_473 : decode cL_isAsked 473 = .ok (.aload_n 3, 1) := by decide +kernel
theorem dL_isAsked_474 : decode cL_isAsked 474 = .ok (.iconst 2, 1) := by decide +kernel
theorem dL_isAsked_475 : decode cL_isAsked 475 = .ok (.iaload, 1) := by decide +kernel
theorem dL_isAsked_476 : decode cL_isAsked 476 = .ok (.aload 6, 2) := by decide +kernel
theorem dL_isAsked_478 : decode cL_isAsked 478 = .ok (.iconst 3, 1) := by decide +kernel
theorem dL_isAsked_479 : decode cL_isAsked 479 = .ok (.iload 12, 2) := by decide +kernel
theorem dL_isAsked_481 : decode cL_isAsked 481 = .ok (.imul, 1) := by decide +kernel
theorem dL_isAsked_482 : decode cL_isAsked 482 = .ok (.iconst 1, 1) := by decide +kernel
theorem dL_isAsked_483 : decode cL_isAsked 483 = .ok (.iadd, 1) := by decide +kernel
theorem dL_isAsked_484 : decode cL_isAsked 484 = .ok (.iaload, 1) := by decide +kernel
theorem dL_isAsked_485 : decode cL_isAsked 485 = .ok (.isub, 1) := by decide +kernel
theorem dL_isAsked_486 : decode cL_isAsked 486 = .ok (.goto 5, 3) := by decide +kernel
theorem dL_isAsked_489 : decode cL_isAsked 489 = .ok (.bipush (-2), 2) := by decide +kernel
theorem dL_isAsked_491 : decode cL_isAsked 491 = .ok (.if_icmp .ne 36, 3) := by decide +kernel
theorem dL_isAsked_494 : decode cL_isAsked 494 = .ok (.iload 13, 2) := by decide +kernel
theorem dL_isAsked_496 : decode cL_isAsked 496 = .ok (.ifCond .eq 27, 3) := by decide +kernel
theorem dL_isAsked_499 : decode cL_isAsked 499 = .ok (.aload_n 0, 1) := by decide +kernel
theorem dL_isAsked_500 : decode cL_isAsked 500 = .ok (.aload_n 3, 1) := by decide +kernel
theorem dL_isAsked_501 : decode cL_isAsked 501 = .ok (.iconst 4, 1) := by decide +kernel
theorem dL_isAsked_502 : decode cL_isAsked 502 = .ok (.iload 9, 2) := by decide +kernel
theorem dL_isAsked_504 : decode cL_isAsked 504 = .ok (.aload 6, 2) := by decide +kernel
theorem dL_isAsked_506 : decode cL_isAsked 506 = .ok (.iconst 3, 1) := by decide +kernel
theorem dL_isAsked_507 : decode cL_isAsked 507 = .ok (.iload 12, 2) := by decide +kernel
theorem dL_isAsked_509 : decode cL_isAsked 509 = .ok (.imul, 1) := by decide +kernel
theorem dL_isAsked_510 : decode cL_isAsked 510 = .ok (.iaload, 1) := by decide +kernel
theorem dL_isAsked_511 : decode cL_isAsked 511 = .ok (.bipush 8, 2) := by decide +kernel
theorem dL_isAsked_513 : decode cL_isAsked 513 = .ok (.irem, 1) := by decide +kernel
theorem dL_isAsked_514 : decode cL_isAsked 514 = .ok (.aload_n 3, 1) := by decide +kernel
theorem dL_isAsked_515 : decode cL_isAsked 515 = .ok (.iconst 2, 1) := by decide +kernel
theorem dL_isAsked_516 : decode cL_isAsked 516 = .ok (.iaload, 1) := by decide +kernel
theorem dL_isAsked_517 : decode cL_isAsked 517 = .ok (.invokestatic 38, 3) := by decide +kernel
theorem dL_isAsked_520 : decode cL_isAsked 520 = .ok (.ifCond .eq 7, 3) := by decide +kernel
theorem dL_isAsked_523 : decode cL_isAsked 523 = .ok (.iconst 1, 1) := by decide +kernel
theorem dL_isAsked_524 : decode cL_isAsked 524 = .ok (.goto 4, 3) := by decide +kernel
theorem dL_isAsked_527 : decode cL_isAsked 527 = .ok (.iconst 0, 1) := by decide +kernel
theorem dL_isAsked_528 : decode cL_isAsked 528 = .ok (.ireturn, 1) := by decide +kernel
theorem dL_isAsked_529 : decode cL_isAsked 529 = .ok (.aload_n 3, 1) := by decide +kernel
theorem dL_isAsked_530 : decode cL_isAsked 530 = .ok (.iconst 4, 1) := by decide +kernel
theorem dL_isAsked_531 : decode cL_isAsked 531 = .ok (.iaload, 1) := by decide +kernel
theorem dL_isAsked_532 : decode cL_isAsked 532 = .ok (.ifCond .eq 11, 3) := by decide +kernel
theorem dL_isAsked_535 : decode cL_isAsked 535 = .ok (.aload_n 3, 1) := by decide +kernel
theorem dL_isAsked_536 : decode cL_isAsked 536 = .ok (.iconst 3, 1) := by decide +kernel
theorem dL_isAsked_537 : decode cL_isAsked 537 = .ok (.iaload, 1) := by decide +kernel
theorem dL_isAsked_538 : decode cL_isAsked 538 = .ok (.bipush 20, 2) := by decide +kernel
theorem dL_isAsked_540 : decode cL_isAsked 540 = .ok (.if_icmp .ne 5, 3) := by decide +kernel
theorem dL_isAsked_543 : decode cL_isAsked 543 = .ok (.iconst 1, 1) := by decide +kernel
theorem dL_isAsked_544 : decode cL_isAsked 544 = .ok (.ireturn, 1) := by decide +kernel
theorem dL_isAsked_545 : decode cL_isAsked 545 = .ok (.iload 8, 2) := by decide +kernel
theorem dL_isAsked_547 : decode cL_isAsked 547 = .ok (.iconst 5, 1) := by decide +kernel
theorem dL_isAsked_548 : decode cL_isAsked 548 = .ok (.idiv, 1) := by decide +kernel
theorem dL_isAsked_549 : decode cL_isAsked 549 = .ok (.iconst 3, 1) := by decide +kernel
theorem dL_isAsked_550 : decode cL_isAsked 550 = .ok (.irem, 1) := by decide +kernel
theorem dL_isAsked_551 : decode cL_isAsked 551 = .ok (.ifCond .ne 11, 3) := by decide +kernel
theorem dL_isAsked_554 : decode cL_isAsked 554 = .ok (.aload_n 3, 1) := by decide +kernel
theorem dL_isAsked_555 : decode cL_isAsked 555 = .ok (.iconst 4, 1) := by decide +kernel
theorem dL_isAsked_556 : decode cL_isAsked 556 = .ok (.iaload, 1) := by decide +kernel
theorem dL_isAsked_557 : decode cL_isAsked 557 = .ok (.iconst 1, 1) := by decide +kernel
theorem dL_isAsked_558 : decode cL_isAsked 558 = .ok (.isub, 1) := by decide +kernel
theorem dL_isAsked_559 : decode cL_isAsked 559 = .ok (.goto 12, 3) := by decide +kernel
theorem dL_isAsked_562 : decode cL_isAsked 562 = .ok (.iload 8, 2) := by decide +kernel
theorem dL_isAsked_564 : decode cL_isAsked 564 = .ok (.bipush 15, 2) := by decide +kernel
theorem dL_isAsked_566 : decode cL_isAsked 566 = .ok (.idiv, 1) := by decide +kernel
theorem dL_isAsked_567 : decode cL_isAsked 567 = .ok (.aload_n 3, 1) := by decide +kernel
theorem dL_isAsked_568 : decode cL_isAsked 568 = .ok (.iconst 4, 1) := by decide +kernel
theorem dL_isAsked_569 : decode cL_isAsked 569 = .ok (.iaload, 1) := by decide +kernel
theorem dL_isAsked_570 : decode cL_isAsked 570 = .ok (.irem, 1) := by decide +kernel
theorem dL_isAsked_571 : decode cL_isAsked 571 = .ok (.istore 12, 2) := by decide +kernel
theorem dL_isAsked_573 : decode cL_isAsked 573 = .ok (.iconst 5, 1) := by decide +kernel
theorem dL_isAsked_574 : decode cL_isAsked 574 = .ok (.iload 12, 2) := by decide +kernel
theorem dL_isAsked_576 : decode cL_isAsked 576 = .ok (.imul, 1) := by decide +kernel
theorem dL_isAsked_577 : decode cL_isAsked 577 = .ok (.istore 13, 2) := by decide +kernel
theorem dL_isAsked_579 : decode cL_isAsked 579 = .ok (.aload 5, 2) := by decide +kernel
theorem dL_isAsked_581 : decode cL_isAsked 581 = .ok (.iload 13, 2) := by decide +kernel
theorem dL_isAsked_583 : decode cL_isAsked 583 = .ok (.iconst 3, 1) := by decide +kernel
theorem dL_isAsked_584 : decode cL_isAsked 584 = .ok (.iadd, 1) := by decide +kernel
theorem dL_isAsked_585 : decode cL_isAsked 585 = .ok (.iaload, 1) := by decide +kernel
theorem dL_isAsked_586 : decode cL_isAsked 586 = .ok (.ifCond .ne 46, 3) := by decide +kernel
theorem dL_isAsked_589 : decode cL_isAsked 589 = .ok (.aload_n 1, 1) := by decide +kernel
theorem dL_isAsked_590 : decode cL_isAsked 590 = .ok (.iconst 2, 1) := by decide +kernel
theorem dL_isAsked_591 : decode cL_isAsked 591 = .ok (.iload 9, 2) := by decide +kernel
theorem dL_isAsked_593 : decode cL_isAsked 593 = .ok (.imul, 1) := by decide +kernel
theorem dL_isAsked_594 : decode cL_isAsked 594 = .ok (.iaload, 1) := by decide +kernel
theorem dL_isAsked_595 : decode cL_isAsked 595 = .ok (.aload_n 1, 1) := by decide +kernel
theorem dL_isAsked_596 : decode cL_isAsked 596 = .ok (.iconst 2, 1) := by decide +kernel
theorem dL_isAsked_597 : decode cL_isAsked 597 = .ok (.aload 5, 2) := by decide +kernel
theorem dL_isAsked_599 : decode cL_isAsked 599 = .ok (.iload 13, 2) := by decide +kernel
theorem dL_isAsked_601 : decode cL_isAsked 601 = .ok (.iaload, 1) := by decide +kernel
theorem dL_isAsked_602 : decode cL_isAsked 602 = .ok (.bipush 8, 2) := by decide +kernel
theorem dL_isAsked_604 : decode cL_isAsked 604 = .ok (.idiv, 1) := by decide +kernel
theorem dL_isAsked_605 : decode cL_isAsked 605 = .ok (.imul, 1) := by decide +kernel
theorem dL_isAsked_606 : decode cL_isAsked 606 = .ok (.iaload, 1) := by decide +kernel
theorem dL_isAsked_607 : decode cL_isAsked 607 = .ok (.if_icmp .eq 25, 3) := by decide +kernel
theorem dL_isAsked_610 : decode cL_isAsked 610 = .ok (.aload_n 1, 1) := by decide +kernel
theorem dL_isAsked_611 : decode cL_isAsked 611 = .ok (.aload_n 2, 1) := by decide +kernel
theorem dL_isAsked_612 : decode cL_isAsked 612 = .ok (.iload 9, 2) := by decide +kernel
theorem dL_isAsked_614 : decode cL_isAsked 614 = .ok (.aload 5, 2) := by decide +kernel
theorem dL_isAsked_616 : decode cL_isAsked 616 = .ok (.iload 13, 2) := by decide +kernel
theorem dL_isAsked_618 : decode cL_isAsked 618 = .ok (.iaload, 1) := by decide +kernel
theorem dL_isAsked_619 : decode cL_isAsked 619 = .ok (.bipush 8, 2) := by decide +kernel
theorem dL_isAsked_621 : decode cL_isAsked 621 = .ok (.irem, 1) := by decide +kernel
theorem dL_isAsked_622 : decode cL_isAsked 622 = .ok (.invokestatic 75, 3) := by decide +kernel
theorem dL_isAsked_625 : decode cL_isAsked 625 = .ok (.ifCond .eq 7, 3) := by decide +kernel
theorem dL_isAsked_628 : decode cL_isAsked 628 = .ok (.iconst 1, 1) := by decide +kernel
theorem dL_isAsked_629 : decode cL_isAsked 629 = .ok (.goto 4, 3) := by decide +kernel
theorem dL_isAsked_632 : decode cL_isAsked 632 = .ok (.iconst 0, 1) := by decide +kernel
theorem dL_isAsked_633 : decode cL_isAsked 633 = .ok (.istore 14, 2) := by decide +kernel
theorem dL_isAsked_635 : decode cL_isAsked 635 = .ok (.iload 7, 2) := by decide +kernel
theorem dL_isAsked_637 : decode cL_isAsked 637 = .ok (.iconst 3, 1) := by decide +kernel
theorem dL_isAsked_638 : decode cL_isAsked 638 = .ok (.if_icmp .ne 81, 3) := by decide +kernel
theorem dL_isAsked_641 : decode cL_isAsked 641 = .ok (.aload 5, 2) := by decide +kernel
theorem dL_isAsked_643 : decode cL_isAsked 643 = .ok (.iload 13, 2) := by decide +kernel
theorem dL_isAsked_645 : decode cL_isAsked 645 = .ok (.iconst 3, 1) := by decide +kernel
theorem dL_isAsked_646 : decode cL_isAsked 646 = .ok (.iadd, 1) := by decide +kernel
theorem dL_isAsked_647 : decode cL_isAsked 647 = .ok (.iload 14, 2) := by decide +kernel
theorem dL_isAsked_649 : decode cL_isAsked 649 = .ok (.ifCond .eq 7, 3) := by decide +kernel
theorem dL_isAsked_652 : decode cL_isAsked 652 = .ok (.iconst 2, 1) := by decide +kernel
theorem dL_isAsked_653 : decode cL_isAsked 653 = .ok (.goto 10, 3) := by decide +kernel
theorem dL_isAsked_656 : decode cL_isAsked 656 = .ok (.aload 5, 2) := by decide +kernel
theorem dL_isAsked_658 : decode cL_isAsked 658 = .ok (.iload 13, 2) := by decide +kernel
theorem dL_isAsked_660 : decode cL_isAsked 660 = .ok (.iconst 3, 1) := by decide +kernel
theorem dL_isAsked_661 : decode cL_isAsked 661 = .ok (.iadd, 1) := by decide +kernel
theorem dL_isAsked_662 : decode cL_isAsked 662 = .ok (.iaload, 1) := by decide +kernel
theorem dL_isAsked_663 : decode cL_isAsked 663 = .ok (.iastore, 1) := by decide +kernel
theorem dL_isAsked_664 : decode cL_isAsked 664 = .ok (.aload_n 0, 1) := by decide +kernel
theorem dL_isAsked_665 : decode cL_isAsked 665 = .ok (.iload 12, 2) := by decide +kernel
theorem dL_isAsked_667 : decode cL_isAsked 667 = .ok (.iload 9, 2) := by decide +kernel
theorem dL_isAsked_669 : decode cL_isAsked 669 = .ok (.invokestatic 97, 3) := by decide +kernel
theorem dL_isAsked_672 : decode cL_isAsked 672 = .ok (.iload 14, 2) := by decide +kernel
theorem dL_isAsked_674 : decode cL_isAsked 674 = .ok (.ifCond .eq 7, 3) := by decide +kernel
theorem dL_isAsked_677 : decode cL_isAsked 677 = .ok (.iconst 0, 1) := by decide +kernel
theorem dL_isAsked_678 : decode cL_isAsked 678 = .ok (.goto 5, 3) := by decide +kernel
theorem dL_isAsked_681 : decode cL_isAsked 681 = .ok (.bipush (-2), 2) := by decide +kernel
theorem dL_isAsked_683 : decode cL_isAsked 683 = .ok (.if_icmp .ne 34, 3) := by decide +kernel
theorem dL_isAsked_686 : decode cL_isAsked 686 = .ok (.iload 14, 2) := by decide +kernel
theorem dL_isAsked_688 : decode cL_isAsked 688 = .ok (.ifCond .eq 25, 3) := by decide +kernel
theorem dL_isAsked_691 : decode cL_isAsked 691 = .ok (.aload_n 0, 1) := by decide +kernel
theorem dL_isAsked_692 : decode cL_isAsked 692 = .ok (.aload_n 3, 1) := by decide +kernel
theorem dL_isAsked_693 : decode cL_isAsked 693 = .ok (.iconst 2, 1) := by decide +kernel
theorem dL_isAsked_694 : decode cL_isAsked 694 = .ok (.iload 9, 2) := by decide +kernel
theorem dL_isAsked_696 : decode cL_isAsked 696 = .ok (.aload 5, 2) := by decide +kernel
theorem dL_isAsked_698 : decode cL_isAsked 698 = .ok (.iload 13, 2) := by decide +kernel
theorem dL_isAsked_700 : decode cL_isAsked 700 = .ok (.iaload, 1) := by decide +kernel
theorem dL_isAsked_701 : decode cL_isAsked 701 = .ok (.bipush 8, 2) := by decide +kernel
theorem dL_isAsked_703 : decode cL_isAsked 703 = .ok (.irem, 1) := by decide +kernel
theorem dL_isAsked_704 : decode cL_isAsked 704 = .ok (.aload_n 3, 1) := by decide +kernel
theorem dL_isAsked_705 : decode cL_isAsked 705 = .ok (.iconst 2, 1) := by decide +kernel
theorem dL_isAsked_706 : decode cL_isAsked 706 = .ok (.iaload, 1) := by decide +kernel
theorem dL_isAsked_707 : decode cL_isAsked 707 = .ok (.invokestatic 38, 3) := by decide +kernel
theorem dL_isAsked_710 : decode cL_isAsked 710 = .ok (.ifCond .eq 7, 3) := by decide +kernel
theorem dL_isAsked_713 : decode cL_isAsked 713 = .ok (.iconst 1, 1) := by decide +kernel
theorem dL_isAsked_714 : decode cL_isAsked 714 = .ok (.goto 4, 3) := by decide +kernel
theorem dL_isAsked_717 : decode cL_isAsked 717 = .ok (.iconst 0, 1) := by decide +kernel
theorem dL_isAsked_718 : decode cL_isAsked 718 = .ok (.ireturn, 1) := by decide +kernel
theorem dL_isAsked_719 : decode cL_isAsked 719 = .ok (.iload 14, 2) := by decide +kernel
theorem dL_isAsked_721 : decode cL_isAsked 721 = .ok (.ifCond .eq 21, 3) := by decide +kernel
theorem dL_isAsked_724 : decode cL_isAsked 724 = .ok (.aload 5, 2) := by decide +kernel
theorem dL_isAsked_726 : decode cL_isAsked 726 = .ok (.iload 13, 2) := by decide +kernel
theorem dL_isAsked_728 : decode cL_isAsked 728 = .ok (.iconst 4, 1) := by decide +kernel
theorem dL_isAsked_729 : decode cL_isAsked 729 = .ok (.iadd, 1) := by decide +kernel
theorem dL_isAsked_730 : decode cL_isAsked 730 = .ok (.iaload, 1) := by decide +kernel
theorem dL_isAsked_731 : decode cL_isAsked 731 = .ok (.iload 9, 2) := by decide +kernel
theorem dL_isAsked_733 : decode cL_isAsked 733 = .ok (.iconst 1, 1) := by decide +kernel
theorem dL_isAsked_734 : decode cL_isAsked 734 = .ok (.iadd, 1) := by decide +kernel
theorem dL_isAsked_735 : decode cL_isAsked 735 = .ok (.if_icmp .eq 7, 3) := by decide +kernel
theorem dL_isAsked_738 : decode cL_isAsked 738 = .ok (.iconst 1, 1) := by decide +kernel
theorem dL_isAsked_739 : decode cL_isAsked 739 = .ok (.goto 4, 3) := by decide +kernel
theorem dL_isAsked_742 : decode cL_isAsked 742 = .ok (.iconst 0, 1) := by decide +kernel
theorem dL_isAsked_743 : decode cL_isAsked 743 = .ok (.istore 14, 2) := by decide +kernel
theorem dL_isAsked_745 : decode cL_isAsked 745 = .ok (.iload 14, 2) := by decide +kernel
theorem dL_isAsked_747 : decode cL_isAsked 747 = .ok (.ifCond .eq 17, 3) := by decide +kernel
theorem dL_isAsked_750 : decode cL_isAsked 750 = .ok (.aload 5, 2) := by decide +kernel
theorem dL_isAsked_752 : decode cL_isAsked 752 = .ok (.iload 13, 2) := by decide +kernel
theorem dL_isAsked_754 : decode cL_isAsked 754 = .ok (.iconst 4, 1) := by decide +kernel
theorem dL_isAsked_755 : decode cL_isAsked 755 = .ok (.iadd, 1) := by decide +kernel
theorem dL_isAsked_756 : decode cL_isAsked 756 = .ok (.iaload, 1) := by decide +kernel
theorem dL_isAsked_757 : decode cL_isAsked 757 = .ok (.ifCond .le 7, 3) := by decide +kernel
theorem dL_isAsked_760 : decode cL_isAsked 760 = .ok (.iconst 1, 1) := by decide +kernel
theorem dL_isAsked_761 : decode cL_isAsked 761 = .ok (.goto 4, 3) := by decide +kernel
theorem dL_isAsked_764 : decode cL_isAsked 764 = .ok (.iconst 0, 1) := by decide +kernel
theorem dL_isAsked_765 : decode cL_isAsked 765 = .ok (.istore 15, 2) := by decide +kernel
theorem dL_isAsked_767 : decode cL_isAsked 767 = .ok (.aload 5, 2) := by decide +kernel
theorem dL_isAsked_769 : decode cL_isAsked 769 = .ok (.iload 13, 2) := by decide +kernel
theorem dL_isAsked_771 : decode cL_isAsked 771 = .ok (.iconst 4, 1) := by decide +kernel
theorem dL_isAsked_772 : decode cL_isAsked 772 = .ok (.iadd, 1) := by decide +kernel
theorem dL_isAsked_773 : decode cL_isAsked 773 = .ok (.iload 14, 2) := by decide +kernel
theorem dL_isAsked_775 : decode cL_isAsked 775 = .ok (.ifCond .eq 15, 3) := by decide +kernel
theorem dL_isAsked_778 : decode cL_isAsked 778 = .ok (.iload 15, 2) := by decide +kernel
theorem dL_isAsked_780 : decode cL_isAsked 780 = .ok (.ifCond .ne 10, 3) := by decide +kernel
theorem dL_isAsked_783 : decode cL_isAsked 783 = .ok (.iload 9, 2) := by decide +kernel
theorem dL_isAsked_785 : decode cL_isAsked 785 = .ok (.iconst 1, 1) := by decide +kernel
theorem dL_isAsked_786 : decode cL_isAsked 786 = .ok (.iadd, 1) := by decide +kernel
theorem dL_isAsked_787 : decode cL_isAsked 787 = .ok (.goto 10, 3) := by decide +kernel
theorem dL_isAsked_790 : decode cL_isAsked 790 = .ok (.aload 5, 2) := by decide +kernel
theorem dL_isAsked_792 : decode cL_isAsked 792 = .ok (.iload 13, 2) := by decide +kernel
theorem dL_isAsked_794 : decode cL_isAsked 794 = .ok (.iconst 4, 1) := by decide +kernel
theorem dL_isAsked_795 : decode cL_isAsked 795 = .ok (.iadd, 1) := by decide +kernel
theorem dL_isAsked_796 : decode cL_isAsked 796 = .ok (.iaload, 1) := by decide +kernel
theorem dL_isAsked_797 : decode cL_isAsked 797 = .ok (.iastore, 1) := by decide +kernel
theorem dL_isAsked_798 : decode cL_isAsked 798 = .ok (.aload 5, 2) := by decide +kernel
theorem dL_isAsked_800 : decode cL_isAsked 800 = .ok (.iload 13, 2) := by decide +kernel
theorem dL_isAsked_802 : decode cL_isAsked 802 = .ok (.iconst 3, 1) := by decide +kernel
theorem dL_isAsked_803 : decode cL_isAsked 803 = .ok (.iadd, 1) := by decide +kernel
theorem dL_isAsked_804 : decode cL_isAsked 804 = .ok (.iload 15, 2) := by decide +kernel
theorem dL_isAsked_806 : decode cL_isAsked 806 = .ok (.ifCond .eq 7, 3) := by decide +kernel
theorem dL_isAsked_809 : decode cL_isAsked 809 = .ok (.iconst 1, 1) := by decide +kernel
theorem dL_isAsked_810 : decode cL_isAsked 810 = .ok (.goto 10, 3) := by decide +kernel
theorem dL_isAsked_813 : decode cL_isAsked 813 = .ok (.aload 5, 2) := by decide +kernel
theorem dL_isAsked_815 : decode cL_isAsked 815 = .ok (.iload 13, 2) := by decide +kernel
theorem dL_isAsked_817 : decode cL_isAsked 817 = .ok (.iconst 3, 1) := by decide +kernel
theorem dL_isAsked_818 : decode cL_isAsked 818 = .ok (.iadd, 1) := by decide +kernel
theorem dL_isAsked_819 : decode cL_isAsked 819 = .ok (.iaload, 1) := by decide +kernel
theorem dL_isAsked_820 : decode cL_isAsked 820 = .ok (.iastore, 1) := by decide +kernel
theorem dL_isAsked_821 : decode cL_isAsked 821 = .ok (.iload 15, 2) := by decide +kernel
theorem dL_isAsked_823 : decode cL_isAsked 823 = .ok (.ifCond .eq 21, 3) := by decide +kernel
theorem dL_isAsked_826 : decode cL_isAsked 826 = .ok (.aload 4, 2) := by decide +kernel
theorem dL_isAsked_828 : decode cL_isAsked 828 = .ok (.aload_n 3, 1) := by decide +kernel
theorem dL_isAsked_829 : decode cL_isAsked 829 = .ok (.aload 5, 2) := by decide +kernel
theorem dL_isAsked_831 : decode cL_isAsked 831 = .ok (.iload 13, 2) := by decide +kernel
theorem dL_isAsked_833 : decode cL_isAsked 833 = .ok (.iaload, 1) := by decide +kernel
theorem dL_isAsked_834 : decode cL_isAsked 834 = .ok (.aload 5, 2) := by decide +kernel
theorem dL_isAsked_836 : decode cL_isAsked 836 = .ok (.iload 13, 2) := by decide +kernel
theorem dL_isAsked_838 : decode cL_isAsked 838 = .ok (.iconst 1, 1) := by decide +kernel
theorem dL_isAsked_839 : decode cL_isAsked 839 = .ok (.iadd, 1) := by decide +kernel
theorem dL_isAsked_840 : decode cL_isAsked 840 = .ok (.iaload, 1) := by decide +kernel
theorem dL_isAsked_841 : decode cL_isAsked 841 = .ok (.invokestatic 90, 3) := by decide +kernel
theorem dL_isAsked_844 : decode cL_isAsked 844 = .ok (.aload_n 0, 1) := by decide +kernel
theorem dL_isAsked_845 : decode cL_isAsked 845 = .ok (.iload 12, 2) := by decide +kernel
theorem dL_isAsked_847 : decode cL_isAsked 847 = .ok (.iload 9, 2) := by decide +kernel
theorem dL_isAsked_849 : decode cL_isAsked 849 = .ok (.invokestatic 100, 3) := by decide +kernel
theorem dL_isAsked_852 : decode cL_isAsked 852 = .ok (.iload 14, 2) := by decide +kernel
theorem dL_isAsked_854 : decode cL_isAsked 854 = .ok (.ifCond .eq 16, 3) := by decide +kernel
theorem dL_isAsked_857 : decode cL_isAsked 857 = .ok (.iload 15, 2) := by decide +kernel
theorem dL_isAsked_859 : decode cL_isAsked 859 = .ok (.ifCond .eq 7, 3) := by decide +kernel
theorem dL_isAsked_862 : decode cL_isAsked 862 = .ok (.iconst 1, 1) := by decide +kernel
theorem dL_isAsked_863 : decode cL_isAsked 863 = .ok (.goto 9, 3) := by decide +kernel
theorem dL_isAsked_866 : decode cL_isAsked 866 = .ok (.iconst 0, 1) := by decide +kernel
theorem dL_isAsked_867 : decode cL_isAsked 867 = .ok (.goto 5, 3) := by decide +kernel
theorem dL_isAsked_870 : decode cL_isAsked 870 = .ok (.bipush (-2), 2) := by decide +kernel
theorem dL_isAsked_872 : decode cL_isAsked 872 = .ok (.if_icmp .ne 34, 3) := by decide +kernel
theorem dL_isAsked_875 : decode cL_isAsked 875 = .ok (.iload 14, 2) := by decide +kernel
theorem dL_isAsked_877 : decode cL_isAsked 877 = .ok (.ifCond .eq 25, 3) := by decide +kernel
theorem dL_isAsked_880 : decode cL_isAsked 880 = .ok (.aload_n 0, 1) := by decide +kernel
theorem dL_isAsked_881 : decode cL_isAsked 881 = .ok (.aload_n 3, 1) := by decide +kernel
theorem dL_isAsked_882 : decode cL_isAsked 882 = .ok (.iconst 1, 1) := by decide +kernel
theorem dL_isAsked_883 : decode cL_isAsked 883 = .ok (.iload 9, 2) := by decide +kernel
theorem dL_isAsked_885 : decode cL_isAsked 885 = .ok (.aload 5, 2) := by decide +kernel
theorem dL_isAsked_887 : decode cL_isAsked 887 = .ok (.iload 13, 2) := by decide +kernel
theorem dL_isAsked_889 : decode cL_isAsked 889 = .ok (.iaload, 1) := by decide +kernel
theorem dL_isAsked_890 : decode cL_isAsked 890 = .ok (.bipush 8, 2) := by decide +kernel
theorem dL_isAsked_892 : decode cL_isAsked 892 = .ok (.irem, 1) := by decide +kernel
theorem dL_isAsked_893 : decode cL_isAsked 893 = .ok (.aload_n 3, 1) := by decide +kernel
theorem dL_isAsked_894 : decode cL_isAsked 894 = .ok (.iconst 2, 1) := by decide +kernel
theorem dL_isAsked_895 : decode cL_isAsked 895 = .ok (.iaload, 1) := by decide +kernel
theorem dL_isAsked_896 : decode cL_isAsked 896 = .ok (.invokestatic 38, 3) := by decide +kernel
theorem dL_isAsked_899 : decode cL_isAsked 899 = .ok (.ifCond .eq 7, 3) := by decide +kernel
theorem dL_isAsked_902 : decode cL_isAsked 902 = .ok (.iconst 1, 1) := by decide +kernel
theorem dL_isAsked_903 : decode cL_isAsked 903 = .ok (.goto 4, 3) := by decide +kernel
theorem dL_isAsked_906 : decode cL_isAsked 906 = .ok (.iconst 0, 1) := by decide +kernel
theorem dL_isAsked_907 : decode cL_isAsked 907 = .ok (.ireturn, 1) := by decide +kernel
theorem dL_isTyped_0 : decode cL_isTyped 0 = .ok (.iload 7, 2) := by decide +kernel
theorem dL_isTyped_2 : decode cL_isTyped 2 = .ok (.aload_n 3, 1) := by decide +kernel
theorem dL_isTyped_3 : decode cL_isTyped 3 = .ok (.iconst 0, 1) := by decide +kernel
theorem dL_isTyped_4 : decode cL_isTyped 4 = .ok (.iaload, 1) := by decide +kernel
theorem dL_isTyped_5 : decode cL_isTyped 5 = .ok (.irem, 1) := by decide +kernel
theorem dL_isTyped_6 : decode cL_isTyped 6 = .ok (.istore 8, 2) := by decide +kernel
theorem dL_isTyped_8 : decode cL_isTyped 8 = .ok (.iload 6, 2) := by decide +kernel
theorem dL_isTyped_10 : decode cL_isTyped 10 = .ok (.ifCond .ne 179, 3) := by decide +kernel
theorem dL_isTyped_13 : decode cL_isTyped 13 = .ok (.aload_n 3, 1) := by decide +kernel
theorem dL_isTyped_14 : decode cL_isTyped 14 = .ok (.bipush 6, 2) := by decide +kernel
theorem dL_isTyped_16 : decode cL_isTyped 16 = .ok (.iaload, 1) := by decide +kernel
theorem dL_isTyped_17 : decode cL_isTyped 17 = .ok (.bipush 12, 2) := by decide +kernel
theorem dL_isTyped_19 : decode cL_isTyped 19 = .ok (.if_icmp .ge 170, 3) := by decide +kernel
theorem dL_isTyped_22 : decode cL_isTyped 22 = .ok (.iload 7, 2) := by decide +kernel
theorem dL_isTyped_24 : decode cL_isTyped 24 = .ok (.iconst 5, 1) := by decide +kernel
theorem dL_isTyped_25 : decode cL_isTyped 25 = .ok (.idiv, 1) := by decide +kernel
theorem dL_isTyped_26 : decode cL_isTyped 26 = .ok (.aload_n 3, 1) := by decide +kernel
theorem dL_isTyped_27 : decode cL_isTyped 27 = .ok (.iconst 1, 1) := by decide +kernel
theorem dL_isTyped_28 : decode cL_isTyped 28 = .ok (.iaload, 1) := by decide +kernel
theorem dL_isTyped_29 : decode cL_isTyped 29 = .ok (.irem, 1) := by decide +kernel
theorem dL_isTyped_30 : decode cL_isTyped 30 = .ok (.istore 9, 2) := by decide +kernel
theorem dL_isTyped_32 : decode cL_isTyped 32 = .ok (.aload 4, 2) := by decide +kernel
theorem dL_isTyped_34 : decode cL_isTyped 34 = .ok (.aload_n 3, 1) := by decide +kernel
theorem dL_isTyped_35 : decode cL_isTyped 35 = .ok (.bipush 8, 2) := by decide +kernel
theorem dL_isTyped_37 : decode cL_isTyped 37 = .ok (.iload 8, 2) := by decide +kernel
theorem dL_isTyped_39 : decode cL_isTyped 39 = .ok (.imul, 1) := by decide +kernel
theorem dL_isTyped_40 : decode cL_isTyped 40 = .ok (.iload 9, 2) := by decide +kernel
theorem dL_isTyped_42 : decode cL_isTyped 42 = .ok (.iadd, 1) := by decide +kernel
theorem dL_isTyped_43 : decode cL_isTyped 43 = .ok (.aload_n 3, 1) := by decide +kernel
theorem dL_isTyped_44 : decode cL_isTyped 44 = .ok (.iconst 2, 1) := by decide +kernel
theorem dL_isTyped_45 : decode cL_isTyped 45 = .ok (.iaload, 1) := by decide +kernel
theorem dL_isTyped_46 : decode cL_isTyped 46 = .ok (.invokestatic 32, 3) := by decide +kernel
theorem dL_isTyped_49 : decode cL_isTyped 49 = .ok (.istore 10, 2) := by decide +kernel
theorem dL_isTyped_51 : decode cL_isTyped 51 = .ok (.iload 10, 2) := by decide +kernel
theorem dL_isTyped_53 : decode cL_isTyped 53 = .ok (.ifCond .ne 22, 3) := by decide +kernel
theorem dL_isTyped_56 : decode cL_isTyped 56 = .ok (.aload_n 0, 1) := by decide +kernel
theorem dL_isTyped_57 : decode cL_isTyped 57 = .ok (.iload 8, 2) := by decide +kernel
theorem dL_isTyped_59 : decode cL_isTyped 59 = .ok (.iload 9, 2) := by decide +kernel
theorem dL_isTyped_61 : decode cL_isTyped 61 = .ok (.invokestatic 103, 3) := by decide +kernel
theorem dL_isTyped_64 : decode cL_isTyped 64 = .ok (.bipush (-2), 2) := by decide +kernel
theorem dL_isTyped_66 : decode cL_isTyped 66 = .ok (.if_icmp .ne 7, 3) := by decide +kernel
theorem dL_isTyped_69 : decode cL_isTyped 69 = .ok (.iconst 1, 1) := by decide +kernel
theorem dL_isTyped_70 : decode cL_isTyped 70 = .ok (.goto 4, 3) := by decide +kernel
theorem dL_isTyped_73 : decode cL_isTyped 73 = .ok (.iconst 0, 1) := by decide +kernel
theorem dL_isTyped_74 : decode cL_isTyped 74 = .ok (.ireturn, 1) := by decide +kernel
theorem dL_isTyped_75 : decode cL_isTyped 75 = .ok (.aload 5, 2) := by decide +kernel
theorem dL_isTyped_77 : decode cL_isTyped 77 = .ok (.iconst 5, 1) := by decide +kernel
theorem dL_isTyped_78 : decode cL_isTyped 78 = .ok (.aload_n 3, 1) := by decide +kernel
theorem dL_isTyped_79 : decode cL_isTyped 79 = .ok (.bipush 6, 2) := by decide +kernel
theorem dL_isTyped_81 : decode cL_isTyped 81 = .ok (.iaload, 1) := by decide +kernel
theorem dL_isTyped_82 : decode cL_isTyped 82 = .ok (.imul, 1) := by decide +kernel
theorem dL_isTyped_83 : decode cL_isTyped 83 = .ok (.bipush 8, 2) := by decide +kernel
theorem dL_isTyped_85 : decode cL_isTyped 85 = .ok (.iload 8, 2) := by decide +kernel
theorem dL_isTyped_87 : decode cL_isTyped 87 = .ok (.imul, 1) := by decide +kernel
theorem dL_isTyped_88 : decode cL_isTyped 88 = .ok (.iload 9, 2) := by decide +kernel
theorem dL_isTyped_90 : decode cL_isTyped 90 = .ok (.iadd, 1) := by decide +kernel
theorem dL_isTyped_91 : decode cL_isTyped 91 = .ok (.iastore, 1) := by decide +kernel
theorem dL_isTyped_92 : decode cL_isTyped 92 = .ok (.aload 5, 2) := by decide +kernel
theorem dL_isTyped_94 : decode cL_isTyped 94 = .ok (.iconst 5, 1) := by decide +kernel
theorem dL_isTyped_95 : decode cL_isTyped 95 = .ok (.aload_n 3, 1) := by decide +kernel
theorem dL_isTyped_96 : decode cL_isTyped 96 = .ok (.bipush 6, 2) := by decide +kernel
theorem dL_isTyped_98 : decode cL_isTyped 98 = .ok (.iaload, 1) := by decide +kernel
theorem dL_isTyped_99 : decode cL_isTyped 99 = .ok (.imul, 1) := by decide +kernel
theorem dL_isTyped_100 : decode cL_isTyped 100 = .ok (.iconst 1, 1) := by decide +kernel
theorem dL_isTyped_101 : decode cL_isTyped 101 = .ok (.iadd, 1) := by decide +kernel
theorem dL_isTyped_102 : decode cL_isTyped 102 = .ok (.iconst 1, 1) := by decide +kernel
theorem dL_isTyped_103 : decode cL_isTyped 103 = .ok (.iastore, 1) := by decide +kernel
theorem dL_isTyped_104 : decode cL_isTyped 104 = .ok (.aload 5, 2) := by decide +kernel
theorem dL_isTyped_106 : decode cL_isTyped 106 = .ok (.iconst 5, 1) := by decide +kernel
theorem dL_isTyped_107 : decode cL_isTyped 107 = .ok (.aload_n 3, 1) := by decide +kernel
theorem dL_isTyped_108 : decode cL_isTyped 108 = .ok (.bipush 6, 2) := by decide +kernel
theorem dL_isTyped_110 : decode cL_isTyped 110 = .ok (.iaload, 1) := by decide +kernel
theorem dL_isTyped_111 : decode cL_isTyped 111 = .ok (.imul, 1) := by decide +kernel
theorem dL_isTyped_112 : decode cL_isTyped 112 = .ok (.iconst 2, 1) := by decide +kernel
theorem dL_isTyped_113 : decode cL_isTyped 113 = .ok (.iadd, 1) := by decide +kernel
theorem dL_isTyped_114 : decode cL_isTyped 114 = .ok (.aload_n 3, 1) := by decide +kernel
theorem dL_isTyped_115 : decode cL_isTyped 115 = .ok (.iconst 2, 1) := by decide +kernel
theorem dL_isTyped_116 : decode cL_isTyped 116 = .ok (.iaload, 1) := by decide +kernel
theorem dL_isTyped_117 : decode cL_isTyped 117 = .ok (.iastore, 1) := by decide +kernel
theorem dL_isTyped_118 : decode cL_isTyped 118 = .ok (.aload 5, 2) := by decide +kernel
theorem dL_isTyped_120 : decode cL_isTyped 120 = .ok (.iconst 5, 1) := by decide +kernel
theorem dL_isTyped_121 : decode cL_isTyped 121 = .ok (.aload_n 3, 1) := by decide +kernel
theorem dL_isTyped_122 : decode cL_isTyped 122 = .ok (.bipush 6, 2) := by decide +kernel
theorem dL_isTyped_124 : decode cL_isTyped 124 = .ok (.iaload, 1) := by decide +kernel
theorem dL_isTyped_125 : decode cL_isTyped 125 = .ok (.imul, 1) := by decide +kernel
theorem dL_isTyped_126 : decode cL_isTyped 126 = .ok (.iconst 3, 1) := by decide +kernel
theorem dL_isTyped_127 : decode cL_isTyped 127 = .ok (.iadd, 1) := by decide +kernel
theorem dL_isTyped_128 : decode cL_isTyped 128 = .ok (.iconst 0, 1) := by decide +kernel
theorem dL_isTyped_129 : decode cL_isTyped 129 = .ok (.iastore, 1) := by decide +kernel
theorem dL_isTyped_130 : decode cL_isTyped 130 = .ok (.aload 5, 2) := by decide +kernel
theorem dL_isTyped_132 : decode cL_isTyped 132 = .ok (.iconst 5, 1) := by decide +kernel
theorem dL_isTyped_133 : decode cL_isTyped 133 = .ok (.aload_n 3, 1) := by decide +kernel
theorem dL_isTyped_134 : decode cL_isTyped 134 = .ok (.bipush 6, 2) := by decide +kernel
theorem dL_isTyped_136 : decode cL_isTyped 136 = .ok (.iaload, 1) := by decide +kernel
theorem dL_isTyped_137 : decode cL_isTyped 137 = .ok (.imul, 1) := by decide +kernel
theorem dL_isTyped_138 : decode cL_isTyped 138 = .ok (.iconst 4, 1) := by decide +kernel
theorem dL_isTyped_139 : decode cL_isTyped 139 = .ok (.iadd, 1) := by decide +kernel
theorem dL_isTyped_140 : decode cL_isTyped 140 = .ok (.iconst 0, 1) := by decide +kernel
theorem dL_isTyped_141 : decode cL_isTyped 141 = .ok (.iastore, 1) := by decide +kernel
theorem dL_isTyped_142 : decode cL_isTyped 142 = .ok (.aload_n 3, 1) := by decide +kernel
theorem dL_isTyped_143 : decode cL_isTyped 143 = .ok (.bipush 6, 2) := by decide +kernel
theorem dL_isTyped_145 : decode cL_isTyped 145 = .ok (.dup2, 1) := by decide +kernel
theorem dL_isTyped_146 : decode cL_isTyped 146 = .ok (.iaload, 1) := by decide +kernel
theorem dL_isTyped_147 : decode cL_isTyped 147 = .ok (.iconst 1, 1) := by decide +kernel
theorem dL_isTyped_148 : decode cL_isTyped 148 = .ok (.iadd, 1) := by decide +kernel
theorem dL_isTyped_149 : decode cL_isTyped 149 = .ok (.iastore, 1) := by decide +kernel
theorem dL_isTyped_150 : decode cL_isTyped 150 = .ok (.aload_n 0, 1) := by decide +kernel
theorem dL_isTyped_151 : decode cL_isTyped 151 = .ok (.iload 8, 2) := by decide +kernel
theorem dL_isTyped_153 : decode cL_isTyped 153 = .ok (.iload 9, 2) := by decide +kernel
theorem dL_isTyped_155 : decode cL_isTyped 155 = .ok (.invokestatic 103, 3) := by decide +kernel
theorem dL_isTyped_158 : decode cL_isTyped 158 = .ok (.aload_n 3, 1) := by decide +kernel
theorem dL_isTyped_159 : decode cL_isTyped 159 = .ok (.bipush 6, 2) := by decide +kernel
theorem dL_isTyped_161 : decode cL_isTyped 161 = .ok (.iaload, 1) := by decide +kernel
theorem dL_isTyped_162 : decode cL_isTyped 162 = .ok (.iconst 1, 1) := by decide +kernel
theorem dL_isTyped_163 : decode cL_isTyped 163 = .ok (.isub, 1) := by decide +kernel
theorem dL_isTyped_164 : decode cL_isTyped 164 = .ok (.if_icmp .ne 23, 3) := by decide +kernel
theorem dL_isTyped_167 : decode cL_isTyped 167 = .ok (.aload_n 0, 1) := by decide +kernel
theorem dL_isTyped_168 : decode cL_isTyped 168 = .ok (.aload_n 3, 1) := by decide +kernel
theorem dL_isTyped_169 : decode cL_isTyped 169 = .ok (.iconst 5, 1) := by decide +kernel
theorem dL_isTyped_170 : decode cL_isTyped 170 = .ok (.iload 8, 2) := by decide +kernel
theorem dL_isTyped_172 : decode cL_isTyped 172 = .ok (.iload 9, 2) := by decide +kernel
theorem dL_isTyped_174 : decode cL_isTyped 174 = .ok (.aload_n 3, 1) := by decide +kernel
theorem dL_isTyped_175 : decode cL_isTyped 175 = .ok (.iconst 2, 1) := by decide +kernel
theorem dL_isTyped_176 : decode cL_isTyped 176 = .ok (.iaload, 1) := by decide +kernel
theorem dL_isTyped_177 : decode cL_isTyped 177 = .ok (.invokestatic 38, 3) := by decide +kernel
theorem dL_isTyped_180 : decode cL_isTyped 180 = .ok (.ifCond .eq 7, 3) := by decide +kernel
theorem dL_isTyped_183 : decode cL_isTyped 183 = .ok (.iconst 1, 1) := by decide +kernel
theorem dL_isTyped_184 : decode cL_isTyped 184 = .ok (.goto 4, 3) := by decide +kernel
theorem dL_isTyped_187 : decode cL_isTyped 187 = .ok (.iconst 0, 1) := by decide +kernel
theorem dL_isTyped_188 : decode cL_isTyped 188 = .ok (.ireturn, 1) := by decide +kernel
theorem dL_isTyped_189 : decode cL_isTyped 189 = .ok (.aload_n 3, 1) := by decide +kernel
theorem dL_isTyped_190 : decode cL_isTyped 190 = .ok (.bipush 6, 2) := by decide +kernel
theorem dL_isTyped_192 : decode cL_isTyped 192 = .ok (.iaload, 1) := by decide +kernel
theorem dL_isTyped_193 : decode cL_isTyped 193 = .ok (.ifCond .ne 5, 3) := by decide +kernel
theorem dL_isTyped_196 : decode cL_isTyped 196 = .ok (.iconst 1, 1) := by decide +kernel
theorem dL_isTyped_197 : decode cL_isTyped 197 = .ok (.ireturn, 1) := by decide +kernel
theorem dL_isTyped_198 : decode cL_isTyped 198 = .ok (.iload 7, 2) := by decide +kernel
theorem dL_isTyped_200 : decode cL_isTyped 200 = .ok (.iconst 5, 1) := by decide +kernel
theorem dL_isTyped_201 : decode cL_isTyped 201 = .ok (.idiv, 1) := by decide +kernel
theorem dL_isTyped_202 : decode cL_isTyped 202 = .ok (.iconst 3, 1) := by decide +kernel
theorem dL_isTyped_203 : decode cL_isTyped 203 = .ok (.irem, 1) := by decide +kernel
theorem dL_isTyped_204 : decode cL_isTyped 204 = .ok (.ifCond .le 12, 3) := by decide +kernel
theorem dL_isTyped_207 : decode cL_isTyped 207 = .ok (.aload_n 3, 1) := by decide +kernel
theorem dL_isTyped_208 : decode cL_isTyped 208 = .ok (.bipush 6, 2) := by decide +kernel
theorem dL_isTyped_210 : decode cL_isTyped 210 = .ok (.iaload, 1) := by decide +kernel
theorem dL_isTyped_211 : decode cL_isTyped 211 = .ok (.iconst 1, 1) := by decide +kernel
theorem dL_isTyped_212 : decode cL_isTyped 212 = .ok (.isub, 1) := by decide +kernel
theorem dL_isTyped_213 : decode cL_isTyped 213 = .ok (.goto 13, 3) := by decide +kernel
theorem dL_isTyped_216 : decode cL_isTyped 216 = .ok (.iload 7, 2) := by decide +kernel
theorem dL_isTyped_218 : decode cL_isTyped 218 = .ok (.bipush 15, 2) := by decide +kernel
theorem dL_isTyped_220 : decode cL_isTyped 220 = .ok (.idiv, 1) := by decide +kernel
theorem dL_isTyped_221 : decode cL_isTyped 221 = .ok (.aload_n 3, 1) := by decide +kernel
theorem dL_isTyped_222 : decode cL_isTyped 222 = .ok (.bipush 6, 2) := by decide +kernel
theorem dL_isTyped_224 : decode cL_isTyped 224 = .ok (.iaload, 1) := by decide +kernel
theorem dL_isTyped_225 : decode cL_isTyped 225 = .ok (.irem, 1) := by decide +kernel
theorem dL_isTyped_226 : decode cL_isTyped 226 = .ok (.istore 9, 2) := by decide +kernel
theorem dL_isTyped_228 : decode cL_isTyped 228 = .ok (.iconst 5, 1) := by decide +kernel
theorem dL_isTyped_229 : decode cL_isTyped 229 = .ok (.iload 9, 2) := by decide +kernel
theorem dL_isTyped_231 : decode cL_isTyped 231 = .ok (.imul, 1) := by decide +kernel
theorem dL_isTyped_232 : decode cL_isTyped 232 = .ok (.istore 10, 2) := by decide +kernel
theorem dL_isTyped_234 : decode cL_isTyped 234 = .ok (.aload 5, 2) := by decide +kernel
theorem dL_isTyped_236 : decode cL_isTyped 236 = .ok (.iload 10, 2) := by decide +kernel
theorem dL_isTyped_238 : decode cL_isTyped 238 = .ok (.iconst 1, 1) := by decide +kernel
theorem dL_isTyped_239 : decode cL_isTyped 239 = .ok (.iadd, 1) := by decide +kernel
theorem dL_isTyped_240 : decode cL_isTyped 240 = .ok (.iaload, 1) := by decide +kernel
theorem dL_isTyped_241 : decode cL_isTyped 241 = .ok (.iconst 1, 1) := by decide +kernel
theorem dL_isTyped_242 : decode cL_isTyped 242 = .ok (.if_icmp .ne 7, 3) := by decide +kernel
theorem dL_isTyped_245 : decode cL_isTyped 245 = .ok (.iconst 1, 1) := by decide +kernel
theorem dL_isTyped_246 : decode cL_isTyped 246 = .ok (.goto 4, 3) := by decide +kernel
theorem dL_isTyped_249 : decode cL_isTyped 249 = .ok (.iconst 0, 1) := by decide +kernel
theorem dL_isTyped_250 : decode cL_isTyped 250 = .ok (.istore 11, 2) := by decide +kernel
theorem dL_isTyped_252 : decode cL_isTyped 252 = .ok (.iload 6, 2) := by decide +kernel
theorem dL_isTyped_254 : decode cL_isTyped 254 = .ok (.iconst 1, 1) := by decide +kernel
theorem dL_isTyped_255 : decode cL_isTyped 255 = .ok (.if_icmp .ne 179, 3) := by decide +kernel
theorem dL_isTyped_258 : decode cL_isTyped 258 = .ok (.iload 11, 2) := by decide +kernel
theorem dL_isTyped_260 : decode cL_isTyped 260 = .ok (.ifCond .eq 56, 3) := by decide +kernel
theorem dL_isTyped_263 : decode cL_isTyped 263 = .ok (.aload 5, 2) := by decide +kernel
theorem dL_isTyped_265 : decode cL_isTyped 265 = .ok (.iload 10, 2) := by decide +kernel
theorem dL_isTyped_267 : decode cL_isTyped 267 = .ok (.iconst 3, 1) := by decide +kernel
theorem dL_isTyped_268 : decode cL_isTyped 268 = .ok (.iadd, 1) := by decide +kernel
theorem dL_isTyped_269 : decode cL_isTyped 269 = .ok (.iaload, 1) := by decide +kernel
theorem dL_isTyped_270 : decode cL_isTyped 270 = .ok (.ifCond .le 46, 3) := by decide +kernel
theorem dL_isTyped_273 : decode cL_isTyped 273 = .ok (.aload_n 1, 1) := by decide +kernel
theorem dL_isTyped_274 : decode cL_isTyped 274 = .ok (.iconst 2, 1) := by decide +kernel
theorem dL_isTyped_275 : decode cL_isTyped 275 = .ok (.iload 8, 2) := by decide +kernel
theorem dL_isTyped_277 : decode cL_isTyped 277 = .ok (.imul, 1) := by decide +kernel
theorem dL_isTyped_278 : decode cL_isTyped 278 = .ok (.iaload, 1) := by decide +kernel
theorem dL_isTyped_279 : decode cL_isTyped 279 = .ok (.aload_n 1, 1) := by decide +kernel
theorem dL_isTyped_280 : decode cL_isTyped 280 = .ok (.iconst 2, 1) := by decide +kernel
theorem dL_isTyped_281 : decode cL_isTyped 281 = .ok (.aload 5, 2) := by decide +kernel
theorem dL_isTyped_283 : decode cL_isTyped 283 = .ok (.iload 10, 2) := by decide +kernel
theorem dL_isTyped_285 : decode cL_isTyped 285 = .ok (.iaload, 1) := by decide +kernel
theorem dL_isTyped_286 : decode cL_isTyped 286 = .ok (.bipush 8, 2) := by decide +kernel
theorem dL_isTyped_288 : decode cL_isTyped 288 = .ok (.idiv, 1) := by decide +kernel
theorem dL_isTyped_289 : decode cL_isTyped 289 = .ok (.imul, 1) := by decide +kernel
theorem dL_isTyped_290 : decode cL_isTyped 290 = .ok (.iaload, 1) := by decide +kernel
theorem dL_isTyped_291 : decode cL_isTyped 291 = .ok (.if_icmp .eq 25, 3) := by decide +kernel
theorem dL_isTyped_294 : decode cL_isTyped 294 = .ok (.aload_n 1, 1) := by decide +kernel
theorem dL_isTyped_295 : decode cL_isTyped 295 = .ok (.aload_n 2, 1) := by decide +kernel
theorem dL_isTyped_296 : decode cL_isTyped 296 = .ok (.iload 8, 2) := by decide +kernel
theorem dL_isTyped_298 : decode cL_isTyped 298 = .ok (.aload 5, 2) := by decide +kernel
theorem dL_isTyped_300 : decode cL_isTyped 300 = .ok (.iload 10, 2) := by decide +kernel
theorem dL_isTyped_302 : decode cL_isTyped 302 = .ok (.iaload, 1) := by decide +kernel
theorem dL_isTyped_303 : decode cL_isTyped 303 = .ok (.bipush 8, 2) := by decide +kernel
theorem dL_isTyped_305 : decode cL_isTyped 305 = .ok (.irem, 1) := by decide +kernel
theorem dL_isTyped_306 : decode cL_isTyped 306 = .ok (.invokestatic 75, 3) := by decide +kernel
theorem dL_isTyped_309 : decode cL_isTyped 309 = .ok (.ifCond .eq 7, 3) := by decide +kernel
theorem dL_isTyped_312 : decode cL_isTyped 312 = .ok (.iconst 1, 1) := by decide +kernel
theorem dL_isTyped_313 : decode cL_isTyped 313 = .ok (.goto 4, 3) := by decide +kernel
theorem dL_isTyped_316 : decode cL_isTyped 316 = .ok (.iconst 0, 1) := by decide +kernel
theorem dL_isTyped_317 : decode cL_isTyped 317 = .ok (.istore 12, 2) := by decide +kernel
theorem dL_isTyped_319 : decode cL_isTyped 319 = .ok (.aload_n 3, 1) := by decide +kernel
theorem dL_isTyped_320 : decode cL_isTyped 320 = .ok (.iconst 2, 1) := by decide +kernel
theorem dL_isTyped_321 : decode cL_isTyped 321 = .ok (.iaload, 1) := by decide +kernel
theorem dL_isTyped_322 : decode cL_isTyped 322 = .ok (.aload 5, 2) := by decide +kernel
theorem dL_isTyped_324 : decode cL_isTyped 324 = .ok (.iload 10, 2) := by decide +kernel
theorem dL_isTyped_326 : decode cL_isTyped 326 = .ok (.iconst 3, 1) := by decide +kernel
theorem dL_isTyped_327 : decode cL_isTyped 327 = .ok (.iadd, 1) := by decide +kernel
theorem dL_isTyped_328 : decode cL_isTyped 328 = .ok (.iaload, 1) := by decide +kernel
theorem dL_isTyped_329 : decode cL_isTyped 329 = .ok (.isub, 1) := by decide +kernel
theorem dL_isTyped_330 : decode cL_isTyped 330 = .ok (.iconst 1, 1) := by decide +kernel
theorem dL_isTyped_331 : decode cL_isTyped 331 = .ok (.iadd, 1) := by decide +kernel
theorem dL_isTyped_332 : decode cL_isTyped 332 = .ok (.istore 13, 2) := by decide +kernel
theorem dL_isTyped_334 : decode cL_isTyped 334 = .ok (.aload 5, 2) := by decide +kernel
theorem dL_isTyped_336 : decode cL_isTyped 336 = .ok (.iload 10, 2) := by decide +kernel
theorem dL_isTyped_338 : decode cL_isTyped 338 = .ok (.iconst 3, 1) := by decide +kernel
theorem dL_isTyped_339 : decode cL_isTyped 339 = .ok (.iadd, 1) := by decide +kernel
theorem dL_isTyped_340 : decode cL_isTyped 340 = .ok (.iload 12, 2) := by decide +kernel
theorem dL_isTyped_342 : decode cL_isTyped 342 = .ok (.ifCond .eq 7, 3) := by decide +kernel
theorem dL_isTyped_345 : decode cL_isTyped 345 = .ok (.iconst 0, 1) := by decide +kernel
theorem dL_isTyped_346 : decode cL_isTyped 346 = .ok (.goto 10, 3) := by decide +kernel
theorem dL_isTyped_349 : decode cL_isTyped 349 = .ok (.aload 5, 2) := by decide +kernel
theorem dL_isTyped_351 : decode cL_isTyped 351 = .ok (.iload 10, 2) := by decide +kernel
theorem dL_isTyped_353 : decode cL_isTyped 353 = .ok (.iconst 3, 1) := by decide +kernel
theorem dL_isTyped_354 : decode cL_isTyped 354 = .ok (.iadd, 1) := by decide +kernel
theorem dL_isTyped_355 : decode cL_isTyped 355 = .ok (.iaload, 1) := by decide +kernel
theorem dL_isTyped_356 : decode cL_isTyped 356 = .ok (.iastore, 1) := by decide +kernel
theorem dL_isTyped_357 : decode cL_isTyped 357 = .ok (.aload 5, 2) := by decide +kernel
theorem dL_isTyped_359 : decode cL_isTyped 359 = .ok (.iload 10, 2) := by decide +kernel
theorem dL_isTyped_361 : decode cL_isTyped 361 = .ok (.iconst 4, 1) := by decide +kernel
theorem dL_isTyped_362 : decode cL_isTyped 362 = .ok (.iadd, 1) := by decide +kernel
theorem dL_isTyped_363 : decode cL_isTyped 363 = .ok (.dup2, 1) := by decide +kernel
theorem dL_isTyped_364 : decode cL_isTyped 364 = .ok (.iaload, 1) := by decide +kernel
theorem dL_isTyped_365 : decode cL_isTyped 365 = .ok (.iload 12, 2) := by decide +kernel
theorem dL_isTyped_367 : decode cL_isTyped 367 = .ok (.ifCond .eq 7, 3) := by decide +kernel
theorem dL_isTyped_370 : decode cL_isTyped 370 = .ok (.iconst 1, 1) := by decide +kernel
theorem dL_isTyped_371 : decode cL_isTyped 371 = .ok (.goto 4, 3) := by decide +kernel
theorem dL_isTyped_374 : decode cL_isTyped 374 = .ok (.iconst 0, 1) := by decide +kernel
theorem dL_isTyped_375 : decode cL_isTyped 375 = .ok (.iadd, 1) := by decide +kernel
theorem dL_isTyped_376 : decode cL_isTyped 376 = .ok (.iastore, 1) := by decide +kernel
theorem dL_isTyped_377 : decode cL_isTyped 377 = .ok (.aload_n 0, 1) := by decide +kernel
theorem dL_isTyped_378 : decode cL_isTyped 378 = .ok (.iload 9, 2) := by decide +kernel
theorem dL_isTyped_380 : decode cL_isTyped 380 = .ok (.iload 8, 2) := by decide +kernel
theorem dL_isTyped_382 : decode cL_isTyped 382 = .ok (.invokestatic 106, 3) := by decide +kernel
theorem dL_isTyped_385 : decode cL_isTyped 385 = .ok (.iload 12, 2) := by decide +kernel
theorem dL_isTyped_387 : decode cL_isTyped 387 = .ok (.ifCond .eq 8, 3) := by decide +kernel
theorem dL_isTyped_390 : decode cL_isTyped 390 = .ok (.iload 13, 2) := by decide +kernel
theorem dL_isTyped_392 : decode cL_isTyped 392 = .ok (.goto 5, 3) := by decide +kernel
theorem dL_isTyped_395 : decode cL_isTyped 395 = .ok (.bipush (-2), 2) := by decide +kernel
theorem dL_isTyped_397 : decode cL_isTyped 397 = .ok (.if_icmp .ne 35, 3) := by decide +kernel
theorem dL_isTyped_400 : decode cL_isTyped 400 = .ok (.iload 12, 2) := by decide +kernel
theorem dL_isTyped_402 : decode cL_isTyped 402 = .ok (.ifCond .eq 26, 3) := by decide +kernel
theorem dL_isTyped_405 : decode cL_isTyped 405 = .ok (.aload_n 0, 1) := by decide +kernel
theorem dL_isTyped_406 : decode cL_isTyped 406 = .ok (.aload_n 3, 1) := by decide +kernel
theorem dL_isTyped_407 : decode cL_isTyped 407 = .ok (.bipush 8, 2) := by decide +kernel
theorem dL_isTyped_409 : decode cL_isTyped 409 = .ok (.iload 8, 2) := by decide +kernel
theorem dL_isTyped_411 : decode cL_isTyped 411 = .ok (.aload 5, 2) := by decide +kernel
theorem dL_isTyped_413 : decode cL_isTyped 413 = .ok (.iload 10, 2) := by decide +kernel
theorem dL_isTyped_415 : decode cL_isTyped 415 = .ok (.iaload, 1) := by decide +kernel
theorem dL_isTyped_416 : decode cL_isTyped 416 = .ok (.bipush 8, 2) := by decide +kernel
theorem dL_isTyped_418 : decode cL_isTyped 418 = .ok (.irem, 1) := by decide +kernel
theorem dL_isTyped_419 : decode cL_isTyped 419 = .ok (.aload_n 3, 1) := by decide +kernel
theorem dL_isTyped_420 : decode cL_isTyped 420 = .ok (.iconst 2, 1) := by decide +kernel
theorem dL_isTyped_421 : decode cL_isTyped 421 = .ok (.iaload, 1) := by decide +kernel
theorem dL_isTyped_422 : decode cL_isTyped 422 = .ok (.invokestatic 38, 3) := by decide +kernel
theorem dL_isTyped_425 : decode cL_isTyped 425 = .ok (.ifCond .eq 7, 3) := by decide +kernel
theorem dL_isTyped_428 : decode cL_isTyped 428 = .ok (.iconst 1, 1) := by decide +kernel
theorem dL_isTyped_429 : decode cL_isTyped 429 = .ok (.goto 4, 3) := by decide +kernel
theorem dL_isTyped_432 : decode cL_isTyped 432 = .ok (.iconst 0, 1) := by decide +kernel
theorem dL_isTyped_433 : decode cL_isTyped 433 = .ok (.ireturn, 1) := by decide +kernel
theorem dL_isTyped_434 : decode cL_isTyped 434 = .ok (.iload 6, 2) := by decide +kernel
theorem dL_isTyped_436 : decode cL_isTyped 436 = .ok (.iconst 2, 1) := by decide +kernel
theorem dL_isTyped_437 : decode cL_isTyped 437 = .ok (.if_icmp .ne 89, 3) := by decide +kernel
theorem dL_isTyped_440 : decode cL_isTyped 440 = .ok (.aload_n 0, 1) := by decide +kernel
theorem dL_isTyped_441 : decode cL_isTyped 441 = .ok (.iload 9, 2) := by decide +kernel
theorem dL_isTyped_443 : decode cL_isTyped 443 = .ok (.invokestatic 109, 3) := by decide +kernel
theorem dL_isTyped_446 : decode cL_isTyped 446 = .ok (.istore 12, 2) := by decide +kernel
theorem dL_isTyped_448 : decode cL_isTyped 448 = .ok (.aload 5, 2) := by decide +kernel
theorem dL_isTyped_450 : decode cL_isTyped 450 = .ok (.iload 10, 2) := by decide +kernel
theorem dL_isTyped_452 : decode cL_isTyped 452 = .ok (.iconst 1, 1) := by decide +kernel
theorem dL_isTyped_453 : decode cL_isTyped 453 = .ok (.iadd, 1) := by decide +kernel
theorem dL_isTyped_454 : decode cL_isTyped 454 = .ok (.iconst 0, 1) := by decide +kernel
theorem dL_isTyped_455 : decode cL_isTyped 455 = .ok (.iastore, 1) := by decide +kernel
theorem dL_isTyped_456 : decode cL_isTyped 456 = .ok (.aload 5, 2) := by decide +kernel
theorem dL_isTyped_458 : decode cL_isTyped 458 = .ok (.iload 10, 2) := by decide +kernel
theorem dL_isTyped_460 : decode cL_isTyped 460 = .ok (.iconst 3, 1) := by decide +kernel
theorem dL_isTyped_461 : decode cL_isTyped 461 = .ok (.iadd, 1) := by decide +kernel
theorem dL_isTyped_462 : decode cL_isTyped 462 = .ok (.iconst 0, 1) := by decide +kernel
theorem dL_isTyped_463 : decode cL_isTyped 463 = .ok (.iastore, 1) := by decide +kernel
theorem dL_isTyped_464 : decode cL_isTyped 464 = .ok (.iload 12, 2) := by decide +kernel
theorem dL_isTyped_466 : decode cL_isTyped 466 = .ok (.iload 11, 2) := by decide +kernel
theorem dL_isTyped_468 : decode cL_isTyped 468 = .ok (.ifCond .eq 13, 3) := by decide +kernel
theorem dL_isTyped_471 : decode cL_isTyped 471 = .ok (.aload 5, 2) := by decide +kernel
theorem dL_isTyped_473 : decode cL_isTyped 473 = .ok (.iload 10, 2) := by decide +kernel
theorem dL_isTyped_475 : decode cL_isTyped 475 = .ok (.iconst 4, 1) := by decide +kernel
theorem dL_isTyped_476 : decode cL_isTyped 476 = .ok (.iadd, 1) := by decide +kernel
theorem dL_isTyped_477 : decode cL_isTyped 477 = .ok (.iaload, 1) := by decide +kernel
theorem dL_isTyped_478 : decode cL_isTyped 478 = .ok (.goto 5, 3) := by decide +kernel
theorem dL_isTyped_481 : decode cL_isTyped 481 = .ok (.bipush (-2), 2) := by decide +kernel
theorem dL_isTyped_483 : decode cL_isTyped 483 = .ok (.if_icmp .ne 41, 3) := by decide +kernel
theorem dL_isTyped_486 : decode cL_isTyped 486 = .ok (.iload 11, 2) := by decide +kernel
theorem dL_isTyped_488 : decode cL_isTyped 488 = .ok (.ifCond .eq 32, 3) := by decide +kernel
theorem dL_isTyped_491 : decode cL_isTyped 491 = .ok (.aload_n 0, 1) := by decide +kernel
theorem dL_isTyped_492 : decode cL_isTyped 492 = .ok (.aload_n 3, 1) := by decide +kernel
theorem dL_isTyped_493 : decode cL_isTyped 493 = .ok (.bipush 6, 2) := by decide +kernel
theorem dL_isTyped_495 : decode cL_isTyped 495 = .ok (.aload 5, 2) := by decide +kernel
theorem dL_isTyped_497 : decode cL_isTyped 497 = .ok (.iload 10, 2) := by decide +kernel
theorem dL_isTyped_499 : decode cL_isTyped 499 = .ok (.iaload, 1) := by decide +kernel
theorem dL_isTyped_500 : decode cL_isTyped 500 = .ok (.bipush 8, 2) := by decide +kernel
theorem dL_isTyped_502 : decode cL_isTyped 502 = .ok (.idiv, 1) := by decide +kernel
theorem dL_isTyped_503 : decode cL_isTyped 503 = .ok (.aload 5, 2) := by decide +kernel
theorem dL_isTyped_505 : decode cL_isTyped 505 = .ok (.iload 10, 2) := by decide +kernel
theorem dL_isTyped_507 : decode cL_isTyped 507 = .ok (.iaload, 1) := by decide +kernel
theorem dL_isTyped_508 : decode cL_isTyped 508 = .ok (.bipush 8, 2) := by decide +kernel
theorem dL_isTyped_510 : decode cL_isTyped 510 = .ok (.irem, 1) := by decide +kernel
theorem dL_isTyped_511 : decode cL_isTyped 511 = .ok (.aload_n 3, 1) := by decide +kernel
theorem dL_isTyped_512 : decode cL_isTyped 512 = .ok (.iconst 2, 1) := by decide +kernel
theorem dL_isTyped_513 : decode cL_isTyped 513 = .ok (.iaload, 1) := by decide +kernel
theorem dL_isTyped_514 : decode cL_isTyped 514 = .ok (.invokestatic 38, 3) := by decide +kernel
theorem dL_isTyped_517 : decode cL_isTyped 517 = .ok (.ifCond .eq 7, 3) := by decide +kernel
theorem dL_isTyped_520 : decode cL_isTyped 520 = .ok (.iconst 1, 1) := by decide +kernel
theorem dL_isTyped_521 : decode cL_isTyped 521 = .ok (.goto 4, 3) := by decide +kernel
theorem dL_isTyped_524 : decode cL_isTyped 524 = .ok (.iconst 0, 1) := by decide +kernel
theorem dL_isTyped_525 : decode cL_isTyped 525 = .ok (.ireturn, 1) := by decide +kernel
theorem dL_isTyped_526 : decode cL_isTyped 526 = .ok (.iload 7, 2) := by decide +kernel
theorem dL_isTyped_528 : decode cL_isTyped 528 = .ok (.bipush 45, 2) := by decide +kernel
theorem dL_isTyped_530 : decode cL_isTyped 530 = .ok (.idiv, 1) := by decide +kernel
theorem dL_isTyped_531 : decode cL_isTyped 531 = .ok (.iconst 5, 1) := by decide +kernel
theorem dL_isTyped_532 : decode cL_isTyped 532 = .ok (.irem, 1) := by decide +kernel
theorem dL_isTyped_533 : decode cL_isTyped 533 = .ok (.iconst 3, 1) := by decide +kernel
theorem dL_isTyped_534 : decode cL_isTyped 534 = .ok (.if_icmp .ge 7, 3) := by decide +kernel
theorem dL_isTyped_537 : decode cL_isTyped 537 = .ok (.iconst 0, 1) := by decide +kernel
theorem dL_isTyped_538 : decode cL_isTyped 538 = .ok (.goto 26, 3) := by decide +kernel
theorem dL_isTyped_541 : decode cL_isTyped 541 = .ok (.iload 7, 2) := by decide +kernel
theorem dL_isTyped_543 : decode cL_isTyped 543 = .ok (.bipush 45, 2) := by decide +kernel
theorem dL_isTyped_545 : decode cL_isTyped 545 = .ok (.idiv, 1) := by decide +kernel
theorem dL_isTyped_546 : decode cL_isTyped 546 = .ok (.iconst 5, 1) := by decide +kernel
theorem dL_isTyped_547 : decode cL_isTyped 547 = .ok (.irem, 1) := by decide +kernel
theorem dL_isTyped_548 : decode cL_isTyped 548 = .ok (.iconst 3, 1) := by decide +kernel
theorem dL_isTyped_549 : decode cL_isTyped 549 = .ok (.if_icmp .ne 7, 3) := by decide +kernel
theorem dL_isTyped_552 : decode cL_isTyped 552 = .ok (.iconst 1, 1) := by decide +kernel
theorem dL_isTyped_553 : decode cL_isTyped 553 = .ok (.goto 11, 3) := by decide +kernel
theorem dL_isTyped_556 : decode cL_isTyped 556 = .ok (.iload 7, 2) := by decide +kernel
theorem dL_isTyped_558 : decode cL_isTyped 558 = .ok (.sipush 225, 3) := by decide +kernel
theorem dL_isTyped_561 : decode cL_isTyped 561 = .ok (.idiv, 1) := by decide +kernel
theorem dL_isTyped_562 : decode cL_isTyped 562 = .ok (.iconst 3, 1) := by decide +kernel
theorem dL_isTyped_563 : decode cL_isTyped 563 = .ok (.irem, 1) := by decide +kernel
theorem dL_isTyped_564 : decode cL_isTyped 564 = .ok (.istore 12, 2) := by decide +kernel
theorem dL_isTyped_566 : decode cL_isTyped 566 = .ok (.iload 11, 2) := by decide +kernel
theorem dL_isTyped_568 : decode cL_isTyped 568 = .ok (.ifCond .eq 17, 3) := by decide +kernel
theorem dL_isTyped_571 : decode cL_isTyped 571 = .ok (.aload 5, 2) := by decide +kernel
theorem dL_isTyped_573 : decode cL_isTyped 573 = .ok (.iload 10, 2) := by decide +kernel
theorem dL_isTyped_575 : decode cL_isTyped 575 = .ok (.iconst 3, 1) := by decide +kernel
theorem dL_isTyped_576 : decode cL_isTyped 576 = .ok (.iadd, 1) := by decide +kernel
theorem dL_isTyped_577 : decode cL_isTyped 577 = .ok (.iaload, 1) := by decide +kernel
theorem dL_isTyped_578 : decode cL_isTyped 578 = .ok (.ifCond .ne 7, 3) := by decide +kernel
theorem dL_isTyped_581 : decode cL_isTyped 581 = .ok (.iconst 1, 1) := by decide +kernel
theorem dL_isTyped_582 : decode cL_isTyped 582 = .ok (.goto 4, 3) := by decide +kernel
theorem dL_isTyped_585 : decode cL_isTyped 585 = .ok (.iconst 0, 1) := by decide +kernel
theorem dL_isTyped_586 : decode cL_isTyped 586 = .ok (.istore 13, 2) := by decide +kernel
theorem dL_isTyped_588 : decode cL_isTyped 588 = .ok (.aload_n 0, 1) := by decide +kernel
theorem dL_isTyped_589 : decode cL_isTyped 589 = .ok (.iload 9, 2) := by decide +kernel
theorem dL_isTyped_591 : decode cL_isTyped 591 = .ok (.iload 12, 2) := by decide +kernel
theorem dL_isTyped_593 : decode cL_isTyped 593 = .ok (.invokestatic 113, 3) := by decide +kernel
theorem dL_isTyped_596 : decode cL_isTyped 596 = .ok (.istore 14, 2) := by decide +kernel
theorem dL_isTyped_598 : decode cL_isTyped 598 = .ok (.iload 13, 2) := by decide +kernel
theorem dL_isTyped_600 : decode cL_isTyped 600 = .ok (.ifCond .ne 16, 3) := by decide +kernel
theorem dL_isTyped_603 : decode cL_isTyped 603 = .ok (.iload 14, 2) := by decide +kernel
theorem dL_isTyped_605 : decode cL_isTyped 605 = .ok (.bipush (-2), 2) := by decide +kernel
theorem dL_isTyped_607 : decode cL_isTyped 607 = .ok (.if_icmp .ne 7, 3) := by decide +kernel
theorem dL_isTyped_610 : decode cL_isTyped 610 = .ok (.iconst 1, 1) := by decide +kernel
theorem dL_isTyped_611 : decode cL_isTyped 611 = .ok (.goto 4, 3) := by decide +kernel
theorem dL_isTyped_614 : decode cL_isTyped 614 = .ok (.iconst 0, 1) := by decide +kernel
theorem dL_isTyped_615 : decode cL_isTyped 615 = .ok (.ireturn, 1) := by decide +kernel
theorem dL_isTyped_616 : decode cL_isTyped 616 = .ok (.aload 5, 2) := by decide +kernel
theorem dL_isTyped_618 : decode cL_isTyped 618 = .ok (.iload 10, 2) := by decide +kernel
theorem dL_isTyped_620 : decode cL_isTyped 620 = .ok (.iconst 2, 1) := by decide +kernel
theorem dL_isTyped_621 : decode cL_isTyped 621 = .ok (.iadd, 1) := by decide +kernel
theorem dL_isTyped_622 : decode cL_isTyped 622 = .ok (.aload_n 3, 1) := by decide +kernel
theorem dL_isTyped_623 : decode cL_isTyped 623 = .ok (.iconst 2, 1) := by decide +kernel
theorem dL_isTyped_624 : decode cL_isTyped 624 = .ok (.iaload, 1) := by decide +kernel
theorem dL_isTyped_625 : decode cL_isTyped 625 = .ok (.iastore, 1) := by decide +kernel
theorem dL_isTyped_626 : decode cL_isTyped 626 = .ok (.aload 5, 2) := by decide +kernel
theorem dL_isTyped_628 : decode cL_isTyped 628 = .ok (.iload 10, 2) := by decide +kernel
theorem dL_isTyped_630 : decode cL_isTyped 630 = .ok (.iconst 4, 1) := by decide +kernel
theorem dL_isTyped_631 : decode cL_isTyped 631 = .ok (.iadd, 1) := by decide +kernel
theorem dL_isTyped_632 : decode cL_isTyped 632 = .ok (.dup2, 1) := by decide +kernel
theorem dL_isTyped_633 : decode cL_isTyped 633 = .ok (.iaload, 1) := by decide +kernel
theorem dL_isTyped_634 : decode cL_isTyped 634 = .ok (.iload 12, 2) := by decide +kernel
theorem dL_isTyped_636 : decode cL_isTyped 636 = .ok (.ifCond .ne 7, 3) := by decide +kernel
theorem dL_isTyped_639 : decode cL_isTyped 639 = .ok (.iconst 1, 1) := by decide +kernel
theorem dL_isTyped_640 : decode cL_isTyped 640 = .ok (.goto 4, 3) := by decide +kernel
theorem dL_isTyped_643 : decode cL_isTyped 643 = .ok (.iconst 0, 1) := by decide +kernel
theorem dL_isTyped_644 : decode cL_isTyped 644 = .ok (.iadd, 1) := by decide +kernel
theorem dL_isTyped_645 : decode cL_isTyped 645 = .ok (.iastore, 1) := by decide +kernel
theorem dL_isTyped_646 : decode cL_isTyped 646 = .ok (.aload 5, 2) := by decide +kernel
theorem dL_isTyped_648 : decode cL_isTyped 648 = .ok (.iload 10, 2) := by decide +kernel
theorem dL_isTyped_650 : decode cL_isTyped 650 = .ok (.iconst 3, 1) := by decide +kernel
theorem dL_isTyped_651 : decode cL_isTyped 651 = .ok (.iadd, 1) := by decide +kernel
theorem dL_isTyped_652 : decode cL_isTyped 652 = .ok (.iload 12, 2) := by decide +kernel
theorem dL_isTyped_654 : decode cL_isTyped 654 = .ok (.iconst 1, 1) := by decide +kernel
theorem dL_isTyped_655 : decode cL_isTyped 655 = .ok (.if_icmp .ne 11, 3) := by decide +kernel
theorem dL_isTyped_658 : decode cL_isTyped 658 = .ok (.aload_n 3, 1) := by decide +kernel
theorem dL_isTyped_659 : decode cL_isTyped 659 = .ok (.iconst 2, 1) := by decide +kernel
theorem dL_isTyped_660 : decode cL_isTyped 660 = .ok (.iaload, 1) := by decide +kernel
theorem dL_isTyped_661 : decode cL_isTyped 661 = .ok (.iconst 1, 1) := by decide +kernel
theorem dL_isTyped_662 : decode cL_isTyped 662 = .ok (.iadd, 1) := by decide +kernel
theorem dL_isTyped_663 : decode cL_isTyped 663 = .ok (.goto 4, 3) := by decide +kernel
theorem dL_isTyped_666 : decode cL_isTyped 666 = .ok (.iconst 0, 1) := by decide +kernel
theorem dL_isTyped_667 : decode cL_isTyped 667 = .ok (.iastore, 1) := by decide +kernel
theorem dL_isTyped_668 : decode cL_isTyped 668 = .ok (.iload 14, 2) := by decide +kernel
theorem dL_isTyped_670 : decode cL_isTyped 670 = .ok (.iload 12, 2) := by decide +kernel
theorem dL_isTyped_672 : decode cL_isTyped 672 = .ok (.ifCond .ne 7, 3) := by decide +kernel
theorem dL_isTyped_675 : decode cL_isTyped 675 = .ok (.iconst 1, 1) := by decide +kernel
theorem dL_isTyped_676 : decode cL_isTyped 676 = .ok (.goto 4, 3) := by decide +kernel
theorem dL_isTyped_679 : decode cL_isTyped 679 = .ok (.iconst 0, 1) := by decide +kernel
theorem dL_isTyped_680 : decode cL_isTyped 680 = .ok (.if_icmp .ne 36, 3) := by decide +kernel
theorem dL_isTyped_683 : decode cL_isTyped 683 = .ok (.aload_n 0, 1) := by decide +kernel
theorem dL_isTyped_684 : decode cL_isTyped 684 = .ok (.aload_n 3, 1) := by decide +kernel
theorem dL_isTyped_685 : decode cL_isTyped 685 = .ok (.bipush 7, 2) := by decide +kernel
theorem dL_isTyped_687 : decode cL_isTyped 687 = .ok (.aload 5, 2) := by decide +kernel
theorem dL_isTyped_689 : decode cL_isTyped 689 = .ok (.iload 10, 2) := by decide +kernel
theorem dL_isTyped_691 : decode cL_isTyped 691 = .ok (.iaload, 1) := by decide +kernel
theorem dL_isTyped_692 : decode cL_isTyped 692 = .ok (.bipush 8, 2) := by decide +kernel
theorem dL_isTyped_694 : decode cL_isTyped 694 = .ok (.idiv, 1) := by decide +kernel
theorem dL_isTyped_695 : decode cL_isTyped 695 = .ok (.aload 5, 2) := by decide +kernel
theorem dL_isTyped_697 : decode cL_isTyped 697 = .ok (.iload 10, 2) := by decide +kernel
theorem dL_isTyped_699 : decode cL_isTyped 699 = .ok (.iaload, 1) := by decide +kernel
theorem dL_isTyped_700 : decode cL_isTyped 700 = .ok (.bipush 8, 2) := by decide +kernel
theorem dL_isTyped_702 : decode cL_isTyped 702 = .ok (.irem, 1) := by decide +kernel
theorem dL_isTyped_703 : decode cL_isTyped 703 = .ok (.aload_n 3, 1) := by decide +kernel
theorem dL_isTyped_704 : decode cL_isTyped 704 = .ok (.iconst 2, 1) := by decide +kernel
theorem dL_isTyped_705 : decode cL_isTyped 705 = .ok (.iaload, 1) := by decide +kernel
theorem dL_isTyped_706 : decode cL_isTyped 706 = .ok (.invokestatic 38, 3) := by decide +kernel
theorem dL_isTyped_709 : decode cL_isTyped 709 = .ok (.ifCond .eq 7, 3) := by decide +kernel
theorem dL_isTyped_712 : decode cL_isTyped 712 = .ok (.iconst 1, 1) := by decide +kernel
theorem dL_isTyped_713 : decode cL_isTyped 713 = .ok (.goto 4, 3) := by decide +kernel
theorem dL_isTyped_716 : decode cL_isTyped 716 = .ok (.iconst 0, 1) := by decide +kernel
theorem dL_isTyped_717 : decode cL_isTyped 717 = .ok (.istore 15, 2) := by decide +kernel
theorem dL_isTyped_719 : decode cL_isTyped 719 = .ok (.iload 12, 2) := by decide +kernel
theorem dL_isTyped_721 : decode cL_isTyped 721 = .ok (.iconst 2, 1) := by decide +kernel
theorem dL_isTyped_722 : decode cL_isTyped 722 = .ok (.if_icmp .ne 40, 3) := by decide +kernel
theorem dL_isTyped_725 : decode cL_isTyped 725 = .ok (.aload 4, 2) := by decide +kernel
theorem dL_isTyped_727 : decode cL_isTyped 727 = .ok (.aload_n 3, 1) := by decide +kernel
theorem dL_isTyped_728 : decode cL_isTyped 728 = .ok (.aload 5, 2) := by decide +kernel
theorem dL_isTyped_730 : decode cL_isTyped 730 = .ok (.iload 10, 2) := by decide +kernel
theorem dL_isTyped_732 : decode cL_isTyped 732 = .ok (.iaload, 1) := by decide +kernel
theorem dL_isTyped_733 : decode cL_isTyped 733 = .ok (.invokestatic 116, 3) := by decide +kernel
theorem dL_isTyped_736 : decode cL_isTyped 736 = .ok (.iload 15, 2) := by decide +kernel
theorem dL_isTyped_738 : decode cL_isTyped 738 = .ok (.ifCond .eq 21, 3) := by decide +kernel
theorem dL_isTyped_741 : decode cL_isTyped 741 = .ok (.aload_n 0, 1) := by decide +kernel
theorem dL_isTyped_742 : decode cL_isTyped 742 = .ok (.aload 4, 2) := by decide +kernel
theorem dL_isTyped_744 : decode cL_isTyped 744 = .ok (.aload 5, 2) := by decide +kernel
theorem dL_isTyped_746 : decode cL_isTyped 746 = .ok (.aload_n 3, 1) := by decide +kernel
theorem dL_isTyped_747 : decode cL_isTyped 747 = .ok (.iload 9, 2) := by decide +kernel
theorem dL_isTyped_749 : decode cL_isTyped 749 = .ok (.invokestatic 120, 3) := by decide +kernel
theorem dL_isTyped_752 : decode cL_isTyped 752 = .ok (.ifCond .le 7, 3) := by decide +kernel
theorem dL_isTyped_755 : decode cL_isTyped 755 = .ok (.iconst 1, 1) := by decide +kernel
theorem dL_isTyped_756 : decode cL_isTyped 756 = .ok (.goto 4, 3) := by decide +kernel
theorem dL_isTyped_759 : decode cL_isTyped 759 = .ok (.iconst 0, 1) := by decide +kernel
theorem dL_isTyped_760 : decode cL_isTyped 760 = .ok (.istore 15, 2) := by decide +kernel
theorem dL_isTyped_762 : decode cL_isTyped 762 = .ok (.iload 15, 2) := by decide +kernel
theorem dL_isTyped_764 : decode cL_isTyped 764 = .ok (.ireturn, 1) := by decide +kernel
theorem dL_isTold_0 : decode cL_isTold 0 = .ok (.iconst 0, 1) := by decide +kernel
theorem dL_isTold_1 : decode cL_isTold 1 = .ok (.istore 7, 2) := by decide +kernel
theorem dL_isTold_3 : decode cL_isTold 3 = .ok (.aload_n 0, 1) := by decide +kernel
theorem dL_isTold_4 : decode cL_isTold 4 = .ok (.invokevirtual 124, 3) := by decide +kernel
theorem dL_isTold_7 : decode cL_isTold 7 = .ok (.aload_n 1, 1) := by decide +kernel
theorem dL_isTold_8 : decode cL_isTold 8 = .ok (.iconst 2, 1) := by decide +kernel
theorem dL_isTold_9 : decode cL_isTold 9 = .ok (.iaload, 1) := by decide +kernel
theorem dL_isTold_10 : decode cL_isTold 10 = .ok (.if_icmp .ne 18, 3) := by decide +kernel
theorem dL_isTold_13 : decode cL_isTold 13 = .ok (.aload_n 0, 1) := by decide +kernel
theorem dL_isTold_14 : decode cL_isTold 14 = .ok (.invokevirtual 19, 3) := by decide +kernel
theorem dL_isTold_17 : decode cL_isTold 17 = .ok (.aload_n 1, 1) := by decide +kernel
theorem dL_isTold_18 : decode cL_isTold 18 = .ok (.bipush 7, 2) := by decide +kernel
theorem dL_isTold_20 : decode cL_isTold 20 = .ok (.iaload, 1) := by decide +kernel
theorem dL_isTold_21 : decode cL_isTold 21 = .ok (.if_icmp .ne 7, 3) := by decide +kernel
theorem dL_isTold_24 : decode cL_isTold 24 = .ok (.iconst 1, 1) := by decide +kernel
theorem dL_isTold_25 : decode cL_isTold 25 = .ok (.goto 4, 3) := by decide +kernel
theorem dL_isTold_28 : decode cL_isTold 28 = .ok (.iconst 0, 1) := by decide +kernel
theorem dL_isTold_29 : decode cL_isTold 29 = .ok (.istore 8, 2) := by decide +kernel
theorem dL_isTold_31 : decode cL_isTold 31 = .ok (.iconst 0, 1) := by decide +kernel
theorem dL_isTold_32 : decode cL_isTold 32 = .ok (.istore 9, 2) := by decide +kernel
theorem dL_isTold_34 : decode cL_isTold 34 = .ok (.iload 9, 2) := by decide +kernel
theorem dL_isTold_36 : decode cL_isTold 36 = .ok (.aload_n 1, 1) := by decide +kernel
theorem dL_isTold_37 : decode cL_isTold 37 = .ok (.iconst 4, 1) := by decide +kernel
theorem dL_isTold_38 : decode cL_isTold 38 = .ok (.iaload, 1) := by decide +kernel
theorem dL_isTold_39 : decode cL_isTold 39 = .ok (.if_icmp .ge 38, 3) := by decide +kernel
theorem dL_isTold_42 : decode cL_isTold 42 = .ok (.iload 8, 2) := by decide +kernel
theorem dL_isTold_44 : decode cL_isTold 44 = .ok (.ifCond .eq 33, 3) := by decide +kernel
theorem dL_isTold_47 : decode cL_isTold 47 = .ok (.aload_n 0, 1) := by decide +kernel
theorem dL_isTold_48 : decode cL_isTold 48 = .ok (.iload 9, 2) := by decide +kernel
theorem dL_isTold_50 : decode cL_isTold 50 = .ok (.invokevirtual 127, 3) := by decide +kernel
theorem dL_isTold_53 : decode cL_isTold 53 = .ok (.aload_n 3, 1) := by decide +kernel
theorem dL_isTold_54 : decode cL_isTold 54 = .ok (.iconst 5, 1) := by decide +kernel
theorem dL_isTold_55 : decode cL_isTold 55 = .ok (.iload 9, 2) := by decide +kernel
theorem dL_isTold_57 : decode cL_isTold 57 = .ok (.imul, 1) := by decide +kernel
theorem dL_isTold_58 : decode cL_isTold 58 = .ok (.iconst 3, 1) := by decide +kernel
theorem dL_isTold_59 : decode cL_isTold 59 = .ok (.iadd, 1) := by decide +kernel
theorem dL_isTold_60 : decode cL_isTold 60 = .ok (.iaload, 1) := by decide +kernel
theorem dL_isTold_61 : decode cL_isTold 61 = .ok (.if_icmp .ne 7, 3) := by decide +kernel
theorem dL_isTold_64 : decode cL_isTold 64 = .ok (.iconst 1, 1) := by decide +kernel
theorem dL_isTold_65 : decode cL_isTold 65 = .ok (.goto 4, 3) := by decide +kernel
theorem dL_isTold_68 : decode cL_isTold 68 = .ok (.iconst 0, 1) := by decide +kernel
theorem dL_isTold_69 : decode cL_isTold 69 = .ok (.istore 8, 2) := by decide +kernel
theorem dL_isTold_71 : decode cL_isTold 71 = .ok (.iinc 9 1, 3) := by decide +kernel
theorem dL_isTold_74 : decode cL_isTold 74 = .ok (.goto (-40), 3) := by decide +kernel
theorem dL_isTold_77 : decode cL_isTold 77 = .ok (.iconst 0, 1) := by decide +kernel
theorem dL_isTold_78 : decode cL_isTold 78 = .ok (.istore 9, 2) := by decide +kernel
theorem dL_isTold_80 : decode cL_isTold 80 = .ok (.iload 9, 2) := by decide +kernel
theorem dL_isTold_82 : decode cL_isTold 82 = .ok (.aload_n 1, 1) := by decide +kernel
theorem dL_isTold_83 : decode cL_isTold 83 = .ok (.bipush 6, 2) := by decide +kernel
theorem dL_isTold_85 : decode cL_isTold 85 = .ok (.iaload, 1) := by decide +kernel
theorem dL_isTold_86 : decode cL_isTold 86 = .ok (.if_icmp .ge 62, 3) := by decide +kernel
theorem dL_isTold_89 : decode cL_isTold 89 = .ok (.iload 8, 2) := by decide +kernel
theorem dL_isTold_91 : decode cL_isTold 91 = .ok (.ifCond .eq 57, 3) := by decide +kernel
theorem dL_isTold_94 : decode cL_isTold 94 = .ok (.iload 7, 2) := by decide +kernel
theorem dL_isTold_96 : decode cL_isTold 96 = .ok (.aload 5, 2) := by decide +kernel
theorem dL_isTold_98 : decode cL_isTold 98 = .ok (.iconst 5, 1) := by decide +kernel
