/-! the law, decoded -/
theorem z_ld420 : decode code 652 = .ok (.iconst 3, 1) := by decide +kernel
theorem z_ld421 : decode code 653 = .ok (.iadd, 1) := by decide +kernel
theorem z_ld422 : decode code 654 = .ok (.iaload, 1) := by decide +kernel
theorem z_ld423 : decode code 655 = .ok (.invokevirtual 78, 3) := by decide +kernel
theorem z_ld424 : decode code 658 = .ok (.aload_n 2, 1) := by decide +kernel
theorem z_ld425 : decode code 659 = .ok (.aload_n 0, 1) := by decide +kernel
theorem z_ld426 : decode code 660 = .ok (.iload_n 3, 1) := by decide +kernel
theorem z_ld427 : decode code 661 = .ok (.iconst 1, 1) := by decide +kernel
theorem z_ld428 : decode code 662 = .ok (.iadd, 1) := by decide +kernel
theorem z_ld429 : decode code 663 = .ok (.iaload, 1) := by decide +kernel
theorem z_ld430 : decode code 664 = .ok (.aload_n 0, 1) := by decide +kernel
theorem z_ld431 : decode code 665 = .ok (.iload_n 3, 1) := by decide +kernel
theorem z_ld432 : decode code 666 = .ok (.iconst 2, 1) := by decide +kernel
theorem z_ld433 : decode code 667 = .ok (.iadd, 1) := by decide +kernel
theorem z_ld434 : decode code 668 = .ok (.iaload, 1) := by decide +kernel
theorem z_ld435 : decode code 669 = .ok (.aload_n 0, 1) := by decide +kernel
theorem z_ld436 : decode code 670 = .ok (.iload_n 3, 1) := by decide +kernel
theorem z_ld437 : decode code 671 = .ok (.iconst 3, 1) := by decide +kernel
theorem z_ld438 : decode code 672 = .ok (.iadd, 1) := by decide +kernel
theorem z_ld439 : decode code 673 = .ok (.iaload, 1) := by decide +kernel
theorem z_ld440 : decode code 674 = .ok (.invokevirtual 81, 3) := by decide +kernel
theorem z_ld441 : decode code 677 = .ok (.if_icmp .eq 394, 3) := by decide +kernel
theorem z_ld442 : decode code 680 = .ok (.iconst 0, 1) := by decide +kernel
theorem z_ld443 : decode code 681 = .ok (.ireturn, 1) := by decide +kernel
theorem z_ld444 : decode code 682 = .ok (.aload_n 1, 1) := by decide +kernel
theorem z_ld445 : decode code 683 = .ok (.aload_n 0, 1) := by decide +kernel
theorem z_ld446 : decode code 684 = .ok (.iload_n 3, 1) := by decide +kernel
theorem z_ld447 : decode code 685 = .ok (.iconst 1, 1) := by decide +kernel
theorem z_ld448 : decode code 686 = .ok (.iadd, 1) := by decide +kernel
theorem z_ld449 : decode code 687 = .ok (.iaload, 1) := by decide +kernel
theorem z_ld450 : decode code 688 = .ok (.aload_n 0, 1) := by decide +kernel
theorem z_ld451 : decode code 689 = .ok (.iload_n 3, 1) := by decide +kernel
theorem z_ld452 : decode code 690 = .ok (.iconst 2, 1) := by decide +kernel
theorem z_ld453 : decode code 691 = .ok (.iadd, 1) := by decide +kernel
theorem z_ld454 : decode code 692 = .ok (.iaload, 1) := by decide +kernel
theorem z_ld455 : decode code 693 = .ok (.aload_n 0, 1) := by decide +kernel
theorem z_ld456 : decode code 694 = .ok (.iload_n 3, 1) := by decide +kernel
theorem z_ld457 : decode code 695 = .ok (.iconst 3, 1) := by decide +kernel
theorem z_ld458 : decode code 696 = .ok (.iadd, 1) := by decide +kernel
theorem z_ld459 : decode code 697 = .ok (.iaload, 1) := by decide +kernel
theorem z_ld460 : decode code 698 = .ok (.invokevirtual 82, 3) := by decide +kernel
theorem z_ld461 : decode code 701 = .ok (.aload_n 2, 1) := by decide +kernel
theorem z_ld462 : decode code 702 = .ok (.aload_n 0, 1) := by decide +kernel
theorem z_ld463 : decode code 703 = .ok (.iload_n 3, 1) := by decide +kernel
theorem z_ld464 : decode code 704 = .ok (.iconst 1, 1) := by decide +kernel
theorem z_ld465 : decode code 705 = .ok (.iadd, 1) := by decide +kernel
theorem z_ld466 : decode code 706 = .ok (.iaload, 1) := by decide +kernel
theorem z_ld467 : decode code 707 = .ok (.aload_n 0, 1) := by decide +kernel
theorem z_ld468 : decode code 708 = .ok (.iload_n 3, 1) := by decide +kernel
theorem z_ld469 : decode code 709 = .ok (.iconst 2, 1) := by decide +kernel
theorem z_ld470 : decode code 710 = .ok (.iadd, 1) := by decide +kernel
theorem z_ld471 : decode code 711 = .ok (.iaload, 1) := by decide +kernel
theorem z_ld472 : decode code 712 = .ok (.aload_n 0, 1) := by decide +kernel
theorem z_ld473 : decode code 713 = .ok (.iload_n 3, 1) := by decide +kernel
theorem z_ld474 : decode code 714 = .ok (.iconst 3, 1) := by decide +kernel
theorem z_ld475 : decode code 715 = .ok (.iadd, 1) := by decide +kernel
theorem z_ld476 : decode code 716 = .ok (.iaload, 1) := by decide +kernel
theorem z_ld477 : decode code 717 = .ok (.invokevirtual 85, 3) := by decide +kernel
theorem z_ld478 : decode code 720 = .ok (.if_icmp .eq 351, 3) := by decide +kernel
theorem z_ld479 : decode code 723 = .ok (.iconst 0, 1) := by decide +kernel
theorem z_ld480 : decode code 724 = .ok (.ireturn, 1) := by decide +kernel
theorem z_ld481 : decode code 725 = .ok (.aload_n 1, 1) := by decide +kernel
theorem z_ld482 : decode code 726 = .ok (.invokevirtual 86, 3) := by decide +kernel
theorem z_ld483 : decode code 729 = .ok (.aload_n 2, 1) := by decide +kernel
theorem z_ld484 : decode code 730 = .ok (.invokevirtual 89, 3) := by decide +kernel
theorem z_ld485 : decode code 733 = .ok (.if_icmp .eq 338, 3) := by decide +kernel
theorem z_ld486 : decode code 736 = .ok (.iconst 0, 1) := by decide +kernel
theorem z_ld487 : decode code 737 = .ok (.ireturn, 1) := by decide +kernel
theorem z_ld488 : decode code 738 = .ok (.aload_n 1, 1) := by decide +kernel
theorem z_ld489 : decode code 739 = .ok (.invokevirtual 90, 3) := by decide +kernel
