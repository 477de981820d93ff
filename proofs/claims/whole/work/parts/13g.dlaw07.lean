/-! the law, decoded -/
theorem z_ld490 : decode code 742 = .ok (.aload_n 2, 1) := by decide +kernel
theorem z_ld491 : decode code 743 = .ok (.invokevirtual 93, 3) := by decide +kernel
theorem z_ld492 : decode code 746 = .ok (.if_icmp .eq 325, 3) := by decide +kernel
theorem z_ld493 : decode code 749 = .ok (.iconst 0, 1) := by decide +kernel
theorem z_ld494 : decode code 750 = .ok (.ireturn, 1) := by decide +kernel
theorem z_ld495 : decode code 751 = .ok (.aload_n 1, 1) := by decide +kernel
theorem z_ld496 : decode code 752 = .ok (.aload_n 0, 1) := by decide +kernel
theorem z_ld497 : decode code 753 = .ok (.iload_n 3, 1) := by decide +kernel
theorem z_ld498 : decode code 754 = .ok (.iconst 1, 1) := by decide +kernel
theorem z_ld499 : decode code 755 = .ok (.iadd, 1) := by decide +kernel
theorem z_ld500 : decode code 756 = .ok (.iaload, 1) := by decide +kernel
theorem z_ld501 : decode code 757 = .ok (.aload_n 0, 1) := by decide +kernel
theorem z_ld502 : decode code 758 = .ok (.iload_n 3, 1) := by decide +kernel
theorem z_ld503 : decode code 759 = .ok (.iconst 2, 1) := by decide +kernel
theorem z_ld504 : decode code 760 = .ok (.iadd, 1) := by decide +kernel
theorem z_ld505 : decode code 761 = .ok (.iaload, 1) := by decide +kernel
theorem z_ld506 : decode code 762 = .ok (.aload_n 0, 1) := by decide +kernel
theorem z_ld507 : decode code 763 = .ok (.iload_n 3, 1) := by decide +kernel
theorem z_ld508 : decode code 764 = .ok (.iconst 3, 1) := by decide +kernel
theorem z_ld509 : decode code 765 = .ok (.iadd, 1) := by decide +kernel
theorem z_ld510 : decode code 766 = .ok (.iaload, 1) := by decide +kernel
theorem z_ld511 : decode code 767 = .ok (.invokevirtual 94, 3) := by decide +kernel
theorem z_ld512 : decode code 770 = .ok (.aload_n 2, 1) := by decide +kernel
theorem z_ld513 : decode code 771 = .ok (.aload_n 0, 1) := by decide +kernel
theorem z_ld514 : decode code 772 = .ok (.iload_n 3, 1) := by decide +kernel
theorem z_ld515 : decode code 773 = .ok (.iconst 1, 1) := by decide +kernel
theorem z_ld516 : decode code 774 = .ok (.iadd, 1) := by decide +kernel
theorem z_ld517 : decode code 775 = .ok (.iaload, 1) := by decide +kernel
theorem z_ld518 : decode code 776 = .ok (.aload_n 0, 1) := by decide +kernel
theorem z_ld519 : decode code 777 = .ok (.iload_n 3, 1) := by decide +kernel
theorem z_ld520 : decode code 778 = .ok (.iconst 2, 1) := by decide +kernel
theorem z_ld521 : decode code 779 = .ok (.iadd, 1) := by decide +kernel
theorem z_ld522 : decode code 780 = .ok (.iaload, 1) := by decide +kernel
theorem z_ld523 : decode code 781 = .ok (.aload_n 0, 1) := by decide +kernel
theorem z_ld524 : decode code 782 = .ok (.iload_n 3, 1) := by decide +kernel
theorem z_ld525 : decode code 783 = .ok (.iconst 3, 1) := by decide +kernel
theorem z_ld526 : decode code 784 = .ok (.iadd, 1) := by decide +kernel
theorem z_ld527 : decode code 785 = .ok (.iaload, 1) := by decide +kernel
theorem z_ld528 : decode code 786 = .ok (.invokevirtual 97, 3) := by decide +kernel
theorem z_ld529 : decode code 789 = .ok (.if_icmp .eq 282, 3) := by decide +kernel
theorem z_ld530 : decode code 792 = .ok (.iconst 0, 1) := by decide +kernel
theorem z_ld531 : decode code 793 = .ok (.ireturn, 1) := by decide +kernel
theorem z_ld532 : decode code 794 = .ok (.aload_n 1, 1) := by decide +kernel
theorem z_ld533 : decode code 795 = .ok (.aload_n 0, 1) := by decide +kernel
theorem z_ld534 : decode code 796 = .ok (.iload_n 3, 1) := by decide +kernel
theorem z_ld535 : decode code 797 = .ok (.iconst 1, 1) := by decide +kernel
theorem z_ld536 : decode code 798 = .ok (.iadd, 1) := by decide +kernel
theorem z_ld537 : decode code 799 = .ok (.iaload, 1) := by decide +kernel
theorem z_ld538 : decode code 800 = .ok (.invokevirtual 98, 3) := by decide +kernel
theorem z_ld539 : decode code 803 = .ok (.aload_n 2, 1) := by decide +kernel
theorem z_ld540 : decode code 804 = .ok (.aload_n 0, 1) := by decide +kernel
theorem z_ld541 : decode code 805 = .ok (.iload_n 3, 1) := by decide +kernel
theorem z_ld542 : decode code 806 = .ok (.iconst 1, 1) := by decide +kernel
theorem z_ld543 : decode code 807 = .ok (.iadd, 1) := by decide +kernel
theorem z_ld544 : decode code 808 = .ok (.iaload, 1) := by decide +kernel
theorem z_ld545 : decode code 809 = .ok (.invokevirtual 101, 3) := by decide +kernel
theorem z_ld546 : decode code 812 = .ok (.if_icmp .eq 259, 3) := by decide +kernel
theorem z_ld547 : decode code 815 = .ok (.iconst 0, 1) := by decide +kernel
theorem z_ld548 : decode code 816 = .ok (.ireturn, 1) := by decide +kernel
theorem z_ld549 : decode code 817 = .ok (.aload_n 1, 1) := by decide +kernel
theorem z_ld550 : decode code 818 = .ok (.aload_n 0, 1) := by decide +kernel
theorem z_ld551 : decode code 819 = .ok (.iload_n 3, 1) := by decide +kernel
theorem z_ld552 : decode code 820 = .ok (.iconst 1, 1) := by decide +kernel
theorem z_ld553 : decode code 821 = .ok (.iadd, 1) := by decide +kernel
theorem z_ld554 : decode code 822 = .ok (.iaload, 1) := by decide +kernel
theorem z_ld555 : decode code 823 = .ok (.aload_n 0, 1) := by decide +kernel
theorem z_ld556 : decode code 824 = .ok (.iload_n 3, 1) := by decide +kernel
theorem z_ld557 : decode code 825 = .ok (.iconst 2, 1) := by decide +kernel
theorem z_ld558 : decode code 826 = .ok (.iadd, 1) := by decide +kernel
theorem z_ld559 : decode code 827 = .ok (.iaload, 1) := by decide +kernel
