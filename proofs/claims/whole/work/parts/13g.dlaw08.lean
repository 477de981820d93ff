/-! the law, decoded -/
theorem z_ld560 : decode code 828 = .ok (.invokevirtual 102, 3) := by decide +kernel
theorem z_ld561 : decode code 831 = .ok (.aload_n 2, 1) := by decide +kernel
theorem z_ld562 : decode code 832 = .ok (.aload_n 0, 1) := by decide +kernel
theorem z_ld563 : decode code 833 = .ok (.iload_n 3, 1) := by decide +kernel
theorem z_ld564 : decode code 834 = .ok (.iconst 1, 1) := by decide +kernel
theorem z_ld565 : decode code 835 = .ok (.iadd, 1) := by decide +kernel
theorem z_ld566 : decode code 836 = .ok (.iaload, 1) := by decide +kernel
theorem z_ld567 : decode code 837 = .ok (.aload_n 0, 1) := by decide +kernel
theorem z_ld568 : decode code 838 = .ok (.iload_n 3, 1) := by decide +kernel
theorem z_ld569 : decode code 839 = .ok (.iconst 2, 1) := by decide +kernel
theorem z_ld570 : decode code 840 = .ok (.iadd, 1) := by decide +kernel
theorem z_ld571 : decode code 841 = .ok (.iaload, 1) := by decide +kernel
theorem z_ld572 : decode code 842 = .ok (.invokevirtual 105, 3) := by decide +kernel
theorem z_ld573 : decode code 845 = .ok (.if_icmp .eq 226, 3) := by decide +kernel
theorem z_ld574 : decode code 848 = .ok (.iconst 0, 1) := by decide +kernel
theorem z_ld575 : decode code 849 = .ok (.ireturn, 1) := by decide +kernel
theorem z_ld576 : decode code 850 = .ok (.aload_n 1, 1) := by decide +kernel
theorem z_ld577 : decode code 851 = .ok (.aload_n 0, 1) := by decide +kernel
theorem z_ld578 : decode code 852 = .ok (.iload_n 3, 1) := by decide +kernel
theorem z_ld579 : decode code 853 = .ok (.iconst 1, 1) := by decide +kernel
theorem z_ld580 : decode code 854 = .ok (.iadd, 1) := by decide +kernel
theorem z_ld581 : decode code 855 = .ok (.iaload, 1) := by decide +kernel
theorem z_ld582 : decode code 856 = .ok (.invokevirtual 106, 3) := by decide +kernel
theorem z_ld583 : decode code 859 = .ok (.aload_n 2, 1) := by decide +kernel
theorem z_ld584 : decode code 860 = .ok (.aload_n 0, 1) := by decide +kernel
theorem z_ld585 : decode code 861 = .ok (.iload_n 3, 1) := by decide +kernel
theorem z_ld586 : decode code 862 = .ok (.iconst 1, 1) := by decide +kernel
theorem z_ld587 : decode code 863 = .ok (.iadd, 1) := by decide +kernel
theorem z_ld588 : decode code 864 = .ok (.iaload, 1) := by decide +kernel
theorem z_ld589 : decode code 865 = .ok (.invokevirtual 109, 3) := by decide +kernel
theorem z_ld590 : decode code 868 = .ok (.if_icmp .eq 203, 3) := by decide +kernel
theorem z_ld591 : decode code 871 = .ok (.iconst 0, 1) := by decide +kernel
theorem z_ld592 : decode code 872 = .ok (.ireturn, 1) := by decide +kernel
theorem z_ld593 : decode code 873 = .ok (.aload_n 1, 1) := by decide +kernel
theorem z_ld594 : decode code 874 = .ok (.aload_n 0, 1) := by decide +kernel
theorem z_ld595 : decode code 875 = .ok (.iload_n 3, 1) := by decide +kernel
theorem z_ld596 : decode code 876 = .ok (.iconst 1, 1) := by decide +kernel
theorem z_ld597 : decode code 877 = .ok (.iadd, 1) := by decide +kernel
theorem z_ld598 : decode code 878 = .ok (.iaload, 1) := by decide +kernel
theorem z_ld599 : decode code 879 = .ok (.invokevirtual 110, 3) := by decide +kernel
theorem z_ld600 : decode code 882 = .ok (.aload_n 2, 1) := by decide +kernel
theorem z_ld601 : decode code 883 = .ok (.aload_n 0, 1) := by decide +kernel
theorem z_ld602 : decode code 884 = .ok (.iload_n 3, 1) := by decide +kernel
theorem z_ld603 : decode code 885 = .ok (.iconst 1, 1) := by decide +kernel
theorem z_ld604 : decode code 886 = .ok (.iadd, 1) := by decide +kernel
theorem z_ld605 : decode code 887 = .ok (.iaload, 1) := by decide +kernel
theorem z_ld606 : decode code 888 = .ok (.invokevirtual 113, 3) := by decide +kernel
theorem z_ld607 : decode code 891 = .ok (.if_icmp .eq 180, 3) := by decide +kernel
theorem z_ld608 : decode code 894 = .ok (.iconst 0, 1) := by decide +kernel
theorem z_ld609 : decode code 895 = .ok (.ireturn, 1) := by decide +kernel
theorem z_ld610 : decode code 896 = .ok (.aload_n 1, 1) := by decide +kernel
theorem z_ld611 : decode code 897 = .ok (.aload_n 0, 1) := by decide +kernel
theorem z_ld612 : decode code 898 = .ok (.iload_n 3, 1) := by decide +kernel
theorem z_ld613 : decode code 899 = .ok (.iconst 1, 1) := by decide +kernel
theorem z_ld614 : decode code 900 = .ok (.iadd, 1) := by decide +kernel
theorem z_ld615 : decode code 901 = .ok (.iaload, 1) := by decide +kernel
theorem z_ld616 : decode code 902 = .ok (.aload_n 0, 1) := by decide +kernel
theorem z_ld617 : decode code 903 = .ok (.iload_n 3, 1) := by decide +kernel
theorem z_ld618 : decode code 904 = .ok (.iconst 2, 1) := by decide +kernel
theorem z_ld619 : decode code 905 = .ok (.iadd, 1) := by decide +kernel
theorem z_ld620 : decode code 906 = .ok (.iaload, 1) := by decide +kernel
theorem z_ld621 : decode code 907 = .ok (.aload_n 0, 1) := by decide +kernel
theorem z_ld622 : decode code 908 = .ok (.iload_n 3, 1) := by decide +kernel
theorem z_ld623 : decode code 909 = .ok (.iconst 3, 1) := by decide +kernel
theorem z_ld624 : decode code 910 = .ok (.iadd, 1) := by decide +kernel
theorem z_ld625 : decode code 911 = .ok (.iaload, 1) := by decide +kernel
theorem z_ld626 : decode code 912 = .ok (.invokevirtual 114, 3) := by decide +kernel
theorem z_ld627 : decode code 915 = .ok (.aload_n 2, 1) := by decide +kernel
theorem z_ld628 : decode code 916 = .ok (.aload_n 0, 1) := by decide +kernel
theorem z_ld629 : decode code 917 = .ok (.iload_n 3, 1) := by decide +kernel
