/-! the law, decoded -/
theorem z_ld630 : decode code 918 = .ok (.iconst 1, 1) := by decide +kernel
theorem z_ld631 : decode code 919 = .ok (.iadd, 1) := by decide +kernel
theorem z_ld632 : decode code 920 = .ok (.iaload, 1) := by decide +kernel
theorem z_ld633 : decode code 921 = .ok (.aload_n 0, 1) := by decide +kernel
theorem z_ld634 : decode code 922 = .ok (.iload_n 3, 1) := by decide +kernel
theorem z_ld635 : decode code 923 = .ok (.iconst 2, 1) := by decide +kernel
theorem z_ld636 : decode code 924 = .ok (.iadd, 1) := by decide +kernel
theorem z_ld637 : decode code 925 = .ok (.iaload, 1) := by decide +kernel
theorem z_ld638 : decode code 926 = .ok (.aload_n 0, 1) := by decide +kernel
theorem z_ld639 : decode code 927 = .ok (.iload_n 3, 1) := by decide +kernel
theorem z_ld640 : decode code 928 = .ok (.iconst 3, 1) := by decide +kernel
theorem z_ld641 : decode code 929 = .ok (.iadd, 1) := by decide +kernel
theorem z_ld642 : decode code 930 = .ok (.iaload, 1) := by decide +kernel
theorem z_ld643 : decode code 931 = .ok (.invokevirtual 117, 3) := by decide +kernel
theorem z_ld644 : decode code 934 = .ok (.if_icmp .eq 137, 3) := by decide +kernel
theorem z_ld645 : decode code 937 = .ok (.iconst 0, 1) := by decide +kernel
theorem z_ld646 : decode code 938 = .ok (.ireturn, 1) := by decide +kernel
theorem z_ld647 : decode code 939 = .ok (.aload_n 1, 1) := by decide +kernel
theorem z_ld648 : decode code 940 = .ok (.aload_n 0, 1) := by decide +kernel
theorem z_ld649 : decode code 941 = .ok (.iload_n 3, 1) := by decide +kernel
theorem z_ld650 : decode code 942 = .ok (.iconst 1, 1) := by decide +kernel
theorem z_ld651 : decode code 943 = .ok (.iadd, 1) := by decide +kernel
theorem z_ld652 : decode code 944 = .ok (.iaload, 1) := by decide +kernel
theorem z_ld653 : decode code 945 = .ok (.aload_n 0, 1) := by decide +kernel
theorem z_ld654 : decode code 946 = .ok (.iload_n 3, 1) := by decide +kernel
theorem z_ld655 : decode code 947 = .ok (.iconst 2, 1) := by decide +kernel
theorem z_ld656 : decode code 948 = .ok (.iadd, 1) := by decide +kernel
theorem z_ld657 : decode code 949 = .ok (.iaload, 1) := by decide +kernel
theorem z_ld658 : decode code 950 = .ok (.aload_n 0, 1) := by decide +kernel
theorem z_ld659 : decode code 951 = .ok (.iload_n 3, 1) := by decide +kernel
theorem z_ld660 : decode code 952 = .ok (.iconst 3, 1) := by decide +kernel
theorem z_ld661 : decode code 953 = .ok (.iadd, 1) := by decide +kernel
theorem z_ld662 : decode code 954 = .ok (.iaload, 1) := by decide +kernel
theorem z_ld663 : decode code 955 = .ok (.invokevirtual 118, 3) := by decide +kernel
theorem z_ld664 : decode code 958 = .ok (.aload_n 2, 1) := by decide +kernel
theorem z_ld665 : decode code 959 = .ok (.aload_n 0, 1) := by decide +kernel
theorem z_ld666 : decode code 960 = .ok (.iload_n 3, 1) := by decide +kernel
theorem z_ld667 : decode code 961 = .ok (.iconst 1, 1) := by decide +kernel
theorem z_ld668 : decode code 962 = .ok (.iadd, 1) := by decide +kernel
theorem z_ld669 : decode code 963 = .ok (.iaload, 1) := by decide +kernel
theorem z_ld670 : decode code 964 = .ok (.aload_n 0, 1) := by decide +kernel
theorem z_ld671 : decode code 965 = .ok (.iload_n 3, 1) := by decide +kernel
theorem z_ld672 : decode code 966 = .ok (.iconst 2, 1) := by decide +kernel
theorem z_ld673 : decode code 967 = .ok (.iadd, 1) := by decide +kernel
theorem z_ld674 : decode code 968 = .ok (.iaload, 1) := by decide +kernel
theorem z_ld675 : decode code 969 = .ok (.aload_n 0, 1) := by decide +kernel
theorem z_ld676 : decode code 970 = .ok (.iload_n 3, 1) := by decide +kernel
theorem z_ld677 : decode code 971 = .ok (.iconst 3, 1) := by decide +kernel
theorem z_ld678 : decode code 972 = .ok (.iadd, 1) := by decide +kernel
theorem z_ld679 : decode code 973 = .ok (.iaload, 1) := by decide +kernel
theorem z_ld680 : decode code 974 = .ok (.invokevirtual 121, 3) := by decide +kernel
theorem z_ld681 : decode code 977 = .ok (.if_icmp .eq 94, 3) := by decide +kernel
theorem z_ld682 : decode code 980 = .ok (.iconst 0, 1) := by decide +kernel
theorem z_ld683 : decode code 981 = .ok (.ireturn, 1) := by decide +kernel
theorem z_ld684 : decode code 982 = .ok (.aload_n 1, 1) := by decide +kernel
theorem z_ld685 : decode code 983 = .ok (.aload_n 0, 1) := by decide +kernel
theorem z_ld686 : decode code 984 = .ok (.iload_n 3, 1) := by decide +kernel
theorem z_ld687 : decode code 985 = .ok (.iconst 1, 1) := by decide +kernel
theorem z_ld688 : decode code 986 = .ok (.iadd, 1) := by decide +kernel
theorem z_ld689 : decode code 987 = .ok (.iaload, 1) := by decide +kernel
theorem z_ld690 : decode code 988 = .ok (.aload_n 0, 1) := by decide +kernel
theorem z_ld691 : decode code 989 = .ok (.iload_n 3, 1) := by decide +kernel
theorem z_ld692 : decode code 990 = .ok (.iconst 2, 1) := by decide +kernel
theorem z_ld693 : decode code 991 = .ok (.iadd, 1) := by decide +kernel
theorem z_ld694 : decode code 992 = .ok (.iaload, 1) := by decide +kernel
theorem z_ld695 : decode code 993 = .ok (.aload_n 0, 1) := by decide +kernel
theorem z_ld696 : decode code 994 = .ok (.iload_n 3, 1) := by decide +kernel
theorem z_ld697 : decode code 995 = .ok (.iconst 3, 1) := by decide +kernel
theorem z_ld698 : decode code 996 = .ok (.iadd, 1) := by decide +kernel
theorem z_ld699 : decode code 997 = .ok (.iaload, 1) := by decide +kernel
