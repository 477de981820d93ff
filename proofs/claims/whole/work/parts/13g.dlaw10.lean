/-! the law, decoded -/
theorem z_ld700 : decode code 998 = .ok (.aload_n 0, 1) := by decide +kernel
theorem z_ld701 : decode code 999 = .ok (.iload_n 3, 1) := by decide +kernel
theorem z_ld702 : decode code 1000 = .ok (.iconst 4, 1) := by decide +kernel
theorem z_ld703 : decode code 1001 = .ok (.iadd, 1) := by decide +kernel
theorem z_ld704 : decode code 1002 = .ok (.iaload, 1) := by decide +kernel
theorem z_ld705 : decode code 1003 = .ok (.invokevirtual 122, 3) := by decide +kernel
theorem z_ld706 : decode code 1006 = .ok (.aload_n 2, 1) := by decide +kernel
theorem z_ld707 : decode code 1007 = .ok (.aload_n 0, 1) := by decide +kernel
theorem z_ld708 : decode code 1008 = .ok (.iload_n 3, 1) := by decide +kernel
theorem z_ld709 : decode code 1009 = .ok (.iconst 1, 1) := by decide +kernel
theorem z_ld710 : decode code 1010 = .ok (.iadd, 1) := by decide +kernel
theorem z_ld711 : decode code 1011 = .ok (.iaload, 1) := by decide +kernel
theorem z_ld712 : decode code 1012 = .ok (.aload_n 0, 1) := by decide +kernel
theorem z_ld713 : decode code 1013 = .ok (.iload_n 3, 1) := by decide +kernel
theorem z_ld714 : decode code 1014 = .ok (.iconst 2, 1) := by decide +kernel
theorem z_ld715 : decode code 1015 = .ok (.iadd, 1) := by decide +kernel
theorem z_ld716 : decode code 1016 = .ok (.iaload, 1) := by decide +kernel
theorem z_ld717 : decode code 1017 = .ok (.aload_n 0, 1) := by decide +kernel
theorem z_ld718 : decode code 1018 = .ok (.iload_n 3, 1) := by decide +kernel
theorem z_ld719 : decode code 1019 = .ok (.iconst 3, 1) := by decide +kernel
theorem z_ld720 : decode code 1020 = .ok (.iadd, 1) := by decide +kernel
theorem z_ld721 : decode code 1021 = .ok (.iaload, 1) := by decide +kernel
theorem z_ld722 : decode code 1022 = .ok (.aload_n 0, 1) := by decide +kernel
theorem z_ld723 : decode code 1023 = .ok (.iload_n 3, 1) := by decide +kernel
theorem z_ld724 : decode code 1024 = .ok (.iconst 4, 1) := by decide +kernel
theorem z_ld725 : decode code 1025 = .ok (.iadd, 1) := by decide +kernel
theorem z_ld726 : decode code 1026 = .ok (.iaload, 1) := by decide +kernel
theorem z_ld727 : decode code 1027 = .ok (.invokevirtual 125, 3) := by decide +kernel
theorem z_ld728 : decode code 1030 = .ok (.if_icmp .eq 41, 3) := by decide +kernel
theorem z_ld729 : decode code 1033 = .ok (.iconst 0, 1) := by decide +kernel
theorem z_ld730 : decode code 1034 = .ok (.ireturn, 1) := by decide +kernel
theorem z_ld731 : decode code 1035 = .ok (.aload_n 1, 1) := by decide +kernel
theorem z_ld732 : decode code 1036 = .ok (.invokevirtual 126, 3) := by decide +kernel
theorem z_ld733 : decode code 1039 = .ok (.aload_n 2, 1) := by decide +kernel
theorem z_ld734 : decode code 1040 = .ok (.invokevirtual 129, 3) := by decide +kernel
theorem z_ld735 : decode code 1043 = .ok (.if_icmp .eq 28, 3) := by decide +kernel
theorem z_ld736 : decode code 1046 = .ok (.iconst 0, 1) := by decide +kernel
theorem z_ld737 : decode code 1047 = .ok (.ireturn, 1) := by decide +kernel
theorem z_ld738 : decode code 1048 = .ok (.aload_n 1, 1) := by decide +kernel
theorem z_ld739 : decode code 1049 = .ok (.aload_n 0, 1) := by decide +kernel
theorem z_ld740 : decode code 1050 = .ok (.iload_n 3, 1) := by decide +kernel
theorem z_ld741 : decode code 1051 = .ok (.iconst 1, 1) := by decide +kernel
theorem z_ld742 : decode code 1052 = .ok (.iadd, 1) := by decide +kernel
theorem z_ld743 : decode code 1053 = .ok (.iaload, 1) := by decide +kernel
theorem z_ld744 : decode code 1054 = .ok (.invokevirtual 130, 3) := by decide +kernel
theorem z_ld745 : decode code 1057 = .ok (.aload_n 2, 1) := by decide +kernel
theorem z_ld746 : decode code 1058 = .ok (.aload_n 0, 1) := by decide +kernel
theorem z_ld747 : decode code 1059 = .ok (.iload_n 3, 1) := by decide +kernel
theorem z_ld748 : decode code 1060 = .ok (.iconst 1, 1) := by decide +kernel
theorem z_ld749 : decode code 1061 = .ok (.iadd, 1) := by decide +kernel
theorem z_ld750 : decode code 1062 = .ok (.iaload, 1) := by decide +kernel
theorem z_ld751 : decode code 1063 = .ok (.invokevirtual 133, 3) := by decide +kernel
theorem z_ld752 : decode code 1066 = .ok (.if_icmp .eq 5, 3) := by decide +kernel
theorem z_ld753 : decode code 1069 = .ok (.iconst 0, 1) := by decide +kernel
theorem z_ld754 : decode code 1070 = .ok (.ireturn, 1) := by decide +kernel
theorem z_ld755 : decode code 1071 = .ok (.iinc 3 5, 3) := by decide +kernel
theorem z_ld756 : decode code 1074 = .ok (.goto (-1056), 3) := by decide +kernel
theorem z_ld757 : decode code 1077 = .ok (.iconst 1, 1) := by decide +kernel
theorem z_ld758 : decode code 1078 = .ok (.ireturn, 1) := by decide +kernel
