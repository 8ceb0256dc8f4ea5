theorem d_Lw_law_954 : decode code 954 = .ok (.iconst 2, 1) := by decide +kernel
theorem d_Lw_law_955 : decode code 955 = .ok (.iadd, 1) := by decide +kernel
theorem d_Lw_law_956 : decode code 956 = .ok (.iaload, 1) := by decide +kernel
theorem d_Lw_law_957 : decode code 957 = .ok (.invokevirtual 108, 3) := by decide +kernel
theorem d_Lw_law_960 : decode code 960 = .ok (.pop, 1) := by decide +kernel
theorem d_Lw_law_961 : decode code 961 = .ok (.goto 49, 3) := by decide +kernel
theorem d_Lw_law_964 : decode code 964 = .ok (.aload_n 1, 1) := by decide +kernel
theorem d_Lw_law_965 : decode code 965 = .ok (.aload_n 0, 1) := by decide +kernel
theorem d_Lw_law_966 : decode code 966 = .ok (.iload_n 3, 1) := by decide +kernel
theorem d_Lw_law_967 : decode code 967 = .ok (.iconst 1, 1) := by decide +kernel
theorem d_Lw_law_968 : decode code 968 = .ok (.iadd, 1) := by decide +kernel
theorem d_Lw_law_969 : decode code 969 = .ok (.iaload, 1) := by decide +kernel
theorem d_Lw_law_970 : decode code 970 = .ok (.aload_n 0, 1) := by decide +kernel
theorem d_Lw_law_971 : decode code 971 = .ok (.iload_n 3, 1) := by decide +kernel
theorem d_Lw_law_972 : decode code 972 = .ok (.iconst 2, 1) := by decide +kernel
theorem d_Lw_law_973 : decode code 973 = .ok (.iadd, 1) := by decide +kernel
theorem d_Lw_law_974 : decode code 974 = .ok (.iaload, 1) := by decide +kernel
theorem d_Lw_law_975 : decode code 975 = .ok (.invokevirtual 109, 3) := by decide +kernel
theorem d_Lw_law_978 : decode code 978 = .ok (.aload_n 2, 1) := by decide +kernel
theorem d_Lw_law_979 : decode code 979 = .ok (.aload_n 0, 1) := by decide +kernel
theorem d_Lw_law_980 : decode code 980 = .ok (.iload_n 3, 1) := by decide +kernel
theorem d_Lw_law_981 : decode code 981 = .ok (.iconst 1, 1) := by decide +kernel
theorem d_Lw_law_982 : decode code 982 = .ok (.iadd, 1) := by decide +kernel
theorem d_Lw_law_983 : decode code 983 = .ok (.iaload, 1) := by decide +kernel
theorem d_Lw_law_984 : decode code 984 = .ok (.aload_n 0, 1) := by decide +kernel
theorem d_Lw_law_985 : decode code 985 = .ok (.iload_n 3, 1) := by decide +kernel
theorem d_Lw_law_986 : decode code 986 = .ok (.iconst 2, 1) := by decide +kernel
theorem d_Lw_law_987 : decode code 987 = .ok (.iadd, 1) := by decide +kernel
theorem d_Lw_law_988 : decode code 988 = .ok (.iaload, 1) := by decide +kernel
theorem d_Lw_law_989 : decode code 989 = .ok (.invokevirtual 112, 3) := by decide +kernel
theorem d_Lw_law_992 : decode code 992 = .ok (.if_icmp .eq 18, 3) := by decide +kernel
theorem d_Lw_law_995 : decode code 995 = .ok (.iconst 0, 1) := by decide +kernel
theorem d_Lw_law_996 : decode code 996 = .ok (.ireturn, 1) := by decide +kernel
theorem d_Lw_law_997 : decode code 997 = .ok (.aload_n 1, 1) := by decide +kernel
theorem d_Lw_law_998 : decode code 998 = .ok (.invokevirtual 113, 3) := by decide +kernel
theorem d_Lw_law_1001 : decode code 1001 = .ok (.pop, 1) := by decide +kernel
theorem d_Lw_law_1002 : decode code 1002 = .ok (.aload_n 2, 1) := by decide +kernel
theorem d_Lw_law_1003 : decode code 1003 = .ok (.invokevirtual 116, 3) := by decide +kernel
theorem d_Lw_law_1006 : decode code 1006 = .ok (.pop, 1) := by decide +kernel
theorem d_Lw_law_1007 : decode code 1007 = .ok (.goto 3, 3) := by decide +kernel
theorem d_Lw_law_1010 : decode code 1010 = .ok (.iinc 3 7, 3) := by decide +kernel
theorem d_Lw_law_1013 : decode code 1013 = .ok (.goto (-995), 3) := by decide +kernel
theorem d_Lw_law_1016 : decode code 1016 = .ok (.iconst 1, 1) := by decide +kernel
theorem d_Lw_law_1017 : decode code 1017 = .ok (.ireturn, 1) := by decide +kernel
