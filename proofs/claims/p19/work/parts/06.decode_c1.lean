theorem d_Lw_law_954 : decode code 954 = .ok (.iload_n 3, 1) := by decide +kernel
theorem d_Lw_law_955 : decode code 955 = .ok (.iconst 2, 1) := by decide +kernel
theorem d_Lw_law_956 : decode code 956 = .ok (.iadd, 1) := by decide +kernel
theorem d_Lw_law_957 : decode code 957 = .ok (.iaload, 1) := by decide +kernel
theorem d_Lw_law_958 : decode code 958 = .ok (.invokevirtual 108, 3) := by decide +kernel
theorem d_Lw_law_961 : decode code 961 = .ok (.pop, 1) := by decide +kernel
theorem d_Lw_law_962 : decode code 962 = .ok (.goto 49, 3) := by decide +kernel
theorem d_Lw_law_965 : decode code 965 = .ok (.aload_n 1, 1) := by decide +kernel
theorem d_Lw_law_966 : decode code 966 = .ok (.aload_n 0, 1) := by decide +kernel
theorem d_Lw_law_967 : decode code 967 = .ok (.iload_n 3, 1) := by decide +kernel
theorem d_Lw_law_968 : decode code 968 = .ok (.iconst 1, 1) := by decide +kernel
theorem d_Lw_law_969 : decode code 969 = .ok (.iadd, 1) := by decide +kernel
theorem d_Lw_law_970 : decode code 970 = .ok (.iaload, 1) := by decide +kernel
theorem d_Lw_law_971 : decode code 971 = .ok (.aload_n 0, 1) := by decide +kernel
theorem d_Lw_law_972 : decode code 972 = .ok (.iload_n 3, 1) := by decide +kernel
theorem d_Lw_law_973 : decode code 973 = .ok (.iconst 2, 1) := by decide +kernel
theorem d_Lw_law_974 : decode code 974 = .ok (.iadd, 1) := by decide +kernel
theorem d_Lw_law_975 : decode code 975 = .ok (.iaload, 1) := by decide +kernel
theorem d_Lw_law_976 : decode code 976 = .ok (.invokevirtual 109, 3) := by decide +kernel
theorem d_Lw_law_979 : decode code 979 = .ok (.pop, 1) := by decide +kernel
theorem d_Lw_law_980 : decode code 980 = .ok (.aload_n 2, 1) := by decide +kernel
theorem d_Lw_law_981 : decode code 981 = .ok (.aload_n 0, 1) := by decide +kernel
theorem d_Lw_law_982 : decode code 982 = .ok (.iload_n 3, 1) := by decide +kernel
theorem d_Lw_law_983 : decode code 983 = .ok (.iconst 1, 1) := by decide +kernel
theorem d_Lw_law_984 : decode code 984 = .ok (.iadd, 1) := by decide +kernel
theorem d_Lw_law_985 : decode code 985 = .ok (.iaload, 1) := by decide +kernel
theorem d_Lw_law_986 : decode code 986 = .ok (.aload_n 0, 1) := by decide +kernel
theorem d_Lw_law_987 : decode code 987 = .ok (.iload_n 3, 1) := by decide +kernel
theorem d_Lw_law_988 : decode code 988 = .ok (.iconst 2, 1) := by decide +kernel
theorem d_Lw_law_989 : decode code 989 = .ok (.iadd, 1) := by decide +kernel
theorem d_Lw_law_990 : decode code 990 = .ok (.iaload, 1) := by decide +kernel
theorem d_Lw_law_991 : decode code 991 = .ok (.invokevirtual 112, 3) := by decide +kernel
theorem d_Lw_law_994 : decode code 994 = .ok (.pop, 1) := by decide +kernel
theorem d_Lw_law_995 : decode code 995 = .ok (.goto 16, 3) := by decide +kernel
theorem d_Lw_law_998 : decode code 998 = .ok (.aload_n 1, 1) := by decide +kernel
theorem d_Lw_law_999 : decode code 999 = .ok (.invokevirtual 113, 3) := by decide +kernel
theorem d_Lw_law_1002 : decode code 1002 = .ok (.pop, 1) := by decide +kernel
theorem d_Lw_law_1003 : decode code 1003 = .ok (.aload_n 2, 1) := by decide +kernel
theorem d_Lw_law_1004 : decode code 1004 = .ok (.invokevirtual 116, 3) := by decide +kernel
theorem d_Lw_law_1007 : decode code 1007 = .ok (.pop, 1) := by decide +kernel
theorem d_Lw_law_1008 : decode code 1008 = .ok (.goto 3, 3) := by decide +kernel
theorem d_Lw_law_1011 : decode code 1011 = .ok (.iinc 3 7, 3) := by decide +kernel
theorem d_Lw_law_1014 : decode code 1014 = .ok (.goto (-996), 3) := by decide +kernel
theorem d_Lw_law_1017 : decode code 1017 = .ok (.iconst 1, 1) := by decide +kernel
theorem d_Lw_law_1018 : decode code 1018 = .ok (.ireturn, 1) := by decide +kernel
