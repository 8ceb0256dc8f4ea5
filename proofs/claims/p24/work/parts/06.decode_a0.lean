theorem d_Md_init_0 : decode b_Md_init 0 = .ok (.aload_n 0, 1) := by decide +kernel
theorem d_Md_init_1 : decode b_Md_init 1 = .ok (.invokespecial 1, 3) := by decide +kernel
theorem d_Md_init_4 : decode b_Md_init 4 = .ok (.aload_n 0, 1) := by decide +kernel
theorem d_Md_init_5 : decode b_Md_init 5 = .ok (.bipush 8, 2) := by decide +kernel
theorem d_Md_init_7 : decode b_Md_init 7 = .ok (.newarray .int, 2) := by decide +kernel
theorem d_Md_init_9 : decode b_Md_init 9 = .ok (.putfield 7, 3) := by decide +kernel
theorem d_Md_init_12 : decode b_Md_init 12 = .ok (.aload_n 0, 1) := by decide +kernel
theorem d_Md_init_13 : decode b_Md_init 13 = .ok (.bipush 8, 2) := by decide +kernel
theorem d_Md_init_15 : decode b_Md_init 15 = .ok (.newarray .int, 2) := by decide +kernel
theorem d_Md_init_17 : decode b_Md_init 17 = .ok (.putfield 13, 3) := by decide +kernel
theorem d_Md_init_20 : decode b_Md_init 20 = .ok (.aload_n 0, 1) := by decide +kernel
theorem d_Md_init_21 : decode b_Md_init 21 = .ok (.bipush 8, 2) := by decide +kernel
theorem d_Md_init_23 : decode b_Md_init 23 = .ok (.newarray .int, 2) := by decide +kernel
theorem d_Md_init_25 : decode b_Md_init 25 = .ok (.putfield 16, 3) := by decide +kernel
theorem d_Md_init_28 : decode b_Md_init 28 = .ok (.aload_n 0, 1) := by decide +kernel
theorem d_Md_init_29 : decode b_Md_init 29 = .ok (.sipush 128, 3) := by decide +kernel
theorem d_Md_init_32 : decode b_Md_init 32 = .ok (.newarray .int, 2) := by decide +kernel
theorem d_Md_init_34 : decode b_Md_init 34 = .ok (.putfield 19, 3) := by decide +kernel
theorem d_Md_init_37 : decode b_Md_init 37 = .ok (.aload_n 0, 1) := by decide +kernel
theorem d_Md_init_38 : decode b_Md_init 38 = .ok (.bipush 24, 2) := by decide +kernel
theorem d_Md_init_40 : decode b_Md_init 40 = .ok (.newarray .int, 2) := by decide +kernel
theorem d_Md_init_42 : decode b_Md_init 42 = .ok (.putfield 22, 3) := by decide +kernel
theorem d_Md_init_45 : decode b_Md_init 45 = .ok (.aload_n 0, 1) := by decide +kernel
theorem d_Md_init_46 : decode b_Md_init 46 = .ok (.sipush 192, 3) := by decide +kernel
theorem d_Md_init_49 : decode b_Md_init 49 = .ok (.newarray .int, 2) := by decide +kernel
theorem d_Md_init_51 : decode b_Md_init 51 = .ok (.putfield 25, 3) := by decide +kernel
theorem d_Md_init_54 : decode b_Md_init 54 = .ok (.aload_n 0, 1) := by decide +kernel
theorem d_Md_init_55 : decode b_Md_init 55 = .ok (.sipush 216, 3) := by decide +kernel
theorem d_Md_init_58 : decode b_Md_init 58 = .ok (.newarray .int, 2) := by decide +kernel
theorem d_Md_init_60 : decode b_Md_init 60 = .ok (.putfield 28, 3) := by decide +kernel
theorem d_Md_init_63 : decode b_Md_init 63 = .ok (.aload_n 0, 1) := by decide +kernel
theorem d_Md_init_64 : decode b_Md_init 64 = .ok (.bipush 72, 2) := by decide +kernel
theorem d_Md_init_66 : decode b_Md_init 66 = .ok (.newarray .int, 2) := by decide +kernel
theorem d_Md_init_68 : decode b_Md_init 68 = .ok (.putfield 31, 3) := by decide +kernel
theorem d_Md_init_71 : decode b_Md_init 71 = .ok (.aload_n 0, 1) := by decide +kernel
theorem d_Md_init_72 : decode b_Md_init 72 = .ok (.bipush 24, 2) := by decide +kernel
theorem d_Md_init_74 : decode b_Md_init 74 = .ok (.newarray .long, 2) := by decide +kernel
theorem d_Md_init_76 : decode b_Md_init 76 = .ok (.putfield 34, 3) := by decide +kernel
theorem d_Md_init_79 : decode b_Md_init 79 = .ok (.aload_n 0, 1) := by decide +kernel
theorem d_Md_init_80 : decode b_Md_init 80 = .ok (.bipush 12, 2) := by decide +kernel
theorem d_Md_init_82 : decode b_Md_init 82 = .ok (.newarray .int, 2) := by decide +kernel
theorem d_Md_init_84 : decode b_Md_init 84 = .ok (.putfield 38, 3) := by decide +kernel
theorem d_Md_init_87 : decode b_Md_init 87 = .ok (.aload_n 0, 1) := by decide +kernel
theorem d_Md_init_88 : decode b_Md_init 88 = .ok (.iconst 4, 1) := by decide +kernel
theorem d_Md_init_89 : decode b_Md_init 89 = .ok (.newarray .int, 2) := by decide +kernel
theorem d_Md_init_91 : decode b_Md_init 91 = .ok (.putfield 41, 3) := by decide +kernel
theorem d_Md_init_94 : decode b_Md_init 94 = .ok (.aload_n 0, 1) := by decide +kernel
theorem d_Md_init_95 : decode b_Md_init 95 = .ok (.bipush 8, 2) := by decide +kernel
theorem d_Md_init_97 : decode b_Md_init 97 = .ok (.newarray .long, 2) := by decide +kernel
theorem d_Md_init_99 : decode b_Md_init 99 = .ok (.putfield 44, 3) := by decide +kernel
theorem d_Md_init_102 : decode b_Md_init 102 = .ok (.aload_n 0, 1) := by decide +kernel
theorem d_Md_init_103 : decode b_Md_init 103 = .ok (.bipush 8, 2) := by decide +kernel
theorem d_Md_init_105 : decode b_Md_init 105 = .ok (.newarray .long, 2) := by decide +kernel
theorem d_Md_init_107 : decode b_Md_init 107 = .ok (.putfield 47, 3) := by decide +kernel
theorem d_Md_init_110 : decode b_Md_init 110 = .ok (.aload_n 0, 1) := by decide +kernel
theorem d_Md_init_111 : decode b_Md_init 111 = .ok (.bipush 8, 2) := by decide +kernel
theorem d_Md_init_113 : decode b_Md_init 113 = .ok (.newarray .long, 2) := by decide +kernel
theorem d_Md_init_115 : decode b_Md_init 115 = .ok (.putfield 50, 3) := by decide +kernel
theorem d_Md_init_118 : decode b_Md_init 118 = .ok (.aload_n 0, 1) := by decide +kernel
theorem d_Md_init_119 : decode b_Md_init 119 = .ok (.bipush 8, 2) := by decide +kernel
theorem d_Md_init_121 : decode b_Md_init 121 = .ok (.newarray .long, 2) := by decide +kernel
theorem d_Md_init_123 : decode b_Md_init 123 = .ok (.putfield 53, 3) := by decide +kernel
theorem d_Md_init_126 : decode b_Md_init 126 = .ok (.aload_n 0, 1) := by decide +kernel
theorem d_Md_init_127 : decode b_Md_init 127 = .ok (.bipush 12, 2) := by decide +kernel
theorem d_Md_init_129 : decode b_Md_init 129 = .ok (.newarray .int, 2) := by decide +kernel
theorem d_Md_init_131 : decode b_Md_init 131 = .ok (.putfield 56, 3) := by decide +kernel
theorem d_Md_init_134 : decode b_Md_init 134 = .ok (.return_, 1) := by decide +kernel
theorem d_Md_loop_0 : decode b_Md_loop 0 = .ok (.iload_n 1, 1) := by decide +kernel
theorem d_Md_loop_1 : decode b_Md_loop 1 = .ok (.iconst 1, 1) := by decide +kernel
theorem d_Md_loop_2 : decode b_Md_loop 2 = .ok (.iconst 3, 1) := by decide +kernel
theorem d_Md_loop_3 : decode b_Md_loop 3 = .ok (.invokestatic 63, 3) := by decide +kernel
theorem d_Md_loop_6 : decode b_Md_loop 6 = .ok (.ifCond .ne 6, 3) := by decide +kernel
theorem d_Md_loop_9 : decode b_Md_loop 9 = .ok (.bipush (-3), 2) := by decide +kernel
theorem d_Md_loop_11 : decode b_Md_loop 11 = .ok (.ireturn, 1) := by decide +kernel
theorem d_Md_loop_12 : decode b_Md_loop 12 = .ok (.aload_n 0, 1) := by decide +kernel
theorem d_Md_loop_13 : decode b_Md_loop 13 = .ok (.getfield 59, 3) := by decide +kernel
theorem d_Md_loop_16 : decode b_Md_loop 16 = .ok (.bipush 8, 2) := by decide +kernel
theorem d_Md_loop_18 : decode b_Md_loop 18 = .ok (.if_icmp .ne 6, 3) := by decide +kernel
theorem d_Md_loop_21 : decode b_Md_loop 21 = .ok (.bipush (-4), 2) := by decide +kernel
theorem d_Md_loop_23 : decode b_Md_loop 23 = .ok (.ireturn, 1) := by decide +kernel
theorem d_Md_loop_24 : decode b_Md_loop 24 = .ok (.aload_n 0, 1) := by decide +kernel
theorem d_Md_loop_25 : decode b_Md_loop 25 = .ok (.getfield 59, 3) := by decide +kernel
theorem d_Md_loop_28 : decode b_Md_loop 28 = .ok (.istore_n 2, 1) := by decide +kernel
theorem d_Md_loop_29 : decode b_Md_loop 29 = .ok (.aload_n 0, 1) := by decide +kernel
theorem d_Md_loop_30 : decode b_Md_loop 30 = .ok (.getfield 7, 3) := by decide +kernel
theorem d_Md_loop_33 : decode b_Md_loop 33 = .ok (.iload_n 2, 1) := by decide +kernel
theorem d_Md_loop_34 : decode b_Md_loop 34 = .ok (.iload_n 1, 1) := by decide +kernel
theorem d_Md_loop_35 : decode b_Md_loop 35 = .ok (.iastore, 1) := by decide +kernel
theorem d_Md_loop_36 : decode b_Md_loop 36 = .ok (.aload_n 0, 1) := by decide +kernel
theorem d_Md_loop_37 : decode b_Md_loop 37 = .ok (.getfield 13, 3) := by decide +kernel
theorem d_Md_loop_40 : decode b_Md_loop 40 = .ok (.iload_n 2, 1) := by decide +kernel
theorem d_Md_loop_41 : decode b_Md_loop 41 = .ok (.iconst 0, 1) := by decide +kernel
theorem d_Md_loop_42 : decode b_Md_loop 42 = .ok (.iastore, 1) := by decide +kernel
theorem d_Md_loop_43 : decode b_Md_loop 43 = .ok (.aload_n 0, 1) := by decide +kernel
theorem d_Md_loop_44 : decode b_Md_loop 44 = .ok (.getfield 16, 3) := by decide +kernel
theorem d_Md_loop_47 : decode b_Md_loop 47 = .ok (.iload_n 2, 1) := by decide +kernel
theorem d_Md_loop_48 : decode b_Md_loop 48 = .ok (.iconst 0, 1) := by decide +kernel
theorem d_Md_loop_49 : decode b_Md_loop 49 = .ok (.iastore, 1) := by decide +kernel
theorem d_Md_loop_50 : decode b_Md_loop 50 = .ok (.iconst 0, 1) := by decide +kernel
theorem d_Md_loop_51 : decode b_Md_loop 51 = .ok (.istore_n 3, 1) := by decide +kernel
theorem d_Md_loop_52 : decode b_Md_loop 52 = .ok (.iload_n 3, 1) := by decide +kernel
theorem d_Md_loop_53 : decode b_Md_loop 53 = .ok (.iconst 3, 1) := by decide +kernel
theorem d_Md_loop_54 : decode b_Md_loop 54 = .ok (.if_icmp .ge 20, 3) := by decide +kernel
theorem d_Md_loop_57 : decode b_Md_loop 57 = .ok (.aload_n 0, 1) := by decide +kernel
theorem d_Md_loop_58 : decode b_Md_loop 58 = .ok (.getfield 34, 3) := by decide +kernel
theorem d_Md_loop_61 : decode b_Md_loop 61 = .ok (.iconst 3, 1) := by decide +kernel
theorem d_Md_loop_62 : decode b_Md_loop 62 = .ok (.iload_n 2, 1) := by decide +kernel
theorem d_Md_loop_63 : decode b_Md_loop 63 = .ok (.imul, 1) := by decide +kernel
theorem d_Md_loop_64 : decode b_Md_loop 64 = .ok (.iload_n 3, 1) := by decide +kernel
theorem d_Md_loop_65 : decode b_Md_loop 65 = .ok (.iadd, 1) := by decide +kernel
theorem d_Md_loop_66 : decode b_Md_loop 66 = .ok (.lconst 0, 1) := by decide +kernel
theorem d_Md_loop_67 : decode b_Md_loop 67 = .ok (.lastore, 1) := by decide +kernel
theorem d_Md_loop_68 : decode b_Md_loop 68 = .ok (.iinc 3 1, 3) := by decide +kernel
theorem d_Md_loop_71 : decode b_Md_loop 71 = .ok (.goto (-19), 3) := by decide +kernel
theorem d_Md_loop_74 : decode b_Md_loop 74 = .ok (.aload_n 0, 1) := by decide +kernel
theorem d_Md_loop_75 : decode b_Md_loop 75 = .ok (.dup, 1) := by decide +kernel
theorem d_Md_loop_76 : decode b_Md_loop 76 = .ok (.getfield 59, 3) := by decide +kernel
theorem d_Md_loop_79 : decode b_Md_loop 79 = .ok (.iconst 1, 1) := by decide +kernel
theorem d_Md_loop_80 : decode b_Md_loop 80 = .ok (.iadd, 1) := by decide +kernel
theorem d_Md_loop_81 : decode b_Md_loop 81 = .ok (.putfield 59, 3) := by decide +kernel
theorem d_Md_loop_84 : decode b_Md_loop 84 = .ok (.iload_n 2, 1) := by decide +kernel
theorem d_Md_loop_85 : decode b_Md_loop 85 = .ok (.ireturn, 1) := by decide +kernel
theorem d_Md_isIn_0 : decode b_Md_isIn 0 = .ok (.iload_n 0, 1) := by decide +kernel
theorem d_Md_isIn_1 : decode b_Md_isIn 1 = .ok (.iload_n 1, 1) := by decide +kernel
theorem d_Md_isIn_2 : decode b_Md_isIn 2 = .ok (.if_icmp .lt 12, 3) := by decide +kernel
theorem d_Md_isIn_5 : decode b_Md_isIn 5 = .ok (.iload_n 0, 1) := by decide +kernel
theorem d_Md_isIn_6 : decode b_Md_isIn 6 = .ok (.iload_n 2, 1) := by decide +kernel
theorem d_Md_isIn_7 : decode b_Md_isIn 7 = .ok (.if_icmp .gt 7, 3) := by decide +kernel
theorem d_Md_isIn_10 : decode b_Md_isIn 10 = .ok (.iconst 1, 1) := by decide +kernel
theorem d_Md_isIn_11 : decode b_Md_isIn 11 = .ok (.goto 4, 3) := by decide +kernel
theorem d_Md_isIn_14 : decode b_Md_isIn 14 = .ok (.iconst 0, 1) := by decide +kernel
theorem d_Md_isIn_15 : decode b_Md_isIn 15 = .ok (.ireturn, 1) := by decide +kernel
theorem d_Md_clear_0 : decode b_Md_clear 0 = .ok (.aload_n 0, 1) := by decide +kernel
theorem d_Md_clear_1 : decode b_Md_clear 1 = .ok (.getfield 59, 3) := by decide +kernel
theorem d_Md_clear_4 : decode b_Md_clear 4 = .ok (.istore_n 1, 1) := by decide +kernel
theorem d_Md_clear_5 : decode b_Md_clear 5 = .ok (.aload_n 0, 1) := by decide +kernel
theorem d_Md_clear_6 : decode b_Md_clear 6 = .ok (.iconst 0, 1) := by decide +kernel
theorem d_Md_clear_7 : decode b_Md_clear 7 = .ok (.putfield 59, 3) := by decide +kernel
theorem d_Md_clear_10 : decode b_Md_clear 10 = .ok (.aload_n 0, 1) := by decide +kernel
theorem d_Md_clear_11 : decode b_Md_clear 11 = .ok (.iconst 0, 1) := by decide +kernel
theorem d_Md_clear_12 : decode b_Md_clear 12 = .ok (.putfield 75, 3) := by decide +kernel
theorem d_Md_clear_15 : decode b_Md_clear 15 = .ok (.aload_n 0, 1) := by decide +kernel
theorem d_Md_clear_16 : decode b_Md_clear 16 = .ok (.iconst 0, 1) := by decide +kernel
theorem d_Md_clear_17 : decode b_Md_clear 17 = .ok (.putfield 78, 3) := by decide +kernel
theorem d_Md_clear_20 : decode b_Md_clear 20 = .ok (.aload_n 0, 1) := by decide +kernel
theorem d_Md_clear_21 : decode b_Md_clear 21 = .ok (.iconst 0, 1) := by decide +kernel
theorem d_Md_clear_22 : decode b_Md_clear 22 = .ok (.putfield 81, 3) := by decide +kernel
theorem d_Md_clear_25 : decode b_Md_clear 25 = .ok (.iload_n 1, 1) := by decide +kernel
theorem d_Md_clear_26 : decode b_Md_clear 26 = .ok (.ireturn, 1) := by decide +kernel
theorem d_Md_guard_0 : decode b_Md_guard 0 = .ok (.aload_n 0, 1) := by decide +kernel
theorem d_Md_guard_1 : decode b_Md_guard 1 = .ok (.iload_n 1, 1) := by decide +kernel
theorem d_Md_guard_2 : decode b_Md_guard 2 = .ok (.invokevirtual 67, 3) := by decide +kernel
theorem d_Md_guard_5 : decode b_Md_guard 5 = .ok (.ifCond .ne 6, 3) := by decide +kernel
theorem d_Md_guard_8 : decode b_Md_guard 8 = .ok (.bipush (-2), 2) := by decide +kernel
theorem d_Md_guard_10 : decode b_Md_guard 10 = .ok (.ireturn, 1) := by decide +kernel
theorem d_Md_guard_11 : decode b_Md_guard 11 = .ok (.aload_n 0, 1) := by decide +kernel
theorem d_Md_guard_12 : decode b_Md_guard 12 = .ok (.iload_n 1, 1) := by decide +kernel
theorem d_Md_guard_13 : decode b_Md_guard 13 = .ok (.iload_n 2, 1) := by decide +kernel
theorem d_Md_guard_14 : decode b_Md_guard 14 = .ok (.iload_n 3, 1) := by decide +kernel
theorem d_Md_guard_15 : decode b_Md_guard 15 = .ok (.iload 4, 2) := by decide +kernel
theorem d_Md_guard_17 : decode b_Md_guard 17 = .ok (.iload 5, 2) := by decide +kernel
theorem d_Md_guard_19 : decode b_Md_guard 19 = .ok (.invokevirtual 85, 3) := by decide +kernel
theorem d_Md_guard_22 : decode b_Md_guard 22 = .ok (.ifCond .ne 6, 3) := by decide +kernel
theorem d_Md_guard_25 : decode b_Md_guard 25 = .ok (.bipush (-3), 2) := by decide +kernel
theorem d_Md_guard_27 : decode b_Md_guard 27 = .ok (.ireturn, 1) := by decide +kernel
theorem d_Md_guard_28 : decode b_Md_guard 28 = .ok (.aload_n 0, 1) := by decide +kernel
theorem d_Md_guard_29 : decode b_Md_guard 29 = .ok (.getfield 16, 3) := by decide +kernel
theorem d_Md_guard_32 : decode b_Md_guard 32 = .ok (.iload_n 1, 1) := by decide +kernel
theorem d_Md_guard_33 : decode b_Md_guard 33 = .ok (.iaload, 1) := by decide +kernel
theorem d_Md_guard_34 : decode b_Md_guard 34 = .ok (.iconst 4, 1) := by decide +kernel
theorem d_Md_guard_35 : decode b_Md_guard 35 = .ok (.if_icmp .ne 6, 3) := by decide +kernel
theorem d_Md_guard_38 : decode b_Md_guard 38 = .ok (.bipush (-4), 2) := by decide +kernel
theorem d_Md_guard_40 : decode b_Md_guard 40 = .ok (.ireturn, 1) := by decide +kernel
theorem d_Md_guard_41 : decode b_Md_guard 41 = .ok (.aload_n 0, 1) := by decide +kernel
theorem d_Md_guard_42 : decode b_Md_guard 42 = .ok (.getfield 19, 3) := by decide +kernel
theorem d_Md_guard_45 : decode b_Md_guard 45 = .ok (.bipush 16, 2) := by decide +kernel
theorem d_Md_guard_47 : decode b_Md_guard 47 = .ok (.iload_n 1, 1) := by decide +kernel
theorem d_Md_guard_48 : decode b_Md_guard 48 = .ok (.imul, 1) := by decide +kernel
theorem d_Md_guard_49 : decode b_Md_guard 49 = .ok (.iconst 4, 1) := by decide +kernel
theorem d_Md_guard_50 : decode b_Md_guard 50 = .ok (.aload_n 0, 1) := by decide +kernel
theorem d_Md_guard_51 : decode b_Md_guard 51 = .ok (.getfield 16, 3) := by decide +kernel
theorem d_Md_guard_54 : decode b_Md_guard 54 = .ok (.iload_n 1, 1) := by decide +kernel
theorem d_Md_guard_55 : decode b_Md_guard 55 = .ok (.iaload, 1) := by decide +kernel
theorem d_Md_guard_56 : decode b_Md_guard 56 = .ok (.imul, 1) := by decide +kernel
theorem d_Md_guard_57 : decode b_Md_guard 57 = .ok (.iadd, 1) := by decide +kernel
theorem d_Md_guard_58 : decode b_Md_guard 58 = .ok (.iload_n 2, 1) := by decide +kernel
theorem d_Md_guard_59 : decode b_Md_guard 59 = .ok (.iload_n 3, 1) := by decide +kernel
theorem d_Md_guard_60 : decode b_Md_guard 60 = .ok (.iload 4, 2) := by decide +kernel
theorem d_Md_guard_62 : decode b_Md_guard 62 = .ok (.iload 5, 2) := by decide +kernel
theorem d_Md_guard_64 : decode b_Md_guard 64 = .ok (.invokestatic 88, 3) := by decide +kernel
theorem d_Md_guard_67 : decode b_Md_guard 67 = .ok (.aload_n 0, 1) := by decide +kernel
theorem d_Md_guard_68 : decode b_Md_guard 68 = .ok (.getfield 16, 3) := by decide +kernel
theorem d_Md_guard_71 : decode b_Md_guard 71 = .ok (.iload_n 1, 1) := by decide +kernel
theorem d_Md_guard_72 : decode b_Md_guard 72 = .ok (.dup2, 1) := by decide +kernel
theorem d_Md_guard_73 : decode b_Md_guard 73 = .ok (.iaload, 1) := by decide +kernel
theorem d_Md_guard_74 : decode b_Md_guard 74 = .ok (.iconst 1, 1) := by decide +kernel
theorem d_Md_guard_75 : decode b_Md_guard 75 = .ok (.iadd, 1) := by decide +kernel
theorem d_Md_guard_76 : decode b_Md_guard 76 = .ok (.iastore, 1) := by decide +kernel
theorem d_Md_guard_77 : decode b_Md_guard 77 = .ok (.aload_n 0, 1) := by decide +kernel
theorem d_Md_guard_78 : decode b_Md_guard 78 = .ok (.getfield 16, 3) := by decide +kernel
theorem d_Md_guard_81 : decode b_Md_guard 81 = .ok (.iload_n 1, 1) := by decide +kernel
theorem d_Md_guard_82 : decode b_Md_guard 82 = .ok (.iaload, 1) := by decide +kernel
theorem d_Md_guard_83 : decode b_Md_guard 83 = .ok (.ireturn, 1) := by decide +kernel
theorem d_Md_isLoop_0 : decode b_Md_isLoop 0 = .ok (.iload_n 1, 1) := by decide +kernel
theorem d_Md_isLoop_1 : decode b_Md_isLoop 1 = .ok (.iconst 0, 1) := by decide +kernel
theorem d_Md_isLoop_2 : decode b_Md_isLoop 2 = .ok (.aload_n 0, 1) := by decide +kernel
theorem d_Md_isLoop_3 : decode b_Md_isLoop 3 = .ok (.getfield 59, 3) := by decide +kernel
theorem d_Md_isLoop_6 : decode b_Md_isLoop 6 = .ok (.iconst 1, 1) := by decide +kernel
theorem d_Md_isLoop_7 : decode b_Md_isLoop 7 = .ok (.isub, 1) := by decide +kernel
theorem d_Md_isLoop_8 : decode b_Md_isLoop 8 = .ok (.invokestatic 63, 3) := by decide +kernel
theorem d_Md_isLoop_11 : decode b_Md_isLoop 11 = .ok (.ireturn, 1) := by decide +kernel
theorem d_Md_isRow_0 : decode b_Md_isRow 0 = .ok (.aload_n 0, 1) := by decide +kernel
theorem d_Md_isRow_1 : decode b_Md_isRow 1 = .ok (.iload_n 1, 1) := by decide +kernel
theorem d_Md_isRow_2 : decode b_Md_isRow 2 = .ok (.iload_n 2, 1) := by decide +kernel
theorem d_Md_isRow_3 : decode b_Md_isRow 3 = .ok (.iload_n 3, 1) := by decide +kernel
theorem d_Md_isRow_4 : decode b_Md_isRow 4 = .ok (.iload 4, 2) := by decide +kernel
theorem d_Md_isRow_6 : decode b_Md_isRow 6 = .ok (.bipush 9, 2) := by decide +kernel
theorem d_Md_isRow_8 : decode b_Md_isRow 8 = .ok (.invokevirtual 71, 3) := by decide +kernel
theorem d_Md_isRow_11 : decode b_Md_isRow 11 = .ok (.ifCond .eq 21, 3) := by decide +kernel
theorem d_Md_isRow_14 : decode b_Md_isRow 14 = .ok (.iload 5, 2) := by decide +kernel
theorem d_Md_isRow_16 : decode b_Md_isRow 16 = .ok (.sipush (-1000), 3) := by decide +kernel
theorem d_Md_isRow_19 : decode b_Md_isRow 19 = .ok (.sipush 1000, 3) := by decide +kernel
theorem d_Md_isRow_22 : decode b_Md_isRow 22 = .ok (.invokestatic 63, 3) := by decide +kernel
theorem d_Md_isRow_25 : decode b_Md_isRow 25 = .ok (.ifCond .eq 7, 3) := by decide +kernel
theorem d_Md_isRow_28 : decode b_Md_isRow 28 = .ok (.iconst 1, 1) := by decide +kernel
theorem d_Md_isRow_29 : decode b_Md_isRow 29 = .ok (.goto 4, 3) := by decide +kernel
theorem d_Md_isRow_32 : decode b_Md_isRow 32 = .ok (.iconst 0, 1) := by decide +kernel
theorem d_Md_isRow_33 : decode b_Md_isRow 33 = .ok (.ireturn, 1) := by decide +kernel
theorem d_Md_areNumbers_0 : decode b_Md_areNumbers 0 = .ok (.iload_n 2, 1) := by decide +kernel
theorem d_Md_areNumbers_1 : decode b_Md_areNumbers 1 = .ok (.iload 5, 2) := by decide +kernel
theorem d_Md_areNumbers_3 : decode b_Md_areNumbers 3 = .ok (.ineg, 1) := by decide +kernel
theorem d_Md_areNumbers_4 : decode b_Md_areNumbers 4 = .ok (.iload 5, 2) := by decide +kernel
theorem d_Md_areNumbers_6 : decode b_Md_areNumbers 6 = .ok (.invokestatic 63, 3) := by decide +kernel
theorem d_Md_areNumbers_9 : decode b_Md_areNumbers 9 = .ok (.ifCond .eq 28, 3) := by decide +kernel
theorem d_Md_areNumbers_12 : decode b_Md_areNumbers 12 = .ok (.iload_n 3, 1) := by decide +kernel
theorem d_Md_areNumbers_13 : decode b_Md_areNumbers 13 = .ok (.iload 5, 2) := by decide +kernel
theorem d_Md_areNumbers_15 : decode b_Md_areNumbers 15 = .ok (.ineg, 1) := by decide +kernel
theorem d_Md_areNumbers_16 : decode b_Md_areNumbers 16 = .ok (.iload 5, 2) := by decide +kernel
theorem d_Md_areNumbers_18 : decode b_Md_areNumbers 18 = .ok (.invokestatic 63, 3) := by decide +kernel
theorem d_Md_areNumbers_21 : decode b_Md_areNumbers 21 = .ok (.ifCond .eq 16, 3) := by decide +kernel
theorem d_Md_areNumbers_24 : decode b_Md_areNumbers 24 = .ok (.iload 4, 2) := by decide +kernel
theorem d_Md_areNumbers_26 : decode b_Md_areNumbers 26 = .ok (.iload 5, 2) := by decide +kernel
theorem d_Md_areNumbers_28 : decode b_Md_areNumbers 28 = .ok (.ineg, 1) := by decide +kernel
theorem d_Md_areNumbers_29 : decode b_Md_areNumbers 29 = .ok (.iload 5, 2) := by decide +kernel
theorem d_Md_areNumbers_31 : decode b_Md_areNumbers 31 = .ok (.invokestatic 63, 3) := by decide +kernel
theorem d_Md_areNumbers_34 : decode b_Md_areNumbers 34 = .ok (.ifCond .ne 5, 3) := by decide +kernel
theorem d_Md_areNumbers_37 : decode b_Md_areNumbers 37 = .ok (.iconst 0, 1) := by decide +kernel
theorem d_Md_areNumbers_38 : decode b_Md_areNumbers 38 = .ok (.ireturn, 1) := by decide +kernel
theorem d_Md_areNumbers_39 : decode b_Md_areNumbers 39 = .ok (.iload_n 2, 1) := by decide +kernel
theorem d_Md_areNumbers_40 : decode b_Md_areNumbers 40 = .ok (.ifCond .ne 14, 3) := by decide +kernel
theorem d_Md_areNumbers_43 : decode b_Md_areNumbers 43 = .ok (.iload_n 3, 1) := by decide +kernel
theorem d_Md_areNumbers_44 : decode b_Md_areNumbers 44 = .ok (.ifCond .ne 10, 3) := by decide +kernel
theorem d_Md_areNumbers_47 : decode b_Md_areNumbers 47 = .ok (.iload 4, 2) := by decide +kernel
theorem d_Md_areNumbers_49 : decode b_Md_areNumbers 49 = .ok (.ifCond .ne 5, 3) := by decide +kernel
theorem d_Md_areNumbers_52 : decode b_Md_areNumbers 52 = .ok (.iconst 0, 1) := by decide +kernel
theorem d_Md_areNumbers_53 : decode b_Md_areNumbers 53 = .ok (.ireturn, 1) := by decide +kernel
theorem d_Md_areNumbers_54 : decode b_Md_areNumbers 54 = .ok (.iload_n 3, 1) := by decide +kernel
theorem d_Md_areNumbers_55 : decode b_Md_areNumbers 55 = .ok (.ifCond .eq 13, 3) := by decide +kernel
theorem d_Md_areNumbers_58 : decode b_Md_areNumbers 58 = .ok (.aload_n 0, 1) := by decide +kernel
theorem d_Md_areNumbers_59 : decode b_Md_areNumbers 59 = .ok (.getfield 7, 3) := by decide +kernel
theorem d_Md_areNumbers_62 : decode b_Md_areNumbers 62 = .ok (.iload_n 1, 1) := by decide +kernel
theorem d_Md_areNumbers_63 : decode b_Md_areNumbers 63 = .ok (.iaload, 1) := by decide +kernel
theorem d_Md_areNumbers_64 : decode b_Md_areNumbers 64 = .ok (.iconst 1, 1) := by decide +kernel
theorem d_Md_areNumbers_65 : decode b_Md_areNumbers 65 = .ok (.if_icmp .le 22, 3) := by decide +kernel
theorem d_Md_areNumbers_68 : decode b_Md_areNumbers 68 = .ok (.iload 4, 2) := by decide +kernel
theorem d_Md_areNumbers_70 : decode b_Md_areNumbers 70 = .ok (.ifCond .eq 13, 3) := by decide +kernel
theorem d_Md_areNumbers_73 : decode b_Md_areNumbers 73 = .ok (.aload_n 0, 1) := by decide +kernel
theorem d_Md_areNumbers_74 : decode b_Md_areNumbers 74 = .ok (.getfield 7, 3) := by decide +kernel
theorem d_Md_areNumbers_77 : decode b_Md_areNumbers 77 = .ok (.iload_n 1, 1) := by decide +kernel
theorem d_Md_areNumbers_78 : decode b_Md_areNumbers 78 = .ok (.iaload, 1) := by decide +kernel
theorem d_Md_areNumbers_79 : decode b_Md_areNumbers 79 = .ok (.iconst 2, 1) := by decide +kernel
theorem d_Md_areNumbers_80 : decode b_Md_areNumbers 80 = .ok (.if_icmp .le 7, 3) := by decide +kernel
theorem d_Md_areNumbers_83 : decode b_Md_areNumbers 83 = .ok (.iconst 1, 1) := by decide +kernel
theorem d_Md_areNumbers_84 : decode b_Md_areNumbers 84 = .ok (.goto 4, 3) := by decide +kernel
theorem d_Md_areNumbers_87 : decode b_Md_areNumbers 87 = .ok (.iconst 0, 1) := by decide +kernel
theorem d_Md_areNumbers_88 : decode b_Md_areNumbers 88 = .ok (.ireturn, 1) := by decide +kernel
theorem d_Md_lay_0 : decode b_Md_lay 0 = .ok (.aload_n 0, 1) := by decide +kernel
theorem d_Md_lay_1 : decode b_Md_lay 1 = .ok (.iload_n 1, 1) := by decide +kernel
theorem d_Md_lay_2 : decode b_Md_lay 2 = .ok (.iload_n 2, 1) := by decide +kernel
theorem d_Md_lay_3 : decode b_Md_lay 3 = .ok (.iastore, 1) := by decide +kernel
theorem d_Md_lay_4 : decode b_Md_lay 4 = .ok (.aload_n 0, 1) := by decide +kernel
theorem d_Md_lay_5 : decode b_Md_lay 5 = .ok (.iload_n 1, 1) := by decide +kernel
theorem d_Md_lay_6 : decode b_Md_lay 6 = .ok (.iconst 1, 1) := by decide +kernel
theorem d_Md_lay_7 : decode b_Md_lay 7 = .ok (.iadd, 1) := by decide +kernel
theorem d_Md_lay_8 : decode b_Md_lay 8 = .ok (.iload_n 3, 1) := by decide +kernel
theorem d_Md_lay_9 : decode b_Md_lay 9 = .ok (.iastore, 1) := by decide +kernel
theorem d_Md_lay_10 : decode b_Md_lay 10 = .ok (.aload_n 0, 1) := by decide +kernel
theorem d_Md_lay_11 : decode b_Md_lay 11 = .ok (.iload_n 1, 1) := by decide +kernel
theorem d_Md_lay_12 : decode b_Md_lay 12 = .ok (.iconst 2, 1) := by decide +kernel
theorem d_Md_lay_13 : decode b_Md_lay 13 = .ok (.iadd, 1) := by decide +kernel
theorem d_Md_lay_14 : decode b_Md_lay 14 = .ok (.iload 4, 2) := by decide +kernel
theorem d_Md_lay_16 : decode b_Md_lay 16 = .ok (.iastore, 1) := by decide +kernel
theorem d_Md_lay_17 : decode b_Md_lay 17 = .ok (.aload_n 0, 1) := by decide +kernel
theorem d_Md_lay_18 : decode b_Md_lay 18 = .ok (.iload_n 1, 1) := by decide +kernel
theorem d_Md_lay_19 : decode b_Md_lay 19 = .ok (.iconst 3, 1) := by decide +kernel
theorem d_Md_lay_20 : decode b_Md_lay 20 = .ok (.iadd, 1) := by decide +kernel
theorem d_Md_lay_21 : decode b_Md_lay 21 = .ok (.iload 5, 2) := by decide +kernel
theorem d_Md_lay_23 : decode b_Md_lay 23 = .ok (.iastore, 1) := by decide +kernel
theorem d_Md_lay_24 : decode b_Md_lay 24 = .ok (.return_, 1) := by decide +kernel
theorem d_Md_way_0 : decode b_Md_way 0 = .ok (.aload_n 0, 1) := by decide +kernel
theorem d_Md_way_1 : decode b_Md_way 1 = .ok (.iload_n 1, 1) := by decide +kernel
theorem d_Md_way_2 : decode b_Md_way 2 = .ok (.invokevirtual 67, 3) := by decide +kernel
theorem d_Md_way_5 : decode b_Md_way 5 = .ok (.ifCond .ne 6, 3) := by decide +kernel
theorem d_Md_way_8 : decode b_Md_way 8 = .ok (.bipush (-2), 2) := by decide +kernel
theorem d_Md_way_10 : decode b_Md_way 10 = .ok (.ireturn, 1) := by decide +kernel
theorem d_Md_way_11 : decode b_Md_way 11 = .ok (.aload_n 0, 1) := by decide +kernel
theorem d_Md_way_12 : decode b_Md_way 12 = .ok (.getfield 13, 3) := by decide +kernel
theorem d_Md_way_15 : decode b_Md_way 15 = .ok (.iload_n 1, 1) := by decide +kernel
theorem d_Md_way_16 : decode b_Md_way 16 = .ok (.iaload, 1) := by decide +kernel
theorem d_Md_way_17 : decode b_Md_way 17 = .ok (.iconst 3, 1) := by decide +kernel
theorem d_Md_way_18 : decode b_Md_way 18 = .ok (.if_icmp .ne 6, 3) := by decide +kernel
theorem d_Md_way_21 : decode b_Md_way 21 = .ok (.bipush (-4), 2) := by decide +kernel
theorem d_Md_way_23 : decode b_Md_way 23 = .ok (.ireturn, 1) := by decide +kernel
theorem d_Md_way_24 : decode b_Md_way 24 = .ok (.iconst 3, 1) := by decide +kernel
theorem d_Md_way_25 : decode b_Md_way 25 = .ok (.iload_n 1, 1) := by decide +kernel
theorem d_Md_way_26 : decode b_Md_way 26 = .ok (.imul, 1) := by decide +kernel
theorem d_Md_way_27 : decode b_Md_way 27 = .ok (.aload_n 0, 1) := by decide +kernel
theorem d_Md_way_28 : decode b_Md_way 28 = .ok (.getfield 13, 3) := by decide +kernel
theorem d_Md_way_31 : decode b_Md_way 31 = .ok (.iload_n 1, 1) := by decide +kernel
theorem d_Md_way_32 : decode b_Md_way 32 = .ok (.iaload, 1) := by decide +kernel
theorem d_Md_way_33 : decode b_Md_way 33 = .ok (.iadd, 1) := by decide +kernel
theorem d_Md_way_34 : decode b_Md_way 34 = .ok (.istore_n 2, 1) := by decide +kernel
theorem d_Md_way_35 : decode b_Md_way 35 = .ok (.aload_n 0, 1) := by decide +kernel
theorem d_Md_way_36 : decode b_Md_way 36 = .ok (.getfield 22, 3) := by decide +kernel
theorem d_Md_way_39 : decode b_Md_way 39 = .ok (.iload_n 2, 1) := by decide +kernel
theorem d_Md_way_40 : decode b_Md_way 40 = .ok (.iconst 0, 1) := by decide +kernel
theorem d_Md_way_41 : decode b_Md_way 41 = .ok (.iastore, 1) := by decide +kernel
theorem d_Md_way_42 : decode b_Md_way 42 = .ok (.iconst 0, 1) := by decide +kernel
theorem d_Md_way_43 : decode b_Md_way 43 = .ok (.istore_n 3, 1) := by decide +kernel
theorem d_Md_way_44 : decode b_Md_way 44 = .ok (.iload_n 3, 1) := by decide +kernel
theorem d_Md_way_45 : decode b_Md_way 45 = .ok (.bipush 9, 2) := by decide +kernel
theorem d_Md_way_47 : decode b_Md_way 47 = .ok (.if_icmp .ge 31, 3) := by decide +kernel
theorem d_Md_way_50 : decode b_Md_way 50 = .ok (.aload_n 0, 1) := by decide +kernel
theorem d_Md_way_51 : decode b_Md_way 51 = .ok (.getfield 28, 3) := by decide +kernel
theorem d_Md_way_54 : decode b_Md_way 54 = .ok (.bipush 9, 2) := by decide +kernel
theorem d_Md_way_56 : decode b_Md_way 56 = .ok (.iload_n 2, 1) := by decide +kernel
theorem d_Md_way_57 : decode b_Md_way 57 = .ok (.imul, 1) := by decide +kernel
theorem d_Md_way_58 : decode b_Md_way 58 = .ok (.iload_n 3, 1) := by decide +kernel
theorem d_Md_way_59 : decode b_Md_way 59 = .ok (.iadd, 1) := by decide +kernel
theorem d_Md_way_60 : decode b_Md_way 60 = .ok (.iload_n 3, 1) := by decide +kernel
theorem d_Md_way_61 : decode b_Md_way 61 = .ok (.iconst 4, 1) := by decide +kernel
theorem d_Md_way_62 : decode b_Md_way 62 = .ok (.irem, 1) := by decide +kernel
theorem d_Md_way_63 : decode b_Md_way 63 = .ok (.ifCond .ne 7, 3) := by decide +kernel
theorem d_Md_way_66 : decode b_Md_way 66 = .ok (.iconst 1, 1) := by decide +kernel
theorem d_Md_way_67 : decode b_Md_way 67 = .ok (.goto 4, 3) := by decide +kernel
theorem d_Md_way_70 : decode b_Md_way 70 = .ok (.iconst 0, 1) := by decide +kernel
theorem d_Md_way_71 : decode b_Md_way 71 = .ok (.iastore, 1) := by decide +kernel
theorem d_Md_way_72 : decode b_Md_way 72 = .ok (.iinc 3 1, 3) := by decide +kernel
theorem d_Md_way_75 : decode b_Md_way 75 = .ok (.goto (-31), 3) := by decide +kernel
theorem d_Md_way_78 : decode b_Md_way 78 = .ok (.iconst 0, 1) := by decide +kernel
theorem d_Md_way_79 : decode b_Md_way 79 = .ok (.istore_n 3, 1) := by decide +kernel
theorem d_Md_way_80 : decode b_Md_way 80 = .ok (.iload_n 3, 1) := by decide +kernel
theorem d_Md_way_81 : decode b_Md_way 81 = .ok (.iconst 3, 1) := by decide +kernel
theorem d_Md_way_82 : decode b_Md_way 82 = .ok (.if_icmp .ge 20, 3) := by decide +kernel
theorem d_Md_way_85 : decode b_Md_way 85 = .ok (.aload_n 0, 1) := by decide +kernel
theorem d_Md_way_86 : decode b_Md_way 86 = .ok (.getfield 31, 3) := by decide +kernel
theorem d_Md_way_89 : decode b_Md_way 89 = .ok (.iconst 3, 1) := by decide +kernel
theorem d_Md_way_90 : decode b_Md_way 90 = .ok (.iload_n 2, 1) := by decide +kernel
theorem d_Md_way_91 : decode b_Md_way 91 = .ok (.imul, 1) := by decide +kernel
theorem d_Md_way_92 : decode b_Md_way 92 = .ok (.iload_n 3, 1) := by decide +kernel
theorem d_Md_way_93 : decode b_Md_way 93 = .ok (.iadd, 1) := by decide +kernel
theorem d_Md_way_94 : decode b_Md_way 94 = .ok (.iconst 0, 1) := by decide +kernel
theorem d_Md_way_95 : decode b_Md_way 95 = .ok (.iastore, 1) := by decide +kernel
theorem d_Md_way_96 : decode b_Md_way 96 = .ok (.iinc 3 1, 3) := by decide +kernel
theorem d_Md_way_99 : decode b_Md_way 99 = .ok (.goto (-19), 3) := by decide +kernel
theorem d_Md_way_102 : decode b_Md_way 102 = .ok (.aload_n 0, 1) := by decide +kernel
theorem d_Md_way_103 : decode b_Md_way 103 = .ok (.getfield 13, 3) := by decide +kernel
theorem d_Md_way_106 : decode b_Md_way 106 = .ok (.iload_n 1, 1) := by decide +kernel
theorem d_Md_way_107 : decode b_Md_way 107 = .ok (.dup2, 1) := by decide +kernel
theorem d_Md_way_108 : decode b_Md_way 108 = .ok (.iaload, 1) := by decide +kernel
theorem d_Md_way_109 : decode b_Md_way 109 = .ok (.iconst 1, 1) := by decide +kernel
theorem d_Md_way_110 : decode b_Md_way 110 = .ok (.iadd, 1) := by decide +kernel
theorem d_Md_way_111 : decode b_Md_way 111 = .ok (.iastore, 1) := by decide +kernel
theorem d_Md_way_112 : decode b_Md_way 112 = .ok (.aload_n 0, 1) := by decide +kernel
theorem d_Md_way_113 : decode b_Md_way 113 = .ok (.getfield 13, 3) := by decide +kernel
theorem d_Md_way_116 : decode b_Md_way 116 = .ok (.iload_n 1, 1) := by decide +kernel
theorem d_Md_way_117 : decode b_Md_way 117 = .ok (.iaload, 1) := by decide +kernel
theorem d_Md_way_118 : decode b_Md_way 118 = .ok (.iconst 1, 1) := by decide +kernel
theorem d_Md_way_119 : decode b_Md_way 119 = .ok (.isub, 1) := by decide +kernel
theorem d_Md_way_120 : decode b_Md_way 120 = .ok (.ireturn, 1) := by decide +kernel
theorem d_Md_row_0 : decode b_Md_row 0 = .ok (.aload_n 0, 1) := by decide +kernel
theorem d_Md_row_1 : decode b_Md_row 1 = .ok (.iload_n 1, 1) := by decide +kernel
theorem d_Md_row_2 : decode b_Md_row 2 = .ok (.iload_n 2, 1) := by decide +kernel
theorem d_Md_row_3 : decode b_Md_row 3 = .ok (.invokevirtual 92, 3) := by decide +kernel
theorem d_Md_row_6 : decode b_Md_row 6 = .ok (.ifCond .ne 6, 3) := by decide +kernel
theorem d_Md_row_9 : decode b_Md_row 9 = .ok (.bipush (-2), 2) := by decide +kernel
theorem d_Md_row_11 : decode b_Md_row 11 = .ok (.ireturn, 1) := by decide +kernel
theorem d_Md_row_12 : decode b_Md_row 12 = .ok (.aload_n 0, 1) := by decide +kernel
theorem d_Md_row_13 : decode b_Md_row 13 = .ok (.iload_n 1, 1) := by decide +kernel
theorem d_Md_row_14 : decode b_Md_row 14 = .ok (.iload_n 3, 1) := by decide +kernel
theorem d_Md_row_15 : decode b_Md_row 15 = .ok (.iload 4, 2) := by decide +kernel
theorem d_Md_row_17 : decode b_Md_row 17 = .ok (.iload 5, 2) := by decide +kernel
theorem d_Md_row_19 : decode b_Md_row 19 = .ok (.iload 6, 2) := by decide +kernel
theorem d_Md_row_21 : decode b_Md_row 21 = .ok (.invokevirtual 85, 3) := by decide +kernel
theorem d_Md_row_24 : decode b_Md_row 24 = .ok (.ifCond .ne 6, 3) := by decide +kernel
theorem d_Md_row_27 : decode b_Md_row 27 = .ok (.bipush (-3), 2) := by decide +kernel
theorem d_Md_row_29 : decode b_Md_row 29 = .ok (.ireturn, 1) := by decide +kernel
theorem d_Md_row_30 : decode b_Md_row 30 = .ok (.iconst 3, 1) := by decide +kernel
theorem d_Md_row_31 : decode b_Md_row 31 = .ok (.iload_n 1, 1) := by decide +kernel
theorem d_Md_row_32 : decode b_Md_row 32 = .ok (.imul, 1) := by decide +kernel
theorem d_Md_row_33 : decode b_Md_row 33 = .ok (.iload_n 2, 1) := by decide +kernel
theorem d_Md_row_34 : decode b_Md_row 34 = .ok (.iadd, 1) := by decide +kernel
theorem d_Md_row_35 : decode b_Md_row 35 = .ok (.istore 7, 2) := by decide +kernel
theorem d_Md_row_37 : decode b_Md_row 37 = .ok (.aload_n 0, 1) := by decide +kernel
theorem d_Md_row_38 : decode b_Md_row 38 = .ok (.getfield 22, 3) := by decide +kernel
theorem d_Md_row_41 : decode b_Md_row 41 = .ok (.iload 7, 2) := by decide +kernel
theorem d_Md_row_43 : decode b_Md_row 43 = .ok (.iaload, 1) := by decide +kernel
theorem d_Md_row_44 : decode b_Md_row 44 = .ok (.iconst 2, 1) := by decide +kernel
theorem d_Md_row_45 : decode b_Md_row 45 = .ok (.if_icmp .ne 6, 3) := by decide +kernel
theorem d_Md_row_48 : decode b_Md_row 48 = .ok (.bipush (-4), 2) := by decide +kernel
theorem d_Md_row_50 : decode b_Md_row 50 = .ok (.ireturn, 1) := by decide +kernel
theorem d_Md_row_51 : decode b_Md_row 51 = .ok (.aload_n 0, 1) := by decide +kernel
theorem d_Md_row_52 : decode b_Md_row 52 = .ok (.getfield 25, 3) := by decide +kernel
theorem d_Md_row_55 : decode b_Md_row 55 = .ok (.bipush 8, 2) := by decide +kernel
theorem d_Md_row_57 : decode b_Md_row 57 = .ok (.iload 7, 2) := by decide +kernel
theorem d_Md_row_59 : decode b_Md_row 59 = .ok (.imul, 1) := by decide +kernel
theorem d_Md_row_60 : decode b_Md_row 60 = .ok (.iconst 4, 1) := by decide +kernel
theorem d_Md_row_61 : decode b_Md_row 61 = .ok (.aload_n 0, 1) := by decide +kernel
theorem d_Md_row_62 : decode b_Md_row 62 = .ok (.getfield 22, 3) := by decide +kernel
theorem d_Md_row_65 : decode b_Md_row 65 = .ok (.iload 7, 2) := by decide +kernel
theorem d_Md_row_67 : decode b_Md_row 67 = .ok (.iaload, 1) := by decide +kernel
theorem d_Md_row_68 : decode b_Md_row 68 = .ok (.imul, 1) := by decide +kernel
theorem d_Md_row_69 : decode b_Md_row 69 = .ok (.iadd, 1) := by decide +kernel
theorem d_Md_row_70 : decode b_Md_row 70 = .ok (.iload_n 3, 1) := by decide +kernel
theorem d_Md_row_71 : decode b_Md_row 71 = .ok (.iload 4, 2) := by decide +kernel
theorem d_Md_row_73 : decode b_Md_row 73 = .ok (.iload 5, 2) := by decide +kernel
theorem d_Md_row_75 : decode b_Md_row 75 = .ok (.iload 6, 2) := by decide +kernel
theorem d_Md_row_77 : decode b_Md_row 77 = .ok (.invokestatic 88, 3) := by decide +kernel
theorem d_Md_row_80 : decode b_Md_row 80 = .ok (.aload_n 0, 1) := by decide +kernel
theorem d_Md_row_81 : decode b_Md_row 81 = .ok (.getfield 22, 3) := by decide +kernel
theorem d_Md_row_84 : decode b_Md_row 84 = .ok (.iload 7, 2) := by decide +kernel
theorem d_Md_row_86 : decode b_Md_row 86 = .ok (.dup2, 1) := by decide +kernel
theorem d_Md_row_87 : decode b_Md_row 87 = .ok (.iaload, 1) := by decide +kernel
theorem d_Md_row_88 : decode b_Md_row 88 = .ok (.iconst 1, 1) := by decide +kernel
theorem d_Md_row_89 : decode b_Md_row 89 = .ok (.iadd, 1) := by decide +kernel
theorem d_Md_row_90 : decode b_Md_row 90 = .ok (.iastore, 1) := by decide +kernel
theorem d_Md_row_91 : decode b_Md_row 91 = .ok (.aload_n 0, 1) := by decide +kernel
theorem d_Md_row_92 : decode b_Md_row 92 = .ok (.getfield 22, 3) := by decide +kernel
theorem d_Md_row_95 : decode b_Md_row 95 = .ok (.iload 7, 2) := by decide +kernel
theorem d_Md_row_97 : decode b_Md_row 97 = .ok (.iaload, 1) := by decide +kernel
theorem d_Md_row_98 : decode b_Md_row 98 = .ok (.ireturn, 1) := by decide +kernel
theorem d_Md_isWay_0 : decode b_Md_isWay 0 = .ok (.aload_n 0, 1) := by decide +kernel
theorem d_Md_isWay_1 : decode b_Md_isWay 1 = .ok (.iload_n 1, 1) := by decide +kernel
theorem d_Md_isWay_2 : decode b_Md_isWay 2 = .ok (.invokevirtual 67, 3) := by decide +kernel
theorem d_Md_isWay_5 : decode b_Md_isWay 5 = .ok (.ifCond .eq 23, 3) := by decide +kernel
theorem d_Md_isWay_8 : decode b_Md_isWay 8 = .ok (.iload_n 2, 1) := by decide +kernel
theorem d_Md_isWay_9 : decode b_Md_isWay 9 = .ok (.iconst 0, 1) := by decide +kernel
theorem d_Md_isWay_10 : decode b_Md_isWay 10 = .ok (.aload_n 0, 1) := by decide +kernel
theorem d_Md_isWay_11 : decode b_Md_isWay 11 = .ok (.getfield 13, 3) := by decide +kernel
theorem d_Md_isWay_14 : decode b_Md_isWay 14 = .ok (.iload_n 1, 1) := by decide +kernel
theorem d_Md_isWay_15 : decode b_Md_isWay 15 = .ok (.iaload, 1) := by decide +kernel
theorem d_Md_isWay_16 : decode b_Md_isWay 16 = .ok (.iconst 1, 1) := by decide +kernel
theorem d_Md_isWay_17 : decode b_Md_isWay 17 = .ok (.isub, 1) := by decide +kernel
theorem d_Md_isWay_18 : decode b_Md_isWay 18 = .ok (.invokestatic 63, 3) := by decide +kernel
theorem d_Md_isWay_21 : decode b_Md_isWay 21 = .ok (.ifCond .eq 7, 3) := by decide +kernel
theorem d_Md_isWay_24 : decode b_Md_isWay 24 = .ok (.iconst 1, 1) := by decide +kernel
theorem d_Md_isWay_25 : decode b_Md_isWay 25 = .ok (.goto 4, 3) := by decide +kernel
theorem d_Md_isWay_28 : decode b_Md_isWay 28 = .ok (.iconst 0, 1) := by decide +kernel
theorem d_Md_isWay_29 : decode b_Md_isWay 29 = .ok (.ireturn, 1) := by decide +kernel
theorem d_Md_factor_0 : decode b_Md_factor 0 = .ok (.aload_n 0, 1) := by decide +kernel
theorem d_Md_factor_1 : decode b_Md_factor 1 = .ok (.iload_n 1, 1) := by decide +kernel
theorem d_Md_factor_2 : decode b_Md_factor 2 = .ok (.iload_n 2, 1) := by decide +kernel
theorem d_Md_factor_3 : decode b_Md_factor 3 = .ok (.invokevirtual 92, 3) := by decide +kernel
theorem d_Md_factor_6 : decode b_Md_factor 6 = .ok (.ifCond .eq 22, 3) := by decide +kernel
theorem d_Md_factor_9 : decode b_Md_factor 9 = .ok (.aload_n 0, 1) := by decide +kernel
theorem d_Md_factor_10 : decode b_Md_factor 10 = .ok (.iload_n 1, 1) := by decide +kernel
theorem d_Md_factor_11 : decode b_Md_factor 11 = .ok (.iload_n 3, 1) := by decide +kernel
theorem d_Md_factor_12 : decode b_Md_factor 12 = .ok (.invokevirtual 96, 3) := by decide +kernel
theorem d_Md_factor_15 : decode b_Md_factor 15 = .ok (.ifCond .eq 13, 3) := by decide +kernel
theorem d_Md_factor_18 : decode b_Md_factor 18 = .ok (.aload_n 0, 1) := by decide +kernel
theorem d_Md_factor_19 : decode b_Md_factor 19 = .ok (.iload_n 1, 1) := by decide +kernel
theorem d_Md_factor_20 : decode b_Md_factor 20 = .ok (.iload 4, 2) := by decide +kernel
theorem d_Md_factor_22 : decode b_Md_factor 22 = .ok (.invokevirtual 96, 3) := by decide +kernel
theorem d_Md_factor_25 : decode b_Md_factor 25 = .ok (.ifCond .ne 6, 3) := by decide +kernel
theorem d_Md_factor_28 : decode b_Md_factor 28 = .ok (.bipush (-2), 2) := by decide +kernel
theorem d_Md_factor_30 : decode b_Md_factor 30 = .ok (.ireturn, 1) := by decide +kernel
theorem d_Md_factor_31 : decode b_Md_factor 31 = .ok (.iload 5, 2) := by decide +kernel
theorem d_Md_factor_33 : decode b_Md_factor 33 = .ok (.bipush (-3), 2) := by decide +kernel
theorem d_Md_factor_35 : decode b_Md_factor 35 = .ok (.iconst 3, 1) := by decide +kernel
theorem d_Md_factor_36 : decode b_Md_factor 36 = .ok (.invokestatic 63, 3) := by decide +kernel
theorem d_Md_factor_39 : decode b_Md_factor 39 = .ok (.ifCond .ne 6, 3) := by decide +kernel
theorem d_Md_factor_42 : decode b_Md_factor 42 = .ok (.bipush (-3), 2) := by decide +kernel
theorem d_Md_factor_44 : decode b_Md_factor 44 = .ok (.ireturn, 1) := by decide +kernel
theorem d_Md_factor_45 : decode b_Md_factor 45 = .ok (.bipush 9, 2) := by decide +kernel
theorem d_Md_factor_47 : decode b_Md_factor 47 = .ok (.iconst 3, 1) := by decide +kernel
theorem d_Md_factor_48 : decode b_Md_factor 48 = .ok (.iload_n 1, 1) := by decide +kernel
theorem d_Md_factor_49 : decode b_Md_factor 49 = .ok (.imul, 1) := by decide +kernel
theorem d_Md_factor_50 : decode b_Md_factor 50 = .ok (.iload_n 2, 1) := by decide +kernel
theorem d_Md_factor_51 : decode b_Md_factor 51 = .ok (.iadd, 1) := by decide +kernel
theorem d_Md_factor_52 : decode b_Md_factor 52 = .ok (.imul, 1) := by decide +kernel
theorem d_Md_factor_53 : decode b_Md_factor 53 = .ok (.iconst 3, 1) := by decide +kernel
theorem d_Md_factor_54 : decode b_Md_factor 54 = .ok (.iload_n 3, 1) := by decide +kernel
theorem d_Md_factor_55 : decode b_Md_factor 55 = .ok (.imul, 1) := by decide +kernel
theorem d_Md_factor_56 : decode b_Md_factor 56 = .ok (.iadd, 1) := by decide +kernel
theorem d_Md_factor_57 : decode b_Md_factor 57 = .ok (.iload 4, 2) := by decide +kernel
theorem d_Md_factor_59 : decode b_Md_factor 59 = .ok (.iadd, 1) := by decide +kernel
theorem d_Md_factor_60 : decode b_Md_factor 60 = .ok (.istore 6, 2) := by decide +kernel
theorem d_Md_factor_62 : decode b_Md_factor 62 = .ok (.aload_n 0, 1) := by decide +kernel
theorem d_Md_factor_63 : decode b_Md_factor 63 = .ok (.getfield 28, 3) := by decide +kernel
theorem d_Md_factor_66 : decode b_Md_factor 66 = .ok (.iload 6, 2) := by decide +kernel
theorem d_Md_factor_68 : decode b_Md_factor 68 = .ok (.iaload, 1) := by decide +kernel
theorem d_Md_factor_69 : decode b_Md_factor 69 = .ok (.istore 7, 2) := by decide +kernel
theorem d_Md_factor_71 : decode b_Md_factor 71 = .ok (.aload_n 0, 1) := by decide +kernel
theorem d_Md_factor_72 : decode b_Md_factor 72 = .ok (.getfield 28, 3) := by decide +kernel
theorem d_Md_factor_75 : decode b_Md_factor 75 = .ok (.iload 6, 2) := by decide +kernel
theorem d_Md_factor_77 : decode b_Md_factor 77 = .ok (.iload 5, 2) := by decide +kernel
theorem d_Md_factor_79 : decode b_Md_factor 79 = .ok (.iastore, 1) := by decide +kernel
theorem d_Md_factor_80 : decode b_Md_factor 80 = .ok (.iload 7, 2) := by decide +kernel
theorem d_Md_factor_82 : decode b_Md_factor 82 = .ok (.iconst 3, 1) := by decide +kernel
theorem d_Md_factor_83 : decode b_Md_factor 83 = .ok (.iadd, 1) := by decide +kernel
theorem d_Md_factor_84 : decode b_Md_factor 84 = .ok (.ireturn, 1) := by decide +kernel
theorem d_Md_isName_0 : decode b_Md_isName 0 = .ok (.aload_n 0, 1) := by decide +kernel
theorem d_Md_isName_1 : decode b_Md_isName 1 = .ok (.iload_n 1, 1) := by decide +kernel
theorem d_Md_isName_2 : decode b_Md_isName 2 = .ok (.invokevirtual 67, 3) := by decide +kernel
theorem d_Md_isName_5 : decode b_Md_isName 5 = .ok (.ifCond .eq 23, 3) := by decide +kernel
theorem d_Md_isName_8 : decode b_Md_isName 8 = .ok (.iload_n 2, 1) := by decide +kernel
theorem d_Md_isName_9 : decode b_Md_isName 9 = .ok (.iconst 0, 1) := by decide +kernel
theorem d_Md_isName_10 : decode b_Md_isName 10 = .ok (.aload_n 0, 1) := by decide +kernel
theorem d_Md_isName_11 : decode b_Md_isName 11 = .ok (.getfield 7, 3) := by decide +kernel
theorem d_Md_isName_14 : decode b_Md_isName 14 = .ok (.iload_n 1, 1) := by decide +kernel
theorem d_Md_isName_15 : decode b_Md_isName 15 = .ok (.iaload, 1) := by decide +kernel
theorem d_Md_isName_16 : decode b_Md_isName 16 = .ok (.iconst 1, 1) := by decide +kernel
theorem d_Md_isName_17 : decode b_Md_isName 17 = .ok (.isub, 1) := by decide +kernel
theorem d_Md_isName_18 : decode b_Md_isName 18 = .ok (.invokestatic 63, 3) := by decide +kernel
theorem d_Md_isName_21 : decode b_Md_isName 21 = .ok (.ifCond .eq 7, 3) := by decide +kernel
theorem d_Md_isName_24 : decode b_Md_isName 24 = .ok (.iconst 1, 1) := by decide +kernel
theorem d_Md_isName_25 : decode b_Md_isName 25 = .ok (.goto 4, 3) := by decide +kernel
theorem d_Md_isName_28 : decode b_Md_isName 28 = .ok (.iconst 0, 1) := by decide +kernel
theorem d_Md_isName_29 : decode b_Md_isName 29 = .ok (.ireturn, 1) := by decide +kernel
theorem d_Md_constant_0 : decode b_Md_constant 0 = .ok (.aload_n 0, 1) := by decide +kernel
theorem d_Md_constant_1 : decode b_Md_constant 1 = .ok (.iload_n 1, 1) := by decide +kernel
theorem d_Md_constant_2 : decode b_Md_constant 2 = .ok (.iload_n 2, 1) := by decide +kernel
theorem d_Md_constant_3 : decode b_Md_constant 3 = .ok (.invokevirtual 92, 3) := by decide +kernel
theorem d_Md_constant_6 : decode b_Md_constant 6 = .ok (.ifCond .eq 12, 3) := by decide +kernel
theorem d_Md_constant_9 : decode b_Md_constant 9 = .ok (.aload_n 0, 1) := by decide +kernel
theorem d_Md_constant_10 : decode b_Md_constant 10 = .ok (.iload_n 1, 1) := by decide +kernel
theorem d_Md_constant_11 : decode b_Md_constant 11 = .ok (.iload_n 3, 1) := by decide +kernel
theorem d_Md_constant_12 : decode b_Md_constant 12 = .ok (.invokevirtual 96, 3) := by decide +kernel
theorem d_Md_constant_15 : decode b_Md_constant 15 = .ok (.ifCond .ne 6, 3) := by decide +kernel
theorem d_Md_constant_18 : decode b_Md_constant 18 = .ok (.bipush (-2), 2) := by decide +kernel
theorem d_Md_constant_20 : decode b_Md_constant 20 = .ok (.ireturn, 1) := by decide +kernel
theorem d_Md_constant_21 : decode b_Md_constant 21 = .ok (.iload 4, 2) := by decide +kernel
theorem d_Md_constant_23 : decode b_Md_constant 23 = .ok (.bipush (-99), 2) := by decide +kernel
theorem d_Md_constant_25 : decode b_Md_constant 25 = .ok (.bipush 99, 2) := by decide +kernel
theorem d_Md_constant_27 : decode b_Md_constant 27 = .ok (.invokestatic 63, 3) := by decide +kernel
theorem d_Md_constant_30 : decode b_Md_constant 30 = .ok (.ifCond .ne 6, 3) := by decide +kernel
theorem d_Md_constant_33 : decode b_Md_constant 33 = .ok (.bipush (-3), 2) := by decide +kernel
theorem d_Md_constant_35 : decode b_Md_constant 35 = .ok (.ireturn, 1) := by decide +kernel
theorem d_Md_constant_36 : decode b_Md_constant 36 = .ok (.iconst 3, 1) := by decide +kernel
theorem d_Md_constant_37 : decode b_Md_constant 37 = .ok (.iconst 3, 1) := by decide +kernel
theorem d_Md_constant_38 : decode b_Md_constant 38 = .ok (.iload_n 1, 1) := by decide +kernel
theorem d_Md_constant_39 : decode b_Md_constant 39 = .ok (.imul, 1) := by decide +kernel
theorem d_Md_constant_40 : decode b_Md_constant 40 = .ok (.iload_n 2, 1) := by decide +kernel
theorem d_Md_constant_41 : decode b_Md_constant 41 = .ok (.iadd, 1) := by decide +kernel
theorem d_Md_constant_42 : decode b_Md_constant 42 = .ok (.imul, 1) := by decide +kernel
theorem d_Md_constant_43 : decode b_Md_constant 43 = .ok (.iload_n 3, 1) := by decide +kernel
theorem d_Md_constant_44 : decode b_Md_constant 44 = .ok (.iadd, 1) := by decide +kernel
theorem d_Md_constant_45 : decode b_Md_constant 45 = .ok (.istore 5, 2) := by decide +kernel
theorem d_Md_constant_47 : decode b_Md_constant 47 = .ok (.aload_n 0, 1) := by decide +kernel
theorem d_Md_constant_48 : decode b_Md_constant 48 = .ok (.getfield 31, 3) := by decide +kernel
theorem d_Md_constant_51 : decode b_Md_constant 51 = .ok (.iload 5, 2) := by decide +kernel
theorem d_Md_constant_53 : decode b_Md_constant 53 = .ok (.iaload, 1) := by decide +kernel
theorem d_Md_constant_54 : decode b_Md_constant 54 = .ok (.istore 6, 2) := by decide +kernel
theorem d_Md_constant_56 : decode b_Md_constant 56 = .ok (.aload_n 0, 1) := by decide +kernel
theorem d_Md_constant_57 : decode b_Md_constant 57 = .ok (.getfield 31, 3) := by decide +kernel
theorem d_Md_constant_60 : decode b_Md_constant 60 = .ok (.iload 5, 2) := by decide +kernel
theorem d_Md_constant_62 : decode b_Md_constant 62 = .ok (.iload 4, 2) := by decide +kernel
theorem d_Md_constant_64 : decode b_Md_constant 64 = .ok (.iastore, 1) := by decide +kernel
theorem d_Md_constant_65 : decode b_Md_constant 65 = .ok (.iload 6, 2) := by decide +kernel
theorem d_Md_constant_67 : decode b_Md_constant 67 = .ok (.bipush 99, 2) := by decide +kernel
theorem d_Md_constant_69 : decode b_Md_constant 69 = .ok (.iadd, 1) := by decide +kernel
theorem d_Md_constant_70 : decode b_Md_constant 70 = .ok (.ireturn, 1) := by decide +kernel
theorem d_Md_told_0 : decode b_Md_told 0 = .ok (.aload_n 0, 1) := by decide +kernel
theorem d_Md_told_1 : decode b_Md_told 1 = .ok (.iload_n 1, 1) := by decide +kernel
theorem d_Md_told_2 : decode b_Md_told 2 = .ok (.invokevirtual 67, 3) := by decide +kernel
theorem d_Md_told_5 : decode b_Md_told 5 = .ok (.ifCond .ne 6, 3) := by decide +kernel
theorem d_Md_told_8 : decode b_Md_told 8 = .ok (.bipush (-2), 2) := by decide +kernel
theorem d_Md_told_10 : decode b_Md_told 10 = .ok (.ireturn, 1) := by decide +kernel
theorem d_Md_told_11 : decode b_Md_told 11 = .ok (.iload_n 2, 1) := by decide +kernel
theorem d_Md_told_12 : decode b_Md_told 12 = .ok (.ifCond .ne 12, 3) := by decide +kernel
theorem d_Md_told_15 : decode b_Md_told 15 = .ok (.aload_n 0, 1) := by decide +kernel
theorem d_Md_told_16 : decode b_Md_told 16 = .ok (.getfield 7, 3) := by decide +kernel
theorem d_Md_told_19 : decode b_Md_told 19 = .ok (.iload_n 1, 1) := by decide +kernel
theorem d_Md_told_20 : decode b_Md_told 20 = .ok (.iaload, 1) := by decide +kernel
theorem d_Md_told_21 : decode b_Md_told 21 = .ok (.goto 33, 3) := by decide +kernel
theorem d_Md_told_24 : decode b_Md_told 24 = .ok (.iload_n 2, 1) := by decide +kernel
theorem d_Md_told_25 : decode b_Md_told 25 = .ok (.iconst 1, 1) := by decide +kernel
theorem d_Md_told_26 : decode b_Md_told 26 = .ok (.if_icmp .ne 12, 3) := by decide +kernel
theorem d_Md_told_29 : decode b_Md_told 29 = .ok (.aload_n 0, 1) := by decide +kernel
theorem d_Md_told_30 : decode b_Md_told 30 = .ok (.getfield 13, 3) := by decide +kernel
theorem d_Md_told_33 : decode b_Md_told 33 = .ok (.iload_n 1, 1) := by decide +kernel
theorem d_Md_told_34 : decode b_Md_told 34 = .ok (.iaload, 1) := by decide +kernel
theorem d_Md_told_35 : decode b_Md_told 35 = .ok (.goto 19, 3) := by decide +kernel
theorem d_Md_told_38 : decode b_Md_told 38 = .ok (.iload_n 2, 1) := by decide +kernel
theorem d_Md_told_39 : decode b_Md_told 39 = .ok (.iconst 2, 1) := by decide +kernel
theorem d_Md_told_40 : decode b_Md_told 40 = .ok (.if_icmp .ne 12, 3) := by decide +kernel
theorem d_Md_told_43 : decode b_Md_told 43 = .ok (.aload_n 0, 1) := by decide +kernel
theorem d_Md_told_44 : decode b_Md_told 44 = .ok (.getfield 16, 3) := by decide +kernel
theorem d_Md_told_47 : decode b_Md_told 47 = .ok (.iload_n 1, 1) := by decide +kernel
theorem d_Md_told_48 : decode b_Md_told 48 = .ok (.iaload, 1) := by decide +kernel
theorem d_Md_told_49 : decode b_Md_told 49 = .ok (.goto 5, 3) := by decide +kernel
theorem d_Md_told_52 : decode b_Md_told 52 = .ok (.bipush (-3), 2) := by decide +kernel
theorem d_Md_told_54 : decode b_Md_told 54 = .ok (.ireturn, 1) := by decide +kernel
theorem d_Md_empty_0 : decode b_Md_empty 0 = .ok (.aload_n 0, 1) := by decide +kernel
theorem d_Md_empty_1 : decode b_Md_empty 1 = .ok (.iload_n 1, 1) := by decide +kernel
theorem d_Md_empty_2 : decode b_Md_empty 2 = .ok (.iload_n 2, 1) := by decide +kernel
theorem d_Md_empty_3 : decode b_Md_empty 3 = .ok (.invokevirtual 92, 3) := by decide +kernel
theorem d_Md_empty_6 : decode b_Md_empty 6 = .ok (.ifCond .ne 6, 3) := by decide +kernel
theorem d_Md_empty_9 : decode b_Md_empty 9 = .ok (.bipush (-2), 2) := by decide +kernel
theorem d_Md_empty_11 : decode b_Md_empty 11 = .ok (.ireturn, 1) := by decide +kernel
theorem d_Md_empty_12 : decode b_Md_empty 12 = .ok (.aload_n 0, 1) := by decide +kernel
theorem d_Md_empty_13 : decode b_Md_empty 13 = .ok (.iload_n 1, 1) := by decide +kernel
theorem d_Md_empty_14 : decode b_Md_empty 14 = .ok (.iload_n 2, 1) := by decide +kernel
theorem d_Md_empty_15 : decode b_Md_empty 15 = .ok (.iconst 0, 1) := by decide +kernel
theorem d_Md_empty_16 : decode b_Md_empty 16 = .ok (.invokevirtual 174, 3) := by decide +kernel
theorem d_Md_empty_19 : decode b_Md_empty 19 = .ok (.aload_n 0, 1) := by decide +kernel
theorem d_Md_empty_20 : decode b_Md_empty 20 = .ok (.invokevirtual 178, 3) := by decide +kernel
theorem d_Md_empty_23 : decode b_Md_empty 23 = .ok (.ifCond .eq 7, 3) := by decide +kernel
theorem d_Md_empty_26 : decode b_Md_empty 26 = .ok (.iconst 1, 1) := by decide +kernel
theorem d_Md_empty_27 : decode b_Md_empty 27 = .ok (.goto 4, 3) := by decide +kernel
theorem d_Md_empty_30 : decode b_Md_empty 30 = .ok (.iconst 0, 1) := by decide +kernel
theorem d_Md_empty_31 : decode b_Md_empty 31 = .ok (.ireturn, 1) := by decide +kernel
theorem d_Md_space_0 : decode b_Md_space 0 = .ok (.aload_n 0, 1) := by decide +kernel
theorem d_Md_space_1 : decode b_Md_space 1 = .ok (.iconst 0, 1) := by decide +kernel
theorem d_Md_space_2 : decode b_Md_space 2 = .ok (.putfield 99, 3) := by decide +kernel
theorem d_Md_space_5 : decode b_Md_space 5 = .ok (.iconst 0, 1) := by decide +kernel
theorem d_Md_space_6 : decode b_Md_space 6 = .ok (.istore 4, 2) := by decide +kernel
theorem d_Md_space_8 : decode b_Md_space 8 = .ok (.iload 4, 2) := by decide +kernel
theorem d_Md_space_10 : decode b_Md_space 10 = .ok (.aload_n 0, 1) := by decide +kernel
theorem d_Md_space_11 : decode b_Md_space 11 = .ok (.getfield 16, 3) := by decide +kernel
theorem d_Md_space_14 : decode b_Md_space 14 = .ok (.iload_n 1, 1) := by decide +kernel
theorem d_Md_space_15 : decode b_Md_space 15 = .ok (.iaload, 1) := by decide +kernel
theorem d_Md_space_16 : decode b_Md_space 16 = .ok (.if_icmp .ge 62, 3) := by decide +kernel
theorem d_Md_space_19 : decode b_Md_space 19 = .ok (.bipush 16, 2) := by decide +kernel
theorem d_Md_space_21 : decode b_Md_space 21 = .ok (.iload_n 1, 1) := by decide +kernel
theorem d_Md_space_22 : decode b_Md_space 22 = .ok (.imul, 1) := by decide +kernel
theorem d_Md_space_23 : decode b_Md_space 23 = .ok (.iconst 4, 1) := by decide +kernel
theorem d_Md_space_24 : decode b_Md_space 24 = .ok (.iload 4, 2) := by decide +kernel
theorem d_Md_space_26 : decode b_Md_space 26 = .ok (.imul, 1) := by decide +kernel
theorem d_Md_space_27 : decode b_Md_space 27 = .ok (.iadd, 1) := by decide +kernel
theorem d_Md_space_28 : decode b_Md_space 28 = .ok (.istore 5, 2) := by decide +kernel
theorem d_Md_space_30 : decode b_Md_space 30 = .ok (.aload_n 0, 1) := by decide +kernel
theorem d_Md_space_31 : decode b_Md_space 31 = .ok (.aload_n 0, 1) := by decide +kernel
theorem d_Md_space_32 : decode b_Md_space 32 = .ok (.getfield 19, 3) := by decide +kernel
theorem d_Md_space_35 : decode b_Md_space 35 = .ok (.iload 5, 2) := by decide +kernel
theorem d_Md_space_37 : decode b_Md_space 37 = .ok (.iaload, 1) := by decide +kernel
theorem d_Md_space_38 : decode b_Md_space 38 = .ok (.i2l, 1) := by decide +kernel
theorem d_Md_space_39 : decode b_Md_space 39 = .ok (.aload_n 0, 1) := by decide +kernel
theorem d_Md_space_40 : decode b_Md_space 40 = .ok (.getfield 19, 3) := by decide +kernel
theorem d_Md_space_43 : decode b_Md_space 43 = .ok (.iload 5, 2) := by decide +kernel
theorem d_Md_space_45 : decode b_Md_space 45 = .ok (.iconst 1, 1) := by decide +kernel
theorem d_Md_space_46 : decode b_Md_space 46 = .ok (.iadd, 1) := by decide +kernel
theorem d_Md_space_47 : decode b_Md_space 47 = .ok (.iaload, 1) := by decide +kernel
theorem d_Md_space_48 : decode b_Md_space 48 = .ok (.i2l, 1) := by decide +kernel
theorem d_Md_space_49 : decode b_Md_space 49 = .ok (.aload_n 0, 1) := by decide +kernel
theorem d_Md_space_50 : decode b_Md_space 50 = .ok (.getfield 19, 3) := by decide +kernel
theorem d_Md_space_53 : decode b_Md_space 53 = .ok (.iload 5, 2) := by decide +kernel
theorem d_Md_space_55 : decode b_Md_space 55 = .ok (.iconst 2, 1) := by decide +kernel
theorem d_Md_space_56 : decode b_Md_space 56 = .ok (.iadd, 1) := by decide +kernel
theorem d_Md_space_57 : decode b_Md_space 57 = .ok (.iaload, 1) := by decide +kernel
theorem d_Md_space_58 : decode b_Md_space 58 = .ok (.i2l, 1) := by decide +kernel
theorem d_Md_space_59 : decode b_Md_space 59 = .ok (.aload_n 0, 1) := by decide +kernel
theorem d_Md_space_60 : decode b_Md_space 60 = .ok (.getfield 19, 3) := by decide +kernel
theorem d_Md_space_63 : decode b_Md_space 63 = .ok (.iload 5, 2) := by decide +kernel
theorem d_Md_space_65 : decode b_Md_space 65 = .ok (.iconst 3, 1) := by decide +kernel
theorem d_Md_space_66 : decode b_Md_space 66 = .ok (.iadd, 1) := by decide +kernel
theorem d_Md_space_67 : decode b_Md_space 67 = .ok (.iaload, 1) := by decide +kernel
theorem d_Md_space_68 : decode b_Md_space 68 = .ok (.i2l, 1) := by decide +kernel
theorem d_Md_space_69 : decode b_Md_space 69 = .ok (.invokevirtual 102, 3) := by decide +kernel
theorem d_Md_space_72 : decode b_Md_space 72 = .ok (.iinc 4 1, 3) := by decide +kernel
theorem d_Md_space_75 : decode b_Md_space 75 = .ok (.goto (-67), 3) := by decide +kernel
theorem d_Md_space_78 : decode b_Md_space 78 = .ok (.iconst 3, 1) := by decide +kernel
theorem d_Md_space_79 : decode b_Md_space 79 = .ok (.iload_n 1, 1) := by decide +kernel
theorem d_Md_space_80 : decode b_Md_space 80 = .ok (.imul, 1) := by decide +kernel
theorem d_Md_space_81 : decode b_Md_space 81 = .ok (.iload_n 2, 1) := by decide +kernel
theorem d_Md_space_82 : decode b_Md_space 82 = .ok (.iadd, 1) := by decide +kernel
theorem d_Md_space_83 : decode b_Md_space 83 = .ok (.istore 4, 2) := by decide +kernel
theorem d_Md_space_85 : decode b_Md_space 85 = .ok (.iconst 0, 1) := by decide +kernel
theorem d_Md_space_86 : decode b_Md_space 86 = .ok (.istore 5, 2) := by decide +kernel
theorem d_Md_space_88 : decode b_Md_space 88 = .ok (.iload 5, 2) := by decide +kernel
theorem d_Md_space_90 : decode b_Md_space 90 = .ok (.aload_n 0, 1) := by decide +kernel
theorem d_Md_space_91 : decode b_Md_space 91 = .ok (.getfield 22, 3) := by decide +kernel
theorem d_Md_space_94 : decode b_Md_space 94 = .ok (.iload 4, 2) := by decide +kernel
theorem d_Md_space_96 : decode b_Md_space 96 = .ok (.iaload, 1) := by decide +kernel
theorem d_Md_space_97 : decode b_Md_space 97 = .ok (.if_icmp .ge 63, 3) := by decide +kernel
theorem d_Md_space_100 : decode b_Md_space 100 = .ok (.bipush 8, 2) := by decide +kernel
theorem d_Md_space_102 : decode b_Md_space 102 = .ok (.iload 4, 2) := by decide +kernel
theorem d_Md_space_104 : decode b_Md_space 104 = .ok (.imul, 1) := by decide +kernel
theorem d_Md_space_105 : decode b_Md_space 105 = .ok (.iconst 4, 1) := by decide +kernel
theorem d_Md_space_106 : decode b_Md_space 106 = .ok (.iload 5, 2) := by decide +kernel
theorem d_Md_space_108 : decode b_Md_space 108 = .ok (.imul, 1) := by decide +kernel
theorem d_Md_space_109 : decode b_Md_space 109 = .ok (.iadd, 1) := by decide +kernel
theorem d_Md_space_110 : decode b_Md_space 110 = .ok (.istore 6, 2) := by decide +kernel
theorem d_Md_space_112 : decode b_Md_space 112 = .ok (.aload_n 0, 1) := by decide +kernel
theorem d_Md_space_113 : decode b_Md_space 113 = .ok (.aload_n 0, 1) := by decide +kernel
theorem d_Md_space_114 : decode b_Md_space 114 = .ok (.getfield 25, 3) := by decide +kernel
theorem d_Md_space_117 : decode b_Md_space 117 = .ok (.iload 6, 2) := by decide +kernel
theorem d_Md_space_119 : decode b_Md_space 119 = .ok (.iaload, 1) := by decide +kernel
theorem d_Md_space_120 : decode b_Md_space 120 = .ok (.i2l, 1) := by decide +kernel
theorem d_Md_space_121 : decode b_Md_space 121 = .ok (.aload_n 0, 1) := by decide +kernel
