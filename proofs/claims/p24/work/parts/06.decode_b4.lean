theorem d_FT_ring_76 : decode b_FT_ring 76 = .ok (.iload 5, 2) := by decide +kernel
theorem d_FT_ring_78 : decode b_FT_ring 78 = .ok (.if_icmp .gt 41, 3) := by decide +kernel
theorem d_FT_ring_81 : decode b_FT_ring 81 = .ok (.aload_n 0, 1) := by decide +kernel
theorem d_FT_ring_82 : decode b_FT_ring 82 = .ok (.aload_n 3, 1) := by decide +kernel
theorem d_FT_ring_83 : decode b_FT_ring 83 = .ok (.iload 6, 2) := by decide +kernel
theorem d_FT_ring_85 : decode b_FT_ring 85 = .ok (.iload 7, 2) := by decide +kernel
theorem d_FT_ring_87 : decode b_FT_ring 87 = .ok (.iload 8, 2) := by decide +kernel
theorem d_FT_ring_89 : decode b_FT_ring 89 = .ok (.invokevirtual 184, 3) := by decide +kernel
theorem d_FT_ring_92 : decode b_FT_ring 92 = .ok (.istore 9, 2) := by decide +kernel
theorem d_FT_ring_94 : decode b_FT_ring 94 = .ok (.iload 9, 2) := by decide +kernel
theorem d_FT_ring_96 : decode b_FT_ring 96 = .ok (.ifCond .le 17, 3) := by decide +kernel
theorem d_FT_ring_99 : decode b_FT_ring 99 = .ok (.aload_n 0, 1) := by decide +kernel
theorem d_FT_ring_100 : decode b_FT_ring 100 = .ok (.getfield 38, 3) := by decide +kernel
theorem d_FT_ring_103 : decode b_FT_ring 103 = .ok (.aload_n 3, 1) := by decide +kernel
theorem d_FT_ring_104 : decode b_FT_ring 104 = .ok (.getfield 168, 3) := by decide +kernel
theorem d_FT_ring_107 : decode b_FT_ring 107 = .ok (.invokestatic 188, 3) := by decide +kernel
theorem d_FT_ring_110 : decode b_FT_ring 110 = .ok (.iload 9, 2) := by decide +kernel
theorem d_FT_ring_112 : decode b_FT_ring 112 = .ok (.ireturn, 1) := by decide +kernel
theorem d_FT_ring_113 : decode b_FT_ring 113 = .ok (.iinc 8 1, 3) := by decide +kernel
theorem d_FT_ring_116 : decode b_FT_ring 116 = .ok (.goto (-42), 3) := by decide +kernel
theorem d_FT_ring_119 : decode b_FT_ring 119 = .ok (.iinc 7 1, 3) := by decide +kernel
theorem d_FT_ring_122 : decode b_FT_ring 122 = .ok (.goto (-60), 3) := by decide +kernel
theorem d_FT_ring_125 : decode b_FT_ring 125 = .ok (.iinc 6 1, 3) := by decide +kernel
theorem d_FT_ring_128 : decode b_FT_ring 128 = .ok (.goto (-77), 3) := by decide +kernel
theorem d_FT_ring_131 : decode b_FT_ring 131 = .ok (.iconst 0, 1) := by decide +kernel
theorem d_FT_ring_132 : decode b_FT_ring 132 = .ok (.ireturn, 1) := by decide +kernel
theorem d_FT_ringFrom_0 : decode b_FT_ringFrom 0 = .ok (.aload_n 0, 1) := by decide +kernel
theorem d_FT_ringFrom_1 : decode b_FT_ringFrom 1 = .ok (.getfield 38, 3) := by decide +kernel
theorem d_FT_ringFrom_4 : decode b_FT_ringFrom 4 = .ok (.iconst 0, 1) := by decide +kernel
theorem d_FT_ringFrom_5 : decode b_FT_ringFrom 5 = .ok (.iload_n 2, 1) := by decide +kernel
theorem d_FT_ringFrom_6 : decode b_FT_ringFrom 6 = .ok (.i2l, 1) := by decide +kernel
theorem d_FT_ringFrom_7 : decode b_FT_ringFrom 7 = .ok (.lastore, 1) := by decide +kernel
theorem d_FT_ringFrom_8 : decode b_FT_ringFrom 8 = .ok (.aload_n 0, 1) := by decide +kernel
theorem d_FT_ringFrom_9 : decode b_FT_ringFrom 9 = .ok (.getfield 38, 3) := by decide +kernel
theorem d_FT_ringFrom_12 : decode b_FT_ringFrom 12 = .ok (.iconst 1, 1) := by decide +kernel
theorem d_FT_ringFrom_13 : decode b_FT_ringFrom 13 = .ok (.iload_n 3, 1) := by decide +kernel
theorem d_FT_ringFrom_14 : decode b_FT_ringFrom 14 = .ok (.i2l, 1) := by decide +kernel
theorem d_FT_ringFrom_15 : decode b_FT_ringFrom 15 = .ok (.lastore, 1) := by decide +kernel
theorem d_FT_ringFrom_16 : decode b_FT_ringFrom 16 = .ok (.aload_n 0, 1) := by decide +kernel
theorem d_FT_ringFrom_17 : decode b_FT_ringFrom 17 = .ok (.getfield 38, 3) := by decide +kernel
theorem d_FT_ringFrom_20 : decode b_FT_ringFrom 20 = .ok (.iconst 2, 1) := by decide +kernel
theorem d_FT_ringFrom_21 : decode b_FT_ringFrom 21 = .ok (.iload 4, 2) := by decide +kernel
theorem d_FT_ringFrom_23 : decode b_FT_ringFrom 23 = .ok (.i2l, 1) := by decide +kernel
theorem d_FT_ringFrom_24 : decode b_FT_ringFrom 24 = .ok (.lastore, 1) := by decide +kernel
theorem d_FT_ringFrom_25 : decode b_FT_ringFrom 25 = .ok (.aload_n 0, 1) := by decide +kernel
theorem d_FT_ringFrom_26 : decode b_FT_ringFrom 26 = .ok (.getfield 38, 3) := by decide +kernel
theorem d_FT_ringFrom_29 : decode b_FT_ringFrom 29 = .ok (.aload_n 0, 1) := by decide +kernel
theorem d_FT_ringFrom_30 : decode b_FT_ringFrom 30 = .ok (.getfield 42, 3) := by decide +kernel
theorem d_FT_ringFrom_33 : decode b_FT_ringFrom 33 = .ok (.invokestatic 188, 3) := by decide +kernel
theorem d_FT_ringFrom_36 : decode b_FT_ringFrom 36 = .ok (.aload_n 0, 1) := by decide +kernel
theorem d_FT_ringFrom_37 : decode b_FT_ringFrom 37 = .ok (.getfield 38, 3) := by decide +kernel
theorem d_FT_ringFrom_40 : decode b_FT_ringFrom 40 = .ok (.aload_n 0, 1) := by decide +kernel
theorem d_FT_ringFrom_41 : decode b_FT_ringFrom 41 = .ok (.getfield 45, 3) := by decide +kernel
theorem d_FT_ringFrom_44 : decode b_FT_ringFrom 44 = .ok (.invokestatic 188, 3) := by decide +kernel
theorem d_FT_ringFrom_47 : decode b_FT_ringFrom 47 = .ok (.iconst 1, 1) := by decide +kernel
theorem d_FT_ringFrom_48 : decode b_FT_ringFrom 48 = .ok (.istore 5, 2) := by decide +kernel
theorem d_FT_ringFrom_50 : decode b_FT_ringFrom 50 = .ok (.iload 5, 2) := by decide +kernel
theorem d_FT_ringFrom_52 : decode b_FT_ringFrom 52 = .ok (.sipush 200, 3) := by decide +kernel
theorem d_FT_ringFrom_55 : decode b_FT_ringFrom 55 = .ok (.if_icmp .gt 76, 3) := by decide +kernel
theorem d_FT_ringFrom_58 : decode b_FT_ringFrom 58 = .ok (.aload_n 1, 1) := by decide +kernel
theorem d_FT_ringFrom_59 : decode b_FT_ringFrom 59 = .ok (.aload_n 0, 1) := by decide +kernel
theorem d_FT_ringFrom_60 : decode b_FT_ringFrom 60 = .ok (.getfield 42, 3) := by decide +kernel
theorem d_FT_ringFrom_63 : decode b_FT_ringFrom 63 = .ok (.invokevirtual 176, 3) := by decide +kernel
theorem d_FT_ringFrom_66 : decode b_FT_ringFrom 66 = .ok (.ifCond .ge 5, 3) := by decide +kernel
theorem d_FT_ringFrom_69 : decode b_FT_ringFrom 69 = .ok (.iconst 0, 1) := by decide +kernel
theorem d_FT_ringFrom_70 : decode b_FT_ringFrom 70 = .ok (.ireturn, 1) := by decide +kernel
theorem d_FT_ringFrom_71 : decode b_FT_ringFrom 71 = .ok (.aload_n 0, 1) := by decide +kernel
theorem d_FT_ringFrom_72 : decode b_FT_ringFrom 72 = .ok (.getfield 42, 3) := by decide +kernel
theorem d_FT_ringFrom_75 : decode b_FT_ringFrom 75 = .ok (.aload_n 0, 1) := by decide +kernel
theorem d_FT_ringFrom_76 : decode b_FT_ringFrom 76 = .ok (.getfield 38, 3) := by decide +kernel
theorem d_FT_ringFrom_79 : decode b_FT_ringFrom 79 = .ok (.invokestatic 218, 3) := by decide +kernel
theorem d_FT_ringFrom_82 : decode b_FT_ringFrom 82 = .ok (.ifCond .eq 6, 3) := by decide +kernel
theorem d_FT_ringFrom_85 : decode b_FT_ringFrom 85 = .ok (.iload 5, 2) := by decide +kernel
theorem d_FT_ringFrom_87 : decode b_FT_ringFrom 87 = .ok (.ireturn, 1) := by decide +kernel
theorem d_FT_ringFrom_88 : decode b_FT_ringFrom 88 = .ok (.aload_n 0, 1) := by decide +kernel
theorem d_FT_ringFrom_89 : decode b_FT_ringFrom 89 = .ok (.getfield 42, 3) := by decide +kernel
theorem d_FT_ringFrom_92 : decode b_FT_ringFrom 92 = .ok (.aload_n 0, 1) := by decide +kernel
theorem d_FT_ringFrom_93 : decode b_FT_ringFrom 93 = .ok (.getfield 45, 3) := by decide +kernel
theorem d_FT_ringFrom_96 : decode b_FT_ringFrom 96 = .ok (.invokestatic 218, 3) := by decide +kernel
theorem d_FT_ringFrom_99 : decode b_FT_ringFrom 99 = .ok (.ifCond .eq 5, 3) := by decide +kernel
theorem d_FT_ringFrom_102 : decode b_FT_ringFrom 102 = .ok (.iconst 0, 1) := by decide +kernel
theorem d_FT_ringFrom_103 : decode b_FT_ringFrom 103 = .ok (.ireturn, 1) := by decide +kernel
theorem d_FT_ringFrom_104 : decode b_FT_ringFrom 104 = .ok (.iload 5, 2) := by decide +kernel
theorem d_FT_ringFrom_106 : decode b_FT_ringFrom 106 = .ok (.iload 5, 2) := by decide +kernel
theorem d_FT_ringFrom_108 : decode b_FT_ringFrom 108 = .ok (.iconst 1, 1) := by decide +kernel
theorem d_FT_ringFrom_109 : decode b_FT_ringFrom 109 = .ok (.isub, 1) := by decide +kernel
theorem d_FT_ringFrom_110 : decode b_FT_ringFrom 110 = .ok (.iand, 1) := by decide +kernel
theorem d_FT_ringFrom_111 : decode b_FT_ringFrom 111 = .ok (.ifCond .ne 14, 3) := by decide +kernel
theorem d_FT_ringFrom_114 : decode b_FT_ringFrom 114 = .ok (.aload_n 0, 1) := by decide +kernel
theorem d_FT_ringFrom_115 : decode b_FT_ringFrom 115 = .ok (.getfield 42, 3) := by decide +kernel
theorem d_FT_ringFrom_118 : decode b_FT_ringFrom 118 = .ok (.aload_n 0, 1) := by decide +kernel
theorem d_FT_ringFrom_119 : decode b_FT_ringFrom 119 = .ok (.getfield 45, 3) := by decide +kernel
theorem d_FT_ringFrom_122 : decode b_FT_ringFrom 122 = .ok (.invokestatic 188, 3) := by decide +kernel
theorem d_FT_ringFrom_125 : decode b_FT_ringFrom 125 = .ok (.iinc 5 1, 3) := by decide +kernel
theorem d_FT_ringFrom_128 : decode b_FT_ringFrom 128 = .ok (.goto (-78), 3) := by decide +kernel
theorem d_FT_ringFrom_131 : decode b_FT_ringFrom 131 = .ok (.iconst 0, 1) := by decide +kernel
theorem d_FT_ringFrom_132 : decode b_FT_ringFrom 132 = .ok (.ireturn, 1) := by decide +kernel
theorem d_FT_sameState_0 : decode b_FT_sameState 0 = .ok (.aload_n 0, 1) := by decide +kernel
theorem d_FT_sameState_1 : decode b_FT_sameState 1 = .ok (.iconst 0, 1) := by decide +kernel
theorem d_FT_sameState_2 : decode b_FT_sameState 2 = .ok (.laload, 1) := by decide +kernel
theorem d_FT_sameState_3 : decode b_FT_sameState 3 = .ok (.aload_n 1, 1) := by decide +kernel
theorem d_FT_sameState_4 : decode b_FT_sameState 4 = .ok (.iconst 0, 1) := by decide +kernel
theorem d_FT_sameState_5 : decode b_FT_sameState 5 = .ok (.laload, 1) := by decide +kernel
theorem d_FT_sameState_6 : decode b_FT_sameState 6 = .ok (.lcmp, 1) := by decide +kernel
theorem d_FT_sameState_7 : decode b_FT_sameState 7 = .ok (.ifCond .ne 27, 3) := by decide +kernel
theorem d_FT_sameState_10 : decode b_FT_sameState 10 = .ok (.aload_n 0, 1) := by decide +kernel
theorem d_FT_sameState_11 : decode b_FT_sameState 11 = .ok (.iconst 1, 1) := by decide +kernel
theorem d_FT_sameState_12 : decode b_FT_sameState 12 = .ok (.laload, 1) := by decide +kernel
theorem d_FT_sameState_13 : decode b_FT_sameState 13 = .ok (.aload_n 1, 1) := by decide +kernel
theorem d_FT_sameState_14 : decode b_FT_sameState 14 = .ok (.iconst 1, 1) := by decide +kernel
theorem d_FT_sameState_15 : decode b_FT_sameState 15 = .ok (.laload, 1) := by decide +kernel
theorem d_FT_sameState_16 : decode b_FT_sameState 16 = .ok (.lcmp, 1) := by decide +kernel
theorem d_FT_sameState_17 : decode b_FT_sameState 17 = .ok (.ifCond .ne 17, 3) := by decide +kernel
theorem d_FT_sameState_20 : decode b_FT_sameState 20 = .ok (.aload_n 0, 1) := by decide +kernel
theorem d_FT_sameState_21 : decode b_FT_sameState 21 = .ok (.iconst 2, 1) := by decide +kernel
theorem d_FT_sameState_22 : decode b_FT_sameState 22 = .ok (.laload, 1) := by decide +kernel
theorem d_FT_sameState_23 : decode b_FT_sameState 23 = .ok (.aload_n 1, 1) := by decide +kernel
theorem d_FT_sameState_24 : decode b_FT_sameState 24 = .ok (.iconst 2, 1) := by decide +kernel
theorem d_FT_sameState_25 : decode b_FT_sameState 25 = .ok (.laload, 1) := by decide +kernel
theorem d_FT_sameState_26 : decode b_FT_sameState 26 = .ok (.lcmp, 1) := by decide +kernel
theorem d_FT_sameState_27 : decode b_FT_sameState 27 = .ok (.ifCond .ne 7, 3) := by decide +kernel
theorem d_FT_sameState_30 : decode b_FT_sameState 30 = .ok (.iconst 1, 1) := by decide +kernel
theorem d_FT_sameState_31 : decode b_FT_sameState 31 = .ok (.goto 4, 3) := by decide +kernel
theorem d_FT_sameState_34 : decode b_FT_sameState 34 = .ok (.iconst 0, 1) := by decide +kernel
theorem d_FT_sameState_35 : decode b_FT_sameState 35 = .ok (.ireturn, 1) := by decide +kernel
theorem d_FT_loops_0 : decode b_FT_loops 0 = .ok (.aload_n 0, 1) := by decide +kernel
theorem d_FT_loops_1 : decode b_FT_loops 1 = .ok (.getfield 50, 3) := by decide +kernel
theorem d_FT_loops_4 : decode b_FT_loops 4 = .ok (.ireturn, 1) := by decide +kernel
