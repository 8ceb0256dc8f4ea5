theorem d_FT_init_0 : decode b_FT_init 0 = .ok (.aload_n 0, 1) := by decide +kernel
theorem d_FT_init_1 : decode b_FT_init 1 = .ok (.invokespecial 1, 3) := by decide +kernel
theorem d_FT_init_4 : decode b_FT_init 4 = .ok (.aload_n 0, 1) := by decide +kernel
theorem d_FT_init_5 : decode b_FT_init 5 = .ok (.bipush 8, 2) := by decide +kernel
theorem d_FT_init_7 : decode b_FT_init 7 = .ok (.anewarray 9, 3) := by decide +kernel
theorem d_FT_init_10 : decode b_FT_init 10 = .ok (.putfield 11, 3) := by decide +kernel
theorem d_FT_init_13 : decode b_FT_init 13 = .ok (.aload_n 0, 1) := by decide +kernel
theorem d_FT_init_14 : decode b_FT_init 14 = .ok (.iconst 3, 1) := by decide +kernel
theorem d_FT_init_15 : decode b_FT_init 15 = .ok (.anewarray 15, 3) := by decide +kernel
theorem d_FT_init_18 : decode b_FT_init 18 = .ok (.putfield 17, 3) := by decide +kernel
theorem d_FT_init_21 : decode b_FT_init 21 = .ok (.aload_n 0, 1) := by decide +kernel
theorem d_FT_init_22 : decode b_FT_init 22 = .ok (.iconst 3, 1) := by decide +kernel
theorem d_FT_init_23 : decode b_FT_init 23 = .ok (.anewarray 15, 3) := by decide +kernel
theorem d_FT_init_26 : decode b_FT_init 26 = .ok (.putfield 21, 3) := by decide +kernel
theorem d_FT_init_29 : decode b_FT_init 29 = .ok (.aload_n 0, 1) := by decide +kernel
theorem d_FT_init_30 : decode b_FT_init 30 = .ok (.new 24, 3) := by decide +kernel
theorem d_FT_init_33 : decode b_FT_init 33 = .ok (.dup, 1) := by decide +kernel
theorem d_FT_init_34 : decode b_FT_init 34 = .ok (.invokespecial 26, 3) := by decide +kernel
theorem d_FT_init_37 : decode b_FT_init 37 = .ok (.putfield 27, 3) := by decide +kernel
theorem d_FT_init_40 : decode b_FT_init 40 = .ok (.aload_n 0, 1) := by decide +kernel
theorem d_FT_init_41 : decode b_FT_init 41 = .ok (.new 24, 3) := by decide +kernel
theorem d_FT_init_44 : decode b_FT_init 44 = .ok (.dup, 1) := by decide +kernel
theorem d_FT_init_45 : decode b_FT_init 45 = .ok (.invokespecial 26, 3) := by decide +kernel
theorem d_FT_init_48 : decode b_FT_init 48 = .ok (.putfield 31, 3) := by decide +kernel
theorem d_FT_init_51 : decode b_FT_init 51 = .ok (.aload_n 0, 1) := by decide +kernel
theorem d_FT_init_52 : decode b_FT_init 52 = .ok (.iconst 4, 1) := by decide +kernel
theorem d_FT_init_53 : decode b_FT_init 53 = .ok (.newarray .int, 2) := by decide +kernel
theorem d_FT_init_55 : decode b_FT_init 55 = .ok (.putfield 34, 3) := by decide +kernel
theorem d_FT_init_58 : decode b_FT_init 58 = .ok (.aload_n 0, 1) := by decide +kernel
theorem d_FT_init_59 : decode b_FT_init 59 = .ok (.iconst 3, 1) := by decide +kernel
theorem d_FT_init_60 : decode b_FT_init 60 = .ok (.newarray .long, 2) := by decide +kernel
theorem d_FT_init_62 : decode b_FT_init 62 = .ok (.putfield 38, 3) := by decide +kernel
theorem d_FT_init_65 : decode b_FT_init 65 = .ok (.aload_n 0, 1) := by decide +kernel
theorem d_FT_init_66 : decode b_FT_init 66 = .ok (.iconst 3, 1) := by decide +kernel
theorem d_FT_init_67 : decode b_FT_init 67 = .ok (.newarray .long, 2) := by decide +kernel
theorem d_FT_init_69 : decode b_FT_init 69 = .ok (.putfield 42, 3) := by decide +kernel
theorem d_FT_init_72 : decode b_FT_init 72 = .ok (.aload_n 0, 1) := by decide +kernel
theorem d_FT_init_73 : decode b_FT_init 73 = .ok (.iconst 3, 1) := by decide +kernel
theorem d_FT_init_74 : decode b_FT_init 74 = .ok (.newarray .long, 2) := by decide +kernel
theorem d_FT_init_76 : decode b_FT_init 76 = .ok (.putfield 45, 3) := by decide +kernel
theorem d_FT_init_79 : decode b_FT_init 79 = .ok (.iconst 0, 1) := by decide +kernel
theorem d_FT_init_80 : decode b_FT_init 80 = .ok (.istore_n 1, 1) := by decide +kernel
theorem d_FT_init_81 : decode b_FT_init 81 = .ok (.iload_n 1, 1) := by decide +kernel
theorem d_FT_init_82 : decode b_FT_init 82 = .ok (.bipush 8, 2) := by decide +kernel
theorem d_FT_init_84 : decode b_FT_init 84 = .ok (.if_icmp .ge 22, 3) := by decide +kernel
theorem d_FT_init_87 : decode b_FT_init 87 = .ok (.aload_n 0, 1) := by decide +kernel
theorem d_FT_init_88 : decode b_FT_init 88 = .ok (.getfield 11, 3) := by decide +kernel
theorem d_FT_init_91 : decode b_FT_init 91 = .ok (.iload_n 1, 1) := by decide +kernel
theorem d_FT_init_92 : decode b_FT_init 92 = .ok (.new 9, 3) := by decide +kernel
theorem d_FT_init_95 : decode b_FT_init 95 = .ok (.dup, 1) := by decide +kernel
theorem d_FT_init_96 : decode b_FT_init 96 = .ok (.invokespecial 48, 3) := by decide +kernel
theorem d_FT_init_99 : decode b_FT_init 99 = .ok (.aastore, 1) := by decide +kernel
theorem d_FT_init_100 : decode b_FT_init 100 = .ok (.iinc 1 1, 3) := by decide +kernel
theorem d_FT_init_103 : decode b_FT_init 103 = .ok (.goto (-22), 3) := by decide +kernel
theorem d_FT_init_106 : decode b_FT_init 106 = .ok (.iconst 0, 1) := by decide +kernel
theorem d_FT_init_107 : decode b_FT_init 107 = .ok (.istore_n 1, 1) := by decide +kernel
theorem d_FT_init_108 : decode b_FT_init 108 = .ok (.iload_n 1, 1) := by decide +kernel
theorem d_FT_init_109 : decode b_FT_init 109 = .ok (.iconst 3, 1) := by decide +kernel
theorem d_FT_init_110 : decode b_FT_init 110 = .ok (.if_icmp .ge 35, 3) := by decide +kernel
theorem d_FT_init_113 : decode b_FT_init 113 = .ok (.aload_n 0, 1) := by decide +kernel
theorem d_FT_init_114 : decode b_FT_init 114 = .ok (.getfield 17, 3) := by decide +kernel
theorem d_FT_init_117 : decode b_FT_init 117 = .ok (.iload_n 1, 1) := by decide +kernel
theorem d_FT_init_118 : decode b_FT_init 118 = .ok (.new 15, 3) := by decide +kernel
theorem d_FT_init_121 : decode b_FT_init 121 = .ok (.dup, 1) := by decide +kernel
theorem d_FT_init_122 : decode b_FT_init 122 = .ok (.invokespecial 49, 3) := by decide +kernel
theorem d_FT_init_125 : decode b_FT_init 125 = .ok (.aastore, 1) := by decide +kernel
theorem d_FT_init_126 : decode b_FT_init 126 = .ok (.aload_n 0, 1) := by decide +kernel
theorem d_FT_init_127 : decode b_FT_init 127 = .ok (.getfield 21, 3) := by decide +kernel
theorem d_FT_init_130 : decode b_FT_init 130 = .ok (.iload_n 1, 1) := by decide +kernel
theorem d_FT_init_131 : decode b_FT_init 131 = .ok (.new 15, 3) := by decide +kernel
theorem d_FT_init_134 : decode b_FT_init 134 = .ok (.dup, 1) := by decide +kernel
theorem d_FT_init_135 : decode b_FT_init 135 = .ok (.invokespecial 49, 3) := by decide +kernel
theorem d_FT_init_138 : decode b_FT_init 138 = .ok (.aastore, 1) := by decide +kernel
theorem d_FT_init_139 : decode b_FT_init 139 = .ok (.iinc 1 1, 3) := by decide +kernel
theorem d_FT_init_142 : decode b_FT_init 142 = .ok (.goto (-34), 3) := by decide +kernel
theorem d_FT_init_145 : decode b_FT_init 145 = .ok (.return_, 1) := by decide +kernel
theorem d_Pf_init_0 : decode b_Pf_init 0 = .ok (.aload_n 0, 1) := by decide +kernel
theorem d_Pf_init_1 : decode b_Pf_init 1 = .ok (.invokespecial 3, 3) := by decide +kernel
theorem d_Pf_init_4 : decode b_Pf_init 4 = .ok (.aload_n 0, 1) := by decide +kernel
theorem d_Pf_init_5 : decode b_Pf_init 5 = .ok (.bipush 12, 2) := by decide +kernel
theorem d_Pf_init_7 : decode b_Pf_init 7 = .ok (.newarray .int, 2) := by decide +kernel
theorem d_Pf_init_9 : decode b_Pf_init 9 = .ok (.putfield 9, 3) := by decide +kernel
theorem d_Pf_init_12 : decode b_Pf_init 12 = .ok (.return_, 1) := by decide +kernel
theorem d_Lp_init_0 : decode b_Lp_init 0 = .ok (.aload_n 0, 1) := by decide +kernel
theorem d_Lp_init_1 : decode b_Lp_init 1 = .ok (.invokespecial 3, 3) := by decide +kernel
theorem d_Lp_init_4 : decode b_Lp_init 4 = .ok (.aload_n 0, 1) := by decide +kernel
theorem d_Lp_init_5 : decode b_Lp_init 5 = .ok (.new 9, 3) := by decide +kernel
theorem d_Lp_init_8 : decode b_Lp_init 8 = .ok (.dup, 1) := by decide +kernel
theorem d_Lp_init_9 : decode b_Lp_init 9 = .ok (.iconst 4, 1) := by decide +kernel
theorem d_Lp_init_10 : decode b_Lp_init 10 = .ok (.invokespecial 11, 3) := by decide +kernel
theorem d_Lp_init_13 : decode b_Lp_init 13 = .ok (.putfield 14, 3) := by decide +kernel
theorem d_Lp_init_16 : decode b_Lp_init 16 = .ok (.aload_n 0, 1) := by decide +kernel
theorem d_Lp_init_17 : decode b_Lp_init 17 = .ok (.iconst 3, 1) := by decide +kernel
theorem d_Lp_init_18 : decode b_Lp_init 18 = .ok (.anewarray 20, 3) := by decide +kernel
theorem d_Lp_init_21 : decode b_Lp_init 21 = .ok (.putfield 22, 3) := by decide +kernel
theorem d_Lp_init_24 : decode b_Lp_init 24 = .ok (.aload_n 0, 1) := by decide +kernel
theorem d_Lp_init_25 : decode b_Lp_init 25 = .ok (.iconst 3, 1) := by decide +kernel
theorem d_Lp_init_26 : decode b_Lp_init 26 = .ok (.newarray .long, 2) := by decide +kernel
theorem d_Lp_init_28 : decode b_Lp_init 28 = .ok (.putfield 26, 3) := by decide +kernel
theorem d_Lp_init_31 : decode b_Lp_init 31 = .ok (.aload_n 0, 1) := by decide +kernel
theorem d_Lp_init_32 : decode b_Lp_init 32 = .ok (.iconst 3, 1) := by decide +kernel
theorem d_Lp_init_33 : decode b_Lp_init 33 = .ok (.newarray .long, 2) := by decide +kernel
theorem d_Lp_init_35 : decode b_Lp_init 35 = .ok (.putfield 30, 3) := by decide +kernel
theorem d_Lp_init_38 : decode b_Lp_init 38 = .ok (.iconst 0, 1) := by decide +kernel
theorem d_Lp_init_39 : decode b_Lp_init 39 = .ok (.istore_n 1, 1) := by decide +kernel
theorem d_Lp_init_40 : decode b_Lp_init 40 = .ok (.iload_n 1, 1) := by decide +kernel
theorem d_Lp_init_41 : decode b_Lp_init 41 = .ok (.iconst 3, 1) := by decide +kernel
theorem d_Lp_init_42 : decode b_Lp_init 42 = .ok (.if_icmp .ge 22, 3) := by decide +kernel
theorem d_Lp_init_45 : decode b_Lp_init 45 = .ok (.aload_n 0, 1) := by decide +kernel
theorem d_Lp_init_46 : decode b_Lp_init 46 = .ok (.getfield 22, 3) := by decide +kernel
theorem d_Lp_init_49 : decode b_Lp_init 49 = .ok (.iload_n 1, 1) := by decide +kernel
theorem d_Lp_init_50 : decode b_Lp_init 50 = .ok (.new 20, 3) := by decide +kernel
theorem d_Lp_init_53 : decode b_Lp_init 53 = .ok (.dup, 1) := by decide +kernel
theorem d_Lp_init_54 : decode b_Lp_init 54 = .ok (.invokespecial 33, 3) := by decide +kernel
theorem d_Lp_init_57 : decode b_Lp_init 57 = .ok (.aastore, 1) := by decide +kernel
theorem d_Lp_init_58 : decode b_Lp_init 58 = .ok (.iinc 1 1, 3) := by decide +kernel
theorem d_Lp_init_61 : decode b_Lp_init 61 = .ok (.goto (-21), 3) := by decide +kernel
theorem d_Lp_init_64 : decode b_Lp_init 64 = .ok (.return_, 1) := by decide +kernel
theorem d_Rw_init_0 : decode b_Rw_init 0 = .ok (.aload_n 0, 1) := by decide +kernel
theorem d_Rw_init_1 : decode b_Rw_init 1 = .ok (.invokespecial 3, 3) := by decide +kernel
theorem d_Rw_init_4 : decode b_Rw_init 4 = .ok (.aload_n 0, 1) := by decide +kernel
theorem d_Rw_init_5 : decode b_Rw_init 5 = .ok (.iconst 0, 1) := by decide +kernel
theorem d_Rw_init_6 : decode b_Rw_init 6 = .ok (.iload_n 1, 1) := by decide +kernel
theorem d_Rw_init_7 : decode b_Rw_init 7 = .ok (.invokestatic 9, 3) := by decide +kernel
theorem d_Rw_init_10 : decode b_Rw_init 10 = .ok (.putfield 15, 3) := by decide +kernel
theorem d_Rw_init_13 : decode b_Rw_init 13 = .ok (.aload_n 0, 1) := by decide +kernel
theorem d_Rw_init_14 : decode b_Rw_init 14 = .ok (.iconst 4, 1) := by decide +kernel
theorem d_Rw_init_15 : decode b_Rw_init 15 = .ok (.aload_n 0, 1) := by decide +kernel
theorem d_Rw_init_16 : decode b_Rw_init 16 = .ok (.getfield 15, 3) := by decide +kernel
theorem d_Rw_init_19 : decode b_Rw_init 19 = .ok (.imul, 1) := by decide +kernel
theorem d_Rw_init_20 : decode b_Rw_init 20 = .ok (.newarray .int, 2) := by decide +kernel
theorem d_Rw_init_22 : decode b_Rw_init 22 = .ok (.putfield 21, 3) := by decide +kernel
theorem d_Rw_init_25 : decode b_Rw_init 25 = .ok (.return_, 1) := by decide +kernel
theorem d_Wy_init_0 : decode b_Wy_init 0 = .ok (.aload_n 0, 1) := by decide +kernel
theorem d_Wy_init_1 : decode b_Wy_init 1 = .ok (.invokespecial 3, 3) := by decide +kernel
theorem d_Wy_init_4 : decode b_Wy_init 4 = .ok (.aload_n 0, 1) := by decide +kernel
theorem d_Wy_init_5 : decode b_Wy_init 5 = .ok (.new 9, 3) := by decide +kernel
theorem d_Wy_init_8 : decode b_Wy_init 8 = .ok (.dup, 1) := by decide +kernel
theorem d_Wy_init_9 : decode b_Wy_init 9 = .ok (.iconst 2, 1) := by decide +kernel
theorem d_Wy_init_10 : decode b_Wy_init 10 = .ok (.invokespecial 11, 3) := by decide +kernel
theorem d_Wy_init_13 : decode b_Wy_init 13 = .ok (.putfield 14, 3) := by decide +kernel
theorem d_Wy_init_16 : decode b_Wy_init 16 = .ok (.aload_n 0, 1) := by decide +kernel
theorem d_Wy_init_17 : decode b_Wy_init 17 = .ok (.bipush 9, 2) := by decide +kernel
theorem d_Wy_init_19 : decode b_Wy_init 19 = .ok (.newarray .int, 2) := by decide +kernel
theorem d_Wy_init_21 : decode b_Wy_init 21 = .ok (.putfield 20, 3) := by decide +kernel
theorem d_Wy_init_24 : decode b_Wy_init 24 = .ok (.aload_n 0, 1) := by decide +kernel
theorem d_Wy_init_25 : decode b_Wy_init 25 = .ok (.iconst 3, 1) := by decide +kernel
theorem d_Wy_init_26 : decode b_Wy_init 26 = .ok (.newarray .int, 2) := by decide +kernel
theorem d_Wy_init_28 : decode b_Wy_init 28 = .ok (.putfield 24, 3) := by decide +kernel
theorem d_Wy_init_31 : decode b_Wy_init 31 = .ok (.return_, 1) := by decide +kernel
theorem d_Sp_init_0 : decode b_Sp_init 0 = .ok (.aload_n 0, 1) := by decide +kernel
theorem d_Sp_init_1 : decode b_Sp_init 1 = .ok (.invokespecial 3, 3) := by decide +kernel
theorem d_Sp_init_4 : decode b_Sp_init 4 = .ok (.aload_n 0, 1) := by decide +kernel
theorem d_Sp_init_5 : decode b_Sp_init 5 = .ok (.bipush 12, 2) := by decide +kernel
theorem d_Sp_init_7 : decode b_Sp_init 7 = .ok (.newarray .long, 2) := by decide +kernel
theorem d_Sp_init_9 : decode b_Sp_init 9 = .ok (.putfield 9, 3) := by decide +kernel
theorem d_Sp_init_12 : decode b_Sp_init 12 = .ok (.aload_n 0, 1) := by decide +kernel
theorem d_Sp_init_13 : decode b_Sp_init 13 = .ok (.sipush 128, 3) := by decide +kernel
theorem d_Sp_init_16 : decode b_Sp_init 16 = .ok (.newarray .long, 2) := by decide +kernel
theorem d_Sp_init_18 : decode b_Sp_init 18 = .ok (.putfield 15, 3) := by decide +kernel
theorem d_Sp_init_21 : decode b_Sp_init 21 = .ok (.aload_n 0, 1) := by decide +kernel
theorem d_Sp_init_22 : decode b_Sp_init 22 = .ok (.bipush 32, 2) := by decide +kernel
theorem d_Sp_init_24 : decode b_Sp_init 24 = .ok (.newarray .int, 2) := by decide +kernel
theorem d_Sp_init_26 : decode b_Sp_init 26 = .ok (.putfield 18, 3) := by decide +kernel
theorem d_Sp_init_29 : decode b_Sp_init 29 = .ok (.aload_n 0, 1) := by decide +kernel
theorem d_Sp_init_30 : decode b_Sp_init 30 = .ok (.bipush 32, 2) := by decide +kernel
theorem d_Sp_init_32 : decode b_Sp_init 32 = .ok (.newarray .long, 2) := by decide +kernel
theorem d_Sp_init_34 : decode b_Sp_init 34 = .ok (.putfield 22, 3) := by decide +kernel
theorem d_Sp_init_37 : decode b_Sp_init 37 = .ok (.aload_n 0, 1) := by decide +kernel
theorem d_Sp_init_38 : decode b_Sp_init 38 = .ok (.iconst 4, 1) := by decide +kernel
theorem d_Sp_init_39 : decode b_Sp_init 39 = .ok (.newarray .long, 2) := by decide +kernel
theorem d_Sp_init_41 : decode b_Sp_init 41 = .ok (.putfield 25, 3) := by decide +kernel
theorem d_Sp_init_44 : decode b_Sp_init 44 = .ok (.return_, 1) := by decide +kernel
theorem d_FT_loop_0 : decode b_FT_loop 0 = .ok (.iload_n 1, 1) := by decide +kernel
theorem d_FT_loop_1 : decode b_FT_loop 1 = .ok (.iconst 1, 1) := by decide +kernel
theorem d_FT_loop_2 : decode b_FT_loop 2 = .ok (.if_icmp .lt 8, 3) := by decide +kernel
theorem d_FT_loop_5 : decode b_FT_loop 5 = .ok (.iload_n 1, 1) := by decide +kernel
theorem d_FT_loop_6 : decode b_FT_loop 6 = .ok (.iconst 3, 1) := by decide +kernel
theorem d_FT_loop_7 : decode b_FT_loop 7 = .ok (.if_icmp .le 6, 3) := by decide +kernel
theorem d_FT_loop_10 : decode b_FT_loop 10 = .ok (.bipush (-3), 2) := by decide +kernel
theorem d_FT_loop_12 : decode b_FT_loop 12 = .ok (.ireturn, 1) := by decide +kernel
theorem d_FT_loop_13 : decode b_FT_loop 13 = .ok (.aload_n 0, 1) := by decide +kernel
theorem d_FT_loop_14 : decode b_FT_loop 14 = .ok (.getfield 50, 3) := by decide +kernel
theorem d_FT_loop_17 : decode b_FT_loop 17 = .ok (.bipush 8, 2) := by decide +kernel
theorem d_FT_loop_19 : decode b_FT_loop 19 = .ok (.if_icmp .lt 6, 3) := by decide +kernel
theorem d_FT_loop_22 : decode b_FT_loop 22 = .ok (.bipush (-4), 2) := by decide +kernel
theorem d_FT_loop_24 : decode b_FT_loop 24 = .ok (.ireturn, 1) := by decide +kernel
theorem d_FT_loop_25 : decode b_FT_loop 25 = .ok (.aload_n 0, 1) := by decide +kernel
theorem d_FT_loop_26 : decode b_FT_loop 26 = .ok (.getfield 11, 3) := by decide +kernel
theorem d_FT_loop_29 : decode b_FT_loop 29 = .ok (.aload_n 0, 1) := by decide +kernel
theorem d_FT_loop_30 : decode b_FT_loop 30 = .ok (.getfield 50, 3) := by decide +kernel
theorem d_FT_loop_33 : decode b_FT_loop 33 = .ok (.aaload, 1) := by decide +kernel
theorem d_FT_loop_34 : decode b_FT_loop 34 = .ok (.iload_n 1, 1) := by decide +kernel
theorem d_FT_loop_35 : decode b_FT_loop 35 = .ok (.invokevirtual 54, 3) := by decide +kernel
theorem d_FT_loop_38 : decode b_FT_loop 38 = .ok (.aload_n 0, 1) := by decide +kernel
theorem d_FT_loop_39 : decode b_FT_loop 39 = .ok (.dup, 1) := by decide +kernel
theorem d_FT_loop_40 : decode b_FT_loop 40 = .ok (.getfield 50, 3) := by decide +kernel
theorem d_FT_loop_43 : decode b_FT_loop 43 = .ok (.iconst 1, 1) := by decide +kernel
theorem d_FT_loop_44 : decode b_FT_loop 44 = .ok (.iadd, 1) := by decide +kernel
theorem d_FT_loop_45 : decode b_FT_loop 45 = .ok (.putfield 50, 3) := by decide +kernel
theorem d_FT_loop_48 : decode b_FT_loop 48 = .ok (.aload_n 0, 1) := by decide +kernel
theorem d_FT_loop_49 : decode b_FT_loop 49 = .ok (.getfield 50, 3) := by decide +kernel
theorem d_FT_loop_52 : decode b_FT_loop 52 = .ok (.iconst 1, 1) := by decide +kernel
theorem d_FT_loop_53 : decode b_FT_loop 53 = .ok (.isub, 1) := by decide +kernel
theorem d_FT_loop_54 : decode b_FT_loop 54 = .ok (.ireturn, 1) := by decide +kernel
theorem d_Lp_begin_0 : decode b_Lp_begin 0 = .ok (.aload_n 0, 1) := by decide +kernel
theorem d_Lp_begin_1 : decode b_Lp_begin 1 = .ok (.iload_n 1, 1) := by decide +kernel
theorem d_Lp_begin_2 : decode b_Lp_begin 2 = .ok (.putfield 34, 3) := by decide +kernel
theorem d_Lp_begin_5 : decode b_Lp_begin 5 = .ok (.aload_n 0, 1) := by decide +kernel
theorem d_Lp_begin_6 : decode b_Lp_begin 6 = .ok (.getfield 14, 3) := by decide +kernel
theorem d_Lp_begin_9 : decode b_Lp_begin 9 = .ok (.iconst 0, 1) := by decide +kernel
theorem d_Lp_begin_10 : decode b_Lp_begin 10 = .ok (.putfield 38, 3) := by decide +kernel
theorem d_Lp_begin_13 : decode b_Lp_begin 13 = .ok (.aload_n 0, 1) := by decide +kernel
theorem d_Lp_begin_14 : decode b_Lp_begin 14 = .ok (.iconst 0, 1) := by decide +kernel
theorem d_Lp_begin_15 : decode b_Lp_begin 15 = .ok (.putfield 41, 3) := by decide +kernel
theorem d_Lp_begin_18 : decode b_Lp_begin 18 = .ok (.iconst 0, 1) := by decide +kernel
theorem d_Lp_begin_19 : decode b_Lp_begin 19 = .ok (.istore_n 2, 1) := by decide +kernel
theorem d_Lp_begin_20 : decode b_Lp_begin 20 = .ok (.iload_n 2, 1) := by decide +kernel
theorem d_Lp_begin_21 : decode b_Lp_begin 21 = .ok (.iconst 3, 1) := by decide +kernel
theorem d_Lp_begin_22 : decode b_Lp_begin 22 = .ok (.if_icmp .ge 16, 3) := by decide +kernel
theorem d_Lp_begin_25 : decode b_Lp_begin 25 = .ok (.aload_n 0, 1) := by decide +kernel
theorem d_Lp_begin_26 : decode b_Lp_begin 26 = .ok (.getfield 26, 3) := by decide +kernel
theorem d_Lp_begin_29 : decode b_Lp_begin 29 = .ok (.iload_n 2, 1) := by decide +kernel
theorem d_Lp_begin_30 : decode b_Lp_begin 30 = .ok (.lconst 0, 1) := by decide +kernel
theorem d_Lp_begin_31 : decode b_Lp_begin 31 = .ok (.lastore, 1) := by decide +kernel
theorem d_Lp_begin_32 : decode b_Lp_begin 32 = .ok (.iinc 2 1, 3) := by decide +kernel
theorem d_Lp_begin_35 : decode b_Lp_begin 35 = .ok (.goto (-15), 3) := by decide +kernel
theorem d_Lp_begin_38 : decode b_Lp_begin 38 = .ok (.return_, 1) := by decide +kernel
theorem d_FT_clear_0 : decode b_FT_clear 0 = .ok (.aload_n 0, 1) := by decide +kernel
theorem d_FT_clear_1 : decode b_FT_clear 1 = .ok (.getfield 50, 3) := by decide +kernel
theorem d_FT_clear_4 : decode b_FT_clear 4 = .ok (.istore_n 1, 1) := by decide +kernel
theorem d_FT_clear_5 : decode b_FT_clear 5 = .ok (.aload_n 0, 1) := by decide +kernel
theorem d_FT_clear_6 : decode b_FT_clear 6 = .ok (.iconst 0, 1) := by decide +kernel
theorem d_FT_clear_7 : decode b_FT_clear 7 = .ok (.putfield 50, 3) := by decide +kernel
theorem d_FT_clear_10 : decode b_FT_clear 10 = .ok (.aload_n 0, 1) := by decide +kernel
theorem d_FT_clear_11 : decode b_FT_clear 11 = .ok (.getfield 27, 3) := by decide +kernel
theorem d_FT_clear_14 : decode b_FT_clear 14 = .ok (.invokevirtual 58, 3) := by decide +kernel
theorem d_FT_clear_17 : decode b_FT_clear 17 = .ok (.iload_n 1, 1) := by decide +kernel
theorem d_FT_clear_18 : decode b_FT_clear 18 = .ok (.ireturn, 1) := by decide +kernel
theorem d_Pf_forget_0 : decode b_Pf_forget 0 = .ok (.aload_n 0, 1) := by decide +kernel
theorem d_Pf_forget_1 : decode b_Pf_forget 1 = .ok (.iconst 0, 1) := by decide +kernel
theorem d_Pf_forget_2 : decode b_Pf_forget 2 = .ok (.putfield 15, 3) := by decide +kernel
theorem d_Pf_forget_5 : decode b_Pf_forget 5 = .ok (.aload_n 0, 1) := by decide +kernel
theorem d_Pf_forget_6 : decode b_Pf_forget 6 = .ok (.iconst 0, 1) := by decide +kernel
theorem d_Pf_forget_7 : decode b_Pf_forget 7 = .ok (.putfield 19, 3) := by decide +kernel
theorem d_Pf_forget_10 : decode b_Pf_forget 10 = .ok (.return_, 1) := by decide +kernel
theorem d_FT_guard_0 : decode b_FT_guard 0 = .ok (.aload_n 0, 1) := by decide +kernel
theorem d_FT_guard_1 : decode b_FT_guard 1 = .ok (.iload_n 1, 1) := by decide +kernel
theorem d_FT_guard_2 : decode b_FT_guard 2 = .ok (.invokevirtual 61, 3) := by decide +kernel
theorem d_FT_guard_5 : decode b_FT_guard 5 = .ok (.ifCond .ne 6, 3) := by decide +kernel
theorem d_FT_guard_8 : decode b_FT_guard 8 = .ok (.bipush (-2), 2) := by decide +kernel
theorem d_FT_guard_10 : decode b_FT_guard 10 = .ok (.ireturn, 1) := by decide +kernel
theorem d_FT_guard_11 : decode b_FT_guard 11 = .ok (.aload_n 0, 1) := by decide +kernel
theorem d_FT_guard_12 : decode b_FT_guard 12 = .ok (.iload_n 1, 1) := by decide +kernel
theorem d_FT_guard_13 : decode b_FT_guard 13 = .ok (.iload_n 2, 1) := by decide +kernel
theorem d_FT_guard_14 : decode b_FT_guard 14 = .ok (.iload_n 3, 1) := by decide +kernel
theorem d_FT_guard_15 : decode b_FT_guard 15 = .ok (.iload 4, 2) := by decide +kernel
theorem d_FT_guard_17 : decode b_FT_guard 17 = .ok (.iload 5, 2) := by decide +kernel
theorem d_FT_guard_19 : decode b_FT_guard 19 = .ok (.invokevirtual 65, 3) := by decide +kernel
theorem d_FT_guard_22 : decode b_FT_guard 22 = .ok (.ifCond .ne 6, 3) := by decide +kernel
theorem d_FT_guard_25 : decode b_FT_guard 25 = .ok (.bipush (-3), 2) := by decide +kernel
theorem d_FT_guard_27 : decode b_FT_guard 27 = .ok (.ireturn, 1) := by decide +kernel
theorem d_FT_guard_28 : decode b_FT_guard 28 = .ok (.aload_n 0, 1) := by decide +kernel
theorem d_FT_guard_29 : decode b_FT_guard 29 = .ok (.getfield 11, 3) := by decide +kernel
theorem d_FT_guard_32 : decode b_FT_guard 32 = .ok (.iload_n 1, 1) := by decide +kernel
theorem d_FT_guard_33 : decode b_FT_guard 33 = .ok (.aaload, 1) := by decide +kernel
theorem d_FT_guard_34 : decode b_FT_guard 34 = .ok (.getfield 69, 3) := by decide +kernel
theorem d_FT_guard_37 : decode b_FT_guard 37 = .ok (.iload_n 2, 1) := by decide +kernel
theorem d_FT_guard_38 : decode b_FT_guard 38 = .ok (.iload_n 3, 1) := by decide +kernel
theorem d_FT_guard_39 : decode b_FT_guard 39 = .ok (.iload 4, 2) := by decide +kernel
theorem d_FT_guard_41 : decode b_FT_guard 41 = .ok (.iload 5, 2) := by decide +kernel
theorem d_FT_guard_43 : decode b_FT_guard 43 = .ok (.invokevirtual 73, 3) := by decide +kernel
theorem d_FT_guard_46 : decode b_FT_guard 46 = .ok (.ireturn, 1) := by decide +kernel
theorem d_FT_isLoop_0 : decode b_FT_isLoop 0 = .ok (.iload_n 1, 1) := by decide +kernel
theorem d_FT_isLoop_1 : decode b_FT_isLoop 1 = .ok (.ifCond .lt 15, 3) := by decide +kernel
theorem d_FT_isLoop_4 : decode b_FT_isLoop 4 = .ok (.iload_n 1, 1) := by decide +kernel
theorem d_FT_isLoop_5 : decode b_FT_isLoop 5 = .ok (.aload_n 0, 1) := by decide +kernel
theorem d_FT_isLoop_6 : decode b_FT_isLoop 6 = .ok (.getfield 50, 3) := by decide +kernel
theorem d_FT_isLoop_9 : decode b_FT_isLoop 9 = .ok (.if_icmp .ge 7, 3) := by decide +kernel
theorem d_FT_isLoop_12 : decode b_FT_isLoop 12 = .ok (.iconst 1, 1) := by decide +kernel
theorem d_FT_isLoop_13 : decode b_FT_isLoop 13 = .ok (.goto 4, 3) := by decide +kernel
theorem d_FT_isLoop_16 : decode b_FT_isLoop 16 = .ok (.iconst 0, 1) := by decide +kernel
theorem d_FT_isLoop_17 : decode b_FT_isLoop 17 = .ok (.ireturn, 1) := by decide +kernel
theorem d_FT_rowFits_0 : decode b_FT_rowFits 0 = .ok (.aload_n 0, 1) := by decide +kernel
theorem d_FT_rowFits_1 : decode b_FT_rowFits 1 = .ok (.getfield 11, 3) := by decide +kernel
theorem d_FT_rowFits_4 : decode b_FT_rowFits 4 = .ok (.iload_n 1, 1) := by decide +kernel
theorem d_FT_rowFits_5 : decode b_FT_rowFits 5 = .ok (.aaload, 1) := by decide +kernel
theorem d_FT_rowFits_6 : decode b_FT_rowFits 6 = .ok (.getfield 108, 3) := by decide +kernel
theorem d_FT_rowFits_9 : decode b_FT_rowFits 9 = .ok (.iload_n 2, 1) := by decide +kernel
theorem d_FT_rowFits_10 : decode b_FT_rowFits 10 = .ok (.iload_n 3, 1) := by decide +kernel
theorem d_FT_rowFits_11 : decode b_FT_rowFits 11 = .ok (.iload 4, 2) := by decide +kernel
theorem d_FT_rowFits_13 : decode b_FT_rowFits 13 = .ok (.bipush 9, 2) := by decide +kernel
theorem d_FT_rowFits_15 : decode b_FT_rowFits 15 = .ok (.invokestatic 129, 3) := by decide +kernel
theorem d_FT_rowFits_18 : decode b_FT_rowFits 18 = .ok (.ifCond .eq 18, 3) := by decide +kernel
theorem d_FT_rowFits_21 : decode b_FT_rowFits 21 = .ok (.iload 5, 2) := by decide +kernel
theorem d_FT_rowFits_23 : decode b_FT_rowFits 23 = .ok (.sipush 1000, 3) := by decide +kernel
theorem d_FT_rowFits_26 : decode b_FT_rowFits 26 = .ok (.invokestatic 99, 3) := by decide +kernel
theorem d_FT_rowFits_29 : decode b_FT_rowFits 29 = .ok (.ifCond .eq 7, 3) := by decide +kernel
theorem d_FT_rowFits_32 : decode b_FT_rowFits 32 = .ok (.iconst 1, 1) := by decide +kernel
theorem d_FT_rowFits_33 : decode b_FT_rowFits 33 = .ok (.goto 4, 3) := by decide +kernel
theorem d_FT_rowFits_36 : decode b_FT_rowFits 36 = .ok (.iconst 0, 1) := by decide +kernel
theorem d_FT_rowFits_37 : decode b_FT_rowFits 37 = .ok (.ireturn, 1) := by decide +kernel
theorem d_FT_weightsFit_0 : decode b_FT_weightsFit 0 = .ok (.iload_n 1, 1) := by decide +kernel
theorem d_FT_weightsFit_1 : decode b_FT_weightsFit 1 = .ok (.iload 4, 2) := by decide +kernel
theorem d_FT_weightsFit_3 : decode b_FT_weightsFit 3 = .ok (.invokestatic 99, 3) := by decide +kernel
theorem d_FT_weightsFit_6 : decode b_FT_weightsFit 6 = .ok (.ifCond .eq 25, 3) := by decide +kernel
theorem d_FT_weightsFit_9 : decode b_FT_weightsFit 9 = .ok (.iload_n 2, 1) := by decide +kernel
theorem d_FT_weightsFit_10 : decode b_FT_weightsFit 10 = .ok (.iload 4, 2) := by decide +kernel
theorem d_FT_weightsFit_12 : decode b_FT_weightsFit 12 = .ok (.invokestatic 99, 3) := by decide +kernel
theorem d_FT_weightsFit_15 : decode b_FT_weightsFit 15 = .ok (.ifCond .eq 16, 3) := by decide +kernel
theorem d_FT_weightsFit_18 : decode b_FT_weightsFit 18 = .ok (.iload_n 3, 1) := by decide +kernel
theorem d_FT_weightsFit_19 : decode b_FT_weightsFit 19 = .ok (.iload 4, 2) := by decide +kernel
theorem d_FT_weightsFit_21 : decode b_FT_weightsFit 21 = .ok (.invokestatic 99, 3) := by decide +kernel
theorem d_FT_weightsFit_24 : decode b_FT_weightsFit 24 = .ok (.ifCond .eq 7, 3) := by decide +kernel
theorem d_FT_weightsFit_27 : decode b_FT_weightsFit 27 = .ok (.iconst 1, 1) := by decide +kernel
theorem d_FT_weightsFit_28 : decode b_FT_weightsFit 28 = .ok (.goto 4, 3) := by decide +kernel
theorem d_FT_weightsFit_31 : decode b_FT_weightsFit 31 = .ok (.iconst 0, 1) := by decide +kernel
theorem d_FT_weightsFit_32 : decode b_FT_weightsFit 32 = .ok (.istore 5, 2) := by decide +kernel
theorem d_FT_weightsFit_34 : decode b_FT_weightsFit 34 = .ok (.iload_n 2, 1) := by decide +kernel
theorem d_FT_weightsFit_35 : decode b_FT_weightsFit 35 = .ok (.ifCond .eq 8, 3) := by decide +kernel
theorem d_FT_weightsFit_38 : decode b_FT_weightsFit 38 = .ok (.iload_n 0, 1) := by decide +kernel
theorem d_FT_weightsFit_39 : decode b_FT_weightsFit 39 = .ok (.iconst 1, 1) := by decide +kernel
theorem d_FT_weightsFit_40 : decode b_FT_weightsFit 40 = .ok (.if_icmp .le 16, 3) := by decide +kernel
theorem d_FT_weightsFit_43 : decode b_FT_weightsFit 43 = .ok (.iload_n 3, 1) := by decide +kernel
theorem d_FT_weightsFit_44 : decode b_FT_weightsFit 44 = .ok (.ifCond .eq 8, 3) := by decide +kernel
theorem d_FT_weightsFit_47 : decode b_FT_weightsFit 47 = .ok (.iload_n 0, 1) := by decide +kernel
theorem d_FT_weightsFit_48 : decode b_FT_weightsFit 48 = .ok (.iconst 2, 1) := by decide +kernel
theorem d_FT_weightsFit_49 : decode b_FT_weightsFit 49 = .ok (.if_icmp .le 7, 3) := by decide +kernel
theorem d_FT_weightsFit_52 : decode b_FT_weightsFit 52 = .ok (.iconst 1, 1) := by decide +kernel
theorem d_FT_weightsFit_53 : decode b_FT_weightsFit 53 = .ok (.goto 4, 3) := by decide +kernel
theorem d_FT_weightsFit_56 : decode b_FT_weightsFit 56 = .ok (.iconst 0, 1) := by decide +kernel
theorem d_FT_weightsFit_57 : decode b_FT_weightsFit 57 = .ok (.istore 6, 2) := by decide +kernel
theorem d_FT_weightsFit_59 : decode b_FT_weightsFit 59 = .ok (.iload 5, 2) := by decide +kernel
theorem d_FT_weightsFit_61 : decode b_FT_weightsFit 61 = .ok (.ifCond .eq 24, 3) := by decide +kernel
theorem d_FT_weightsFit_64 : decode b_FT_weightsFit 64 = .ok (.iload 6, 2) := by decide +kernel
theorem d_FT_weightsFit_66 : decode b_FT_weightsFit 66 = .ok (.ifCond .eq 19, 3) := by decide +kernel
theorem d_FT_weightsFit_69 : decode b_FT_weightsFit 69 = .ok (.iload_n 1, 1) := by decide +kernel
theorem d_FT_weightsFit_70 : decode b_FT_weightsFit 70 = .ok (.ifCond .ne 11, 3) := by decide +kernel
theorem d_FT_weightsFit_73 : decode b_FT_weightsFit 73 = .ok (.iload_n 2, 1) := by decide +kernel
theorem d_FT_weightsFit_74 : decode b_FT_weightsFit 74 = .ok (.ifCond .ne 7, 3) := by decide +kernel
theorem d_FT_weightsFit_77 : decode b_FT_weightsFit 77 = .ok (.iload_n 3, 1) := by decide +kernel
theorem d_FT_weightsFit_78 : decode b_FT_weightsFit 78 = .ok (.ifCond .eq 7, 3) := by decide +kernel
theorem d_FT_weightsFit_81 : decode b_FT_weightsFit 81 = .ok (.iconst 1, 1) := by decide +kernel
theorem d_FT_weightsFit_82 : decode b_FT_weightsFit 82 = .ok (.goto 4, 3) := by decide +kernel
theorem d_FT_weightsFit_85 : decode b_FT_weightsFit 85 = .ok (.iconst 0, 1) := by decide +kernel
theorem d_FT_weightsFit_86 : decode b_FT_weightsFit 86 = .ok (.ireturn, 1) := by decide +kernel
theorem d_FT_within_0 : decode b_FT_within 0 = .ok (.iload_n 0, 1) := by decide +kernel
theorem d_FT_within_1 : decode b_FT_within 1 = .ok (.iload_n 1, 1) := by decide +kernel
theorem d_FT_within_2 : decode b_FT_within 2 = .ok (.ineg, 1) := by decide +kernel
theorem d_FT_within_3 : decode b_FT_within 3 = .ok (.if_icmp .lt 12, 3) := by decide +kernel
theorem d_FT_within_6 : decode b_FT_within 6 = .ok (.iload_n 0, 1) := by decide +kernel
theorem d_FT_within_7 : decode b_FT_within 7 = .ok (.iload_n 1, 1) := by decide +kernel
theorem d_FT_within_8 : decode b_FT_within 8 = .ok (.if_icmp .gt 7, 3) := by decide +kernel
theorem d_FT_within_11 : decode b_FT_within 11 = .ok (.iconst 1, 1) := by decide +kernel
theorem d_FT_within_12 : decode b_FT_within 12 = .ok (.goto 4, 3) := by decide +kernel
theorem d_FT_within_15 : decode b_FT_within 15 = .ok (.iconst 0, 1) := by decide +kernel
theorem d_FT_within_16 : decode b_FT_within 16 = .ok (.ireturn, 1) := by decide +kernel
theorem d_Rw_append_0 : decode b_Rw_append 0 = .ok (.aload_n 0, 1) := by decide +kernel
theorem d_Rw_append_1 : decode b_Rw_append 1 = .ok (.getfield 25, 3) := by decide +kernel
theorem d_Rw_append_4 : decode b_Rw_append 4 = .ok (.aload_n 0, 1) := by decide +kernel
theorem d_Rw_append_5 : decode b_Rw_append 5 = .ok (.getfield 15, 3) := by decide +kernel
theorem d_Rw_append_8 : decode b_Rw_append 8 = .ok (.if_icmp .lt 6, 3) := by decide +kernel
theorem d_Rw_append_11 : decode b_Rw_append 11 = .ok (.bipush (-4), 2) := by decide +kernel
theorem d_Rw_append_13 : decode b_Rw_append 13 = .ok (.ireturn, 1) := by decide +kernel
theorem d_Rw_append_14 : decode b_Rw_append 14 = .ok (.iconst 4, 1) := by decide +kernel
theorem d_Rw_append_15 : decode b_Rw_append 15 = .ok (.aload_n 0, 1) := by decide +kernel
theorem d_Rw_append_16 : decode b_Rw_append 16 = .ok (.getfield 25, 3) := by decide +kernel
theorem d_Rw_append_19 : decode b_Rw_append 19 = .ok (.imul, 1) := by decide +kernel
theorem d_Rw_append_20 : decode b_Rw_append 20 = .ok (.istore 5, 2) := by decide +kernel
theorem d_Rw_append_22 : decode b_Rw_append 22 = .ok (.aload_n 0, 1) := by decide +kernel
theorem d_Rw_append_23 : decode b_Rw_append 23 = .ok (.getfield 21, 3) := by decide +kernel
theorem d_Rw_append_26 : decode b_Rw_append 26 = .ok (.iload 5, 2) := by decide +kernel
theorem d_Rw_append_28 : decode b_Rw_append 28 = .ok (.iload_n 1, 1) := by decide +kernel
theorem d_Rw_append_29 : decode b_Rw_append 29 = .ok (.iastore, 1) := by decide +kernel
theorem d_Rw_append_30 : decode b_Rw_append 30 = .ok (.aload_n 0, 1) := by decide +kernel
theorem d_Rw_append_31 : decode b_Rw_append 31 = .ok (.getfield 21, 3) := by decide +kernel
theorem d_Rw_append_34 : decode b_Rw_append 34 = .ok (.iload 5, 2) := by decide +kernel
theorem d_Rw_append_36 : decode b_Rw_append 36 = .ok (.iconst 1, 1) := by decide +kernel
theorem d_Rw_append_37 : decode b_Rw_append 37 = .ok (.iadd, 1) := by decide +kernel
theorem d_Rw_append_38 : decode b_Rw_append 38 = .ok (.iload_n 2, 1) := by decide +kernel
theorem d_Rw_append_39 : decode b_Rw_append 39 = .ok (.iastore, 1) := by decide +kernel
theorem d_Rw_append_40 : decode b_Rw_append 40 = .ok (.aload_n 0, 1) := by decide +kernel
theorem d_Rw_append_41 : decode b_Rw_append 41 = .ok (.getfield 21, 3) := by decide +kernel
theorem d_Rw_append_44 : decode b_Rw_append 44 = .ok (.iload 5, 2) := by decide +kernel
theorem d_Rw_append_46 : decode b_Rw_append 46 = .ok (.iconst 2, 1) := by decide +kernel
theorem d_Rw_append_47 : decode b_Rw_append 47 = .ok (.iadd, 1) := by decide +kernel
theorem d_Rw_append_48 : decode b_Rw_append 48 = .ok (.iload_n 3, 1) := by decide +kernel
theorem d_Rw_append_49 : decode b_Rw_append 49 = .ok (.iastore, 1) := by decide +kernel
theorem d_Rw_append_50 : decode b_Rw_append 50 = .ok (.aload_n 0, 1) := by decide +kernel
theorem d_Rw_append_51 : decode b_Rw_append 51 = .ok (.getfield 21, 3) := by decide +kernel
theorem d_Rw_append_54 : decode b_Rw_append 54 = .ok (.iload 5, 2) := by decide +kernel
theorem d_Rw_append_56 : decode b_Rw_append 56 = .ok (.iconst 3, 1) := by decide +kernel
theorem d_Rw_append_57 : decode b_Rw_append 57 = .ok (.iadd, 1) := by decide +kernel
theorem d_Rw_append_58 : decode b_Rw_append 58 = .ok (.iload 4, 2) := by decide +kernel
theorem d_Rw_append_60 : decode b_Rw_append 60 = .ok (.iastore, 1) := by decide +kernel
theorem d_Rw_append_61 : decode b_Rw_append 61 = .ok (.aload_n 0, 1) := by decide +kernel
theorem d_Rw_append_62 : decode b_Rw_append 62 = .ok (.dup, 1) := by decide +kernel
theorem d_Rw_append_63 : decode b_Rw_append 63 = .ok (.getfield 25, 3) := by decide +kernel
theorem d_Rw_append_66 : decode b_Rw_append 66 = .ok (.iconst 1, 1) := by decide +kernel
theorem d_Rw_append_67 : decode b_Rw_append 67 = .ok (.iadd, 1) := by decide +kernel
theorem d_Rw_append_68 : decode b_Rw_append 68 = .ok (.putfield 25, 3) := by decide +kernel
theorem d_Rw_append_71 : decode b_Rw_append 71 = .ok (.aload_n 0, 1) := by decide +kernel
theorem d_Rw_append_72 : decode b_Rw_append 72 = .ok (.getfield 25, 3) := by decide +kernel
theorem d_Rw_append_75 : decode b_Rw_append 75 = .ok (.ireturn, 1) := by decide +kernel
theorem d_FT_way_0 : decode b_FT_way 0 = .ok (.aload_n 0, 1) := by decide +kernel
theorem d_FT_way_1 : decode b_FT_way 1 = .ok (.iload_n 1, 1) := by decide +kernel
theorem d_FT_way_2 : decode b_FT_way 2 = .ok (.invokevirtual 61, 3) := by decide +kernel
theorem d_FT_way_5 : decode b_FT_way 5 = .ok (.ifCond .eq 15, 3) := by decide +kernel
theorem d_FT_way_8 : decode b_FT_way 8 = .ok (.aload_n 0, 1) := by decide +kernel
theorem d_FT_way_9 : decode b_FT_way 9 = .ok (.getfield 11, 3) := by decide +kernel
theorem d_FT_way_12 : decode b_FT_way 12 = .ok (.iload_n 1, 1) := by decide +kernel
theorem d_FT_way_13 : decode b_FT_way 13 = .ok (.aaload, 1) := by decide +kernel
theorem d_FT_way_14 : decode b_FT_way 14 = .ok (.invokevirtual 79, 3) := by decide +kernel
theorem d_FT_way_17 : decode b_FT_way 17 = .ok (.goto 5, 3) := by decide +kernel
theorem d_FT_way_20 : decode b_FT_way 20 = .ok (.bipush (-2), 2) := by decide +kernel
theorem d_FT_way_22 : decode b_FT_way 22 = .ok (.ireturn, 1) := by decide +kernel
theorem d_Lp_appendWay_0 : decode b_Lp_appendWay 0 = .ok (.aload_n 0, 1) := by decide +kernel
theorem d_Lp_appendWay_1 : decode b_Lp_appendWay 1 = .ok (.getfield 41, 3) := by decide +kernel
theorem d_Lp_appendWay_4 : decode b_Lp_appendWay 4 = .ok (.iconst 3, 1) := by decide +kernel
theorem d_Lp_appendWay_5 : decode b_Lp_appendWay 5 = .ok (.if_icmp .lt 6, 3) := by decide +kernel
theorem d_Lp_appendWay_8 : decode b_Lp_appendWay 8 = .ok (.bipush (-4), 2) := by decide +kernel
theorem d_Lp_appendWay_10 : decode b_Lp_appendWay 10 = .ok (.ireturn, 1) := by decide +kernel
theorem d_Lp_appendWay_11 : decode b_Lp_appendWay 11 = .ok (.aload_n 0, 1) := by decide +kernel
theorem d_Lp_appendWay_12 : decode b_Lp_appendWay 12 = .ok (.getfield 22, 3) := by decide +kernel
theorem d_Lp_appendWay_15 : decode b_Lp_appendWay 15 = .ok (.aload_n 0, 1) := by decide +kernel
theorem d_Lp_appendWay_16 : decode b_Lp_appendWay 16 = .ok (.getfield 41, 3) := by decide +kernel
theorem d_Lp_appendWay_19 : decode b_Lp_appendWay 19 = .ok (.aaload, 1) := by decide +kernel
theorem d_Lp_appendWay_20 : decode b_Lp_appendWay 20 = .ok (.invokevirtual 44, 3) := by decide +kernel
theorem d_Lp_appendWay_23 : decode b_Lp_appendWay 23 = .ok (.aload_n 0, 1) := by decide +kernel
theorem d_Lp_appendWay_24 : decode b_Lp_appendWay 24 = .ok (.dup, 1) := by decide +kernel
theorem d_Lp_appendWay_25 : decode b_Lp_appendWay 25 = .ok (.getfield 41, 3) := by decide +kernel
theorem d_Lp_appendWay_28 : decode b_Lp_appendWay 28 = .ok (.iconst 1, 1) := by decide +kernel
theorem d_Lp_appendWay_29 : decode b_Lp_appendWay 29 = .ok (.iadd, 1) := by decide +kernel
theorem d_Lp_appendWay_30 : decode b_Lp_appendWay 30 = .ok (.putfield 41, 3) := by decide +kernel
theorem d_Lp_appendWay_33 : decode b_Lp_appendWay 33 = .ok (.aload_n 0, 1) := by decide +kernel
theorem d_Lp_appendWay_34 : decode b_Lp_appendWay 34 = .ok (.getfield 41, 3) := by decide +kernel
theorem d_Lp_appendWay_37 : decode b_Lp_appendWay 37 = .ok (.iconst 1, 1) := by decide +kernel
theorem d_Lp_appendWay_38 : decode b_Lp_appendWay 38 = .ok (.isub, 1) := by decide +kernel
theorem d_Lp_appendWay_39 : decode b_Lp_appendWay 39 = .ok (.ireturn, 1) := by decide +kernel
theorem d_Wy_begin_0 : decode b_Wy_begin 0 = .ok (.aload_n 0, 1) := by decide +kernel
theorem d_Wy_begin_1 : decode b_Wy_begin 1 = .ok (.getfield 14, 3) := by decide +kernel
theorem d_Wy_begin_4 : decode b_Wy_begin 4 = .ok (.iconst 0, 1) := by decide +kernel
theorem d_Wy_begin_5 : decode b_Wy_begin 5 = .ok (.putfield 27, 3) := by decide +kernel
theorem d_Wy_begin_8 : decode b_Wy_begin 8 = .ok (.iconst 0, 1) := by decide +kernel
theorem d_Wy_begin_9 : decode b_Wy_begin 9 = .ok (.istore_n 1, 1) := by decide +kernel
theorem d_Wy_begin_10 : decode b_Wy_begin 10 = .ok (.iload_n 1, 1) := by decide +kernel
theorem d_Wy_begin_11 : decode b_Wy_begin 11 = .ok (.iconst 3, 1) := by decide +kernel
theorem d_Wy_begin_12 : decode b_Wy_begin 12 = .ok (.if_icmp .ge 49, 3) := by decide +kernel
theorem d_Wy_begin_15 : decode b_Wy_begin 15 = .ok (.aload_n 0, 1) := by decide +kernel
theorem d_Wy_begin_16 : decode b_Wy_begin 16 = .ok (.getfield 24, 3) := by decide +kernel
theorem d_Wy_begin_19 : decode b_Wy_begin 19 = .ok (.iload_n 1, 1) := by decide +kernel
theorem d_Wy_begin_20 : decode b_Wy_begin 20 = .ok (.iconst 0, 1) := by decide +kernel
theorem d_Wy_begin_21 : decode b_Wy_begin 21 = .ok (.iastore, 1) := by decide +kernel
theorem d_Wy_begin_22 : decode b_Wy_begin 22 = .ok (.iconst 0, 1) := by decide +kernel
theorem d_Wy_begin_23 : decode b_Wy_begin 23 = .ok (.istore_n 2, 1) := by decide +kernel
theorem d_Wy_begin_24 : decode b_Wy_begin 24 = .ok (.iload_n 2, 1) := by decide +kernel
theorem d_Wy_begin_25 : decode b_Wy_begin 25 = .ok (.iconst 3, 1) := by decide +kernel
theorem d_Wy_begin_26 : decode b_Wy_begin 26 = .ok (.if_icmp .ge 29, 3) := by decide +kernel
theorem d_Wy_begin_29 : decode b_Wy_begin 29 = .ok (.aload_n 0, 1) := by decide +kernel
theorem d_Wy_begin_30 : decode b_Wy_begin 30 = .ok (.getfield 20, 3) := by decide +kernel
theorem d_Wy_begin_33 : decode b_Wy_begin 33 = .ok (.iconst 3, 1) := by decide +kernel
theorem d_Wy_begin_34 : decode b_Wy_begin 34 = .ok (.iload_n 1, 1) := by decide +kernel
theorem d_Wy_begin_35 : decode b_Wy_begin 35 = .ok (.imul, 1) := by decide +kernel
theorem d_Wy_begin_36 : decode b_Wy_begin 36 = .ok (.iload_n 2, 1) := by decide +kernel
theorem d_Wy_begin_37 : decode b_Wy_begin 37 = .ok (.iadd, 1) := by decide +kernel
theorem d_Wy_begin_38 : decode b_Wy_begin 38 = .ok (.iload_n 1, 1) := by decide +kernel
theorem d_Wy_begin_39 : decode b_Wy_begin 39 = .ok (.iload_n 2, 1) := by decide +kernel
theorem d_Wy_begin_40 : decode b_Wy_begin 40 = .ok (.if_icmp .ne 7, 3) := by decide +kernel
theorem d_Wy_begin_43 : decode b_Wy_begin 43 = .ok (.iconst 1, 1) := by decide +kernel
theorem d_Wy_begin_44 : decode b_Wy_begin 44 = .ok (.goto 4, 3) := by decide +kernel
theorem d_Wy_begin_47 : decode b_Wy_begin 47 = .ok (.iconst 0, 1) := by decide +kernel
theorem d_Wy_begin_48 : decode b_Wy_begin 48 = .ok (.iastore, 1) := by decide +kernel
theorem d_Wy_begin_49 : decode b_Wy_begin 49 = .ok (.iinc 2 1, 3) := by decide +kernel
theorem d_Wy_begin_52 : decode b_Wy_begin 52 = .ok (.goto (-28), 3) := by decide +kernel
theorem d_Wy_begin_55 : decode b_Wy_begin 55 = .ok (.iinc 1 1, 3) := by decide +kernel
theorem d_Wy_begin_58 : decode b_Wy_begin 58 = .ok (.goto (-48), 3) := by decide +kernel
theorem d_Wy_begin_61 : decode b_Wy_begin 61 = .ok (.return_, 1) := by decide +kernel
theorem d_FT_row_0 : decode b_FT_row 0 = .ok (.aload_n 0, 1) := by decide +kernel
theorem d_FT_row_1 : decode b_FT_row 1 = .ok (.iload_n 1, 1) := by decide +kernel
theorem d_FT_row_2 : decode b_FT_row 2 = .ok (.iload_n 2, 1) := by decide +kernel
theorem d_FT_row_3 : decode b_FT_row 3 = .ok (.invokevirtual 83, 3) := by decide +kernel
theorem d_FT_row_6 : decode b_FT_row 6 = .ok (.ifCond .ne 6, 3) := by decide +kernel
theorem d_FT_row_9 : decode b_FT_row 9 = .ok (.bipush (-2), 2) := by decide +kernel
theorem d_FT_row_11 : decode b_FT_row 11 = .ok (.ireturn, 1) := by decide +kernel
theorem d_FT_row_12 : decode b_FT_row 12 = .ok (.aload_n 0, 1) := by decide +kernel
theorem d_FT_row_13 : decode b_FT_row 13 = .ok (.iload_n 1, 1) := by decide +kernel
theorem d_FT_row_14 : decode b_FT_row 14 = .ok (.iload_n 3, 1) := by decide +kernel
theorem d_FT_row_15 : decode b_FT_row 15 = .ok (.iload 4, 2) := by decide +kernel
theorem d_FT_row_17 : decode b_FT_row 17 = .ok (.iload 5, 2) := by decide +kernel
theorem d_FT_row_19 : decode b_FT_row 19 = .ok (.iload 6, 2) := by decide +kernel
theorem d_FT_row_21 : decode b_FT_row 21 = .ok (.invokevirtual 65, 3) := by decide +kernel
theorem d_FT_row_24 : decode b_FT_row 24 = .ok (.ifCond .ne 6, 3) := by decide +kernel
theorem d_FT_row_27 : decode b_FT_row 27 = .ok (.bipush (-3), 2) := by decide +kernel
theorem d_FT_row_29 : decode b_FT_row 29 = .ok (.ireturn, 1) := by decide +kernel
theorem d_FT_row_30 : decode b_FT_row 30 = .ok (.aload_n 0, 1) := by decide +kernel
theorem d_FT_row_31 : decode b_FT_row 31 = .ok (.getfield 11, 3) := by decide +kernel
theorem d_FT_row_34 : decode b_FT_row 34 = .ok (.iload_n 1, 1) := by decide +kernel
theorem d_FT_row_35 : decode b_FT_row 35 = .ok (.aaload, 1) := by decide +kernel
theorem d_FT_row_36 : decode b_FT_row 36 = .ok (.getfield 87, 3) := by decide +kernel
theorem d_FT_row_39 : decode b_FT_row 39 = .ok (.iload_n 2, 1) := by decide +kernel
theorem d_FT_row_40 : decode b_FT_row 40 = .ok (.aaload, 1) := by decide +kernel
theorem d_FT_row_41 : decode b_FT_row 41 = .ok (.getfield 91, 3) := by decide +kernel
theorem d_FT_row_44 : decode b_FT_row 44 = .ok (.iload_n 3, 1) := by decide +kernel
theorem d_FT_row_45 : decode b_FT_row 45 = .ok (.iload 4, 2) := by decide +kernel
theorem d_FT_row_47 : decode b_FT_row 47 = .ok (.iload 5, 2) := by decide +kernel
theorem d_FT_row_49 : decode b_FT_row 49 = .ok (.iload 6, 2) := by decide +kernel
theorem d_FT_row_51 : decode b_FT_row 51 = .ok (.invokevirtual 73, 3) := by decide +kernel
theorem d_FT_row_54 : decode b_FT_row 54 = .ok (.ireturn, 1) := by decide +kernel
theorem d_FT_isWay_0 : decode b_FT_isWay 0 = .ok (.aload_n 0, 1) := by decide +kernel
theorem d_FT_isWay_1 : decode b_FT_isWay 1 = .ok (.iload_n 1, 1) := by decide +kernel
theorem d_FT_isWay_2 : decode b_FT_isWay 2 = .ok (.invokevirtual 61, 3) := by decide +kernel
theorem d_FT_isWay_5 : decode b_FT_isWay 5 = .ok (.ifCond .eq 24, 3) := by decide +kernel
theorem d_FT_isWay_8 : decode b_FT_isWay 8 = .ok (.iload_n 2, 1) := by decide +kernel
theorem d_FT_isWay_9 : decode b_FT_isWay 9 = .ok (.ifCond .lt 20, 3) := by decide +kernel
theorem d_FT_isWay_12 : decode b_FT_isWay 12 = .ok (.iload_n 2, 1) := by decide +kernel
theorem d_FT_isWay_13 : decode b_FT_isWay 13 = .ok (.aload_n 0, 1) := by decide +kernel
theorem d_FT_isWay_14 : decode b_FT_isWay 14 = .ok (.getfield 11, 3) := by decide +kernel
theorem d_FT_isWay_17 : decode b_FT_isWay 17 = .ok (.iload_n 1, 1) := by decide +kernel
theorem d_FT_isWay_18 : decode b_FT_isWay 18 = .ok (.aaload, 1) := by decide +kernel
theorem d_FT_isWay_19 : decode b_FT_isWay 19 = .ok (.getfield 111, 3) := by decide +kernel
theorem d_FT_isWay_22 : decode b_FT_isWay 22 = .ok (.if_icmp .ge 7, 3) := by decide +kernel
theorem d_FT_isWay_25 : decode b_FT_isWay 25 = .ok (.iconst 1, 1) := by decide +kernel
theorem d_FT_isWay_26 : decode b_FT_isWay 26 = .ok (.goto 4, 3) := by decide +kernel
theorem d_FT_isWay_29 : decode b_FT_isWay 29 = .ok (.iconst 0, 1) := by decide +kernel
theorem d_FT_isWay_30 : decode b_FT_isWay 30 = .ok (.ireturn, 1) := by decide +kernel
theorem d_FT_factor_0 : decode b_FT_factor 0 = .ok (.aload_n 0, 1) := by decide +kernel
theorem d_FT_factor_1 : decode b_FT_factor 1 = .ok (.iload_n 1, 1) := by decide +kernel
theorem d_FT_factor_2 : decode b_FT_factor 2 = .ok (.iload_n 2, 1) := by decide +kernel
theorem d_FT_factor_3 : decode b_FT_factor 3 = .ok (.invokevirtual 83, 3) := by decide +kernel
theorem d_FT_factor_6 : decode b_FT_factor 6 = .ok (.ifCond .eq 22, 3) := by decide +kernel
theorem d_FT_factor_9 : decode b_FT_factor 9 = .ok (.aload_n 0, 1) := by decide +kernel
theorem d_FT_factor_10 : decode b_FT_factor 10 = .ok (.iload_n 1, 1) := by decide +kernel
theorem d_FT_factor_11 : decode b_FT_factor 11 = .ok (.iload_n 3, 1) := by decide +kernel
theorem d_FT_factor_12 : decode b_FT_factor 12 = .ok (.invokevirtual 96, 3) := by decide +kernel
theorem d_FT_factor_15 : decode b_FT_factor 15 = .ok (.ifCond .eq 13, 3) := by decide +kernel
theorem d_FT_factor_18 : decode b_FT_factor 18 = .ok (.aload_n 0, 1) := by decide +kernel
theorem d_FT_factor_19 : decode b_FT_factor 19 = .ok (.iload_n 1, 1) := by decide +kernel
theorem d_FT_factor_20 : decode b_FT_factor 20 = .ok (.iload 4, 2) := by decide +kernel
theorem d_FT_factor_22 : decode b_FT_factor 22 = .ok (.invokevirtual 96, 3) := by decide +kernel
theorem d_FT_factor_25 : decode b_FT_factor 25 = .ok (.ifCond .ne 6, 3) := by decide +kernel
theorem d_FT_factor_28 : decode b_FT_factor 28 = .ok (.bipush (-2), 2) := by decide +kernel
theorem d_FT_factor_30 : decode b_FT_factor 30 = .ok (.ireturn, 1) := by decide +kernel
theorem d_FT_factor_31 : decode b_FT_factor 31 = .ok (.iload 5, 2) := by decide +kernel
theorem d_FT_factor_33 : decode b_FT_factor 33 = .ok (.iconst 3, 1) := by decide +kernel
theorem d_FT_factor_34 : decode b_FT_factor 34 = .ok (.invokestatic 99, 3) := by decide +kernel
theorem d_FT_factor_37 : decode b_FT_factor 37 = .ok (.ifCond .ne 6, 3) := by decide +kernel
theorem d_FT_factor_40 : decode b_FT_factor 40 = .ok (.bipush (-3), 2) := by decide +kernel
theorem d_FT_factor_42 : decode b_FT_factor 42 = .ok (.ireturn, 1) := by decide +kernel
theorem d_FT_factor_43 : decode b_FT_factor 43 = .ok (.aload_n 0, 1) := by decide +kernel
theorem d_FT_factor_44 : decode b_FT_factor 44 = .ok (.getfield 11, 3) := by decide +kernel
theorem d_FT_factor_47 : decode b_FT_factor 47 = .ok (.iload_n 1, 1) := by decide +kernel
theorem d_FT_factor_48 : decode b_FT_factor 48 = .ok (.aaload, 1) := by decide +kernel
theorem d_FT_factor_49 : decode b_FT_factor 49 = .ok (.getfield 87, 3) := by decide +kernel
theorem d_FT_factor_52 : decode b_FT_factor 52 = .ok (.iload_n 2, 1) := by decide +kernel
theorem d_FT_factor_53 : decode b_FT_factor 53 = .ok (.aaload, 1) := by decide +kernel
theorem d_FT_factor_54 : decode b_FT_factor 54 = .ok (.getfield 102, 3) := by decide +kernel
theorem d_FT_factor_57 : decode b_FT_factor 57 = .ok (.astore 6, 2) := by decide +kernel
theorem d_FT_factor_59 : decode b_FT_factor 59 = .ok (.iconst 3, 1) := by decide +kernel
theorem d_FT_factor_60 : decode b_FT_factor 60 = .ok (.iload_n 3, 1) := by decide +kernel
theorem d_FT_factor_61 : decode b_FT_factor 61 = .ok (.imul, 1) := by decide +kernel
theorem d_FT_factor_62 : decode b_FT_factor 62 = .ok (.iload 4, 2) := by decide +kernel
theorem d_FT_factor_64 : decode b_FT_factor 64 = .ok (.iadd, 1) := by decide +kernel
theorem d_FT_factor_65 : decode b_FT_factor 65 = .ok (.istore 7, 2) := by decide +kernel
theorem d_FT_factor_67 : decode b_FT_factor 67 = .ok (.aload 6, 2) := by decide +kernel
theorem d_FT_factor_69 : decode b_FT_factor 69 = .ok (.iload 7, 2) := by decide +kernel
theorem d_FT_factor_71 : decode b_FT_factor 71 = .ok (.iaload, 1) := by decide +kernel
theorem d_FT_factor_72 : decode b_FT_factor 72 = .ok (.istore 8, 2) := by decide +kernel
theorem d_FT_factor_74 : decode b_FT_factor 74 = .ok (.aload 6, 2) := by decide +kernel
theorem d_FT_factor_76 : decode b_FT_factor 76 = .ok (.iload 7, 2) := by decide +kernel
theorem d_FT_factor_78 : decode b_FT_factor 78 = .ok (.iload 5, 2) := by decide +kernel
theorem d_FT_factor_80 : decode b_FT_factor 80 = .ok (.iastore, 1) := by decide +kernel
theorem d_FT_factor_81 : decode b_FT_factor 81 = .ok (.iload 8, 2) := by decide +kernel
theorem d_FT_factor_83 : decode b_FT_factor 83 = .ok (.iconst 3, 1) := by decide +kernel
theorem d_FT_factor_84 : decode b_FT_factor 84 = .ok (.iadd, 1) := by decide +kernel
theorem d_FT_factor_85 : decode b_FT_factor 85 = .ok (.ireturn, 1) := by decide +kernel
theorem d_FT_isName_0 : decode b_FT_isName 0 = .ok (.aload_n 0, 1) := by decide +kernel
theorem d_FT_isName_1 : decode b_FT_isName 1 = .ok (.iload_n 1, 1) := by decide +kernel
theorem d_FT_isName_2 : decode b_FT_isName 2 = .ok (.invokevirtual 61, 3) := by decide +kernel
theorem d_FT_isName_5 : decode b_FT_isName 5 = .ok (.ifCond .eq 24, 3) := by decide +kernel
theorem d_FT_isName_8 : decode b_FT_isName 8 = .ok (.iload_n 2, 1) := by decide +kernel
theorem d_FT_isName_9 : decode b_FT_isName 9 = .ok (.ifCond .lt 20, 3) := by decide +kernel
theorem d_FT_isName_12 : decode b_FT_isName 12 = .ok (.iload_n 2, 1) := by decide +kernel
theorem d_FT_isName_13 : decode b_FT_isName 13 = .ok (.aload_n 0, 1) := by decide +kernel
theorem d_FT_isName_14 : decode b_FT_isName 14 = .ok (.getfield 11, 3) := by decide +kernel
theorem d_FT_isName_17 : decode b_FT_isName 17 = .ok (.iload_n 1, 1) := by decide +kernel
theorem d_FT_isName_18 : decode b_FT_isName 18 = .ok (.aaload, 1) := by decide +kernel
theorem d_FT_isName_19 : decode b_FT_isName 19 = .ok (.getfield 108, 3) := by decide +kernel
theorem d_FT_isName_22 : decode b_FT_isName 22 = .ok (.if_icmp .ge 7, 3) := by decide +kernel
theorem d_FT_isName_25 : decode b_FT_isName 25 = .ok (.iconst 1, 1) := by decide +kernel
theorem d_FT_isName_26 : decode b_FT_isName 26 = .ok (.goto 4, 3) := by decide +kernel
theorem d_FT_isName_29 : decode b_FT_isName 29 = .ok (.iconst 0, 1) := by decide +kernel
theorem d_FT_isName_30 : decode b_FT_isName 30 = .ok (.ireturn, 1) := by decide +kernel
theorem d_FT_constant_0 : decode b_FT_constant 0 = .ok (.aload_n 0, 1) := by decide +kernel
theorem d_FT_constant_1 : decode b_FT_constant 1 = .ok (.iload_n 1, 1) := by decide +kernel
theorem d_FT_constant_2 : decode b_FT_constant 2 = .ok (.iload_n 2, 1) := by decide +kernel
theorem d_FT_constant_3 : decode b_FT_constant 3 = .ok (.invokevirtual 83, 3) := by decide +kernel
theorem d_FT_constant_6 : decode b_FT_constant 6 = .ok (.ifCond .eq 12, 3) := by decide +kernel
theorem d_FT_constant_9 : decode b_FT_constant 9 = .ok (.aload_n 0, 1) := by decide +kernel
theorem d_FT_constant_10 : decode b_FT_constant 10 = .ok (.iload_n 1, 1) := by decide +kernel
theorem d_FT_constant_11 : decode b_FT_constant 11 = .ok (.iload_n 3, 1) := by decide +kernel
theorem d_FT_constant_12 : decode b_FT_constant 12 = .ok (.invokevirtual 96, 3) := by decide +kernel
theorem d_FT_constant_15 : decode b_FT_constant 15 = .ok (.ifCond .ne 6, 3) := by decide +kernel
theorem d_FT_constant_18 : decode b_FT_constant 18 = .ok (.bipush (-2), 2) := by decide +kernel
theorem d_FT_constant_20 : decode b_FT_constant 20 = .ok (.ireturn, 1) := by decide +kernel
theorem d_FT_constant_21 : decode b_FT_constant 21 = .ok (.iload 4, 2) := by decide +kernel
theorem d_FT_constant_23 : decode b_FT_constant 23 = .ok (.bipush 99, 2) := by decide +kernel
theorem d_FT_constant_25 : decode b_FT_constant 25 = .ok (.invokestatic 99, 3) := by decide +kernel
theorem d_FT_constant_28 : decode b_FT_constant 28 = .ok (.ifCond .ne 6, 3) := by decide +kernel
theorem d_FT_constant_31 : decode b_FT_constant 31 = .ok (.bipush (-3), 2) := by decide +kernel
theorem d_FT_constant_33 : decode b_FT_constant 33 = .ok (.ireturn, 1) := by decide +kernel
theorem d_FT_constant_34 : decode b_FT_constant 34 = .ok (.aload_n 0, 1) := by decide +kernel
theorem d_FT_constant_35 : decode b_FT_constant 35 = .ok (.getfield 11, 3) := by decide +kernel
theorem d_FT_constant_38 : decode b_FT_constant 38 = .ok (.iload_n 1, 1) := by decide +kernel
theorem d_FT_constant_39 : decode b_FT_constant 39 = .ok (.aaload, 1) := by decide +kernel
theorem d_FT_constant_40 : decode b_FT_constant 40 = .ok (.getfield 87, 3) := by decide +kernel
theorem d_FT_constant_43 : decode b_FT_constant 43 = .ok (.iload_n 2, 1) := by decide +kernel
theorem d_FT_constant_44 : decode b_FT_constant 44 = .ok (.aaload, 1) := by decide +kernel
theorem d_FT_constant_45 : decode b_FT_constant 45 = .ok (.getfield 105, 3) := by decide +kernel
theorem d_FT_constant_48 : decode b_FT_constant 48 = .ok (.astore 5, 2) := by decide +kernel
theorem d_FT_constant_50 : decode b_FT_constant 50 = .ok (.aload 5, 2) := by decide +kernel
theorem d_FT_constant_52 : decode b_FT_constant 52 = .ok (.iload_n 3, 1) := by decide +kernel
theorem d_FT_constant_53 : decode b_FT_constant 53 = .ok (.iaload, 1) := by decide +kernel
theorem d_FT_constant_54 : decode b_FT_constant 54 = .ok (.istore 6, 2) := by decide +kernel
theorem d_FT_constant_56 : decode b_FT_constant 56 = .ok (.aload 5, 2) := by decide +kernel
theorem d_FT_constant_58 : decode b_FT_constant 58 = .ok (.iload_n 3, 1) := by decide +kernel
theorem d_FT_constant_59 : decode b_FT_constant 59 = .ok (.iload 4, 2) := by decide +kernel
theorem d_FT_constant_61 : decode b_FT_constant 61 = .ok (.iastore, 1) := by decide +kernel
theorem d_FT_constant_62 : decode b_FT_constant 62 = .ok (.iload 6, 2) := by decide +kernel
theorem d_FT_constant_64 : decode b_FT_constant 64 = .ok (.bipush 99, 2) := by decide +kernel
theorem d_FT_constant_66 : decode b_FT_constant 66 = .ok (.iadd, 1) := by decide +kernel
theorem d_FT_constant_67 : decode b_FT_constant 67 = .ok (.ireturn, 1) := by decide +kernel
theorem d_FT_told_0 : decode b_FT_told 0 = .ok (.aload_n 0, 1) := by decide +kernel
theorem d_FT_told_1 : decode b_FT_told 1 = .ok (.iload_n 1, 1) := by decide +kernel
theorem d_FT_told_2 : decode b_FT_told 2 = .ok (.invokevirtual 61, 3) := by decide +kernel
theorem d_FT_told_5 : decode b_FT_told 5 = .ok (.ifCond .ne 6, 3) := by decide +kernel
theorem d_FT_told_8 : decode b_FT_told 8 = .ok (.bipush (-2), 2) := by decide +kernel
theorem d_FT_told_10 : decode b_FT_told 10 = .ok (.ireturn, 1) := by decide +kernel
theorem d_FT_told_11 : decode b_FT_told 11 = .ok (.iload_n 2, 1) := by decide +kernel
theorem d_FT_told_12 : decode b_FT_told 12 = .ok (.tableswitch 61 0 2 #[28, 38, 48], 28) := by decide +kernel
theorem d_FT_told_40 : decode b_FT_told 40 = .ok (.aload_n 0, 1) := by decide +kernel
theorem d_FT_told_41 : decode b_FT_told 41 = .ok (.getfield 11, 3) := by decide +kernel
theorem d_FT_told_44 : decode b_FT_told 44 = .ok (.iload_n 1, 1) := by decide +kernel
theorem d_FT_told_45 : decode b_FT_told 45 = .ok (.aaload, 1) := by decide +kernel
theorem d_FT_told_46 : decode b_FT_told 46 = .ok (.getfield 108, 3) := by decide +kernel
theorem d_FT_told_49 : decode b_FT_told 49 = .ok (.ireturn, 1) := by decide +kernel
theorem d_FT_told_50 : decode b_FT_told 50 = .ok (.aload_n 0, 1) := by decide +kernel
theorem d_FT_told_51 : decode b_FT_told 51 = .ok (.getfield 11, 3) := by decide +kernel
theorem d_FT_told_54 : decode b_FT_told 54 = .ok (.iload_n 1, 1) := by decide +kernel
theorem d_FT_told_55 : decode b_FT_told 55 = .ok (.aaload, 1) := by decide +kernel
theorem d_FT_told_56 : decode b_FT_told 56 = .ok (.getfield 111, 3) := by decide +kernel
theorem d_FT_told_59 : decode b_FT_told 59 = .ok (.ireturn, 1) := by decide +kernel
theorem d_FT_told_60 : decode b_FT_told 60 = .ok (.aload_n 0, 1) := by decide +kernel
theorem d_FT_told_61 : decode b_FT_told 61 = .ok (.getfield 11, 3) := by decide +kernel
theorem d_FT_told_64 : decode b_FT_told 64 = .ok (.iload_n 1, 1) := by decide +kernel
theorem d_FT_told_65 : decode b_FT_told 65 = .ok (.aaload, 1) := by decide +kernel
theorem d_FT_told_66 : decode b_FT_told 66 = .ok (.getfield 69, 3) := by decide +kernel
theorem d_FT_told_69 : decode b_FT_told 69 = .ok (.getfield 114, 3) := by decide +kernel
theorem d_FT_told_72 : decode b_FT_told 72 = .ok (.ireturn, 1) := by decide +kernel
theorem d_FT_told_73 : decode b_FT_told 73 = .ok (.bipush (-3), 2) := by decide +kernel
theorem d_FT_told_75 : decode b_FT_told 75 = .ok (.ireturn, 1) := by decide +kernel
theorem d_FT_empty_0 : decode b_FT_empty 0 = .ok (.aload_n 0, 1) := by decide +kernel
theorem d_FT_empty_1 : decode b_FT_empty 1 = .ok (.iload_n 1, 1) := by decide +kernel
theorem d_FT_empty_2 : decode b_FT_empty 2 = .ok (.iload_n 2, 1) := by decide +kernel
theorem d_FT_empty_3 : decode b_FT_empty 3 = .ok (.invokevirtual 83, 3) := by decide +kernel
theorem d_FT_empty_6 : decode b_FT_empty 6 = .ok (.ifCond .ne 6, 3) := by decide +kernel
theorem d_FT_empty_9 : decode b_FT_empty 9 = .ok (.bipush (-2), 2) := by decide +kernel
theorem d_FT_empty_11 : decode b_FT_empty 11 = .ok (.ireturn, 1) := by decide +kernel
theorem d_FT_empty_12 : decode b_FT_empty 12 = .ok (.aload_n 0, 1) := by decide +kernel
theorem d_FT_empty_13 : decode b_FT_empty 13 = .ok (.iload_n 1, 1) := by decide +kernel
theorem d_FT_empty_14 : decode b_FT_empty 14 = .ok (.iload_n 2, 1) := by decide +kernel
theorem d_FT_empty_15 : decode b_FT_empty 15 = .ok (.invokevirtual 117, 3) := by decide +kernel
theorem d_FT_empty_18 : decode b_FT_empty 18 = .ok (.invokevirtual 121, 3) := by decide +kernel
theorem d_FT_empty_21 : decode b_FT_empty 21 = .ok (.ifCond .eq 7, 3) := by decide +kernel
theorem d_FT_empty_24 : decode b_FT_empty 24 = .ok (.iconst 1, 1) := by decide +kernel
theorem d_FT_empty_25 : decode b_FT_empty 25 = .ok (.goto 4, 3) := by decide +kernel
theorem d_FT_empty_28 : decode b_FT_empty 28 = .ok (.iconst 0, 1) := by decide +kernel
theorem d_FT_empty_29 : decode b_FT_empty 29 = .ok (.ireturn, 1) := by decide +kernel
theorem d_FT_spaceOf_0 : decode b_FT_spaceOf 0 = .ok (.aload_n 0, 1) := by decide +kernel
theorem d_FT_spaceOf_1 : decode b_FT_spaceOf 1 = .ok (.getfield 17, 3) := by decide +kernel
theorem d_FT_spaceOf_4 : decode b_FT_spaceOf 4 = .ok (.iload_n 2, 1) := by decide +kernel
theorem d_FT_spaceOf_5 : decode b_FT_spaceOf 5 = .ok (.aaload, 1) := by decide +kernel
theorem d_FT_spaceOf_6 : decode b_FT_spaceOf 6 = .ok (.aload_n 0, 1) := by decide +kernel
theorem d_FT_spaceOf_7 : decode b_FT_spaceOf 7 = .ok (.getfield 11, 3) := by decide +kernel
theorem d_FT_spaceOf_10 : decode b_FT_spaceOf 10 = .ok (.iload_n 1, 1) := by decide +kernel
theorem d_FT_spaceOf_11 : decode b_FT_spaceOf 11 = .ok (.aaload, 1) := by decide +kernel
theorem d_FT_spaceOf_12 : decode b_FT_spaceOf 12 = .ok (.iload_n 2, 1) := by decide +kernel
theorem d_FT_spaceOf_13 : decode b_FT_spaceOf 13 = .ok (.invokevirtual 192, 3) := by decide +kernel
theorem d_FT_spaceOf_16 : decode b_FT_spaceOf 16 = .ok (.aload_n 0, 1) := by decide +kernel
theorem d_FT_spaceOf_17 : decode b_FT_spaceOf 17 = .ok (.getfield 17, 3) := by decide +kernel
theorem d_FT_spaceOf_20 : decode b_FT_spaceOf 20 = .ok (.iload_n 2, 1) := by decide +kernel
theorem d_FT_spaceOf_21 : decode b_FT_spaceOf 21 = .ok (.aaload, 1) := by decide +kernel
theorem d_FT_spaceOf_22 : decode b_FT_spaceOf 22 = .ok (.areturn, 1) := by decide +kernel
theorem d_Sp_fill_0 : decode b_Sp_fill 0 = .ok (.aload_n 0, 1) := by decide +kernel
theorem d_Sp_fill_1 : decode b_Sp_fill 1 = .ok (.aload_n 1, 1) := by decide +kernel
theorem d_Sp_fill_2 : decode b_Sp_fill 2 = .ok (.getfield 28, 3) := by decide +kernel
theorem d_Sp_fill_5 : decode b_Sp_fill 5 = .ok (.invokevirtual 34, 3) := by decide +kernel
theorem d_Sp_fill_8 : decode b_Sp_fill 8 = .ok (.aload_n 1, 1) := by decide +kernel
theorem d_Sp_fill_9 : decode b_Sp_fill 9 = .ok (.getfield 38, 3) := by decide +kernel
theorem d_Sp_fill_12 : decode b_Sp_fill 12 = .ok (.getfield 42, 3) := by decide +kernel
theorem d_Sp_fill_15 : decode b_Sp_fill 15 = .ok (.astore_n 3, 1) := by decide +kernel
