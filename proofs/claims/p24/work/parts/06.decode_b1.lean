theorem d_Sp_fill_16 : decode b_Sp_fill 16 = .ok (.iconst 0, 1) := by decide +kernel
theorem d_Sp_fill_17 : decode b_Sp_fill 17 = .ok (.istore 4, 2) := by decide +kernel
theorem d_Sp_fill_19 : decode b_Sp_fill 19 = .ok (.iload 4, 2) := by decide +kernel
theorem d_Sp_fill_21 : decode b_Sp_fill 21 = .ok (.iconst 4, 1) := by decide +kernel
theorem d_Sp_fill_22 : decode b_Sp_fill 22 = .ok (.aload_n 1, 1) := by decide +kernel
theorem d_Sp_fill_23 : decode b_Sp_fill 23 = .ok (.getfield 38, 3) := by decide +kernel
theorem d_Sp_fill_26 : decode b_Sp_fill 26 = .ok (.getfield 47, 3) := by decide +kernel
theorem d_Sp_fill_29 : decode b_Sp_fill 29 = .ok (.imul, 1) := by decide +kernel
theorem d_Sp_fill_30 : decode b_Sp_fill 30 = .ok (.if_icmp .ge 35, 3) := by decide +kernel
theorem d_Sp_fill_33 : decode b_Sp_fill 33 = .ok (.aload_n 0, 1) := by decide +kernel
theorem d_Sp_fill_34 : decode b_Sp_fill 34 = .ok (.aload_n 3, 1) := by decide +kernel
theorem d_Sp_fill_35 : decode b_Sp_fill 35 = .ok (.iload 4, 2) := by decide +kernel
theorem d_Sp_fill_37 : decode b_Sp_fill 37 = .ok (.iaload, 1) := by decide +kernel
theorem d_Sp_fill_38 : decode b_Sp_fill 38 = .ok (.aload_n 3, 1) := by decide +kernel
theorem d_Sp_fill_39 : decode b_Sp_fill 39 = .ok (.iload 4, 2) := by decide +kernel
theorem d_Sp_fill_41 : decode b_Sp_fill 41 = .ok (.iconst 1, 1) := by decide +kernel
theorem d_Sp_fill_42 : decode b_Sp_fill 42 = .ok (.iadd, 1) := by decide +kernel
theorem d_Sp_fill_43 : decode b_Sp_fill 43 = .ok (.iaload, 1) := by decide +kernel
theorem d_Sp_fill_44 : decode b_Sp_fill 44 = .ok (.aload_n 3, 1) := by decide +kernel
theorem d_Sp_fill_45 : decode b_Sp_fill 45 = .ok (.iload 4, 2) := by decide +kernel
theorem d_Sp_fill_47 : decode b_Sp_fill 47 = .ok (.iconst 2, 1) := by decide +kernel
theorem d_Sp_fill_48 : decode b_Sp_fill 48 = .ok (.iadd, 1) := by decide +kernel
theorem d_Sp_fill_49 : decode b_Sp_fill 49 = .ok (.iaload, 1) := by decide +kernel
theorem d_Sp_fill_50 : decode b_Sp_fill 50 = .ok (.aload_n 3, 1) := by decide +kernel
theorem d_Sp_fill_51 : decode b_Sp_fill 51 = .ok (.iload 4, 2) := by decide +kernel
theorem d_Sp_fill_53 : decode b_Sp_fill 53 = .ok (.iconst 3, 1) := by decide +kernel
theorem d_Sp_fill_54 : decode b_Sp_fill 54 = .ok (.iadd, 1) := by decide +kernel
theorem d_Sp_fill_55 : decode b_Sp_fill 55 = .ok (.iaload, 1) := by decide +kernel
theorem d_Sp_fill_56 : decode b_Sp_fill 56 = .ok (.invokevirtual 50, 3) := by decide +kernel
theorem d_Sp_fill_59 : decode b_Sp_fill 59 = .ok (.iinc 4 4, 3) := by decide +kernel
theorem d_Sp_fill_62 : decode b_Sp_fill 62 = .ok (.goto (-43), 3) := by decide +kernel
theorem d_Sp_fill_65 : decode b_Sp_fill 65 = .ok (.aload_n 1, 1) := by decide +kernel
theorem d_Sp_fill_66 : decode b_Sp_fill 66 = .ok (.getfield 54, 3) := by decide +kernel
theorem d_Sp_fill_69 : decode b_Sp_fill 69 = .ok (.iload_n 2, 1) := by decide +kernel
theorem d_Sp_fill_70 : decode b_Sp_fill 70 = .ok (.aaload, 1) := by decide +kernel
theorem d_Sp_fill_71 : decode b_Sp_fill 71 = .ok (.getfield 58, 3) := by decide +kernel
theorem d_Sp_fill_74 : decode b_Sp_fill 74 = .ok (.astore 4, 2) := by decide +kernel
theorem d_Sp_fill_76 : decode b_Sp_fill 76 = .ok (.aload 4, 2) := by decide +kernel
theorem d_Sp_fill_78 : decode b_Sp_fill 78 = .ok (.getfield 42, 3) := by decide +kernel
theorem d_Sp_fill_81 : decode b_Sp_fill 81 = .ok (.astore 5, 2) := by decide +kernel
theorem d_Sp_fill_83 : decode b_Sp_fill 83 = .ok (.iconst 0, 1) := by decide +kernel
theorem d_Sp_fill_84 : decode b_Sp_fill 84 = .ok (.istore 6, 2) := by decide +kernel
theorem d_Sp_fill_86 : decode b_Sp_fill 86 = .ok (.iload 6, 2) := by decide +kernel
theorem d_Sp_fill_88 : decode b_Sp_fill 88 = .ok (.iconst 4, 1) := by decide +kernel
theorem d_Sp_fill_89 : decode b_Sp_fill 89 = .ok (.aload 4, 2) := by decide +kernel
theorem d_Sp_fill_91 : decode b_Sp_fill 91 = .ok (.getfield 47, 3) := by decide +kernel
theorem d_Sp_fill_94 : decode b_Sp_fill 94 = .ok (.imul, 1) := by decide +kernel
theorem d_Sp_fill_95 : decode b_Sp_fill 95 = .ok (.if_icmp .ge 39, 3) := by decide +kernel
theorem d_Sp_fill_98 : decode b_Sp_fill 98 = .ok (.aload_n 0, 1) := by decide +kernel
theorem d_Sp_fill_99 : decode b_Sp_fill 99 = .ok (.aload 5, 2) := by decide +kernel
theorem d_Sp_fill_101 : decode b_Sp_fill 101 = .ok (.iload 6, 2) := by decide +kernel
theorem d_Sp_fill_103 : decode b_Sp_fill 103 = .ok (.iaload, 1) := by decide +kernel
theorem d_Sp_fill_104 : decode b_Sp_fill 104 = .ok (.aload 5, 2) := by decide +kernel
theorem d_Sp_fill_106 : decode b_Sp_fill 106 = .ok (.iload 6, 2) := by decide +kernel
theorem d_Sp_fill_108 : decode b_Sp_fill 108 = .ok (.iconst 1, 1) := by decide +kernel
theorem d_Sp_fill_109 : decode b_Sp_fill 109 = .ok (.iadd, 1) := by decide +kernel
theorem d_Sp_fill_110 : decode b_Sp_fill 110 = .ok (.iaload, 1) := by decide +kernel
theorem d_Sp_fill_111 : decode b_Sp_fill 111 = .ok (.aload 5, 2) := by decide +kernel
theorem d_Sp_fill_113 : decode b_Sp_fill 113 = .ok (.iload 6, 2) := by decide +kernel
theorem d_Sp_fill_115 : decode b_Sp_fill 115 = .ok (.iconst 2, 1) := by decide +kernel
theorem d_Sp_fill_116 : decode b_Sp_fill 116 = .ok (.iadd, 1) := by decide +kernel
theorem d_Sp_fill_117 : decode b_Sp_fill 117 = .ok (.iaload, 1) := by decide +kernel
theorem d_Sp_fill_118 : decode b_Sp_fill 118 = .ok (.aload 5, 2) := by decide +kernel
theorem d_Sp_fill_120 : decode b_Sp_fill 120 = .ok (.iload 6, 2) := by decide +kernel
theorem d_Sp_fill_122 : decode b_Sp_fill 122 = .ok (.iconst 3, 1) := by decide +kernel
theorem d_Sp_fill_123 : decode b_Sp_fill 123 = .ok (.iadd, 1) := by decide +kernel
theorem d_Sp_fill_124 : decode b_Sp_fill 124 = .ok (.iaload, 1) := by decide +kernel
theorem d_Sp_fill_125 : decode b_Sp_fill 125 = .ok (.invokevirtual 50, 3) := by decide +kernel
theorem d_Sp_fill_128 : decode b_Sp_fill 128 = .ok (.iinc 6 4, 3) := by decide +kernel
theorem d_Sp_fill_131 : decode b_Sp_fill 131 = .ok (.goto (-45), 3) := by decide +kernel
theorem d_Sp_fill_134 : decode b_Sp_fill 134 = .ok (.return_, 1) := by decide +kernel
theorem d_Sp_begin_0 : decode b_Sp_begin 0 = .ok (.aload_n 0, 1) := by decide +kernel
theorem d_Sp_begin_1 : decode b_Sp_begin 1 = .ok (.iload_n 1, 1) := by decide +kernel
theorem d_Sp_begin_2 : decode b_Sp_begin 2 = .ok (.putfield 63, 3) := by decide +kernel
theorem d_Sp_begin_5 : decode b_Sp_begin 5 = .ok (.iconst 0, 1) := by decide +kernel
theorem d_Sp_begin_6 : decode b_Sp_begin 6 = .ok (.istore_n 2, 1) := by decide +kernel
theorem d_Sp_begin_7 : decode b_Sp_begin 7 = .ok (.iload_n 2, 1) := by decide +kernel
theorem d_Sp_begin_8 : decode b_Sp_begin 8 = .ok (.iconst 4, 1) := by decide +kernel
theorem d_Sp_begin_9 : decode b_Sp_begin 9 = .ok (.iload_n 1, 1) := by decide +kernel
theorem d_Sp_begin_10 : decode b_Sp_begin 10 = .ok (.imul, 1) := by decide +kernel
theorem d_Sp_begin_11 : decode b_Sp_begin 11 = .ok (.if_icmp .ge 29, 3) := by decide +kernel
theorem d_Sp_begin_14 : decode b_Sp_begin 14 = .ok (.aload_n 0, 1) := by decide +kernel
theorem d_Sp_begin_15 : decode b_Sp_begin 15 = .ok (.getfield 9, 3) := by decide +kernel
theorem d_Sp_begin_18 : decode b_Sp_begin 18 = .ok (.iload_n 2, 1) := by decide +kernel
theorem d_Sp_begin_19 : decode b_Sp_begin 19 = .ok (.iload_n 2, 1) := by decide +kernel
theorem d_Sp_begin_20 : decode b_Sp_begin 20 = .ok (.iconst 4, 1) := by decide +kernel
theorem d_Sp_begin_21 : decode b_Sp_begin 21 = .ok (.irem, 1) := by decide +kernel
theorem d_Sp_begin_22 : decode b_Sp_begin 22 = .ok (.iload_n 2, 1) := by decide +kernel
theorem d_Sp_begin_23 : decode b_Sp_begin 23 = .ok (.iconst 4, 1) := by decide +kernel
theorem d_Sp_begin_24 : decode b_Sp_begin 24 = .ok (.idiv, 1) := by decide +kernel
theorem d_Sp_begin_25 : decode b_Sp_begin 25 = .ok (.if_icmp .ne 7, 3) := by decide +kernel
theorem d_Sp_begin_28 : decode b_Sp_begin 28 = .ok (.lconst 1, 1) := by decide +kernel
theorem d_Sp_begin_29 : decode b_Sp_begin 29 = .ok (.goto 4, 3) := by decide +kernel
theorem d_Sp_begin_32 : decode b_Sp_begin 32 = .ok (.lconst 0, 1) := by decide +kernel
theorem d_Sp_begin_33 : decode b_Sp_begin 33 = .ok (.lastore, 1) := by decide +kernel
theorem d_Sp_begin_34 : decode b_Sp_begin 34 = .ok (.iinc 2 1, 3) := by decide +kernel
theorem d_Sp_begin_37 : decode b_Sp_begin 37 = .ok (.goto (-30), 3) := by decide +kernel
theorem d_Sp_begin_40 : decode b_Sp_begin 40 = .ok (.aload_n 0, 1) := by decide +kernel
theorem d_Sp_begin_41 : decode b_Sp_begin 41 = .ok (.iconst 0, 1) := by decide +kernel
theorem d_Sp_begin_42 : decode b_Sp_begin 42 = .ok (.putfield 66, 3) := by decide +kernel
theorem d_Sp_begin_45 : decode b_Sp_begin 45 = .ok (.iconst 0, 1) := by decide +kernel
theorem d_Sp_begin_46 : decode b_Sp_begin 46 = .ok (.istore_n 2, 1) := by decide +kernel
theorem d_Sp_begin_47 : decode b_Sp_begin 47 = .ok (.iload_n 2, 1) := by decide +kernel
theorem d_Sp_begin_48 : decode b_Sp_begin 48 = .ok (.iconst 4, 1) := by decide +kernel
theorem d_Sp_begin_49 : decode b_Sp_begin 49 = .ok (.if_icmp .ge 25, 3) := by decide +kernel
theorem d_Sp_begin_52 : decode b_Sp_begin 52 = .ok (.aload_n 0, 1) := by decide +kernel
theorem d_Sp_begin_53 : decode b_Sp_begin 53 = .ok (.getfield 25, 3) := by decide +kernel
theorem d_Sp_begin_56 : decode b_Sp_begin 56 = .ok (.iload_n 2, 1) := by decide +kernel
theorem d_Sp_begin_57 : decode b_Sp_begin 57 = .ok (.iload_n 2, 1) := by decide +kernel
theorem d_Sp_begin_58 : decode b_Sp_begin 58 = .ok (.iconst 3, 1) := by decide +kernel
theorem d_Sp_begin_59 : decode b_Sp_begin 59 = .ok (.if_icmp .ne 7, 3) := by decide +kernel
theorem d_Sp_begin_62 : decode b_Sp_begin 62 = .ok (.lconst 1, 1) := by decide +kernel
theorem d_Sp_begin_63 : decode b_Sp_begin 63 = .ok (.goto 4, 3) := by decide +kernel
theorem d_Sp_begin_66 : decode b_Sp_begin 66 = .ok (.lconst 0, 1) := by decide +kernel
theorem d_Sp_begin_67 : decode b_Sp_begin 67 = .ok (.lastore, 1) := by decide +kernel
theorem d_Sp_begin_68 : decode b_Sp_begin 68 = .ok (.iinc 2 1, 3) := by decide +kernel
theorem d_Sp_begin_71 : decode b_Sp_begin 71 = .ok (.goto (-24), 3) := by decide +kernel
theorem d_Sp_begin_74 : decode b_Sp_begin 74 = .ok (.aload_n 0, 1) := by decide +kernel
theorem d_Sp_begin_75 : decode b_Sp_begin 75 = .ok (.iconst 0, 1) := by decide +kernel
theorem d_Sp_begin_76 : decode b_Sp_begin 76 = .ok (.invokevirtual 90, 3) := by decide +kernel
theorem d_Sp_begin_79 : decode b_Sp_begin 79 = .ok (.aload_n 0, 1) := by decide +kernel
theorem d_Sp_begin_80 : decode b_Sp_begin 80 = .ok (.iconst 2, 1) := by decide +kernel
theorem d_Sp_begin_81 : decode b_Sp_begin 81 = .ok (.putfield 69, 3) := by decide +kernel
theorem d_Sp_begin_84 : decode b_Sp_begin 84 = .ok (.return_, 1) := by decide +kernel
theorem d_Sp_appendPivot_0 : decode b_Sp_appendPivot 0 = .ok (.aload_n 0, 1) := by decide +kernel
theorem d_Sp_appendPivot_1 : decode b_Sp_appendPivot 1 = .ok (.getfield 66, 3) := by decide +kernel
theorem d_Sp_appendPivot_4 : decode b_Sp_appendPivot 4 = .ok (.bipush 32, 2) := by decide +kernel
theorem d_Sp_appendPivot_6 : decode b_Sp_appendPivot 6 = .ok (.if_icmp .lt 4, 3) := by decide +kernel
theorem d_Sp_appendPivot_9 : decode b_Sp_appendPivot 9 = .ok (.return_, 1) := by decide +kernel
theorem d_Sp_appendPivot_10 : decode b_Sp_appendPivot 10 = .ok (.iconst 0, 1) := by decide +kernel
theorem d_Sp_appendPivot_11 : decode b_Sp_appendPivot 11 = .ok (.istore_n 2, 1) := by decide +kernel
theorem d_Sp_appendPivot_12 : decode b_Sp_appendPivot 12 = .ok (.iload_n 2, 1) := by decide +kernel
theorem d_Sp_appendPivot_13 : decode b_Sp_appendPivot 13 = .ok (.iconst 4, 1) := by decide +kernel
theorem d_Sp_appendPivot_14 : decode b_Sp_appendPivot 14 = .ok (.if_icmp .ge 28, 3) := by decide +kernel
theorem d_Sp_appendPivot_17 : decode b_Sp_appendPivot 17 = .ok (.aload_n 0, 1) := by decide +kernel
theorem d_Sp_appendPivot_18 : decode b_Sp_appendPivot 18 = .ok (.getfield 15, 3) := by decide +kernel
theorem d_Sp_appendPivot_21 : decode b_Sp_appendPivot 21 = .ok (.iconst 4, 1) := by decide +kernel
theorem d_Sp_appendPivot_22 : decode b_Sp_appendPivot 22 = .ok (.aload_n 0, 1) := by decide +kernel
theorem d_Sp_appendPivot_23 : decode b_Sp_appendPivot 23 = .ok (.getfield 66, 3) := by decide +kernel
theorem d_Sp_appendPivot_26 : decode b_Sp_appendPivot 26 = .ok (.imul, 1) := by decide +kernel
theorem d_Sp_appendPivot_27 : decode b_Sp_appendPivot 27 = .ok (.iload_n 2, 1) := by decide +kernel
theorem d_Sp_appendPivot_28 : decode b_Sp_appendPivot 28 = .ok (.iadd, 1) := by decide +kernel
theorem d_Sp_appendPivot_29 : decode b_Sp_appendPivot 29 = .ok (.aload_n 0, 1) := by decide +kernel
theorem d_Sp_appendPivot_30 : decode b_Sp_appendPivot 30 = .ok (.getfield 25, 3) := by decide +kernel
theorem d_Sp_appendPivot_33 : decode b_Sp_appendPivot 33 = .ok (.iload_n 2, 1) := by decide +kernel
theorem d_Sp_appendPivot_34 : decode b_Sp_appendPivot 34 = .ok (.laload, 1) := by decide +kernel
theorem d_Sp_appendPivot_35 : decode b_Sp_appendPivot 35 = .ok (.lastore, 1) := by decide +kernel
theorem d_Sp_appendPivot_36 : decode b_Sp_appendPivot 36 = .ok (.iinc 2 1, 3) := by decide +kernel
theorem d_Sp_appendPivot_39 : decode b_Sp_appendPivot 39 = .ok (.goto (-27), 3) := by decide +kernel
theorem d_Sp_appendPivot_42 : decode b_Sp_appendPivot 42 = .ok (.aload_n 0, 1) := by decide +kernel
theorem d_Sp_appendPivot_43 : decode b_Sp_appendPivot 43 = .ok (.getfield 18, 3) := by decide +kernel
theorem d_Sp_appendPivot_46 : decode b_Sp_appendPivot 46 = .ok (.aload_n 0, 1) := by decide +kernel
theorem d_Sp_appendPivot_47 : decode b_Sp_appendPivot 47 = .ok (.getfield 66, 3) := by decide +kernel
theorem d_Sp_appendPivot_50 : decode b_Sp_appendPivot 50 = .ok (.iload_n 1, 1) := by decide +kernel
theorem d_Sp_appendPivot_51 : decode b_Sp_appendPivot 51 = .ok (.iastore, 1) := by decide +kernel
theorem d_Sp_appendPivot_52 : decode b_Sp_appendPivot 52 = .ok (.aload_n 0, 1) := by decide +kernel
theorem d_Sp_appendPivot_53 : decode b_Sp_appendPivot 53 = .ok (.dup, 1) := by decide +kernel
theorem d_Sp_appendPivot_54 : decode b_Sp_appendPivot 54 = .ok (.getfield 66, 3) := by decide +kernel
theorem d_Sp_appendPivot_57 : decode b_Sp_appendPivot 57 = .ok (.iconst 1, 1) := by decide +kernel
theorem d_Sp_appendPivot_58 : decode b_Sp_appendPivot 58 = .ok (.iadd, 1) := by decide +kernel
theorem d_Sp_appendPivot_59 : decode b_Sp_appendPivot 59 = .ok (.putfield 66, 3) := by decide +kernel
theorem d_Sp_appendPivot_62 : decode b_Sp_appendPivot 62 = .ok (.return_, 1) := by decide +kernel
theorem d_Sp_narrow_0 : decode b_Sp_narrow 0 = .ok (.aload_n 0, 1) := by decide +kernel
theorem d_Sp_narrow_1 : decode b_Sp_narrow 1 = .ok (.iload_n 1, 1) := by decide +kernel
theorem d_Sp_narrow_2 : decode b_Sp_narrow 2 = .ok (.iload_n 2, 1) := by decide +kernel
theorem d_Sp_narrow_3 : decode b_Sp_narrow 3 = .ok (.iload_n 3, 1) := by decide +kernel
theorem d_Sp_narrow_4 : decode b_Sp_narrow 4 = .ok (.invokevirtual 72, 3) := by decide +kernel
theorem d_Sp_narrow_7 : decode b_Sp_narrow 7 = .ok (.istore 5, 2) := by decide +kernel
theorem d_Sp_narrow_9 : decode b_Sp_narrow 9 = .ok (.iload 5, 2) := by decide +kernel
theorem d_Sp_narrow_11 : decode b_Sp_narrow 11 = .ok (.ifCond .lt 17, 3) := by decide +kernel
theorem d_Sp_narrow_14 : decode b_Sp_narrow 14 = .ok (.aload_n 0, 1) := by decide +kernel
theorem d_Sp_narrow_15 : decode b_Sp_narrow 15 = .ok (.iload 5, 2) := by decide +kernel
theorem d_Sp_narrow_17 : decode b_Sp_narrow 17 = .ok (.iload_n 1, 1) := by decide +kernel
theorem d_Sp_narrow_18 : decode b_Sp_narrow 18 = .ok (.iload_n 2, 1) := by decide +kernel
theorem d_Sp_narrow_19 : decode b_Sp_narrow 19 = .ok (.iload_n 3, 1) := by decide +kernel
theorem d_Sp_narrow_20 : decode b_Sp_narrow 20 = .ok (.iload 4, 2) := by decide +kernel
theorem d_Sp_narrow_22 : decode b_Sp_narrow 22 = .ok (.invokevirtual 80, 3) := by decide +kernel
theorem d_Sp_narrow_25 : decode b_Sp_narrow 25 = .ok (.goto 12, 3) := by decide +kernel
theorem d_Sp_narrow_28 : decode b_Sp_narrow 28 = .ok (.aload_n 0, 1) := by decide +kernel
theorem d_Sp_narrow_29 : decode b_Sp_narrow 29 = .ok (.iload_n 1, 1) := by decide +kernel
theorem d_Sp_narrow_30 : decode b_Sp_narrow 30 = .ok (.iload_n 2, 1) := by decide +kernel
theorem d_Sp_narrow_31 : decode b_Sp_narrow 31 = .ok (.iload_n 3, 1) := by decide +kernel
theorem d_Sp_narrow_32 : decode b_Sp_narrow 32 = .ok (.iload 4, 2) := by decide +kernel
theorem d_Sp_narrow_34 : decode b_Sp_narrow 34 = .ok (.invokevirtual 84, 3) := by decide +kernel
theorem d_Sp_narrow_37 : decode b_Sp_narrow 37 = .ok (.aload_n 0, 1) := by decide +kernel
theorem d_Sp_narrow_38 : decode b_Sp_narrow 38 = .ok (.dup, 1) := by decide +kernel
theorem d_Sp_narrow_39 : decode b_Sp_narrow 39 = .ok (.getfield 69, 3) := by decide +kernel
theorem d_Sp_narrow_42 : decode b_Sp_narrow 42 = .ok (.iconst 1, 1) := by decide +kernel
theorem d_Sp_narrow_43 : decode b_Sp_narrow 43 = .ok (.ishl, 1) := by decide +kernel
theorem d_Sp_narrow_44 : decode b_Sp_narrow 44 = .ok (.putfield 69, 3) := by decide +kernel
theorem d_Sp_narrow_47 : decode b_Sp_narrow 47 = .ok (.aload_n 0, 1) := by decide +kernel
theorem d_Sp_narrow_48 : decode b_Sp_narrow 48 = .ok (.invokevirtual 87, 3) := by decide +kernel
theorem d_Sp_narrow_51 : decode b_Sp_narrow 51 = .ok (.return_, 1) := by decide +kernel
theorem d_Sp_lineAcross_0 : decode b_Sp_lineAcross 0 = .ok (.iconst 0, 1) := by decide +kernel
theorem d_Sp_lineAcross_1 : decode b_Sp_lineAcross 1 = .ok (.istore 4, 2) := by decide +kernel
theorem d_Sp_lineAcross_3 : decode b_Sp_lineAcross 3 = .ok (.iload 4, 2) := by decide +kernel
theorem d_Sp_lineAcross_5 : decode b_Sp_lineAcross 5 = .ok (.aload_n 0, 1) := by decide +kernel
theorem d_Sp_lineAcross_6 : decode b_Sp_lineAcross 6 = .ok (.getfield 63, 3) := by decide +kernel
theorem d_Sp_lineAcross_9 : decode b_Sp_lineAcross 9 = .ok (.if_icmp .ge 26, 3) := by decide +kernel
theorem d_Sp_lineAcross_12 : decode b_Sp_lineAcross 12 = .ok (.aload_n 0, 1) := by decide +kernel
theorem d_Sp_lineAcross_13 : decode b_Sp_lineAcross 13 = .ok (.iload 4, 2) := by decide +kernel
theorem d_Sp_lineAcross_15 : decode b_Sp_lineAcross 15 = .ok (.iload_n 1, 1) := by decide +kernel
theorem d_Sp_lineAcross_16 : decode b_Sp_lineAcross 16 = .ok (.iload_n 2, 1) := by decide +kernel
theorem d_Sp_lineAcross_17 : decode b_Sp_lineAcross 17 = .ok (.iload_n 3, 1) := by decide +kernel
theorem d_Sp_lineAcross_18 : decode b_Sp_lineAcross 18 = .ok (.invokevirtual 93, 3) := by decide +kernel
theorem d_Sp_lineAcross_21 : decode b_Sp_lineAcross 21 = .ok (.lconst 0, 1) := by decide +kernel
theorem d_Sp_lineAcross_22 : decode b_Sp_lineAcross 22 = .ok (.lcmp, 1) := by decide +kernel
theorem d_Sp_lineAcross_23 : decode b_Sp_lineAcross 23 = .ok (.ifCond .eq 6, 3) := by decide +kernel
theorem d_Sp_lineAcross_26 : decode b_Sp_lineAcross 26 = .ok (.iload 4, 2) := by decide +kernel
theorem d_Sp_lineAcross_28 : decode b_Sp_lineAcross 28 = .ok (.ireturn, 1) := by decide +kernel
theorem d_Sp_lineAcross_29 : decode b_Sp_lineAcross 29 = .ok (.iinc 4 1, 3) := by decide +kernel
theorem d_Sp_lineAcross_32 : decode b_Sp_lineAcross 32 = .ok (.goto (-29), 3) := by decide +kernel
theorem d_Sp_lineAcross_35 : decode b_Sp_lineAcross 35 = .ok (.iconst (-1), 1) := by decide +kernel
theorem d_Sp_lineAcross_36 : decode b_Sp_lineAcross 36 = .ok (.ireturn, 1) := by decide +kernel
theorem d_Sp_slope_0 : decode b_Sp_slope 0 = .ok (.iconst 4, 1) := by decide +kernel
theorem d_Sp_slope_1 : decode b_Sp_slope 1 = .ok (.iload_n 1, 1) := by decide +kernel
theorem d_Sp_slope_2 : decode b_Sp_slope 2 = .ok (.imul, 1) := by decide +kernel
theorem d_Sp_slope_3 : decode b_Sp_slope 3 = .ok (.istore 5, 2) := by decide +kernel
theorem d_Sp_slope_5 : decode b_Sp_slope 5 = .ok (.iload_n 2, 1) := by decide +kernel
theorem d_Sp_slope_6 : decode b_Sp_slope 6 = .ok (.i2l, 1) := by decide +kernel
theorem d_Sp_slope_7 : decode b_Sp_slope 7 = .ok (.aload_n 0, 1) := by decide +kernel
theorem d_Sp_slope_8 : decode b_Sp_slope 8 = .ok (.getfield 9, 3) := by decide +kernel
theorem d_Sp_slope_11 : decode b_Sp_slope 11 = .ok (.iload 5, 2) := by decide +kernel
theorem d_Sp_slope_13 : decode b_Sp_slope 13 = .ok (.laload, 1) := by decide +kernel
theorem d_Sp_slope_14 : decode b_Sp_slope 14 = .ok (.lmul, 1) := by decide +kernel
theorem d_Sp_slope_15 : decode b_Sp_slope 15 = .ok (.iload_n 3, 1) := by decide +kernel
theorem d_Sp_slope_16 : decode b_Sp_slope 16 = .ok (.i2l, 1) := by decide +kernel
theorem d_Sp_slope_17 : decode b_Sp_slope 17 = .ok (.aload_n 0, 1) := by decide +kernel
theorem d_Sp_slope_18 : decode b_Sp_slope 18 = .ok (.getfield 9, 3) := by decide +kernel
theorem d_Sp_slope_21 : decode b_Sp_slope 21 = .ok (.iload 5, 2) := by decide +kernel
theorem d_Sp_slope_23 : decode b_Sp_slope 23 = .ok (.iconst 1, 1) := by decide +kernel
theorem d_Sp_slope_24 : decode b_Sp_slope 24 = .ok (.iadd, 1) := by decide +kernel
theorem d_Sp_slope_25 : decode b_Sp_slope 25 = .ok (.laload, 1) := by decide +kernel
theorem d_Sp_slope_26 : decode b_Sp_slope 26 = .ok (.lmul, 1) := by decide +kernel
theorem d_Sp_slope_27 : decode b_Sp_slope 27 = .ok (.ladd, 1) := by decide +kernel
theorem d_Sp_slope_28 : decode b_Sp_slope 28 = .ok (.iload 4, 2) := by decide +kernel
theorem d_Sp_slope_30 : decode b_Sp_slope 30 = .ok (.i2l, 1) := by decide +kernel
theorem d_Sp_slope_31 : decode b_Sp_slope 31 = .ok (.aload_n 0, 1) := by decide +kernel
theorem d_Sp_slope_32 : decode b_Sp_slope 32 = .ok (.getfield 9, 3) := by decide +kernel
theorem d_Sp_slope_35 : decode b_Sp_slope 35 = .ok (.iload 5, 2) := by decide +kernel
theorem d_Sp_slope_37 : decode b_Sp_slope 37 = .ok (.iconst 2, 1) := by decide +kernel
theorem d_Sp_slope_38 : decode b_Sp_slope 38 = .ok (.iadd, 1) := by decide +kernel
theorem d_Sp_slope_39 : decode b_Sp_slope 39 = .ok (.laload, 1) := by decide +kernel
theorem d_Sp_slope_40 : decode b_Sp_slope 40 = .ok (.lmul, 1) := by decide +kernel
theorem d_Sp_slope_41 : decode b_Sp_slope 41 = .ok (.ladd, 1) := by decide +kernel
theorem d_Sp_slope_42 : decode b_Sp_slope 42 = .ok (.lreturn, 1) := by decide +kernel
theorem d_Sp_turn_0 : decode b_Sp_turn 0 = .ok (.aload_n 0, 1) := by decide +kernel
theorem d_Sp_turn_1 : decode b_Sp_turn 1 = .ok (.iload_n 1, 1) := by decide +kernel
theorem d_Sp_turn_2 : decode b_Sp_turn 2 = .ok (.iload_n 2, 1) := by decide +kernel
theorem d_Sp_turn_3 : decode b_Sp_turn 3 = .ok (.iload_n 3, 1) := by decide +kernel
theorem d_Sp_turn_4 : decode b_Sp_turn 4 = .ok (.iload 4, 2) := by decide +kernel
theorem d_Sp_turn_6 : decode b_Sp_turn 6 = .ok (.invokevirtual 93, 3) := by decide +kernel
theorem d_Sp_turn_9 : decode b_Sp_turn 9 = .ok (.lstore 6, 2) := by decide +kernel
theorem d_Sp_turn_11 : decode b_Sp_turn 11 = .ok (.lload 6, 2) := by decide +kernel
theorem d_Sp_turn_13 : decode b_Sp_turn 13 = .ok (.lconst 0, 1) := by decide +kernel
theorem d_Sp_turn_14 : decode b_Sp_turn 14 = .ok (.lcmp, 1) := by decide +kernel
theorem d_Sp_turn_15 : decode b_Sp_turn 15 = .ok (.ifCond .ge 9, 3) := by decide +kernel
theorem d_Sp_turn_18 : decode b_Sp_turn 18 = .ok (.ldc2_w 97, 3) := by decide +kernel
theorem d_Sp_turn_21 : decode b_Sp_turn 21 = .ok (.goto 4, 3) := by decide +kernel
theorem d_Sp_turn_24 : decode b_Sp_turn 24 = .ok (.lconst 1, 1) := by decide +kernel
theorem d_Sp_turn_25 : decode b_Sp_turn 25 = .ok (.lstore 8, 2) := by decide +kernel
theorem d_Sp_turn_27 : decode b_Sp_turn 27 = .ok (.lload 6, 2) := by decide +kernel
theorem d_Sp_turn_29 : decode b_Sp_turn 29 = .ok (.lload 8, 2) := by decide +kernel
theorem d_Sp_turn_31 : decode b_Sp_turn 31 = .ok (.lmul, 1) := by decide +kernel
theorem d_Sp_turn_32 : decode b_Sp_turn 32 = .ok (.lstore 6, 2) := by decide +kernel
theorem d_Sp_turn_34 : decode b_Sp_turn 34 = .ok (.aload_n 0, 1) := by decide +kernel
theorem d_Sp_turn_35 : decode b_Sp_turn 35 = .ok (.dup, 1) := by decide +kernel
theorem d_Sp_turn_36 : decode b_Sp_turn 36 = .ok (.getfield 63, 3) := by decide +kernel
theorem d_Sp_turn_39 : decode b_Sp_turn 39 = .ok (.iconst 1, 1) := by decide +kernel
theorem d_Sp_turn_40 : decode b_Sp_turn 40 = .ok (.isub, 1) := by decide +kernel
theorem d_Sp_turn_41 : decode b_Sp_turn 41 = .ok (.putfield 63, 3) := by decide +kernel
theorem d_Sp_turn_44 : decode b_Sp_turn 44 = .ok (.iconst 0, 1) := by decide +kernel
theorem d_Sp_turn_45 : decode b_Sp_turn 45 = .ok (.istore 10, 2) := by decide +kernel
theorem d_Sp_turn_47 : decode b_Sp_turn 47 = .ok (.iload 10, 2) := by decide +kernel
theorem d_Sp_turn_49 : decode b_Sp_turn 49 = .ok (.iconst 4, 1) := by decide +kernel
theorem d_Sp_turn_50 : decode b_Sp_turn 50 = .ok (.if_icmp .ge 55, 3) := by decide +kernel
theorem d_Sp_turn_53 : decode b_Sp_turn 53 = .ok (.aload_n 0, 1) := by decide +kernel
theorem d_Sp_turn_54 : decode b_Sp_turn 54 = .ok (.getfield 25, 3) := by decide +kernel
theorem d_Sp_turn_57 : decode b_Sp_turn 57 = .ok (.iload 10, 2) := by decide +kernel
theorem d_Sp_turn_59 : decode b_Sp_turn 59 = .ok (.lload 8, 2) := by decide +kernel
theorem d_Sp_turn_61 : decode b_Sp_turn 61 = .ok (.aload_n 0, 1) := by decide +kernel
theorem d_Sp_turn_62 : decode b_Sp_turn 62 = .ok (.getfield 9, 3) := by decide +kernel
theorem d_Sp_turn_65 : decode b_Sp_turn 65 = .ok (.iconst 4, 1) := by decide +kernel
theorem d_Sp_turn_66 : decode b_Sp_turn 66 = .ok (.iload_n 1, 1) := by decide +kernel
theorem d_Sp_turn_67 : decode b_Sp_turn 67 = .ok (.imul, 1) := by decide +kernel
theorem d_Sp_turn_68 : decode b_Sp_turn 68 = .ok (.iload 10, 2) := by decide +kernel
theorem d_Sp_turn_70 : decode b_Sp_turn 70 = .ok (.iadd, 1) := by decide +kernel
theorem d_Sp_turn_71 : decode b_Sp_turn 71 = .ok (.laload, 1) := by decide +kernel
theorem d_Sp_turn_72 : decode b_Sp_turn 72 = .ok (.lmul, 1) := by decide +kernel
theorem d_Sp_turn_73 : decode b_Sp_turn 73 = .ok (.lastore, 1) := by decide +kernel
theorem d_Sp_turn_74 : decode b_Sp_turn 74 = .ok (.aload_n 0, 1) := by decide +kernel
theorem d_Sp_turn_75 : decode b_Sp_turn 75 = .ok (.getfield 9, 3) := by decide +kernel
theorem d_Sp_turn_78 : decode b_Sp_turn 78 = .ok (.iconst 4, 1) := by decide +kernel
theorem d_Sp_turn_79 : decode b_Sp_turn 79 = .ok (.iload_n 1, 1) := by decide +kernel
theorem d_Sp_turn_80 : decode b_Sp_turn 80 = .ok (.imul, 1) := by decide +kernel
theorem d_Sp_turn_81 : decode b_Sp_turn 81 = .ok (.iload 10, 2) := by decide +kernel
theorem d_Sp_turn_83 : decode b_Sp_turn 83 = .ok (.iadd, 1) := by decide +kernel
theorem d_Sp_turn_84 : decode b_Sp_turn 84 = .ok (.aload_n 0, 1) := by decide +kernel
theorem d_Sp_turn_85 : decode b_Sp_turn 85 = .ok (.getfield 9, 3) := by decide +kernel
theorem d_Sp_turn_88 : decode b_Sp_turn 88 = .ok (.iconst 4, 1) := by decide +kernel
theorem d_Sp_turn_89 : decode b_Sp_turn 89 = .ok (.aload_n 0, 1) := by decide +kernel
theorem d_Sp_turn_90 : decode b_Sp_turn 90 = .ok (.getfield 63, 3) := by decide +kernel
theorem d_Sp_turn_93 : decode b_Sp_turn 93 = .ok (.imul, 1) := by decide +kernel
theorem d_Sp_turn_94 : decode b_Sp_turn 94 = .ok (.iload 10, 2) := by decide +kernel
theorem d_Sp_turn_96 : decode b_Sp_turn 96 = .ok (.iadd, 1) := by decide +kernel
theorem d_Sp_turn_97 : decode b_Sp_turn 97 = .ok (.laload, 1) := by decide +kernel
theorem d_Sp_turn_98 : decode b_Sp_turn 98 = .ok (.lastore, 1) := by decide +kernel
theorem d_Sp_turn_99 : decode b_Sp_turn 99 = .ok (.iinc 10 1, 3) := by decide +kernel
theorem d_Sp_turn_102 : decode b_Sp_turn 102 = .ok (.goto (-55), 3) := by decide +kernel
theorem d_Sp_turn_105 : decode b_Sp_turn 105 = .ok (.iconst 0, 1) := by decide +kernel
theorem d_Sp_turn_106 : decode b_Sp_turn 106 = .ok (.istore 10, 2) := by decide +kernel
theorem d_Sp_turn_108 : decode b_Sp_turn 108 = .ok (.iload 10, 2) := by decide +kernel
theorem d_Sp_turn_110 : decode b_Sp_turn 110 = .ok (.aload_n 0, 1) := by decide +kernel
theorem d_Sp_turn_111 : decode b_Sp_turn 111 = .ok (.getfield 63, 3) := by decide +kernel
theorem d_Sp_turn_114 : decode b_Sp_turn 114 = .ok (.if_icmp .ge 33, 3) := by decide +kernel
theorem d_Sp_turn_117 : decode b_Sp_turn 117 = .ok (.aload_n 0, 1) := by decide +kernel
theorem d_Sp_turn_118 : decode b_Sp_turn 118 = .ok (.aload_n 0, 1) := by decide +kernel
theorem d_Sp_turn_119 : decode b_Sp_turn 119 = .ok (.getfield 9, 3) := by decide +kernel
theorem d_Sp_turn_122 : decode b_Sp_turn 122 = .ok (.iconst 4, 1) := by decide +kernel
theorem d_Sp_turn_123 : decode b_Sp_turn 123 = .ok (.iload 10, 2) := by decide +kernel
theorem d_Sp_turn_125 : decode b_Sp_turn 125 = .ok (.imul, 1) := by decide +kernel
theorem d_Sp_turn_126 : decode b_Sp_turn 126 = .ok (.lload 6, 2) := by decide +kernel
theorem d_Sp_turn_128 : decode b_Sp_turn 128 = .ok (.aload_n 0, 1) := by decide +kernel
theorem d_Sp_turn_129 : decode b_Sp_turn 129 = .ok (.iload 10, 2) := by decide +kernel
theorem d_Sp_turn_131 : decode b_Sp_turn 131 = .ok (.iload_n 2, 1) := by decide +kernel
theorem d_Sp_turn_132 : decode b_Sp_turn 132 = .ok (.iload_n 3, 1) := by decide +kernel
theorem d_Sp_turn_133 : decode b_Sp_turn 133 = .ok (.iload 4, 2) := by decide +kernel
theorem d_Sp_turn_135 : decode b_Sp_turn 135 = .ok (.invokevirtual 93, 3) := by decide +kernel
theorem d_Sp_turn_138 : decode b_Sp_turn 138 = .ok (.invokevirtual 99, 3) := by decide +kernel
theorem d_Sp_turn_141 : decode b_Sp_turn 141 = .ok (.iinc 10 1, 3) := by decide +kernel
theorem d_Sp_turn_144 : decode b_Sp_turn 144 = .ok (.goto (-36), 3) := by decide +kernel
theorem d_Sp_turn_147 : decode b_Sp_turn 147 = .ok (.iconst 0, 1) := by decide +kernel
theorem d_Sp_turn_148 : decode b_Sp_turn 148 = .ok (.istore 10, 2) := by decide +kernel
theorem d_Sp_turn_150 : decode b_Sp_turn 150 = .ok (.iload 10, 2) := by decide +kernel
theorem d_Sp_turn_152 : decode b_Sp_turn 152 = .ok (.aload_n 0, 1) := by decide +kernel
theorem d_Sp_turn_153 : decode b_Sp_turn 153 = .ok (.getfield 66, 3) := by decide +kernel
theorem d_Sp_turn_156 : decode b_Sp_turn 156 = .ok (.if_icmp .ge 49, 3) := by decide +kernel
theorem d_Sp_turn_159 : decode b_Sp_turn 159 = .ok (.aload_n 0, 1) := by decide +kernel
theorem d_Sp_turn_160 : decode b_Sp_turn 160 = .ok (.aload_n 0, 1) := by decide +kernel
theorem d_Sp_turn_161 : decode b_Sp_turn 161 = .ok (.getfield 15, 3) := by decide +kernel
theorem d_Sp_turn_164 : decode b_Sp_turn 164 = .ok (.iconst 4, 1) := by decide +kernel
theorem d_Sp_turn_165 : decode b_Sp_turn 165 = .ok (.iload 10, 2) := by decide +kernel
theorem d_Sp_turn_167 : decode b_Sp_turn 167 = .ok (.imul, 1) := by decide +kernel
theorem d_Sp_turn_168 : decode b_Sp_turn 168 = .ok (.lload 6, 2) := by decide +kernel
theorem d_Sp_turn_170 : decode b_Sp_turn 170 = .ok (.aload_n 0, 1) := by decide +kernel
theorem d_Sp_turn_171 : decode b_Sp_turn 171 = .ok (.iload 10, 2) := by decide +kernel
theorem d_Sp_turn_173 : decode b_Sp_turn 173 = .ok (.iload_n 2, 1) := by decide +kernel
theorem d_Sp_turn_174 : decode b_Sp_turn 174 = .ok (.iload_n 3, 1) := by decide +kernel
theorem d_Sp_turn_175 : decode b_Sp_turn 175 = .ok (.iload 4, 2) := by decide +kernel
theorem d_Sp_turn_177 : decode b_Sp_turn 177 = .ok (.iload 5, 2) := by decide +kernel
theorem d_Sp_turn_179 : decode b_Sp_turn 179 = .ok (.invokevirtual 76, 3) := by decide +kernel
theorem d_Sp_turn_182 : decode b_Sp_turn 182 = .ok (.invokevirtual 99, 3) := by decide +kernel
theorem d_Sp_turn_185 : decode b_Sp_turn 185 = .ok (.aload_n 0, 1) := by decide +kernel
theorem d_Sp_turn_186 : decode b_Sp_turn 186 = .ok (.getfield 18, 3) := by decide +kernel
theorem d_Sp_turn_189 : decode b_Sp_turn 189 = .ok (.iload 10, 2) := by decide +kernel
theorem d_Sp_turn_191 : decode b_Sp_turn 191 = .ok (.dup2, 1) := by decide +kernel
theorem d_Sp_turn_192 : decode b_Sp_turn 192 = .ok (.iaload, 1) := by decide +kernel
theorem d_Sp_turn_193 : decode b_Sp_turn 193 = .ok (.aload_n 0, 1) := by decide +kernel
theorem d_Sp_turn_194 : decode b_Sp_turn 194 = .ok (.getfield 69, 3) := by decide +kernel
theorem d_Sp_turn_197 : decode b_Sp_turn 197 = .ok (.ior, 1) := by decide +kernel
theorem d_Sp_turn_198 : decode b_Sp_turn 198 = .ok (.iastore, 1) := by decide +kernel
theorem d_Sp_turn_199 : decode b_Sp_turn 199 = .ok (.iinc 10 1, 3) := by decide +kernel
theorem d_Sp_turn_202 : decode b_Sp_turn 202 = .ok (.goto (-52), 3) := by decide +kernel
theorem d_Sp_turn_205 : decode b_Sp_turn 205 = .ok (.aload_n 0, 1) := by decide +kernel
theorem d_Sp_turn_206 : decode b_Sp_turn 206 = .ok (.aload_n 0, 1) := by decide +kernel
theorem d_Sp_turn_207 : decode b_Sp_turn 207 = .ok (.getfield 69, 3) := by decide +kernel
theorem d_Sp_turn_210 : decode b_Sp_turn 210 = .ok (.iconst 1, 1) := by decide +kernel
theorem d_Sp_turn_211 : decode b_Sp_turn 211 = .ok (.isub, 1) := by decide +kernel
theorem d_Sp_turn_212 : decode b_Sp_turn 212 = .ok (.invokevirtual 90, 3) := by decide +kernel
theorem d_Sp_turn_215 : decode b_Sp_turn 215 = .ok (.return_, 1) := by decide +kernel
theorem d_Sp_shift_0 : decode b_Sp_shift 0 = .ok (.iconst 0, 1) := by decide +kernel
theorem d_Sp_shift_1 : decode b_Sp_shift 1 = .ok (.istore 7, 2) := by decide +kernel
theorem d_Sp_shift_3 : decode b_Sp_shift 3 = .ok (.iload 7, 2) := by decide +kernel
theorem d_Sp_shift_5 : decode b_Sp_shift 5 = .ok (.iconst 4, 1) := by decide +kernel
theorem d_Sp_shift_6 : decode b_Sp_shift 6 = .ok (.if_icmp .ge 34, 3) := by decide +kernel
theorem d_Sp_shift_9 : decode b_Sp_shift 9 = .ok (.aload_n 1, 1) := by decide +kernel
theorem d_Sp_shift_10 : decode b_Sp_shift 10 = .ok (.iload_n 2, 1) := by decide +kernel
theorem d_Sp_shift_11 : decode b_Sp_shift 11 = .ok (.iload 7, 2) := by decide +kernel
theorem d_Sp_shift_13 : decode b_Sp_shift 13 = .ok (.iadd, 1) := by decide +kernel
theorem d_Sp_shift_14 : decode b_Sp_shift 14 = .ok (.lload_n 3, 1) := by decide +kernel
theorem d_Sp_shift_15 : decode b_Sp_shift 15 = .ok (.aload_n 1, 1) := by decide +kernel
theorem d_Sp_shift_16 : decode b_Sp_shift 16 = .ok (.iload_n 2, 1) := by decide +kernel
theorem d_Sp_shift_17 : decode b_Sp_shift 17 = .ok (.iload 7, 2) := by decide +kernel
theorem d_Sp_shift_19 : decode b_Sp_shift 19 = .ok (.iadd, 1) := by decide +kernel
theorem d_Sp_shift_20 : decode b_Sp_shift 20 = .ok (.laload, 1) := by decide +kernel
theorem d_Sp_shift_21 : decode b_Sp_shift 21 = .ok (.lmul, 1) := by decide +kernel
theorem d_Sp_shift_22 : decode b_Sp_shift 22 = .ok (.lload 5, 2) := by decide +kernel
theorem d_Sp_shift_24 : decode b_Sp_shift 24 = .ok (.aload_n 0, 1) := by decide +kernel
theorem d_Sp_shift_25 : decode b_Sp_shift 25 = .ok (.getfield 25, 3) := by decide +kernel
theorem d_Sp_shift_28 : decode b_Sp_shift 28 = .ok (.iload 7, 2) := by decide +kernel
theorem d_Sp_shift_30 : decode b_Sp_shift 30 = .ok (.laload, 1) := by decide +kernel
theorem d_Sp_shift_31 : decode b_Sp_shift 31 = .ok (.lmul, 1) := by decide +kernel
theorem d_Sp_shift_32 : decode b_Sp_shift 32 = .ok (.lsub, 1) := by decide +kernel
theorem d_Sp_shift_33 : decode b_Sp_shift 33 = .ok (.lastore, 1) := by decide +kernel
theorem d_Sp_shift_34 : decode b_Sp_shift 34 = .ok (.iinc 7 1, 3) := by decide +kernel
theorem d_Sp_shift_37 : decode b_Sp_shift 37 = .ok (.goto (-34), 3) := by decide +kernel
theorem d_Sp_shift_40 : decode b_Sp_shift 40 = .ok (.aload_n 1, 1) := by decide +kernel
theorem d_Sp_shift_41 : decode b_Sp_shift 41 = .ok (.iload_n 2, 1) := by decide +kernel
theorem d_Sp_shift_42 : decode b_Sp_shift 42 = .ok (.invokestatic 103, 3) := by decide +kernel
theorem d_Sp_shift_45 : decode b_Sp_shift 45 = .ok (.return_, 1) := by decide +kernel
theorem d_Sp_reduce_0 : decode b_Sp_reduce 0 = .ok (.lconst 0, 1) := by decide +kernel
theorem d_Sp_reduce_1 : decode b_Sp_reduce 1 = .ok (.lstore_n 2, 1) := by decide +kernel
theorem d_Sp_reduce_2 : decode b_Sp_reduce 2 = .ok (.iconst 0, 1) := by decide +kernel
theorem d_Sp_reduce_3 : decode b_Sp_reduce 3 = .ok (.istore 4, 2) := by decide +kernel
theorem d_Sp_reduce_5 : decode b_Sp_reduce 5 = .ok (.iload 4, 2) := by decide +kernel
theorem d_Sp_reduce_7 : decode b_Sp_reduce 7 = .ok (.iconst 4, 1) := by decide +kernel
theorem d_Sp_reduce_8 : decode b_Sp_reduce 8 = .ok (.if_icmp .ge 53, 3) := by decide +kernel
theorem d_Sp_reduce_11 : decode b_Sp_reduce 11 = .ok (.aload_n 0, 1) := by decide +kernel
theorem d_Sp_reduce_12 : decode b_Sp_reduce 12 = .ok (.iload_n 1, 1) := by decide +kernel
theorem d_Sp_reduce_13 : decode b_Sp_reduce 13 = .ok (.iload 4, 2) := by decide +kernel
theorem d_Sp_reduce_15 : decode b_Sp_reduce 15 = .ok (.iadd, 1) := by decide +kernel
theorem d_Sp_reduce_16 : decode b_Sp_reduce 16 = .ok (.laload, 1) := by decide +kernel
theorem d_Sp_reduce_17 : decode b_Sp_reduce 17 = .ok (.lstore 5, 2) := by decide +kernel
theorem d_Sp_reduce_19 : decode b_Sp_reduce 19 = .ok (.iconst 0, 1) := by decide +kernel
theorem d_Sp_reduce_20 : decode b_Sp_reduce 20 = .ok (.istore 7, 2) := by decide +kernel
theorem d_Sp_reduce_22 : decode b_Sp_reduce 22 = .ok (.iload 7, 2) := by decide +kernel
theorem d_Sp_reduce_24 : decode b_Sp_reduce 24 = .ok (.bipush 100, 2) := by decide +kernel
theorem d_Sp_reduce_26 : decode b_Sp_reduce 26 = .ok (.if_icmp .ge 29, 3) := by decide +kernel
theorem d_Sp_reduce_29 : decode b_Sp_reduce 29 = .ok (.lload 5, 2) := by decide +kernel
theorem d_Sp_reduce_31 : decode b_Sp_reduce 31 = .ok (.lconst 0, 1) := by decide +kernel
theorem d_Sp_reduce_32 : decode b_Sp_reduce 32 = .ok (.lcmp, 1) := by decide +kernel
theorem d_Sp_reduce_33 : decode b_Sp_reduce 33 = .ok (.ifCond .eq 22, 3) := by decide +kernel
theorem d_Sp_reduce_36 : decode b_Sp_reduce 36 = .ok (.lload_n 2, 1) := by decide +kernel
theorem d_Sp_reduce_37 : decode b_Sp_reduce 37 = .ok (.lload 5, 2) := by decide +kernel
theorem d_Sp_reduce_39 : decode b_Sp_reduce 39 = .ok (.lrem, 1) := by decide +kernel
theorem d_Sp_reduce_40 : decode b_Sp_reduce 40 = .ok (.lstore 8, 2) := by decide +kernel
theorem d_Sp_reduce_42 : decode b_Sp_reduce 42 = .ok (.lload 5, 2) := by decide +kernel
theorem d_Sp_reduce_44 : decode b_Sp_reduce 44 = .ok (.lstore_n 2, 1) := by decide +kernel
theorem d_Sp_reduce_45 : decode b_Sp_reduce 45 = .ok (.lload 8, 2) := by decide +kernel
theorem d_Sp_reduce_47 : decode b_Sp_reduce 47 = .ok (.lstore 5, 2) := by decide +kernel
theorem d_Sp_reduce_49 : decode b_Sp_reduce 49 = .ok (.iinc 7 1, 3) := by decide +kernel
theorem d_Sp_reduce_52 : decode b_Sp_reduce 52 = .ok (.goto (-30), 3) := by decide +kernel
theorem d_Sp_reduce_55 : decode b_Sp_reduce 55 = .ok (.iinc 4 1, 3) := by decide +kernel
theorem d_Sp_reduce_58 : decode b_Sp_reduce 58 = .ok (.goto (-53), 3) := by decide +kernel
theorem d_Sp_reduce_61 : decode b_Sp_reduce 61 = .ok (.lload_n 2, 1) := by decide +kernel
theorem d_Sp_reduce_62 : decode b_Sp_reduce 62 = .ok (.lconst 0, 1) := by decide +kernel
theorem d_Sp_reduce_63 : decode b_Sp_reduce 63 = .ok (.lcmp, 1) := by decide +kernel
theorem d_Sp_reduce_64 : decode b_Sp_reduce 64 = .ok (.ifCond .ge 8, 3) := by decide +kernel
theorem d_Sp_reduce_67 : decode b_Sp_reduce 67 = .ok (.lload_n 2, 1) := by decide +kernel
theorem d_Sp_reduce_68 : decode b_Sp_reduce 68 = .ok (.lneg, 1) := by decide +kernel
theorem d_Sp_reduce_69 : decode b_Sp_reduce 69 = .ok (.goto 4, 3) := by decide +kernel
theorem d_Sp_reduce_72 : decode b_Sp_reduce 72 = .ok (.lload_n 2, 1) := by decide +kernel
theorem d_Sp_reduce_73 : decode b_Sp_reduce 73 = .ok (.lstore 4, 2) := by decide +kernel
theorem d_Sp_reduce_75 : decode b_Sp_reduce 75 = .ok (.iconst 0, 1) := by decide +kernel
theorem d_Sp_reduce_76 : decode b_Sp_reduce 76 = .ok (.istore 6, 2) := by decide +kernel
theorem d_Sp_reduce_78 : decode b_Sp_reduce 78 = .ok (.lload 4, 2) := by decide +kernel
theorem d_Sp_reduce_80 : decode b_Sp_reduce 80 = .ok (.lconst 1, 1) := by decide +kernel
theorem d_Sp_reduce_81 : decode b_Sp_reduce 81 = .ok (.lcmp, 1) := by decide +kernel
theorem d_Sp_reduce_82 : decode b_Sp_reduce 82 = .ok (.ifCond .le 26, 3) := by decide +kernel
theorem d_Sp_reduce_85 : decode b_Sp_reduce 85 = .ok (.iload 6, 2) := by decide +kernel
theorem d_Sp_reduce_87 : decode b_Sp_reduce 87 = .ok (.iconst 4, 1) := by decide +kernel
theorem d_Sp_reduce_88 : decode b_Sp_reduce 88 = .ok (.if_icmp .ge 20, 3) := by decide +kernel
theorem d_Sp_reduce_91 : decode b_Sp_reduce 91 = .ok (.aload_n 0, 1) := by decide +kernel
theorem d_Sp_reduce_92 : decode b_Sp_reduce 92 = .ok (.iload_n 1, 1) := by decide +kernel
theorem d_Sp_reduce_93 : decode b_Sp_reduce 93 = .ok (.iload 6, 2) := by decide +kernel
theorem d_Sp_reduce_95 : decode b_Sp_reduce 95 = .ok (.iadd, 1) := by decide +kernel
theorem d_Sp_reduce_96 : decode b_Sp_reduce 96 = .ok (.dup2, 1) := by decide +kernel
theorem d_Sp_reduce_97 : decode b_Sp_reduce 97 = .ok (.laload, 1) := by decide +kernel
theorem d_Sp_reduce_98 : decode b_Sp_reduce 98 = .ok (.lload 4, 2) := by decide +kernel
theorem d_Sp_reduce_100 : decode b_Sp_reduce 100 = .ok (.ldiv, 1) := by decide +kernel
theorem d_Sp_reduce_101 : decode b_Sp_reduce 101 = .ok (.lastore, 1) := by decide +kernel
theorem d_Sp_reduce_102 : decode b_Sp_reduce 102 = .ok (.iinc 6 1, 3) := by decide +kernel
theorem d_Sp_reduce_105 : decode b_Sp_reduce 105 = .ok (.goto (-27), 3) := by decide +kernel
theorem d_Sp_reduce_108 : decode b_Sp_reduce 108 = .ok (.return_, 1) := by decide +kernel
theorem d_Sp_worth_0 : decode b_Sp_worth 0 = .ok (.iconst 4, 1) := by decide +kernel
theorem d_Sp_worth_1 : decode b_Sp_worth 1 = .ok (.iload_n 1, 1) := by decide +kernel
theorem d_Sp_worth_2 : decode b_Sp_worth 2 = .ok (.imul, 1) := by decide +kernel
theorem d_Sp_worth_3 : decode b_Sp_worth 3 = .ok (.istore 6, 2) := by decide +kernel
theorem d_Sp_worth_5 : decode b_Sp_worth 5 = .ok (.iload_n 2, 1) := by decide +kernel
theorem d_Sp_worth_6 : decode b_Sp_worth 6 = .ok (.i2l, 1) := by decide +kernel
theorem d_Sp_worth_7 : decode b_Sp_worth 7 = .ok (.aload_n 0, 1) := by decide +kernel
theorem d_Sp_worth_8 : decode b_Sp_worth 8 = .ok (.getfield 15, 3) := by decide +kernel
theorem d_Sp_worth_11 : decode b_Sp_worth 11 = .ok (.iload 6, 2) := by decide +kernel
theorem d_Sp_worth_13 : decode b_Sp_worth 13 = .ok (.laload, 1) := by decide +kernel
theorem d_Sp_worth_14 : decode b_Sp_worth 14 = .ok (.lmul, 1) := by decide +kernel
theorem d_Sp_worth_15 : decode b_Sp_worth 15 = .ok (.iload_n 3, 1) := by decide +kernel
theorem d_Sp_worth_16 : decode b_Sp_worth 16 = .ok (.i2l, 1) := by decide +kernel
theorem d_Sp_worth_17 : decode b_Sp_worth 17 = .ok (.aload_n 0, 1) := by decide +kernel
theorem d_Sp_worth_18 : decode b_Sp_worth 18 = .ok (.getfield 15, 3) := by decide +kernel
theorem d_Sp_worth_21 : decode b_Sp_worth 21 = .ok (.iload 6, 2) := by decide +kernel
theorem d_Sp_worth_23 : decode b_Sp_worth 23 = .ok (.iconst 1, 1) := by decide +kernel
theorem d_Sp_worth_24 : decode b_Sp_worth 24 = .ok (.iadd, 1) := by decide +kernel
theorem d_Sp_worth_25 : decode b_Sp_worth 25 = .ok (.laload, 1) := by decide +kernel
theorem d_Sp_worth_26 : decode b_Sp_worth 26 = .ok (.lmul, 1) := by decide +kernel
theorem d_Sp_worth_27 : decode b_Sp_worth 27 = .ok (.ladd, 1) := by decide +kernel
theorem d_Sp_worth_28 : decode b_Sp_worth 28 = .ok (.iload 4, 2) := by decide +kernel
theorem d_Sp_worth_30 : decode b_Sp_worth 30 = .ok (.i2l, 1) := by decide +kernel
theorem d_Sp_worth_31 : decode b_Sp_worth 31 = .ok (.aload_n 0, 1) := by decide +kernel
theorem d_Sp_worth_32 : decode b_Sp_worth 32 = .ok (.getfield 15, 3) := by decide +kernel
theorem d_Sp_worth_35 : decode b_Sp_worth 35 = .ok (.iload 6, 2) := by decide +kernel
theorem d_Sp_worth_37 : decode b_Sp_worth 37 = .ok (.iconst 2, 1) := by decide +kernel
theorem d_Sp_worth_38 : decode b_Sp_worth 38 = .ok (.iadd, 1) := by decide +kernel
theorem d_Sp_worth_39 : decode b_Sp_worth 39 = .ok (.laload, 1) := by decide +kernel
theorem d_Sp_worth_40 : decode b_Sp_worth 40 = .ok (.lmul, 1) := by decide +kernel
theorem d_Sp_worth_41 : decode b_Sp_worth 41 = .ok (.ladd, 1) := by decide +kernel
theorem d_Sp_worth_42 : decode b_Sp_worth 42 = .ok (.iload 5, 2) := by decide +kernel
theorem d_Sp_worth_44 : decode b_Sp_worth 44 = .ok (.i2l, 1) := by decide +kernel
theorem d_Sp_worth_45 : decode b_Sp_worth 45 = .ok (.aload_n 0, 1) := by decide +kernel
theorem d_Sp_worth_46 : decode b_Sp_worth 46 = .ok (.getfield 15, 3) := by decide +kernel
theorem d_Sp_worth_49 : decode b_Sp_worth 49 = .ok (.iload 6, 2) := by decide +kernel
theorem d_Sp_worth_51 : decode b_Sp_worth 51 = .ok (.iconst 3, 1) := by decide +kernel
theorem d_Sp_worth_52 : decode b_Sp_worth 52 = .ok (.iadd, 1) := by decide +kernel
theorem d_Sp_worth_53 : decode b_Sp_worth 53 = .ok (.laload, 1) := by decide +kernel
theorem d_Sp_worth_54 : decode b_Sp_worth 54 = .ok (.lmul, 1) := by decide +kernel
theorem d_Sp_worth_55 : decode b_Sp_worth 55 = .ok (.lsub, 1) := by decide +kernel
theorem d_Sp_worth_56 : decode b_Sp_worth 56 = .ok (.lreturn, 1) := by decide +kernel
theorem d_Sp_cut_0 : decode b_Sp_cut 0 = .ok (.aload_n 0, 1) := by decide +kernel
theorem d_Sp_cut_1 : decode b_Sp_cut 1 = .ok (.getfield 66, 3) := by decide +kernel
theorem d_Sp_cut_4 : decode b_Sp_cut 4 = .ok (.istore 5, 2) := by decide +kernel
theorem d_Sp_cut_6 : decode b_Sp_cut 6 = .ok (.iconst 0, 1) := by decide +kernel
theorem d_Sp_cut_7 : decode b_Sp_cut 7 = .ok (.istore 6, 2) := by decide +kernel
theorem d_Sp_cut_9 : decode b_Sp_cut 9 = .ok (.iload 6, 2) := by decide +kernel
theorem d_Sp_cut_11 : decode b_Sp_cut 11 = .ok (.iload 5, 2) := by decide +kernel
theorem d_Sp_cut_13 : decode b_Sp_cut 13 = .ok (.if_icmp .ge 27, 3) := by decide +kernel
theorem d_Sp_cut_16 : decode b_Sp_cut 16 = .ok (.aload_n 0, 1) := by decide +kernel
theorem d_Sp_cut_17 : decode b_Sp_cut 17 = .ok (.getfield 22, 3) := by decide +kernel
theorem d_Sp_cut_20 : decode b_Sp_cut 20 = .ok (.iload 6, 2) := by decide +kernel
theorem d_Sp_cut_22 : decode b_Sp_cut 22 = .ok (.aload_n 0, 1) := by decide +kernel
theorem d_Sp_cut_23 : decode b_Sp_cut 23 = .ok (.iload 6, 2) := by decide +kernel
theorem d_Sp_cut_25 : decode b_Sp_cut 25 = .ok (.iload_n 1, 1) := by decide +kernel
theorem d_Sp_cut_26 : decode b_Sp_cut 26 = .ok (.iload_n 2, 1) := by decide +kernel
theorem d_Sp_cut_27 : decode b_Sp_cut 27 = .ok (.iload_n 3, 1) := by decide +kernel
theorem d_Sp_cut_28 : decode b_Sp_cut 28 = .ok (.iload 4, 2) := by decide +kernel
theorem d_Sp_cut_30 : decode b_Sp_cut 30 = .ok (.invokevirtual 76, 3) := by decide +kernel
theorem d_Sp_cut_33 : decode b_Sp_cut 33 = .ok (.lastore, 1) := by decide +kernel
theorem d_Sp_cut_34 : decode b_Sp_cut 34 = .ok (.iinc 6 1, 3) := by decide +kernel
theorem d_Sp_cut_37 : decode b_Sp_cut 37 = .ok (.goto (-28), 3) := by decide +kernel
theorem d_Sp_cut_40 : decode b_Sp_cut 40 = .ok (.iconst 0, 1) := by decide +kernel
theorem d_Sp_cut_41 : decode b_Sp_cut 41 = .ok (.istore 6, 2) := by decide +kernel
theorem d_Sp_cut_43 : decode b_Sp_cut 43 = .ok (.iload 6, 2) := by decide +kernel
theorem d_Sp_cut_45 : decode b_Sp_cut 45 = .ok (.iload 5, 2) := by decide +kernel
theorem d_Sp_cut_47 : decode b_Sp_cut 47 = .ok (.if_icmp .ge 70, 3) := by decide +kernel
theorem d_Sp_cut_50 : decode b_Sp_cut 50 = .ok (.iconst 0, 1) := by decide +kernel
theorem d_Sp_cut_51 : decode b_Sp_cut 51 = .ok (.istore 7, 2) := by decide +kernel
theorem d_Sp_cut_53 : decode b_Sp_cut 53 = .ok (.aload_n 0, 1) := by decide +kernel
theorem d_Sp_cut_54 : decode b_Sp_cut 54 = .ok (.getfield 22, 3) := by decide +kernel
theorem d_Sp_cut_57 : decode b_Sp_cut 57 = .ok (.iload 6, 2) := by decide +kernel
theorem d_Sp_cut_59 : decode b_Sp_cut 59 = .ok (.laload, 1) := by decide +kernel
theorem d_Sp_cut_60 : decode b_Sp_cut 60 = .ok (.lconst 0, 1) := by decide +kernel
theorem d_Sp_cut_61 : decode b_Sp_cut 61 = .ok (.lcmp, 1) := by decide +kernel
theorem d_Sp_cut_62 : decode b_Sp_cut 62 = .ok (.ifCond .le 49, 3) := by decide +kernel
theorem d_Sp_cut_65 : decode b_Sp_cut 65 = .ok (.iload 7, 2) := by decide +kernel
theorem d_Sp_cut_67 : decode b_Sp_cut 67 = .ok (.iload 5, 2) := by decide +kernel
theorem d_Sp_cut_69 : decode b_Sp_cut 69 = .ok (.if_icmp .ge 42, 3) := by decide +kernel
theorem d_Sp_cut_72 : decode b_Sp_cut 72 = .ok (.aload_n 0, 1) := by decide +kernel
theorem d_Sp_cut_73 : decode b_Sp_cut 73 = .ok (.getfield 22, 3) := by decide +kernel
theorem d_Sp_cut_76 : decode b_Sp_cut 76 = .ok (.iload 7, 2) := by decide +kernel
theorem d_Sp_cut_78 : decode b_Sp_cut 78 = .ok (.laload, 1) := by decide +kernel
theorem d_Sp_cut_79 : decode b_Sp_cut 79 = .ok (.lconst 0, 1) := by decide +kernel
theorem d_Sp_cut_80 : decode b_Sp_cut 80 = .ok (.lcmp, 1) := by decide +kernel
theorem d_Sp_cut_81 : decode b_Sp_cut 81 = .ok (.ifCond .ge 24, 3) := by decide +kernel
theorem d_Sp_cut_84 : decode b_Sp_cut 84 = .ok (.aload_n 0, 1) := by decide +kernel
theorem d_Sp_cut_85 : decode b_Sp_cut 85 = .ok (.iload 6, 2) := by decide +kernel
theorem d_Sp_cut_87 : decode b_Sp_cut 87 = .ok (.iload 7, 2) := by decide +kernel
theorem d_Sp_cut_89 : decode b_Sp_cut 89 = .ok (.iload 5, 2) := by decide +kernel
theorem d_Sp_cut_91 : decode b_Sp_cut 91 = .ok (.invokevirtual 107, 3) := by decide +kernel
theorem d_Sp_cut_94 : decode b_Sp_cut 94 = .ok (.ifCond .eq 11, 3) := by decide +kernel
theorem d_Sp_cut_97 : decode b_Sp_cut 97 = .ok (.aload_n 0, 1) := by decide +kernel
theorem d_Sp_cut_98 : decode b_Sp_cut 98 = .ok (.iload 6, 2) := by decide +kernel
theorem d_Sp_cut_100 : decode b_Sp_cut 100 = .ok (.iload 7, 2) := by decide +kernel
theorem d_Sp_cut_102 : decode b_Sp_cut 102 = .ok (.invokevirtual 111, 3) := by decide +kernel
theorem d_Sp_cut_105 : decode b_Sp_cut 105 = .ok (.iinc 7 1, 3) := by decide +kernel
theorem d_Sp_cut_108 : decode b_Sp_cut 108 = .ok (.goto (-55), 3) := by decide +kernel
theorem d_Sp_cut_111 : decode b_Sp_cut 111 = .ok (.iinc 6 1, 3) := by decide +kernel
theorem d_Sp_cut_114 : decode b_Sp_cut 114 = .ok (.goto (-71), 3) := by decide +kernel
theorem d_Sp_cut_117 : decode b_Sp_cut 117 = .ok (.aload_n 0, 1) := by decide +kernel
theorem d_Sp_cut_118 : decode b_Sp_cut 118 = .ok (.iload 5, 2) := by decide +kernel
theorem d_Sp_cut_120 : decode b_Sp_cut 120 = .ok (.invokevirtual 115, 3) := by decide +kernel
theorem d_Sp_cut_123 : decode b_Sp_cut 123 = .ok (.return_, 1) := by decide +kernel
theorem d_Sp_areNeighbours_0 : decode b_Sp_areNeighbours 0 = .ok (.aload_n 0, 1) := by decide +kernel
theorem d_Sp_areNeighbours_1 : decode b_Sp_areNeighbours 1 = .ok (.getfield 18, 3) := by decide +kernel
theorem d_Sp_areNeighbours_4 : decode b_Sp_areNeighbours 4 = .ok (.iload_n 1, 1) := by decide +kernel
theorem d_Sp_areNeighbours_5 : decode b_Sp_areNeighbours 5 = .ok (.iaload, 1) := by decide +kernel
theorem d_Sp_areNeighbours_6 : decode b_Sp_areNeighbours 6 = .ok (.aload_n 0, 1) := by decide +kernel
theorem d_Sp_areNeighbours_7 : decode b_Sp_areNeighbours 7 = .ok (.getfield 18, 3) := by decide +kernel
theorem d_Sp_areNeighbours_10 : decode b_Sp_areNeighbours 10 = .ok (.iload_n 2, 1) := by decide +kernel
theorem d_Sp_areNeighbours_11 : decode b_Sp_areNeighbours 11 = .ok (.iaload, 1) := by decide +kernel
theorem d_Sp_areNeighbours_12 : decode b_Sp_areNeighbours 12 = .ok (.iand, 1) := by decide +kernel
theorem d_Sp_areNeighbours_13 : decode b_Sp_areNeighbours 13 = .ok (.istore 4, 2) := by decide +kernel
theorem d_Sp_areNeighbours_15 : decode b_Sp_areNeighbours 15 = .ok (.iconst 0, 1) := by decide +kernel
theorem d_Sp_areNeighbours_16 : decode b_Sp_areNeighbours 16 = .ok (.istore 5, 2) := by decide +kernel
theorem d_Sp_areNeighbours_18 : decode b_Sp_areNeighbours 18 = .ok (.iload 5, 2) := by decide +kernel
theorem d_Sp_areNeighbours_20 : decode b_Sp_areNeighbours 20 = .ok (.iload_n 3, 1) := by decide +kernel
theorem d_Sp_areNeighbours_21 : decode b_Sp_areNeighbours 21 = .ok (.if_icmp .ge 38, 3) := by decide +kernel
theorem d_Sp_areNeighbours_24 : decode b_Sp_areNeighbours 24 = .ok (.iload 5, 2) := by decide +kernel
theorem d_Sp_areNeighbours_26 : decode b_Sp_areNeighbours 26 = .ok (.iload_n 1, 1) := by decide +kernel
theorem d_Sp_areNeighbours_27 : decode b_Sp_areNeighbours 27 = .ok (.if_icmp .eq 26, 3) := by decide +kernel
theorem d_Sp_areNeighbours_30 : decode b_Sp_areNeighbours 30 = .ok (.iload 5, 2) := by decide +kernel
theorem d_Sp_areNeighbours_32 : decode b_Sp_areNeighbours 32 = .ok (.iload_n 2, 1) := by decide +kernel
theorem d_Sp_areNeighbours_33 : decode b_Sp_areNeighbours 33 = .ok (.if_icmp .eq 20, 3) := by decide +kernel
theorem d_Sp_areNeighbours_36 : decode b_Sp_areNeighbours 36 = .ok (.aload_n 0, 1) := by decide +kernel
theorem d_Sp_areNeighbours_37 : decode b_Sp_areNeighbours 37 = .ok (.getfield 18, 3) := by decide +kernel
theorem d_Sp_areNeighbours_40 : decode b_Sp_areNeighbours 40 = .ok (.iload 5, 2) := by decide +kernel
theorem d_Sp_areNeighbours_42 : decode b_Sp_areNeighbours 42 = .ok (.iaload, 1) := by decide +kernel
theorem d_Sp_areNeighbours_43 : decode b_Sp_areNeighbours 43 = .ok (.iload 4, 2) := by decide +kernel
theorem d_Sp_areNeighbours_45 : decode b_Sp_areNeighbours 45 = .ok (.iand, 1) := by decide +kernel
theorem d_Sp_areNeighbours_46 : decode b_Sp_areNeighbours 46 = .ok (.iload 4, 2) := by decide +kernel
theorem d_Sp_areNeighbours_48 : decode b_Sp_areNeighbours 48 = .ok (.if_icmp .ne 5, 3) := by decide +kernel
theorem d_Sp_areNeighbours_51 : decode b_Sp_areNeighbours 51 = .ok (.iconst 0, 1) := by decide +kernel
theorem d_Sp_areNeighbours_52 : decode b_Sp_areNeighbours 52 = .ok (.ireturn, 1) := by decide +kernel
theorem d_Sp_areNeighbours_53 : decode b_Sp_areNeighbours 53 = .ok (.iinc 5 1, 3) := by decide +kernel
theorem d_Sp_areNeighbours_56 : decode b_Sp_areNeighbours 56 = .ok (.goto (-38), 3) := by decide +kernel
theorem d_Sp_areNeighbours_59 : decode b_Sp_areNeighbours 59 = .ok (.iconst 1, 1) := by decide +kernel
theorem d_Sp_areNeighbours_60 : decode b_Sp_areNeighbours 60 = .ok (.ireturn, 1) := by decide +kernel
theorem d_Sp_appendBetween_0 : decode b_Sp_appendBetween 0 = .ok (.iconst 0, 1) := by decide +kernel
theorem d_Sp_appendBetween_1 : decode b_Sp_appendBetween 1 = .ok (.istore_n 3, 1) := by decide +kernel
theorem d_Sp_appendBetween_2 : decode b_Sp_appendBetween 2 = .ok (.iload_n 3, 1) := by decide +kernel
theorem d_Sp_appendBetween_3 : decode b_Sp_appendBetween 3 = .ok (.iconst 4, 1) := by decide +kernel
theorem d_Sp_appendBetween_4 : decode b_Sp_appendBetween 4 = .ok (.if_icmp .ge 50, 3) := by decide +kernel
theorem d_Sp_appendBetween_7 : decode b_Sp_appendBetween 7 = .ok (.aload_n 0, 1) := by decide +kernel
theorem d_Sp_appendBetween_8 : decode b_Sp_appendBetween 8 = .ok (.getfield 25, 3) := by decide +kernel
theorem d_Sp_appendBetween_11 : decode b_Sp_appendBetween 11 = .ok (.iload_n 3, 1) := by decide +kernel
theorem d_Sp_appendBetween_12 : decode b_Sp_appendBetween 12 = .ok (.aload_n 0, 1) := by decide +kernel
theorem d_Sp_appendBetween_13 : decode b_Sp_appendBetween 13 = .ok (.getfield 22, 3) := by decide +kernel
theorem d_Sp_appendBetween_16 : decode b_Sp_appendBetween 16 = .ok (.iload_n 1, 1) := by decide +kernel
theorem d_Sp_appendBetween_17 : decode b_Sp_appendBetween 17 = .ok (.laload, 1) := by decide +kernel
theorem d_Sp_appendBetween_18 : decode b_Sp_appendBetween 18 = .ok (.aload_n 0, 1) := by decide +kernel
theorem d_Sp_appendBetween_19 : decode b_Sp_appendBetween 19 = .ok (.getfield 15, 3) := by decide +kernel
theorem d_Sp_appendBetween_22 : decode b_Sp_appendBetween 22 = .ok (.iconst 4, 1) := by decide +kernel
theorem d_Sp_appendBetween_23 : decode b_Sp_appendBetween 23 = .ok (.iload_n 2, 1) := by decide +kernel
theorem d_Sp_appendBetween_24 : decode b_Sp_appendBetween 24 = .ok (.imul, 1) := by decide +kernel
theorem d_Sp_appendBetween_25 : decode b_Sp_appendBetween 25 = .ok (.iload_n 3, 1) := by decide +kernel
theorem d_Sp_appendBetween_26 : decode b_Sp_appendBetween 26 = .ok (.iadd, 1) := by decide +kernel
theorem d_Sp_appendBetween_27 : decode b_Sp_appendBetween 27 = .ok (.laload, 1) := by decide +kernel
theorem d_Sp_appendBetween_28 : decode b_Sp_appendBetween 28 = .ok (.lmul, 1) := by decide +kernel
theorem d_Sp_appendBetween_29 : decode b_Sp_appendBetween 29 = .ok (.aload_n 0, 1) := by decide +kernel
theorem d_Sp_appendBetween_30 : decode b_Sp_appendBetween 30 = .ok (.getfield 22, 3) := by decide +kernel
theorem d_Sp_appendBetween_33 : decode b_Sp_appendBetween 33 = .ok (.iload_n 2, 1) := by decide +kernel
theorem d_Sp_appendBetween_34 : decode b_Sp_appendBetween 34 = .ok (.laload, 1) := by decide +kernel
theorem d_Sp_appendBetween_35 : decode b_Sp_appendBetween 35 = .ok (.aload_n 0, 1) := by decide +kernel
theorem d_Sp_appendBetween_36 : decode b_Sp_appendBetween 36 = .ok (.getfield 15, 3) := by decide +kernel
theorem d_Sp_appendBetween_39 : decode b_Sp_appendBetween 39 = .ok (.iconst 4, 1) := by decide +kernel
theorem d_Sp_appendBetween_40 : decode b_Sp_appendBetween 40 = .ok (.iload_n 1, 1) := by decide +kernel
theorem d_Sp_appendBetween_41 : decode b_Sp_appendBetween 41 = .ok (.imul, 1) := by decide +kernel
theorem d_Sp_appendBetween_42 : decode b_Sp_appendBetween 42 = .ok (.iload_n 3, 1) := by decide +kernel
theorem d_Sp_appendBetween_43 : decode b_Sp_appendBetween 43 = .ok (.iadd, 1) := by decide +kernel
theorem d_Sp_appendBetween_44 : decode b_Sp_appendBetween 44 = .ok (.laload, 1) := by decide +kernel
theorem d_Sp_appendBetween_45 : decode b_Sp_appendBetween 45 = .ok (.lmul, 1) := by decide +kernel
theorem d_Sp_appendBetween_46 : decode b_Sp_appendBetween 46 = .ok (.lsub, 1) := by decide +kernel
theorem d_Sp_appendBetween_47 : decode b_Sp_appendBetween 47 = .ok (.lastore, 1) := by decide +kernel
theorem d_Sp_appendBetween_48 : decode b_Sp_appendBetween 48 = .ok (.iinc 3 1, 3) := by decide +kernel
theorem d_Sp_appendBetween_51 : decode b_Sp_appendBetween 51 = .ok (.goto (-49), 3) := by decide +kernel
theorem d_Sp_appendBetween_54 : decode b_Sp_appendBetween 54 = .ok (.aload_n 0, 1) := by decide +kernel
theorem d_Sp_appendBetween_55 : decode b_Sp_appendBetween 55 = .ok (.getfield 25, 3) := by decide +kernel
theorem d_Sp_appendBetween_58 : decode b_Sp_appendBetween 58 = .ok (.iconst 0, 1) := by decide +kernel
theorem d_Sp_appendBetween_59 : decode b_Sp_appendBetween 59 = .ok (.invokestatic 103, 3) := by decide +kernel
theorem d_Sp_appendBetween_62 : decode b_Sp_appendBetween 62 = .ok (.aload_n 0, 1) := by decide +kernel
theorem d_Sp_appendBetween_63 : decode b_Sp_appendBetween 63 = .ok (.aload_n 0, 1) := by decide +kernel
theorem d_Sp_appendBetween_64 : decode b_Sp_appendBetween 64 = .ok (.getfield 18, 3) := by decide +kernel
theorem d_Sp_appendBetween_67 : decode b_Sp_appendBetween 67 = .ok (.iload_n 1, 1) := by decide +kernel
theorem d_Sp_appendBetween_68 : decode b_Sp_appendBetween 68 = .ok (.iaload, 1) := by decide +kernel
theorem d_Sp_appendBetween_69 : decode b_Sp_appendBetween 69 = .ok (.aload_n 0, 1) := by decide +kernel
theorem d_Sp_appendBetween_70 : decode b_Sp_appendBetween 70 = .ok (.getfield 18, 3) := by decide +kernel
theorem d_Sp_appendBetween_73 : decode b_Sp_appendBetween 73 = .ok (.iload_n 2, 1) := by decide +kernel
theorem d_Sp_appendBetween_74 : decode b_Sp_appendBetween 74 = .ok (.iaload, 1) := by decide +kernel
theorem d_Sp_appendBetween_75 : decode b_Sp_appendBetween 75 = .ok (.iand, 1) := by decide +kernel
theorem d_Sp_appendBetween_76 : decode b_Sp_appendBetween 76 = .ok (.aload_n 0, 1) := by decide +kernel
theorem d_Sp_appendBetween_77 : decode b_Sp_appendBetween 77 = .ok (.getfield 69, 3) := by decide +kernel
theorem d_Sp_appendBetween_80 : decode b_Sp_appendBetween 80 = .ok (.ior, 1) := by decide +kernel
theorem d_Sp_appendBetween_81 : decode b_Sp_appendBetween 81 = .ok (.invokevirtual 90, 3) := by decide +kernel
theorem d_Sp_appendBetween_84 : decode b_Sp_appendBetween 84 = .ok (.return_, 1) := by decide +kernel
theorem d_Sp_dropBeyond_0 : decode b_Sp_dropBeyond 0 = .ok (.iconst 0, 1) := by decide +kernel
theorem d_Sp_dropBeyond_1 : decode b_Sp_dropBeyond 1 = .ok (.istore_n 2, 1) := by decide +kernel
theorem d_Sp_dropBeyond_2 : decode b_Sp_dropBeyond 2 = .ok (.iconst 0, 1) := by decide +kernel
theorem d_Sp_dropBeyond_3 : decode b_Sp_dropBeyond 3 = .ok (.istore_n 3, 1) := by decide +kernel
theorem d_Sp_dropBeyond_4 : decode b_Sp_dropBeyond 4 = .ok (.iload_n 3, 1) := by decide +kernel
theorem d_Sp_dropBeyond_5 : decode b_Sp_dropBeyond 5 = .ok (.aload_n 0, 1) := by decide +kernel
theorem d_Sp_dropBeyond_6 : decode b_Sp_dropBeyond 6 = .ok (.getfield 66, 3) := by decide +kernel
theorem d_Sp_dropBeyond_9 : decode b_Sp_dropBeyond 9 = .ok (.if_icmp .ge 110, 3) := by decide +kernel
theorem d_Sp_dropBeyond_12 : decode b_Sp_dropBeyond 12 = .ok (.iload_n 3, 1) := by decide +kernel
theorem d_Sp_dropBeyond_13 : decode b_Sp_dropBeyond 13 = .ok (.iload_n 1, 1) := by decide +kernel
theorem d_Sp_dropBeyond_14 : decode b_Sp_dropBeyond 14 = .ok (.if_icmp .ge 17, 3) := by decide +kernel
theorem d_Sp_dropBeyond_17 : decode b_Sp_dropBeyond 17 = .ok (.aload_n 0, 1) := by decide +kernel
theorem d_Sp_dropBeyond_18 : decode b_Sp_dropBeyond 18 = .ok (.getfield 22, 3) := by decide +kernel
theorem d_Sp_dropBeyond_21 : decode b_Sp_dropBeyond 21 = .ok (.iload_n 3, 1) := by decide +kernel
theorem d_Sp_dropBeyond_22 : decode b_Sp_dropBeyond 22 = .ok (.laload, 1) := by decide +kernel
theorem d_Sp_dropBeyond_23 : decode b_Sp_dropBeyond 23 = .ok (.lconst 0, 1) := by decide +kernel
theorem d_Sp_dropBeyond_24 : decode b_Sp_dropBeyond 24 = .ok (.lcmp, 1) := by decide +kernel
theorem d_Sp_dropBeyond_25 : decode b_Sp_dropBeyond 25 = .ok (.ifCond .ge 6, 3) := by decide +kernel
theorem d_Sp_dropBeyond_28 : decode b_Sp_dropBeyond 28 = .ok (.goto 85, 3) := by decide +kernel
theorem d_Sp_dropBeyond_31 : decode b_Sp_dropBeyond 31 = .ok (.iconst 0, 1) := by decide +kernel
theorem d_Sp_dropBeyond_32 : decode b_Sp_dropBeyond 32 = .ok (.istore 4, 2) := by decide +kernel
theorem d_Sp_dropBeyond_34 : decode b_Sp_dropBeyond 34 = .ok (.iload 4, 2) := by decide +kernel
theorem d_Sp_dropBeyond_36 : decode b_Sp_dropBeyond 36 = .ok (.iconst 4, 1) := by decide +kernel
theorem d_Sp_dropBeyond_37 : decode b_Sp_dropBeyond 37 = .ok (.if_icmp .ge 31, 3) := by decide +kernel
theorem d_Sp_dropBeyond_40 : decode b_Sp_dropBeyond 40 = .ok (.aload_n 0, 1) := by decide +kernel
theorem d_Sp_dropBeyond_41 : decode b_Sp_dropBeyond 41 = .ok (.getfield 15, 3) := by decide +kernel
theorem d_Sp_dropBeyond_44 : decode b_Sp_dropBeyond 44 = .ok (.iconst 4, 1) := by decide +kernel
theorem d_Sp_dropBeyond_45 : decode b_Sp_dropBeyond 45 = .ok (.iload_n 2, 1) := by decide +kernel
theorem d_Sp_dropBeyond_46 : decode b_Sp_dropBeyond 46 = .ok (.imul, 1) := by decide +kernel
theorem d_Sp_dropBeyond_47 : decode b_Sp_dropBeyond 47 = .ok (.iload 4, 2) := by decide +kernel
theorem d_Sp_dropBeyond_49 : decode b_Sp_dropBeyond 49 = .ok (.iadd, 1) := by decide +kernel
theorem d_Sp_dropBeyond_50 : decode b_Sp_dropBeyond 50 = .ok (.aload_n 0, 1) := by decide +kernel
theorem d_Sp_dropBeyond_51 : decode b_Sp_dropBeyond 51 = .ok (.getfield 15, 3) := by decide +kernel
theorem d_Sp_dropBeyond_54 : decode b_Sp_dropBeyond 54 = .ok (.iconst 4, 1) := by decide +kernel
theorem d_Sp_dropBeyond_55 : decode b_Sp_dropBeyond 55 = .ok (.iload_n 3, 1) := by decide +kernel
theorem d_Sp_dropBeyond_56 : decode b_Sp_dropBeyond 56 = .ok (.imul, 1) := by decide +kernel
theorem d_Sp_dropBeyond_57 : decode b_Sp_dropBeyond 57 = .ok (.iload 4, 2) := by decide +kernel
theorem d_Sp_dropBeyond_59 : decode b_Sp_dropBeyond 59 = .ok (.iadd, 1) := by decide +kernel
theorem d_Sp_dropBeyond_60 : decode b_Sp_dropBeyond 60 = .ok (.laload, 1) := by decide +kernel
