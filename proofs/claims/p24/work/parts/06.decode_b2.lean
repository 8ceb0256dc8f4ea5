theorem d_Sp_dropBeyond_61 : decode b_Sp_dropBeyond 61 = .ok (.lastore, 1) := by decide +kernel
theorem d_Sp_dropBeyond_62 : decode b_Sp_dropBeyond 62 = .ok (.iinc 4 1, 3) := by decide +kernel
theorem d_Sp_dropBeyond_65 : decode b_Sp_dropBeyond 65 = .ok (.goto (-31), 3) := by decide +kernel
theorem d_Sp_dropBeyond_68 : decode b_Sp_dropBeyond 68 = .ok (.aload_n 0, 1) := by decide +kernel
theorem d_Sp_dropBeyond_69 : decode b_Sp_dropBeyond 69 = .ok (.getfield 18, 3) := by decide +kernel
theorem d_Sp_dropBeyond_72 : decode b_Sp_dropBeyond 72 = .ok (.iload_n 2, 1) := by decide +kernel
theorem d_Sp_dropBeyond_73 : decode b_Sp_dropBeyond 73 = .ok (.iload_n 3, 1) := by decide +kernel
theorem d_Sp_dropBeyond_74 : decode b_Sp_dropBeyond 74 = .ok (.iload_n 1, 1) := by decide +kernel
theorem d_Sp_dropBeyond_75 : decode b_Sp_dropBeyond 75 = .ok (.if_icmp .ge 28, 3) := by decide +kernel
theorem d_Sp_dropBeyond_78 : decode b_Sp_dropBeyond 78 = .ok (.aload_n 0, 1) := by decide +kernel
theorem d_Sp_dropBeyond_79 : decode b_Sp_dropBeyond 79 = .ok (.getfield 22, 3) := by decide +kernel
theorem d_Sp_dropBeyond_82 : decode b_Sp_dropBeyond 82 = .ok (.iload_n 3, 1) := by decide +kernel
theorem d_Sp_dropBeyond_83 : decode b_Sp_dropBeyond 83 = .ok (.laload, 1) := by decide +kernel
theorem d_Sp_dropBeyond_84 : decode b_Sp_dropBeyond 84 = .ok (.lconst 0, 1) := by decide +kernel
theorem d_Sp_dropBeyond_85 : decode b_Sp_dropBeyond 85 = .ok (.lcmp, 1) := by decide +kernel
theorem d_Sp_dropBeyond_86 : decode b_Sp_dropBeyond 86 = .ok (.ifCond .ne 17, 3) := by decide +kernel
theorem d_Sp_dropBeyond_89 : decode b_Sp_dropBeyond 89 = .ok (.aload_n 0, 1) := by decide +kernel
theorem d_Sp_dropBeyond_90 : decode b_Sp_dropBeyond 90 = .ok (.getfield 18, 3) := by decide +kernel
theorem d_Sp_dropBeyond_93 : decode b_Sp_dropBeyond 93 = .ok (.iload_n 3, 1) := by decide +kernel
theorem d_Sp_dropBeyond_94 : decode b_Sp_dropBeyond 94 = .ok (.iaload, 1) := by decide +kernel
theorem d_Sp_dropBeyond_95 : decode b_Sp_dropBeyond 95 = .ok (.aload_n 0, 1) := by decide +kernel
theorem d_Sp_dropBeyond_96 : decode b_Sp_dropBeyond 96 = .ok (.getfield 69, 3) := by decide +kernel
theorem d_Sp_dropBeyond_99 : decode b_Sp_dropBeyond 99 = .ok (.ior, 1) := by decide +kernel
theorem d_Sp_dropBeyond_100 : decode b_Sp_dropBeyond 100 = .ok (.goto 9, 3) := by decide +kernel
theorem d_Sp_dropBeyond_103 : decode b_Sp_dropBeyond 103 = .ok (.aload_n 0, 1) := by decide +kernel
theorem d_Sp_dropBeyond_104 : decode b_Sp_dropBeyond 104 = .ok (.getfield 18, 3) := by decide +kernel
theorem d_Sp_dropBeyond_107 : decode b_Sp_dropBeyond 107 = .ok (.iload_n 3, 1) := by decide +kernel
theorem d_Sp_dropBeyond_108 : decode b_Sp_dropBeyond 108 = .ok (.iaload, 1) := by decide +kernel
theorem d_Sp_dropBeyond_109 : decode b_Sp_dropBeyond 109 = .ok (.iastore, 1) := by decide +kernel
theorem d_Sp_dropBeyond_110 : decode b_Sp_dropBeyond 110 = .ok (.iinc 2 1, 3) := by decide +kernel
theorem d_Sp_dropBeyond_113 : decode b_Sp_dropBeyond 113 = .ok (.iinc 3 1, 3) := by decide +kernel
theorem d_Sp_dropBeyond_116 : decode b_Sp_dropBeyond 116 = .ok (.goto (-112), 3) := by decide +kernel
theorem d_Sp_dropBeyond_119 : decode b_Sp_dropBeyond 119 = .ok (.aload_n 0, 1) := by decide +kernel
theorem d_Sp_dropBeyond_120 : decode b_Sp_dropBeyond 120 = .ok (.iload_n 2, 1) := by decide +kernel
theorem d_Sp_dropBeyond_121 : decode b_Sp_dropBeyond 121 = .ok (.putfield 66, 3) := by decide +kernel
theorem d_Sp_dropBeyond_124 : decode b_Sp_dropBeyond 124 = .ok (.return_, 1) := by decide +kernel
theorem d_Sp_dropIfNoPoint_0 : decode b_Sp_dropIfNoPoint 0 = .ok (.iconst 0, 1) := by decide +kernel
theorem d_Sp_dropIfNoPoint_1 : decode b_Sp_dropIfNoPoint 1 = .ok (.istore_n 1, 1) := by decide +kernel
theorem d_Sp_dropIfNoPoint_2 : decode b_Sp_dropIfNoPoint 2 = .ok (.iload_n 1, 1) := by decide +kernel
theorem d_Sp_dropIfNoPoint_3 : decode b_Sp_dropIfNoPoint 3 = .ok (.aload_n 0, 1) := by decide +kernel
theorem d_Sp_dropIfNoPoint_4 : decode b_Sp_dropIfNoPoint 4 = .ok (.getfield 66, 3) := by decide +kernel
theorem d_Sp_dropIfNoPoint_7 : decode b_Sp_dropIfNoPoint 7 = .ok (.if_icmp .ge 25, 3) := by decide +kernel
theorem d_Sp_dropIfNoPoint_10 : decode b_Sp_dropIfNoPoint 10 = .ok (.aload_n 0, 1) := by decide +kernel
theorem d_Sp_dropIfNoPoint_11 : decode b_Sp_dropIfNoPoint 11 = .ok (.getfield 15, 3) := by decide +kernel
theorem d_Sp_dropIfNoPoint_14 : decode b_Sp_dropIfNoPoint 14 = .ok (.iconst 4, 1) := by decide +kernel
theorem d_Sp_dropIfNoPoint_15 : decode b_Sp_dropIfNoPoint 15 = .ok (.iload_n 1, 1) := by decide +kernel
theorem d_Sp_dropIfNoPoint_16 : decode b_Sp_dropIfNoPoint 16 = .ok (.imul, 1) := by decide +kernel
theorem d_Sp_dropIfNoPoint_17 : decode b_Sp_dropIfNoPoint 17 = .ok (.iconst 3, 1) := by decide +kernel
theorem d_Sp_dropIfNoPoint_18 : decode b_Sp_dropIfNoPoint 18 = .ok (.iadd, 1) := by decide +kernel
theorem d_Sp_dropIfNoPoint_19 : decode b_Sp_dropIfNoPoint 19 = .ok (.laload, 1) := by decide +kernel
theorem d_Sp_dropIfNoPoint_20 : decode b_Sp_dropIfNoPoint 20 = .ok (.lconst 0, 1) := by decide +kernel
theorem d_Sp_dropIfNoPoint_21 : decode b_Sp_dropIfNoPoint 21 = .ok (.lcmp, 1) := by decide +kernel
theorem d_Sp_dropIfNoPoint_22 : decode b_Sp_dropIfNoPoint 22 = .ok (.ifCond .le 4, 3) := by decide +kernel
theorem d_Sp_dropIfNoPoint_25 : decode b_Sp_dropIfNoPoint 25 = .ok (.return_, 1) := by decide +kernel
theorem d_Sp_dropIfNoPoint_26 : decode b_Sp_dropIfNoPoint 26 = .ok (.iinc 1 1, 3) := by decide +kernel
theorem d_Sp_dropIfNoPoint_29 : decode b_Sp_dropIfNoPoint 29 = .ok (.goto (-27), 3) := by decide +kernel
theorem d_Sp_dropIfNoPoint_32 : decode b_Sp_dropIfNoPoint 32 = .ok (.aload_n 0, 1) := by decide +kernel
theorem d_Sp_dropIfNoPoint_33 : decode b_Sp_dropIfNoPoint 33 = .ok (.iconst 0, 1) := by decide +kernel
theorem d_Sp_dropIfNoPoint_34 : decode b_Sp_dropIfNoPoint 34 = .ok (.putfield 66, 3) := by decide +kernel
theorem d_Sp_dropIfNoPoint_37 : decode b_Sp_dropIfNoPoint 37 = .ok (.aload_n 0, 1) := by decide +kernel
theorem d_Sp_dropIfNoPoint_38 : decode b_Sp_dropIfNoPoint 38 = .ok (.iconst 0, 1) := by decide +kernel
theorem d_Sp_dropIfNoPoint_39 : decode b_Sp_dropIfNoPoint 39 = .ok (.putfield 63, 3) := by decide +kernel
theorem d_Sp_dropIfNoPoint_42 : decode b_Sp_dropIfNoPoint 42 = .ok (.return_, 1) := by decide +kernel
theorem d_Sp_hasNothing_0 : decode b_Sp_hasNothing 0 = .ok (.aload_n 0, 1) := by decide +kernel
theorem d_Sp_hasNothing_1 : decode b_Sp_hasNothing 1 = .ok (.getfield 66, 3) := by decide +kernel
theorem d_Sp_hasNothing_4 : decode b_Sp_hasNothing 4 = .ok (.ifCond .ne 7, 3) := by decide +kernel
theorem d_Sp_hasNothing_7 : decode b_Sp_hasNothing 7 = .ok (.iconst 1, 1) := by decide +kernel
theorem d_Sp_hasNothing_8 : decode b_Sp_hasNothing 8 = .ok (.goto 4, 3) := by decide +kernel
theorem d_Sp_hasNothing_11 : decode b_Sp_hasNothing 11 = .ok (.iconst 0, 1) := by decide +kernel
theorem d_Sp_hasNothing_12 : decode b_Sp_hasNothing 12 = .ok (.ireturn, 1) := by decide +kernel
theorem d_FT_holds_0 : decode b_FT_holds 0 = .ok (.aload_n 0, 1) := by decide +kernel
theorem d_FT_holds_1 : decode b_FT_holds 1 = .ok (.iload_n 1, 1) := by decide +kernel
theorem d_FT_holds_2 : decode b_FT_holds 2 = .ok (.iload_n 2, 1) := by decide +kernel
theorem d_FT_holds_3 : decode b_FT_holds 3 = .ok (.invokevirtual 83, 3) := by decide +kernel
theorem d_FT_holds_6 : decode b_FT_holds 6 = .ok (.ifCond .ne 6, 3) := by decide +kernel
theorem d_FT_holds_9 : decode b_FT_holds 9 = .ok (.bipush (-2), 2) := by decide +kernel
theorem d_FT_holds_11 : decode b_FT_holds 11 = .ok (.ireturn, 1) := by decide +kernel
theorem d_FT_holds_12 : decode b_FT_holds 12 = .ok (.aload_n 0, 1) := by decide +kernel
theorem d_FT_holds_13 : decode b_FT_holds 13 = .ok (.iload_n 1, 1) := by decide +kernel
theorem d_FT_holds_14 : decode b_FT_holds 14 = .ok (.iload_n 3, 1) := by decide +kernel
theorem d_FT_holds_15 : decode b_FT_holds 15 = .ok (.iload 4, 2) := by decide +kernel
theorem d_FT_holds_17 : decode b_FT_holds 17 = .ok (.iload 5, 2) := by decide +kernel
theorem d_FT_holds_19 : decode b_FT_holds 19 = .ok (.iload 6, 2) := by decide +kernel
theorem d_FT_holds_21 : decode b_FT_holds 21 = .ok (.invokevirtual 65, 3) := by decide +kernel
theorem d_FT_holds_24 : decode b_FT_holds 24 = .ok (.ifCond .ne 6, 3) := by decide +kernel
theorem d_FT_holds_27 : decode b_FT_holds 27 = .ok (.bipush (-3), 2) := by decide +kernel
theorem d_FT_holds_29 : decode b_FT_holds 29 = .ok (.ireturn, 1) := by decide +kernel
theorem d_FT_holds_30 : decode b_FT_holds 30 = .ok (.aload_n 0, 1) := by decide +kernel
theorem d_FT_holds_31 : decode b_FT_holds 31 = .ok (.iload_n 1, 1) := by decide +kernel
theorem d_FT_holds_32 : decode b_FT_holds 32 = .ok (.iload_n 2, 1) := by decide +kernel
theorem d_FT_holds_33 : decode b_FT_holds 33 = .ok (.invokevirtual 117, 3) := by decide +kernel
theorem d_FT_holds_36 : decode b_FT_holds 36 = .ok (.iload_n 3, 1) := by decide +kernel
theorem d_FT_holds_37 : decode b_FT_holds 37 = .ok (.iload 4, 2) := by decide +kernel
theorem d_FT_holds_39 : decode b_FT_holds 39 = .ok (.iload 5, 2) := by decide +kernel
theorem d_FT_holds_41 : decode b_FT_holds 41 = .ok (.iload 6, 2) := by decide +kernel
theorem d_FT_holds_43 : decode b_FT_holds 43 = .ok (.invokevirtual 125, 3) := by decide +kernel
theorem d_FT_holds_46 : decode b_FT_holds 46 = .ok (.ifCond .eq 7, 3) := by decide +kernel
theorem d_FT_holds_49 : decode b_FT_holds 49 = .ok (.iconst 1, 1) := by decide +kernel
theorem d_FT_holds_50 : decode b_FT_holds 50 = .ok (.goto 4, 3) := by decide +kernel
theorem d_FT_holds_53 : decode b_FT_holds 53 = .ok (.iconst 0, 1) := by decide +kernel
theorem d_FT_holds_54 : decode b_FT_holds 54 = .ok (.ireturn, 1) := by decide +kernel
theorem d_Sp_implies_0 : decode b_Sp_implies 0 = .ok (.iconst 0, 1) := by decide +kernel
theorem d_Sp_implies_1 : decode b_Sp_implies 1 = .ok (.istore 5, 2) := by decide +kernel
theorem d_Sp_implies_3 : decode b_Sp_implies 3 = .ok (.iload 5, 2) := by decide +kernel
theorem d_Sp_implies_5 : decode b_Sp_implies 5 = .ok (.iconst 4, 1) := by decide +kernel
theorem d_Sp_implies_6 : decode b_Sp_implies 6 = .ok (.aload_n 0, 1) := by decide +kernel
theorem d_Sp_implies_7 : decode b_Sp_implies 7 = .ok (.getfield 63, 3) := by decide +kernel
theorem d_Sp_implies_10 : decode b_Sp_implies 10 = .ok (.imul, 1) := by decide +kernel
theorem d_Sp_implies_11 : decode b_Sp_implies 11 = .ok (.if_icmp .ge 52, 3) := by decide +kernel
theorem d_Sp_implies_14 : decode b_Sp_implies 14 = .ok (.iload_n 1, 1) := by decide +kernel
theorem d_Sp_implies_15 : decode b_Sp_implies 15 = .ok (.i2l, 1) := by decide +kernel
theorem d_Sp_implies_16 : decode b_Sp_implies 16 = .ok (.aload_n 0, 1) := by decide +kernel
theorem d_Sp_implies_17 : decode b_Sp_implies 17 = .ok (.getfield 9, 3) := by decide +kernel
theorem d_Sp_implies_20 : decode b_Sp_implies 20 = .ok (.iload 5, 2) := by decide +kernel
theorem d_Sp_implies_22 : decode b_Sp_implies 22 = .ok (.laload, 1) := by decide +kernel
theorem d_Sp_implies_23 : decode b_Sp_implies 23 = .ok (.lmul, 1) := by decide +kernel
theorem d_Sp_implies_24 : decode b_Sp_implies 24 = .ok (.iload_n 2, 1) := by decide +kernel
theorem d_Sp_implies_25 : decode b_Sp_implies 25 = .ok (.i2l, 1) := by decide +kernel
theorem d_Sp_implies_26 : decode b_Sp_implies 26 = .ok (.aload_n 0, 1) := by decide +kernel
theorem d_Sp_implies_27 : decode b_Sp_implies 27 = .ok (.getfield 9, 3) := by decide +kernel
theorem d_Sp_implies_30 : decode b_Sp_implies 30 = .ok (.iload 5, 2) := by decide +kernel
theorem d_Sp_implies_32 : decode b_Sp_implies 32 = .ok (.iconst 1, 1) := by decide +kernel
theorem d_Sp_implies_33 : decode b_Sp_implies 33 = .ok (.iadd, 1) := by decide +kernel
theorem d_Sp_implies_34 : decode b_Sp_implies 34 = .ok (.laload, 1) := by decide +kernel
theorem d_Sp_implies_35 : decode b_Sp_implies 35 = .ok (.lmul, 1) := by decide +kernel
theorem d_Sp_implies_36 : decode b_Sp_implies 36 = .ok (.ladd, 1) := by decide +kernel
theorem d_Sp_implies_37 : decode b_Sp_implies 37 = .ok (.iload_n 3, 1) := by decide +kernel
theorem d_Sp_implies_38 : decode b_Sp_implies 38 = .ok (.i2l, 1) := by decide +kernel
theorem d_Sp_implies_39 : decode b_Sp_implies 39 = .ok (.aload_n 0, 1) := by decide +kernel
theorem d_Sp_implies_40 : decode b_Sp_implies 40 = .ok (.getfield 9, 3) := by decide +kernel
theorem d_Sp_implies_43 : decode b_Sp_implies 43 = .ok (.iload 5, 2) := by decide +kernel
theorem d_Sp_implies_45 : decode b_Sp_implies 45 = .ok (.iconst 2, 1) := by decide +kernel
theorem d_Sp_implies_46 : decode b_Sp_implies 46 = .ok (.iadd, 1) := by decide +kernel
theorem d_Sp_implies_47 : decode b_Sp_implies 47 = .ok (.laload, 1) := by decide +kernel
theorem d_Sp_implies_48 : decode b_Sp_implies 48 = .ok (.lmul, 1) := by decide +kernel
theorem d_Sp_implies_49 : decode b_Sp_implies 49 = .ok (.ladd, 1) := by decide +kernel
theorem d_Sp_implies_50 : decode b_Sp_implies 50 = .ok (.lconst 0, 1) := by decide +kernel
theorem d_Sp_implies_51 : decode b_Sp_implies 51 = .ok (.lcmp, 1) := by decide +kernel
theorem d_Sp_implies_52 : decode b_Sp_implies 52 = .ok (.ifCond .eq 5, 3) := by decide +kernel
theorem d_Sp_implies_55 : decode b_Sp_implies 55 = .ok (.iconst 0, 1) := by decide +kernel
theorem d_Sp_implies_56 : decode b_Sp_implies 56 = .ok (.ireturn, 1) := by decide +kernel
theorem d_Sp_implies_57 : decode b_Sp_implies 57 = .ok (.iinc 5 4, 3) := by decide +kernel
theorem d_Sp_implies_60 : decode b_Sp_implies 60 = .ok (.goto (-57), 3) := by decide +kernel
theorem d_Sp_implies_63 : decode b_Sp_implies 63 = .ok (.iconst 0, 1) := by decide +kernel
theorem d_Sp_implies_64 : decode b_Sp_implies 64 = .ok (.istore 5, 2) := by decide +kernel
theorem d_Sp_implies_66 : decode b_Sp_implies 66 = .ok (.iload 5, 2) := by decide +kernel
theorem d_Sp_implies_68 : decode b_Sp_implies 68 = .ok (.iconst 4, 1) := by decide +kernel
theorem d_Sp_implies_69 : decode b_Sp_implies 69 = .ok (.aload_n 0, 1) := by decide +kernel
theorem d_Sp_implies_70 : decode b_Sp_implies 70 = .ok (.getfield 66, 3) := by decide +kernel
theorem d_Sp_implies_73 : decode b_Sp_implies 73 = .ok (.imul, 1) := by decide +kernel
theorem d_Sp_implies_74 : decode b_Sp_implies 74 = .ok (.if_icmp .ge 64, 3) := by decide +kernel
theorem d_Sp_implies_77 : decode b_Sp_implies 77 = .ok (.iload_n 1, 1) := by decide +kernel
theorem d_Sp_implies_78 : decode b_Sp_implies 78 = .ok (.i2l, 1) := by decide +kernel
theorem d_Sp_implies_79 : decode b_Sp_implies 79 = .ok (.aload_n 0, 1) := by decide +kernel
theorem d_Sp_implies_80 : decode b_Sp_implies 80 = .ok (.getfield 15, 3) := by decide +kernel
theorem d_Sp_implies_83 : decode b_Sp_implies 83 = .ok (.iload 5, 2) := by decide +kernel
theorem d_Sp_implies_85 : decode b_Sp_implies 85 = .ok (.laload, 1) := by decide +kernel
theorem d_Sp_implies_86 : decode b_Sp_implies 86 = .ok (.lmul, 1) := by decide +kernel
theorem d_Sp_implies_87 : decode b_Sp_implies 87 = .ok (.iload_n 2, 1) := by decide +kernel
theorem d_Sp_implies_88 : decode b_Sp_implies 88 = .ok (.i2l, 1) := by decide +kernel
theorem d_Sp_implies_89 : decode b_Sp_implies 89 = .ok (.aload_n 0, 1) := by decide +kernel
theorem d_Sp_implies_90 : decode b_Sp_implies 90 = .ok (.getfield 15, 3) := by decide +kernel
theorem d_Sp_implies_93 : decode b_Sp_implies 93 = .ok (.iload 5, 2) := by decide +kernel
theorem d_Sp_implies_95 : decode b_Sp_implies 95 = .ok (.iconst 1, 1) := by decide +kernel
theorem d_Sp_implies_96 : decode b_Sp_implies 96 = .ok (.iadd, 1) := by decide +kernel
theorem d_Sp_implies_97 : decode b_Sp_implies 97 = .ok (.laload, 1) := by decide +kernel
theorem d_Sp_implies_98 : decode b_Sp_implies 98 = .ok (.lmul, 1) := by decide +kernel
theorem d_Sp_implies_99 : decode b_Sp_implies 99 = .ok (.ladd, 1) := by decide +kernel
theorem d_Sp_implies_100 : decode b_Sp_implies 100 = .ok (.iload_n 3, 1) := by decide +kernel
theorem d_Sp_implies_101 : decode b_Sp_implies 101 = .ok (.i2l, 1) := by decide +kernel
theorem d_Sp_implies_102 : decode b_Sp_implies 102 = .ok (.aload_n 0, 1) := by decide +kernel
theorem d_Sp_implies_103 : decode b_Sp_implies 103 = .ok (.getfield 15, 3) := by decide +kernel
theorem d_Sp_implies_106 : decode b_Sp_implies 106 = .ok (.iload 5, 2) := by decide +kernel
theorem d_Sp_implies_108 : decode b_Sp_implies 108 = .ok (.iconst 2, 1) := by decide +kernel
theorem d_Sp_implies_109 : decode b_Sp_implies 109 = .ok (.iadd, 1) := by decide +kernel
theorem d_Sp_implies_110 : decode b_Sp_implies 110 = .ok (.laload, 1) := by decide +kernel
theorem d_Sp_implies_111 : decode b_Sp_implies 111 = .ok (.lmul, 1) := by decide +kernel
theorem d_Sp_implies_112 : decode b_Sp_implies 112 = .ok (.ladd, 1) := by decide +kernel
theorem d_Sp_implies_113 : decode b_Sp_implies 113 = .ok (.iload 4, 2) := by decide +kernel
theorem d_Sp_implies_115 : decode b_Sp_implies 115 = .ok (.i2l, 1) := by decide +kernel
theorem d_Sp_implies_116 : decode b_Sp_implies 116 = .ok (.aload_n 0, 1) := by decide +kernel
theorem d_Sp_implies_117 : decode b_Sp_implies 117 = .ok (.getfield 15, 3) := by decide +kernel
theorem d_Sp_implies_120 : decode b_Sp_implies 120 = .ok (.iload 5, 2) := by decide +kernel
theorem d_Sp_implies_122 : decode b_Sp_implies 122 = .ok (.iconst 3, 1) := by decide +kernel
theorem d_Sp_implies_123 : decode b_Sp_implies 123 = .ok (.iadd, 1) := by decide +kernel
theorem d_Sp_implies_124 : decode b_Sp_implies 124 = .ok (.laload, 1) := by decide +kernel
theorem d_Sp_implies_125 : decode b_Sp_implies 125 = .ok (.lmul, 1) := by decide +kernel
theorem d_Sp_implies_126 : decode b_Sp_implies 126 = .ok (.lcmp, 1) := by decide +kernel
theorem d_Sp_implies_127 : decode b_Sp_implies 127 = .ok (.ifCond .ge 5, 3) := by decide +kernel
theorem d_Sp_implies_130 : decode b_Sp_implies 130 = .ok (.iconst 0, 1) := by decide +kernel
theorem d_Sp_implies_131 : decode b_Sp_implies 131 = .ok (.ireturn, 1) := by decide +kernel
theorem d_Sp_implies_132 : decode b_Sp_implies 132 = .ok (.iinc 5 4, 3) := by decide +kernel
theorem d_Sp_implies_135 : decode b_Sp_implies 135 = .ok (.goto (-69), 3) := by decide +kernel
theorem d_Sp_implies_138 : decode b_Sp_implies 138 = .ok (.iconst 1, 1) := by decide +kernel
theorem d_Sp_implies_139 : decode b_Sp_implies 139 = .ok (.ireturn, 1) := by decide +kernel
theorem d_FT_term_0 : decode b_FT_term 0 = .ok (.aload_n 0, 1) := by decide +kernel
theorem d_FT_term_1 : decode b_FT_term 1 = .ok (.iload_n 1, 1) := by decide +kernel
theorem d_FT_term_2 : decode b_FT_term 2 = .ok (.iload_n 2, 1) := by decide +kernel
theorem d_FT_term_3 : decode b_FT_term 3 = .ok (.invokevirtual 83, 3) := by decide +kernel
theorem d_FT_term_6 : decode b_FT_term 6 = .ok (.ifCond .ne 6, 3) := by decide +kernel
theorem d_FT_term_9 : decode b_FT_term 9 = .ok (.bipush (-2), 2) := by decide +kernel
theorem d_FT_term_11 : decode b_FT_term 11 = .ok (.ireturn, 1) := by decide +kernel
theorem d_FT_term_12 : decode b_FT_term 12 = .ok (.aload_n 0, 1) := by decide +kernel
theorem d_FT_term_13 : decode b_FT_term 13 = .ok (.getfield 11, 3) := by decide +kernel
theorem d_FT_term_16 : decode b_FT_term 16 = .ok (.iload_n 1, 1) := by decide +kernel
theorem d_FT_term_17 : decode b_FT_term 17 = .ok (.aaload, 1) := by decide +kernel
theorem d_FT_term_18 : decode b_FT_term 18 = .ok (.getfield 108, 3) := by decide +kernel
theorem d_FT_term_21 : decode b_FT_term 21 = .ok (.iload_n 3, 1) := by decide +kernel
theorem d_FT_term_22 : decode b_FT_term 22 = .ok (.iload 4, 2) := by decide +kernel
theorem d_FT_term_24 : decode b_FT_term 24 = .ok (.iload 5, 2) := by decide +kernel
theorem d_FT_term_26 : decode b_FT_term 26 = .ok (.iconst 2, 1) := by decide +kernel
theorem d_FT_term_27 : decode b_FT_term 27 = .ok (.invokestatic 129, 3) := by decide +kernel
theorem d_FT_term_30 : decode b_FT_term 30 = .ok (.ifCond .ne 6, 3) := by decide +kernel
theorem d_FT_term_33 : decode b_FT_term 33 = .ok (.bipush (-3), 2) := by decide +kernel
theorem d_FT_term_35 : decode b_FT_term 35 = .ok (.ireturn, 1) := by decide +kernel
theorem d_FT_term_36 : decode b_FT_term 36 = .ok (.aload_n 0, 1) := by decide +kernel
theorem d_FT_term_37 : decode b_FT_term 37 = .ok (.iload_n 1, 1) := by decide +kernel
theorem d_FT_term_38 : decode b_FT_term 38 = .ok (.iload_n 2, 1) := by decide +kernel
theorem d_FT_term_39 : decode b_FT_term 39 = .ok (.invokevirtual 117, 3) := by decide +kernel
theorem d_FT_term_42 : decode b_FT_term 42 = .ok (.astore 6, 2) := by decide +kernel
theorem d_FT_term_44 : decode b_FT_term 44 = .ok (.aload_n 0, 1) := by decide +kernel
theorem d_FT_term_45 : decode b_FT_term 45 = .ok (.getfield 11, 3) := by decide +kernel
theorem d_FT_term_48 : decode b_FT_term 48 = .ok (.iload_n 1, 1) := by decide +kernel
theorem d_FT_term_49 : decode b_FT_term 49 = .ok (.aaload, 1) := by decide +kernel
theorem d_FT_term_50 : decode b_FT_term 50 = .ok (.getfield 87, 3) := by decide +kernel
theorem d_FT_term_53 : decode b_FT_term 53 = .ok (.iload_n 2, 1) := by decide +kernel
theorem d_FT_term_54 : decode b_FT_term 54 = .ok (.aaload, 1) := by decide +kernel
theorem d_FT_term_55 : decode b_FT_term 55 = .ok (.astore 7, 2) := by decide +kernel
theorem d_FT_term_57 : decode b_FT_term 57 = .ok (.aload 6, 2) := by decide +kernel
theorem d_FT_term_59 : decode b_FT_term 59 = .ok (.iload_n 3, 1) := by decide +kernel
theorem d_FT_term_60 : decode b_FT_term 60 = .ok (.iload 4, 2) := by decide +kernel
theorem d_FT_term_62 : decode b_FT_term 62 = .ok (.iload 5, 2) := by decide +kernel
theorem d_FT_term_64 : decode b_FT_term 64 = .ok (.invokevirtual 132, 3) := by decide +kernel
theorem d_FT_term_67 : decode b_FT_term 67 = .ok (.ifCond .eq 7, 3) := by decide +kernel
theorem d_FT_term_70 : decode b_FT_term 70 = .ok (.iconst 1, 1) := by decide +kernel
theorem d_FT_term_71 : decode b_FT_term 71 = .ok (.goto 4, 3) := by decide +kernel
theorem d_FT_term_74 : decode b_FT_term 74 = .ok (.iconst 0, 1) := by decide +kernel
theorem d_FT_term_75 : decode b_FT_term 75 = .ok (.aload 7, 2) := by decide +kernel
theorem d_FT_term_77 : decode b_FT_term 77 = .ok (.aload 6, 2) := by decide +kernel
theorem d_FT_term_79 : decode b_FT_term 79 = .ok (.iload_n 3, 1) := by decide +kernel
theorem d_FT_term_80 : decode b_FT_term 80 = .ok (.iload 4, 2) := by decide +kernel
theorem d_FT_term_82 : decode b_FT_term 82 = .ok (.iload 5, 2) := by decide +kernel
theorem d_FT_term_84 : decode b_FT_term 84 = .ok (.iconst 0, 1) := by decide +kernel
theorem d_FT_term_85 : decode b_FT_term 85 = .ok (.invokevirtual 136, 3) := by decide +kernel
theorem d_FT_term_88 : decode b_FT_term 88 = .ok (.ifCond .eq 7, 3) := by decide +kernel
theorem d_FT_term_91 : decode b_FT_term 91 = .ok (.iconst 2, 1) := by decide +kernel
theorem d_FT_term_92 : decode b_FT_term 92 = .ok (.goto 4, 3) := by decide +kernel
theorem d_FT_term_95 : decode b_FT_term 95 = .ok (.iconst 0, 1) := by decide +kernel
theorem d_FT_term_96 : decode b_FT_term 96 = .ok (.iadd, 1) := by decide +kernel
theorem d_FT_term_97 : decode b_FT_term 97 = .ok (.aload 7, 2) := by decide +kernel
theorem d_FT_term_99 : decode b_FT_term 99 = .ok (.aload 6, 2) := by decide +kernel
theorem d_FT_term_101 : decode b_FT_term 101 = .ok (.iload_n 3, 1) := by decide +kernel
theorem d_FT_term_102 : decode b_FT_term 102 = .ok (.iload 4, 2) := by decide +kernel
theorem d_FT_term_104 : decode b_FT_term 104 = .ok (.iload 5, 2) := by decide +kernel
theorem d_FT_term_106 : decode b_FT_term 106 = .ok (.iconst 1, 1) := by decide +kernel
theorem d_FT_term_107 : decode b_FT_term 107 = .ok (.invokevirtual 136, 3) := by decide +kernel
theorem d_FT_term_110 : decode b_FT_term 110 = .ok (.ifCond .eq 7, 3) := by decide +kernel
theorem d_FT_term_113 : decode b_FT_term 113 = .ok (.iconst 4, 1) := by decide +kernel
theorem d_FT_term_114 : decode b_FT_term 114 = .ok (.goto 4, 3) := by decide +kernel
theorem d_FT_term_117 : decode b_FT_term 117 = .ok (.iconst 0, 1) := by decide +kernel
theorem d_FT_term_118 : decode b_FT_term 118 = .ok (.iadd, 1) := by decide +kernel
theorem d_FT_term_119 : decode b_FT_term 119 = .ok (.ireturn, 1) := by decide +kernel
theorem d_Sp_bounds_0 : decode b_Sp_bounds 0 = .ok (.aload_n 0, 1) := by decide +kernel
theorem d_Sp_bounds_1 : decode b_Sp_bounds 1 = .ok (.iload_n 1, 1) := by decide +kernel
theorem d_Sp_bounds_2 : decode b_Sp_bounds 2 = .ok (.iload_n 2, 1) := by decide +kernel
theorem d_Sp_bounds_3 : decode b_Sp_bounds 3 = .ok (.iload_n 3, 1) := by decide +kernel
theorem d_Sp_bounds_4 : decode b_Sp_bounds 4 = .ok (.invokevirtual 72, 3) := by decide +kernel
theorem d_Sp_bounds_7 : decode b_Sp_bounds 7 = .ok (.ifCond .lt 5, 3) := by decide +kernel
theorem d_Sp_bounds_10 : decode b_Sp_bounds 10 = .ok (.iconst 0, 1) := by decide +kernel
theorem d_Sp_bounds_11 : decode b_Sp_bounds 11 = .ok (.ireturn, 1) := by decide +kernel
theorem d_Sp_bounds_12 : decode b_Sp_bounds 12 = .ok (.iconst 0, 1) := by decide +kernel
theorem d_Sp_bounds_13 : decode b_Sp_bounds 13 = .ok (.istore 4, 2) := by decide +kernel
theorem d_Sp_bounds_15 : decode b_Sp_bounds 15 = .ok (.iload 4, 2) := by decide +kernel
theorem d_Sp_bounds_17 : decode b_Sp_bounds 17 = .ok (.aload_n 0, 1) := by decide +kernel
theorem d_Sp_bounds_18 : decode b_Sp_bounds 18 = .ok (.getfield 66, 3) := by decide +kernel
theorem d_Sp_bounds_21 : decode b_Sp_bounds 21 = .ok (.if_icmp .ge 42, 3) := by decide +kernel
theorem d_Sp_bounds_24 : decode b_Sp_bounds 24 = .ok (.aload_n 0, 1) := by decide +kernel
theorem d_Sp_bounds_25 : decode b_Sp_bounds 25 = .ok (.getfield 15, 3) := by decide +kernel
theorem d_Sp_bounds_28 : decode b_Sp_bounds 28 = .ok (.iconst 4, 1) := by decide +kernel
theorem d_Sp_bounds_29 : decode b_Sp_bounds 29 = .ok (.iload 4, 2) := by decide +kernel
theorem d_Sp_bounds_31 : decode b_Sp_bounds 31 = .ok (.imul, 1) := by decide +kernel
theorem d_Sp_bounds_32 : decode b_Sp_bounds 32 = .ok (.iconst 3, 1) := by decide +kernel
theorem d_Sp_bounds_33 : decode b_Sp_bounds 33 = .ok (.iadd, 1) := by decide +kernel
theorem d_Sp_bounds_34 : decode b_Sp_bounds 34 = .ok (.laload, 1) := by decide +kernel
theorem d_Sp_bounds_35 : decode b_Sp_bounds 35 = .ok (.lconst 0, 1) := by decide +kernel
theorem d_Sp_bounds_36 : decode b_Sp_bounds 36 = .ok (.lcmp, 1) := by decide +kernel
theorem d_Sp_bounds_37 : decode b_Sp_bounds 37 = .ok (.ifCond .ne 20, 3) := by decide +kernel
theorem d_Sp_bounds_40 : decode b_Sp_bounds 40 = .ok (.aload_n 0, 1) := by decide +kernel
theorem d_Sp_bounds_41 : decode b_Sp_bounds 41 = .ok (.iload 4, 2) := by decide +kernel
theorem d_Sp_bounds_43 : decode b_Sp_bounds 43 = .ok (.iload_n 1, 1) := by decide +kernel
theorem d_Sp_bounds_44 : decode b_Sp_bounds 44 = .ok (.iload_n 2, 1) := by decide +kernel
theorem d_Sp_bounds_45 : decode b_Sp_bounds 45 = .ok (.iload_n 3, 1) := by decide +kernel
theorem d_Sp_bounds_46 : decode b_Sp_bounds 46 = .ok (.iconst 0, 1) := by decide +kernel
theorem d_Sp_bounds_47 : decode b_Sp_bounds 47 = .ok (.invokevirtual 76, 3) := by decide +kernel
theorem d_Sp_bounds_50 : decode b_Sp_bounds 50 = .ok (.lconst 0, 1) := by decide +kernel
theorem d_Sp_bounds_51 : decode b_Sp_bounds 51 = .ok (.lcmp, 1) := by decide +kernel
theorem d_Sp_bounds_52 : decode b_Sp_bounds 52 = .ok (.ifCond .ge 5, 3) := by decide +kernel
theorem d_Sp_bounds_55 : decode b_Sp_bounds 55 = .ok (.iconst 0, 1) := by decide +kernel
theorem d_Sp_bounds_56 : decode b_Sp_bounds 56 = .ok (.ireturn, 1) := by decide +kernel
theorem d_Sp_bounds_57 : decode b_Sp_bounds 57 = .ok (.iinc 4 1, 3) := by decide +kernel
theorem d_Sp_bounds_60 : decode b_Sp_bounds 60 = .ok (.goto (-45), 3) := by decide +kernel
theorem d_Sp_bounds_63 : decode b_Sp_bounds 63 = .ok (.iconst 1, 1) := by decide +kernel
theorem d_Sp_bounds_64 : decode b_Sp_bounds 64 = .ok (.ireturn, 1) := by decide +kernel
theorem d_Wy_lessens_0 : decode b_Wy_lessens 0 = .ok (.aload_n 1, 1) := by decide +kernel
theorem d_Wy_lessens_1 : decode b_Wy_lessens 1 = .ok (.iload_n 2, 1) := by decide +kernel
theorem d_Wy_lessens_2 : decode b_Wy_lessens 2 = .ok (.aload_n 0, 1) := by decide +kernel
theorem d_Wy_lessens_3 : decode b_Wy_lessens 3 = .ok (.iload_n 2, 1) := by decide +kernel
theorem d_Wy_lessens_4 : decode b_Wy_lessens 4 = .ok (.iload_n 3, 1) := by decide +kernel
theorem d_Wy_lessens_5 : decode b_Wy_lessens 5 = .ok (.iload 4, 2) := by decide +kernel
theorem d_Wy_lessens_7 : decode b_Wy_lessens 7 = .ok (.iconst 0, 1) := by decide +kernel
theorem d_Wy_lessens_8 : decode b_Wy_lessens 8 = .ok (.invokevirtual 35, 3) := by decide +kernel
theorem d_Wy_lessens_11 : decode b_Wy_lessens 11 = .ok (.isub, 1) := by decide +kernel
theorem d_Wy_lessens_12 : decode b_Wy_lessens 12 = .ok (.iload_n 3, 1) := by decide +kernel
theorem d_Wy_lessens_13 : decode b_Wy_lessens 13 = .ok (.aload_n 0, 1) := by decide +kernel
theorem d_Wy_lessens_14 : decode b_Wy_lessens 14 = .ok (.iload_n 2, 1) := by decide +kernel
theorem d_Wy_lessens_15 : decode b_Wy_lessens 15 = .ok (.iload_n 3, 1) := by decide +kernel
theorem d_Wy_lessens_16 : decode b_Wy_lessens 16 = .ok (.iload 4, 2) := by decide +kernel
theorem d_Wy_lessens_18 : decode b_Wy_lessens 18 = .ok (.iconst 1, 1) := by decide +kernel
theorem d_Wy_lessens_19 : decode b_Wy_lessens 19 = .ok (.invokevirtual 35, 3) := by decide +kernel
theorem d_Wy_lessens_22 : decode b_Wy_lessens 22 = .ok (.isub, 1) := by decide +kernel
theorem d_Wy_lessens_23 : decode b_Wy_lessens 23 = .ok (.iload 4, 2) := by decide +kernel
theorem d_Wy_lessens_25 : decode b_Wy_lessens 25 = .ok (.aload_n 0, 1) := by decide +kernel
theorem d_Wy_lessens_26 : decode b_Wy_lessens 26 = .ok (.iload_n 2, 1) := by decide +kernel
theorem d_Wy_lessens_27 : decode b_Wy_lessens 27 = .ok (.iload_n 3, 1) := by decide +kernel
theorem d_Wy_lessens_28 : decode b_Wy_lessens 28 = .ok (.iload 4, 2) := by decide +kernel
theorem d_Wy_lessens_30 : decode b_Wy_lessens 30 = .ok (.iconst 2, 1) := by decide +kernel
theorem d_Wy_lessens_31 : decode b_Wy_lessens 31 = .ok (.invokevirtual 35, 3) := by decide +kernel
theorem d_Wy_lessens_34 : decode b_Wy_lessens 34 = .ok (.isub, 1) := by decide +kernel
theorem d_Wy_lessens_35 : decode b_Wy_lessens 35 = .ok (.iload 5, 2) := by decide +kernel
theorem d_Wy_lessens_37 : decode b_Wy_lessens 37 = .ok (.aload_n 0, 1) := by decide +kernel
theorem d_Wy_lessens_38 : decode b_Wy_lessens 38 = .ok (.iload_n 2, 1) := by decide +kernel
theorem d_Wy_lessens_39 : decode b_Wy_lessens 39 = .ok (.iload_n 3, 1) := by decide +kernel
theorem d_Wy_lessens_40 : decode b_Wy_lessens 40 = .ok (.iload 4, 2) := by decide +kernel
theorem d_Wy_lessens_42 : decode b_Wy_lessens 42 = .ok (.invokevirtual 39, 3) := by decide +kernel
theorem d_Wy_lessens_45 : decode b_Wy_lessens 45 = .ok (.iadd, 1) := by decide +kernel
theorem d_Wy_lessens_46 : decode b_Wy_lessens 46 = .ok (.invokevirtual 43, 3) := by decide +kernel
theorem d_Wy_lessens_49 : decode b_Wy_lessens 49 = .ok (.ireturn, 1) := by decide +kernel
theorem d_Wy_weightBehind_0 : decode b_Wy_weightBehind 0 = .ok (.iload_n 1, 1) := by decide +kernel
theorem d_Wy_weightBehind_1 : decode b_Wy_weightBehind 1 = .ok (.aload_n 0, 1) := by decide +kernel
theorem d_Wy_weightBehind_2 : decode b_Wy_weightBehind 2 = .ok (.getfield 20, 3) := by decide +kernel
theorem d_Wy_weightBehind_5 : decode b_Wy_weightBehind 5 = .ok (.iload 4, 2) := by decide +kernel
theorem d_Wy_weightBehind_7 : decode b_Wy_weightBehind 7 = .ok (.iaload, 1) := by decide +kernel
theorem d_Wy_weightBehind_8 : decode b_Wy_weightBehind 8 = .ok (.imul, 1) := by decide +kernel
theorem d_Wy_weightBehind_9 : decode b_Wy_weightBehind 9 = .ok (.iload_n 2, 1) := by decide +kernel
theorem d_Wy_weightBehind_10 : decode b_Wy_weightBehind 10 = .ok (.aload_n 0, 1) := by decide +kernel
theorem d_Wy_weightBehind_11 : decode b_Wy_weightBehind 11 = .ok (.getfield 20, 3) := by decide +kernel
theorem d_Wy_weightBehind_14 : decode b_Wy_weightBehind 14 = .ok (.iconst 3, 1) := by decide +kernel
theorem d_Wy_weightBehind_15 : decode b_Wy_weightBehind 15 = .ok (.iload 4, 2) := by decide +kernel
theorem d_Wy_weightBehind_17 : decode b_Wy_weightBehind 17 = .ok (.iadd, 1) := by decide +kernel
theorem d_Wy_weightBehind_18 : decode b_Wy_weightBehind 18 = .ok (.iaload, 1) := by decide +kernel
theorem d_Wy_weightBehind_19 : decode b_Wy_weightBehind 19 = .ok (.imul, 1) := by decide +kernel
theorem d_Wy_weightBehind_20 : decode b_Wy_weightBehind 20 = .ok (.iadd, 1) := by decide +kernel
theorem d_Wy_weightBehind_21 : decode b_Wy_weightBehind 21 = .ok (.iload_n 3, 1) := by decide +kernel
theorem d_Wy_weightBehind_22 : decode b_Wy_weightBehind 22 = .ok (.aload_n 0, 1) := by decide +kernel
theorem d_Wy_weightBehind_23 : decode b_Wy_weightBehind 23 = .ok (.getfield 20, 3) := by decide +kernel
theorem d_Wy_weightBehind_26 : decode b_Wy_weightBehind 26 = .ok (.bipush 6, 2) := by decide +kernel
theorem d_Wy_weightBehind_28 : decode b_Wy_weightBehind 28 = .ok (.iload 4, 2) := by decide +kernel
theorem d_Wy_weightBehind_30 : decode b_Wy_weightBehind 30 = .ok (.iadd, 1) := by decide +kernel
theorem d_Wy_weightBehind_31 : decode b_Wy_weightBehind 31 = .ok (.iaload, 1) := by decide +kernel
theorem d_Wy_weightBehind_32 : decode b_Wy_weightBehind 32 = .ok (.imul, 1) := by decide +kernel
theorem d_Wy_weightBehind_33 : decode b_Wy_weightBehind 33 = .ok (.iadd, 1) := by decide +kernel
theorem d_Wy_weightBehind_34 : decode b_Wy_weightBehind 34 = .ok (.ireturn, 1) := by decide +kernel
theorem d_Wy_constantBehind_0 : decode b_Wy_constantBehind 0 = .ok (.iload_n 1, 1) := by decide +kernel
theorem d_Wy_constantBehind_1 : decode b_Wy_constantBehind 1 = .ok (.aload_n 0, 1) := by decide +kernel
theorem d_Wy_constantBehind_2 : decode b_Wy_constantBehind 2 = .ok (.getfield 24, 3) := by decide +kernel
theorem d_Wy_constantBehind_5 : decode b_Wy_constantBehind 5 = .ok (.iconst 0, 1) := by decide +kernel
theorem d_Wy_constantBehind_6 : decode b_Wy_constantBehind 6 = .ok (.iaload, 1) := by decide +kernel
theorem d_Wy_constantBehind_7 : decode b_Wy_constantBehind 7 = .ok (.imul, 1) := by decide +kernel
theorem d_Wy_constantBehind_8 : decode b_Wy_constantBehind 8 = .ok (.iload_n 2, 1) := by decide +kernel
theorem d_Wy_constantBehind_9 : decode b_Wy_constantBehind 9 = .ok (.aload_n 0, 1) := by decide +kernel
theorem d_Wy_constantBehind_10 : decode b_Wy_constantBehind 10 = .ok (.getfield 24, 3) := by decide +kernel
theorem d_Wy_constantBehind_13 : decode b_Wy_constantBehind 13 = .ok (.iconst 1, 1) := by decide +kernel
theorem d_Wy_constantBehind_14 : decode b_Wy_constantBehind 14 = .ok (.iaload, 1) := by decide +kernel
theorem d_Wy_constantBehind_15 : decode b_Wy_constantBehind 15 = .ok (.imul, 1) := by decide +kernel
theorem d_Wy_constantBehind_16 : decode b_Wy_constantBehind 16 = .ok (.iadd, 1) := by decide +kernel
theorem d_Wy_constantBehind_17 : decode b_Wy_constantBehind 17 = .ok (.iload_n 3, 1) := by decide +kernel
theorem d_Wy_constantBehind_18 : decode b_Wy_constantBehind 18 = .ok (.aload_n 0, 1) := by decide +kernel
theorem d_Wy_constantBehind_19 : decode b_Wy_constantBehind 19 = .ok (.getfield 24, 3) := by decide +kernel
theorem d_Wy_constantBehind_22 : decode b_Wy_constantBehind 22 = .ok (.iconst 2, 1) := by decide +kernel
theorem d_Wy_constantBehind_23 : decode b_Wy_constantBehind 23 = .ok (.iaload, 1) := by decide +kernel
theorem d_Wy_constantBehind_24 : decode b_Wy_constantBehind 24 = .ok (.imul, 1) := by decide +kernel
theorem d_Wy_constantBehind_25 : decode b_Wy_constantBehind 25 = .ok (.iadd, 1) := by decide +kernel
theorem d_Wy_constantBehind_26 : decode b_Wy_constantBehind 26 = .ok (.ireturn, 1) := by decide +kernel
theorem d_FT_prove_0 : decode b_FT_prove 0 = .ok (.aload_n 0, 1) := by decide +kernel
theorem d_FT_prove_1 : decode b_FT_prove 1 = .ok (.iload_n 1, 1) := by decide +kernel
theorem d_FT_prove_2 : decode b_FT_prove 2 = .ok (.invokevirtual 61, 3) := by decide +kernel
theorem d_FT_prove_5 : decode b_FT_prove 5 = .ok (.ifCond .ne 6, 3) := by decide +kernel
theorem d_FT_prove_8 : decode b_FT_prove 8 = .ok (.bipush (-2), 2) := by decide +kernel
theorem d_FT_prove_10 : decode b_FT_prove 10 = .ok (.ireturn, 1) := by decide +kernel
theorem d_FT_prove_11 : decode b_FT_prove 11 = .ok (.aload_n 0, 1) := by decide +kernel
theorem d_FT_prove_12 : decode b_FT_prove 12 = .ok (.aload_n 0, 1) := by decide +kernel
theorem d_FT_prove_13 : decode b_FT_prove 13 = .ok (.getfield 11, 3) := by decide +kernel
theorem d_FT_prove_16 : decode b_FT_prove 16 = .ok (.iload_n 1, 1) := by decide +kernel
theorem d_FT_prove_17 : decode b_FT_prove 17 = .ok (.aaload, 1) := by decide +kernel
theorem d_FT_prove_18 : decode b_FT_prove 18 = .ok (.invokevirtual 140, 3) := by decide +kernel
theorem d_FT_prove_21 : decode b_FT_prove 21 = .ok (.aload_n 0, 1) := by decide +kernel
theorem d_FT_prove_22 : decode b_FT_prove 22 = .ok (.getfield 27, 3) := by decide +kernel
theorem d_FT_prove_25 : decode b_FT_prove 25 = .ok (.aload_n 0, 1) := by decide +kernel
theorem d_FT_prove_26 : decode b_FT_prove 26 = .ok (.getfield 11, 3) := by decide +kernel
theorem d_FT_prove_29 : decode b_FT_prove 29 = .ok (.iload_n 1, 1) := by decide +kernel
theorem d_FT_prove_30 : decode b_FT_prove 30 = .ok (.aaload, 1) := by decide +kernel
theorem d_FT_prove_31 : decode b_FT_prove 31 = .ok (.aload_n 0, 1) := by decide +kernel
theorem d_FT_prove_32 : decode b_FT_prove 32 = .ok (.getfield 17, 3) := by decide +kernel
theorem d_FT_prove_35 : decode b_FT_prove 35 = .ok (.invokevirtual 144, 3) := by decide +kernel
theorem d_FT_prove_38 : decode b_FT_prove 38 = .ok (.aload_n 0, 1) := by decide +kernel
theorem d_FT_prove_39 : decode b_FT_prove 39 = .ok (.getfield 27, 3) := by decide +kernel
theorem d_FT_prove_42 : decode b_FT_prove 42 = .ok (.getfield 148, 3) := by decide +kernel
theorem d_FT_prove_45 : decode b_FT_prove 45 = .ok (.ifCond .ne 7, 3) := by decide +kernel
theorem d_FT_prove_48 : decode b_FT_prove 48 = .ok (.iconst 1, 1) := by decide +kernel
theorem d_FT_prove_49 : decode b_FT_prove 49 = .ok (.goto 4, 3) := by decide +kernel
theorem d_FT_prove_52 : decode b_FT_prove 52 = .ok (.iconst 0, 1) := by decide +kernel
theorem d_FT_prove_53 : decode b_FT_prove 53 = .ok (.ireturn, 1) := by decide +kernel
theorem d_FT_fillSpaces_0 : decode b_FT_fillSpaces 0 = .ok (.iconst 0, 1) := by decide +kernel
theorem d_FT_fillSpaces_1 : decode b_FT_fillSpaces 1 = .ok (.istore_n 2, 1) := by decide +kernel
theorem d_FT_fillSpaces_2 : decode b_FT_fillSpaces 2 = .ok (.iload_n 2, 1) := by decide +kernel
theorem d_FT_fillSpaces_3 : decode b_FT_fillSpaces 3 = .ok (.aload_n 1, 1) := by decide +kernel
theorem d_FT_fillSpaces_4 : decode b_FT_fillSpaces 4 = .ok (.getfield 111, 3) := by decide +kernel
theorem d_FT_fillSpaces_7 : decode b_FT_fillSpaces 7 = .ok (.if_icmp .ge 20, 3) := by decide +kernel
theorem d_FT_fillSpaces_10 : decode b_FT_fillSpaces 10 = .ok (.aload_n 0, 1) := by decide +kernel
theorem d_FT_fillSpaces_11 : decode b_FT_fillSpaces 11 = .ok (.getfield 17, 3) := by decide +kernel
theorem d_FT_fillSpaces_14 : decode b_FT_fillSpaces 14 = .ok (.iload_n 2, 1) := by decide +kernel
theorem d_FT_fillSpaces_15 : decode b_FT_fillSpaces 15 = .ok (.aaload, 1) := by decide +kernel
theorem d_FT_fillSpaces_16 : decode b_FT_fillSpaces 16 = .ok (.aload_n 1, 1) := by decide +kernel
theorem d_FT_fillSpaces_17 : decode b_FT_fillSpaces 17 = .ok (.iload_n 2, 1) := by decide +kernel
theorem d_FT_fillSpaces_18 : decode b_FT_fillSpaces 18 = .ok (.invokevirtual 192, 3) := by decide +kernel
theorem d_FT_fillSpaces_21 : decode b_FT_fillSpaces 21 = .ok (.iinc 2 1, 3) := by decide +kernel
theorem d_FT_fillSpaces_24 : decode b_FT_fillSpaces 24 = .ok (.goto (-22), 3) := by decide +kernel
theorem d_FT_fillSpaces_27 : decode b_FT_fillSpaces 27 = .ok (.return_, 1) := by decide +kernel
theorem d_Pf_search_0 : decode b_Pf_search 0 = .ok (.aload_n 0, 1) := by decide +kernel
theorem d_Pf_search_1 : decode b_Pf_search 1 = .ok (.iconst 0, 1) := by decide +kernel
theorem d_Pf_search_2 : decode b_Pf_search 2 = .ok (.putfield 15, 3) := by decide +kernel
theorem d_Pf_search_5 : decode b_Pf_search 5 = .ok (.aload_n 0, 1) := by decide +kernel
theorem d_Pf_search_6 : decode b_Pf_search 6 = .ok (.iconst 1, 1) := by decide +kernel
theorem d_Pf_search_7 : decode b_Pf_search 7 = .ok (.aload_n 1, 1) := by decide +kernel
theorem d_Pf_search_8 : decode b_Pf_search 8 = .ok (.getfield 22, 3) := by decide +kernel
theorem d_Pf_search_11 : decode b_Pf_search 11 = .ok (.ishl, 1) := by decide +kernel
theorem d_Pf_search_12 : decode b_Pf_search 12 = .ok (.iconst 1, 1) := by decide +kernel
theorem d_Pf_search_13 : decode b_Pf_search 13 = .ok (.isub, 1) := by decide +kernel
theorem d_Pf_search_14 : decode b_Pf_search 14 = .ok (.putfield 19, 3) := by decide +kernel
theorem d_Pf_search_17 : decode b_Pf_search 17 = .ok (.iconst 0, 1) := by decide +kernel
theorem d_Pf_search_18 : decode b_Pf_search 18 = .ok (.istore_n 3, 1) := by decide +kernel
theorem d_Pf_search_19 : decode b_Pf_search 19 = .ok (.iload_n 3, 1) := by decide +kernel
theorem d_Pf_search_20 : decode b_Pf_search 20 = .ok (.iconst 3, 1) := by decide +kernel
theorem d_Pf_search_21 : decode b_Pf_search 21 = .ok (.if_icmp .ge 26, 3) := by decide +kernel
theorem d_Pf_search_24 : decode b_Pf_search 24 = .ok (.aload_n 0, 1) := by decide +kernel
theorem d_Pf_search_25 : decode b_Pf_search 25 = .ok (.getfield 19, 3) := by decide +kernel
theorem d_Pf_search_28 : decode b_Pf_search 28 = .ok (.ifCond .eq 19, 3) := by decide +kernel
theorem d_Pf_search_31 : decode b_Pf_search 31 = .ok (.aload_n 0, 1) := by decide +kernel
theorem d_Pf_search_32 : decode b_Pf_search 32 = .ok (.aload_n 1, 1) := by decide +kernel
theorem d_Pf_search_33 : decode b_Pf_search 33 = .ok (.aload_n 2, 1) := by decide +kernel
theorem d_Pf_search_34 : decode b_Pf_search 34 = .ok (.invokevirtual 27, 3) := by decide +kernel
theorem d_Pf_search_37 : decode b_Pf_search 37 = .ok (.ifCond .ne 4, 3) := by decide +kernel
theorem d_Pf_search_40 : decode b_Pf_search 40 = .ok (.return_, 1) := by decide +kernel
theorem d_Pf_search_41 : decode b_Pf_search 41 = .ok (.iinc 3 1, 3) := by decide +kernel
theorem d_Pf_search_44 : decode b_Pf_search 44 = .ok (.goto (-25), 3) := by decide +kernel
theorem d_Pf_search_47 : decode b_Pf_search 47 = .ok (.return_, 1) := by decide +kernel
theorem d_Pf_takeMore_0 : decode b_Pf_takeMore 0 = .ok (.aload_n 1, 1) := by decide +kernel
theorem d_Pf_takeMore_1 : decode b_Pf_takeMore 1 = .ok (.iconst 1, 1) := by decide +kernel
theorem d_Pf_takeMore_2 : decode b_Pf_takeMore 2 = .ok (.iconst 2, 1) := by decide +kernel
theorem d_Pf_takeMore_3 : decode b_Pf_takeMore 3 = .ok (.invokevirtual 31, 3) := by decide +kernel
theorem d_Pf_takeMore_6 : decode b_Pf_takeMore 6 = .ok (.istore_n 3, 1) := by decide +kernel
theorem d_Pf_takeMore_7 : decode b_Pf_takeMore 7 = .ok (.aload_n 1, 1) := by decide +kernel
theorem d_Pf_takeMore_8 : decode b_Pf_takeMore 8 = .ok (.iconst 2, 1) := by decide +kernel
theorem d_Pf_takeMore_9 : decode b_Pf_takeMore 9 = .ok (.iconst 2, 1) := by decide +kernel
theorem d_Pf_takeMore_10 : decode b_Pf_takeMore 10 = .ok (.invokevirtual 31, 3) := by decide +kernel
theorem d_Pf_takeMore_13 : decode b_Pf_takeMore 13 = .ok (.istore 4, 2) := by decide +kernel
theorem d_Pf_takeMore_15 : decode b_Pf_takeMore 15 = .ok (.bipush (-2), 2) := by decide +kernel
theorem d_Pf_takeMore_17 : decode b_Pf_takeMore 17 = .ok (.istore 5, 2) := by decide +kernel
theorem d_Pf_takeMore_19 : decode b_Pf_takeMore 19 = .ok (.iload 5, 2) := by decide +kernel
theorem d_Pf_takeMore_21 : decode b_Pf_takeMore 21 = .ok (.iconst 2, 1) := by decide +kernel
theorem d_Pf_takeMore_22 : decode b_Pf_takeMore 22 = .ok (.if_icmp .gt 107, 3) := by decide +kernel
theorem d_Pf_takeMore_25 : decode b_Pf_takeMore 25 = .ok (.iload_n 3, 1) := by decide +kernel
theorem d_Pf_takeMore_26 : decode b_Pf_takeMore 26 = .ok (.ineg, 1) := by decide +kernel
theorem d_Pf_takeMore_27 : decode b_Pf_takeMore 27 = .ok (.istore 6, 2) := by decide +kernel
theorem d_Pf_takeMore_29 : decode b_Pf_takeMore 29 = .ok (.iload 6, 2) := by decide +kernel
theorem d_Pf_takeMore_31 : decode b_Pf_takeMore 31 = .ok (.iload_n 3, 1) := by decide +kernel
theorem d_Pf_takeMore_32 : decode b_Pf_takeMore 32 = .ok (.if_icmp .gt 91, 3) := by decide +kernel
theorem d_Pf_takeMore_35 : decode b_Pf_takeMore 35 = .ok (.iload 4, 2) := by decide +kernel
theorem d_Pf_takeMore_37 : decode b_Pf_takeMore 37 = .ok (.ineg, 1) := by decide +kernel
theorem d_Pf_takeMore_38 : decode b_Pf_takeMore 38 = .ok (.istore 7, 2) := by decide +kernel
theorem d_Pf_takeMore_40 : decode b_Pf_takeMore 40 = .ok (.iload 7, 2) := by decide +kernel
theorem d_Pf_takeMore_42 : decode b_Pf_takeMore 42 = .ok (.iload 4, 2) := by decide +kernel
theorem d_Pf_takeMore_44 : decode b_Pf_takeMore 44 = .ok (.if_icmp .gt 73, 3) := by decide +kernel
theorem d_Pf_takeMore_47 : decode b_Pf_takeMore 47 = .ok (.iload 5, 2) := by decide +kernel
theorem d_Pf_takeMore_49 : decode b_Pf_takeMore 49 = .ok (.ifCond .ne 13, 3) := by decide +kernel
theorem d_Pf_takeMore_52 : decode b_Pf_takeMore 52 = .ok (.iload 6, 2) := by decide +kernel
theorem d_Pf_takeMore_54 : decode b_Pf_takeMore 54 = .ok (.ifCond .ne 8, 3) := by decide +kernel
theorem d_Pf_takeMore_57 : decode b_Pf_takeMore 57 = .ok (.iload 7, 2) := by decide +kernel
theorem d_Pf_takeMore_59 : decode b_Pf_takeMore 59 = .ok (.ifCond .eq 7, 3) := by decide +kernel
theorem d_Pf_takeMore_62 : decode b_Pf_takeMore 62 = .ok (.iconst 1, 1) := by decide +kernel
theorem d_Pf_takeMore_63 : decode b_Pf_takeMore 63 = .ok (.goto 4, 3) := by decide +kernel
theorem d_Pf_takeMore_66 : decode b_Pf_takeMore 66 = .ok (.iconst 0, 1) := by decide +kernel
theorem d_Pf_takeMore_67 : decode b_Pf_takeMore 67 = .ok (.istore 8, 2) := by decide +kernel
theorem d_Pf_takeMore_69 : decode b_Pf_takeMore 69 = .ok (.iload 8, 2) := by decide +kernel
theorem d_Pf_takeMore_71 : decode b_Pf_takeMore 71 = .ok (.ifCond .eq 18, 3) := by decide +kernel
theorem d_Pf_takeMore_74 : decode b_Pf_takeMore 74 = .ok (.aload_n 0, 1) := by decide +kernel
theorem d_Pf_takeMore_75 : decode b_Pf_takeMore 75 = .ok (.aload_n 1, 1) := by decide +kernel
theorem d_Pf_takeMore_76 : decode b_Pf_takeMore 76 = .ok (.aload_n 2, 1) := by decide +kernel
theorem d_Pf_takeMore_77 : decode b_Pf_takeMore 77 = .ok (.iload 5, 2) := by decide +kernel
theorem d_Pf_takeMore_79 : decode b_Pf_takeMore 79 = .ok (.iload 6, 2) := by decide +kernel
theorem d_Pf_takeMore_81 : decode b_Pf_takeMore 81 = .ok (.iload 7, 2) := by decide +kernel
theorem d_Pf_takeMore_83 : decode b_Pf_takeMore 83 = .ok (.invokevirtual 35, 3) := by decide +kernel
theorem d_Pf_takeMore_86 : decode b_Pf_takeMore 86 = .ok (.goto 4, 3) := by decide +kernel
theorem d_Pf_takeMore_89 : decode b_Pf_takeMore 89 = .ok (.iconst 0, 1) := by decide +kernel
theorem d_Pf_takeMore_90 : decode b_Pf_takeMore 90 = .ok (.istore 9, 2) := by decide +kernel
theorem d_Pf_takeMore_92 : decode b_Pf_takeMore 92 = .ok (.iload 9, 2) := by decide +kernel
theorem d_Pf_takeMore_94 : decode b_Pf_takeMore 94 = .ok (.ifCond .eq 17, 3) := by decide +kernel
theorem d_Pf_takeMore_97 : decode b_Pf_takeMore 97 = .ok (.aload_n 0, 1) := by decide +kernel
theorem d_Pf_takeMore_98 : decode b_Pf_takeMore 98 = .ok (.iload 5, 2) := by decide +kernel
theorem d_Pf_takeMore_100 : decode b_Pf_takeMore 100 = .ok (.iload 6, 2) := by decide +kernel
theorem d_Pf_takeMore_102 : decode b_Pf_takeMore 102 = .ok (.iload 7, 2) := by decide +kernel
theorem d_Pf_takeMore_104 : decode b_Pf_takeMore 104 = .ok (.iload 9, 2) := by decide +kernel
theorem d_Pf_takeMore_106 : decode b_Pf_takeMore 106 = .ok (.invokevirtual 39, 3) := by decide +kernel
theorem d_Pf_takeMore_109 : decode b_Pf_takeMore 109 = .ok (.iconst 1, 1) := by decide +kernel
theorem d_Pf_takeMore_110 : decode b_Pf_takeMore 110 = .ok (.ireturn, 1) := by decide +kernel
theorem d_Pf_takeMore_111 : decode b_Pf_takeMore 111 = .ok (.iinc 7 1, 3) := by decide +kernel
theorem d_Pf_takeMore_114 : decode b_Pf_takeMore 114 = .ok (.goto (-74), 3) := by decide +kernel
theorem d_Pf_takeMore_117 : decode b_Pf_takeMore 117 = .ok (.iinc 6 1, 3) := by decide +kernel
theorem d_Pf_takeMore_120 : decode b_Pf_takeMore 120 = .ok (.goto (-91), 3) := by decide +kernel
theorem d_Pf_takeMore_123 : decode b_Pf_takeMore 123 = .ok (.iinc 5 1, 3) := by decide +kernel
theorem d_Pf_takeMore_126 : decode b_Pf_takeMore 126 = .ok (.goto (-107), 3) := by decide +kernel
theorem d_Pf_takeMore_129 : decode b_Pf_takeMore 129 = .ok (.iconst 0, 1) := by decide +kernel
theorem d_Pf_takeMore_130 : decode b_Pf_takeMore 130 = .ok (.ireturn, 1) := by decide +kernel
theorem d_Lp_reach_0 : decode b_Lp_reach 0 = .ok (.iload_n 1, 1) := by decide +kernel
theorem d_Lp_reach_1 : decode b_Lp_reach 1 = .ok (.aload_n 0, 1) := by decide +kernel
theorem d_Lp_reach_2 : decode b_Lp_reach 2 = .ok (.getfield 34, 3) := by decide +kernel
theorem d_Lp_reach_5 : decode b_Lp_reach 5 = .ok (.if_icmp .ge 7, 3) := by decide +kernel
theorem d_Lp_reach_8 : decode b_Lp_reach 8 = .ok (.iload_n 2, 1) := by decide +kernel
theorem d_Lp_reach_9 : decode b_Lp_reach 9 = .ok (.goto 4, 3) := by decide +kernel
theorem d_Lp_reach_12 : decode b_Lp_reach 12 = .ok (.iconst 0, 1) := by decide +kernel
theorem d_Lp_reach_13 : decode b_Lp_reach 13 = .ok (.ireturn, 1) := by decide +kernel
theorem d_Pf_takenBy_0 : decode b_Pf_takenBy 0 = .ok (.iconst 0, 1) := by decide +kernel
theorem d_Pf_takenBy_1 : decode b_Pf_takenBy 1 = .ok (.istore 6, 2) := by decide +kernel
theorem d_Pf_takenBy_3 : decode b_Pf_takenBy 3 = .ok (.iconst 0, 1) := by decide +kernel
theorem d_Pf_takenBy_4 : decode b_Pf_takenBy 4 = .ok (.istore 7, 2) := by decide +kernel
theorem d_Pf_takenBy_6 : decode b_Pf_takenBy 6 = .ok (.iload 7, 2) := by decide +kernel
theorem d_Pf_takenBy_8 : decode b_Pf_takenBy 8 = .ok (.aload_n 1, 1) := by decide +kernel
theorem d_Pf_takenBy_9 : decode b_Pf_takenBy 9 = .ok (.getfield 22, 3) := by decide +kernel
theorem d_Pf_takenBy_12 : decode b_Pf_takenBy 12 = .ok (.if_icmp .ge 96, 3) := by decide +kernel
theorem d_Pf_takenBy_15 : decode b_Pf_takenBy 15 = .ok (.aload_n 0, 1) := by decide +kernel
theorem d_Pf_takenBy_16 : decode b_Pf_takenBy 16 = .ok (.getfield 19, 3) := by decide +kernel
theorem d_Pf_takenBy_19 : decode b_Pf_takenBy 19 = .ok (.iload 7, 2) := by decide +kernel
theorem d_Pf_takenBy_21 : decode b_Pf_takenBy 21 = .ok (.ishr, 1) := by decide +kernel
theorem d_Pf_takenBy_22 : decode b_Pf_takenBy 22 = .ok (.iconst 1, 1) := by decide +kernel
theorem d_Pf_takenBy_23 : decode b_Pf_takenBy 23 = .ok (.iand, 1) := by decide +kernel
theorem d_Pf_takenBy_24 : decode b_Pf_takenBy 24 = .ok (.ifCond .ne 6, 3) := by decide +kernel
theorem d_Pf_takenBy_27 : decode b_Pf_takenBy 27 = .ok (.goto 75, 3) := by decide +kernel
theorem d_Pf_takenBy_30 : decode b_Pf_takenBy 30 = .ok (.aload_n 1, 1) := by decide +kernel
theorem d_Pf_takenBy_31 : decode b_Pf_takenBy 31 = .ok (.getfield 43, 3) := by decide +kernel
theorem d_Pf_takenBy_34 : decode b_Pf_takenBy 34 = .ok (.iload 7, 2) := by decide +kernel
theorem d_Pf_takenBy_36 : decode b_Pf_takenBy 36 = .ok (.aaload, 1) := by decide +kernel
theorem d_Pf_takenBy_37 : decode b_Pf_takenBy 37 = .ok (.aload_n 2, 1) := by decide +kernel
theorem d_Pf_takenBy_38 : decode b_Pf_takenBy 38 = .ok (.iload 7, 2) := by decide +kernel
theorem d_Pf_takenBy_40 : decode b_Pf_takenBy 40 = .ok (.aaload, 1) := by decide +kernel
theorem d_Pf_takenBy_41 : decode b_Pf_takenBy 41 = .ok (.iload_n 3, 1) := by decide +kernel
theorem d_Pf_takenBy_42 : decode b_Pf_takenBy 42 = .ok (.iload 4, 2) := by decide +kernel
theorem d_Pf_takenBy_44 : decode b_Pf_takenBy 44 = .ok (.iload 5, 2) := by decide +kernel
theorem d_Pf_takenBy_46 : decode b_Pf_takenBy 46 = .ok (.iconst 0, 1) := by decide +kernel
theorem d_Pf_takenBy_47 : decode b_Pf_takenBy 47 = .ok (.invokevirtual 47, 3) := by decide +kernel
theorem d_Pf_takenBy_50 : decode b_Pf_takenBy 50 = .ok (.ifCond .ne 5, 3) := by decide +kernel
theorem d_Pf_takenBy_53 : decode b_Pf_takenBy 53 = .ok (.iconst 0, 1) := by decide +kernel
theorem d_Pf_takenBy_54 : decode b_Pf_takenBy 54 = .ok (.ireturn, 1) := by decide +kernel
theorem d_Pf_takenBy_55 : decode b_Pf_takenBy 55 = .ok (.aload_n 2, 1) := by decide +kernel
theorem d_Pf_takenBy_56 : decode b_Pf_takenBy 56 = .ok (.iload 7, 2) := by decide +kernel
theorem d_Pf_takenBy_58 : decode b_Pf_takenBy 58 = .ok (.aaload, 1) := by decide +kernel
theorem d_Pf_takenBy_59 : decode b_Pf_takenBy 59 = .ok (.iload_n 3, 1) := by decide +kernel
theorem d_Pf_takenBy_60 : decode b_Pf_takenBy 60 = .ok (.iload 4, 2) := by decide +kernel
theorem d_Pf_takenBy_62 : decode b_Pf_takenBy 62 = .ok (.iload 5, 2) := by decide +kernel
theorem d_Pf_takenBy_64 : decode b_Pf_takenBy 64 = .ok (.invokevirtual 53, 3) := by decide +kernel
theorem d_Pf_takenBy_67 : decode b_Pf_takenBy 67 = .ok (.ifCond .eq 35, 3) := by decide +kernel
theorem d_Pf_takenBy_70 : decode b_Pf_takenBy 70 = .ok (.aload_n 1, 1) := by decide +kernel
theorem d_Pf_takenBy_71 : decode b_Pf_takenBy 71 = .ok (.getfield 43, 3) := by decide +kernel
theorem d_Pf_takenBy_74 : decode b_Pf_takenBy 74 = .ok (.iload 7, 2) := by decide +kernel
theorem d_Pf_takenBy_76 : decode b_Pf_takenBy 76 = .ok (.aaload, 1) := by decide +kernel
theorem d_Pf_takenBy_77 : decode b_Pf_takenBy 77 = .ok (.aload_n 2, 1) := by decide +kernel
theorem d_Pf_takenBy_78 : decode b_Pf_takenBy 78 = .ok (.iload 7, 2) := by decide +kernel
theorem d_Pf_takenBy_80 : decode b_Pf_takenBy 80 = .ok (.aaload, 1) := by decide +kernel
theorem d_Pf_takenBy_81 : decode b_Pf_takenBy 81 = .ok (.iload_n 3, 1) := by decide +kernel
theorem d_Pf_takenBy_82 : decode b_Pf_takenBy 82 = .ok (.iload 4, 2) := by decide +kernel
theorem d_Pf_takenBy_84 : decode b_Pf_takenBy 84 = .ok (.iload 5, 2) := by decide +kernel
theorem d_Pf_takenBy_86 : decode b_Pf_takenBy 86 = .ok (.iconst 1, 1) := by decide +kernel
theorem d_Pf_takenBy_87 : decode b_Pf_takenBy 87 = .ok (.invokevirtual 47, 3) := by decide +kernel
theorem d_Pf_takenBy_90 : decode b_Pf_takenBy 90 = .ok (.ifCond .eq 12, 3) := by decide +kernel
theorem d_Pf_takenBy_93 : decode b_Pf_takenBy 93 = .ok (.iload 6, 2) := by decide +kernel
theorem d_Pf_takenBy_95 : decode b_Pf_takenBy 95 = .ok (.iconst 1, 1) := by decide +kernel
theorem d_Pf_takenBy_96 : decode b_Pf_takenBy 96 = .ok (.iload 7, 2) := by decide +kernel
theorem d_Pf_takenBy_98 : decode b_Pf_takenBy 98 = .ok (.ishl, 1) := by decide +kernel
theorem d_Pf_takenBy_99 : decode b_Pf_takenBy 99 = .ok (.ior, 1) := by decide +kernel
theorem d_Pf_takenBy_100 : decode b_Pf_takenBy 100 = .ok (.istore 6, 2) := by decide +kernel
theorem d_Pf_takenBy_102 : decode b_Pf_takenBy 102 = .ok (.iinc 7 1, 3) := by decide +kernel
theorem d_Pf_takenBy_105 : decode b_Pf_takenBy 105 = .ok (.goto (-99), 3) := by decide +kernel
theorem d_Pf_takenBy_108 : decode b_Pf_takenBy 108 = .ok (.iload 6, 2) := by decide +kernel
theorem d_Pf_takenBy_110 : decode b_Pf_takenBy 110 = .ok (.ireturn, 1) := by decide +kernel
theorem d_Pf_append_0 : decode b_Pf_append 0 = .ok (.aload_n 0, 1) := by decide +kernel
theorem d_Pf_append_1 : decode b_Pf_append 1 = .ok (.getfield 15, 3) := by decide +kernel
theorem d_Pf_append_4 : decode b_Pf_append 4 = .ok (.iconst 3, 1) := by decide +kernel
theorem d_Pf_append_5 : decode b_Pf_append 5 = .ok (.if_icmp .lt 4, 3) := by decide +kernel
theorem d_Pf_append_8 : decode b_Pf_append 8 = .ok (.return_, 1) := by decide +kernel
theorem d_Pf_append_9 : decode b_Pf_append 9 = .ok (.iconst 4, 1) := by decide +kernel
theorem d_Pf_append_10 : decode b_Pf_append 10 = .ok (.aload_n 0, 1) := by decide +kernel
theorem d_Pf_append_11 : decode b_Pf_append 11 = .ok (.getfield 15, 3) := by decide +kernel
theorem d_Pf_append_14 : decode b_Pf_append 14 = .ok (.imul, 1) := by decide +kernel
theorem d_Pf_append_15 : decode b_Pf_append 15 = .ok (.istore 5, 2) := by decide +kernel
theorem d_Pf_append_17 : decode b_Pf_append 17 = .ok (.aload_n 0, 1) := by decide +kernel
theorem d_Pf_append_18 : decode b_Pf_append 18 = .ok (.getfield 9, 3) := by decide +kernel
theorem d_Pf_append_21 : decode b_Pf_append 21 = .ok (.iload 5, 2) := by decide +kernel
theorem d_Pf_append_23 : decode b_Pf_append 23 = .ok (.iload_n 1, 1) := by decide +kernel
theorem d_Pf_append_24 : decode b_Pf_append 24 = .ok (.iastore, 1) := by decide +kernel
theorem d_Pf_append_25 : decode b_Pf_append 25 = .ok (.aload_n 0, 1) := by decide +kernel
theorem d_Pf_append_26 : decode b_Pf_append 26 = .ok (.getfield 9, 3) := by decide +kernel
theorem d_Pf_append_29 : decode b_Pf_append 29 = .ok (.iload 5, 2) := by decide +kernel
theorem d_Pf_append_31 : decode b_Pf_append 31 = .ok (.iconst 1, 1) := by decide +kernel
theorem d_Pf_append_32 : decode b_Pf_append 32 = .ok (.iadd, 1) := by decide +kernel
theorem d_Pf_append_33 : decode b_Pf_append 33 = .ok (.iload_n 2, 1) := by decide +kernel
theorem d_Pf_append_34 : decode b_Pf_append 34 = .ok (.iastore, 1) := by decide +kernel
theorem d_Pf_append_35 : decode b_Pf_append 35 = .ok (.aload_n 0, 1) := by decide +kernel
theorem d_Pf_append_36 : decode b_Pf_append 36 = .ok (.getfield 9, 3) := by decide +kernel
theorem d_Pf_append_39 : decode b_Pf_append 39 = .ok (.iload 5, 2) := by decide +kernel
theorem d_Pf_append_41 : decode b_Pf_append 41 = .ok (.iconst 2, 1) := by decide +kernel
theorem d_Pf_append_42 : decode b_Pf_append 42 = .ok (.iadd, 1) := by decide +kernel
theorem d_Pf_append_43 : decode b_Pf_append 43 = .ok (.iload_n 3, 1) := by decide +kernel
theorem d_Pf_append_44 : decode b_Pf_append 44 = .ok (.iastore, 1) := by decide +kernel
theorem d_Pf_append_45 : decode b_Pf_append 45 = .ok (.aload_n 0, 1) := by decide +kernel
theorem d_Pf_append_46 : decode b_Pf_append 46 = .ok (.getfield 9, 3) := by decide +kernel
theorem d_Pf_append_49 : decode b_Pf_append 49 = .ok (.iload 5, 2) := by decide +kernel
theorem d_Pf_append_51 : decode b_Pf_append 51 = .ok (.iconst 3, 1) := by decide +kernel
theorem d_Pf_append_52 : decode b_Pf_append 52 = .ok (.iadd, 1) := by decide +kernel
theorem d_Pf_append_53 : decode b_Pf_append 53 = .ok (.iload 4, 2) := by decide +kernel
theorem d_Pf_append_55 : decode b_Pf_append 55 = .ok (.iastore, 1) := by decide +kernel
theorem d_Pf_append_56 : decode b_Pf_append 56 = .ok (.aload_n 0, 1) := by decide +kernel
theorem d_Pf_append_57 : decode b_Pf_append 57 = .ok (.dup, 1) := by decide +kernel
theorem d_Pf_append_58 : decode b_Pf_append 58 = .ok (.getfield 15, 3) := by decide +kernel
theorem d_Pf_append_61 : decode b_Pf_append 61 = .ok (.iconst 1, 1) := by decide +kernel
theorem d_Pf_append_62 : decode b_Pf_append 62 = .ok (.iadd, 1) := by decide +kernel
theorem d_Pf_append_63 : decode b_Pf_append 63 = .ok (.putfield 15, 3) := by decide +kernel
theorem d_Pf_append_66 : decode b_Pf_append 66 = .ok (.aload_n 0, 1) := by decide +kernel
theorem d_Pf_append_67 : decode b_Pf_append 67 = .ok (.dup, 1) := by decide +kernel
theorem d_Pf_append_68 : decode b_Pf_append 68 = .ok (.getfield 19, 3) := by decide +kernel
theorem d_Pf_append_71 : decode b_Pf_append 71 = .ok (.iload 4, 2) := by decide +kernel
theorem d_Pf_append_73 : decode b_Pf_append 73 = .ok (.iconst (-1), 1) := by decide +kernel
theorem d_Pf_append_74 : decode b_Pf_append 74 = .ok (.ixor, 1) := by decide +kernel
theorem d_Pf_append_75 : decode b_Pf_append 75 = .ok (.iand, 1) := by decide +kernel
theorem d_Pf_append_76 : decode b_Pf_append 76 = .ok (.putfield 19, 3) := by decide +kernel
theorem d_Pf_append_79 : decode b_Pf_append 79 = .ok (.return_, 1) := by decide +kernel
theorem d_FT_proof_0 : decode b_FT_proof 0 = .ok (.iload_n 1, 1) := by decide +kernel
theorem d_FT_proof_1 : decode b_FT_proof 1 = .ok (.ifCond .lt 23, 3) := by decide +kernel
theorem d_FT_proof_4 : decode b_FT_proof 4 = .ok (.iload_n 1, 1) := by decide +kernel
theorem d_FT_proof_5 : decode b_FT_proof 5 = .ok (.aload_n 0, 1) := by decide +kernel
theorem d_FT_proof_6 : decode b_FT_proof 6 = .ok (.getfield 27, 3) := by decide +kernel
theorem d_FT_proof_9 : decode b_FT_proof 9 = .ok (.getfield 151, 3) := by decide +kernel
theorem d_FT_proof_12 : decode b_FT_proof 12 = .ok (.if_icmp .ge 12, 3) := by decide +kernel
theorem d_FT_proof_15 : decode b_FT_proof 15 = .ok (.iload_n 2, 1) := by decide +kernel
theorem d_FT_proof_16 : decode b_FT_proof 16 = .ok (.ifCond .lt 8, 3) := by decide +kernel
theorem d_FT_proof_19 : decode b_FT_proof 19 = .ok (.iload_n 2, 1) := by decide +kernel
theorem d_FT_proof_20 : decode b_FT_proof 20 = .ok (.iconst 4, 1) := by decide +kernel
theorem d_FT_proof_21 : decode b_FT_proof 21 = .ok (.if_icmp .lt 7, 3) := by decide +kernel
theorem d_FT_proof_24 : decode b_FT_proof 24 = .ok (.sipush (-1000), 3) := by decide +kernel
theorem d_FT_proof_27 : decode b_FT_proof 27 = .ok (.ireturn, 1) := by decide +kernel
theorem d_FT_proof_28 : decode b_FT_proof 28 = .ok (.aload_n 0, 1) := by decide +kernel
theorem d_FT_proof_29 : decode b_FT_proof 29 = .ok (.getfield 27, 3) := by decide +kernel
theorem d_FT_proof_32 : decode b_FT_proof 32 = .ok (.getfield 152, 3) := by decide +kernel
theorem d_FT_proof_35 : decode b_FT_proof 35 = .ok (.iconst 4, 1) := by decide +kernel
theorem d_FT_proof_36 : decode b_FT_proof 36 = .ok (.iload_n 1, 1) := by decide +kernel
theorem d_FT_proof_37 : decode b_FT_proof 37 = .ok (.imul, 1) := by decide +kernel
theorem d_FT_proof_38 : decode b_FT_proof 38 = .ok (.iload_n 2, 1) := by decide +kernel
theorem d_FT_proof_39 : decode b_FT_proof 39 = .ok (.iadd, 1) := by decide +kernel
theorem d_FT_proof_40 : decode b_FT_proof 40 = .ok (.iaload, 1) := by decide +kernel
theorem d_FT_proof_41 : decode b_FT_proof 41 = .ok (.ireturn, 1) := by decide +kernel
theorem d_FT_left_0 : decode b_FT_left 0 = .ok (.aload_n 0, 1) := by decide +kernel
theorem d_FT_left_1 : decode b_FT_left 1 = .ok (.getfield 27, 3) := by decide +kernel
theorem d_FT_left_4 : decode b_FT_left 4 = .ok (.getfield 148, 3) := by decide +kernel
theorem d_FT_left_7 : decode b_FT_left 7 = .ok (.ireturn, 1) := by decide +kernel
theorem d_FT_need_0 : decode b_FT_need 0 = .ok (.aload_n 0, 1) := by decide +kernel
theorem d_FT_need_1 : decode b_FT_need 1 = .ok (.iload_n 1, 1) := by decide +kernel
theorem d_FT_need_2 : decode b_FT_need 2 = .ok (.invokevirtual 61, 3) := by decide +kernel
theorem d_FT_need_5 : decode b_FT_need 5 = .ok (.ifCond .ne 6, 3) := by decide +kernel
theorem d_FT_need_8 : decode b_FT_need 8 = .ok (.bipush (-2), 2) := by decide +kernel
theorem d_FT_need_10 : decode b_FT_need 10 = .ok (.ireturn, 1) := by decide +kernel
theorem d_FT_need_11 : decode b_FT_need 11 = .ok (.aload_n 0, 1) := by decide +kernel
theorem d_FT_need_12 : decode b_FT_need 12 = .ok (.getfield 11, 3) := by decide +kernel
theorem d_FT_need_15 : decode b_FT_need 15 = .ok (.iload_n 1, 1) := by decide +kernel
theorem d_FT_need_16 : decode b_FT_need 16 = .ok (.aaload, 1) := by decide +kernel
theorem d_FT_need_17 : decode b_FT_need 17 = .ok (.astore_n 2, 1) := by decide +kernel
theorem d_FT_need_18 : decode b_FT_need 18 = .ok (.aload_n 0, 1) := by decide +kernel
theorem d_FT_need_19 : decode b_FT_need 19 = .ok (.iconst 0, 1) := by decide +kernel
theorem d_FT_need_20 : decode b_FT_need 20 = .ok (.putfield 155, 3) := by decide +kernel
theorem d_FT_need_23 : decode b_FT_need 23 = .ok (.aload_n 0, 1) := by decide +kernel
theorem d_FT_need_24 : decode b_FT_need 24 = .ok (.aload_n 2, 1) := by decide +kernel
theorem d_FT_need_25 : decode b_FT_need 25 = .ok (.invokevirtual 140, 3) := by decide +kernel
theorem d_FT_need_28 : decode b_FT_need 28 = .ok (.aload_n 0, 1) := by decide +kernel
theorem d_FT_need_29 : decode b_FT_need 29 = .ok (.getfield 31, 3) := by decide +kernel
theorem d_FT_need_32 : decode b_FT_need 32 = .ok (.aload_n 2, 1) := by decide +kernel
theorem d_FT_need_33 : decode b_FT_need 33 = .ok (.aload_n 0, 1) := by decide +kernel
theorem d_FT_need_34 : decode b_FT_need 34 = .ok (.getfield 17, 3) := by decide +kernel
theorem d_FT_need_37 : decode b_FT_need 37 = .ok (.invokevirtual 144, 3) := by decide +kernel
theorem d_FT_need_40 : decode b_FT_need 40 = .ok (.aload_n 0, 1) := by decide +kernel
theorem d_FT_need_41 : decode b_FT_need 41 = .ok (.getfield 31, 3) := by decide +kernel
theorem d_FT_need_44 : decode b_FT_need 44 = .ok (.getfield 148, 3) := by decide +kernel
theorem d_FT_need_47 : decode b_FT_need 47 = .ok (.ifCond .ne 5, 3) := by decide +kernel
theorem d_FT_need_50 : decode b_FT_need 50 = .ok (.iconst 2, 1) := by decide +kernel
