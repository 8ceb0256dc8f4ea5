theorem d_FT_need_51 : decode b_FT_need 51 = .ok (.ireturn, 1) := by decide +kernel
theorem d_FT_need_52 : decode b_FT_need 52 = .ok (.aload_n 2, 1) := by decide +kernel
theorem d_FT_need_53 : decode b_FT_need 53 = .ok (.iconst 1, 1) := by decide +kernel
theorem d_FT_need_54 : decode b_FT_need 54 = .ok (.iconst 1, 1) := by decide +kernel
theorem d_FT_need_55 : decode b_FT_need 55 = .ok (.invokevirtual 159, 3) := by decide +kernel
theorem d_FT_need_58 : decode b_FT_need 58 = .ok (.istore_n 3, 1) := by decide +kernel
theorem d_FT_need_59 : decode b_FT_need 59 = .ok (.aload_n 2, 1) := by decide +kernel
theorem d_FT_need_60 : decode b_FT_need 60 = .ok (.iconst 2, 1) := by decide +kernel
theorem d_FT_need_61 : decode b_FT_need 61 = .ok (.iconst 1, 1) := by decide +kernel
theorem d_FT_need_62 : decode b_FT_need 62 = .ok (.invokevirtual 159, 3) := by decide +kernel
theorem d_FT_need_65 : decode b_FT_need 65 = .ok (.istore 4, 2) := by decide +kernel
theorem d_FT_need_67 : decode b_FT_need 67 = .ok (.iconst (-1), 1) := by decide +kernel
theorem d_FT_need_68 : decode b_FT_need 68 = .ok (.istore 5, 2) := by decide +kernel
theorem d_FT_need_70 : decode b_FT_need 70 = .ok (.iload 5, 2) := by decide +kernel
theorem d_FT_need_72 : decode b_FT_need 72 = .ok (.iconst 1, 1) := by decide +kernel
theorem d_FT_need_73 : decode b_FT_need 73 = .ok (.if_icmp .gt 74, 3) := by decide +kernel
theorem d_FT_need_76 : decode b_FT_need 76 = .ok (.iload_n 3, 1) := by decide +kernel
theorem d_FT_need_77 : decode b_FT_need 77 = .ok (.ineg, 1) := by decide +kernel
theorem d_FT_need_78 : decode b_FT_need 78 = .ok (.istore 6, 2) := by decide +kernel
theorem d_FT_need_80 : decode b_FT_need 80 = .ok (.iload 6, 2) := by decide +kernel
theorem d_FT_need_82 : decode b_FT_need 82 = .ok (.iload_n 3, 1) := by decide +kernel
theorem d_FT_need_83 : decode b_FT_need 83 = .ok (.if_icmp .gt 58, 3) := by decide +kernel
theorem d_FT_need_86 : decode b_FT_need 86 = .ok (.iload 4, 2) := by decide +kernel
theorem d_FT_need_88 : decode b_FT_need 88 = .ok (.ineg, 1) := by decide +kernel
theorem d_FT_need_89 : decode b_FT_need 89 = .ok (.istore 7, 2) := by decide +kernel
theorem d_FT_need_91 : decode b_FT_need 91 = .ok (.iload 7, 2) := by decide +kernel
theorem d_FT_need_93 : decode b_FT_need 93 = .ok (.iload 4, 2) := by decide +kernel
theorem d_FT_need_95 : decode b_FT_need 95 = .ok (.if_icmp .gt 40, 3) := by decide +kernel
theorem d_FT_need_98 : decode b_FT_need 98 = .ok (.iload 5, 2) := by decide +kernel
theorem d_FT_need_100 : decode b_FT_need 100 = .ok (.ifCond .ne 13, 3) := by decide +kernel
theorem d_FT_need_103 : decode b_FT_need 103 = .ok (.iload 6, 2) := by decide +kernel
theorem d_FT_need_105 : decode b_FT_need 105 = .ok (.ifCond .ne 8, 3) := by decide +kernel
theorem d_FT_need_108 : decode b_FT_need 108 = .ok (.iload 7, 2) := by decide +kernel
theorem d_FT_need_110 : decode b_FT_need 110 = .ok (.ifCond .eq 19, 3) := by decide +kernel
theorem d_FT_need_113 : decode b_FT_need 113 = .ok (.aload_n 0, 1) := by decide +kernel
theorem d_FT_need_114 : decode b_FT_need 114 = .ok (.aload_n 2, 1) := by decide +kernel
theorem d_FT_need_115 : decode b_FT_need 115 = .ok (.iload 5, 2) := by decide +kernel
theorem d_FT_need_117 : decode b_FT_need 117 = .ok (.iload 6, 2) := by decide +kernel
theorem d_FT_need_119 : decode b_FT_need 119 = .ok (.iload 7, 2) := by decide +kernel
theorem d_FT_need_121 : decode b_FT_need 121 = .ok (.invokevirtual 163, 3) := by decide +kernel
theorem d_FT_need_124 : decode b_FT_need 124 = .ok (.ifCond .eq 5, 3) := by decide +kernel
theorem d_FT_need_127 : decode b_FT_need 127 = .ok (.iconst 1, 1) := by decide +kernel
theorem d_FT_need_128 : decode b_FT_need 128 = .ok (.ireturn, 1) := by decide +kernel
theorem d_FT_need_129 : decode b_FT_need 129 = .ok (.iinc 7 1, 3) := by decide +kernel
theorem d_FT_need_132 : decode b_FT_need 132 = .ok (.goto (-41), 3) := by decide +kernel
theorem d_FT_need_135 : decode b_FT_need 135 = .ok (.iinc 6 1, 3) := by decide +kernel
theorem d_FT_need_138 : decode b_FT_need 138 = .ok (.goto (-58), 3) := by decide +kernel
theorem d_FT_need_141 : decode b_FT_need 141 = .ok (.iinc 5 1, 3) := by decide +kernel
theorem d_FT_need_144 : decode b_FT_need 144 = .ok (.goto (-74), 3) := by decide +kernel
theorem d_FT_need_147 : decode b_FT_need 147 = .ok (.iconst 0, 1) := by decide +kernel
theorem d_FT_need_148 : decode b_FT_need 148 = .ok (.ireturn, 1) := by decide +kernel
theorem d_FT_findNeed_0 : decode b_FT_findNeed 0 = .ok (.aload_n 0, 1) := by decide +kernel
theorem d_FT_findNeed_1 : decode b_FT_findNeed 1 = .ok (.aload_n 1, 1) := by decide +kernel
theorem d_FT_findNeed_2 : decode b_FT_findNeed 2 = .ok (.iload_n 2, 1) := by decide +kernel
theorem d_FT_findNeed_3 : decode b_FT_findNeed 3 = .ok (.iload_n 3, 1) := by decide +kernel
theorem d_FT_findNeed_4 : decode b_FT_findNeed 4 = .ok (.iload 4, 2) := by decide +kernel
theorem d_FT_findNeed_6 : decode b_FT_findNeed 6 = .ok (.iconst 2, 1) := by decide +kernel
theorem d_FT_findNeed_7 : decode b_FT_findNeed 7 = .ok (.invokevirtual 196, 3) := by decide +kernel
theorem d_FT_findNeed_10 : decode b_FT_findNeed 10 = .ok (.aload_n 0, 1) := by decide +kernel
theorem d_FT_findNeed_11 : decode b_FT_findNeed 11 = .ok (.getfield 31, 3) := by decide +kernel
theorem d_FT_findNeed_14 : decode b_FT_findNeed 14 = .ok (.aload_n 1, 1) := by decide +kernel
theorem d_FT_findNeed_15 : decode b_FT_findNeed 15 = .ok (.aload_n 0, 1) := by decide +kernel
theorem d_FT_findNeed_16 : decode b_FT_findNeed 16 = .ok (.getfield 21, 3) := by decide +kernel
theorem d_FT_findNeed_19 : decode b_FT_findNeed 19 = .ok (.invokevirtual 144, 3) := by decide +kernel
theorem d_FT_findNeed_22 : decode b_FT_findNeed 22 = .ok (.aload_n 0, 1) := by decide +kernel
theorem d_FT_findNeed_23 : decode b_FT_findNeed 23 = .ok (.getfield 31, 3) := by decide +kernel
theorem d_FT_findNeed_26 : decode b_FT_findNeed 26 = .ok (.getfield 148, 3) := by decide +kernel
theorem d_FT_findNeed_29 : decode b_FT_findNeed 29 = .ok (.ifCond .eq 5, 3) := by decide +kernel
theorem d_FT_findNeed_32 : decode b_FT_findNeed 32 = .ok (.iconst 0, 1) := by decide +kernel
theorem d_FT_findNeed_33 : decode b_FT_findNeed 33 = .ok (.ireturn, 1) := by decide +kernel
theorem d_FT_findNeed_34 : decode b_FT_findNeed 34 = .ok (.bipush (-2), 2) := by decide +kernel
theorem d_FT_findNeed_36 : decode b_FT_findNeed 36 = .ok (.istore 5, 2) := by decide +kernel
theorem d_FT_findNeed_38 : decode b_FT_findNeed 38 = .ok (.iload 5, 2) := by decide +kernel
theorem d_FT_findNeed_40 : decode b_FT_findNeed 40 = .ok (.iconst 2, 1) := by decide +kernel
theorem d_FT_findNeed_41 : decode b_FT_findNeed 41 = .ok (.if_icmp .gt 71, 3) := by decide +kernel
theorem d_FT_findNeed_44 : decode b_FT_findNeed 44 = .ok (.aload_n 0, 1) := by decide +kernel
theorem d_FT_findNeed_45 : decode b_FT_findNeed 45 = .ok (.aload_n 1, 1) := by decide +kernel
theorem d_FT_findNeed_46 : decode b_FT_findNeed 46 = .ok (.iload_n 2, 1) := by decide +kernel
theorem d_FT_findNeed_47 : decode b_FT_findNeed 47 = .ok (.iload_n 3, 1) := by decide +kernel
theorem d_FT_findNeed_48 : decode b_FT_findNeed 48 = .ok (.iload 4, 2) := by decide +kernel
theorem d_FT_findNeed_50 : decode b_FT_findNeed 50 = .ok (.iload 5, 2) := by decide +kernel
theorem d_FT_findNeed_52 : decode b_FT_findNeed 52 = .ok (.invokevirtual 196, 3) := by decide +kernel
theorem d_FT_findNeed_55 : decode b_FT_findNeed 55 = .ok (.aload_n 0, 1) := by decide +kernel
theorem d_FT_findNeed_56 : decode b_FT_findNeed 56 = .ok (.aload_n 1, 1) := by decide +kernel
theorem d_FT_findNeed_57 : decode b_FT_findNeed 57 = .ok (.iload_n 2, 1) := by decide +kernel
theorem d_FT_findNeed_58 : decode b_FT_findNeed 58 = .ok (.iload_n 3, 1) := by decide +kernel
theorem d_FT_findNeed_59 : decode b_FT_findNeed 59 = .ok (.iload 4, 2) := by decide +kernel
theorem d_FT_findNeed_61 : decode b_FT_findNeed 61 = .ok (.iload 5, 2) := by decide +kernel
theorem d_FT_findNeed_63 : decode b_FT_findNeed 63 = .ok (.invokevirtual 200, 3) := by decide +kernel
theorem d_FT_findNeed_66 : decode b_FT_findNeed 66 = .ok (.ifCond .ne 6, 3) := by decide +kernel
theorem d_FT_findNeed_69 : decode b_FT_findNeed 69 = .ok (.goto 37, 3) := by decide +kernel
theorem d_FT_findNeed_72 : decode b_FT_findNeed 72 = .ok (.aload_n 0, 1) := by decide +kernel
theorem d_FT_findNeed_73 : decode b_FT_findNeed 73 = .ok (.getfield 31, 3) := by decide +kernel
theorem d_FT_findNeed_76 : decode b_FT_findNeed 76 = .ok (.aload_n 1, 1) := by decide +kernel
theorem d_FT_findNeed_77 : decode b_FT_findNeed 77 = .ok (.aload_n 0, 1) := by decide +kernel
theorem d_FT_findNeed_78 : decode b_FT_findNeed 78 = .ok (.getfield 21, 3) := by decide +kernel
theorem d_FT_findNeed_81 : decode b_FT_findNeed 81 = .ok (.invokevirtual 144, 3) := by decide +kernel
theorem d_FT_findNeed_84 : decode b_FT_findNeed 84 = .ok (.aload_n 0, 1) := by decide +kernel
theorem d_FT_findNeed_85 : decode b_FT_findNeed 85 = .ok (.getfield 31, 3) := by decide +kernel
theorem d_FT_findNeed_88 : decode b_FT_findNeed 88 = .ok (.getfield 148, 3) := by decide +kernel
theorem d_FT_findNeed_91 : decode b_FT_findNeed 91 = .ok (.ifCond .ne 15, 3) := by decide +kernel
theorem d_FT_findNeed_94 : decode b_FT_findNeed 94 = .ok (.aload_n 0, 1) := by decide +kernel
theorem d_FT_findNeed_95 : decode b_FT_findNeed 95 = .ok (.iload_n 2, 1) := by decide +kernel
theorem d_FT_findNeed_96 : decode b_FT_findNeed 96 = .ok (.iload_n 3, 1) := by decide +kernel
theorem d_FT_findNeed_97 : decode b_FT_findNeed 97 = .ok (.iload 4, 2) := by decide +kernel
theorem d_FT_findNeed_99 : decode b_FT_findNeed 99 = .ok (.iload 5, 2) := by decide +kernel
theorem d_FT_findNeed_101 : decode b_FT_findNeed 101 = .ok (.invokevirtual 204, 3) := by decide +kernel
theorem d_FT_findNeed_104 : decode b_FT_findNeed 104 = .ok (.iconst 1, 1) := by decide +kernel
theorem d_FT_findNeed_105 : decode b_FT_findNeed 105 = .ok (.ireturn, 1) := by decide +kernel
theorem d_FT_findNeed_106 : decode b_FT_findNeed 106 = .ok (.iinc 5 1, 3) := by decide +kernel
theorem d_FT_findNeed_109 : decode b_FT_findNeed 109 = .ok (.goto (-71), 3) := by decide +kernel
theorem d_FT_findNeed_112 : decode b_FT_findNeed 112 = .ok (.iconst 0, 1) := by decide +kernel
theorem d_FT_findNeed_113 : decode b_FT_findNeed 113 = .ok (.ireturn, 1) := by decide +kernel
theorem d_FT_narrowSpaces_0 : decode b_FT_narrowSpaces 0 = .ok (.iconst 0, 1) := by decide +kernel
theorem d_FT_narrowSpaces_1 : decode b_FT_narrowSpaces 1 = .ok (.istore 6, 2) := by decide +kernel
theorem d_FT_narrowSpaces_3 : decode b_FT_narrowSpaces 3 = .ok (.iload 6, 2) := by decide +kernel
theorem d_FT_narrowSpaces_5 : decode b_FT_narrowSpaces 5 = .ok (.aload_n 1, 1) := by decide +kernel
theorem d_FT_narrowSpaces_6 : decode b_FT_narrowSpaces 6 = .ok (.getfield 111, 3) := by decide +kernel
theorem d_FT_narrowSpaces_9 : decode b_FT_narrowSpaces 9 = .ok (.if_icmp .ge 42, 3) := by decide +kernel
theorem d_FT_narrowSpaces_12 : decode b_FT_narrowSpaces 12 = .ok (.aload_n 0, 1) := by decide +kernel
theorem d_FT_narrowSpaces_13 : decode b_FT_narrowSpaces 13 = .ok (.getfield 21, 3) := by decide +kernel
theorem d_FT_narrowSpaces_16 : decode b_FT_narrowSpaces 16 = .ok (.iload 6, 2) := by decide +kernel
theorem d_FT_narrowSpaces_18 : decode b_FT_narrowSpaces 18 = .ok (.aaload, 1) := by decide +kernel
theorem d_FT_narrowSpaces_19 : decode b_FT_narrowSpaces 19 = .ok (.aload_n 0, 1) := by decide +kernel
theorem d_FT_narrowSpaces_20 : decode b_FT_narrowSpaces 20 = .ok (.getfield 17, 3) := by decide +kernel
theorem d_FT_narrowSpaces_23 : decode b_FT_narrowSpaces 23 = .ok (.iload 6, 2) := by decide +kernel
theorem d_FT_narrowSpaces_25 : decode b_FT_narrowSpaces 25 = .ok (.aaload, 1) := by decide +kernel
theorem d_FT_narrowSpaces_26 : decode b_FT_narrowSpaces 26 = .ok (.invokevirtual 211, 3) := by decide +kernel
theorem d_FT_narrowSpaces_29 : decode b_FT_narrowSpaces 29 = .ok (.aload_n 0, 1) := by decide +kernel
theorem d_FT_narrowSpaces_30 : decode b_FT_narrowSpaces 30 = .ok (.getfield 21, 3) := by decide +kernel
theorem d_FT_narrowSpaces_33 : decode b_FT_narrowSpaces 33 = .ok (.iload 6, 2) := by decide +kernel
theorem d_FT_narrowSpaces_35 : decode b_FT_narrowSpaces 35 = .ok (.aaload, 1) := by decide +kernel
theorem d_FT_narrowSpaces_36 : decode b_FT_narrowSpaces 36 = .ok (.iload_n 2, 1) := by decide +kernel
theorem d_FT_narrowSpaces_37 : decode b_FT_narrowSpaces 37 = .ok (.iload_n 3, 1) := by decide +kernel
theorem d_FT_narrowSpaces_38 : decode b_FT_narrowSpaces 38 = .ok (.iload 4, 2) := by decide +kernel
theorem d_FT_narrowSpaces_40 : decode b_FT_narrowSpaces 40 = .ok (.iload 5, 2) := by decide +kernel
theorem d_FT_narrowSpaces_42 : decode b_FT_narrowSpaces 42 = .ok (.invokevirtual 215, 3) := by decide +kernel
theorem d_FT_narrowSpaces_45 : decode b_FT_narrowSpaces 45 = .ok (.iinc 6 1, 3) := by decide +kernel
theorem d_FT_narrowSpaces_48 : decode b_FT_narrowSpaces 48 = .ok (.goto (-45), 3) := by decide +kernel
theorem d_FT_narrowSpaces_51 : decode b_FT_narrowSpaces 51 = .ok (.return_, 1) := by decide +kernel
theorem d_Sp_copy_0 : decode b_Sp_copy 0 = .ok (.aload_n 0, 1) := by decide +kernel
theorem d_Sp_copy_1 : decode b_Sp_copy 1 = .ok (.aload_n 1, 1) := by decide +kernel
theorem d_Sp_copy_2 : decode b_Sp_copy 2 = .ok (.getfield 63, 3) := by decide +kernel
theorem d_Sp_copy_5 : decode b_Sp_copy 5 = .ok (.putfield 63, 3) := by decide +kernel
theorem d_Sp_copy_8 : decode b_Sp_copy 8 = .ok (.aload_n 0, 1) := by decide +kernel
theorem d_Sp_copy_9 : decode b_Sp_copy 9 = .ok (.aload_n 1, 1) := by decide +kernel
theorem d_Sp_copy_10 : decode b_Sp_copy 10 = .ok (.getfield 66, 3) := by decide +kernel
theorem d_Sp_copy_13 : decode b_Sp_copy 13 = .ok (.putfield 66, 3) := by decide +kernel
theorem d_Sp_copy_16 : decode b_Sp_copy 16 = .ok (.aload_n 0, 1) := by decide +kernel
theorem d_Sp_copy_17 : decode b_Sp_copy 17 = .ok (.aload_n 1, 1) := by decide +kernel
theorem d_Sp_copy_18 : decode b_Sp_copy 18 = .ok (.getfield 69, 3) := by decide +kernel
theorem d_Sp_copy_21 : decode b_Sp_copy 21 = .ok (.putfield 69, 3) := by decide +kernel
theorem d_Sp_copy_24 : decode b_Sp_copy 24 = .ok (.iconst 0, 1) := by decide +kernel
theorem d_Sp_copy_25 : decode b_Sp_copy 25 = .ok (.istore_n 2, 1) := by decide +kernel
theorem d_Sp_copy_26 : decode b_Sp_copy 26 = .ok (.iload_n 2, 1) := by decide +kernel
theorem d_Sp_copy_27 : decode b_Sp_copy 27 = .ok (.iconst 4, 1) := by decide +kernel
theorem d_Sp_copy_28 : decode b_Sp_copy 28 = .ok (.aload_n 0, 1) := by decide +kernel
theorem d_Sp_copy_29 : decode b_Sp_copy 29 = .ok (.getfield 63, 3) := by decide +kernel
theorem d_Sp_copy_32 : decode b_Sp_copy 32 = .ok (.imul, 1) := by decide +kernel
theorem d_Sp_copy_33 : decode b_Sp_copy 33 = .ok (.if_icmp .ge 21, 3) := by decide +kernel
theorem d_Sp_copy_36 : decode b_Sp_copy 36 = .ok (.aload_n 0, 1) := by decide +kernel
theorem d_Sp_copy_37 : decode b_Sp_copy 37 = .ok (.getfield 9, 3) := by decide +kernel
theorem d_Sp_copy_40 : decode b_Sp_copy 40 = .ok (.iload_n 2, 1) := by decide +kernel
theorem d_Sp_copy_41 : decode b_Sp_copy 41 = .ok (.aload_n 1, 1) := by decide +kernel
theorem d_Sp_copy_42 : decode b_Sp_copy 42 = .ok (.getfield 9, 3) := by decide +kernel
theorem d_Sp_copy_45 : decode b_Sp_copy 45 = .ok (.iload_n 2, 1) := by decide +kernel
theorem d_Sp_copy_46 : decode b_Sp_copy 46 = .ok (.laload, 1) := by decide +kernel
theorem d_Sp_copy_47 : decode b_Sp_copy 47 = .ok (.lastore, 1) := by decide +kernel
theorem d_Sp_copy_48 : decode b_Sp_copy 48 = .ok (.iinc 2 1, 3) := by decide +kernel
theorem d_Sp_copy_51 : decode b_Sp_copy 51 = .ok (.goto (-25), 3) := by decide +kernel
theorem d_Sp_copy_54 : decode b_Sp_copy 54 = .ok (.iconst 0, 1) := by decide +kernel
theorem d_Sp_copy_55 : decode b_Sp_copy 55 = .ok (.istore_n 2, 1) := by decide +kernel
theorem d_Sp_copy_56 : decode b_Sp_copy 56 = .ok (.iload_n 2, 1) := by decide +kernel
theorem d_Sp_copy_57 : decode b_Sp_copy 57 = .ok (.iconst 4, 1) := by decide +kernel
theorem d_Sp_copy_58 : decode b_Sp_copy 58 = .ok (.aload_n 0, 1) := by decide +kernel
theorem d_Sp_copy_59 : decode b_Sp_copy 59 = .ok (.getfield 66, 3) := by decide +kernel
theorem d_Sp_copy_62 : decode b_Sp_copy 62 = .ok (.imul, 1) := by decide +kernel
theorem d_Sp_copy_63 : decode b_Sp_copy 63 = .ok (.if_icmp .ge 21, 3) := by decide +kernel
theorem d_Sp_copy_66 : decode b_Sp_copy 66 = .ok (.aload_n 0, 1) := by decide +kernel
theorem d_Sp_copy_67 : decode b_Sp_copy 67 = .ok (.getfield 15, 3) := by decide +kernel
theorem d_Sp_copy_70 : decode b_Sp_copy 70 = .ok (.iload_n 2, 1) := by decide +kernel
theorem d_Sp_copy_71 : decode b_Sp_copy 71 = .ok (.aload_n 1, 1) := by decide +kernel
theorem d_Sp_copy_72 : decode b_Sp_copy 72 = .ok (.getfield 15, 3) := by decide +kernel
theorem d_Sp_copy_75 : decode b_Sp_copy 75 = .ok (.iload_n 2, 1) := by decide +kernel
theorem d_Sp_copy_76 : decode b_Sp_copy 76 = .ok (.laload, 1) := by decide +kernel
theorem d_Sp_copy_77 : decode b_Sp_copy 77 = .ok (.lastore, 1) := by decide +kernel
theorem d_Sp_copy_78 : decode b_Sp_copy 78 = .ok (.iinc 2 1, 3) := by decide +kernel
theorem d_Sp_copy_81 : decode b_Sp_copy 81 = .ok (.goto (-25), 3) := by decide +kernel
theorem d_Sp_copy_84 : decode b_Sp_copy 84 = .ok (.iconst 0, 1) := by decide +kernel
theorem d_Sp_copy_85 : decode b_Sp_copy 85 = .ok (.istore_n 2, 1) := by decide +kernel
theorem d_Sp_copy_86 : decode b_Sp_copy 86 = .ok (.iload_n 2, 1) := by decide +kernel
theorem d_Sp_copy_87 : decode b_Sp_copy 87 = .ok (.aload_n 0, 1) := by decide +kernel
theorem d_Sp_copy_88 : decode b_Sp_copy 88 = .ok (.getfield 66, 3) := by decide +kernel
theorem d_Sp_copy_91 : decode b_Sp_copy 91 = .ok (.if_icmp .ge 21, 3) := by decide +kernel
theorem d_Sp_copy_94 : decode b_Sp_copy 94 = .ok (.aload_n 0, 1) := by decide +kernel
theorem d_Sp_copy_95 : decode b_Sp_copy 95 = .ok (.getfield 18, 3) := by decide +kernel
theorem d_Sp_copy_98 : decode b_Sp_copy 98 = .ok (.iload_n 2, 1) := by decide +kernel
theorem d_Sp_copy_99 : decode b_Sp_copy 99 = .ok (.aload_n 1, 1) := by decide +kernel
theorem d_Sp_copy_100 : decode b_Sp_copy 100 = .ok (.getfield 18, 3) := by decide +kernel
theorem d_Sp_copy_103 : decode b_Sp_copy 103 = .ok (.iload_n 2, 1) := by decide +kernel
theorem d_Sp_copy_104 : decode b_Sp_copy 104 = .ok (.iaload, 1) := by decide +kernel
theorem d_Sp_copy_105 : decode b_Sp_copy 105 = .ok (.iastore, 1) := by decide +kernel
theorem d_Sp_copy_106 : decode b_Sp_copy 106 = .ok (.iinc 2 1, 3) := by decide +kernel
theorem d_Sp_copy_109 : decode b_Sp_copy 109 = .ok (.goto (-23), 3) := by decide +kernel
theorem d_Sp_copy_112 : decode b_Sp_copy 112 = .ok (.return_, 1) := by decide +kernel
theorem d_FT_lasts_0 : decode b_FT_lasts 0 = .ok (.iconst 0, 1) := by decide +kernel
theorem d_FT_lasts_1 : decode b_FT_lasts 1 = .ok (.istore 6, 2) := by decide +kernel
theorem d_FT_lasts_3 : decode b_FT_lasts 3 = .ok (.iload 6, 2) := by decide +kernel
theorem d_FT_lasts_5 : decode b_FT_lasts 5 = .ok (.aload_n 1, 1) := by decide +kernel
theorem d_FT_lasts_6 : decode b_FT_lasts 6 = .ok (.getfield 111, 3) := by decide +kernel
theorem d_FT_lasts_9 : decode b_FT_lasts 9 = .ok (.if_icmp .ge 37, 3) := by decide +kernel
theorem d_FT_lasts_12 : decode b_FT_lasts 12 = .ok (.aload_n 1, 1) := by decide +kernel
theorem d_FT_lasts_13 : decode b_FT_lasts 13 = .ok (.getfield 87, 3) := by decide +kernel
theorem d_FT_lasts_16 : decode b_FT_lasts 16 = .ok (.iload 6, 2) := by decide +kernel
theorem d_FT_lasts_18 : decode b_FT_lasts 18 = .ok (.aaload, 1) := by decide +kernel
theorem d_FT_lasts_19 : decode b_FT_lasts 19 = .ok (.aload_n 0, 1) := by decide +kernel
theorem d_FT_lasts_20 : decode b_FT_lasts 20 = .ok (.getfield 21, 3) := by decide +kernel
theorem d_FT_lasts_23 : decode b_FT_lasts 23 = .ok (.iload 6, 2) := by decide +kernel
theorem d_FT_lasts_25 : decode b_FT_lasts 25 = .ok (.aaload, 1) := by decide +kernel
theorem d_FT_lasts_26 : decode b_FT_lasts 26 = .ok (.iload_n 2, 1) := by decide +kernel
theorem d_FT_lasts_27 : decode b_FT_lasts 27 = .ok (.iload_n 3, 1) := by decide +kernel
theorem d_FT_lasts_28 : decode b_FT_lasts 28 = .ok (.iload 4, 2) := by decide +kernel
theorem d_FT_lasts_30 : decode b_FT_lasts 30 = .ok (.iload 5, 2) := by decide +kernel
theorem d_FT_lasts_32 : decode b_FT_lasts 32 = .ok (.invokevirtual 208, 3) := by decide +kernel
theorem d_FT_lasts_35 : decode b_FT_lasts 35 = .ok (.ifCond .ne 5, 3) := by decide +kernel
theorem d_FT_lasts_38 : decode b_FT_lasts 38 = .ok (.iconst 0, 1) := by decide +kernel
theorem d_FT_lasts_39 : decode b_FT_lasts 39 = .ok (.ireturn, 1) := by decide +kernel
theorem d_FT_lasts_40 : decode b_FT_lasts 40 = .ok (.iinc 6 1, 3) := by decide +kernel
theorem d_FT_lasts_43 : decode b_FT_lasts 43 = .ok (.goto (-40), 3) := by decide +kernel
theorem d_FT_lasts_46 : decode b_FT_lasts 46 = .ok (.iconst 1, 1) := by decide +kernel
theorem d_FT_lasts_47 : decode b_FT_lasts 47 = .ok (.ireturn, 1) := by decide +kernel
theorem d_Wy_keeps_0 : decode b_Wy_keeps 0 = .ok (.aload_n 1, 1) := by decide +kernel
theorem d_Wy_keeps_1 : decode b_Wy_keeps 1 = .ok (.aload_n 0, 1) := by decide +kernel
theorem d_Wy_keeps_2 : decode b_Wy_keeps 2 = .ok (.iload_n 2, 1) := by decide +kernel
theorem d_Wy_keeps_3 : decode b_Wy_keeps 3 = .ok (.iload_n 3, 1) := by decide +kernel
theorem d_Wy_keeps_4 : decode b_Wy_keeps 4 = .ok (.iload 4, 2) := by decide +kernel
theorem d_Wy_keeps_6 : decode b_Wy_keeps 6 = .ok (.iconst 0, 1) := by decide +kernel
theorem d_Wy_keeps_7 : decode b_Wy_keeps 7 = .ok (.invokevirtual 35, 3) := by decide +kernel
theorem d_Wy_keeps_10 : decode b_Wy_keeps 10 = .ok (.aload_n 0, 1) := by decide +kernel
theorem d_Wy_keeps_11 : decode b_Wy_keeps 11 = .ok (.iload_n 2, 1) := by decide +kernel
theorem d_Wy_keeps_12 : decode b_Wy_keeps 12 = .ok (.iload_n 3, 1) := by decide +kernel
theorem d_Wy_keeps_13 : decode b_Wy_keeps 13 = .ok (.iload 4, 2) := by decide +kernel
theorem d_Wy_keeps_15 : decode b_Wy_keeps 15 = .ok (.iconst 1, 1) := by decide +kernel
theorem d_Wy_keeps_16 : decode b_Wy_keeps 16 = .ok (.invokevirtual 35, 3) := by decide +kernel
theorem d_Wy_keeps_19 : decode b_Wy_keeps 19 = .ok (.aload_n 0, 1) := by decide +kernel
theorem d_Wy_keeps_20 : decode b_Wy_keeps 20 = .ok (.iload_n 2, 1) := by decide +kernel
theorem d_Wy_keeps_21 : decode b_Wy_keeps 21 = .ok (.iload_n 3, 1) := by decide +kernel
theorem d_Wy_keeps_22 : decode b_Wy_keeps 22 = .ok (.iload 4, 2) := by decide +kernel
theorem d_Wy_keeps_24 : decode b_Wy_keeps 24 = .ok (.iconst 2, 1) := by decide +kernel
theorem d_Wy_keeps_25 : decode b_Wy_keeps 25 = .ok (.invokevirtual 35, 3) := by decide +kernel
theorem d_Wy_keeps_28 : decode b_Wy_keeps 28 = .ok (.iload 5, 2) := by decide +kernel
theorem d_Wy_keeps_30 : decode b_Wy_keeps 30 = .ok (.aload_n 0, 1) := by decide +kernel
theorem d_Wy_keeps_31 : decode b_Wy_keeps 31 = .ok (.iload_n 2, 1) := by decide +kernel
theorem d_Wy_keeps_32 : decode b_Wy_keeps 32 = .ok (.iload_n 3, 1) := by decide +kernel
theorem d_Wy_keeps_33 : decode b_Wy_keeps 33 = .ok (.iload 4, 2) := by decide +kernel
theorem d_Wy_keeps_35 : decode b_Wy_keeps 35 = .ok (.invokevirtual 39, 3) := by decide +kernel
theorem d_Wy_keeps_38 : decode b_Wy_keeps 38 = .ok (.isub, 1) := by decide +kernel
theorem d_Wy_keeps_39 : decode b_Wy_keeps 39 = .ok (.invokevirtual 43, 3) := by decide +kernel
theorem d_Wy_keeps_42 : decode b_Wy_keeps 42 = .ok (.ireturn, 1) := by decide +kernel
theorem d_FT_keepNeed_0 : decode b_FT_keepNeed 0 = .ok (.aload_n 0, 1) := by decide +kernel
theorem d_FT_keepNeed_1 : decode b_FT_keepNeed 1 = .ok (.iconst 1, 1) := by decide +kernel
theorem d_FT_keepNeed_2 : decode b_FT_keepNeed 2 = .ok (.putfield 155, 3) := by decide +kernel
theorem d_FT_keepNeed_5 : decode b_FT_keepNeed 5 = .ok (.aload_n 0, 1) := by decide +kernel
theorem d_FT_keepNeed_6 : decode b_FT_keepNeed 6 = .ok (.getfield 34, 3) := by decide +kernel
theorem d_FT_keepNeed_9 : decode b_FT_keepNeed 9 = .ok (.iconst 0, 1) := by decide +kernel
theorem d_FT_keepNeed_10 : decode b_FT_keepNeed 10 = .ok (.iload_n 1, 1) := by decide +kernel
theorem d_FT_keepNeed_11 : decode b_FT_keepNeed 11 = .ok (.iastore, 1) := by decide +kernel
theorem d_FT_keepNeed_12 : decode b_FT_keepNeed 12 = .ok (.aload_n 0, 1) := by decide +kernel
theorem d_FT_keepNeed_13 : decode b_FT_keepNeed 13 = .ok (.getfield 34, 3) := by decide +kernel
theorem d_FT_keepNeed_16 : decode b_FT_keepNeed 16 = .ok (.iconst 1, 1) := by decide +kernel
theorem d_FT_keepNeed_17 : decode b_FT_keepNeed 17 = .ok (.iload_n 2, 1) := by decide +kernel
theorem d_FT_keepNeed_18 : decode b_FT_keepNeed 18 = .ok (.iastore, 1) := by decide +kernel
theorem d_FT_keepNeed_19 : decode b_FT_keepNeed 19 = .ok (.aload_n 0, 1) := by decide +kernel
theorem d_FT_keepNeed_20 : decode b_FT_keepNeed 20 = .ok (.getfield 34, 3) := by decide +kernel
theorem d_FT_keepNeed_23 : decode b_FT_keepNeed 23 = .ok (.iconst 2, 1) := by decide +kernel
theorem d_FT_keepNeed_24 : decode b_FT_keepNeed 24 = .ok (.iload_n 3, 1) := by decide +kernel
theorem d_FT_keepNeed_25 : decode b_FT_keepNeed 25 = .ok (.iastore, 1) := by decide +kernel
theorem d_FT_keepNeed_26 : decode b_FT_keepNeed 26 = .ok (.aload_n 0, 1) := by decide +kernel
theorem d_FT_keepNeed_27 : decode b_FT_keepNeed 27 = .ok (.getfield 34, 3) := by decide +kernel
theorem d_FT_keepNeed_30 : decode b_FT_keepNeed 30 = .ok (.iconst 3, 1) := by decide +kernel
theorem d_FT_keepNeed_31 : decode b_FT_keepNeed 31 = .ok (.iload 4, 2) := by decide +kernel
theorem d_FT_keepNeed_33 : decode b_FT_keepNeed 33 = .ok (.iastore, 1) := by decide +kernel
theorem d_FT_keepNeed_34 : decode b_FT_keepNeed 34 = .ok (.return_, 1) := by decide +kernel
theorem d_FT_needed_0 : decode b_FT_needed 0 = .ok (.aload_n 0, 1) := by decide +kernel
theorem d_FT_needed_1 : decode b_FT_needed 1 = .ok (.getfield 155, 3) := by decide +kernel
theorem d_FT_needed_4 : decode b_FT_needed 4 = .ok (.ifCond .eq 21, 3) := by decide +kernel
theorem d_FT_needed_7 : decode b_FT_needed 7 = .ok (.iload_n 1, 1) := by decide +kernel
theorem d_FT_needed_8 : decode b_FT_needed 8 = .ok (.ifCond .lt 17, 3) := by decide +kernel
theorem d_FT_needed_11 : decode b_FT_needed 11 = .ok (.iload_n 1, 1) := by decide +kernel
theorem d_FT_needed_12 : decode b_FT_needed 12 = .ok (.iconst 4, 1) := by decide +kernel
theorem d_FT_needed_13 : decode b_FT_needed 13 = .ok (.if_icmp .ge 12, 3) := by decide +kernel
theorem d_FT_needed_16 : decode b_FT_needed 16 = .ok (.aload_n 0, 1) := by decide +kernel
theorem d_FT_needed_17 : decode b_FT_needed 17 = .ok (.getfield 34, 3) := by decide +kernel
theorem d_FT_needed_20 : decode b_FT_needed 20 = .ok (.iload_n 1, 1) := by decide +kernel
theorem d_FT_needed_21 : decode b_FT_needed 21 = .ok (.iaload, 1) := by decide +kernel
theorem d_FT_needed_22 : decode b_FT_needed 22 = .ok (.goto 6, 3) := by decide +kernel
theorem d_FT_needed_25 : decode b_FT_needed 25 = .ok (.sipush (-1000), 3) := by decide +kernel
theorem d_FT_needed_28 : decode b_FT_needed 28 = .ok (.ireturn, 1) := by decide +kernel
theorem d_FT_put_0 : decode b_FT_put 0 = .ok (.aload_n 0, 1) := by decide +kernel
theorem d_FT_put_1 : decode b_FT_put 1 = .ok (.iload_n 1, 1) := by decide +kernel
theorem d_FT_put_2 : decode b_FT_put 2 = .ok (.iload_n 2, 1) := by decide +kernel
theorem d_FT_put_3 : decode b_FT_put 3 = .ok (.invokevirtual 96, 3) := by decide +kernel
theorem d_FT_put_6 : decode b_FT_put 6 = .ok (.ifCond .ne 6, 3) := by decide +kernel
theorem d_FT_put_9 : decode b_FT_put 9 = .ok (.bipush (-2), 2) := by decide +kernel
theorem d_FT_put_11 : decode b_FT_put 11 = .ok (.ireturn, 1) := by decide +kernel
theorem d_FT_put_12 : decode b_FT_put 12 = .ok (.iload_n 3, 1) := by decide +kernel
theorem d_FT_put_13 : decode b_FT_put 13 = .ok (.ldc 167, 2) := by decide +kernel
theorem d_FT_put_15 : decode b_FT_put 15 = .ok (.invokestatic 99, 3) := by decide +kernel
theorem d_FT_put_18 : decode b_FT_put 18 = .ok (.ifCond .ne 6, 3) := by decide +kernel
theorem d_FT_put_21 : decode b_FT_put 21 = .ok (.bipush (-3), 2) := by decide +kernel
theorem d_FT_put_23 : decode b_FT_put 23 = .ok (.ireturn, 1) := by decide +kernel
theorem d_FT_put_24 : decode b_FT_put 24 = .ok (.aload_n 0, 1) := by decide +kernel
theorem d_FT_put_25 : decode b_FT_put 25 = .ok (.getfield 11, 3) := by decide +kernel
theorem d_FT_put_28 : decode b_FT_put 28 = .ok (.iload_n 1, 1) := by decide +kernel
theorem d_FT_put_29 : decode b_FT_put 29 = .ok (.aaload, 1) := by decide +kernel
theorem d_FT_put_30 : decode b_FT_put 30 = .ok (.getfield 168, 3) := by decide +kernel
theorem d_FT_put_33 : decode b_FT_put 33 = .ok (.iload_n 2, 1) := by decide +kernel
theorem d_FT_put_34 : decode b_FT_put 34 = .ok (.iload_n 3, 1) := by decide +kernel
theorem d_FT_put_35 : decode b_FT_put 35 = .ok (.i2l, 1) := by decide +kernel
theorem d_FT_put_36 : decode b_FT_put 36 = .ok (.lastore, 1) := by decide +kernel
theorem d_FT_put_37 : decode b_FT_put 37 = .ok (.iconst 1, 1) := by decide +kernel
theorem d_FT_put_38 : decode b_FT_put 38 = .ok (.ireturn, 1) := by decide +kernel
theorem d_FT_at_0 : decode b_FT_at 0 = .ok (.aload_n 0, 1) := by decide +kernel
theorem d_FT_at_1 : decode b_FT_at 1 = .ok (.iload_n 1, 1) := by decide +kernel
theorem d_FT_at_2 : decode b_FT_at 2 = .ok (.iload_n 2, 1) := by decide +kernel
theorem d_FT_at_3 : decode b_FT_at 3 = .ok (.invokevirtual 96, 3) := by decide +kernel
theorem d_FT_at_6 : decode b_FT_at 6 = .ok (.ifCond .eq 17, 3) := by decide +kernel
theorem d_FT_at_9 : decode b_FT_at 9 = .ok (.aload_n 0, 1) := by decide +kernel
theorem d_FT_at_10 : decode b_FT_at 10 = .ok (.getfield 11, 3) := by decide +kernel
theorem d_FT_at_13 : decode b_FT_at 13 = .ok (.iload_n 1, 1) := by decide +kernel
theorem d_FT_at_14 : decode b_FT_at 14 = .ok (.aaload, 1) := by decide +kernel
theorem d_FT_at_15 : decode b_FT_at 15 = .ok (.getfield 168, 3) := by decide +kernel
theorem d_FT_at_18 : decode b_FT_at 18 = .ok (.iload_n 2, 1) := by decide +kernel
theorem d_FT_at_19 : decode b_FT_at 19 = .ok (.laload, 1) := by decide +kernel
theorem d_FT_at_20 : decode b_FT_at 20 = .ok (.goto 6, 3) := by decide +kernel
theorem d_FT_at_23 : decode b_FT_at 23 = .ok (.ldc2_w 171, 3) := by decide +kernel
theorem d_FT_at_26 : decode b_FT_at 26 = .ok (.lreturn, 1) := by decide +kernel
theorem d_FT_open_0 : decode b_FT_open 0 = .ok (.aload_n 0, 1) := by decide +kernel
theorem d_FT_open_1 : decode b_FT_open 1 = .ok (.iload_n 1, 1) := by decide +kernel
theorem d_FT_open_2 : decode b_FT_open 2 = .ok (.invokevirtual 61, 3) := by decide +kernel
theorem d_FT_open_5 : decode b_FT_open 5 = .ok (.ifCond .eq 15, 3) := by decide +kernel
theorem d_FT_open_8 : decode b_FT_open 8 = .ok (.aload_n 0, 1) := by decide +kernel
theorem d_FT_open_9 : decode b_FT_open 9 = .ok (.getfield 11, 3) := by decide +kernel
theorem d_FT_open_12 : decode b_FT_open 12 = .ok (.iload_n 1, 1) := by decide +kernel
theorem d_FT_open_13 : decode b_FT_open 13 = .ok (.aaload, 1) := by decide +kernel
theorem d_FT_open_14 : decode b_FT_open 14 = .ok (.invokevirtual 173, 3) := by decide +kernel
theorem d_FT_open_17 : decode b_FT_open 17 = .ok (.goto 5, 3) := by decide +kernel
theorem d_FT_open_20 : decode b_FT_open 20 = .ok (.bipush (-2), 2) := by decide +kernel
theorem d_FT_open_22 : decode b_FT_open 22 = .ok (.ireturn, 1) := by decide +kernel
theorem d_Lp_openWays_0 : decode b_Lp_openWays 0 = .ok (.iconst 0, 1) := by decide +kernel
theorem d_Lp_openWays_1 : decode b_Lp_openWays 1 = .ok (.istore_n 1, 1) := by decide +kernel
theorem d_Lp_openWays_2 : decode b_Lp_openWays 2 = .ok (.aload_n 0, 1) := by decide +kernel
theorem d_Lp_openWays_3 : decode b_Lp_openWays 3 = .ok (.getfield 14, 3) := by decide +kernel
theorem d_Lp_openWays_6 : decode b_Lp_openWays 6 = .ok (.aload_n 0, 1) := by decide +kernel
theorem d_Lp_openWays_7 : decode b_Lp_openWays 7 = .ok (.getfield 26, 3) := by decide +kernel
theorem d_Lp_openWays_10 : decode b_Lp_openWays 10 = .ok (.invokevirtual 47, 3) := by decide +kernel
theorem d_Lp_openWays_13 : decode b_Lp_openWays 13 = .ok (.ifCond .eq 44, 3) := by decide +kernel
theorem d_Lp_openWays_16 : decode b_Lp_openWays 16 = .ok (.iconst 0, 1) := by decide +kernel
theorem d_Lp_openWays_17 : decode b_Lp_openWays 17 = .ok (.istore_n 2, 1) := by decide +kernel
theorem d_Lp_openWays_18 : decode b_Lp_openWays 18 = .ok (.iload_n 2, 1) := by decide +kernel
theorem d_Lp_openWays_19 : decode b_Lp_openWays 19 = .ok (.aload_n 0, 1) := by decide +kernel
theorem d_Lp_openWays_20 : decode b_Lp_openWays 20 = .ok (.getfield 41, 3) := by decide +kernel
theorem d_Lp_openWays_23 : decode b_Lp_openWays 23 = .ok (.if_icmp .ge 34, 3) := by decide +kernel
theorem d_Lp_openWays_26 : decode b_Lp_openWays 26 = .ok (.aload_n 0, 1) := by decide +kernel
theorem d_Lp_openWays_27 : decode b_Lp_openWays 27 = .ok (.getfield 22, 3) := by decide +kernel
theorem d_Lp_openWays_30 : decode b_Lp_openWays 30 = .ok (.iload_n 2, 1) := by decide +kernel
theorem d_Lp_openWays_31 : decode b_Lp_openWays 31 = .ok (.aaload, 1) := by decide +kernel
theorem d_Lp_openWays_32 : decode b_Lp_openWays 32 = .ok (.getfield 51, 3) := by decide +kernel
theorem d_Lp_openWays_35 : decode b_Lp_openWays 35 = .ok (.aload_n 0, 1) := by decide +kernel
theorem d_Lp_openWays_36 : decode b_Lp_openWays 36 = .ok (.getfield 26, 3) := by decide +kernel
theorem d_Lp_openWays_39 : decode b_Lp_openWays 39 = .ok (.invokevirtual 47, 3) := by decide +kernel
theorem d_Lp_openWays_42 : decode b_Lp_openWays 42 = .ok (.ifCond .eq 9, 3) := by decide +kernel
theorem d_Lp_openWays_45 : decode b_Lp_openWays 45 = .ok (.iload_n 1, 1) := by decide +kernel
theorem d_Lp_openWays_46 : decode b_Lp_openWays 46 = .ok (.iconst 1, 1) := by decide +kernel
theorem d_Lp_openWays_47 : decode b_Lp_openWays 47 = .ok (.iload_n 2, 1) := by decide +kernel
theorem d_Lp_openWays_48 : decode b_Lp_openWays 48 = .ok (.ishl, 1) := by decide +kernel
theorem d_Lp_openWays_49 : decode b_Lp_openWays 49 = .ok (.ior, 1) := by decide +kernel
theorem d_Lp_openWays_50 : decode b_Lp_openWays 50 = .ok (.istore_n 1, 1) := by decide +kernel
theorem d_Lp_openWays_51 : decode b_Lp_openWays 51 = .ok (.iinc 2 1, 3) := by decide +kernel
theorem d_Lp_openWays_54 : decode b_Lp_openWays 54 = .ok (.goto (-36), 3) := by decide +kernel
theorem d_Lp_openWays_57 : decode b_Lp_openWays 57 = .ok (.iload_n 1, 1) := by decide +kernel
theorem d_Lp_openWays_58 : decode b_Lp_openWays 58 = .ok (.ireturn, 1) := by decide +kernel
theorem d_Rw_holdIn_0 : decode b_Rw_holdIn 0 = .ok (.iconst 0, 1) := by decide +kernel
theorem d_Rw_holdIn_1 : decode b_Rw_holdIn 1 = .ok (.istore_n 2, 1) := by decide +kernel
theorem d_Rw_holdIn_2 : decode b_Rw_holdIn 2 = .ok (.iload_n 2, 1) := by decide +kernel
theorem d_Rw_holdIn_3 : decode b_Rw_holdIn 3 = .ok (.aload_n 0, 1) := by decide +kernel
theorem d_Rw_holdIn_4 : decode b_Rw_holdIn 4 = .ok (.getfield 25, 3) := by decide +kernel
theorem d_Rw_holdIn_7 : decode b_Rw_holdIn 7 = .ok (.if_icmp .ge 71, 3) := by decide +kernel
theorem d_Rw_holdIn_10 : decode b_Rw_holdIn 10 = .ok (.iconst 4, 1) := by decide +kernel
theorem d_Rw_holdIn_11 : decode b_Rw_holdIn 11 = .ok (.iload_n 2, 1) := by decide +kernel
theorem d_Rw_holdIn_12 : decode b_Rw_holdIn 12 = .ok (.imul, 1) := by decide +kernel
theorem d_Rw_holdIn_13 : decode b_Rw_holdIn 13 = .ok (.istore_n 3, 1) := by decide +kernel
theorem d_Rw_holdIn_14 : decode b_Rw_holdIn 14 = .ok (.aload_n 0, 1) := by decide +kernel
theorem d_Rw_holdIn_15 : decode b_Rw_holdIn 15 = .ok (.getfield 21, 3) := by decide +kernel
theorem d_Rw_holdIn_18 : decode b_Rw_holdIn 18 = .ok (.iload_n 3, 1) := by decide +kernel
theorem d_Rw_holdIn_19 : decode b_Rw_holdIn 19 = .ok (.iaload, 1) := by decide +kernel
theorem d_Rw_holdIn_20 : decode b_Rw_holdIn 20 = .ok (.i2l, 1) := by decide +kernel
theorem d_Rw_holdIn_21 : decode b_Rw_holdIn 21 = .ok (.aload_n 1, 1) := by decide +kernel
theorem d_Rw_holdIn_22 : decode b_Rw_holdIn 22 = .ok (.iconst 0, 1) := by decide +kernel
theorem d_Rw_holdIn_23 : decode b_Rw_holdIn 23 = .ok (.laload, 1) := by decide +kernel
theorem d_Rw_holdIn_24 : decode b_Rw_holdIn 24 = .ok (.lmul, 1) := by decide +kernel
theorem d_Rw_holdIn_25 : decode b_Rw_holdIn 25 = .ok (.aload_n 0, 1) := by decide +kernel
theorem d_Rw_holdIn_26 : decode b_Rw_holdIn 26 = .ok (.getfield 21, 3) := by decide +kernel
theorem d_Rw_holdIn_29 : decode b_Rw_holdIn 29 = .ok (.iload_n 3, 1) := by decide +kernel
theorem d_Rw_holdIn_30 : decode b_Rw_holdIn 30 = .ok (.iconst 1, 1) := by decide +kernel
theorem d_Rw_holdIn_31 : decode b_Rw_holdIn 31 = .ok (.iadd, 1) := by decide +kernel
theorem d_Rw_holdIn_32 : decode b_Rw_holdIn 32 = .ok (.iaload, 1) := by decide +kernel
theorem d_Rw_holdIn_33 : decode b_Rw_holdIn 33 = .ok (.i2l, 1) := by decide +kernel
theorem d_Rw_holdIn_34 : decode b_Rw_holdIn 34 = .ok (.aload_n 1, 1) := by decide +kernel
theorem d_Rw_holdIn_35 : decode b_Rw_holdIn 35 = .ok (.iconst 1, 1) := by decide +kernel
theorem d_Rw_holdIn_36 : decode b_Rw_holdIn 36 = .ok (.laload, 1) := by decide +kernel
theorem d_Rw_holdIn_37 : decode b_Rw_holdIn 37 = .ok (.lmul, 1) := by decide +kernel
theorem d_Rw_holdIn_38 : decode b_Rw_holdIn 38 = .ok (.ladd, 1) := by decide +kernel
theorem d_Rw_holdIn_39 : decode b_Rw_holdIn 39 = .ok (.aload_n 0, 1) := by decide +kernel
theorem d_Rw_holdIn_40 : decode b_Rw_holdIn 40 = .ok (.getfield 21, 3) := by decide +kernel
theorem d_Rw_holdIn_43 : decode b_Rw_holdIn 43 = .ok (.iload_n 3, 1) := by decide +kernel
theorem d_Rw_holdIn_44 : decode b_Rw_holdIn 44 = .ok (.iconst 2, 1) := by decide +kernel
theorem d_Rw_holdIn_45 : decode b_Rw_holdIn 45 = .ok (.iadd, 1) := by decide +kernel
theorem d_Rw_holdIn_46 : decode b_Rw_holdIn 46 = .ok (.iaload, 1) := by decide +kernel
theorem d_Rw_holdIn_47 : decode b_Rw_holdIn 47 = .ok (.i2l, 1) := by decide +kernel
theorem d_Rw_holdIn_48 : decode b_Rw_holdIn 48 = .ok (.aload_n 1, 1) := by decide +kernel
theorem d_Rw_holdIn_49 : decode b_Rw_holdIn 49 = .ok (.iconst 2, 1) := by decide +kernel
theorem d_Rw_holdIn_50 : decode b_Rw_holdIn 50 = .ok (.laload, 1) := by decide +kernel
theorem d_Rw_holdIn_51 : decode b_Rw_holdIn 51 = .ok (.lmul, 1) := by decide +kernel
theorem d_Rw_holdIn_52 : decode b_Rw_holdIn 52 = .ok (.ladd, 1) := by decide +kernel
theorem d_Rw_holdIn_53 : decode b_Rw_holdIn 53 = .ok (.lstore 4, 2) := by decide +kernel
theorem d_Rw_holdIn_55 : decode b_Rw_holdIn 55 = .ok (.lload 4, 2) := by decide +kernel
theorem d_Rw_holdIn_57 : decode b_Rw_holdIn 57 = .ok (.aload_n 0, 1) := by decide +kernel
theorem d_Rw_holdIn_58 : decode b_Rw_holdIn 58 = .ok (.getfield 21, 3) := by decide +kernel
theorem d_Rw_holdIn_61 : decode b_Rw_holdIn 61 = .ok (.iload_n 3, 1) := by decide +kernel
theorem d_Rw_holdIn_62 : decode b_Rw_holdIn 62 = .ok (.iconst 3, 1) := by decide +kernel
theorem d_Rw_holdIn_63 : decode b_Rw_holdIn 63 = .ok (.iadd, 1) := by decide +kernel
theorem d_Rw_holdIn_64 : decode b_Rw_holdIn 64 = .ok (.iaload, 1) := by decide +kernel
theorem d_Rw_holdIn_65 : decode b_Rw_holdIn 65 = .ok (.i2l, 1) := by decide +kernel
theorem d_Rw_holdIn_66 : decode b_Rw_holdIn 66 = .ok (.lcmp, 1) := by decide +kernel
theorem d_Rw_holdIn_67 : decode b_Rw_holdIn 67 = .ok (.ifCond .ge 5, 3) := by decide +kernel
theorem d_Rw_holdIn_70 : decode b_Rw_holdIn 70 = .ok (.iconst 0, 1) := by decide +kernel
theorem d_Rw_holdIn_71 : decode b_Rw_holdIn 71 = .ok (.ireturn, 1) := by decide +kernel
theorem d_Rw_holdIn_72 : decode b_Rw_holdIn 72 = .ok (.iinc 2 1, 3) := by decide +kernel
theorem d_Rw_holdIn_75 : decode b_Rw_holdIn 75 = .ok (.goto (-73), 3) := by decide +kernel
theorem d_Rw_holdIn_78 : decode b_Rw_holdIn 78 = .ok (.iconst 1, 1) := by decide +kernel
theorem d_Rw_holdIn_79 : decode b_Rw_holdIn 79 = .ok (.ireturn, 1) := by decide +kernel
theorem d_FT_step_0 : decode b_FT_step 0 = .ok (.aload_n 0, 1) := by decide +kernel
theorem d_FT_step_1 : decode b_FT_step 1 = .ok (.iload_n 1, 1) := by decide +kernel
theorem d_FT_step_2 : decode b_FT_step 2 = .ok (.invokevirtual 61, 3) := by decide +kernel
theorem d_FT_step_5 : decode b_FT_step 5 = .ok (.ifCond .eq 24, 3) := by decide +kernel
theorem d_FT_step_8 : decode b_FT_step 8 = .ok (.aload_n 0, 1) := by decide +kernel
theorem d_FT_step_9 : decode b_FT_step 9 = .ok (.getfield 11, 3) := by decide +kernel
theorem d_FT_step_12 : decode b_FT_step 12 = .ok (.iload_n 1, 1) := by decide +kernel
theorem d_FT_step_13 : decode b_FT_step 13 = .ok (.aaload, 1) := by decide +kernel
theorem d_FT_step_14 : decode b_FT_step 14 = .ok (.aload_n 0, 1) := by decide +kernel
theorem d_FT_step_15 : decode b_FT_step 15 = .ok (.getfield 11, 3) := by decide +kernel
theorem d_FT_step_18 : decode b_FT_step 18 = .ok (.iload_n 1, 1) := by decide +kernel
theorem d_FT_step_19 : decode b_FT_step 19 = .ok (.aaload, 1) := by decide +kernel
theorem d_FT_step_20 : decode b_FT_step 20 = .ok (.getfield 168, 3) := by decide +kernel
theorem d_FT_step_23 : decode b_FT_step 23 = .ok (.invokevirtual 176, 3) := by decide +kernel
theorem d_FT_step_26 : decode b_FT_step 26 = .ok (.goto 5, 3) := by decide +kernel
theorem d_FT_step_29 : decode b_FT_step 29 = .ok (.bipush (-2), 2) := by decide +kernel
theorem d_FT_step_31 : decode b_FT_step 31 = .ok (.ireturn, 1) := by decide +kernel
theorem d_Lp_advance_0 : decode b_Lp_advance 0 = .ok (.aload_n 0, 1) := by decide +kernel
theorem d_Lp_advance_1 : decode b_Lp_advance 1 = .ok (.getfield 14, 3) := by decide +kernel
theorem d_Lp_advance_4 : decode b_Lp_advance 4 = .ok (.aload_n 1, 1) := by decide +kernel
theorem d_Lp_advance_5 : decode b_Lp_advance 5 = .ok (.invokevirtual 47, 3) := by decide +kernel
theorem d_Lp_advance_8 : decode b_Lp_advance 8 = .ok (.ifCond .ne 5, 3) := by decide +kernel
theorem d_Lp_advance_11 : decode b_Lp_advance 11 = .ok (.iconst (-1), 1) := by decide +kernel
theorem d_Lp_advance_12 : decode b_Lp_advance 12 = .ok (.ireturn, 1) := by decide +kernel
theorem d_Lp_advance_13 : decode b_Lp_advance 13 = .ok (.iconst 0, 1) := by decide +kernel
theorem d_Lp_advance_14 : decode b_Lp_advance 14 = .ok (.istore_n 2, 1) := by decide +kernel
theorem d_Lp_advance_15 : decode b_Lp_advance 15 = .ok (.iload_n 2, 1) := by decide +kernel
theorem d_Lp_advance_16 : decode b_Lp_advance 16 = .ok (.aload_n 0, 1) := by decide +kernel
theorem d_Lp_advance_17 : decode b_Lp_advance 17 = .ok (.getfield 41, 3) := by decide +kernel
theorem d_Lp_advance_20 : decode b_Lp_advance 20 = .ok (.if_icmp .ge 41, 3) := by decide +kernel
theorem d_Lp_advance_23 : decode b_Lp_advance 23 = .ok (.aload_n 0, 1) := by decide +kernel
theorem d_Lp_advance_24 : decode b_Lp_advance 24 = .ok (.getfield 22, 3) := by decide +kernel
theorem d_Lp_advance_27 : decode b_Lp_advance 27 = .ok (.iload_n 2, 1) := by decide +kernel
theorem d_Lp_advance_28 : decode b_Lp_advance 28 = .ok (.aaload, 1) := by decide +kernel
theorem d_Lp_advance_29 : decode b_Lp_advance 29 = .ok (.getfield 51, 3) := by decide +kernel
theorem d_Lp_advance_32 : decode b_Lp_advance 32 = .ok (.aload_n 1, 1) := by decide +kernel
theorem d_Lp_advance_33 : decode b_Lp_advance 33 = .ok (.invokevirtual 47, 3) := by decide +kernel
theorem d_Lp_advance_36 : decode b_Lp_advance 36 = .ok (.ifCond .eq 19, 3) := by decide +kernel
theorem d_Lp_advance_39 : decode b_Lp_advance 39 = .ok (.aload_n 0, 1) := by decide +kernel
theorem d_Lp_advance_40 : decode b_Lp_advance 40 = .ok (.iload_n 2, 1) := by decide +kernel
theorem d_Lp_advance_41 : decode b_Lp_advance 41 = .ok (.aload_n 1, 1) := by decide +kernel
theorem d_Lp_advance_42 : decode b_Lp_advance 42 = .ok (.invokevirtual 54, 3) := by decide +kernel
theorem d_Lp_advance_45 : decode b_Lp_advance 45 = .ok (.ifCond .eq 7, 3) := by decide +kernel
theorem d_Lp_advance_48 : decode b_Lp_advance 48 = .ok (.iload_n 2, 1) := by decide +kernel
theorem d_Lp_advance_49 : decode b_Lp_advance 49 = .ok (.goto 5, 3) := by decide +kernel
theorem d_Lp_advance_52 : decode b_Lp_advance 52 = .ok (.bipush (-5), 2) := by decide +kernel
theorem d_Lp_advance_54 : decode b_Lp_advance 54 = .ok (.ireturn, 1) := by decide +kernel
theorem d_Lp_advance_55 : decode b_Lp_advance 55 = .ok (.iinc 2 1, 3) := by decide +kernel
theorem d_Lp_advance_58 : decode b_Lp_advance 58 = .ok (.goto (-43), 3) := by decide +kernel
theorem d_Lp_advance_61 : decode b_Lp_advance 61 = .ok (.iconst (-1), 1) := by decide +kernel
theorem d_Lp_advance_62 : decode b_Lp_advance 62 = .ok (.ireturn, 1) := by decide +kernel
theorem d_Lp_change_0 : decode b_Lp_change 0 = .ok (.aload_n 0, 1) := by decide +kernel
theorem d_Lp_change_1 : decode b_Lp_change 1 = .ok (.getfield 22, 3) := by decide +kernel
theorem d_Lp_change_4 : decode b_Lp_change 4 = .ok (.iload_n 1, 1) := by decide +kernel
theorem d_Lp_change_5 : decode b_Lp_change 5 = .ok (.aaload, 1) := by decide +kernel
theorem d_Lp_change_6 : decode b_Lp_change 6 = .ok (.aload_n 2, 1) := by decide +kernel
theorem d_Lp_change_7 : decode b_Lp_change 7 = .ok (.aload_n 0, 1) := by decide +kernel
theorem d_Lp_change_8 : decode b_Lp_change 8 = .ok (.getfield 30, 3) := by decide +kernel
theorem d_Lp_change_11 : decode b_Lp_change 11 = .ok (.invokevirtual 58, 3) := by decide +kernel
theorem d_Lp_change_14 : decode b_Lp_change 14 = .ok (.ifCond .ne 5, 3) := by decide +kernel
theorem d_Lp_change_17 : decode b_Lp_change 17 = .ok (.iconst 0, 1) := by decide +kernel
theorem d_Lp_change_18 : decode b_Lp_change 18 = .ok (.ireturn, 1) := by decide +kernel
theorem d_Lp_change_19 : decode b_Lp_change 19 = .ok (.aload_n 0, 1) := by decide +kernel
theorem d_Lp_change_20 : decode b_Lp_change 20 = .ok (.getfield 30, 3) := by decide +kernel
theorem d_Lp_change_23 : decode b_Lp_change 23 = .ok (.aload_n 2, 1) := by decide +kernel
theorem d_Lp_change_24 : decode b_Lp_change 24 = .ok (.invokestatic 62, 3) := by decide +kernel
theorem d_Lp_change_27 : decode b_Lp_change 27 = .ok (.iconst 1, 1) := by decide +kernel
theorem d_Lp_change_28 : decode b_Lp_change 28 = .ok (.ireturn, 1) := by decide +kernel
theorem d_Wy_leads_0 : decode b_Wy_leads 0 = .ok (.iconst 0, 1) := by decide +kernel
theorem d_Wy_leads_1 : decode b_Wy_leads 1 = .ok (.istore_n 3, 1) := by decide +kernel
theorem d_Wy_leads_2 : decode b_Wy_leads 2 = .ok (.iload_n 3, 1) := by decide +kernel
theorem d_Wy_leads_3 : decode b_Wy_leads 3 = .ok (.iconst 3, 1) := by decide +kernel
theorem d_Wy_leads_4 : decode b_Wy_leads 4 = .ok (.if_icmp .ge 91, 3) := by decide +kernel
theorem d_Wy_leads_7 : decode b_Wy_leads 7 = .ok (.iconst 3, 1) := by decide +kernel
theorem d_Wy_leads_8 : decode b_Wy_leads 8 = .ok (.iload_n 3, 1) := by decide +kernel
theorem d_Wy_leads_9 : decode b_Wy_leads 9 = .ok (.imul, 1) := by decide +kernel
theorem d_Wy_leads_10 : decode b_Wy_leads 10 = .ok (.istore 4, 2) := by decide +kernel
theorem d_Wy_leads_12 : decode b_Wy_leads 12 = .ok (.aload_n 0, 1) := by decide +kernel
theorem d_Wy_leads_13 : decode b_Wy_leads 13 = .ok (.getfield 20, 3) := by decide +kernel
theorem d_Wy_leads_16 : decode b_Wy_leads 16 = .ok (.iload 4, 2) := by decide +kernel
theorem d_Wy_leads_18 : decode b_Wy_leads 18 = .ok (.iaload, 1) := by decide +kernel
theorem d_Wy_leads_19 : decode b_Wy_leads 19 = .ok (.i2l, 1) := by decide +kernel
theorem d_Wy_leads_20 : decode b_Wy_leads 20 = .ok (.aload_n 1, 1) := by decide +kernel
theorem d_Wy_leads_21 : decode b_Wy_leads 21 = .ok (.iconst 0, 1) := by decide +kernel
theorem d_Wy_leads_22 : decode b_Wy_leads 22 = .ok (.laload, 1) := by decide +kernel
theorem d_Wy_leads_23 : decode b_Wy_leads 23 = .ok (.lmul, 1) := by decide +kernel
theorem d_Wy_leads_24 : decode b_Wy_leads 24 = .ok (.aload_n 0, 1) := by decide +kernel
theorem d_Wy_leads_25 : decode b_Wy_leads 25 = .ok (.getfield 20, 3) := by decide +kernel
theorem d_Wy_leads_28 : decode b_Wy_leads 28 = .ok (.iload 4, 2) := by decide +kernel
theorem d_Wy_leads_30 : decode b_Wy_leads 30 = .ok (.iconst 1, 1) := by decide +kernel
theorem d_Wy_leads_31 : decode b_Wy_leads 31 = .ok (.iadd, 1) := by decide +kernel
theorem d_Wy_leads_32 : decode b_Wy_leads 32 = .ok (.iaload, 1) := by decide +kernel
theorem d_Wy_leads_33 : decode b_Wy_leads 33 = .ok (.i2l, 1) := by decide +kernel
theorem d_Wy_leads_34 : decode b_Wy_leads 34 = .ok (.aload_n 1, 1) := by decide +kernel
theorem d_Wy_leads_35 : decode b_Wy_leads 35 = .ok (.iconst 1, 1) := by decide +kernel
theorem d_Wy_leads_36 : decode b_Wy_leads 36 = .ok (.laload, 1) := by decide +kernel
theorem d_Wy_leads_37 : decode b_Wy_leads 37 = .ok (.lmul, 1) := by decide +kernel
theorem d_Wy_leads_38 : decode b_Wy_leads 38 = .ok (.ladd, 1) := by decide +kernel
theorem d_Wy_leads_39 : decode b_Wy_leads 39 = .ok (.aload_n 0, 1) := by decide +kernel
theorem d_Wy_leads_40 : decode b_Wy_leads 40 = .ok (.getfield 20, 3) := by decide +kernel
theorem d_Wy_leads_43 : decode b_Wy_leads 43 = .ok (.iload 4, 2) := by decide +kernel
theorem d_Wy_leads_45 : decode b_Wy_leads 45 = .ok (.iconst 2, 1) := by decide +kernel
theorem d_Wy_leads_46 : decode b_Wy_leads 46 = .ok (.iadd, 1) := by decide +kernel
theorem d_Wy_leads_47 : decode b_Wy_leads 47 = .ok (.iaload, 1) := by decide +kernel
theorem d_Wy_leads_48 : decode b_Wy_leads 48 = .ok (.i2l, 1) := by decide +kernel
theorem d_Wy_leads_49 : decode b_Wy_leads 49 = .ok (.aload_n 1, 1) := by decide +kernel
theorem d_Wy_leads_50 : decode b_Wy_leads 50 = .ok (.iconst 2, 1) := by decide +kernel
theorem d_Wy_leads_51 : decode b_Wy_leads 51 = .ok (.laload, 1) := by decide +kernel
theorem d_Wy_leads_52 : decode b_Wy_leads 52 = .ok (.lmul, 1) := by decide +kernel
theorem d_Wy_leads_53 : decode b_Wy_leads 53 = .ok (.ladd, 1) := by decide +kernel
theorem d_Wy_leads_54 : decode b_Wy_leads 54 = .ok (.aload_n 0, 1) := by decide +kernel
theorem d_Wy_leads_55 : decode b_Wy_leads 55 = .ok (.getfield 24, 3) := by decide +kernel
theorem d_Wy_leads_58 : decode b_Wy_leads 58 = .ok (.iload_n 3, 1) := by decide +kernel
theorem d_Wy_leads_59 : decode b_Wy_leads 59 = .ok (.iaload, 1) := by decide +kernel
theorem d_Wy_leads_60 : decode b_Wy_leads 60 = .ok (.i2l, 1) := by decide +kernel
theorem d_Wy_leads_61 : decode b_Wy_leads 61 = .ok (.ladd, 1) := by decide +kernel
theorem d_Wy_leads_62 : decode b_Wy_leads 62 = .ok (.lstore 5, 2) := by decide +kernel
theorem d_Wy_leads_64 : decode b_Wy_leads 64 = .ok (.lload 5, 2) := by decide +kernel
theorem d_Wy_leads_66 : decode b_Wy_leads 66 = .ok (.ldc2_w 31, 3) := by decide +kernel
theorem d_Wy_leads_69 : decode b_Wy_leads 69 = .ok (.lcmp, 1) := by decide +kernel
theorem d_Wy_leads_70 : decode b_Wy_leads 70 = .ok (.ifCond .gt 12, 3) := by decide +kernel
theorem d_Wy_leads_73 : decode b_Wy_leads 73 = .ok (.lload 5, 2) := by decide +kernel
theorem d_Wy_leads_75 : decode b_Wy_leads 75 = .ok (.ldc2_w 33, 3) := by decide +kernel
theorem d_Wy_leads_78 : decode b_Wy_leads 78 = .ok (.lcmp, 1) := by decide +kernel
theorem d_Wy_leads_79 : decode b_Wy_leads 79 = .ok (.ifCond .ge 5, 3) := by decide +kernel
theorem d_Wy_leads_82 : decode b_Wy_leads 82 = .ok (.iconst 0, 1) := by decide +kernel
theorem d_Wy_leads_83 : decode b_Wy_leads 83 = .ok (.ireturn, 1) := by decide +kernel
theorem d_Wy_leads_84 : decode b_Wy_leads 84 = .ok (.aload_n 2, 1) := by decide +kernel
theorem d_Wy_leads_85 : decode b_Wy_leads 85 = .ok (.iload_n 3, 1) := by decide +kernel
theorem d_Wy_leads_86 : decode b_Wy_leads 86 = .ok (.lload 5, 2) := by decide +kernel
theorem d_Wy_leads_88 : decode b_Wy_leads 88 = .ok (.lastore, 1) := by decide +kernel
theorem d_Wy_leads_89 : decode b_Wy_leads 89 = .ok (.iinc 3 1, 3) := by decide +kernel
theorem d_Wy_leads_92 : decode b_Wy_leads 92 = .ok (.goto (-90), 3) := by decide +kernel
theorem d_Wy_leads_95 : decode b_Wy_leads 95 = .ok (.iconst 1, 1) := by decide +kernel
theorem d_Wy_leads_96 : decode b_Wy_leads 96 = .ok (.ireturn, 1) := by decide +kernel
theorem d_FT_copyState_0 : decode b_FT_copyState 0 = .ok (.iconst 0, 1) := by decide +kernel
theorem d_FT_copyState_1 : decode b_FT_copyState 1 = .ok (.istore_n 2, 1) := by decide +kernel
theorem d_FT_copyState_2 : decode b_FT_copyState 2 = .ok (.iload_n 2, 1) := by decide +kernel
theorem d_FT_copyState_3 : decode b_FT_copyState 3 = .ok (.iconst 3, 1) := by decide +kernel
theorem d_FT_copyState_4 : decode b_FT_copyState 4 = .ok (.if_icmp .ge 15, 3) := by decide +kernel
theorem d_FT_copyState_7 : decode b_FT_copyState 7 = .ok (.aload_n 1, 1) := by decide +kernel
theorem d_FT_copyState_8 : decode b_FT_copyState 8 = .ok (.iload_n 2, 1) := by decide +kernel
theorem d_FT_copyState_9 : decode b_FT_copyState 9 = .ok (.aload_n 0, 1) := by decide +kernel
theorem d_FT_copyState_10 : decode b_FT_copyState 10 = .ok (.iload_n 2, 1) := by decide +kernel
theorem d_FT_copyState_11 : decode b_FT_copyState 11 = .ok (.laload, 1) := by decide +kernel
theorem d_FT_copyState_12 : decode b_FT_copyState 12 = .ok (.lastore, 1) := by decide +kernel
theorem d_FT_copyState_13 : decode b_FT_copyState 13 = .ok (.iinc 2 1, 3) := by decide +kernel
theorem d_FT_copyState_16 : decode b_FT_copyState 16 = .ok (.goto (-14), 3) := by decide +kernel
theorem d_FT_copyState_19 : decode b_FT_copyState 19 = .ok (.return_, 1) := by decide +kernel
theorem d_FT_go_0 : decode b_FT_go 0 = .ok (.aload_n 0, 1) := by decide +kernel
theorem d_FT_go_1 : decode b_FT_go 1 = .ok (.iload_n 1, 1) := by decide +kernel
theorem d_FT_go_2 : decode b_FT_go 2 = .ok (.iload_n 2, 1) := by decide +kernel
theorem d_FT_go_3 : decode b_FT_go 3 = .ok (.invokevirtual 83, 3) := by decide +kernel
theorem d_FT_go_6 : decode b_FT_go 6 = .ok (.ifCond .ne 6, 3) := by decide +kernel
theorem d_FT_go_9 : decode b_FT_go 9 = .ok (.bipush (-2), 2) := by decide +kernel
theorem d_FT_go_11 : decode b_FT_go 11 = .ok (.ireturn, 1) := by decide +kernel
theorem d_FT_go_12 : decode b_FT_go 12 = .ok (.aload_n 0, 1) := by decide +kernel
theorem d_FT_go_13 : decode b_FT_go 13 = .ok (.getfield 11, 3) := by decide +kernel
theorem d_FT_go_16 : decode b_FT_go 16 = .ok (.iload_n 1, 1) := by decide +kernel
theorem d_FT_go_17 : decode b_FT_go 17 = .ok (.aaload, 1) := by decide +kernel
theorem d_FT_go_18 : decode b_FT_go 18 = .ok (.astore_n 3, 1) := by decide +kernel
theorem d_FT_go_19 : decode b_FT_go 19 = .ok (.aload_n 3, 1) := by decide +kernel
theorem d_FT_go_20 : decode b_FT_go 20 = .ok (.invokevirtual 173, 3) := by decide +kernel
theorem d_FT_go_23 : decode b_FT_go 23 = .ok (.iload_n 2, 1) := by decide +kernel
theorem d_FT_go_24 : decode b_FT_go 24 = .ok (.ishr, 1) := by decide +kernel
theorem d_FT_go_25 : decode b_FT_go 25 = .ok (.iconst 1, 1) := by decide +kernel
theorem d_FT_go_26 : decode b_FT_go 26 = .ok (.iand, 1) := by decide +kernel
theorem d_FT_go_27 : decode b_FT_go 27 = .ok (.ifCond .ne 5, 3) := by decide +kernel
theorem d_FT_go_30 : decode b_FT_go 30 = .ok (.iconst 0, 1) := by decide +kernel
theorem d_FT_go_31 : decode b_FT_go 31 = .ok (.ireturn, 1) := by decide +kernel
theorem d_FT_go_32 : decode b_FT_go 32 = .ok (.aload_n 3, 1) := by decide +kernel
theorem d_FT_go_33 : decode b_FT_go 33 = .ok (.iload_n 2, 1) := by decide +kernel
theorem d_FT_go_34 : decode b_FT_go 34 = .ok (.aload_n 3, 1) := by decide +kernel
theorem d_FT_go_35 : decode b_FT_go 35 = .ok (.getfield 168, 3) := by decide +kernel
theorem d_FT_go_38 : decode b_FT_go 38 = .ok (.invokevirtual 180, 3) := by decide +kernel
theorem d_FT_go_41 : decode b_FT_go 41 = .ok (.ifCond .eq 7, 3) := by decide +kernel
theorem d_FT_go_44 : decode b_FT_go 44 = .ok (.iconst 1, 1) := by decide +kernel
theorem d_FT_go_45 : decode b_FT_go 45 = .ok (.goto 5, 3) := by decide +kernel
theorem d_FT_go_48 : decode b_FT_go 48 = .ok (.bipush (-5), 2) := by decide +kernel
theorem d_FT_go_50 : decode b_FT_go 50 = .ok (.ireturn, 1) := by decide +kernel
theorem d_FT_walk_0 : decode b_FT_walk 0 = .ok (.aload_n 0, 1) := by decide +kernel
theorem d_FT_walk_1 : decode b_FT_walk 1 = .ok (.iload_n 1, 1) := by decide +kernel
theorem d_FT_walk_2 : decode b_FT_walk 2 = .ok (.invokevirtual 61, 3) := by decide +kernel
theorem d_FT_walk_5 : decode b_FT_walk 5 = .ok (.ifCond .ne 6, 3) := by decide +kernel
theorem d_FT_walk_8 : decode b_FT_walk 8 = .ok (.bipush (-2), 2) := by decide +kernel
theorem d_FT_walk_10 : decode b_FT_walk 10 = .ok (.ireturn, 1) := by decide +kernel
theorem d_FT_walk_11 : decode b_FT_walk 11 = .ok (.iload_n 2, 1) := by decide +kernel
theorem d_FT_walk_12 : decode b_FT_walk 12 = .ok (.ifCond .lt 10, 3) := by decide +kernel
theorem d_FT_walk_15 : decode b_FT_walk 15 = .ok (.iload_n 2, 1) := by decide +kernel
theorem d_FT_walk_16 : decode b_FT_walk 16 = .ok (.sipush 1000, 3) := by decide +kernel
theorem d_FT_walk_19 : decode b_FT_walk 19 = .ok (.if_icmp .le 6, 3) := by decide +kernel
theorem d_FT_walk_22 : decode b_FT_walk 22 = .ok (.bipush (-3), 2) := by decide +kernel
theorem d_FT_walk_24 : decode b_FT_walk 24 = .ok (.ireturn, 1) := by decide +kernel
theorem d_FT_walk_25 : decode b_FT_walk 25 = .ok (.aload_n 0, 1) := by decide +kernel
theorem d_FT_walk_26 : decode b_FT_walk 26 = .ok (.getfield 11, 3) := by decide +kernel
theorem d_FT_walk_29 : decode b_FT_walk 29 = .ok (.iload_n 1, 1) := by decide +kernel
theorem d_FT_walk_30 : decode b_FT_walk 30 = .ok (.aaload, 1) := by decide +kernel
theorem d_FT_walk_31 : decode b_FT_walk 31 = .ok (.astore_n 3, 1) := by decide +kernel
theorem d_FT_walk_32 : decode b_FT_walk 32 = .ok (.iconst 0, 1) := by decide +kernel
theorem d_FT_walk_33 : decode b_FT_walk 33 = .ok (.istore 4, 2) := by decide +kernel
theorem d_FT_walk_35 : decode b_FT_walk 35 = .ok (.iload 4, 2) := by decide +kernel
theorem d_FT_walk_37 : decode b_FT_walk 37 = .ok (.iload_n 2, 1) := by decide +kernel
theorem d_FT_walk_38 : decode b_FT_walk 38 = .ok (.if_icmp .ge 23, 3) := by decide +kernel
theorem d_FT_walk_41 : decode b_FT_walk 41 = .ok (.aload_n 3, 1) := by decide +kernel
theorem d_FT_walk_42 : decode b_FT_walk 42 = .ok (.aload_n 3, 1) := by decide +kernel
theorem d_FT_walk_43 : decode b_FT_walk 43 = .ok (.getfield 168, 3) := by decide +kernel
theorem d_FT_walk_46 : decode b_FT_walk 46 = .ok (.invokevirtual 176, 3) := by decide +kernel
theorem d_FT_walk_49 : decode b_FT_walk 49 = .ok (.ifCond .ge 6, 3) := by decide +kernel
theorem d_FT_walk_52 : decode b_FT_walk 52 = .ok (.iload 4, 2) := by decide +kernel
theorem d_FT_walk_54 : decode b_FT_walk 54 = .ok (.ireturn, 1) := by decide +kernel
theorem d_FT_walk_55 : decode b_FT_walk 55 = .ok (.iinc 4 1, 3) := by decide +kernel
theorem d_FT_walk_58 : decode b_FT_walk 58 = .ok (.goto (-23), 3) := by decide +kernel
theorem d_FT_walk_61 : decode b_FT_walk 61 = .ok (.iload_n 2, 1) := by decide +kernel
theorem d_FT_walk_62 : decode b_FT_walk 62 = .ok (.ireturn, 1) := by decide +kernel
theorem d_FT_ring_0 : decode b_FT_ring 0 = .ok (.aload_n 0, 1) := by decide +kernel
theorem d_FT_ring_1 : decode b_FT_ring 1 = .ok (.iload_n 1, 1) := by decide +kernel
theorem d_FT_ring_2 : decode b_FT_ring 2 = .ok (.invokevirtual 61, 3) := by decide +kernel
theorem d_FT_ring_5 : decode b_FT_ring 5 = .ok (.ifCond .ne 6, 3) := by decide +kernel
theorem d_FT_ring_8 : decode b_FT_ring 8 = .ok (.bipush (-2), 2) := by decide +kernel
theorem d_FT_ring_10 : decode b_FT_ring 10 = .ok (.ireturn, 1) := by decide +kernel
theorem d_FT_ring_11 : decode b_FT_ring 11 = .ok (.iload_n 2, 1) := by decide +kernel
theorem d_FT_ring_12 : decode b_FT_ring 12 = .ok (.ifCond .lt 9, 3) := by decide +kernel
theorem d_FT_ring_15 : decode b_FT_ring 15 = .ok (.iload_n 2, 1) := by decide +kernel
theorem d_FT_ring_16 : decode b_FT_ring 16 = .ok (.bipush 6, 2) := by decide +kernel
theorem d_FT_ring_18 : decode b_FT_ring 18 = .ok (.if_icmp .le 6, 3) := by decide +kernel
theorem d_FT_ring_21 : decode b_FT_ring 21 = .ok (.bipush (-3), 2) := by decide +kernel
theorem d_FT_ring_23 : decode b_FT_ring 23 = .ok (.ireturn, 1) := by decide +kernel
theorem d_FT_ring_24 : decode b_FT_ring 24 = .ok (.aload_n 0, 1) := by decide +kernel
theorem d_FT_ring_25 : decode b_FT_ring 25 = .ok (.getfield 11, 3) := by decide +kernel
theorem d_FT_ring_28 : decode b_FT_ring 28 = .ok (.iload_n 1, 1) := by decide +kernel
theorem d_FT_ring_29 : decode b_FT_ring 29 = .ok (.aaload, 1) := by decide +kernel
theorem d_FT_ring_30 : decode b_FT_ring 30 = .ok (.astore_n 3, 1) := by decide +kernel
theorem d_FT_ring_31 : decode b_FT_ring 31 = .ok (.aload_n 3, 1) := by decide +kernel
theorem d_FT_ring_32 : decode b_FT_ring 32 = .ok (.iconst 1, 1) := by decide +kernel
theorem d_FT_ring_33 : decode b_FT_ring 33 = .ok (.iload_n 2, 1) := by decide +kernel
theorem d_FT_ring_34 : decode b_FT_ring 34 = .ok (.invokevirtual 159, 3) := by decide +kernel
theorem d_FT_ring_37 : decode b_FT_ring 37 = .ok (.istore 4, 2) := by decide +kernel
theorem d_FT_ring_39 : decode b_FT_ring 39 = .ok (.aload_n 3, 1) := by decide +kernel
theorem d_FT_ring_40 : decode b_FT_ring 40 = .ok (.iconst 2, 1) := by decide +kernel
theorem d_FT_ring_41 : decode b_FT_ring 41 = .ok (.iload_n 2, 1) := by decide +kernel
theorem d_FT_ring_42 : decode b_FT_ring 42 = .ok (.invokevirtual 159, 3) := by decide +kernel
theorem d_FT_ring_45 : decode b_FT_ring 45 = .ok (.istore 5, 2) := by decide +kernel
theorem d_FT_ring_47 : decode b_FT_ring 47 = .ok (.iload_n 2, 1) := by decide +kernel
theorem d_FT_ring_48 : decode b_FT_ring 48 = .ok (.ineg, 1) := by decide +kernel
theorem d_FT_ring_49 : decode b_FT_ring 49 = .ok (.istore 6, 2) := by decide +kernel
theorem d_FT_ring_51 : decode b_FT_ring 51 = .ok (.iload 6, 2) := by decide +kernel
theorem d_FT_ring_53 : decode b_FT_ring 53 = .ok (.iload_n 2, 1) := by decide +kernel
theorem d_FT_ring_54 : decode b_FT_ring 54 = .ok (.if_icmp .gt 77, 3) := by decide +kernel
theorem d_FT_ring_57 : decode b_FT_ring 57 = .ok (.iload 4, 2) := by decide +kernel
theorem d_FT_ring_59 : decode b_FT_ring 59 = .ok (.ineg, 1) := by decide +kernel
theorem d_FT_ring_60 : decode b_FT_ring 60 = .ok (.istore 7, 2) := by decide +kernel
theorem d_FT_ring_62 : decode b_FT_ring 62 = .ok (.iload 7, 2) := by decide +kernel
theorem d_FT_ring_64 : decode b_FT_ring 64 = .ok (.iload 4, 2) := by decide +kernel
theorem d_FT_ring_66 : decode b_FT_ring 66 = .ok (.if_icmp .gt 59, 3) := by decide +kernel
theorem d_FT_ring_69 : decode b_FT_ring 69 = .ok (.iload 5, 2) := by decide +kernel
theorem d_FT_ring_71 : decode b_FT_ring 71 = .ok (.ineg, 1) := by decide +kernel
theorem d_FT_ring_72 : decode b_FT_ring 72 = .ok (.istore 8, 2) := by decide +kernel
theorem d_FT_ring_74 : decode b_FT_ring 74 = .ok (.iload 8, 2) := by decide +kernel
