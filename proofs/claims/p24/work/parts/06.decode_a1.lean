theorem d_Md_space_122 : decode b_Md_space 122 = .ok (.getfield 25, 3) := by decide +kernel
theorem d_Md_space_125 : decode b_Md_space 125 = .ok (.iload 6, 2) := by decide +kernel
theorem d_Md_space_127 : decode b_Md_space 127 = .ok (.iconst 1, 1) := by decide +kernel
theorem d_Md_space_128 : decode b_Md_space 128 = .ok (.iadd, 1) := by decide +kernel
theorem d_Md_space_129 : decode b_Md_space 129 = .ok (.iaload, 1) := by decide +kernel
theorem d_Md_space_130 : decode b_Md_space 130 = .ok (.i2l, 1) := by decide +kernel
theorem d_Md_space_131 : decode b_Md_space 131 = .ok (.aload_n 0, 1) := by decide +kernel
theorem d_Md_space_132 : decode b_Md_space 132 = .ok (.getfield 25, 3) := by decide +kernel
theorem d_Md_space_135 : decode b_Md_space 135 = .ok (.iload 6, 2) := by decide +kernel
theorem d_Md_space_137 : decode b_Md_space 137 = .ok (.iconst 2, 1) := by decide +kernel
theorem d_Md_space_138 : decode b_Md_space 138 = .ok (.iadd, 1) := by decide +kernel
theorem d_Md_space_139 : decode b_Md_space 139 = .ok (.iaload, 1) := by decide +kernel
theorem d_Md_space_140 : decode b_Md_space 140 = .ok (.i2l, 1) := by decide +kernel
theorem d_Md_space_141 : decode b_Md_space 141 = .ok (.aload_n 0, 1) := by decide +kernel
theorem d_Md_space_142 : decode b_Md_space 142 = .ok (.getfield 25, 3) := by decide +kernel
theorem d_Md_space_145 : decode b_Md_space 145 = .ok (.iload 6, 2) := by decide +kernel
theorem d_Md_space_147 : decode b_Md_space 147 = .ok (.iconst 3, 1) := by decide +kernel
theorem d_Md_space_148 : decode b_Md_space 148 = .ok (.iadd, 1) := by decide +kernel
theorem d_Md_space_149 : decode b_Md_space 149 = .ok (.iaload, 1) := by decide +kernel
theorem d_Md_space_150 : decode b_Md_space 150 = .ok (.i2l, 1) := by decide +kernel
theorem d_Md_space_151 : decode b_Md_space 151 = .ok (.invokevirtual 102, 3) := by decide +kernel
theorem d_Md_space_154 : decode b_Md_space 154 = .ok (.iinc 5 1, 3) := by decide +kernel
theorem d_Md_space_157 : decode b_Md_space 157 = .ok (.goto (-69), 3) := by decide +kernel
theorem d_Md_space_160 : decode b_Md_space 160 = .ok (.iload_n 3, 1) := by decide +kernel
theorem d_Md_space_161 : decode b_Md_space 161 = .ok (.ifCond .eq 23, 3) := by decide +kernel
theorem d_Md_space_164 : decode b_Md_space 164 = .ok (.aload_n 0, 1) := by decide +kernel
theorem d_Md_space_165 : decode b_Md_space 165 = .ok (.aload_n 0, 1) := by decide +kernel
theorem d_Md_space_166 : decode b_Md_space 166 = .ok (.getfield 106, 3) := by decide +kernel
theorem d_Md_space_169 : decode b_Md_space 169 = .ok (.aload_n 0, 1) := by decide +kernel
theorem d_Md_space_170 : decode b_Md_space 170 = .ok (.getfield 110, 3) := by decide +kernel
theorem d_Md_space_173 : decode b_Md_space 173 = .ok (.aload_n 0, 1) := by decide +kernel
theorem d_Md_space_174 : decode b_Md_space 174 = .ok (.getfield 113, 3) := by decide +kernel
theorem d_Md_space_177 : decode b_Md_space 177 = .ok (.aload_n 0, 1) := by decide +kernel
theorem d_Md_space_178 : decode b_Md_space 178 = .ok (.getfield 116, 3) := by decide +kernel
theorem d_Md_space_181 : decode b_Md_space 181 = .ok (.invokevirtual 102, 3) := by decide +kernel
theorem d_Md_space_184 : decode b_Md_space 184 = .ok (.return_, 1) := by decide +kernel
theorem d_Md_comes_0 : decode b_Md_comes 0 = .ok (.aload_n 0, 1) := by decide +kernel
theorem d_Md_comes_1 : decode b_Md_comes 1 = .ok (.getfield 44, 3) := by decide +kernel
theorem d_Md_comes_4 : decode b_Md_comes 4 = .ok (.aload_n 0, 1) := by decide +kernel
theorem d_Md_comes_5 : decode b_Md_comes 5 = .ok (.getfield 99, 3) := by decide +kernel
theorem d_Md_comes_8 : decode b_Md_comes 8 = .ok (.lload_n 1, 1) := by decide +kernel
theorem d_Md_comes_9 : decode b_Md_comes 9 = .ok (.lastore, 1) := by decide +kernel
theorem d_Md_comes_10 : decode b_Md_comes 10 = .ok (.aload_n 0, 1) := by decide +kernel
theorem d_Md_comes_11 : decode b_Md_comes 11 = .ok (.getfield 47, 3) := by decide +kernel
theorem d_Md_comes_14 : decode b_Md_comes 14 = .ok (.aload_n 0, 1) := by decide +kernel
theorem d_Md_comes_15 : decode b_Md_comes 15 = .ok (.getfield 99, 3) := by decide +kernel
theorem d_Md_comes_18 : decode b_Md_comes 18 = .ok (.lload_n 3, 1) := by decide +kernel
theorem d_Md_comes_19 : decode b_Md_comes 19 = .ok (.lastore, 1) := by decide +kernel
theorem d_Md_comes_20 : decode b_Md_comes 20 = .ok (.aload_n 0, 1) := by decide +kernel
theorem d_Md_comes_21 : decode b_Md_comes 21 = .ok (.getfield 50, 3) := by decide +kernel
theorem d_Md_comes_24 : decode b_Md_comes 24 = .ok (.aload_n 0, 1) := by decide +kernel
theorem d_Md_comes_25 : decode b_Md_comes 25 = .ok (.getfield 99, 3) := by decide +kernel
theorem d_Md_comes_28 : decode b_Md_comes 28 = .ok (.lload 5, 2) := by decide +kernel
theorem d_Md_comes_30 : decode b_Md_comes 30 = .ok (.lastore, 1) := by decide +kernel
theorem d_Md_comes_31 : decode b_Md_comes 31 = .ok (.aload_n 0, 1) := by decide +kernel
theorem d_Md_comes_32 : decode b_Md_comes 32 = .ok (.getfield 53, 3) := by decide +kernel
theorem d_Md_comes_35 : decode b_Md_comes 35 = .ok (.aload_n 0, 1) := by decide +kernel
theorem d_Md_comes_36 : decode b_Md_comes 36 = .ok (.getfield 99, 3) := by decide +kernel
theorem d_Md_comes_39 : decode b_Md_comes 39 = .ok (.lload 7, 2) := by decide +kernel
theorem d_Md_comes_41 : decode b_Md_comes 41 = .ok (.lastore, 1) := by decide +kernel
theorem d_Md_comes_42 : decode b_Md_comes 42 = .ok (.aload_n 0, 1) := by decide +kernel
theorem d_Md_comes_43 : decode b_Md_comes 43 = .ok (.dup, 1) := by decide +kernel
theorem d_Md_comes_44 : decode b_Md_comes 44 = .ok (.getfield 99, 3) := by decide +kernel
theorem d_Md_comes_47 : decode b_Md_comes 47 = .ok (.iconst 1, 1) := by decide +kernel
theorem d_Md_comes_48 : decode b_Md_comes 48 = .ok (.iadd, 1) := by decide +kernel
theorem d_Md_comes_49 : decode b_Md_comes 49 = .ok (.putfield 99, 3) := by decide +kernel
theorem d_Md_comes_52 : decode b_Md_comes 52 = .ok (.return_, 1) := by decide +kernel
theorem d_Md_isNothing_0 : decode b_Md_isNothing 0 = .ok (.iconst 0, 1) := by decide +kernel
theorem d_Md_isNothing_1 : decode b_Md_isNothing 1 = .ok (.istore_n 1, 1) := by decide +kernel
theorem d_Md_isNothing_2 : decode b_Md_isNothing 2 = .ok (.iload_n 1, 1) := by decide +kernel
theorem d_Md_isNothing_3 : decode b_Md_isNothing 3 = .ok (.aload_n 0, 1) := by decide +kernel
theorem d_Md_isNothing_4 : decode b_Md_isNothing 4 = .ok (.getfield 99, 3) := by decide +kernel
theorem d_Md_isNothing_7 : decode b_Md_isNothing 7 = .ok (.if_icmp .ge 68, 3) := by decide +kernel
theorem d_Md_isNothing_10 : decode b_Md_isNothing 10 = .ok (.aload_n 0, 1) := by decide +kernel
theorem d_Md_isNothing_11 : decode b_Md_isNothing 11 = .ok (.aload_n 0, 1) := by decide +kernel
theorem d_Md_isNothing_12 : decode b_Md_isNothing 12 = .ok (.getfield 44, 3) := by decide +kernel
theorem d_Md_isNothing_15 : decode b_Md_isNothing 15 = .ok (.iload_n 1, 1) := by decide +kernel
theorem d_Md_isNothing_16 : decode b_Md_isNothing 16 = .ok (.laload, 1) := by decide +kernel
theorem d_Md_isNothing_17 : decode b_Md_isNothing 17 = .ok (.lneg, 1) := by decide +kernel
theorem d_Md_isNothing_18 : decode b_Md_isNothing 18 = .ok (.aload_n 0, 1) := by decide +kernel
theorem d_Md_isNothing_19 : decode b_Md_isNothing 19 = .ok (.getfield 47, 3) := by decide +kernel
theorem d_Md_isNothing_22 : decode b_Md_isNothing 22 = .ok (.iload_n 1, 1) := by decide +kernel
theorem d_Md_isNothing_23 : decode b_Md_isNothing 23 = .ok (.laload, 1) := by decide +kernel
theorem d_Md_isNothing_24 : decode b_Md_isNothing 24 = .ok (.lneg, 1) := by decide +kernel
theorem d_Md_isNothing_25 : decode b_Md_isNothing 25 = .ok (.aload_n 0, 1) := by decide +kernel
theorem d_Md_isNothing_26 : decode b_Md_isNothing 26 = .ok (.getfield 50, 3) := by decide +kernel
theorem d_Md_isNothing_29 : decode b_Md_isNothing 29 = .ok (.iload_n 1, 1) := by decide +kernel
theorem d_Md_isNothing_30 : decode b_Md_isNothing 30 = .ok (.laload, 1) := by decide +kernel
theorem d_Md_isNothing_31 : decode b_Md_isNothing 31 = .ok (.lneg, 1) := by decide +kernel
theorem d_Md_isNothing_32 : decode b_Md_isNothing 32 = .ok (.invokevirtual 167, 3) := by decide +kernel
theorem d_Md_isNothing_35 : decode b_Md_isNothing 35 = .ok (.aload_n 0, 1) := by decide +kernel
theorem d_Md_isNothing_36 : decode b_Md_isNothing 36 = .ok (.iload_n 1, 1) := by decide +kernel
theorem d_Md_isNothing_37 : decode b_Md_isNothing 37 = .ok (.invokevirtual 171, 3) := by decide +kernel
theorem d_Md_isNothing_40 : decode b_Md_isNothing 40 = .ok (.aload_n 0, 1) := by decide +kernel
theorem d_Md_isNothing_41 : decode b_Md_isNothing 41 = .ok (.getfield 128, 3) := by decide +kernel
theorem d_Md_isNothing_44 : decode b_Md_isNothing 44 = .ok (.ifCond .eq 25, 3) := by decide +kernel
theorem d_Md_isNothing_47 : decode b_Md_isNothing 47 = .ok (.aload_n 0, 1) := by decide +kernel
theorem d_Md_isNothing_48 : decode b_Md_isNothing 48 = .ok (.getfield 134, 3) := by decide +kernel
theorem d_Md_isNothing_51 : decode b_Md_isNothing 51 = .ok (.aload_n 0, 1) := by decide +kernel
theorem d_Md_isNothing_52 : decode b_Md_isNothing 52 = .ok (.getfield 53, 3) := by decide +kernel
theorem d_Md_isNothing_55 : decode b_Md_isNothing 55 = .ok (.iload_n 1, 1) := by decide +kernel
theorem d_Md_isNothing_56 : decode b_Md_isNothing 56 = .ok (.laload, 1) := by decide +kernel
theorem d_Md_isNothing_57 : decode b_Md_isNothing 57 = .ok (.lneg, 1) := by decide +kernel
theorem d_Md_isNothing_58 : decode b_Md_isNothing 58 = .ok (.aload_n 0, 1) := by decide +kernel
theorem d_Md_isNothing_59 : decode b_Md_isNothing 59 = .ok (.getfield 131, 3) := by decide +kernel
theorem d_Md_isNothing_62 : decode b_Md_isNothing 62 = .ok (.lmul, 1) := by decide +kernel
theorem d_Md_isNothing_63 : decode b_Md_isNothing 63 = .ok (.lcmp, 1) := by decide +kernel
theorem d_Md_isNothing_64 : decode b_Md_isNothing 64 = .ok (.ifCond .le 5, 3) := by decide +kernel
theorem d_Md_isNothing_67 : decode b_Md_isNothing 67 = .ok (.iconst 1, 1) := by decide +kernel
theorem d_Md_isNothing_68 : decode b_Md_isNothing 68 = .ok (.ireturn, 1) := by decide +kernel
theorem d_Md_isNothing_69 : decode b_Md_isNothing 69 = .ok (.iinc 1 1, 3) := by decide +kernel
theorem d_Md_isNothing_72 : decode b_Md_isNothing 72 = .ok (.goto (-70), 3) := by decide +kernel
theorem d_Md_isNothing_75 : decode b_Md_isNothing 75 = .ok (.iconst 0, 1) := by decide +kernel
theorem d_Md_isNothing_76 : decode b_Md_isNothing 76 = .ok (.ireturn, 1) := by decide +kernel
theorem d_Md_goal_0 : decode b_Md_goal 0 = .ok (.aload_n 0, 1) := by decide +kernel
theorem d_Md_goal_1 : decode b_Md_goal 1 = .ok (.lload_n 1, 1) := by decide +kernel
theorem d_Md_goal_2 : decode b_Md_goal 2 = .ok (.putfield 119, 3) := by decide +kernel
theorem d_Md_goal_5 : decode b_Md_goal 5 = .ok (.aload_n 0, 1) := by decide +kernel
theorem d_Md_goal_6 : decode b_Md_goal 6 = .ok (.lload_n 3, 1) := by decide +kernel
theorem d_Md_goal_7 : decode b_Md_goal 7 = .ok (.putfield 122, 3) := by decide +kernel
theorem d_Md_goal_10 : decode b_Md_goal 10 = .ok (.aload_n 0, 1) := by decide +kernel
theorem d_Md_goal_11 : decode b_Md_goal 11 = .ok (.lload 5, 2) := by decide +kernel
theorem d_Md_goal_13 : decode b_Md_goal 13 = .ok (.putfield 125, 3) := by decide +kernel
theorem d_Md_goal_16 : decode b_Md_goal 16 = .ok (.return_, 1) := by decide +kernel
theorem d_Md_least_0 : decode b_Md_least 0 = .ok (.aload_n 0, 1) := by decide +kernel
theorem d_Md_least_1 : decode b_Md_least 1 = .ok (.iconst 0, 1) := by decide +kernel
theorem d_Md_least_2 : decode b_Md_least 2 = .ok (.putfield 128, 3) := by decide +kernel
theorem d_Md_least_5 : decode b_Md_least 5 = .ok (.aload_n 0, 1) := by decide +kernel
theorem d_Md_least_6 : decode b_Md_least 6 = .ok (.getfield 119, 3) := by decide +kernel
theorem d_Md_least_9 : decode b_Md_least 9 = .ok (.lconst 0, 1) := by decide +kernel
theorem d_Md_least_10 : decode b_Md_least 10 = .ok (.lcmp, 1) := by decide +kernel
theorem d_Md_least_11 : decode b_Md_least 11 = .ok (.ifCond .ne 28, 3) := by decide +kernel
theorem d_Md_least_14 : decode b_Md_least 14 = .ok (.aload_n 0, 1) := by decide +kernel
theorem d_Md_least_15 : decode b_Md_least 15 = .ok (.getfield 122, 3) := by decide +kernel
theorem d_Md_least_18 : decode b_Md_least 18 = .ok (.lconst 0, 1) := by decide +kernel
theorem d_Md_least_19 : decode b_Md_least 19 = .ok (.lcmp, 1) := by decide +kernel
theorem d_Md_least_20 : decode b_Md_least 20 = .ok (.ifCond .ne 19, 3) := by decide +kernel
theorem d_Md_least_23 : decode b_Md_least 23 = .ok (.aload_n 0, 1) := by decide +kernel
theorem d_Md_least_24 : decode b_Md_least 24 = .ok (.getfield 125, 3) := by decide +kernel
theorem d_Md_least_27 : decode b_Md_least 27 = .ok (.lconst 0, 1) := by decide +kernel
theorem d_Md_least_28 : decode b_Md_least 28 = .ok (.lcmp, 1) := by decide +kernel
theorem d_Md_least_29 : decode b_Md_least 29 = .ok (.ifCond .ne 10, 3) := by decide +kernel
theorem d_Md_least_32 : decode b_Md_least 32 = .ok (.aload_n 0, 1) := by decide +kernel
theorem d_Md_least_33 : decode b_Md_least 33 = .ok (.lconst 0, 1) := by decide +kernel
theorem d_Md_least_34 : decode b_Md_least 34 = .ok (.lconst 1, 1) := by decide +kernel
theorem d_Md_least_35 : decode b_Md_least 35 = .ok (.invokevirtual 137, 3) := by decide +kernel
theorem d_Md_least_38 : decode b_Md_least 38 = .ok (.return_, 1) := by decide +kernel
theorem d_Md_least_39 : decode b_Md_least 39 = .ok (.iconst 0, 1) := by decide +kernel
theorem d_Md_least_40 : decode b_Md_least 40 = .ok (.istore_n 2, 1) := by decide +kernel
theorem d_Md_least_41 : decode b_Md_least 41 = .ok (.iload_n 2, 1) := by decide +kernel
theorem d_Md_least_42 : decode b_Md_least 42 = .ok (.iload_n 1, 1) := by decide +kernel
theorem d_Md_least_43 : decode b_Md_least 43 = .ok (.if_icmp .ge 56, 3) := by decide +kernel
theorem d_Md_least_46 : decode b_Md_least 46 = .ok (.aload_n 0, 1) := by decide +kernel
theorem d_Md_least_47 : decode b_Md_least 47 = .ok (.iload_n 2, 1) := by decide +kernel
theorem d_Md_least_48 : decode b_Md_least 48 = .ok (.invokevirtual 141, 3) := by decide +kernel
theorem d_Md_least_51 : decode b_Md_least 51 = .ok (.iconst 0, 1) := by decide +kernel
theorem d_Md_least_52 : decode b_Md_least 52 = .ok (.istore_n 3, 1) := by decide +kernel
theorem d_Md_least_53 : decode b_Md_least 53 = .ok (.iload_n 3, 1) := by decide +kernel
theorem d_Md_least_54 : decode b_Md_least 54 = .ok (.iload_n 2, 1) := by decide +kernel
theorem d_Md_least_55 : decode b_Md_least 55 = .ok (.if_icmp .ge 38, 3) := by decide +kernel
theorem d_Md_least_58 : decode b_Md_least 58 = .ok (.aload_n 0, 1) := by decide +kernel
theorem d_Md_least_59 : decode b_Md_least 59 = .ok (.iload_n 2, 1) := by decide +kernel
theorem d_Md_least_60 : decode b_Md_least 60 = .ok (.iload_n 3, 1) := by decide +kernel
theorem d_Md_least_61 : decode b_Md_least 61 = .ok (.invokevirtual 145, 3) := by decide +kernel
theorem d_Md_least_64 : decode b_Md_least 64 = .ok (.iconst 0, 1) := by decide +kernel
theorem d_Md_least_65 : decode b_Md_least 65 = .ok (.istore 4, 2) := by decide +kernel
theorem d_Md_least_67 : decode b_Md_least 67 = .ok (.iload 4, 2) := by decide +kernel
theorem d_Md_least_69 : decode b_Md_least 69 = .ok (.iload_n 3, 1) := by decide +kernel
theorem d_Md_least_70 : decode b_Md_least 70 = .ok (.if_icmp .ge 17, 3) := by decide +kernel
theorem d_Md_least_73 : decode b_Md_least 73 = .ok (.aload_n 0, 1) := by decide +kernel
theorem d_Md_least_74 : decode b_Md_least 74 = .ok (.iload_n 2, 1) := by decide +kernel
theorem d_Md_least_75 : decode b_Md_least 75 = .ok (.iload_n 3, 1) := by decide +kernel
theorem d_Md_least_76 : decode b_Md_least 76 = .ok (.iload 4, 2) := by decide +kernel
theorem d_Md_least_78 : decode b_Md_least 78 = .ok (.invokevirtual 149, 3) := by decide +kernel
theorem d_Md_least_81 : decode b_Md_least 81 = .ok (.iinc 4 1, 3) := by decide +kernel
theorem d_Md_least_84 : decode b_Md_least 84 = .ok (.goto (-17), 3) := by decide +kernel
theorem d_Md_least_87 : decode b_Md_least 87 = .ok (.iinc 3 1, 3) := by decide +kernel
theorem d_Md_least_90 : decode b_Md_least 90 = .ok (.goto (-37), 3) := by decide +kernel
theorem d_Md_least_93 : decode b_Md_least 93 = .ok (.iinc 2 1, 3) := by decide +kernel
theorem d_Md_least_96 : decode b_Md_least 96 = .ok (.goto (-55), 3) := by decide +kernel
theorem d_Md_least_99 : decode b_Md_least 99 = .ok (.return_, 1) := by decide +kernel
theorem d_Md_bears_0 : decode b_Md_bears 0 = .ok (.aload_n 0, 1) := by decide +kernel
theorem d_Md_bears_1 : decode b_Md_bears 1 = .ok (.getfield 128, 3) := by decide +kernel
theorem d_Md_bears_4 : decode b_Md_bears 4 = .ok (.ifCond .eq 19, 3) := by decide +kernel
theorem d_Md_bears_7 : decode b_Md_bears 7 = .ok (.lload_n 1, 1) := by decide +kernel
theorem d_Md_bears_8 : decode b_Md_bears 8 = .ok (.aload_n 0, 1) := by decide +kernel
theorem d_Md_bears_9 : decode b_Md_bears 9 = .ok (.getfield 131, 3) := by decide +kernel
theorem d_Md_bears_12 : decode b_Md_bears 12 = .ok (.lmul, 1) := by decide +kernel
theorem d_Md_bears_13 : decode b_Md_bears 13 = .ok (.aload_n 0, 1) := by decide +kernel
theorem d_Md_bears_14 : decode b_Md_bears 14 = .ok (.getfield 134, 3) := by decide +kernel
theorem d_Md_bears_17 : decode b_Md_bears 17 = .ok (.lload_n 3, 1) := by decide +kernel
theorem d_Md_bears_18 : decode b_Md_bears 18 = .ok (.lmul, 1) := by decide +kernel
theorem d_Md_bears_19 : decode b_Md_bears 19 = .ok (.lcmp, 1) := by decide +kernel
theorem d_Md_bears_20 : decode b_Md_bears 20 = .ok (.ifCond .le 18, 3) := by decide +kernel
theorem d_Md_bears_23 : decode b_Md_bears 23 = .ok (.aload_n 0, 1) := by decide +kernel
theorem d_Md_bears_24 : decode b_Md_bears 24 = .ok (.iconst 1, 1) := by decide +kernel
theorem d_Md_bears_25 : decode b_Md_bears 25 = .ok (.putfield 128, 3) := by decide +kernel
theorem d_Md_bears_28 : decode b_Md_bears 28 = .ok (.aload_n 0, 1) := by decide +kernel
theorem d_Md_bears_29 : decode b_Md_bears 29 = .ok (.lload_n 1, 1) := by decide +kernel
theorem d_Md_bears_30 : decode b_Md_bears 30 = .ok (.putfield 134, 3) := by decide +kernel
theorem d_Md_bears_33 : decode b_Md_bears 33 = .ok (.aload_n 0, 1) := by decide +kernel
theorem d_Md_bears_34 : decode b_Md_bears 34 = .ok (.lload_n 3, 1) := by decide +kernel
theorem d_Md_bears_35 : decode b_Md_bears 35 = .ok (.putfield 131, 3) := by decide +kernel
theorem d_Md_bears_38 : decode b_Md_bears 38 = .ok (.return_, 1) := by decide +kernel
theorem d_Md_byOne_0 : decode b_Md_byOne 0 = .ok (.aload_n 0, 1) := by decide +kernel
theorem d_Md_byOne_1 : decode b_Md_byOne 1 = .ok (.getfield 122, 3) := by decide +kernel
theorem d_Md_byOne_4 : decode b_Md_byOne 4 = .ok (.aload_n 0, 1) := by decide +kernel
theorem d_Md_byOne_5 : decode b_Md_byOne 5 = .ok (.getfield 50, 3) := by decide +kernel
theorem d_Md_byOne_8 : decode b_Md_byOne 8 = .ok (.iload_n 1, 1) := by decide +kernel
theorem d_Md_byOne_9 : decode b_Md_byOne 9 = .ok (.laload, 1) := by decide +kernel
theorem d_Md_byOne_10 : decode b_Md_byOne 10 = .ok (.lmul, 1) := by decide +kernel
theorem d_Md_byOne_11 : decode b_Md_byOne 11 = .ok (.aload_n 0, 1) := by decide +kernel
theorem d_Md_byOne_12 : decode b_Md_byOne 12 = .ok (.getfield 125, 3) := by decide +kernel
theorem d_Md_byOne_15 : decode b_Md_byOne 15 = .ok (.aload_n 0, 1) := by decide +kernel
theorem d_Md_byOne_16 : decode b_Md_byOne 16 = .ok (.getfield 47, 3) := by decide +kernel
theorem d_Md_byOne_19 : decode b_Md_byOne 19 = .ok (.iload_n 1, 1) := by decide +kernel
theorem d_Md_byOne_20 : decode b_Md_byOne 20 = .ok (.laload, 1) := by decide +kernel
theorem d_Md_byOne_21 : decode b_Md_byOne 21 = .ok (.lmul, 1) := by decide +kernel
theorem d_Md_byOne_22 : decode b_Md_byOne 22 = .ok (.lcmp, 1) := by decide +kernel
theorem d_Md_byOne_23 : decode b_Md_byOne 23 = .ok (.ifCond .ne 59, 3) := by decide +kernel
theorem d_Md_byOne_26 : decode b_Md_byOne 26 = .ok (.aload_n 0, 1) := by decide +kernel
theorem d_Md_byOne_27 : decode b_Md_byOne 27 = .ok (.getfield 125, 3) := by decide +kernel
theorem d_Md_byOne_30 : decode b_Md_byOne 30 = .ok (.aload_n 0, 1) := by decide +kernel
theorem d_Md_byOne_31 : decode b_Md_byOne 31 = .ok (.getfield 44, 3) := by decide +kernel
theorem d_Md_byOne_34 : decode b_Md_byOne 34 = .ok (.iload_n 1, 1) := by decide +kernel
theorem d_Md_byOne_35 : decode b_Md_byOne 35 = .ok (.laload, 1) := by decide +kernel
theorem d_Md_byOne_36 : decode b_Md_byOne 36 = .ok (.lmul, 1) := by decide +kernel
theorem d_Md_byOne_37 : decode b_Md_byOne 37 = .ok (.aload_n 0, 1) := by decide +kernel
theorem d_Md_byOne_38 : decode b_Md_byOne 38 = .ok (.getfield 119, 3) := by decide +kernel
theorem d_Md_byOne_41 : decode b_Md_byOne 41 = .ok (.aload_n 0, 1) := by decide +kernel
theorem d_Md_byOne_42 : decode b_Md_byOne 42 = .ok (.getfield 50, 3) := by decide +kernel
theorem d_Md_byOne_45 : decode b_Md_byOne 45 = .ok (.iload_n 1, 1) := by decide +kernel
theorem d_Md_byOne_46 : decode b_Md_byOne 46 = .ok (.laload, 1) := by decide +kernel
theorem d_Md_byOne_47 : decode b_Md_byOne 47 = .ok (.lmul, 1) := by decide +kernel
theorem d_Md_byOne_48 : decode b_Md_byOne 48 = .ok (.lcmp, 1) := by decide +kernel
theorem d_Md_byOne_49 : decode b_Md_byOne 49 = .ok (.ifCond .ne 33, 3) := by decide +kernel
theorem d_Md_byOne_52 : decode b_Md_byOne 52 = .ok (.aload_n 0, 1) := by decide +kernel
theorem d_Md_byOne_53 : decode b_Md_byOne 53 = .ok (.getfield 119, 3) := by decide +kernel
theorem d_Md_byOne_56 : decode b_Md_byOne 56 = .ok (.aload_n 0, 1) := by decide +kernel
theorem d_Md_byOne_57 : decode b_Md_byOne 57 = .ok (.getfield 47, 3) := by decide +kernel
theorem d_Md_byOne_60 : decode b_Md_byOne 60 = .ok (.iload_n 1, 1) := by decide +kernel
theorem d_Md_byOne_61 : decode b_Md_byOne 61 = .ok (.laload, 1) := by decide +kernel
theorem d_Md_byOne_62 : decode b_Md_byOne 62 = .ok (.lmul, 1) := by decide +kernel
theorem d_Md_byOne_63 : decode b_Md_byOne 63 = .ok (.aload_n 0, 1) := by decide +kernel
theorem d_Md_byOne_64 : decode b_Md_byOne 64 = .ok (.getfield 122, 3) := by decide +kernel
theorem d_Md_byOne_67 : decode b_Md_byOne 67 = .ok (.aload_n 0, 1) := by decide +kernel
theorem d_Md_byOne_68 : decode b_Md_byOne 68 = .ok (.getfield 44, 3) := by decide +kernel
theorem d_Md_byOne_71 : decode b_Md_byOne 71 = .ok (.iload_n 1, 1) := by decide +kernel
theorem d_Md_byOne_72 : decode b_Md_byOne 72 = .ok (.laload, 1) := by decide +kernel
theorem d_Md_byOne_73 : decode b_Md_byOne 73 = .ok (.lmul, 1) := by decide +kernel
theorem d_Md_byOne_74 : decode b_Md_byOne 74 = .ok (.lcmp, 1) := by decide +kernel
theorem d_Md_byOne_75 : decode b_Md_byOne 75 = .ok (.ifCond .ne 7, 3) := by decide +kernel
theorem d_Md_byOne_78 : decode b_Md_byOne 78 = .ok (.iconst 1, 1) := by decide +kernel
theorem d_Md_byOne_79 : decode b_Md_byOne 79 = .ok (.goto 4, 3) := by decide +kernel
theorem d_Md_byOne_82 : decode b_Md_byOne 82 = .ok (.iconst 0, 1) := by decide +kernel
theorem d_Md_byOne_83 : decode b_Md_byOne 83 = .ok (.istore_n 2, 1) := by decide +kernel
theorem d_Md_byOne_84 : decode b_Md_byOne 84 = .ok (.aload_n 0, 1) := by decide +kernel
theorem d_Md_byOne_85 : decode b_Md_byOne 85 = .ok (.getfield 119, 3) := by decide +kernel
theorem d_Md_byOne_88 : decode b_Md_byOne 88 = .ok (.aload_n 0, 1) := by decide +kernel
theorem d_Md_byOne_89 : decode b_Md_byOne 89 = .ok (.getfield 44, 3) := by decide +kernel
theorem d_Md_byOne_92 : decode b_Md_byOne 92 = .ok (.iload_n 1, 1) := by decide +kernel
theorem d_Md_byOne_93 : decode b_Md_byOne 93 = .ok (.laload, 1) := by decide +kernel
theorem d_Md_byOne_94 : decode b_Md_byOne 94 = .ok (.lmul, 1) := by decide +kernel
theorem d_Md_byOne_95 : decode b_Md_byOne 95 = .ok (.aload_n 0, 1) := by decide +kernel
theorem d_Md_byOne_96 : decode b_Md_byOne 96 = .ok (.getfield 122, 3) := by decide +kernel
theorem d_Md_byOne_99 : decode b_Md_byOne 99 = .ok (.aload_n 0, 1) := by decide +kernel
theorem d_Md_byOne_100 : decode b_Md_byOne 100 = .ok (.getfield 47, 3) := by decide +kernel
theorem d_Md_byOne_103 : decode b_Md_byOne 103 = .ok (.iload_n 1, 1) := by decide +kernel
theorem d_Md_byOne_104 : decode b_Md_byOne 104 = .ok (.laload, 1) := by decide +kernel
theorem d_Md_byOne_105 : decode b_Md_byOne 105 = .ok (.lmul, 1) := by decide +kernel
theorem d_Md_byOne_106 : decode b_Md_byOne 106 = .ok (.ladd, 1) := by decide +kernel
theorem d_Md_byOne_107 : decode b_Md_byOne 107 = .ok (.aload_n 0, 1) := by decide +kernel
theorem d_Md_byOne_108 : decode b_Md_byOne 108 = .ok (.getfield 125, 3) := by decide +kernel
theorem d_Md_byOne_111 : decode b_Md_byOne 111 = .ok (.aload_n 0, 1) := by decide +kernel
theorem d_Md_byOne_112 : decode b_Md_byOne 112 = .ok (.getfield 50, 3) := by decide +kernel
theorem d_Md_byOne_115 : decode b_Md_byOne 115 = .ok (.iload_n 1, 1) := by decide +kernel
theorem d_Md_byOne_116 : decode b_Md_byOne 116 = .ok (.laload, 1) := by decide +kernel
theorem d_Md_byOne_117 : decode b_Md_byOne 117 = .ok (.lmul, 1) := by decide +kernel
theorem d_Md_byOne_118 : decode b_Md_byOne 118 = .ok (.ladd, 1) := by decide +kernel
theorem d_Md_byOne_119 : decode b_Md_byOne 119 = .ok (.lstore_n 3, 1) := by decide +kernel
theorem d_Md_byOne_120 : decode b_Md_byOne 120 = .ok (.iload_n 2, 1) := by decide +kernel
theorem d_Md_byOne_121 : decode b_Md_byOne 121 = .ok (.ifCond .eq 62, 3) := by decide +kernel
theorem d_Md_byOne_124 : decode b_Md_byOne 124 = .ok (.lload_n 3, 1) := by decide +kernel
theorem d_Md_byOne_125 : decode b_Md_byOne 125 = .ok (.lconst 0, 1) := by decide +kernel
theorem d_Md_byOne_126 : decode b_Md_byOne 126 = .ok (.lcmp, 1) := by decide +kernel
theorem d_Md_byOne_127 : decode b_Md_byOne 127 = .ok (.ifCond .le 56, 3) := by decide +kernel
theorem d_Md_byOne_130 : decode b_Md_byOne 130 = .ok (.aload_n 0, 1) := by decide +kernel
theorem d_Md_byOne_131 : decode b_Md_byOne 131 = .ok (.lload_n 3, 1) := by decide +kernel
theorem d_Md_byOne_132 : decode b_Md_byOne 132 = .ok (.aload_n 0, 1) := by decide +kernel
theorem d_Md_byOne_133 : decode b_Md_byOne 133 = .ok (.getfield 53, 3) := by decide +kernel
theorem d_Md_byOne_136 : decode b_Md_byOne 136 = .ok (.iload_n 1, 1) := by decide +kernel
theorem d_Md_byOne_137 : decode b_Md_byOne 137 = .ok (.laload, 1) := by decide +kernel
theorem d_Md_byOne_138 : decode b_Md_byOne 138 = .ok (.lmul, 1) := by decide +kernel
theorem d_Md_byOne_139 : decode b_Md_byOne 139 = .ok (.aload_n 0, 1) := by decide +kernel
theorem d_Md_byOne_140 : decode b_Md_byOne 140 = .ok (.getfield 44, 3) := by decide +kernel
theorem d_Md_byOne_143 : decode b_Md_byOne 143 = .ok (.iload_n 1, 1) := by decide +kernel
theorem d_Md_byOne_144 : decode b_Md_byOne 144 = .ok (.laload, 1) := by decide +kernel
theorem d_Md_byOne_145 : decode b_Md_byOne 145 = .ok (.aload_n 0, 1) := by decide +kernel
theorem d_Md_byOne_146 : decode b_Md_byOne 146 = .ok (.getfield 44, 3) := by decide +kernel
theorem d_Md_byOne_149 : decode b_Md_byOne 149 = .ok (.iload_n 1, 1) := by decide +kernel
theorem d_Md_byOne_150 : decode b_Md_byOne 150 = .ok (.laload, 1) := by decide +kernel
theorem d_Md_byOne_151 : decode b_Md_byOne 151 = .ok (.lmul, 1) := by decide +kernel
theorem d_Md_byOne_152 : decode b_Md_byOne 152 = .ok (.aload_n 0, 1) := by decide +kernel
theorem d_Md_byOne_153 : decode b_Md_byOne 153 = .ok (.getfield 47, 3) := by decide +kernel
theorem d_Md_byOne_156 : decode b_Md_byOne 156 = .ok (.iload_n 1, 1) := by decide +kernel
theorem d_Md_byOne_157 : decode b_Md_byOne 157 = .ok (.laload, 1) := by decide +kernel
theorem d_Md_byOne_158 : decode b_Md_byOne 158 = .ok (.aload_n 0, 1) := by decide +kernel
theorem d_Md_byOne_159 : decode b_Md_byOne 159 = .ok (.getfield 47, 3) := by decide +kernel
theorem d_Md_byOne_162 : decode b_Md_byOne 162 = .ok (.iload_n 1, 1) := by decide +kernel
theorem d_Md_byOne_163 : decode b_Md_byOne 163 = .ok (.laload, 1) := by decide +kernel
theorem d_Md_byOne_164 : decode b_Md_byOne 164 = .ok (.lmul, 1) := by decide +kernel
theorem d_Md_byOne_165 : decode b_Md_byOne 165 = .ok (.ladd, 1) := by decide +kernel
theorem d_Md_byOne_166 : decode b_Md_byOne 166 = .ok (.aload_n 0, 1) := by decide +kernel
theorem d_Md_byOne_167 : decode b_Md_byOne 167 = .ok (.getfield 50, 3) := by decide +kernel
theorem d_Md_byOne_170 : decode b_Md_byOne 170 = .ok (.iload_n 1, 1) := by decide +kernel
theorem d_Md_byOne_171 : decode b_Md_byOne 171 = .ok (.laload, 1) := by decide +kernel
theorem d_Md_byOne_172 : decode b_Md_byOne 172 = .ok (.aload_n 0, 1) := by decide +kernel
theorem d_Md_byOne_173 : decode b_Md_byOne 173 = .ok (.getfield 50, 3) := by decide +kernel
theorem d_Md_byOne_176 : decode b_Md_byOne 176 = .ok (.iload_n 1, 1) := by decide +kernel
theorem d_Md_byOne_177 : decode b_Md_byOne 177 = .ok (.laload, 1) := by decide +kernel
theorem d_Md_byOne_178 : decode b_Md_byOne 178 = .ok (.lmul, 1) := by decide +kernel
theorem d_Md_byOne_179 : decode b_Md_byOne 179 = .ok (.ladd, 1) := by decide +kernel
theorem d_Md_byOne_180 : decode b_Md_byOne 180 = .ok (.invokevirtual 137, 3) := by decide +kernel
theorem d_Md_byOne_183 : decode b_Md_byOne 183 = .ok (.return_, 1) := by decide +kernel
theorem d_Md_byTwo_0 : decode b_Md_byTwo 0 = .ok (.aload_n 0, 1) := by decide +kernel
theorem d_Md_byTwo_1 : decode b_Md_byTwo 1 = .ok (.iload_n 1, 1) := by decide +kernel
theorem d_Md_byTwo_2 : decode b_Md_byTwo 2 = .ok (.iload_n 2, 1) := by decide +kernel
theorem d_Md_byTwo_3 : decode b_Md_byTwo 3 = .ok (.invokevirtual 162, 3) := by decide +kernel
theorem d_Md_byTwo_6 : decode b_Md_byTwo 6 = .ok (.aload_n 0, 1) := by decide +kernel
theorem d_Md_byTwo_7 : decode b_Md_byTwo 7 = .ok (.getfield 153, 3) := by decide +kernel
theorem d_Md_byTwo_10 : decode b_Md_byTwo 10 = .ok (.aload_n 0, 1) := by decide +kernel
theorem d_Md_byTwo_11 : decode b_Md_byTwo 11 = .ok (.getfield 153, 3) := by decide +kernel
theorem d_Md_byTwo_14 : decode b_Md_byTwo 14 = .ok (.lmul, 1) := by decide +kernel
theorem d_Md_byTwo_15 : decode b_Md_byTwo 15 = .ok (.aload_n 0, 1) := by decide +kernel
theorem d_Md_byTwo_16 : decode b_Md_byTwo 16 = .ok (.getfield 156, 3) := by decide +kernel
theorem d_Md_byTwo_19 : decode b_Md_byTwo 19 = .ok (.aload_n 0, 1) := by decide +kernel
theorem d_Md_byTwo_20 : decode b_Md_byTwo 20 = .ok (.getfield 156, 3) := by decide +kernel
theorem d_Md_byTwo_23 : decode b_Md_byTwo 23 = .ok (.lmul, 1) := by decide +kernel
theorem d_Md_byTwo_24 : decode b_Md_byTwo 24 = .ok (.ladd, 1) := by decide +kernel
theorem d_Md_byTwo_25 : decode b_Md_byTwo 25 = .ok (.aload_n 0, 1) := by decide +kernel
theorem d_Md_byTwo_26 : decode b_Md_byTwo 26 = .ok (.getfield 159, 3) := by decide +kernel
theorem d_Md_byTwo_29 : decode b_Md_byTwo 29 = .ok (.aload_n 0, 1) := by decide +kernel
theorem d_Md_byTwo_30 : decode b_Md_byTwo 30 = .ok (.getfield 159, 3) := by decide +kernel
theorem d_Md_byTwo_33 : decode b_Md_byTwo 33 = .ok (.lmul, 1) := by decide +kernel
theorem d_Md_byTwo_34 : decode b_Md_byTwo 34 = .ok (.ladd, 1) := by decide +kernel
theorem d_Md_byTwo_35 : decode b_Md_byTwo 35 = .ok (.lstore_n 3, 1) := by decide +kernel
theorem d_Md_byTwo_36 : decode b_Md_byTwo 36 = .ok (.lload_n 3, 1) := by decide +kernel
theorem d_Md_byTwo_37 : decode b_Md_byTwo 37 = .ok (.lconst 0, 1) := by decide +kernel
theorem d_Md_byTwo_38 : decode b_Md_byTwo 38 = .ok (.lcmp, 1) := by decide +kernel
theorem d_Md_byTwo_39 : decode b_Md_byTwo 39 = .ok (.ifCond .eq 37, 3) := by decide +kernel
theorem d_Md_byTwo_42 : decode b_Md_byTwo 42 = .ok (.aload_n 0, 1) := by decide +kernel
theorem d_Md_byTwo_43 : decode b_Md_byTwo 43 = .ok (.getfield 119, 3) := by decide +kernel
theorem d_Md_byTwo_46 : decode b_Md_byTwo 46 = .ok (.aload_n 0, 1) := by decide +kernel
theorem d_Md_byTwo_47 : decode b_Md_byTwo 47 = .ok (.getfield 153, 3) := by decide +kernel
theorem d_Md_byTwo_50 : decode b_Md_byTwo 50 = .ok (.lmul, 1) := by decide +kernel
theorem d_Md_byTwo_51 : decode b_Md_byTwo 51 = .ok (.aload_n 0, 1) := by decide +kernel
theorem d_Md_byTwo_52 : decode b_Md_byTwo 52 = .ok (.getfield 122, 3) := by decide +kernel
theorem d_Md_byTwo_55 : decode b_Md_byTwo 55 = .ok (.aload_n 0, 1) := by decide +kernel
theorem d_Md_byTwo_56 : decode b_Md_byTwo 56 = .ok (.getfield 156, 3) := by decide +kernel
theorem d_Md_byTwo_59 : decode b_Md_byTwo 59 = .ok (.lmul, 1) := by decide +kernel
theorem d_Md_byTwo_60 : decode b_Md_byTwo 60 = .ok (.ladd, 1) := by decide +kernel
theorem d_Md_byTwo_61 : decode b_Md_byTwo 61 = .ok (.aload_n 0, 1) := by decide +kernel
theorem d_Md_byTwo_62 : decode b_Md_byTwo 62 = .ok (.getfield 125, 3) := by decide +kernel
theorem d_Md_byTwo_65 : decode b_Md_byTwo 65 = .ok (.aload_n 0, 1) := by decide +kernel
theorem d_Md_byTwo_66 : decode b_Md_byTwo 66 = .ok (.getfield 159, 3) := by decide +kernel
theorem d_Md_byTwo_69 : decode b_Md_byTwo 69 = .ok (.lmul, 1) := by decide +kernel
theorem d_Md_byTwo_70 : decode b_Md_byTwo 70 = .ok (.ladd, 1) := by decide +kernel
theorem d_Md_byTwo_71 : decode b_Md_byTwo 71 = .ok (.lconst 0, 1) := by decide +kernel
theorem d_Md_byTwo_72 : decode b_Md_byTwo 72 = .ok (.lcmp, 1) := by decide +kernel
theorem d_Md_byTwo_73 : decode b_Md_byTwo 73 = .ok (.ifCond .eq 4, 3) := by decide +kernel
theorem d_Md_byTwo_76 : decode b_Md_byTwo 76 = .ok (.return_, 1) := by decide +kernel
theorem d_Md_byTwo_77 : decode b_Md_byTwo 77 = .ok (.aload_n 0, 1) := by decide +kernel
theorem d_Md_byTwo_78 : decode b_Md_byTwo 78 = .ok (.getfield 122, 3) := by decide +kernel
theorem d_Md_byTwo_81 : decode b_Md_byTwo 81 = .ok (.aload_n 0, 1) := by decide +kernel
theorem d_Md_byTwo_82 : decode b_Md_byTwo 82 = .ok (.getfield 50, 3) := by decide +kernel
theorem d_Md_byTwo_85 : decode b_Md_byTwo 85 = .ok (.iload_n 2, 1) := by decide +kernel
theorem d_Md_byTwo_86 : decode b_Md_byTwo 86 = .ok (.laload, 1) := by decide +kernel
theorem d_Md_byTwo_87 : decode b_Md_byTwo 87 = .ok (.lmul, 1) := by decide +kernel
theorem d_Md_byTwo_88 : decode b_Md_byTwo 88 = .ok (.aload_n 0, 1) := by decide +kernel
theorem d_Md_byTwo_89 : decode b_Md_byTwo 89 = .ok (.getfield 125, 3) := by decide +kernel
theorem d_Md_byTwo_92 : decode b_Md_byTwo 92 = .ok (.aload_n 0, 1) := by decide +kernel
theorem d_Md_byTwo_93 : decode b_Md_byTwo 93 = .ok (.getfield 47, 3) := by decide +kernel
theorem d_Md_byTwo_96 : decode b_Md_byTwo 96 = .ok (.iload_n 2, 1) := by decide +kernel
theorem d_Md_byTwo_97 : decode b_Md_byTwo 97 = .ok (.laload, 1) := by decide +kernel
theorem d_Md_byTwo_98 : decode b_Md_byTwo 98 = .ok (.lmul, 1) := by decide +kernel
theorem d_Md_byTwo_99 : decode b_Md_byTwo 99 = .ok (.lsub, 1) := by decide +kernel
theorem d_Md_byTwo_100 : decode b_Md_byTwo 100 = .ok (.aload_n 0, 1) := by decide +kernel
theorem d_Md_byTwo_101 : decode b_Md_byTwo 101 = .ok (.getfield 153, 3) := by decide +kernel
theorem d_Md_byTwo_104 : decode b_Md_byTwo 104 = .ok (.lmul, 1) := by decide +kernel
theorem d_Md_byTwo_105 : decode b_Md_byTwo 105 = .ok (.aload_n 0, 1) := by decide +kernel
theorem d_Md_byTwo_106 : decode b_Md_byTwo 106 = .ok (.getfield 125, 3) := by decide +kernel
theorem d_Md_byTwo_109 : decode b_Md_byTwo 109 = .ok (.aload_n 0, 1) := by decide +kernel
theorem d_Md_byTwo_110 : decode b_Md_byTwo 110 = .ok (.getfield 44, 3) := by decide +kernel
theorem d_Md_byTwo_113 : decode b_Md_byTwo 113 = .ok (.iload_n 2, 1) := by decide +kernel
theorem d_Md_byTwo_114 : decode b_Md_byTwo 114 = .ok (.laload, 1) := by decide +kernel
theorem d_Md_byTwo_115 : decode b_Md_byTwo 115 = .ok (.lmul, 1) := by decide +kernel
theorem d_Md_byTwo_116 : decode b_Md_byTwo 116 = .ok (.aload_n 0, 1) := by decide +kernel
theorem d_Md_byTwo_117 : decode b_Md_byTwo 117 = .ok (.getfield 119, 3) := by decide +kernel
theorem d_Md_byTwo_120 : decode b_Md_byTwo 120 = .ok (.aload_n 0, 1) := by decide +kernel
theorem d_Md_byTwo_121 : decode b_Md_byTwo 121 = .ok (.getfield 50, 3) := by decide +kernel
theorem d_Md_byTwo_124 : decode b_Md_byTwo 124 = .ok (.iload_n 2, 1) := by decide +kernel
theorem d_Md_byTwo_125 : decode b_Md_byTwo 125 = .ok (.laload, 1) := by decide +kernel
theorem d_Md_byTwo_126 : decode b_Md_byTwo 126 = .ok (.lmul, 1) := by decide +kernel
theorem d_Md_byTwo_127 : decode b_Md_byTwo 127 = .ok (.lsub, 1) := by decide +kernel
theorem d_Md_byTwo_128 : decode b_Md_byTwo 128 = .ok (.aload_n 0, 1) := by decide +kernel
theorem d_Md_byTwo_129 : decode b_Md_byTwo 129 = .ok (.getfield 156, 3) := by decide +kernel
theorem d_Md_byTwo_132 : decode b_Md_byTwo 132 = .ok (.lmul, 1) := by decide +kernel
theorem d_Md_byTwo_133 : decode b_Md_byTwo 133 = .ok (.ladd, 1) := by decide +kernel
theorem d_Md_byTwo_134 : decode b_Md_byTwo 134 = .ok (.aload_n 0, 1) := by decide +kernel
theorem d_Md_byTwo_135 : decode b_Md_byTwo 135 = .ok (.getfield 119, 3) := by decide +kernel
theorem d_Md_byTwo_138 : decode b_Md_byTwo 138 = .ok (.aload_n 0, 1) := by decide +kernel
theorem d_Md_byTwo_139 : decode b_Md_byTwo 139 = .ok (.getfield 47, 3) := by decide +kernel
theorem d_Md_byTwo_142 : decode b_Md_byTwo 142 = .ok (.iload_n 2, 1) := by decide +kernel
theorem d_Md_byTwo_143 : decode b_Md_byTwo 143 = .ok (.laload, 1) := by decide +kernel
theorem d_Md_byTwo_144 : decode b_Md_byTwo 144 = .ok (.lmul, 1) := by decide +kernel
theorem d_Md_byTwo_145 : decode b_Md_byTwo 145 = .ok (.aload_n 0, 1) := by decide +kernel
theorem d_Md_byTwo_146 : decode b_Md_byTwo 146 = .ok (.getfield 122, 3) := by decide +kernel
theorem d_Md_byTwo_149 : decode b_Md_byTwo 149 = .ok (.aload_n 0, 1) := by decide +kernel
theorem d_Md_byTwo_150 : decode b_Md_byTwo 150 = .ok (.getfield 44, 3) := by decide +kernel
theorem d_Md_byTwo_153 : decode b_Md_byTwo 153 = .ok (.iload_n 2, 1) := by decide +kernel
theorem d_Md_byTwo_154 : decode b_Md_byTwo 154 = .ok (.laload, 1) := by decide +kernel
theorem d_Md_byTwo_155 : decode b_Md_byTwo 155 = .ok (.lmul, 1) := by decide +kernel
theorem d_Md_byTwo_156 : decode b_Md_byTwo 156 = .ok (.lsub, 1) := by decide +kernel
theorem d_Md_byTwo_157 : decode b_Md_byTwo 157 = .ok (.aload_n 0, 1) := by decide +kernel
theorem d_Md_byTwo_158 : decode b_Md_byTwo 158 = .ok (.getfield 159, 3) := by decide +kernel
theorem d_Md_byTwo_161 : decode b_Md_byTwo 161 = .ok (.lmul, 1) := by decide +kernel
theorem d_Md_byTwo_162 : decode b_Md_byTwo 162 = .ok (.ladd, 1) := by decide +kernel
theorem d_Md_byTwo_163 : decode b_Md_byTwo 163 = .ok (.lstore 5, 2) := by decide +kernel
theorem d_Md_byTwo_165 : decode b_Md_byTwo 165 = .ok (.aload_n 0, 1) := by decide +kernel
theorem d_Md_byTwo_166 : decode b_Md_byTwo 166 = .ok (.getfield 47, 3) := by decide +kernel
theorem d_Md_byTwo_169 : decode b_Md_byTwo 169 = .ok (.iload_n 1, 1) := by decide +kernel
theorem d_Md_byTwo_170 : decode b_Md_byTwo 170 = .ok (.laload, 1) := by decide +kernel
theorem d_Md_byTwo_171 : decode b_Md_byTwo 171 = .ok (.aload_n 0, 1) := by decide +kernel
theorem d_Md_byTwo_172 : decode b_Md_byTwo 172 = .ok (.getfield 125, 3) := by decide +kernel
theorem d_Md_byTwo_175 : decode b_Md_byTwo 175 = .ok (.lmul, 1) := by decide +kernel
theorem d_Md_byTwo_176 : decode b_Md_byTwo 176 = .ok (.aload_n 0, 1) := by decide +kernel
theorem d_Md_byTwo_177 : decode b_Md_byTwo 177 = .ok (.getfield 50, 3) := by decide +kernel
theorem d_Md_byTwo_180 : decode b_Md_byTwo 180 = .ok (.iload_n 1, 1) := by decide +kernel
theorem d_Md_byTwo_181 : decode b_Md_byTwo 181 = .ok (.laload, 1) := by decide +kernel
theorem d_Md_byTwo_182 : decode b_Md_byTwo 182 = .ok (.aload_n 0, 1) := by decide +kernel
theorem d_Md_byTwo_183 : decode b_Md_byTwo 183 = .ok (.getfield 122, 3) := by decide +kernel
theorem d_Md_byTwo_186 : decode b_Md_byTwo 186 = .ok (.lmul, 1) := by decide +kernel
theorem d_Md_byTwo_187 : decode b_Md_byTwo 187 = .ok (.lsub, 1) := by decide +kernel
theorem d_Md_byTwo_188 : decode b_Md_byTwo 188 = .ok (.aload_n 0, 1) := by decide +kernel
theorem d_Md_byTwo_189 : decode b_Md_byTwo 189 = .ok (.getfield 153, 3) := by decide +kernel
theorem d_Md_byTwo_192 : decode b_Md_byTwo 192 = .ok (.lmul, 1) := by decide +kernel
theorem d_Md_byTwo_193 : decode b_Md_byTwo 193 = .ok (.aload_n 0, 1) := by decide +kernel
theorem d_Md_byTwo_194 : decode b_Md_byTwo 194 = .ok (.getfield 50, 3) := by decide +kernel
theorem d_Md_byTwo_197 : decode b_Md_byTwo 197 = .ok (.iload_n 1, 1) := by decide +kernel
theorem d_Md_byTwo_198 : decode b_Md_byTwo 198 = .ok (.laload, 1) := by decide +kernel
theorem d_Md_byTwo_199 : decode b_Md_byTwo 199 = .ok (.aload_n 0, 1) := by decide +kernel
theorem d_Md_byTwo_200 : decode b_Md_byTwo 200 = .ok (.getfield 119, 3) := by decide +kernel
theorem d_Md_byTwo_203 : decode b_Md_byTwo 203 = .ok (.lmul, 1) := by decide +kernel
theorem d_Md_byTwo_204 : decode b_Md_byTwo 204 = .ok (.aload_n 0, 1) := by decide +kernel
theorem d_Md_byTwo_205 : decode b_Md_byTwo 205 = .ok (.getfield 44, 3) := by decide +kernel
theorem d_Md_byTwo_208 : decode b_Md_byTwo 208 = .ok (.iload_n 1, 1) := by decide +kernel
theorem d_Md_byTwo_209 : decode b_Md_byTwo 209 = .ok (.laload, 1) := by decide +kernel
theorem d_Md_byTwo_210 : decode b_Md_byTwo 210 = .ok (.aload_n 0, 1) := by decide +kernel
theorem d_Md_byTwo_211 : decode b_Md_byTwo 211 = .ok (.getfield 125, 3) := by decide +kernel
theorem d_Md_byTwo_214 : decode b_Md_byTwo 214 = .ok (.lmul, 1) := by decide +kernel
theorem d_Md_byTwo_215 : decode b_Md_byTwo 215 = .ok (.lsub, 1) := by decide +kernel
theorem d_Md_byTwo_216 : decode b_Md_byTwo 216 = .ok (.aload_n 0, 1) := by decide +kernel
theorem d_Md_byTwo_217 : decode b_Md_byTwo 217 = .ok (.getfield 156, 3) := by decide +kernel
theorem d_Md_byTwo_220 : decode b_Md_byTwo 220 = .ok (.lmul, 1) := by decide +kernel
theorem d_Md_byTwo_221 : decode b_Md_byTwo 221 = .ok (.ladd, 1) := by decide +kernel
theorem d_Md_byTwo_222 : decode b_Md_byTwo 222 = .ok (.aload_n 0, 1) := by decide +kernel
theorem d_Md_byTwo_223 : decode b_Md_byTwo 223 = .ok (.getfield 44, 3) := by decide +kernel
theorem d_Md_byTwo_226 : decode b_Md_byTwo 226 = .ok (.iload_n 1, 1) := by decide +kernel
theorem d_Md_byTwo_227 : decode b_Md_byTwo 227 = .ok (.laload, 1) := by decide +kernel
theorem d_Md_byTwo_228 : decode b_Md_byTwo 228 = .ok (.aload_n 0, 1) := by decide +kernel
theorem d_Md_byTwo_229 : decode b_Md_byTwo 229 = .ok (.getfield 122, 3) := by decide +kernel
theorem d_Md_byTwo_232 : decode b_Md_byTwo 232 = .ok (.lmul, 1) := by decide +kernel
theorem d_Md_byTwo_233 : decode b_Md_byTwo 233 = .ok (.aload_n 0, 1) := by decide +kernel
theorem d_Md_byTwo_234 : decode b_Md_byTwo 234 = .ok (.getfield 47, 3) := by decide +kernel
theorem d_Md_byTwo_237 : decode b_Md_byTwo 237 = .ok (.iload_n 1, 1) := by decide +kernel
theorem d_Md_byTwo_238 : decode b_Md_byTwo 238 = .ok (.laload, 1) := by decide +kernel
theorem d_Md_byTwo_239 : decode b_Md_byTwo 239 = .ok (.aload_n 0, 1) := by decide +kernel
theorem d_Md_byTwo_240 : decode b_Md_byTwo 240 = .ok (.getfield 119, 3) := by decide +kernel
theorem d_Md_byTwo_243 : decode b_Md_byTwo 243 = .ok (.lmul, 1) := by decide +kernel
theorem d_Md_byTwo_244 : decode b_Md_byTwo 244 = .ok (.lsub, 1) := by decide +kernel
theorem d_Md_byTwo_245 : decode b_Md_byTwo 245 = .ok (.aload_n 0, 1) := by decide +kernel
theorem d_Md_byTwo_246 : decode b_Md_byTwo 246 = .ok (.getfield 159, 3) := by decide +kernel
theorem d_Md_byTwo_249 : decode b_Md_byTwo 249 = .ok (.lmul, 1) := by decide +kernel
theorem d_Md_byTwo_250 : decode b_Md_byTwo 250 = .ok (.ladd, 1) := by decide +kernel
theorem d_Md_byTwo_251 : decode b_Md_byTwo 251 = .ok (.lstore 7, 2) := by decide +kernel
theorem d_Md_byTwo_253 : decode b_Md_byTwo 253 = .ok (.lload 5, 2) := by decide +kernel
theorem d_Md_byTwo_255 : decode b_Md_byTwo 255 = .ok (.lconst 0, 1) := by decide +kernel
theorem d_Md_byTwo_256 : decode b_Md_byTwo 256 = .ok (.lcmp, 1) := by decide +kernel
theorem d_Md_byTwo_257 : decode b_Md_byTwo 257 = .ok (.ifCond .lt 34, 3) := by decide +kernel
theorem d_Md_byTwo_260 : decode b_Md_byTwo 260 = .ok (.lload 7, 2) := by decide +kernel
theorem d_Md_byTwo_262 : decode b_Md_byTwo 262 = .ok (.lconst 0, 1) := by decide +kernel
theorem d_Md_byTwo_263 : decode b_Md_byTwo 263 = .ok (.lcmp, 1) := by decide +kernel
theorem d_Md_byTwo_264 : decode b_Md_byTwo 264 = .ok (.ifCond .lt 27, 3) := by decide +kernel
theorem d_Md_byTwo_267 : decode b_Md_byTwo 267 = .ok (.aload_n 0, 1) := by decide +kernel
theorem d_Md_byTwo_268 : decode b_Md_byTwo 268 = .ok (.lload 5, 2) := by decide +kernel
theorem d_Md_byTwo_270 : decode b_Md_byTwo 270 = .ok (.aload_n 0, 1) := by decide +kernel
theorem d_Md_byTwo_271 : decode b_Md_byTwo 271 = .ok (.getfield 53, 3) := by decide +kernel
theorem d_Md_byTwo_274 : decode b_Md_byTwo 274 = .ok (.iload_n 1, 1) := by decide +kernel
theorem d_Md_byTwo_275 : decode b_Md_byTwo 275 = .ok (.laload, 1) := by decide +kernel
theorem d_Md_byTwo_276 : decode b_Md_byTwo 276 = .ok (.lmul, 1) := by decide +kernel
theorem d_Md_byTwo_277 : decode b_Md_byTwo 277 = .ok (.lload 7, 2) := by decide +kernel
theorem d_Md_byTwo_279 : decode b_Md_byTwo 279 = .ok (.aload_n 0, 1) := by decide +kernel
theorem d_Md_byTwo_280 : decode b_Md_byTwo 280 = .ok (.getfield 53, 3) := by decide +kernel
theorem d_Md_byTwo_283 : decode b_Md_byTwo 283 = .ok (.iload_n 2, 1) := by decide +kernel
theorem d_Md_byTwo_284 : decode b_Md_byTwo 284 = .ok (.laload, 1) := by decide +kernel
theorem d_Md_byTwo_285 : decode b_Md_byTwo 285 = .ok (.lmul, 1) := by decide +kernel
theorem d_Md_byTwo_286 : decode b_Md_byTwo 286 = .ok (.ladd, 1) := by decide +kernel
theorem d_Md_byTwo_287 : decode b_Md_byTwo 287 = .ok (.lload_n 3, 1) := by decide +kernel
theorem d_Md_byTwo_288 : decode b_Md_byTwo 288 = .ok (.invokevirtual 137, 3) := by decide +kernel
theorem d_Md_byTwo_291 : decode b_Md_byTwo 291 = .ok (.return_, 1) := by decide +kernel
theorem d_Md_upright_0 : decode b_Md_upright 0 = .ok (.aload_n 0, 1) := by decide +kernel
theorem d_Md_upright_1 : decode b_Md_upright 1 = .ok (.aload_n 0, 1) := by decide +kernel
theorem d_Md_upright_2 : decode b_Md_upright 2 = .ok (.getfield 47, 3) := by decide +kernel
theorem d_Md_upright_5 : decode b_Md_upright 5 = .ok (.iload_n 1, 1) := by decide +kernel
theorem d_Md_upright_6 : decode b_Md_upright 6 = .ok (.laload, 1) := by decide +kernel
theorem d_Md_upright_7 : decode b_Md_upright 7 = .ok (.aload_n 0, 1) := by decide +kernel
theorem d_Md_upright_8 : decode b_Md_upright 8 = .ok (.getfield 50, 3) := by decide +kernel
theorem d_Md_upright_11 : decode b_Md_upright 11 = .ok (.iload_n 2, 1) := by decide +kernel
theorem d_Md_upright_12 : decode b_Md_upright 12 = .ok (.laload, 1) := by decide +kernel
theorem d_Md_upright_13 : decode b_Md_upright 13 = .ok (.lmul, 1) := by decide +kernel
theorem d_Md_upright_14 : decode b_Md_upright 14 = .ok (.aload_n 0, 1) := by decide +kernel
theorem d_Md_upright_15 : decode b_Md_upright 15 = .ok (.getfield 50, 3) := by decide +kernel
theorem d_Md_upright_18 : decode b_Md_upright 18 = .ok (.iload_n 1, 1) := by decide +kernel
theorem d_Md_upright_19 : decode b_Md_upright 19 = .ok (.laload, 1) := by decide +kernel
theorem d_Md_upright_20 : decode b_Md_upright 20 = .ok (.aload_n 0, 1) := by decide +kernel
theorem d_Md_upright_21 : decode b_Md_upright 21 = .ok (.getfield 47, 3) := by decide +kernel
theorem d_Md_upright_24 : decode b_Md_upright 24 = .ok (.iload_n 2, 1) := by decide +kernel
theorem d_Md_upright_25 : decode b_Md_upright 25 = .ok (.laload, 1) := by decide +kernel
theorem d_Md_upright_26 : decode b_Md_upright 26 = .ok (.lmul, 1) := by decide +kernel
theorem d_Md_upright_27 : decode b_Md_upright 27 = .ok (.lsub, 1) := by decide +kernel
theorem d_Md_upright_28 : decode b_Md_upright 28 = .ok (.putfield 153, 3) := by decide +kernel
theorem d_Md_upright_31 : decode b_Md_upright 31 = .ok (.aload_n 0, 1) := by decide +kernel
theorem d_Md_upright_32 : decode b_Md_upright 32 = .ok (.aload_n 0, 1) := by decide +kernel
theorem d_Md_upright_33 : decode b_Md_upright 33 = .ok (.getfield 50, 3) := by decide +kernel
theorem d_Md_upright_36 : decode b_Md_upright 36 = .ok (.iload_n 1, 1) := by decide +kernel
theorem d_Md_upright_37 : decode b_Md_upright 37 = .ok (.laload, 1) := by decide +kernel
theorem d_Md_upright_38 : decode b_Md_upright 38 = .ok (.aload_n 0, 1) := by decide +kernel
theorem d_Md_upright_39 : decode b_Md_upright 39 = .ok (.getfield 44, 3) := by decide +kernel
theorem d_Md_upright_42 : decode b_Md_upright 42 = .ok (.iload_n 2, 1) := by decide +kernel
theorem d_Md_upright_43 : decode b_Md_upright 43 = .ok (.laload, 1) := by decide +kernel
theorem d_Md_upright_44 : decode b_Md_upright 44 = .ok (.lmul, 1) := by decide +kernel
theorem d_Md_upright_45 : decode b_Md_upright 45 = .ok (.aload_n 0, 1) := by decide +kernel
theorem d_Md_upright_46 : decode b_Md_upright 46 = .ok (.getfield 44, 3) := by decide +kernel
theorem d_Md_upright_49 : decode b_Md_upright 49 = .ok (.iload_n 1, 1) := by decide +kernel
theorem d_Md_upright_50 : decode b_Md_upright 50 = .ok (.laload, 1) := by decide +kernel
theorem d_Md_upright_51 : decode b_Md_upright 51 = .ok (.aload_n 0, 1) := by decide +kernel
theorem d_Md_upright_52 : decode b_Md_upright 52 = .ok (.getfield 50, 3) := by decide +kernel
theorem d_Md_upright_55 : decode b_Md_upright 55 = .ok (.iload_n 2, 1) := by decide +kernel
theorem d_Md_upright_56 : decode b_Md_upright 56 = .ok (.laload, 1) := by decide +kernel
theorem d_Md_upright_57 : decode b_Md_upright 57 = .ok (.lmul, 1) := by decide +kernel
theorem d_Md_upright_58 : decode b_Md_upright 58 = .ok (.lsub, 1) := by decide +kernel
theorem d_Md_upright_59 : decode b_Md_upright 59 = .ok (.putfield 156, 3) := by decide +kernel
theorem d_Md_upright_62 : decode b_Md_upright 62 = .ok (.aload_n 0, 1) := by decide +kernel
theorem d_Md_upright_63 : decode b_Md_upright 63 = .ok (.aload_n 0, 1) := by decide +kernel
theorem d_Md_upright_64 : decode b_Md_upright 64 = .ok (.getfield 44, 3) := by decide +kernel
theorem d_Md_upright_67 : decode b_Md_upright 67 = .ok (.iload_n 1, 1) := by decide +kernel
theorem d_Md_upright_68 : decode b_Md_upright 68 = .ok (.laload, 1) := by decide +kernel
theorem d_Md_upright_69 : decode b_Md_upright 69 = .ok (.aload_n 0, 1) := by decide +kernel
theorem d_Md_upright_70 : decode b_Md_upright 70 = .ok (.getfield 47, 3) := by decide +kernel
theorem d_Md_upright_73 : decode b_Md_upright 73 = .ok (.iload_n 2, 1) := by decide +kernel
theorem d_Md_upright_74 : decode b_Md_upright 74 = .ok (.laload, 1) := by decide +kernel
theorem d_Md_upright_75 : decode b_Md_upright 75 = .ok (.lmul, 1) := by decide +kernel
theorem d_Md_upright_76 : decode b_Md_upright 76 = .ok (.aload_n 0, 1) := by decide +kernel
theorem d_Md_upright_77 : decode b_Md_upright 77 = .ok (.getfield 47, 3) := by decide +kernel
theorem d_Md_upright_80 : decode b_Md_upright 80 = .ok (.iload_n 1, 1) := by decide +kernel
theorem d_Md_upright_81 : decode b_Md_upright 81 = .ok (.laload, 1) := by decide +kernel
theorem d_Md_upright_82 : decode b_Md_upright 82 = .ok (.aload_n 0, 1) := by decide +kernel
theorem d_Md_upright_83 : decode b_Md_upright 83 = .ok (.getfield 44, 3) := by decide +kernel
theorem d_Md_upright_86 : decode b_Md_upright 86 = .ok (.iload_n 2, 1) := by decide +kernel
theorem d_Md_upright_87 : decode b_Md_upright 87 = .ok (.laload, 1) := by decide +kernel
theorem d_Md_upright_88 : decode b_Md_upright 88 = .ok (.lmul, 1) := by decide +kernel
theorem d_Md_upright_89 : decode b_Md_upright 89 = .ok (.lsub, 1) := by decide +kernel
theorem d_Md_upright_90 : decode b_Md_upright 90 = .ok (.putfield 159, 3) := by decide +kernel
theorem d_Md_upright_93 : decode b_Md_upright 93 = .ok (.return_, 1) := by decide +kernel
theorem d_Md_byThree_0 : decode b_Md_byThree 0 = .ok (.aload_n 0, 1) := by decide +kernel
theorem d_Md_byThree_1 : decode b_Md_byThree 1 = .ok (.iload_n 1, 1) := by decide +kernel
theorem d_Md_byThree_2 : decode b_Md_byThree 2 = .ok (.iload_n 2, 1) := by decide +kernel
theorem d_Md_byThree_3 : decode b_Md_byThree 3 = .ok (.invokevirtual 162, 3) := by decide +kernel
theorem d_Md_byThree_6 : decode b_Md_byThree 6 = .ok (.aload_n 0, 1) := by decide +kernel
theorem d_Md_byThree_7 : decode b_Md_byThree 7 = .ok (.getfield 153, 3) := by decide +kernel
theorem d_Md_byThree_10 : decode b_Md_byThree 10 = .ok (.aload_n 0, 1) := by decide +kernel
theorem d_Md_byThree_11 : decode b_Md_byThree 11 = .ok (.getfield 44, 3) := by decide +kernel
theorem d_Md_byThree_14 : decode b_Md_byThree 14 = .ok (.iload_n 3, 1) := by decide +kernel
theorem d_Md_byThree_15 : decode b_Md_byThree 15 = .ok (.laload, 1) := by decide +kernel
theorem d_Md_byThree_16 : decode b_Md_byThree 16 = .ok (.lmul, 1) := by decide +kernel
theorem d_Md_byThree_17 : decode b_Md_byThree 17 = .ok (.aload_n 0, 1) := by decide +kernel
theorem d_Md_byThree_18 : decode b_Md_byThree 18 = .ok (.getfield 156, 3) := by decide +kernel
theorem d_Md_byThree_21 : decode b_Md_byThree 21 = .ok (.aload_n 0, 1) := by decide +kernel
theorem d_Md_byThree_22 : decode b_Md_byThree 22 = .ok (.getfield 47, 3) := by decide +kernel
theorem d_Md_byThree_25 : decode b_Md_byThree 25 = .ok (.iload_n 3, 1) := by decide +kernel
theorem d_Md_byThree_26 : decode b_Md_byThree 26 = .ok (.laload, 1) := by decide +kernel
theorem d_Md_byThree_27 : decode b_Md_byThree 27 = .ok (.lmul, 1) := by decide +kernel
theorem d_Md_byThree_28 : decode b_Md_byThree 28 = .ok (.ladd, 1) := by decide +kernel
theorem d_Md_byThree_29 : decode b_Md_byThree 29 = .ok (.aload_n 0, 1) := by decide +kernel
theorem d_Md_byThree_30 : decode b_Md_byThree 30 = .ok (.getfield 159, 3) := by decide +kernel
theorem d_Md_byThree_33 : decode b_Md_byThree 33 = .ok (.aload_n 0, 1) := by decide +kernel
theorem d_Md_byThree_34 : decode b_Md_byThree 34 = .ok (.getfield 50, 3) := by decide +kernel
theorem d_Md_byThree_37 : decode b_Md_byThree 37 = .ok (.iload_n 3, 1) := by decide +kernel
theorem d_Md_byThree_38 : decode b_Md_byThree 38 = .ok (.laload, 1) := by decide +kernel
theorem d_Md_byThree_39 : decode b_Md_byThree 39 = .ok (.lmul, 1) := by decide +kernel
theorem d_Md_byThree_40 : decode b_Md_byThree 40 = .ok (.ladd, 1) := by decide +kernel
theorem d_Md_byThree_41 : decode b_Md_byThree 41 = .ok (.lstore 4, 2) := by decide +kernel
theorem d_Md_byThree_43 : decode b_Md_byThree 43 = .ok (.lload 4, 2) := by decide +kernel
theorem d_Md_byThree_45 : decode b_Md_byThree 45 = .ok (.lconst 0, 1) := by decide +kernel
theorem d_Md_byThree_46 : decode b_Md_byThree 46 = .ok (.lcmp, 1) := by decide +kernel
theorem d_Md_byThree_47 : decode b_Md_byThree 47 = .ok (.ifCond .ne 4, 3) := by decide +kernel
theorem d_Md_byThree_50 : decode b_Md_byThree 50 = .ok (.return_, 1) := by decide +kernel
theorem d_Md_byThree_51 : decode b_Md_byThree 51 = .ok (.lload 4, 2) := by decide +kernel
theorem d_Md_byThree_53 : decode b_Md_byThree 53 = .ok (.lconst 0, 1) := by decide +kernel
theorem d_Md_byThree_54 : decode b_Md_byThree 54 = .ok (.lcmp, 1) := by decide +kernel
theorem d_Md_byThree_55 : decode b_Md_byThree 55 = .ok (.ifCond .le 7, 3) := by decide +kernel
theorem d_Md_byThree_58 : decode b_Md_byThree 58 = .ok (.lconst 1, 1) := by decide +kernel
theorem d_Md_byThree_59 : decode b_Md_byThree 59 = .ok (.goto 6, 3) := by decide +kernel
theorem d_Md_byThree_62 : decode b_Md_byThree 62 = .ok (.ldc2_w 165, 3) := by decide +kernel
theorem d_Md_byThree_65 : decode b_Md_byThree 65 = .ok (.lstore 6, 2) := by decide +kernel
theorem d_Md_byThree_67 : decode b_Md_byThree 67 = .ok (.lload 6, 2) := by decide +kernel
theorem d_Md_byThree_69 : decode b_Md_byThree 69 = .ok (.aload_n 0, 1) := by decide +kernel
theorem d_Md_byThree_70 : decode b_Md_byThree 70 = .ok (.getfield 153, 3) := by decide +kernel
theorem d_Md_byThree_73 : decode b_Md_byThree 73 = .ok (.aload_n 0, 1) := by decide +kernel
theorem d_Md_byThree_74 : decode b_Md_byThree 74 = .ok (.getfield 119, 3) := by decide +kernel
theorem d_Md_byThree_77 : decode b_Md_byThree 77 = .ok (.lmul, 1) := by decide +kernel
theorem d_Md_byThree_78 : decode b_Md_byThree 78 = .ok (.aload_n 0, 1) := by decide +kernel
theorem d_Md_byThree_79 : decode b_Md_byThree 79 = .ok (.getfield 156, 3) := by decide +kernel
theorem d_Md_byThree_82 : decode b_Md_byThree 82 = .ok (.aload_n 0, 1) := by decide +kernel
theorem d_Md_byThree_83 : decode b_Md_byThree 83 = .ok (.getfield 122, 3) := by decide +kernel
theorem d_Md_byThree_86 : decode b_Md_byThree 86 = .ok (.lmul, 1) := by decide +kernel
theorem d_Md_byThree_87 : decode b_Md_byThree 87 = .ok (.ladd, 1) := by decide +kernel
theorem d_Md_byThree_88 : decode b_Md_byThree 88 = .ok (.aload_n 0, 1) := by decide +kernel
theorem d_Md_byThree_89 : decode b_Md_byThree 89 = .ok (.getfield 159, 3) := by decide +kernel
theorem d_Md_byThree_92 : decode b_Md_byThree 92 = .ok (.aload_n 0, 1) := by decide +kernel
theorem d_Md_byThree_93 : decode b_Md_byThree 93 = .ok (.getfield 125, 3) := by decide +kernel
theorem d_Md_byThree_96 : decode b_Md_byThree 96 = .ok (.lmul, 1) := by decide +kernel
theorem d_Md_byThree_97 : decode b_Md_byThree 97 = .ok (.ladd, 1) := by decide +kernel
theorem d_Md_byThree_98 : decode b_Md_byThree 98 = .ok (.lmul, 1) := by decide +kernel
theorem d_Md_byThree_99 : decode b_Md_byThree 99 = .ok (.lstore 8, 2) := by decide +kernel
theorem d_Md_byThree_101 : decode b_Md_byThree 101 = .ok (.aload_n 0, 1) := by decide +kernel
theorem d_Md_byThree_102 : decode b_Md_byThree 102 = .ok (.iload_n 2, 1) := by decide +kernel
theorem d_Md_byThree_103 : decode b_Md_byThree 103 = .ok (.iload_n 3, 1) := by decide +kernel
theorem d_Md_byThree_104 : decode b_Md_byThree 104 = .ok (.invokevirtual 162, 3) := by decide +kernel
theorem d_Md_byThree_107 : decode b_Md_byThree 107 = .ok (.lload 6, 2) := by decide +kernel
theorem d_Md_byThree_109 : decode b_Md_byThree 109 = .ok (.aload_n 0, 1) := by decide +kernel
theorem d_Md_byThree_110 : decode b_Md_byThree 110 = .ok (.getfield 153, 3) := by decide +kernel
theorem d_Md_byThree_113 : decode b_Md_byThree 113 = .ok (.aload_n 0, 1) := by decide +kernel
theorem d_Md_byThree_114 : decode b_Md_byThree 114 = .ok (.getfield 119, 3) := by decide +kernel
theorem d_Md_byThree_117 : decode b_Md_byThree 117 = .ok (.lmul, 1) := by decide +kernel
theorem d_Md_byThree_118 : decode b_Md_byThree 118 = .ok (.aload_n 0, 1) := by decide +kernel
theorem d_Md_byThree_119 : decode b_Md_byThree 119 = .ok (.getfield 156, 3) := by decide +kernel
theorem d_Md_byThree_122 : decode b_Md_byThree 122 = .ok (.aload_n 0, 1) := by decide +kernel
theorem d_Md_byThree_123 : decode b_Md_byThree 123 = .ok (.getfield 122, 3) := by decide +kernel
theorem d_Md_byThree_126 : decode b_Md_byThree 126 = .ok (.lmul, 1) := by decide +kernel
theorem d_Md_byThree_127 : decode b_Md_byThree 127 = .ok (.ladd, 1) := by decide +kernel
theorem d_Md_byThree_128 : decode b_Md_byThree 128 = .ok (.aload_n 0, 1) := by decide +kernel
theorem d_Md_byThree_129 : decode b_Md_byThree 129 = .ok (.getfield 159, 3) := by decide +kernel
theorem d_Md_byThree_132 : decode b_Md_byThree 132 = .ok (.aload_n 0, 1) := by decide +kernel
theorem d_Md_byThree_133 : decode b_Md_byThree 133 = .ok (.getfield 125, 3) := by decide +kernel
theorem d_Md_byThree_136 : decode b_Md_byThree 136 = .ok (.lmul, 1) := by decide +kernel
theorem d_Md_byThree_137 : decode b_Md_byThree 137 = .ok (.ladd, 1) := by decide +kernel
theorem d_Md_byThree_138 : decode b_Md_byThree 138 = .ok (.lmul, 1) := by decide +kernel
theorem d_Md_byThree_139 : decode b_Md_byThree 139 = .ok (.lstore 10, 2) := by decide +kernel
theorem d_Md_byThree_141 : decode b_Md_byThree 141 = .ok (.aload_n 0, 1) := by decide +kernel
theorem d_Md_byThree_142 : decode b_Md_byThree 142 = .ok (.iload_n 3, 1) := by decide +kernel
theorem d_Md_byThree_143 : decode b_Md_byThree 143 = .ok (.iload_n 1, 1) := by decide +kernel
theorem d_Md_byThree_144 : decode b_Md_byThree 144 = .ok (.invokevirtual 162, 3) := by decide +kernel
theorem d_Md_byThree_147 : decode b_Md_byThree 147 = .ok (.lload 6, 2) := by decide +kernel
theorem d_Md_byThree_149 : decode b_Md_byThree 149 = .ok (.aload_n 0, 1) := by decide +kernel
theorem d_Md_byThree_150 : decode b_Md_byThree 150 = .ok (.getfield 153, 3) := by decide +kernel
theorem d_Md_byThree_153 : decode b_Md_byThree 153 = .ok (.aload_n 0, 1) := by decide +kernel
theorem d_Md_byThree_154 : decode b_Md_byThree 154 = .ok (.getfield 119, 3) := by decide +kernel
theorem d_Md_byThree_157 : decode b_Md_byThree 157 = .ok (.lmul, 1) := by decide +kernel
theorem d_Md_byThree_158 : decode b_Md_byThree 158 = .ok (.aload_n 0, 1) := by decide +kernel
theorem d_Md_byThree_159 : decode b_Md_byThree 159 = .ok (.getfield 156, 3) := by decide +kernel
theorem d_Md_byThree_162 : decode b_Md_byThree 162 = .ok (.aload_n 0, 1) := by decide +kernel
theorem d_Md_byThree_163 : decode b_Md_byThree 163 = .ok (.getfield 122, 3) := by decide +kernel
theorem d_Md_byThree_166 : decode b_Md_byThree 166 = .ok (.lmul, 1) := by decide +kernel
theorem d_Md_byThree_167 : decode b_Md_byThree 167 = .ok (.ladd, 1) := by decide +kernel
theorem d_Md_byThree_168 : decode b_Md_byThree 168 = .ok (.aload_n 0, 1) := by decide +kernel
theorem d_Md_byThree_169 : decode b_Md_byThree 169 = .ok (.getfield 159, 3) := by decide +kernel
theorem d_Md_byThree_172 : decode b_Md_byThree 172 = .ok (.aload_n 0, 1) := by decide +kernel
theorem d_Md_byThree_173 : decode b_Md_byThree 173 = .ok (.getfield 125, 3) := by decide +kernel
theorem d_Md_byThree_176 : decode b_Md_byThree 176 = .ok (.lmul, 1) := by decide +kernel
theorem d_Md_byThree_177 : decode b_Md_byThree 177 = .ok (.ladd, 1) := by decide +kernel
theorem d_Md_byThree_178 : decode b_Md_byThree 178 = .ok (.lmul, 1) := by decide +kernel
theorem d_Md_byThree_179 : decode b_Md_byThree 179 = .ok (.lstore 12, 2) := by decide +kernel
theorem d_Md_byThree_181 : decode b_Md_byThree 181 = .ok (.lload 10, 2) := by decide +kernel
theorem d_Md_byThree_183 : decode b_Md_byThree 183 = .ok (.lconst 0, 1) := by decide +kernel
theorem d_Md_byThree_184 : decode b_Md_byThree 184 = .ok (.lcmp, 1) := by decide +kernel
theorem d_Md_byThree_185 : decode b_Md_byThree 185 = .ok (.ifCond .lt 55, 3) := by decide +kernel
theorem d_Md_byThree_188 : decode b_Md_byThree 188 = .ok (.lload 12, 2) := by decide +kernel
theorem d_Md_byThree_190 : decode b_Md_byThree 190 = .ok (.lconst 0, 1) := by decide +kernel
theorem d_Md_byThree_191 : decode b_Md_byThree 191 = .ok (.lcmp, 1) := by decide +kernel
theorem d_Md_byThree_192 : decode b_Md_byThree 192 = .ok (.ifCond .lt 48, 3) := by decide +kernel
theorem d_Md_byThree_195 : decode b_Md_byThree 195 = .ok (.lload 8, 2) := by decide +kernel
theorem d_Md_byThree_197 : decode b_Md_byThree 197 = .ok (.lconst 0, 1) := by decide +kernel
theorem d_Md_byThree_198 : decode b_Md_byThree 198 = .ok (.lcmp, 1) := by decide +kernel
theorem d_Md_byThree_199 : decode b_Md_byThree 199 = .ok (.ifCond .lt 41, 3) := by decide +kernel
theorem d_Md_byThree_202 : decode b_Md_byThree 202 = .ok (.aload_n 0, 1) := by decide +kernel
theorem d_Md_byThree_203 : decode b_Md_byThree 203 = .ok (.lload 10, 2) := by decide +kernel
theorem d_Md_byThree_205 : decode b_Md_byThree 205 = .ok (.aload_n 0, 1) := by decide +kernel
theorem d_Md_byThree_206 : decode b_Md_byThree 206 = .ok (.getfield 53, 3) := by decide +kernel
theorem d_Md_byThree_209 : decode b_Md_byThree 209 = .ok (.iload_n 1, 1) := by decide +kernel
