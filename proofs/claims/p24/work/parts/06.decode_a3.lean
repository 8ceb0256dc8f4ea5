theorem d_Md_need_168 : decode b_Md_need 168 = .ok (.ifCond .eq 7, 3) := by decide +kernel
theorem d_Md_need_171 : decode b_Md_need 171 = .ok (.iconst 1, 1) := by decide +kernel
theorem d_Md_need_172 : decode b_Md_need 172 = .ok (.goto 4, 3) := by decide +kernel
theorem d_Md_need_175 : decode b_Md_need 175 = .ok (.iconst 0, 1) := by decide +kernel
theorem d_Md_need_176 : decode b_Md_need 176 = .ok (.ireturn, 1) := by decide +kernel
theorem d_Md_lasts_0 : decode b_Md_lasts 0 = .ok (.iconst 0, 1) := by decide +kernel
theorem d_Md_lasts_1 : decode b_Md_lasts 1 = .ok (.istore_n 2, 1) := by decide +kernel
theorem d_Md_lasts_2 : decode b_Md_lasts 2 = .ok (.iload_n 2, 1) := by decide +kernel
theorem d_Md_lasts_3 : decode b_Md_lasts 3 = .ok (.aload_n 0, 1) := by decide +kernel
theorem d_Md_lasts_4 : decode b_Md_lasts 4 = .ok (.getfield 13, 3) := by decide +kernel
theorem d_Md_lasts_7 : decode b_Md_lasts 7 = .ok (.iload_n 1, 1) := by decide +kernel
theorem d_Md_lasts_8 : decode b_Md_lasts 8 = .ok (.iaload, 1) := by decide +kernel
theorem d_Md_lasts_9 : decode b_Md_lasts 9 = .ok (.if_icmp .ge 57, 3) := by decide +kernel
theorem d_Md_lasts_12 : decode b_Md_lasts 12 = .ok (.aload_n 0, 1) := by decide +kernel
theorem d_Md_lasts_13 : decode b_Md_lasts 13 = .ok (.iload_n 1, 1) := by decide +kernel
theorem d_Md_lasts_14 : decode b_Md_lasts 14 = .ok (.iload_n 2, 1) := by decide +kernel
theorem d_Md_lasts_15 : decode b_Md_lasts 15 = .ok (.iconst 1, 1) := by decide +kernel
theorem d_Md_lasts_16 : decode b_Md_lasts 16 = .ok (.invokevirtual 174, 3) := by decide +kernel
theorem d_Md_lasts_19 : decode b_Md_lasts 19 = .ok (.aload_n 0, 1) := by decide +kernel
theorem d_Md_lasts_20 : decode b_Md_lasts 20 = .ok (.invokevirtual 178, 3) := by decide +kernel
theorem d_Md_lasts_23 : decode b_Md_lasts 23 = .ok (.ifCond .ne 37, 3) := by decide +kernel
theorem d_Md_lasts_26 : decode b_Md_lasts 26 = .ok (.aload_n 0, 1) := by decide +kernel
theorem d_Md_lasts_27 : decode b_Md_lasts 27 = .ok (.iload_n 1, 1) := by decide +kernel
theorem d_Md_lasts_28 : decode b_Md_lasts 28 = .ok (.iload_n 2, 1) := by decide +kernel
theorem d_Md_lasts_29 : decode b_Md_lasts 29 = .ok (.aload_n 0, 1) := by decide +kernel
theorem d_Md_lasts_30 : decode b_Md_lasts 30 = .ok (.getfield 106, 3) := by decide +kernel
theorem d_Md_lasts_33 : decode b_Md_lasts 33 = .ok (.aload_n 0, 1) := by decide +kernel
theorem d_Md_lasts_34 : decode b_Md_lasts 34 = .ok (.getfield 110, 3) := by decide +kernel
theorem d_Md_lasts_37 : decode b_Md_lasts 37 = .ok (.aload_n 0, 1) := by decide +kernel
theorem d_Md_lasts_38 : decode b_Md_lasts 38 = .ok (.getfield 113, 3) := by decide +kernel
theorem d_Md_lasts_41 : decode b_Md_lasts 41 = .ok (.invokevirtual 186, 3) := by decide +kernel
theorem d_Md_lasts_44 : decode b_Md_lasts 44 = .ok (.lstore_n 3, 1) := by decide +kernel
theorem d_Md_lasts_45 : decode b_Md_lasts 45 = .ok (.aload_n 0, 1) := by decide +kernel
theorem d_Md_lasts_46 : decode b_Md_lasts 46 = .ok (.aload_n 0, 1) := by decide +kernel
theorem d_Md_lasts_47 : decode b_Md_lasts 47 = .ok (.getfield 116, 3) := by decide +kernel
theorem d_Md_lasts_50 : decode b_Md_lasts 50 = .ok (.lload_n 3, 1) := by decide +kernel
theorem d_Md_lasts_51 : decode b_Md_lasts 51 = .ok (.lsub, 1) := by decide +kernel
theorem d_Md_lasts_52 : decode b_Md_lasts 52 = .ok (.invokevirtual 182, 3) := by decide +kernel
theorem d_Md_lasts_55 : decode b_Md_lasts 55 = .ok (.ifCond .ne 5, 3) := by decide +kernel
theorem d_Md_lasts_58 : decode b_Md_lasts 58 = .ok (.iconst 0, 1) := by decide +kernel
theorem d_Md_lasts_59 : decode b_Md_lasts 59 = .ok (.ireturn, 1) := by decide +kernel
theorem d_Md_lasts_60 : decode b_Md_lasts 60 = .ok (.iinc 2 1, 3) := by decide +kernel
theorem d_Md_lasts_63 : decode b_Md_lasts 63 = .ok (.goto (-61), 3) := by decide +kernel
theorem d_Md_lasts_66 : decode b_Md_lasts 66 = .ok (.iconst 1, 1) := by decide +kernel
theorem d_Md_lasts_67 : decode b_Md_lasts 67 = .ok (.ireturn, 1) := by decide +kernel
theorem d_Md_needed_0 : decode b_Md_needed 0 = .ok (.aload_n 0, 1) := by decide +kernel
theorem d_Md_needed_1 : decode b_Md_needed 1 = .ok (.getfield 81, 3) := by decide +kernel
theorem d_Md_needed_4 : decode b_Md_needed 4 = .ok (.ifCond .eq 21, 3) := by decide +kernel
theorem d_Md_needed_7 : decode b_Md_needed 7 = .ok (.iload_n 1, 1) := by decide +kernel
theorem d_Md_needed_8 : decode b_Md_needed 8 = .ok (.iconst 0, 1) := by decide +kernel
theorem d_Md_needed_9 : decode b_Md_needed 9 = .ok (.iconst 3, 1) := by decide +kernel
theorem d_Md_needed_10 : decode b_Md_needed 10 = .ok (.invokestatic 63, 3) := by decide +kernel
theorem d_Md_needed_13 : decode b_Md_needed 13 = .ok (.ifCond .eq 12, 3) := by decide +kernel
theorem d_Md_needed_16 : decode b_Md_needed 16 = .ok (.aload_n 0, 1) := by decide +kernel
theorem d_Md_needed_17 : decode b_Md_needed 17 = .ok (.getfield 41, 3) := by decide +kernel
theorem d_Md_needed_20 : decode b_Md_needed 20 = .ok (.iload_n 1, 1) := by decide +kernel
theorem d_Md_needed_21 : decode b_Md_needed 21 = .ok (.iaload, 1) := by decide +kernel
theorem d_Md_needed_22 : decode b_Md_needed 22 = .ok (.goto 6, 3) := by decide +kernel
theorem d_Md_needed_25 : decode b_Md_needed 25 = .ok (.sipush (-1000), 3) := by decide +kernel
theorem d_Md_needed_28 : decode b_Md_needed 28 = .ok (.ireturn, 1) := by decide +kernel
theorem d_Md_put_0 : decode b_Md_put 0 = .ok (.aload_n 0, 1) := by decide +kernel
theorem d_Md_put_1 : decode b_Md_put 1 = .ok (.iload_n 1, 1) := by decide +kernel
theorem d_Md_put_2 : decode b_Md_put 2 = .ok (.iload_n 2, 1) := by decide +kernel
theorem d_Md_put_3 : decode b_Md_put 3 = .ok (.invokevirtual 96, 3) := by decide +kernel
theorem d_Md_put_6 : decode b_Md_put 6 = .ok (.ifCond .ne 6, 3) := by decide +kernel
theorem d_Md_put_9 : decode b_Md_put 9 = .ok (.bipush (-2), 2) := by decide +kernel
theorem d_Md_put_11 : decode b_Md_put 11 = .ok (.ireturn, 1) := by decide +kernel
theorem d_Md_put_12 : decode b_Md_put 12 = .ok (.iload_n 3, 1) := by decide +kernel
theorem d_Md_put_13 : decode b_Md_put 13 = .ok (.ldc 211, 2) := by decide +kernel
theorem d_Md_put_15 : decode b_Md_put 15 = .ok (.ldc 212, 2) := by decide +kernel
theorem d_Md_put_17 : decode b_Md_put 17 = .ok (.invokestatic 63, 3) := by decide +kernel
theorem d_Md_put_20 : decode b_Md_put 20 = .ok (.ifCond .ne 6, 3) := by decide +kernel
theorem d_Md_put_23 : decode b_Md_put 23 = .ok (.bipush (-3), 2) := by decide +kernel
theorem d_Md_put_25 : decode b_Md_put 25 = .ok (.ireturn, 1) := by decide +kernel
theorem d_Md_put_26 : decode b_Md_put 26 = .ok (.aload_n 0, 1) := by decide +kernel
theorem d_Md_put_27 : decode b_Md_put 27 = .ok (.getfield 34, 3) := by decide +kernel
theorem d_Md_put_30 : decode b_Md_put 30 = .ok (.iconst 3, 1) := by decide +kernel
theorem d_Md_put_31 : decode b_Md_put 31 = .ok (.iload_n 1, 1) := by decide +kernel
theorem d_Md_put_32 : decode b_Md_put 32 = .ok (.imul, 1) := by decide +kernel
theorem d_Md_put_33 : decode b_Md_put 33 = .ok (.iload_n 2, 1) := by decide +kernel
theorem d_Md_put_34 : decode b_Md_put 34 = .ok (.iadd, 1) := by decide +kernel
theorem d_Md_put_35 : decode b_Md_put 35 = .ok (.iload_n 3, 1) := by decide +kernel
theorem d_Md_put_36 : decode b_Md_put 36 = .ok (.i2l, 1) := by decide +kernel
theorem d_Md_put_37 : decode b_Md_put 37 = .ok (.lastore, 1) := by decide +kernel
theorem d_Md_put_38 : decode b_Md_put 38 = .ok (.iconst 1, 1) := by decide +kernel
theorem d_Md_put_39 : decode b_Md_put 39 = .ok (.ireturn, 1) := by decide +kernel
theorem d_Md_at_0 : decode b_Md_at 0 = .ok (.aload_n 0, 1) := by decide +kernel
theorem d_Md_at_1 : decode b_Md_at 1 = .ok (.iload_n 1, 1) := by decide +kernel
theorem d_Md_at_2 : decode b_Md_at 2 = .ok (.iload_n 2, 1) := by decide +kernel
theorem d_Md_at_3 : decode b_Md_at 3 = .ok (.invokevirtual 96, 3) := by decide +kernel
theorem d_Md_at_6 : decode b_Md_at 6 = .ok (.ifCond .eq 16, 3) := by decide +kernel
theorem d_Md_at_9 : decode b_Md_at 9 = .ok (.aload_n 0, 1) := by decide +kernel
theorem d_Md_at_10 : decode b_Md_at 10 = .ok (.getfield 34, 3) := by decide +kernel
theorem d_Md_at_13 : decode b_Md_at 13 = .ok (.iconst 3, 1) := by decide +kernel
theorem d_Md_at_14 : decode b_Md_at 14 = .ok (.iload_n 1, 1) := by decide +kernel
theorem d_Md_at_15 : decode b_Md_at 15 = .ok (.imul, 1) := by decide +kernel
theorem d_Md_at_16 : decode b_Md_at 16 = .ok (.iload_n 2, 1) := by decide +kernel
theorem d_Md_at_17 : decode b_Md_at 17 = .ok (.iadd, 1) := by decide +kernel
theorem d_Md_at_18 : decode b_Md_at 18 = .ok (.laload, 1) := by decide +kernel
theorem d_Md_at_19 : decode b_Md_at 19 = .ok (.goto 6, 3) := by decide +kernel
theorem d_Md_at_22 : decode b_Md_at 22 = .ok (.ldc2_w 213, 3) := by decide +kernel
theorem d_Md_at_25 : decode b_Md_at 25 = .ok (.lreturn, 1) := by decide +kernel
theorem d_Md_open_0 : decode b_Md_open 0 = .ok (.aload_n 0, 1) := by decide +kernel
theorem d_Md_open_1 : decode b_Md_open 1 = .ok (.iload_n 1, 1) := by decide +kernel
theorem d_Md_open_2 : decode b_Md_open 2 = .ok (.invokevirtual 67, 3) := by decide +kernel
theorem d_Md_open_5 : decode b_Md_open 5 = .ok (.ifCond .ne 6, 3) := by decide +kernel
theorem d_Md_open_8 : decode b_Md_open 8 = .ok (.bipush (-2), 2) := by decide +kernel
theorem d_Md_open_10 : decode b_Md_open 10 = .ok (.ireturn, 1) := by decide +kernel
theorem d_Md_open_11 : decode b_Md_open 11 = .ok (.aload_n 0, 1) := by decide +kernel
theorem d_Md_open_12 : decode b_Md_open 12 = .ok (.iload_n 1, 1) := by decide +kernel
theorem d_Md_open_13 : decode b_Md_open 13 = .ok (.invokevirtual 246, 3) := by decide +kernel
theorem d_Md_open_16 : decode b_Md_open 16 = .ok (.aload_n 0, 1) := by decide +kernel
theorem d_Md_open_17 : decode b_Md_open 17 = .ok (.iload_n 1, 1) := by decide +kernel
theorem d_Md_open_18 : decode b_Md_open 18 = .ok (.invokevirtual 239, 3) := by decide +kernel
theorem d_Md_open_21 : decode b_Md_open 21 = .ok (.ireturn, 1) := by decide +kernel
theorem d_Md_stand_0 : decode b_Md_stand 0 = .ok (.aload_n 0, 1) := by decide +kernel
theorem d_Md_stand_1 : decode b_Md_stand 1 = .ok (.aload_n 0, 1) := by decide +kernel
theorem d_Md_stand_2 : decode b_Md_stand 2 = .ok (.getfield 34, 3) := by decide +kernel
theorem d_Md_stand_5 : decode b_Md_stand 5 = .ok (.iconst 3, 1) := by decide +kernel
theorem d_Md_stand_6 : decode b_Md_stand 6 = .ok (.iload_n 1, 1) := by decide +kernel
theorem d_Md_stand_7 : decode b_Md_stand 7 = .ok (.imul, 1) := by decide +kernel
theorem d_Md_stand_8 : decode b_Md_stand 8 = .ok (.laload, 1) := by decide +kernel
theorem d_Md_stand_9 : decode b_Md_stand 9 = .ok (.putfield 215, 3) := by decide +kernel
theorem d_Md_stand_12 : decode b_Md_stand 12 = .ok (.aload_n 0, 1) := by decide +kernel
theorem d_Md_stand_13 : decode b_Md_stand 13 = .ok (.aload_n 0, 1) := by decide +kernel
theorem d_Md_stand_14 : decode b_Md_stand 14 = .ok (.getfield 34, 3) := by decide +kernel
theorem d_Md_stand_17 : decode b_Md_stand 17 = .ok (.iconst 3, 1) := by decide +kernel
theorem d_Md_stand_18 : decode b_Md_stand 18 = .ok (.iload_n 1, 1) := by decide +kernel
theorem d_Md_stand_19 : decode b_Md_stand 19 = .ok (.imul, 1) := by decide +kernel
theorem d_Md_stand_20 : decode b_Md_stand 20 = .ok (.iconst 1, 1) := by decide +kernel
theorem d_Md_stand_21 : decode b_Md_stand 21 = .ok (.iadd, 1) := by decide +kernel
theorem d_Md_stand_22 : decode b_Md_stand 22 = .ok (.laload, 1) := by decide +kernel
theorem d_Md_stand_23 : decode b_Md_stand 23 = .ok (.putfield 218, 3) := by decide +kernel
theorem d_Md_stand_26 : decode b_Md_stand 26 = .ok (.aload_n 0, 1) := by decide +kernel
theorem d_Md_stand_27 : decode b_Md_stand 27 = .ok (.aload_n 0, 1) := by decide +kernel
theorem d_Md_stand_28 : decode b_Md_stand 28 = .ok (.getfield 34, 3) := by decide +kernel
theorem d_Md_stand_31 : decode b_Md_stand 31 = .ok (.iconst 3, 1) := by decide +kernel
theorem d_Md_stand_32 : decode b_Md_stand 32 = .ok (.iload_n 1, 1) := by decide +kernel
theorem d_Md_stand_33 : decode b_Md_stand 33 = .ok (.imul, 1) := by decide +kernel
theorem d_Md_stand_34 : decode b_Md_stand 34 = .ok (.iconst 2, 1) := by decide +kernel
theorem d_Md_stand_35 : decode b_Md_stand 35 = .ok (.iadd, 1) := by decide +kernel
theorem d_Md_stand_36 : decode b_Md_stand 36 = .ok (.laload, 1) := by decide +kernel
theorem d_Md_stand_37 : decode b_Md_stand 37 = .ok (.putfield 221, 3) := by decide +kernel
theorem d_Md_stand_40 : decode b_Md_stand 40 = .ok (.return_, 1) := by decide +kernel
theorem d_Md_openAt_0 : decode b_Md_openAt 0 = .ok (.iconst 0, 1) := by decide +kernel
theorem d_Md_openAt_1 : decode b_Md_openAt 1 = .ok (.istore_n 2, 1) := by decide +kernel
theorem d_Md_openAt_2 : decode b_Md_openAt 2 = .ok (.iload_n 2, 1) := by decide +kernel
theorem d_Md_openAt_3 : decode b_Md_openAt 3 = .ok (.aload_n 0, 1) := by decide +kernel
theorem d_Md_openAt_4 : decode b_Md_openAt 4 = .ok (.getfield 16, 3) := by decide +kernel
theorem d_Md_openAt_7 : decode b_Md_openAt 7 = .ok (.iload_n 1, 1) := by decide +kernel
theorem d_Md_openAt_8 : decode b_Md_openAt 8 = .ok (.iaload, 1) := by decide +kernel
theorem d_Md_openAt_9 : decode b_Md_openAt 9 = .ok (.if_icmp .ge 30, 3) := by decide +kernel
theorem d_Md_openAt_12 : decode b_Md_openAt 12 = .ok (.aload_n 0, 1) := by decide +kernel
theorem d_Md_openAt_13 : decode b_Md_openAt 13 = .ok (.aload_n 0, 1) := by decide +kernel
theorem d_Md_openAt_14 : decode b_Md_openAt 14 = .ok (.getfield 19, 3) := by decide +kernel
theorem d_Md_openAt_17 : decode b_Md_openAt 17 = .ok (.bipush 16, 2) := by decide +kernel
theorem d_Md_openAt_19 : decode b_Md_openAt 19 = .ok (.iload_n 1, 1) := by decide +kernel
theorem d_Md_openAt_20 : decode b_Md_openAt 20 = .ok (.imul, 1) := by decide +kernel
theorem d_Md_openAt_21 : decode b_Md_openAt 21 = .ok (.iconst 4, 1) := by decide +kernel
theorem d_Md_openAt_22 : decode b_Md_openAt 22 = .ok (.iload_n 2, 1) := by decide +kernel
theorem d_Md_openAt_23 : decode b_Md_openAt 23 = .ok (.imul, 1) := by decide +kernel
theorem d_Md_openAt_24 : decode b_Md_openAt 24 = .ok (.iadd, 1) := by decide +kernel
theorem d_Md_openAt_25 : decode b_Md_openAt 25 = .ok (.invokevirtual 224, 3) := by decide +kernel
theorem d_Md_openAt_28 : decode b_Md_openAt 28 = .ok (.ifCond .ne 5, 3) := by decide +kernel
theorem d_Md_openAt_31 : decode b_Md_openAt 31 = .ok (.iconst 0, 1) := by decide +kernel
theorem d_Md_openAt_32 : decode b_Md_openAt 32 = .ok (.ireturn, 1) := by decide +kernel
theorem d_Md_openAt_33 : decode b_Md_openAt 33 = .ok (.iinc 2 1, 3) := by decide +kernel
theorem d_Md_openAt_36 : decode b_Md_openAt 36 = .ok (.goto (-34), 3) := by decide +kernel
theorem d_Md_openAt_39 : decode b_Md_openAt 39 = .ok (.iconst 0, 1) := by decide +kernel
theorem d_Md_openAt_40 : decode b_Md_openAt 40 = .ok (.istore_n 2, 1) := by decide +kernel
theorem d_Md_openAt_41 : decode b_Md_openAt 41 = .ok (.iconst 0, 1) := by decide +kernel
theorem d_Md_openAt_42 : decode b_Md_openAt 42 = .ok (.istore_n 3, 1) := by decide +kernel
theorem d_Md_openAt_43 : decode b_Md_openAt 43 = .ok (.iload_n 3, 1) := by decide +kernel
theorem d_Md_openAt_44 : decode b_Md_openAt 44 = .ok (.aload_n 0, 1) := by decide +kernel
theorem d_Md_openAt_45 : decode b_Md_openAt 45 = .ok (.getfield 13, 3) := by decide +kernel
theorem d_Md_openAt_48 : decode b_Md_openAt 48 = .ok (.iload_n 1, 1) := by decide +kernel
theorem d_Md_openAt_49 : decode b_Md_openAt 49 = .ok (.iaload, 1) := by decide +kernel
theorem d_Md_openAt_50 : decode b_Md_openAt 50 = .ok (.if_icmp .ge 88, 3) := by decide +kernel
theorem d_Md_openAt_53 : decode b_Md_openAt 53 = .ok (.iconst 3, 1) := by decide +kernel
theorem d_Md_openAt_54 : decode b_Md_openAt 54 = .ok (.iload_n 1, 1) := by decide +kernel
theorem d_Md_openAt_55 : decode b_Md_openAt 55 = .ok (.imul, 1) := by decide +kernel
theorem d_Md_openAt_56 : decode b_Md_openAt 56 = .ok (.iload_n 3, 1) := by decide +kernel
theorem d_Md_openAt_57 : decode b_Md_openAt 57 = .ok (.iadd, 1) := by decide +kernel
theorem d_Md_openAt_58 : decode b_Md_openAt 58 = .ok (.istore 4, 2) := by decide +kernel
theorem d_Md_openAt_60 : decode b_Md_openAt 60 = .ok (.iconst 1, 1) := by decide +kernel
theorem d_Md_openAt_61 : decode b_Md_openAt 61 = .ok (.istore 5, 2) := by decide +kernel
theorem d_Md_openAt_63 : decode b_Md_openAt 63 = .ok (.iconst 0, 1) := by decide +kernel
theorem d_Md_openAt_64 : decode b_Md_openAt 64 = .ok (.istore 6, 2) := by decide +kernel
theorem d_Md_openAt_66 : decode b_Md_openAt 66 = .ok (.iload 6, 2) := by decide +kernel
theorem d_Md_openAt_68 : decode b_Md_openAt 68 = .ok (.aload_n 0, 1) := by decide +kernel
theorem d_Md_openAt_69 : decode b_Md_openAt 69 = .ok (.getfield 22, 3) := by decide +kernel
theorem d_Md_openAt_72 : decode b_Md_openAt 72 = .ok (.iload 4, 2) := by decide +kernel
theorem d_Md_openAt_74 : decode b_Md_openAt 74 = .ok (.iaload, 1) := by decide +kernel
theorem d_Md_openAt_75 : decode b_Md_openAt 75 = .ok (.if_icmp .ge 42, 3) := by decide +kernel
theorem d_Md_openAt_78 : decode b_Md_openAt 78 = .ok (.iload 5, 2) := by decide +kernel
theorem d_Md_openAt_80 : decode b_Md_openAt 80 = .ok (.ifCond .eq 28, 3) := by decide +kernel
theorem d_Md_openAt_83 : decode b_Md_openAt 83 = .ok (.aload_n 0, 1) := by decide +kernel
theorem d_Md_openAt_84 : decode b_Md_openAt 84 = .ok (.aload_n 0, 1) := by decide +kernel
theorem d_Md_openAt_85 : decode b_Md_openAt 85 = .ok (.getfield 25, 3) := by decide +kernel
theorem d_Md_openAt_88 : decode b_Md_openAt 88 = .ok (.bipush 8, 2) := by decide +kernel
theorem d_Md_openAt_90 : decode b_Md_openAt 90 = .ok (.iload 4, 2) := by decide +kernel
theorem d_Md_openAt_92 : decode b_Md_openAt 92 = .ok (.imul, 1) := by decide +kernel
theorem d_Md_openAt_93 : decode b_Md_openAt 93 = .ok (.iconst 4, 1) := by decide +kernel
theorem d_Md_openAt_94 : decode b_Md_openAt 94 = .ok (.iload 6, 2) := by decide +kernel
theorem d_Md_openAt_96 : decode b_Md_openAt 96 = .ok (.imul, 1) := by decide +kernel
theorem d_Md_openAt_97 : decode b_Md_openAt 97 = .ok (.iadd, 1) := by decide +kernel
theorem d_Md_openAt_98 : decode b_Md_openAt 98 = .ok (.invokevirtual 224, 3) := by decide +kernel
theorem d_Md_openAt_101 : decode b_Md_openAt 101 = .ok (.ifCond .eq 7, 3) := by decide +kernel
theorem d_Md_openAt_104 : decode b_Md_openAt 104 = .ok (.iconst 1, 1) := by decide +kernel
theorem d_Md_openAt_105 : decode b_Md_openAt 105 = .ok (.goto 4, 3) := by decide +kernel
theorem d_Md_openAt_108 : decode b_Md_openAt 108 = .ok (.iconst 0, 1) := by decide +kernel
theorem d_Md_openAt_109 : decode b_Md_openAt 109 = .ok (.istore 5, 2) := by decide +kernel
theorem d_Md_openAt_111 : decode b_Md_openAt 111 = .ok (.iinc 6 1, 3) := by decide +kernel
theorem d_Md_openAt_114 : decode b_Md_openAt 114 = .ok (.goto (-48), 3) := by decide +kernel
theorem d_Md_openAt_117 : decode b_Md_openAt 117 = .ok (.iload_n 2, 1) := by decide +kernel
theorem d_Md_openAt_118 : decode b_Md_openAt 118 = .ok (.iload 5, 2) := by decide +kernel
theorem d_Md_openAt_120 : decode b_Md_openAt 120 = .ok (.ifCond .eq 9, 3) := by decide +kernel
theorem d_Md_openAt_123 : decode b_Md_openAt 123 = .ok (.iconst 1, 1) := by decide +kernel
theorem d_Md_openAt_124 : decode b_Md_openAt 124 = .ok (.iload_n 3, 1) := by decide +kernel
theorem d_Md_openAt_125 : decode b_Md_openAt 125 = .ok (.ishl, 1) := by decide +kernel
theorem d_Md_openAt_126 : decode b_Md_openAt 126 = .ok (.goto 4, 3) := by decide +kernel
theorem d_Md_openAt_129 : decode b_Md_openAt 129 = .ok (.iconst 0, 1) := by decide +kernel
theorem d_Md_openAt_130 : decode b_Md_openAt 130 = .ok (.iadd, 1) := by decide +kernel
theorem d_Md_openAt_131 : decode b_Md_openAt 131 = .ok (.istore_n 2, 1) := by decide +kernel
theorem d_Md_openAt_132 : decode b_Md_openAt 132 = .ok (.iinc 3 1, 3) := by decide +kernel
theorem d_Md_openAt_135 : decode b_Md_openAt 135 = .ok (.goto (-92), 3) := by decide +kernel
theorem d_Md_openAt_138 : decode b_Md_openAt 138 = .ok (.iload_n 2, 1) := by decide +kernel
theorem d_Md_openAt_139 : decode b_Md_openAt 139 = .ok (.ireturn, 1) := by decide +kernel
theorem d_Md_isMet_0 : decode b_Md_isMet 0 = .ok (.aload_n 1, 1) := by decide +kernel
theorem d_Md_isMet_1 : decode b_Md_isMet 1 = .ok (.iload_n 2, 1) := by decide +kernel
theorem d_Md_isMet_2 : decode b_Md_isMet 2 = .ok (.iaload, 1) := by decide +kernel
theorem d_Md_isMet_3 : decode b_Md_isMet 3 = .ok (.i2l, 1) := by decide +kernel
theorem d_Md_isMet_4 : decode b_Md_isMet 4 = .ok (.aload_n 0, 1) := by decide +kernel
theorem d_Md_isMet_5 : decode b_Md_isMet 5 = .ok (.getfield 215, 3) := by decide +kernel
theorem d_Md_isMet_8 : decode b_Md_isMet 8 = .ok (.lmul, 1) := by decide +kernel
theorem d_Md_isMet_9 : decode b_Md_isMet 9 = .ok (.aload_n 1, 1) := by decide +kernel
theorem d_Md_isMet_10 : decode b_Md_isMet 10 = .ok (.iload_n 2, 1) := by decide +kernel
theorem d_Md_isMet_11 : decode b_Md_isMet 11 = .ok (.iconst 1, 1) := by decide +kernel
theorem d_Md_isMet_12 : decode b_Md_isMet 12 = .ok (.iadd, 1) := by decide +kernel
theorem d_Md_isMet_13 : decode b_Md_isMet 13 = .ok (.iaload, 1) := by decide +kernel
theorem d_Md_isMet_14 : decode b_Md_isMet 14 = .ok (.i2l, 1) := by decide +kernel
theorem d_Md_isMet_15 : decode b_Md_isMet 15 = .ok (.aload_n 0, 1) := by decide +kernel
theorem d_Md_isMet_16 : decode b_Md_isMet 16 = .ok (.getfield 218, 3) := by decide +kernel
theorem d_Md_isMet_19 : decode b_Md_isMet 19 = .ok (.lmul, 1) := by decide +kernel
theorem d_Md_isMet_20 : decode b_Md_isMet 20 = .ok (.ladd, 1) := by decide +kernel
theorem d_Md_isMet_21 : decode b_Md_isMet 21 = .ok (.aload_n 1, 1) := by decide +kernel
theorem d_Md_isMet_22 : decode b_Md_isMet 22 = .ok (.iload_n 2, 1) := by decide +kernel
theorem d_Md_isMet_23 : decode b_Md_isMet 23 = .ok (.iconst 2, 1) := by decide +kernel
theorem d_Md_isMet_24 : decode b_Md_isMet 24 = .ok (.iadd, 1) := by decide +kernel
theorem d_Md_isMet_25 : decode b_Md_isMet 25 = .ok (.iaload, 1) := by decide +kernel
theorem d_Md_isMet_26 : decode b_Md_isMet 26 = .ok (.i2l, 1) := by decide +kernel
theorem d_Md_isMet_27 : decode b_Md_isMet 27 = .ok (.aload_n 0, 1) := by decide +kernel
theorem d_Md_isMet_28 : decode b_Md_isMet 28 = .ok (.getfield 221, 3) := by decide +kernel
theorem d_Md_isMet_31 : decode b_Md_isMet 31 = .ok (.lmul, 1) := by decide +kernel
theorem d_Md_isMet_32 : decode b_Md_isMet 32 = .ok (.ladd, 1) := by decide +kernel
theorem d_Md_isMet_33 : decode b_Md_isMet 33 = .ok (.aload_n 1, 1) := by decide +kernel
theorem d_Md_isMet_34 : decode b_Md_isMet 34 = .ok (.iload_n 2, 1) := by decide +kernel
theorem d_Md_isMet_35 : decode b_Md_isMet 35 = .ok (.iconst 3, 1) := by decide +kernel
theorem d_Md_isMet_36 : decode b_Md_isMet 36 = .ok (.iadd, 1) := by decide +kernel
theorem d_Md_isMet_37 : decode b_Md_isMet 37 = .ok (.iaload, 1) := by decide +kernel
theorem d_Md_isMet_38 : decode b_Md_isMet 38 = .ok (.i2l, 1) := by decide +kernel
theorem d_Md_isMet_39 : decode b_Md_isMet 39 = .ok (.lcmp, 1) := by decide +kernel
theorem d_Md_isMet_40 : decode b_Md_isMet 40 = .ok (.ifCond .lt 7, 3) := by decide +kernel
theorem d_Md_isMet_43 : decode b_Md_isMet 43 = .ok (.iconst 1, 1) := by decide +kernel
theorem d_Md_isMet_44 : decode b_Md_isMet 44 = .ok (.goto 4, 3) := by decide +kernel
theorem d_Md_isMet_47 : decode b_Md_isMet 47 = .ok (.iconst 0, 1) := by decide +kernel
theorem d_Md_isMet_48 : decode b_Md_isMet 48 = .ok (.ireturn, 1) := by decide +kernel
theorem d_Md_step_0 : decode b_Md_step 0 = .ok (.aload_n 0, 1) := by decide +kernel
theorem d_Md_step_1 : decode b_Md_step 1 = .ok (.iload_n 1, 1) := by decide +kernel
theorem d_Md_step_2 : decode b_Md_step 2 = .ok (.invokevirtual 67, 3) := by decide +kernel
theorem d_Md_step_5 : decode b_Md_step 5 = .ok (.ifCond .ne 6, 3) := by decide +kernel
theorem d_Md_step_8 : decode b_Md_step 8 = .ok (.bipush (-2), 2) := by decide +kernel
theorem d_Md_step_10 : decode b_Md_step 10 = .ok (.ireturn, 1) := by decide +kernel
theorem d_Md_step_11 : decode b_Md_step 11 = .ok (.aload_n 0, 1) := by decide +kernel
theorem d_Md_step_12 : decode b_Md_step 12 = .ok (.iload_n 1, 1) := by decide +kernel
theorem d_Md_step_13 : decode b_Md_step 13 = .ok (.invokevirtual 246, 3) := by decide +kernel
theorem d_Md_step_16 : decode b_Md_step 16 = .ok (.aload_n 0, 1) := by decide +kernel
theorem d_Md_step_17 : decode b_Md_step 17 = .ok (.iload_n 1, 1) := by decide +kernel
theorem d_Md_step_18 : decode b_Md_step 18 = .ok (.invokevirtual 249, 3) := by decide +kernel
theorem d_Md_step_21 : decode b_Md_step 21 = .ok (.istore_n 2, 1) := by decide +kernel
theorem d_Md_step_22 : decode b_Md_step 22 = .ok (.aload_n 0, 1) := by decide +kernel
theorem d_Md_step_23 : decode b_Md_step 23 = .ok (.iload_n 1, 1) := by decide +kernel
theorem d_Md_step_24 : decode b_Md_step 24 = .ok (.invokevirtual 252, 3) := by decide +kernel
theorem d_Md_step_27 : decode b_Md_step 27 = .ok (.iload_n 2, 1) := by decide +kernel
theorem d_Md_step_28 : decode b_Md_step 28 = .ok (.ireturn, 1) := by decide +kernel
theorem d_Md_walks_0 : decode b_Md_walks 0 = .ok (.aload_n 0, 1) := by decide +kernel
theorem d_Md_walks_1 : decode b_Md_walks 1 = .ok (.iload_n 1, 1) := by decide +kernel
theorem d_Md_walks_2 : decode b_Md_walks 2 = .ok (.invokevirtual 239, 3) := by decide +kernel
theorem d_Md_walks_5 : decode b_Md_walks 5 = .ok (.istore_n 2, 1) := by decide +kernel
theorem d_Md_walks_6 : decode b_Md_walks 6 = .ok (.iload_n 2, 1) := by decide +kernel
theorem d_Md_walks_7 : decode b_Md_walks 7 = .ok (.ifCond .ne 5, 3) := by decide +kernel
theorem d_Md_walks_10 : decode b_Md_walks 10 = .ok (.iconst (-1), 1) := by decide +kernel
theorem d_Md_walks_11 : decode b_Md_walks 11 = .ok (.ireturn, 1) := by decide +kernel
theorem d_Md_walks_12 : decode b_Md_walks 12 = .ok (.iload_n 2, 1) := by decide +kernel
theorem d_Md_walks_13 : decode b_Md_walks 13 = .ok (.iconst 2, 1) := by decide +kernel
theorem d_Md_walks_14 : decode b_Md_walks 14 = .ok (.irem, 1) := by decide +kernel
theorem d_Md_walks_15 : decode b_Md_walks 15 = .ok (.iconst 1, 1) := by decide +kernel
theorem d_Md_walks_16 : decode b_Md_walks 16 = .ok (.if_icmp .ne 7, 3) := by decide +kernel
theorem d_Md_walks_19 : decode b_Md_walks 19 = .ok (.iconst 0, 1) := by decide +kernel
theorem d_Md_walks_20 : decode b_Md_walks 20 = .ok (.goto 15, 3) := by decide +kernel
theorem d_Md_walks_23 : decode b_Md_walks 23 = .ok (.iload_n 2, 1) := by decide +kernel
theorem d_Md_walks_24 : decode b_Md_walks 24 = .ok (.iconst 4, 1) := by decide +kernel
theorem d_Md_walks_25 : decode b_Md_walks 25 = .ok (.irem, 1) := by decide +kernel
theorem d_Md_walks_26 : decode b_Md_walks 26 = .ok (.iconst 2, 1) := by decide +kernel
theorem d_Md_walks_27 : decode b_Md_walks 27 = .ok (.if_icmp .ne 7, 3) := by decide +kernel
theorem d_Md_walks_30 : decode b_Md_walks 30 = .ok (.iconst 1, 1) := by decide +kernel
theorem d_Md_walks_31 : decode b_Md_walks 31 = .ok (.goto 4, 3) := by decide +kernel
theorem d_Md_walks_34 : decode b_Md_walks 34 = .ok (.iconst 2, 1) := by decide +kernel
theorem d_Md_walks_35 : decode b_Md_walks 35 = .ok (.istore_n 3, 1) := by decide +kernel
theorem d_Md_walks_36 : decode b_Md_walks 36 = .ok (.aload_n 0, 1) := by decide +kernel
theorem d_Md_walks_37 : decode b_Md_walks 37 = .ok (.iload_n 1, 1) := by decide +kernel
theorem d_Md_walks_38 : decode b_Md_walks 38 = .ok (.iload_n 3, 1) := by decide +kernel
theorem d_Md_walks_39 : decode b_Md_walks 39 = .ok (.invokevirtual 243, 3) := by decide +kernel
theorem d_Md_walks_42 : decode b_Md_walks 42 = .ok (.ifCond .eq 7, 3) := by decide +kernel
theorem d_Md_walks_45 : decode b_Md_walks 45 = .ok (.iload_n 3, 1) := by decide +kernel
theorem d_Md_walks_46 : decode b_Md_walks 46 = .ok (.goto 5, 3) := by decide +kernel
theorem d_Md_walks_49 : decode b_Md_walks 49 = .ok (.bipush (-5), 2) := by decide +kernel
theorem d_Md_walks_51 : decode b_Md_walks 51 = .ok (.ireturn, 1) := by decide +kernel
theorem d_Md_goes_0 : decode b_Md_goes 0 = .ok (.iconst 3, 1) := by decide +kernel
theorem d_Md_goes_1 : decode b_Md_goes 1 = .ok (.iload_n 1, 1) := by decide +kernel
theorem d_Md_goes_2 : decode b_Md_goes 2 = .ok (.imul, 1) := by decide +kernel
theorem d_Md_goes_3 : decode b_Md_goes 3 = .ok (.iload_n 2, 1) := by decide +kernel
theorem d_Md_goes_4 : decode b_Md_goes 4 = .ok (.iadd, 1) := by decide +kernel
theorem d_Md_goes_5 : decode b_Md_goes 5 = .ok (.istore_n 3, 1) := by decide +kernel
theorem d_Md_goes_6 : decode b_Md_goes 6 = .ok (.aload_n 0, 1) := by decide +kernel
theorem d_Md_goes_7 : decode b_Md_goes 7 = .ok (.iload_n 3, 1) := by decide +kernel
theorem d_Md_goes_8 : decode b_Md_goes 8 = .ok (.iconst 0, 1) := by decide +kernel
theorem d_Md_goes_9 : decode b_Md_goes 9 = .ok (.invokevirtual 232, 3) := by decide +kernel
theorem d_Md_goes_12 : decode b_Md_goes 12 = .ok (.lstore 4, 2) := by decide +kernel
theorem d_Md_goes_14 : decode b_Md_goes 14 = .ok (.aload_n 0, 1) := by decide +kernel
theorem d_Md_goes_15 : decode b_Md_goes 15 = .ok (.getfield 7, 3) := by decide +kernel
theorem d_Md_goes_18 : decode b_Md_goes 18 = .ok (.iload_n 1, 1) := by decide +kernel
theorem d_Md_goes_19 : decode b_Md_goes 19 = .ok (.iaload, 1) := by decide +kernel
theorem d_Md_goes_20 : decode b_Md_goes 20 = .ok (.iconst 1, 1) := by decide +kernel
theorem d_Md_goes_21 : decode b_Md_goes 21 = .ok (.if_icmp .le 12, 3) := by decide +kernel
theorem d_Md_goes_24 : decode b_Md_goes 24 = .ok (.aload_n 0, 1) := by decide +kernel
theorem d_Md_goes_25 : decode b_Md_goes 25 = .ok (.iload_n 3, 1) := by decide +kernel
theorem d_Md_goes_26 : decode b_Md_goes 26 = .ok (.iconst 1, 1) := by decide +kernel
theorem d_Md_goes_27 : decode b_Md_goes 27 = .ok (.invokevirtual 232, 3) := by decide +kernel
theorem d_Md_goes_30 : decode b_Md_goes 30 = .ok (.goto 4, 3) := by decide +kernel
theorem d_Md_goes_33 : decode b_Md_goes 33 = .ok (.lconst 0, 1) := by decide +kernel
theorem d_Md_goes_34 : decode b_Md_goes 34 = .ok (.lstore 6, 2) := by decide +kernel
theorem d_Md_goes_36 : decode b_Md_goes 36 = .ok (.aload_n 0, 1) := by decide +kernel
theorem d_Md_goes_37 : decode b_Md_goes 37 = .ok (.getfield 7, 3) := by decide +kernel
theorem d_Md_goes_40 : decode b_Md_goes 40 = .ok (.iload_n 1, 1) := by decide +kernel
theorem d_Md_goes_41 : decode b_Md_goes 41 = .ok (.iaload, 1) := by decide +kernel
theorem d_Md_goes_42 : decode b_Md_goes 42 = .ok (.iconst 2, 1) := by decide +kernel
theorem d_Md_goes_43 : decode b_Md_goes 43 = .ok (.if_icmp .le 12, 3) := by decide +kernel
theorem d_Md_goes_46 : decode b_Md_goes 46 = .ok (.aload_n 0, 1) := by decide +kernel
theorem d_Md_goes_47 : decode b_Md_goes 47 = .ok (.iload_n 3, 1) := by decide +kernel
theorem d_Md_goes_48 : decode b_Md_goes 48 = .ok (.iconst 2, 1) := by decide +kernel
theorem d_Md_goes_49 : decode b_Md_goes 49 = .ok (.invokevirtual 232, 3) := by decide +kernel
theorem d_Md_goes_52 : decode b_Md_goes 52 = .ok (.goto 4, 3) := by decide +kernel
theorem d_Md_goes_55 : decode b_Md_goes 55 = .ok (.lconst 0, 1) := by decide +kernel
theorem d_Md_goes_56 : decode b_Md_goes 56 = .ok (.lstore 8, 2) := by decide +kernel
theorem d_Md_goes_58 : decode b_Md_goes 58 = .ok (.lload 4, 2) := by decide +kernel
theorem d_Md_goes_60 : decode b_Md_goes 60 = .ok (.invokestatic 236, 3) := by decide +kernel
theorem d_Md_goes_63 : decode b_Md_goes 63 = .ok (.ifCond .eq 23, 3) := by decide +kernel
theorem d_Md_goes_66 : decode b_Md_goes 66 = .ok (.lload 6, 2) := by decide +kernel
theorem d_Md_goes_68 : decode b_Md_goes 68 = .ok (.invokestatic 236, 3) := by decide +kernel
theorem d_Md_goes_71 : decode b_Md_goes 71 = .ok (.ifCond .eq 15, 3) := by decide +kernel
theorem d_Md_goes_74 : decode b_Md_goes 74 = .ok (.lload 8, 2) := by decide +kernel
theorem d_Md_goes_76 : decode b_Md_goes 76 = .ok (.invokestatic 236, 3) := by decide +kernel
theorem d_Md_goes_79 : decode b_Md_goes 79 = .ok (.ifCond .eq 7, 3) := by decide +kernel
theorem d_Md_goes_82 : decode b_Md_goes 82 = .ok (.iconst 1, 1) := by decide +kernel
theorem d_Md_goes_83 : decode b_Md_goes 83 = .ok (.goto 4, 3) := by decide +kernel
theorem d_Md_goes_86 : decode b_Md_goes 86 = .ok (.iconst 0, 1) := by decide +kernel
theorem d_Md_goes_87 : decode b_Md_goes 87 = .ok (.istore 10, 2) := by decide +kernel
theorem d_Md_goes_89 : decode b_Md_goes 89 = .ok (.iload 10, 2) := by decide +kernel
theorem d_Md_goes_91 : decode b_Md_goes 91 = .ok (.ifCond .eq 21, 3) := by decide +kernel
theorem d_Md_goes_94 : decode b_Md_goes 94 = .ok (.aload_n 0, 1) := by decide +kernel
theorem d_Md_goes_95 : decode b_Md_goes 95 = .ok (.lload 4, 2) := by decide +kernel
theorem d_Md_goes_97 : decode b_Md_goes 97 = .ok (.putfield 215, 3) := by decide +kernel
theorem d_Md_goes_100 : decode b_Md_goes 100 = .ok (.aload_n 0, 1) := by decide +kernel
theorem d_Md_goes_101 : decode b_Md_goes 101 = .ok (.lload 6, 2) := by decide +kernel
theorem d_Md_goes_103 : decode b_Md_goes 103 = .ok (.putfield 218, 3) := by decide +kernel
theorem d_Md_goes_106 : decode b_Md_goes 106 = .ok (.aload_n 0, 1) := by decide +kernel
theorem d_Md_goes_107 : decode b_Md_goes 107 = .ok (.lload 8, 2) := by decide +kernel
theorem d_Md_goes_109 : decode b_Md_goes 109 = .ok (.putfield 221, 3) := by decide +kernel
theorem d_Md_goes_112 : decode b_Md_goes 112 = .ok (.iload 10, 2) := by decide +kernel
theorem d_Md_goes_114 : decode b_Md_goes 114 = .ok (.ireturn, 1) := by decide +kernel
theorem d_Md_becomes_0 : decode b_Md_becomes 0 = .ok (.bipush 9, 2) := by decide +kernel
theorem d_Md_becomes_2 : decode b_Md_becomes 2 = .ok (.iload_n 1, 1) := by decide +kernel
theorem d_Md_becomes_3 : decode b_Md_becomes 3 = .ok (.imul, 1) := by decide +kernel
theorem d_Md_becomes_4 : decode b_Md_becomes 4 = .ok (.iconst 3, 1) := by decide +kernel
theorem d_Md_becomes_5 : decode b_Md_becomes 5 = .ok (.iload_n 2, 1) := by decide +kernel
theorem d_Md_becomes_6 : decode b_Md_becomes 6 = .ok (.imul, 1) := by decide +kernel
theorem d_Md_becomes_7 : decode b_Md_becomes 7 = .ok (.iadd, 1) := by decide +kernel
theorem d_Md_becomes_8 : decode b_Md_becomes 8 = .ok (.istore_n 3, 1) := by decide +kernel
theorem d_Md_becomes_9 : decode b_Md_becomes 9 = .ok (.aload_n 0, 1) := by decide +kernel
theorem d_Md_becomes_10 : decode b_Md_becomes 10 = .ok (.getfield 28, 3) := by decide +kernel
theorem d_Md_becomes_13 : decode b_Md_becomes 13 = .ok (.iload_n 3, 1) := by decide +kernel
theorem d_Md_becomes_14 : decode b_Md_becomes 14 = .ok (.iaload, 1) := by decide +kernel
theorem d_Md_becomes_15 : decode b_Md_becomes 15 = .ok (.i2l, 1) := by decide +kernel
theorem d_Md_becomes_16 : decode b_Md_becomes 16 = .ok (.aload_n 0, 1) := by decide +kernel
theorem d_Md_becomes_17 : decode b_Md_becomes 17 = .ok (.getfield 215, 3) := by decide +kernel
theorem d_Md_becomes_20 : decode b_Md_becomes 20 = .ok (.lmul, 1) := by decide +kernel
theorem d_Md_becomes_21 : decode b_Md_becomes 21 = .ok (.aload_n 0, 1) := by decide +kernel
theorem d_Md_becomes_22 : decode b_Md_becomes 22 = .ok (.getfield 28, 3) := by decide +kernel
theorem d_Md_becomes_25 : decode b_Md_becomes 25 = .ok (.iload_n 3, 1) := by decide +kernel
theorem d_Md_becomes_26 : decode b_Md_becomes 26 = .ok (.iconst 1, 1) := by decide +kernel
theorem d_Md_becomes_27 : decode b_Md_becomes 27 = .ok (.iadd, 1) := by decide +kernel
theorem d_Md_becomes_28 : decode b_Md_becomes 28 = .ok (.iaload, 1) := by decide +kernel
theorem d_Md_becomes_29 : decode b_Md_becomes 29 = .ok (.i2l, 1) := by decide +kernel
theorem d_Md_becomes_30 : decode b_Md_becomes 30 = .ok (.aload_n 0, 1) := by decide +kernel
theorem d_Md_becomes_31 : decode b_Md_becomes 31 = .ok (.getfield 218, 3) := by decide +kernel
theorem d_Md_becomes_34 : decode b_Md_becomes 34 = .ok (.lmul, 1) := by decide +kernel
theorem d_Md_becomes_35 : decode b_Md_becomes 35 = .ok (.ladd, 1) := by decide +kernel
theorem d_Md_becomes_36 : decode b_Md_becomes 36 = .ok (.aload_n 0, 1) := by decide +kernel
theorem d_Md_becomes_37 : decode b_Md_becomes 37 = .ok (.getfield 28, 3) := by decide +kernel
theorem d_Md_becomes_40 : decode b_Md_becomes 40 = .ok (.iload_n 3, 1) := by decide +kernel
theorem d_Md_becomes_41 : decode b_Md_becomes 41 = .ok (.iconst 2, 1) := by decide +kernel
theorem d_Md_becomes_42 : decode b_Md_becomes 42 = .ok (.iadd, 1) := by decide +kernel
theorem d_Md_becomes_43 : decode b_Md_becomes 43 = .ok (.iaload, 1) := by decide +kernel
theorem d_Md_becomes_44 : decode b_Md_becomes 44 = .ok (.i2l, 1) := by decide +kernel
theorem d_Md_becomes_45 : decode b_Md_becomes 45 = .ok (.aload_n 0, 1) := by decide +kernel
theorem d_Md_becomes_46 : decode b_Md_becomes 46 = .ok (.getfield 221, 3) := by decide +kernel
theorem d_Md_becomes_49 : decode b_Md_becomes 49 = .ok (.lmul, 1) := by decide +kernel
theorem d_Md_becomes_50 : decode b_Md_becomes 50 = .ok (.ladd, 1) := by decide +kernel
theorem d_Md_becomes_51 : decode b_Md_becomes 51 = .ok (.aload_n 0, 1) := by decide +kernel
theorem d_Md_becomes_52 : decode b_Md_becomes 52 = .ok (.getfield 31, 3) := by decide +kernel
theorem d_Md_becomes_55 : decode b_Md_becomes 55 = .ok (.iconst 3, 1) := by decide +kernel
theorem d_Md_becomes_56 : decode b_Md_becomes 56 = .ok (.iload_n 1, 1) := by decide +kernel
theorem d_Md_becomes_57 : decode b_Md_becomes 57 = .ok (.imul, 1) := by decide +kernel
theorem d_Md_becomes_58 : decode b_Md_becomes 58 = .ok (.iload_n 2, 1) := by decide +kernel
theorem d_Md_becomes_59 : decode b_Md_becomes 59 = .ok (.iadd, 1) := by decide +kernel
theorem d_Md_becomes_60 : decode b_Md_becomes 60 = .ok (.iaload, 1) := by decide +kernel
theorem d_Md_becomes_61 : decode b_Md_becomes 61 = .ok (.i2l, 1) := by decide +kernel
theorem d_Md_becomes_62 : decode b_Md_becomes 62 = .ok (.ladd, 1) := by decide +kernel
theorem d_Md_becomes_63 : decode b_Md_becomes 63 = .ok (.lreturn, 1) := by decide +kernel
theorem d_Md_isNear_0 : decode b_Md_isNear 0 = .ok (.lload_n 0, 1) := by decide +kernel
theorem d_Md_isNear_1 : decode b_Md_isNear 1 = .ok (.ldc2_w 228, 3) := by decide +kernel
theorem d_Md_isNear_4 : decode b_Md_isNear 4 = .ok (.lcmp, 1) := by decide +kernel
theorem d_Md_isNear_5 : decode b_Md_isNear 5 = .ok (.ifCond .lt 15, 3) := by decide +kernel
theorem d_Md_isNear_8 : decode b_Md_isNear 8 = .ok (.lload_n 0, 1) := by decide +kernel
theorem d_Md_isNear_9 : decode b_Md_isNear 9 = .ok (.ldc2_w 230, 3) := by decide +kernel
theorem d_Md_isNear_12 : decode b_Md_isNear 12 = .ok (.lcmp, 1) := by decide +kernel
theorem d_Md_isNear_13 : decode b_Md_isNear 13 = .ok (.ifCond .gt 7, 3) := by decide +kernel
theorem d_Md_isNear_16 : decode b_Md_isNear 16 = .ok (.iconst 1, 1) := by decide +kernel
theorem d_Md_isNear_17 : decode b_Md_isNear 17 = .ok (.goto 4, 3) := by decide +kernel
theorem d_Md_isNear_20 : decode b_Md_isNear 20 = .ok (.iconst 0, 1) := by decide +kernel
theorem d_Md_isNear_21 : decode b_Md_isNear 21 = .ok (.ireturn, 1) := by decide +kernel
theorem d_Md_stay_0 : decode b_Md_stay 0 = .ok (.aload_n 0, 1) := by decide +kernel
theorem d_Md_stay_1 : decode b_Md_stay 1 = .ok (.getfield 34, 3) := by decide +kernel
theorem d_Md_stay_4 : decode b_Md_stay 4 = .ok (.iconst 3, 1) := by decide +kernel
theorem d_Md_stay_5 : decode b_Md_stay 5 = .ok (.iload_n 1, 1) := by decide +kernel
theorem d_Md_stay_6 : decode b_Md_stay 6 = .ok (.imul, 1) := by decide +kernel
theorem d_Md_stay_7 : decode b_Md_stay 7 = .ok (.aload_n 0, 1) := by decide +kernel
theorem d_Md_stay_8 : decode b_Md_stay 8 = .ok (.getfield 215, 3) := by decide +kernel
theorem d_Md_stay_11 : decode b_Md_stay 11 = .ok (.lastore, 1) := by decide +kernel
theorem d_Md_stay_12 : decode b_Md_stay 12 = .ok (.aload_n 0, 1) := by decide +kernel
theorem d_Md_stay_13 : decode b_Md_stay 13 = .ok (.getfield 34, 3) := by decide +kernel
theorem d_Md_stay_16 : decode b_Md_stay 16 = .ok (.iconst 3, 1) := by decide +kernel
theorem d_Md_stay_17 : decode b_Md_stay 17 = .ok (.iload_n 1, 1) := by decide +kernel
theorem d_Md_stay_18 : decode b_Md_stay 18 = .ok (.imul, 1) := by decide +kernel
theorem d_Md_stay_19 : decode b_Md_stay 19 = .ok (.iconst 1, 1) := by decide +kernel
theorem d_Md_stay_20 : decode b_Md_stay 20 = .ok (.iadd, 1) := by decide +kernel
theorem d_Md_stay_21 : decode b_Md_stay 21 = .ok (.aload_n 0, 1) := by decide +kernel
theorem d_Md_stay_22 : decode b_Md_stay 22 = .ok (.getfield 218, 3) := by decide +kernel
theorem d_Md_stay_25 : decode b_Md_stay 25 = .ok (.lastore, 1) := by decide +kernel
theorem d_Md_stay_26 : decode b_Md_stay 26 = .ok (.aload_n 0, 1) := by decide +kernel
theorem d_Md_stay_27 : decode b_Md_stay 27 = .ok (.getfield 34, 3) := by decide +kernel
theorem d_Md_stay_30 : decode b_Md_stay 30 = .ok (.iconst 3, 1) := by decide +kernel
theorem d_Md_stay_31 : decode b_Md_stay 31 = .ok (.iload_n 1, 1) := by decide +kernel
theorem d_Md_stay_32 : decode b_Md_stay 32 = .ok (.imul, 1) := by decide +kernel
theorem d_Md_stay_33 : decode b_Md_stay 33 = .ok (.iconst 2, 1) := by decide +kernel
theorem d_Md_stay_34 : decode b_Md_stay 34 = .ok (.iadd, 1) := by decide +kernel
theorem d_Md_stay_35 : decode b_Md_stay 35 = .ok (.aload_n 0, 1) := by decide +kernel
theorem d_Md_stay_36 : decode b_Md_stay 36 = .ok (.getfield 221, 3) := by decide +kernel
theorem d_Md_stay_39 : decode b_Md_stay 39 = .ok (.lastore, 1) := by decide +kernel
theorem d_Md_stay_40 : decode b_Md_stay 40 = .ok (.return_, 1) := by decide +kernel
theorem d_Md_go_0 : decode b_Md_go 0 = .ok (.aload_n 0, 1) := by decide +kernel
theorem d_Md_go_1 : decode b_Md_go 1 = .ok (.iload_n 1, 1) := by decide +kernel
theorem d_Md_go_2 : decode b_Md_go 2 = .ok (.iload_n 2, 1) := by decide +kernel
theorem d_Md_go_3 : decode b_Md_go 3 = .ok (.invokevirtual 92, 3) := by decide +kernel
theorem d_Md_go_6 : decode b_Md_go 6 = .ok (.ifCond .ne 6, 3) := by decide +kernel
theorem d_Md_go_9 : decode b_Md_go 9 = .ok (.bipush (-2), 2) := by decide +kernel
theorem d_Md_go_11 : decode b_Md_go 11 = .ok (.ireturn, 1) := by decide +kernel
theorem d_Md_go_12 : decode b_Md_go 12 = .ok (.aload_n 0, 1) := by decide +kernel
theorem d_Md_go_13 : decode b_Md_go 13 = .ok (.iload_n 1, 1) := by decide +kernel
theorem d_Md_go_14 : decode b_Md_go 14 = .ok (.invokevirtual 246, 3) := by decide +kernel
theorem d_Md_go_17 : decode b_Md_go 17 = .ok (.aload_n 0, 1) := by decide +kernel
theorem d_Md_go_18 : decode b_Md_go 18 = .ok (.iload_n 1, 1) := by decide +kernel
theorem d_Md_go_19 : decode b_Md_go 19 = .ok (.invokevirtual 239, 3) := by decide +kernel
theorem d_Md_go_22 : decode b_Md_go 22 = .ok (.iload_n 2, 1) := by decide +kernel
theorem d_Md_go_23 : decode b_Md_go 23 = .ok (.ishr, 1) := by decide +kernel
theorem d_Md_go_24 : decode b_Md_go 24 = .ok (.iconst 1, 1) := by decide +kernel
theorem d_Md_go_25 : decode b_Md_go 25 = .ok (.iand, 1) := by decide +kernel
theorem d_Md_go_26 : decode b_Md_go 26 = .ok (.ifCond .ne 5, 3) := by decide +kernel
theorem d_Md_go_29 : decode b_Md_go 29 = .ok (.iconst 0, 1) := by decide +kernel
theorem d_Md_go_30 : decode b_Md_go 30 = .ok (.ireturn, 1) := by decide +kernel
theorem d_Md_go_31 : decode b_Md_go 31 = .ok (.aload_n 0, 1) := by decide +kernel
theorem d_Md_go_32 : decode b_Md_go 32 = .ok (.iload_n 1, 1) := by decide +kernel
theorem d_Md_go_33 : decode b_Md_go 33 = .ok (.iload_n 2, 1) := by decide +kernel
theorem d_Md_go_34 : decode b_Md_go 34 = .ok (.invokevirtual 243, 3) := by decide +kernel
theorem d_Md_go_37 : decode b_Md_go 37 = .ok (.istore_n 3, 1) := by decide +kernel
theorem d_Md_go_38 : decode b_Md_go 38 = .ok (.aload_n 0, 1) := by decide +kernel
theorem d_Md_go_39 : decode b_Md_go 39 = .ok (.iload_n 1, 1) := by decide +kernel
theorem d_Md_go_40 : decode b_Md_go 40 = .ok (.invokevirtual 252, 3) := by decide +kernel
theorem d_Md_go_43 : decode b_Md_go 43 = .ok (.iload_n 3, 1) := by decide +kernel
theorem d_Md_go_44 : decode b_Md_go 44 = .ok (.ifCond .eq 7, 3) := by decide +kernel
theorem d_Md_go_47 : decode b_Md_go 47 = .ok (.iconst 1, 1) := by decide +kernel
theorem d_Md_go_48 : decode b_Md_go 48 = .ok (.goto 5, 3) := by decide +kernel
theorem d_Md_go_51 : decode b_Md_go 51 = .ok (.bipush (-5), 2) := by decide +kernel
theorem d_Md_go_53 : decode b_Md_go 53 = .ok (.ireturn, 1) := by decide +kernel
theorem d_Md_walk_0 : decode b_Md_walk 0 = .ok (.aload_n 0, 1) := by decide +kernel
theorem d_Md_walk_1 : decode b_Md_walk 1 = .ok (.iload_n 1, 1) := by decide +kernel
theorem d_Md_walk_2 : decode b_Md_walk 2 = .ok (.invokevirtual 67, 3) := by decide +kernel
theorem d_Md_walk_5 : decode b_Md_walk 5 = .ok (.ifCond .ne 6, 3) := by decide +kernel
theorem d_Md_walk_8 : decode b_Md_walk 8 = .ok (.bipush (-2), 2) := by decide +kernel
theorem d_Md_walk_10 : decode b_Md_walk 10 = .ok (.ireturn, 1) := by decide +kernel
theorem d_Md_walk_11 : decode b_Md_walk 11 = .ok (.iload_n 2, 1) := by decide +kernel
theorem d_Md_walk_12 : decode b_Md_walk 12 = .ok (.iconst 0, 1) := by decide +kernel
theorem d_Md_walk_13 : decode b_Md_walk 13 = .ok (.sipush 1000, 3) := by decide +kernel
theorem d_Md_walk_16 : decode b_Md_walk 16 = .ok (.invokestatic 63, 3) := by decide +kernel
theorem d_Md_walk_19 : decode b_Md_walk 19 = .ok (.ifCond .ne 6, 3) := by decide +kernel
theorem d_Md_walk_22 : decode b_Md_walk 22 = .ok (.bipush (-3), 2) := by decide +kernel
theorem d_Md_walk_24 : decode b_Md_walk 24 = .ok (.ireturn, 1) := by decide +kernel
theorem d_Md_walk_25 : decode b_Md_walk 25 = .ok (.aload_n 0, 1) := by decide +kernel
theorem d_Md_walk_26 : decode b_Md_walk 26 = .ok (.iload_n 1, 1) := by decide +kernel
theorem d_Md_walk_27 : decode b_Md_walk 27 = .ok (.invokevirtual 246, 3) := by decide +kernel
theorem d_Md_walk_30 : decode b_Md_walk 30 = .ok (.iconst 0, 1) := by decide +kernel
theorem d_Md_walk_31 : decode b_Md_walk 31 = .ok (.istore_n 3, 1) := by decide +kernel
theorem d_Md_walk_32 : decode b_Md_walk 32 = .ok (.iload_n 3, 1) := by decide +kernel
theorem d_Md_walk_33 : decode b_Md_walk 33 = .ok (.iload_n 2, 1) := by decide +kernel
theorem d_Md_walk_34 : decode b_Md_walk 34 = .ok (.if_icmp .ge 17, 3) := by decide +kernel
theorem d_Md_walk_37 : decode b_Md_walk 37 = .ok (.aload_n 0, 1) := by decide +kernel
theorem d_Md_walk_38 : decode b_Md_walk 38 = .ok (.iload_n 1, 1) := by decide +kernel
theorem d_Md_walk_39 : decode b_Md_walk 39 = .ok (.invokevirtual 249, 3) := by decide +kernel
theorem d_Md_walk_42 : decode b_Md_walk 42 = .ok (.ifCond .lt 9, 3) := by decide +kernel
theorem d_Md_walk_45 : decode b_Md_walk 45 = .ok (.iinc 3 1, 3) := by decide +kernel
theorem d_Md_walk_48 : decode b_Md_walk 48 = .ok (.goto (-16), 3) := by decide +kernel
theorem d_Md_walk_51 : decode b_Md_walk 51 = .ok (.aload_n 0, 1) := by decide +kernel
theorem d_Md_walk_52 : decode b_Md_walk 52 = .ok (.iload_n 1, 1) := by decide +kernel
theorem d_Md_walk_53 : decode b_Md_walk 53 = .ok (.invokevirtual 252, 3) := by decide +kernel
theorem d_Md_walk_56 : decode b_Md_walk 56 = .ok (.iload_n 3, 1) := by decide +kernel
theorem d_Md_walk_57 : decode b_Md_walk 57 = .ok (.ireturn, 1) := by decide +kernel
theorem d_Md_ring_0 : decode b_Md_ring 0 = .ok (.aload_n 0, 1) := by decide +kernel
theorem d_Md_ring_1 : decode b_Md_ring 1 = .ok (.iload_n 1, 1) := by decide +kernel
theorem d_Md_ring_2 : decode b_Md_ring 2 = .ok (.invokevirtual 67, 3) := by decide +kernel
theorem d_Md_ring_5 : decode b_Md_ring 5 = .ok (.ifCond .ne 6, 3) := by decide +kernel
theorem d_Md_ring_8 : decode b_Md_ring 8 = .ok (.bipush (-2), 2) := by decide +kernel
theorem d_Md_ring_10 : decode b_Md_ring 10 = .ok (.ireturn, 1) := by decide +kernel
theorem d_Md_ring_11 : decode b_Md_ring 11 = .ok (.iload_n 2, 1) := by decide +kernel
theorem d_Md_ring_12 : decode b_Md_ring 12 = .ok (.iconst 0, 1) := by decide +kernel
theorem d_Md_ring_13 : decode b_Md_ring 13 = .ok (.bipush 6, 2) := by decide +kernel
theorem d_Md_ring_15 : decode b_Md_ring 15 = .ok (.invokestatic 63, 3) := by decide +kernel
theorem d_Md_ring_18 : decode b_Md_ring 18 = .ok (.ifCond .ne 6, 3) := by decide +kernel
theorem d_Md_ring_21 : decode b_Md_ring 21 = .ok (.bipush (-3), 2) := by decide +kernel
theorem d_Md_ring_23 : decode b_Md_ring 23 = .ok (.ireturn, 1) := by decide +kernel
theorem d_Md_ring_24 : decode b_Md_ring 24 = .ok (.iload_n 2, 1) := by decide +kernel
theorem d_Md_ring_25 : decode b_Md_ring 25 = .ok (.ineg, 1) := by decide +kernel
theorem d_Md_ring_26 : decode b_Md_ring 26 = .ok (.istore_n 3, 1) := by decide +kernel
theorem d_Md_ring_27 : decode b_Md_ring 27 = .ok (.aload_n 0, 1) := by decide +kernel
theorem d_Md_ring_28 : decode b_Md_ring 28 = .ok (.getfield 7, 3) := by decide +kernel
theorem d_Md_ring_31 : decode b_Md_ring 31 = .ok (.iload_n 1, 1) := by decide +kernel
theorem d_Md_ring_32 : decode b_Md_ring 32 = .ok (.iaload, 1) := by decide +kernel
theorem d_Md_ring_33 : decode b_Md_ring 33 = .ok (.iconst 1, 1) := by decide +kernel
theorem d_Md_ring_34 : decode b_Md_ring 34 = .ok (.if_icmp .le 7, 3) := by decide +kernel
theorem d_Md_ring_37 : decode b_Md_ring 37 = .ok (.iload_n 2, 1) := by decide +kernel
theorem d_Md_ring_38 : decode b_Md_ring 38 = .ok (.goto 4, 3) := by decide +kernel
theorem d_Md_ring_41 : decode b_Md_ring 41 = .ok (.iconst 0, 1) := by decide +kernel
theorem d_Md_ring_42 : decode b_Md_ring 42 = .ok (.istore 4, 2) := by decide +kernel
theorem d_Md_ring_44 : decode b_Md_ring 44 = .ok (.aload_n 0, 1) := by decide +kernel
theorem d_Md_ring_45 : decode b_Md_ring 45 = .ok (.getfield 7, 3) := by decide +kernel
theorem d_Md_ring_48 : decode b_Md_ring 48 = .ok (.iload_n 1, 1) := by decide +kernel
theorem d_Md_ring_49 : decode b_Md_ring 49 = .ok (.iaload, 1) := by decide +kernel
theorem d_Md_ring_50 : decode b_Md_ring 50 = .ok (.iconst 2, 1) := by decide +kernel
theorem d_Md_ring_51 : decode b_Md_ring 51 = .ok (.if_icmp .le 7, 3) := by decide +kernel
theorem d_Md_ring_54 : decode b_Md_ring 54 = .ok (.iload_n 2, 1) := by decide +kernel
theorem d_Md_ring_55 : decode b_Md_ring 55 = .ok (.goto 4, 3) := by decide +kernel
theorem d_Md_ring_58 : decode b_Md_ring 58 = .ok (.iconst 0, 1) := by decide +kernel
theorem d_Md_ring_59 : decode b_Md_ring 59 = .ok (.istore 5, 2) := by decide +kernel
theorem d_Md_ring_61 : decode b_Md_ring 61 = .ok (.iload_n 3, 1) := by decide +kernel
theorem d_Md_ring_62 : decode b_Md_ring 62 = .ok (.istore 6, 2) := by decide +kernel
theorem d_Md_ring_64 : decode b_Md_ring 64 = .ok (.iload 6, 2) := by decide +kernel
theorem d_Md_ring_66 : decode b_Md_ring 66 = .ok (.iload_n 2, 1) := by decide +kernel
theorem d_Md_ring_67 : decode b_Md_ring 67 = .ok (.if_icmp .gt 92, 3) := by decide +kernel
theorem d_Md_ring_70 : decode b_Md_ring 70 = .ok (.iload 4, 2) := by decide +kernel
theorem d_Md_ring_72 : decode b_Md_ring 72 = .ok (.ineg, 1) := by decide +kernel
theorem d_Md_ring_73 : decode b_Md_ring 73 = .ok (.istore 7, 2) := by decide +kernel
theorem d_Md_ring_75 : decode b_Md_ring 75 = .ok (.iload 7, 2) := by decide +kernel
theorem d_Md_ring_77 : decode b_Md_ring 77 = .ok (.iload 4, 2) := by decide +kernel
theorem d_Md_ring_79 : decode b_Md_ring 79 = .ok (.if_icmp .gt 74, 3) := by decide +kernel
theorem d_Md_ring_82 : decode b_Md_ring 82 = .ok (.iload 5, 2) := by decide +kernel
theorem d_Md_ring_84 : decode b_Md_ring 84 = .ok (.ineg, 1) := by decide +kernel
theorem d_Md_ring_85 : decode b_Md_ring 85 = .ok (.istore 8, 2) := by decide +kernel
theorem d_Md_ring_87 : decode b_Md_ring 87 = .ok (.iload 8, 2) := by decide +kernel
theorem d_Md_ring_89 : decode b_Md_ring 89 = .ok (.iload 5, 2) := by decide +kernel
theorem d_Md_ring_91 : decode b_Md_ring 91 = .ok (.if_icmp .gt 56, 3) := by decide +kernel
theorem d_Md_ring_94 : decode b_Md_ring 94 = .ok (.aload_n 0, 1) := by decide +kernel
theorem d_Md_ring_95 : decode b_Md_ring 95 = .ok (.iload_n 1, 1) := by decide +kernel
theorem d_Md_ring_96 : decode b_Md_ring 96 = .ok (.iload 6, 2) := by decide +kernel
theorem d_Md_ring_98 : decode b_Md_ring 98 = .ok (.iload 7, 2) := by decide +kernel
theorem d_Md_ring_100 : decode b_Md_ring 100 = .ok (.iload 8, 2) := by decide +kernel
theorem d_Md_ring_102 : decode b_Md_ring 102 = .ok (.invokevirtual 255, 3) := by decide +kernel
theorem d_Md_ring_105 : decode b_Md_ring 105 = .ok (.istore 9, 2) := by decide +kernel
theorem d_Md_ring_107 : decode b_Md_ring 107 = .ok (.iload 9, 2) := by decide +kernel
theorem d_Md_ring_109 : decode b_Md_ring 109 = .ok (.ifCond .le 32, 3) := by decide +kernel
theorem d_Md_ring_112 : decode b_Md_ring 112 = .ok (.aload_n 0, 1) := by decide +kernel
theorem d_Md_ring_113 : decode b_Md_ring 113 = .ok (.iload 6, 2) := by decide +kernel
theorem d_Md_ring_115 : decode b_Md_ring 115 = .ok (.i2l, 1) := by decide +kernel
theorem d_Md_ring_116 : decode b_Md_ring 116 = .ok (.putfield 215, 3) := by decide +kernel
theorem d_Md_ring_119 : decode b_Md_ring 119 = .ok (.aload_n 0, 1) := by decide +kernel
theorem d_Md_ring_120 : decode b_Md_ring 120 = .ok (.iload 7, 2) := by decide +kernel
theorem d_Md_ring_122 : decode b_Md_ring 122 = .ok (.i2l, 1) := by decide +kernel
theorem d_Md_ring_123 : decode b_Md_ring 123 = .ok (.putfield 218, 3) := by decide +kernel
theorem d_Md_ring_126 : decode b_Md_ring 126 = .ok (.aload_n 0, 1) := by decide +kernel
theorem d_Md_ring_127 : decode b_Md_ring 127 = .ok (.iload 8, 2) := by decide +kernel
theorem d_Md_ring_129 : decode b_Md_ring 129 = .ok (.i2l, 1) := by decide +kernel
theorem d_Md_ring_130 : decode b_Md_ring 130 = .ok (.putfield 221, 3) := by decide +kernel
theorem d_Md_ring_133 : decode b_Md_ring 133 = .ok (.aload_n 0, 1) := by decide +kernel
theorem d_Md_ring_134 : decode b_Md_ring 134 = .ok (.iload_n 1, 1) := by decide +kernel
theorem d_Md_ring_135 : decode b_Md_ring 135 = .ok (.invokevirtual 252, 3) := by decide +kernel
theorem d_Md_ring_138 : decode b_Md_ring 138 = .ok (.iload 9, 2) := by decide +kernel
theorem d_Md_ring_140 : decode b_Md_ring 140 = .ok (.ireturn, 1) := by decide +kernel
theorem d_Md_ring_141 : decode b_Md_ring 141 = .ok (.iinc 8 1, 3) := by decide +kernel
theorem d_Md_ring_144 : decode b_Md_ring 144 = .ok (.goto (-57), 3) := by decide +kernel
theorem d_Md_ring_147 : decode b_Md_ring 147 = .ok (.iinc 7 1, 3) := by decide +kernel
theorem d_Md_ring_150 : decode b_Md_ring 150 = .ok (.goto (-75), 3) := by decide +kernel
theorem d_Md_ring_153 : decode b_Md_ring 153 = .ok (.iinc 6 1, 3) := by decide +kernel
theorem d_Md_ring_156 : decode b_Md_ring 156 = .ok (.goto (-92), 3) := by decide +kernel
theorem d_Md_ring_159 : decode b_Md_ring 159 = .ok (.iconst 0, 1) := by decide +kernel
theorem d_Md_ring_160 : decode b_Md_ring 160 = .ok (.ireturn, 1) := by decide +kernel
theorem d_Md_comesBack_0 : decode b_Md_comesBack 0 = .ok (.aload_n 0, 1) := by decide +kernel
theorem d_Md_comesBack_1 : decode b_Md_comesBack 1 = .ok (.iload_n 2, 1) := by decide +kernel
theorem d_Md_comesBack_2 : decode b_Md_comesBack 2 = .ok (.i2l, 1) := by decide +kernel
theorem d_Md_comesBack_3 : decode b_Md_comesBack 3 = .ok (.putfield 215, 3) := by decide +kernel
theorem d_Md_comesBack_6 : decode b_Md_comesBack 6 = .ok (.aload_n 0, 1) := by decide +kernel
theorem d_Md_comesBack_7 : decode b_Md_comesBack 7 = .ok (.iload_n 3, 1) := by decide +kernel
theorem d_Md_comesBack_8 : decode b_Md_comesBack 8 = .ok (.i2l, 1) := by decide +kernel
theorem d_Md_comesBack_9 : decode b_Md_comesBack 9 = .ok (.putfield 218, 3) := by decide +kernel
theorem d_Md_comesBack_12 : decode b_Md_comesBack 12 = .ok (.aload_n 0, 1) := by decide +kernel
theorem d_Md_comesBack_13 : decode b_Md_comesBack 13 = .ok (.iload 4, 2) := by decide +kernel
theorem d_Md_comesBack_15 : decode b_Md_comesBack 15 = .ok (.i2l, 1) := by decide +kernel
theorem d_Md_comesBack_16 : decode b_Md_comesBack 16 = .ok (.putfield 221, 3) := by decide +kernel
theorem d_Md_comesBack_19 : decode b_Md_comesBack 19 = .ok (.iconst 1, 1) := by decide +kernel
theorem d_Md_comesBack_20 : decode b_Md_comesBack 20 = .ok (.istore 5, 2) := by decide +kernel
theorem d_Md_comesBack_22 : decode b_Md_comesBack 22 = .ok (.iload 5, 2) := by decide +kernel
theorem d_Md_comesBack_24 : decode b_Md_comesBack 24 = .ok (.sipush 200, 3) := by decide +kernel
theorem d_Md_comesBack_27 : decode b_Md_comesBack 27 = .ok (.if_icmp .gt 53, 3) := by decide +kernel
theorem d_Md_comesBack_30 : decode b_Md_comesBack 30 = .ok (.aload_n 0, 1) := by decide +kernel
theorem d_Md_comesBack_31 : decode b_Md_comesBack 31 = .ok (.iload_n 1, 1) := by decide +kernel
theorem d_Md_comesBack_32 : decode b_Md_comesBack 32 = .ok (.invokevirtual 249, 3) := by decide +kernel
theorem d_Md_comesBack_35 : decode b_Md_comesBack 35 = .ok (.ifCond .ge 5, 3) := by decide +kernel
theorem d_Md_comesBack_38 : decode b_Md_comesBack 38 = .ok (.iconst 0, 1) := by decide +kernel
theorem d_Md_comesBack_39 : decode b_Md_comesBack 39 = .ok (.ireturn, 1) := by decide +kernel
theorem d_Md_comesBack_40 : decode b_Md_comesBack 40 = .ok (.aload_n 0, 1) := by decide +kernel
theorem d_Md_comesBack_41 : decode b_Md_comesBack 41 = .ok (.getfield 215, 3) := by decide +kernel
theorem d_Md_comesBack_44 : decode b_Md_comesBack 44 = .ok (.iload_n 2, 1) := by decide +kernel
theorem d_Md_comesBack_45 : decode b_Md_comesBack 45 = .ok (.i2l, 1) := by decide +kernel
theorem d_Md_comesBack_46 : decode b_Md_comesBack 46 = .ok (.lcmp, 1) := by decide +kernel
theorem d_Md_comesBack_47 : decode b_Md_comesBack 47 = .ok (.ifCond .ne 27, 3) := by decide +kernel
theorem d_Md_comesBack_50 : decode b_Md_comesBack 50 = .ok (.aload_n 0, 1) := by decide +kernel
theorem d_Md_comesBack_51 : decode b_Md_comesBack 51 = .ok (.getfield 218, 3) := by decide +kernel
theorem d_Md_comesBack_54 : decode b_Md_comesBack 54 = .ok (.iload_n 3, 1) := by decide +kernel
theorem d_Md_comesBack_55 : decode b_Md_comesBack 55 = .ok (.i2l, 1) := by decide +kernel
theorem d_Md_comesBack_56 : decode b_Md_comesBack 56 = .ok (.lcmp, 1) := by decide +kernel
theorem d_Md_comesBack_57 : decode b_Md_comesBack 57 = .ok (.ifCond .ne 17, 3) := by decide +kernel
theorem d_Md_comesBack_60 : decode b_Md_comesBack 60 = .ok (.aload_n 0, 1) := by decide +kernel
theorem d_Md_comesBack_61 : decode b_Md_comesBack 61 = .ok (.getfield 221, 3) := by decide +kernel
theorem d_Md_comesBack_64 : decode b_Md_comesBack 64 = .ok (.iload 4, 2) := by decide +kernel
theorem d_Md_comesBack_66 : decode b_Md_comesBack 66 = .ok (.i2l, 1) := by decide +kernel
theorem d_Md_comesBack_67 : decode b_Md_comesBack 67 = .ok (.lcmp, 1) := by decide +kernel
theorem d_Md_comesBack_68 : decode b_Md_comesBack 68 = .ok (.ifCond .ne 6, 3) := by decide +kernel
theorem d_Md_comesBack_71 : decode b_Md_comesBack 71 = .ok (.iload 5, 2) := by decide +kernel
theorem d_Md_comesBack_73 : decode b_Md_comesBack 73 = .ok (.ireturn, 1) := by decide +kernel
theorem d_Md_comesBack_74 : decode b_Md_comesBack 74 = .ok (.iinc 5 1, 3) := by decide +kernel
theorem d_Md_comesBack_77 : decode b_Md_comesBack 77 = .ok (.goto (-55), 3) := by decide +kernel
theorem d_Md_comesBack_80 : decode b_Md_comesBack 80 = .ok (.iconst 0, 1) := by decide +kernel
theorem d_Md_comesBack_81 : decode b_Md_comesBack 81 = .ok (.ireturn, 1) := by decide +kernel
theorem d_Md_loops_0 : decode b_Md_loops 0 = .ok (.aload_n 0, 1) := by decide +kernel
theorem d_Md_loops_1 : decode b_Md_loops 1 = .ok (.getfield 59, 3) := by decide +kernel
theorem d_Md_loops_4 : decode b_Md_loops 4 = .ok (.ireturn, 1) := by decide +kernel
