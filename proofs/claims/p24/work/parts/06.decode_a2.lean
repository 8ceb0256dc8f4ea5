theorem d_Md_byThree_210 : decode b_Md_byThree 210 = .ok (.laload, 1) := by decide +kernel
theorem d_Md_byThree_211 : decode b_Md_byThree 211 = .ok (.lmul, 1) := by decide +kernel
theorem d_Md_byThree_212 : decode b_Md_byThree 212 = .ok (.lload 12, 2) := by decide +kernel
theorem d_Md_byThree_214 : decode b_Md_byThree 214 = .ok (.aload_n 0, 1) := by decide +kernel
theorem d_Md_byThree_215 : decode b_Md_byThree 215 = .ok (.getfield 53, 3) := by decide +kernel
theorem d_Md_byThree_218 : decode b_Md_byThree 218 = .ok (.iload_n 2, 1) := by decide +kernel
theorem d_Md_byThree_219 : decode b_Md_byThree 219 = .ok (.laload, 1) := by decide +kernel
theorem d_Md_byThree_220 : decode b_Md_byThree 220 = .ok (.lmul, 1) := by decide +kernel
theorem d_Md_byThree_221 : decode b_Md_byThree 221 = .ok (.ladd, 1) := by decide +kernel
theorem d_Md_byThree_222 : decode b_Md_byThree 222 = .ok (.lload 8, 2) := by decide +kernel
theorem d_Md_byThree_224 : decode b_Md_byThree 224 = .ok (.aload_n 0, 1) := by decide +kernel
theorem d_Md_byThree_225 : decode b_Md_byThree 225 = .ok (.getfield 53, 3) := by decide +kernel
theorem d_Md_byThree_228 : decode b_Md_byThree 228 = .ok (.iload_n 3, 1) := by decide +kernel
theorem d_Md_byThree_229 : decode b_Md_byThree 229 = .ok (.laload, 1) := by decide +kernel
theorem d_Md_byThree_230 : decode b_Md_byThree 230 = .ok (.lmul, 1) := by decide +kernel
theorem d_Md_byThree_231 : decode b_Md_byThree 231 = .ok (.ladd, 1) := by decide +kernel
theorem d_Md_byThree_232 : decode b_Md_byThree 232 = .ok (.lload 6, 2) := by decide +kernel
theorem d_Md_byThree_234 : decode b_Md_byThree 234 = .ok (.lload 4, 2) := by decide +kernel
theorem d_Md_byThree_236 : decode b_Md_byThree 236 = .ok (.lmul, 1) := by decide +kernel
theorem d_Md_byThree_237 : decode b_Md_byThree 237 = .ok (.invokevirtual 137, 3) := by decide +kernel
theorem d_Md_byThree_240 : decode b_Md_byThree 240 = .ok (.return_, 1) := by decide +kernel
theorem d_Md_holds_0 : decode b_Md_holds 0 = .ok (.aload_n 0, 1) := by decide +kernel
theorem d_Md_holds_1 : decode b_Md_holds 1 = .ok (.iload_n 1, 1) := by decide +kernel
theorem d_Md_holds_2 : decode b_Md_holds 2 = .ok (.iload_n 2, 1) := by decide +kernel
theorem d_Md_holds_3 : decode b_Md_holds 3 = .ok (.invokevirtual 92, 3) := by decide +kernel
theorem d_Md_holds_6 : decode b_Md_holds 6 = .ok (.ifCond .ne 6, 3) := by decide +kernel
theorem d_Md_holds_9 : decode b_Md_holds 9 = .ok (.bipush (-2), 2) := by decide +kernel
theorem d_Md_holds_11 : decode b_Md_holds 11 = .ok (.ireturn, 1) := by decide +kernel
theorem d_Md_holds_12 : decode b_Md_holds 12 = .ok (.aload_n 0, 1) := by decide +kernel
theorem d_Md_holds_13 : decode b_Md_holds 13 = .ok (.iload_n 1, 1) := by decide +kernel
theorem d_Md_holds_14 : decode b_Md_holds 14 = .ok (.iload_n 3, 1) := by decide +kernel
theorem d_Md_holds_15 : decode b_Md_holds 15 = .ok (.iload 4, 2) := by decide +kernel
theorem d_Md_holds_17 : decode b_Md_holds 17 = .ok (.iload 5, 2) := by decide +kernel
theorem d_Md_holds_19 : decode b_Md_holds 19 = .ok (.iload 6, 2) := by decide +kernel
theorem d_Md_holds_21 : decode b_Md_holds 21 = .ok (.invokevirtual 85, 3) := by decide +kernel
theorem d_Md_holds_24 : decode b_Md_holds 24 = .ok (.ifCond .ne 6, 3) := by decide +kernel
theorem d_Md_holds_27 : decode b_Md_holds 27 = .ok (.bipush (-3), 2) := by decide +kernel
theorem d_Md_holds_29 : decode b_Md_holds 29 = .ok (.ireturn, 1) := by decide +kernel
theorem d_Md_holds_30 : decode b_Md_holds 30 = .ok (.aload_n 0, 1) := by decide +kernel
theorem d_Md_holds_31 : decode b_Md_holds 31 = .ok (.iload_n 1, 1) := by decide +kernel
theorem d_Md_holds_32 : decode b_Md_holds 32 = .ok (.iload_n 2, 1) := by decide +kernel
theorem d_Md_holds_33 : decode b_Md_holds 33 = .ok (.iconst 0, 1) := by decide +kernel
theorem d_Md_holds_34 : decode b_Md_holds 34 = .ok (.invokevirtual 174, 3) := by decide +kernel
theorem d_Md_holds_37 : decode b_Md_holds 37 = .ok (.aload_n 0, 1) := by decide +kernel
theorem d_Md_holds_38 : decode b_Md_holds 38 = .ok (.invokevirtual 178, 3) := by decide +kernel
theorem d_Md_holds_41 : decode b_Md_holds 41 = .ok (.ifCond .eq 5, 3) := by decide +kernel
theorem d_Md_holds_44 : decode b_Md_holds 44 = .ok (.iconst 1, 1) := by decide +kernel
theorem d_Md_holds_45 : decode b_Md_holds 45 = .ok (.ireturn, 1) := by decide +kernel
theorem d_Md_holds_46 : decode b_Md_holds 46 = .ok (.aload_n 0, 1) := by decide +kernel
theorem d_Md_holds_47 : decode b_Md_holds 47 = .ok (.iload_n 3, 1) := by decide +kernel
theorem d_Md_holds_48 : decode b_Md_holds 48 = .ok (.i2l, 1) := by decide +kernel
theorem d_Md_holds_49 : decode b_Md_holds 49 = .ok (.iload 4, 2) := by decide +kernel
theorem d_Md_holds_51 : decode b_Md_holds 51 = .ok (.i2l, 1) := by decide +kernel
theorem d_Md_holds_52 : decode b_Md_holds 52 = .ok (.iload 5, 2) := by decide +kernel
theorem d_Md_holds_54 : decode b_Md_holds 54 = .ok (.i2l, 1) := by decide +kernel
theorem d_Md_holds_55 : decode b_Md_holds 55 = .ok (.invokevirtual 167, 3) := by decide +kernel
theorem d_Md_holds_58 : decode b_Md_holds 58 = .ok (.aload_n 0, 1) := by decide +kernel
theorem d_Md_holds_59 : decode b_Md_holds 59 = .ok (.iload 6, 2) := by decide +kernel
theorem d_Md_holds_61 : decode b_Md_holds 61 = .ok (.i2l, 1) := by decide +kernel
theorem d_Md_holds_62 : decode b_Md_holds 62 = .ok (.invokevirtual 182, 3) := by decide +kernel
theorem d_Md_holds_65 : decode b_Md_holds 65 = .ok (.ifCond .eq 7, 3) := by decide +kernel
theorem d_Md_holds_68 : decode b_Md_holds 68 = .ok (.iconst 1, 1) := by decide +kernel
theorem d_Md_holds_69 : decode b_Md_holds 69 = .ok (.goto 4, 3) := by decide +kernel
theorem d_Md_holds_72 : decode b_Md_holds 72 = .ok (.iconst 0, 1) := by decide +kernel
theorem d_Md_holds_73 : decode b_Md_holds 73 = .ok (.ireturn, 1) := by decide +kernel
theorem d_Md_isLeast_0 : decode b_Md_isLeast 0 = .ok (.aload_n 0, 1) := by decide +kernel
theorem d_Md_isLeast_1 : decode b_Md_isLeast 1 = .ok (.aload_n 0, 1) := by decide +kernel
theorem d_Md_isLeast_2 : decode b_Md_isLeast 2 = .ok (.getfield 99, 3) := by decide +kernel
theorem d_Md_isLeast_5 : decode b_Md_isLeast 5 = .ok (.invokevirtual 171, 3) := by decide +kernel
theorem d_Md_isLeast_8 : decode b_Md_isLeast 8 = .ok (.aload_n 0, 1) := by decide +kernel
theorem d_Md_isLeast_9 : decode b_Md_isLeast 9 = .ok (.getfield 128, 3) := by decide +kernel
theorem d_Md_isLeast_12 : decode b_Md_isLeast 12 = .ok (.ifCond .eq 21, 3) := by decide +kernel
theorem d_Md_isLeast_15 : decode b_Md_isLeast 15 = .ok (.aload_n 0, 1) := by decide +kernel
theorem d_Md_isLeast_16 : decode b_Md_isLeast 16 = .ok (.getfield 134, 3) := by decide +kernel
theorem d_Md_isLeast_19 : decode b_Md_isLeast 19 = .ok (.lload_n 1, 1) := by decide +kernel
theorem d_Md_isLeast_20 : decode b_Md_isLeast 20 = .ok (.aload_n 0, 1) := by decide +kernel
theorem d_Md_isLeast_21 : decode b_Md_isLeast 21 = .ok (.getfield 131, 3) := by decide +kernel
theorem d_Md_isLeast_24 : decode b_Md_isLeast 24 = .ok (.lmul, 1) := by decide +kernel
theorem d_Md_isLeast_25 : decode b_Md_isLeast 25 = .ok (.lcmp, 1) := by decide +kernel
theorem d_Md_isLeast_26 : decode b_Md_isLeast 26 = .ok (.ifCond .lt 7, 3) := by decide +kernel
theorem d_Md_isLeast_29 : decode b_Md_isLeast 29 = .ok (.iconst 1, 1) := by decide +kernel
theorem d_Md_isLeast_30 : decode b_Md_isLeast 30 = .ok (.goto 4, 3) := by decide +kernel
theorem d_Md_isLeast_33 : decode b_Md_isLeast 33 = .ok (.iconst 0, 1) := by decide +kernel
theorem d_Md_isLeast_34 : decode b_Md_isLeast 34 = .ok (.ireturn, 1) := by decide +kernel
theorem d_Md_term_0 : decode b_Md_term 0 = .ok (.aload_n 0, 1) := by decide +kernel
theorem d_Md_term_1 : decode b_Md_term 1 = .ok (.iload_n 1, 1) := by decide +kernel
theorem d_Md_term_2 : decode b_Md_term 2 = .ok (.iload_n 2, 1) := by decide +kernel
theorem d_Md_term_3 : decode b_Md_term 3 = .ok (.invokevirtual 92, 3) := by decide +kernel
theorem d_Md_term_6 : decode b_Md_term 6 = .ok (.ifCond .ne 6, 3) := by decide +kernel
theorem d_Md_term_9 : decode b_Md_term 9 = .ok (.bipush (-2), 2) := by decide +kernel
theorem d_Md_term_11 : decode b_Md_term 11 = .ok (.ireturn, 1) := by decide +kernel
theorem d_Md_term_12 : decode b_Md_term 12 = .ok (.aload_n 0, 1) := by decide +kernel
theorem d_Md_term_13 : decode b_Md_term 13 = .ok (.iload_n 1, 1) := by decide +kernel
theorem d_Md_term_14 : decode b_Md_term 14 = .ok (.iload_n 3, 1) := by decide +kernel
theorem d_Md_term_15 : decode b_Md_term 15 = .ok (.iload 4, 2) := by decide +kernel
theorem d_Md_term_17 : decode b_Md_term 17 = .ok (.iload 5, 2) := by decide +kernel
theorem d_Md_term_19 : decode b_Md_term 19 = .ok (.iconst 2, 1) := by decide +kernel
theorem d_Md_term_20 : decode b_Md_term 20 = .ok (.invokevirtual 71, 3) := by decide +kernel
theorem d_Md_term_23 : decode b_Md_term 23 = .ok (.ifCond .ne 6, 3) := by decide +kernel
theorem d_Md_term_26 : decode b_Md_term 26 = .ok (.bipush (-3), 2) := by decide +kernel
theorem d_Md_term_28 : decode b_Md_term 28 = .ok (.ireturn, 1) := by decide +kernel
theorem d_Md_term_29 : decode b_Md_term 29 = .ok (.aload_n 0, 1) := by decide +kernel
theorem d_Md_term_30 : decode b_Md_term 30 = .ok (.iload_n 1, 1) := by decide +kernel
theorem d_Md_term_31 : decode b_Md_term 31 = .ok (.iload_n 2, 1) := by decide +kernel
theorem d_Md_term_32 : decode b_Md_term 32 = .ok (.iconst 0, 1) := by decide +kernel
theorem d_Md_term_33 : decode b_Md_term 33 = .ok (.invokevirtual 174, 3) := by decide +kernel
theorem d_Md_term_36 : decode b_Md_term 36 = .ok (.aload_n 0, 1) := by decide +kernel
theorem d_Md_term_37 : decode b_Md_term 37 = .ok (.invokevirtual 178, 3) := by decide +kernel
theorem d_Md_term_40 : decode b_Md_term 40 = .ok (.ifCond .eq 6, 3) := by decide +kernel
theorem d_Md_term_43 : decode b_Md_term 43 = .ok (.bipush 7, 2) := by decide +kernel
theorem d_Md_term_45 : decode b_Md_term 45 = .ok (.ireturn, 1) := by decide +kernel
theorem d_Md_term_46 : decode b_Md_term 46 = .ok (.aload_n 0, 1) := by decide +kernel
theorem d_Md_term_47 : decode b_Md_term 47 = .ok (.iload_n 3, 1) := by decide +kernel
theorem d_Md_term_48 : decode b_Md_term 48 = .ok (.iload 4, 2) := by decide +kernel
theorem d_Md_term_50 : decode b_Md_term 50 = .ok (.iload 5, 2) := by decide +kernel
theorem d_Md_term_52 : decode b_Md_term 52 = .ok (.invokevirtual 190, 3) := by decide +kernel
theorem d_Md_term_55 : decode b_Md_term 55 = .ok (.ifCond .eq 7, 3) := by decide +kernel
theorem d_Md_term_58 : decode b_Md_term 58 = .ok (.iconst 1, 1) := by decide +kernel
theorem d_Md_term_59 : decode b_Md_term 59 = .ok (.goto 4, 3) := by decide +kernel
theorem d_Md_term_62 : decode b_Md_term 62 = .ok (.iconst 0, 1) := by decide +kernel
theorem d_Md_term_63 : decode b_Md_term 63 = .ok (.aload_n 0, 1) := by decide +kernel
theorem d_Md_term_64 : decode b_Md_term 64 = .ok (.iload_n 1, 1) := by decide +kernel
theorem d_Md_term_65 : decode b_Md_term 65 = .ok (.iload_n 2, 1) := by decide +kernel
theorem d_Md_term_66 : decode b_Md_term 66 = .ok (.iload_n 3, 1) := by decide +kernel
theorem d_Md_term_67 : decode b_Md_term 67 = .ok (.iload 4, 2) := by decide +kernel
theorem d_Md_term_69 : decode b_Md_term 69 = .ok (.iload 5, 2) := by decide +kernel
theorem d_Md_term_71 : decode b_Md_term 71 = .ok (.invokevirtual 193, 3) := by decide +kernel
theorem d_Md_term_74 : decode b_Md_term 74 = .ok (.iadd, 1) := by decide +kernel
theorem d_Md_term_75 : decode b_Md_term 75 = .ok (.ireturn, 1) := by decide +kernel
theorem d_Md_isBounded_0 : decode b_Md_isBounded 0 = .ok (.aload_n 0, 1) := by decide +kernel
theorem d_Md_isBounded_1 : decode b_Md_isBounded 1 = .ok (.iload_n 1, 1) := by decide +kernel
theorem d_Md_isBounded_2 : decode b_Md_isBounded 2 = .ok (.i2l, 1) := by decide +kernel
theorem d_Md_isBounded_3 : decode b_Md_isBounded 3 = .ok (.iload_n 2, 1) := by decide +kernel
theorem d_Md_isBounded_4 : decode b_Md_isBounded 4 = .ok (.i2l, 1) := by decide +kernel
theorem d_Md_isBounded_5 : decode b_Md_isBounded 5 = .ok (.iload_n 3, 1) := by decide +kernel
theorem d_Md_isBounded_6 : decode b_Md_isBounded 6 = .ok (.i2l, 1) := by decide +kernel
theorem d_Md_isBounded_7 : decode b_Md_isBounded 7 = .ok (.invokevirtual 167, 3) := by decide +kernel
theorem d_Md_isBounded_10 : decode b_Md_isBounded 10 = .ok (.aload_n 0, 1) := by decide +kernel
theorem d_Md_isBounded_11 : decode b_Md_isBounded 11 = .ok (.aload_n 0, 1) := by decide +kernel
theorem d_Md_isBounded_12 : decode b_Md_isBounded 12 = .ok (.getfield 99, 3) := by decide +kernel
theorem d_Md_isBounded_15 : decode b_Md_isBounded 15 = .ok (.invokevirtual 171, 3) := by decide +kernel
theorem d_Md_isBounded_18 : decode b_Md_isBounded 18 = .ok (.aload_n 0, 1) := by decide +kernel
theorem d_Md_isBounded_19 : decode b_Md_isBounded 19 = .ok (.getfield 128, 3) := by decide +kernel
theorem d_Md_isBounded_22 : decode b_Md_isBounded 22 = .ok (.ireturn, 1) := by decide +kernel
theorem d_Md_falls_0 : decode b_Md_falls 0 = .ok (.aload_n 0, 1) := by decide +kernel
theorem d_Md_falls_1 : decode b_Md_falls 1 = .ok (.iload_n 1, 1) := by decide +kernel
theorem d_Md_falls_2 : decode b_Md_falls 2 = .ok (.iload_n 2, 1) := by decide +kernel
theorem d_Md_falls_3 : decode b_Md_falls 3 = .ok (.iload_n 3, 1) := by decide +kernel
theorem d_Md_falls_4 : decode b_Md_falls 4 = .ok (.i2l, 1) := by decide +kernel
theorem d_Md_falls_5 : decode b_Md_falls 5 = .ok (.iload 4, 2) := by decide +kernel
theorem d_Md_falls_7 : decode b_Md_falls 7 = .ok (.i2l, 1) := by decide +kernel
theorem d_Md_falls_8 : decode b_Md_falls 8 = .ok (.iload 5, 2) := by decide +kernel
theorem d_Md_falls_10 : decode b_Md_falls 10 = .ok (.i2l, 1) := by decide +kernel
theorem d_Md_falls_11 : decode b_Md_falls 11 = .ok (.invokevirtual 186, 3) := by decide +kernel
theorem d_Md_falls_14 : decode b_Md_falls 14 = .ok (.lstore 6, 2) := by decide +kernel
theorem d_Md_falls_16 : decode b_Md_falls 16 = .ok (.aload_n 0, 1) := by decide +kernel
theorem d_Md_falls_17 : decode b_Md_falls 17 = .ok (.iload_n 3, 1) := by decide +kernel
theorem d_Md_falls_18 : decode b_Md_falls 18 = .ok (.i2l, 1) := by decide +kernel
theorem d_Md_falls_19 : decode b_Md_falls 19 = .ok (.aload_n 0, 1) := by decide +kernel
theorem d_Md_falls_20 : decode b_Md_falls 20 = .ok (.getfield 119, 3) := by decide +kernel
theorem d_Md_falls_23 : decode b_Md_falls 23 = .ok (.lsub, 1) := by decide +kernel
theorem d_Md_falls_24 : decode b_Md_falls 24 = .ok (.iload 4, 2) := by decide +kernel
theorem d_Md_falls_26 : decode b_Md_falls 26 = .ok (.i2l, 1) := by decide +kernel
theorem d_Md_falls_27 : decode b_Md_falls 27 = .ok (.aload_n 0, 1) := by decide +kernel
theorem d_Md_falls_28 : decode b_Md_falls 28 = .ok (.getfield 122, 3) := by decide +kernel
theorem d_Md_falls_31 : decode b_Md_falls 31 = .ok (.lsub, 1) := by decide +kernel
theorem d_Md_falls_32 : decode b_Md_falls 32 = .ok (.iload 5, 2) := by decide +kernel
theorem d_Md_falls_34 : decode b_Md_falls 34 = .ok (.i2l, 1) := by decide +kernel
theorem d_Md_falls_35 : decode b_Md_falls 35 = .ok (.aload_n 0, 1) := by decide +kernel
theorem d_Md_falls_36 : decode b_Md_falls 36 = .ok (.getfield 125, 3) := by decide +kernel
theorem d_Md_falls_39 : decode b_Md_falls 39 = .ok (.lsub, 1) := by decide +kernel
theorem d_Md_falls_40 : decode b_Md_falls 40 = .ok (.invokevirtual 167, 3) := by decide +kernel
theorem d_Md_falls_43 : decode b_Md_falls 43 = .ok (.aload_n 0, 1) := by decide +kernel
theorem d_Md_falls_44 : decode b_Md_falls 44 = .ok (.aload_n 0, 1) := by decide +kernel
theorem d_Md_falls_45 : decode b_Md_falls 45 = .ok (.getfield 99, 3) := by decide +kernel
theorem d_Md_falls_48 : decode b_Md_falls 48 = .ok (.invokevirtual 171, 3) := by decide +kernel
theorem d_Md_falls_51 : decode b_Md_falls 51 = .ok (.aload_n 0, 1) := by decide +kernel
theorem d_Md_falls_52 : decode b_Md_falls 52 = .ok (.getfield 128, 3) := by decide +kernel
theorem d_Md_falls_55 : decode b_Md_falls 55 = .ok (.ifCond .eq 18, 3) := by decide +kernel
theorem d_Md_falls_58 : decode b_Md_falls 58 = .ok (.aload_n 0, 1) := by decide +kernel
theorem d_Md_falls_59 : decode b_Md_falls 59 = .ok (.getfield 134, 3) := by decide +kernel
theorem d_Md_falls_62 : decode b_Md_falls 62 = .ok (.lload 6, 2) := by decide +kernel
theorem d_Md_falls_64 : decode b_Md_falls 64 = .ok (.aload_n 0, 1) := by decide +kernel
theorem d_Md_falls_65 : decode b_Md_falls 65 = .ok (.getfield 131, 3) := by decide +kernel
theorem d_Md_falls_68 : decode b_Md_falls 68 = .ok (.lmul, 1) := by decide +kernel
theorem d_Md_falls_69 : decode b_Md_falls 69 = .ok (.lcmp, 1) := by decide +kernel
theorem d_Md_falls_70 : decode b_Md_falls 70 = .ok (.ifCond .ge 5, 3) := by decide +kernel
theorem d_Md_falls_73 : decode b_Md_falls 73 = .ok (.iconst 0, 1) := by decide +kernel
theorem d_Md_falls_74 : decode b_Md_falls 74 = .ok (.ireturn, 1) := by decide +kernel
theorem d_Md_falls_75 : decode b_Md_falls 75 = .ok (.aload_n 0, 1) := by decide +kernel
theorem d_Md_falls_76 : decode b_Md_falls 76 = .ok (.getfield 134, 3) := by decide +kernel
theorem d_Md_falls_79 : decode b_Md_falls 79 = .ok (.lload 6, 2) := by decide +kernel
theorem d_Md_falls_81 : decode b_Md_falls 81 = .ok (.lconst 1, 1) := by decide +kernel
theorem d_Md_falls_82 : decode b_Md_falls 82 = .ok (.ladd, 1) := by decide +kernel
theorem d_Md_falls_83 : decode b_Md_falls 83 = .ok (.aload_n 0, 1) := by decide +kernel
theorem d_Md_falls_84 : decode b_Md_falls 84 = .ok (.getfield 131, 3) := by decide +kernel
theorem d_Md_falls_87 : decode b_Md_falls 87 = .ok (.lmul, 1) := by decide +kernel
theorem d_Md_falls_88 : decode b_Md_falls 88 = .ok (.lcmp, 1) := by decide +kernel
theorem d_Md_falls_89 : decode b_Md_falls 89 = .ok (.ifCond .lt 8, 3) := by decide +kernel
theorem d_Md_falls_92 : decode b_Md_falls 92 = .ok (.bipush 6, 2) := by decide +kernel
theorem d_Md_falls_94 : decode b_Md_falls 94 = .ok (.goto 4, 3) := by decide +kernel
theorem d_Md_falls_97 : decode b_Md_falls 97 = .ok (.iconst 2, 1) := by decide +kernel
theorem d_Md_falls_98 : decode b_Md_falls 98 = .ok (.ireturn, 1) := by decide +kernel
theorem d_Md_changed_0 : decode b_Md_changed 0 = .ok (.iconst 3, 1) := by decide +kernel
theorem d_Md_changed_1 : decode b_Md_changed 1 = .ok (.iload_n 1, 1) := by decide +kernel
theorem d_Md_changed_2 : decode b_Md_changed 2 = .ok (.imul, 1) := by decide +kernel
theorem d_Md_changed_3 : decode b_Md_changed 3 = .ok (.iload_n 2, 1) := by decide +kernel
theorem d_Md_changed_4 : decode b_Md_changed 4 = .ok (.iadd, 1) := by decide +kernel
theorem d_Md_changed_5 : decode b_Md_changed 5 = .ok (.istore 9, 2) := by decide +kernel
theorem d_Md_changed_7 : decode b_Md_changed 7 = .ok (.bipush 9, 2) := by decide +kernel
theorem d_Md_changed_9 : decode b_Md_changed 9 = .ok (.iload 9, 2) := by decide +kernel
theorem d_Md_changed_11 : decode b_Md_changed 11 = .ok (.imul, 1) := by decide +kernel
theorem d_Md_changed_12 : decode b_Md_changed 12 = .ok (.istore 10, 2) := by decide +kernel
theorem d_Md_changed_14 : decode b_Md_changed 14 = .ok (.aload_n 0, 1) := by decide +kernel
theorem d_Md_changed_15 : decode b_Md_changed 15 = .ok (.lload_n 3, 1) := by decide +kernel
theorem d_Md_changed_16 : decode b_Md_changed 16 = .ok (.aload_n 0, 1) := by decide +kernel
theorem d_Md_changed_17 : decode b_Md_changed 17 = .ok (.getfield 28, 3) := by decide +kernel
theorem d_Md_changed_20 : decode b_Md_changed 20 = .ok (.iload 10, 2) := by decide +kernel
theorem d_Md_changed_22 : decode b_Md_changed 22 = .ok (.iaload, 1) := by decide +kernel
theorem d_Md_changed_23 : decode b_Md_changed 23 = .ok (.i2l, 1) := by decide +kernel
theorem d_Md_changed_24 : decode b_Md_changed 24 = .ok (.lmul, 1) := by decide +kernel
theorem d_Md_changed_25 : decode b_Md_changed 25 = .ok (.lload 5, 2) := by decide +kernel
theorem d_Md_changed_27 : decode b_Md_changed 27 = .ok (.aload_n 0, 1) := by decide +kernel
theorem d_Md_changed_28 : decode b_Md_changed 28 = .ok (.getfield 28, 3) := by decide +kernel
theorem d_Md_changed_31 : decode b_Md_changed 31 = .ok (.iload 10, 2) := by decide +kernel
theorem d_Md_changed_33 : decode b_Md_changed 33 = .ok (.iconst 3, 1) := by decide +kernel
theorem d_Md_changed_34 : decode b_Md_changed 34 = .ok (.iadd, 1) := by decide +kernel
theorem d_Md_changed_35 : decode b_Md_changed 35 = .ok (.iaload, 1) := by decide +kernel
theorem d_Md_changed_36 : decode b_Md_changed 36 = .ok (.i2l, 1) := by decide +kernel
theorem d_Md_changed_37 : decode b_Md_changed 37 = .ok (.lmul, 1) := by decide +kernel
theorem d_Md_changed_38 : decode b_Md_changed 38 = .ok (.ladd, 1) := by decide +kernel
theorem d_Md_changed_39 : decode b_Md_changed 39 = .ok (.lload 7, 2) := by decide +kernel
theorem d_Md_changed_41 : decode b_Md_changed 41 = .ok (.aload_n 0, 1) := by decide +kernel
theorem d_Md_changed_42 : decode b_Md_changed 42 = .ok (.getfield 28, 3) := by decide +kernel
theorem d_Md_changed_45 : decode b_Md_changed 45 = .ok (.iload 10, 2) := by decide +kernel
theorem d_Md_changed_47 : decode b_Md_changed 47 = .ok (.bipush 6, 2) := by decide +kernel
theorem d_Md_changed_49 : decode b_Md_changed 49 = .ok (.iadd, 1) := by decide +kernel
theorem d_Md_changed_50 : decode b_Md_changed 50 = .ok (.iaload, 1) := by decide +kernel
theorem d_Md_changed_51 : decode b_Md_changed 51 = .ok (.i2l, 1) := by decide +kernel
theorem d_Md_changed_52 : decode b_Md_changed 52 = .ok (.lmul, 1) := by decide +kernel
theorem d_Md_changed_53 : decode b_Md_changed 53 = .ok (.ladd, 1) := by decide +kernel
theorem d_Md_changed_54 : decode b_Md_changed 54 = .ok (.lload_n 3, 1) := by decide +kernel
theorem d_Md_changed_55 : decode b_Md_changed 55 = .ok (.aload_n 0, 1) := by decide +kernel
theorem d_Md_changed_56 : decode b_Md_changed 56 = .ok (.getfield 28, 3) := by decide +kernel
theorem d_Md_changed_59 : decode b_Md_changed 59 = .ok (.iload 10, 2) := by decide +kernel
theorem d_Md_changed_61 : decode b_Md_changed 61 = .ok (.iconst 1, 1) := by decide +kernel
theorem d_Md_changed_62 : decode b_Md_changed 62 = .ok (.iadd, 1) := by decide +kernel
theorem d_Md_changed_63 : decode b_Md_changed 63 = .ok (.iaload, 1) := by decide +kernel
theorem d_Md_changed_64 : decode b_Md_changed 64 = .ok (.i2l, 1) := by decide +kernel
theorem d_Md_changed_65 : decode b_Md_changed 65 = .ok (.lmul, 1) := by decide +kernel
theorem d_Md_changed_66 : decode b_Md_changed 66 = .ok (.lload 5, 2) := by decide +kernel
theorem d_Md_changed_68 : decode b_Md_changed 68 = .ok (.aload_n 0, 1) := by decide +kernel
theorem d_Md_changed_69 : decode b_Md_changed 69 = .ok (.getfield 28, 3) := by decide +kernel
theorem d_Md_changed_72 : decode b_Md_changed 72 = .ok (.iload 10, 2) := by decide +kernel
theorem d_Md_changed_74 : decode b_Md_changed 74 = .ok (.iconst 4, 1) := by decide +kernel
theorem d_Md_changed_75 : decode b_Md_changed 75 = .ok (.iadd, 1) := by decide +kernel
theorem d_Md_changed_76 : decode b_Md_changed 76 = .ok (.iaload, 1) := by decide +kernel
theorem d_Md_changed_77 : decode b_Md_changed 77 = .ok (.i2l, 1) := by decide +kernel
theorem d_Md_changed_78 : decode b_Md_changed 78 = .ok (.lmul, 1) := by decide +kernel
theorem d_Md_changed_79 : decode b_Md_changed 79 = .ok (.ladd, 1) := by decide +kernel
theorem d_Md_changed_80 : decode b_Md_changed 80 = .ok (.lload 7, 2) := by decide +kernel
theorem d_Md_changed_82 : decode b_Md_changed 82 = .ok (.aload_n 0, 1) := by decide +kernel
theorem d_Md_changed_83 : decode b_Md_changed 83 = .ok (.getfield 28, 3) := by decide +kernel
theorem d_Md_changed_86 : decode b_Md_changed 86 = .ok (.iload 10, 2) := by decide +kernel
theorem d_Md_changed_88 : decode b_Md_changed 88 = .ok (.bipush 7, 2) := by decide +kernel
theorem d_Md_changed_90 : decode b_Md_changed 90 = .ok (.iadd, 1) := by decide +kernel
theorem d_Md_changed_91 : decode b_Md_changed 91 = .ok (.iaload, 1) := by decide +kernel
theorem d_Md_changed_92 : decode b_Md_changed 92 = .ok (.i2l, 1) := by decide +kernel
theorem d_Md_changed_93 : decode b_Md_changed 93 = .ok (.lmul, 1) := by decide +kernel
theorem d_Md_changed_94 : decode b_Md_changed 94 = .ok (.ladd, 1) := by decide +kernel
theorem d_Md_changed_95 : decode b_Md_changed 95 = .ok (.lload_n 3, 1) := by decide +kernel
theorem d_Md_changed_96 : decode b_Md_changed 96 = .ok (.aload_n 0, 1) := by decide +kernel
theorem d_Md_changed_97 : decode b_Md_changed 97 = .ok (.getfield 28, 3) := by decide +kernel
theorem d_Md_changed_100 : decode b_Md_changed 100 = .ok (.iload 10, 2) := by decide +kernel
theorem d_Md_changed_102 : decode b_Md_changed 102 = .ok (.iconst 2, 1) := by decide +kernel
theorem d_Md_changed_103 : decode b_Md_changed 103 = .ok (.iadd, 1) := by decide +kernel
theorem d_Md_changed_104 : decode b_Md_changed 104 = .ok (.iaload, 1) := by decide +kernel
theorem d_Md_changed_105 : decode b_Md_changed 105 = .ok (.i2l, 1) := by decide +kernel
theorem d_Md_changed_106 : decode b_Md_changed 106 = .ok (.lmul, 1) := by decide +kernel
theorem d_Md_changed_107 : decode b_Md_changed 107 = .ok (.lload 5, 2) := by decide +kernel
theorem d_Md_changed_109 : decode b_Md_changed 109 = .ok (.aload_n 0, 1) := by decide +kernel
theorem d_Md_changed_110 : decode b_Md_changed 110 = .ok (.getfield 28, 3) := by decide +kernel
theorem d_Md_changed_113 : decode b_Md_changed 113 = .ok (.iload 10, 2) := by decide +kernel
theorem d_Md_changed_115 : decode b_Md_changed 115 = .ok (.iconst 5, 1) := by decide +kernel
theorem d_Md_changed_116 : decode b_Md_changed 116 = .ok (.iadd, 1) := by decide +kernel
theorem d_Md_changed_117 : decode b_Md_changed 117 = .ok (.iaload, 1) := by decide +kernel
theorem d_Md_changed_118 : decode b_Md_changed 118 = .ok (.i2l, 1) := by decide +kernel
theorem d_Md_changed_119 : decode b_Md_changed 119 = .ok (.lmul, 1) := by decide +kernel
theorem d_Md_changed_120 : decode b_Md_changed 120 = .ok (.ladd, 1) := by decide +kernel
theorem d_Md_changed_121 : decode b_Md_changed 121 = .ok (.lload 7, 2) := by decide +kernel
theorem d_Md_changed_123 : decode b_Md_changed 123 = .ok (.aload_n 0, 1) := by decide +kernel
theorem d_Md_changed_124 : decode b_Md_changed 124 = .ok (.getfield 28, 3) := by decide +kernel
theorem d_Md_changed_127 : decode b_Md_changed 127 = .ok (.iload 10, 2) := by decide +kernel
theorem d_Md_changed_129 : decode b_Md_changed 129 = .ok (.bipush 8, 2) := by decide +kernel
theorem d_Md_changed_131 : decode b_Md_changed 131 = .ok (.iadd, 1) := by decide +kernel
theorem d_Md_changed_132 : decode b_Md_changed 132 = .ok (.iaload, 1) := by decide +kernel
theorem d_Md_changed_133 : decode b_Md_changed 133 = .ok (.i2l, 1) := by decide +kernel
theorem d_Md_changed_134 : decode b_Md_changed 134 = .ok (.lmul, 1) := by decide +kernel
theorem d_Md_changed_135 : decode b_Md_changed 135 = .ok (.ladd, 1) := by decide +kernel
theorem d_Md_changed_136 : decode b_Md_changed 136 = .ok (.invokevirtual 167, 3) := by decide +kernel
theorem d_Md_changed_139 : decode b_Md_changed 139 = .ok (.lload_n 3, 1) := by decide +kernel
theorem d_Md_changed_140 : decode b_Md_changed 140 = .ok (.aload_n 0, 1) := by decide +kernel
theorem d_Md_changed_141 : decode b_Md_changed 141 = .ok (.getfield 31, 3) := by decide +kernel
theorem d_Md_changed_144 : decode b_Md_changed 144 = .ok (.iconst 3, 1) := by decide +kernel
theorem d_Md_changed_145 : decode b_Md_changed 145 = .ok (.iload 9, 2) := by decide +kernel
theorem d_Md_changed_147 : decode b_Md_changed 147 = .ok (.imul, 1) := by decide +kernel
theorem d_Md_changed_148 : decode b_Md_changed 148 = .ok (.iaload, 1) := by decide +kernel
theorem d_Md_changed_149 : decode b_Md_changed 149 = .ok (.i2l, 1) := by decide +kernel
theorem d_Md_changed_150 : decode b_Md_changed 150 = .ok (.lmul, 1) := by decide +kernel
theorem d_Md_changed_151 : decode b_Md_changed 151 = .ok (.lload 5, 2) := by decide +kernel
theorem d_Md_changed_153 : decode b_Md_changed 153 = .ok (.aload_n 0, 1) := by decide +kernel
theorem d_Md_changed_154 : decode b_Md_changed 154 = .ok (.getfield 31, 3) := by decide +kernel
theorem d_Md_changed_157 : decode b_Md_changed 157 = .ok (.iconst 3, 1) := by decide +kernel
theorem d_Md_changed_158 : decode b_Md_changed 158 = .ok (.iload 9, 2) := by decide +kernel
theorem d_Md_changed_160 : decode b_Md_changed 160 = .ok (.imul, 1) := by decide +kernel
theorem d_Md_changed_161 : decode b_Md_changed 161 = .ok (.iconst 1, 1) := by decide +kernel
theorem d_Md_changed_162 : decode b_Md_changed 162 = .ok (.iadd, 1) := by decide +kernel
theorem d_Md_changed_163 : decode b_Md_changed 163 = .ok (.iaload, 1) := by decide +kernel
theorem d_Md_changed_164 : decode b_Md_changed 164 = .ok (.i2l, 1) := by decide +kernel
theorem d_Md_changed_165 : decode b_Md_changed 165 = .ok (.lmul, 1) := by decide +kernel
theorem d_Md_changed_166 : decode b_Md_changed 166 = .ok (.ladd, 1) := by decide +kernel
theorem d_Md_changed_167 : decode b_Md_changed 167 = .ok (.lload 7, 2) := by decide +kernel
theorem d_Md_changed_169 : decode b_Md_changed 169 = .ok (.aload_n 0, 1) := by decide +kernel
theorem d_Md_changed_170 : decode b_Md_changed 170 = .ok (.getfield 31, 3) := by decide +kernel
theorem d_Md_changed_173 : decode b_Md_changed 173 = .ok (.iconst 3, 1) := by decide +kernel
theorem d_Md_changed_174 : decode b_Md_changed 174 = .ok (.iload 9, 2) := by decide +kernel
theorem d_Md_changed_176 : decode b_Md_changed 176 = .ok (.imul, 1) := by decide +kernel
theorem d_Md_changed_177 : decode b_Md_changed 177 = .ok (.iconst 2, 1) := by decide +kernel
theorem d_Md_changed_178 : decode b_Md_changed 178 = .ok (.iadd, 1) := by decide +kernel
theorem d_Md_changed_179 : decode b_Md_changed 179 = .ok (.iaload, 1) := by decide +kernel
theorem d_Md_changed_180 : decode b_Md_changed 180 = .ok (.i2l, 1) := by decide +kernel
theorem d_Md_changed_181 : decode b_Md_changed 181 = .ok (.lmul, 1) := by decide +kernel
theorem d_Md_changed_182 : decode b_Md_changed 182 = .ok (.ladd, 1) := by decide +kernel
theorem d_Md_changed_183 : decode b_Md_changed 183 = .ok (.lreturn, 1) := by decide +kernel
theorem d_Md_prove_0 : decode b_Md_prove 0 = .ok (.aload_n 0, 1) := by decide +kernel
theorem d_Md_prove_1 : decode b_Md_prove 1 = .ok (.iload_n 1, 1) := by decide +kernel
theorem d_Md_prove_2 : decode b_Md_prove 2 = .ok (.invokevirtual 67, 3) := by decide +kernel
theorem d_Md_prove_5 : decode b_Md_prove 5 = .ok (.ifCond .ne 6, 3) := by decide +kernel
theorem d_Md_prove_8 : decode b_Md_prove 8 = .ok (.bipush (-2), 2) := by decide +kernel
theorem d_Md_prove_10 : decode b_Md_prove 10 = .ok (.ireturn, 1) := by decide +kernel
theorem d_Md_prove_11 : decode b_Md_prove 11 = .ok (.aload_n 0, 1) := by decide +kernel
theorem d_Md_prove_12 : decode b_Md_prove 12 = .ok (.aload_n 0, 1) := by decide +kernel
theorem d_Md_prove_13 : decode b_Md_prove 13 = .ok (.iload_n 1, 1) := by decide +kernel
theorem d_Md_prove_14 : decode b_Md_prove 14 = .ok (.iconst 0, 1) := by decide +kernel
theorem d_Md_prove_15 : decode b_Md_prove 15 = .ok (.invokevirtual 204, 3) := by decide +kernel
theorem d_Md_prove_18 : decode b_Md_prove 18 = .ok (.putfield 78, 3) := by decide +kernel
theorem d_Md_prove_21 : decode b_Md_prove 21 = .ok (.aload_n 0, 1) := by decide +kernel
theorem d_Md_prove_22 : decode b_Md_prove 22 = .ok (.aload_n 0, 1) := by decide +kernel
theorem d_Md_prove_23 : decode b_Md_prove 23 = .ok (.getfield 197, 3) := by decide +kernel
theorem d_Md_prove_26 : decode b_Md_prove 26 = .ok (.putfield 75, 3) := by decide +kernel
theorem d_Md_prove_29 : decode b_Md_prove 29 = .ok (.iconst 0, 1) := by decide +kernel
theorem d_Md_prove_30 : decode b_Md_prove 30 = .ok (.istore_n 2, 1) := by decide +kernel
theorem d_Md_prove_31 : decode b_Md_prove 31 = .ok (.iload_n 2, 1) := by decide +kernel
theorem d_Md_prove_32 : decode b_Md_prove 32 = .ok (.iconst 4, 1) := by decide +kernel
theorem d_Md_prove_33 : decode b_Md_prove 33 = .ok (.aload_n 0, 1) := by decide +kernel
theorem d_Md_prove_34 : decode b_Md_prove 34 = .ok (.getfield 197, 3) := by decide +kernel
theorem d_Md_prove_37 : decode b_Md_prove 37 = .ok (.imul, 1) := by decide +kernel
theorem d_Md_prove_38 : decode b_Md_prove 38 = .ok (.if_icmp .ge 21, 3) := by decide +kernel
theorem d_Md_prove_41 : decode b_Md_prove 41 = .ok (.aload_n 0, 1) := by decide +kernel
theorem d_Md_prove_42 : decode b_Md_prove 42 = .ok (.getfield 38, 3) := by decide +kernel
theorem d_Md_prove_45 : decode b_Md_prove 45 = .ok (.iload_n 2, 1) := by decide +kernel
theorem d_Md_prove_46 : decode b_Md_prove 46 = .ok (.aload_n 0, 1) := by decide +kernel
theorem d_Md_prove_47 : decode b_Md_prove 47 = .ok (.getfield 56, 3) := by decide +kernel
theorem d_Md_prove_50 : decode b_Md_prove 50 = .ok (.iload_n 2, 1) := by decide +kernel
theorem d_Md_prove_51 : decode b_Md_prove 51 = .ok (.iaload, 1) := by decide +kernel
theorem d_Md_prove_52 : decode b_Md_prove 52 = .ok (.iastore, 1) := by decide +kernel
theorem d_Md_prove_53 : decode b_Md_prove 53 = .ok (.iinc 2 1, 3) := by decide +kernel
theorem d_Md_prove_56 : decode b_Md_prove 56 = .ok (.goto (-25), 3) := by decide +kernel
theorem d_Md_prove_59 : decode b_Md_prove 59 = .ok (.aload_n 0, 1) := by decide +kernel
theorem d_Md_prove_60 : decode b_Md_prove 60 = .ok (.getfield 78, 3) := by decide +kernel
theorem d_Md_prove_63 : decode b_Md_prove 63 = .ok (.ifCond .ne 7, 3) := by decide +kernel
theorem d_Md_prove_66 : decode b_Md_prove 66 = .ok (.iconst 1, 1) := by decide +kernel
theorem d_Md_prove_67 : decode b_Md_prove 67 = .ok (.goto 4, 3) := by decide +kernel
theorem d_Md_prove_70 : decode b_Md_prove 70 = .ok (.iconst 0, 1) := by decide +kernel
theorem d_Md_prove_71 : decode b_Md_prove 71 = .ok (.ireturn, 1) := by decide +kernel
theorem d_Md_leftBy_0 : decode b_Md_leftBy 0 = .ok (.iconst 0, 1) := by decide +kernel
theorem d_Md_leftBy_1 : decode b_Md_leftBy 1 = .ok (.istore_n 3, 1) := by decide +kernel
theorem d_Md_leftBy_2 : decode b_Md_leftBy 2 = .ok (.aload_n 0, 1) := by decide +kernel
theorem d_Md_leftBy_3 : decode b_Md_leftBy 3 = .ok (.iconst 0, 1) := by decide +kernel
theorem d_Md_leftBy_4 : decode b_Md_leftBy 4 = .ok (.putfield 197, 3) := by decide +kernel
theorem d_Md_leftBy_7 : decode b_Md_leftBy 7 = .ok (.iconst 0, 1) := by decide +kernel
theorem d_Md_leftBy_8 : decode b_Md_leftBy 8 = .ok (.istore 4, 2) := by decide +kernel
theorem d_Md_leftBy_10 : decode b_Md_leftBy 10 = .ok (.iconst 0, 1) := by decide +kernel
theorem d_Md_leftBy_11 : decode b_Md_leftBy 11 = .ok (.istore 5, 2) := by decide +kernel
theorem d_Md_leftBy_13 : decode b_Md_leftBy 13 = .ok (.iload 5, 2) := by decide +kernel
theorem d_Md_leftBy_15 : decode b_Md_leftBy 15 = .ok (.aload_n 0, 1) := by decide +kernel
theorem d_Md_leftBy_16 : decode b_Md_leftBy 16 = .ok (.getfield 13, 3) := by decide +kernel
theorem d_Md_leftBy_19 : decode b_Md_leftBy 19 = .ok (.iload_n 1, 1) := by decide +kernel
theorem d_Md_leftBy_20 : decode b_Md_leftBy 20 = .ok (.iaload, 1) := by decide +kernel
theorem d_Md_leftBy_21 : decode b_Md_leftBy 21 = .ok (.if_icmp .ge 44, 3) := by decide +kernel
theorem d_Md_leftBy_24 : decode b_Md_leftBy 24 = .ok (.iload_n 3, 1) := by decide +kernel
theorem d_Md_leftBy_25 : decode b_Md_leftBy 25 = .ok (.iconst 1, 1) := by decide +kernel
theorem d_Md_leftBy_26 : decode b_Md_leftBy 26 = .ok (.iload 5, 2) := by decide +kernel
theorem d_Md_leftBy_28 : decode b_Md_leftBy 28 = .ok (.ishl, 1) := by decide +kernel
theorem d_Md_leftBy_29 : decode b_Md_leftBy 29 = .ok (.iadd, 1) := by decide +kernel
theorem d_Md_leftBy_30 : decode b_Md_leftBy 30 = .ok (.istore_n 3, 1) := by decide +kernel
theorem d_Md_leftBy_31 : decode b_Md_leftBy 31 = .ok (.aload_n 0, 1) := by decide +kernel
theorem d_Md_leftBy_32 : decode b_Md_leftBy 32 = .ok (.iload_n 1, 1) := by decide +kernel
theorem d_Md_leftBy_33 : decode b_Md_leftBy 33 = .ok (.iload 5, 2) := by decide +kernel
theorem d_Md_leftBy_35 : decode b_Md_leftBy 35 = .ok (.iload_n 2, 1) := by decide +kernel
theorem d_Md_leftBy_36 : decode b_Md_leftBy 36 = .ok (.invokevirtual 174, 3) := by decide +kernel
theorem d_Md_leftBy_39 : decode b_Md_leftBy 39 = .ok (.iload 4, 2) := by decide +kernel
theorem d_Md_leftBy_41 : decode b_Md_leftBy 41 = .ok (.aload_n 0, 1) := by decide +kernel
theorem d_Md_leftBy_42 : decode b_Md_leftBy 42 = .ok (.invokevirtual 178, 3) := by decide +kernel
theorem d_Md_leftBy_45 : decode b_Md_leftBy 45 = .ok (.ifCond .eq 10, 3) := by decide +kernel
theorem d_Md_leftBy_48 : decode b_Md_leftBy 48 = .ok (.iconst 1, 1) := by decide +kernel
theorem d_Md_leftBy_49 : decode b_Md_leftBy 49 = .ok (.iload 5, 2) := by decide +kernel
theorem d_Md_leftBy_51 : decode b_Md_leftBy 51 = .ok (.ishl, 1) := by decide +kernel
theorem d_Md_leftBy_52 : decode b_Md_leftBy 52 = .ok (.goto 4, 3) := by decide +kernel
theorem d_Md_leftBy_55 : decode b_Md_leftBy 55 = .ok (.iconst 0, 1) := by decide +kernel
theorem d_Md_leftBy_56 : decode b_Md_leftBy 56 = .ok (.iadd, 1) := by decide +kernel
theorem d_Md_leftBy_57 : decode b_Md_leftBy 57 = .ok (.istore 4, 2) := by decide +kernel
theorem d_Md_leftBy_59 : decode b_Md_leftBy 59 = .ok (.iinc 5 1, 3) := by decide +kernel
theorem d_Md_leftBy_62 : decode b_Md_leftBy 62 = .ok (.goto (-49), 3) := by decide +kernel
theorem d_Md_leftBy_65 : decode b_Md_leftBy 65 = .ok (.iconst 1, 1) := by decide +kernel
theorem d_Md_leftBy_66 : decode b_Md_leftBy 66 = .ok (.istore 5, 2) := by decide +kernel
theorem d_Md_leftBy_68 : decode b_Md_leftBy 68 = .ok (.iload 5, 2) := by decide +kernel
theorem d_Md_leftBy_70 : decode b_Md_leftBy 70 = .ok (.ifCond .eq 141, 3) := by decide +kernel
theorem d_Md_leftBy_73 : decode b_Md_leftBy 73 = .ok (.iload_n 3, 1) := by decide +kernel
theorem d_Md_leftBy_74 : decode b_Md_leftBy 74 = .ok (.ifCond .eq 137, 3) := by decide +kernel
theorem d_Md_leftBy_77 : decode b_Md_leftBy 77 = .ok (.iconst 0, 1) := by decide +kernel
theorem d_Md_leftBy_78 : decode b_Md_leftBy 78 = .ok (.istore 5, 2) := by decide +kernel
theorem d_Md_leftBy_80 : decode b_Md_leftBy 80 = .ok (.iconst 0, 1) := by decide +kernel
theorem d_Md_leftBy_81 : decode b_Md_leftBy 81 = .ok (.istore 6, 2) := by decide +kernel
theorem d_Md_leftBy_83 : decode b_Md_leftBy 83 = .ok (.iload 6, 2) := by decide +kernel
theorem d_Md_leftBy_85 : decode b_Md_leftBy 85 = .ok (.bipush 125, 2) := by decide +kernel
theorem d_Md_leftBy_87 : decode b_Md_leftBy 87 = .ok (.if_icmp .ge 121, 3) := by decide +kernel
theorem d_Md_leftBy_90 : decode b_Md_leftBy 90 = .ok (.iload 5, 2) := by decide +kernel
theorem d_Md_leftBy_92 : decode b_Md_leftBy 92 = .ok (.ifCond .ne 116, 3) := by decide +kernel
theorem d_Md_leftBy_95 : decode b_Md_leftBy 95 = .ok (.iload 6, 2) := by decide +kernel
theorem d_Md_leftBy_97 : decode b_Md_leftBy 97 = .ok (.bipush 25, 2) := by decide +kernel
theorem d_Md_leftBy_99 : decode b_Md_leftBy 99 = .ok (.idiv, 1) := by decide +kernel
theorem d_Md_leftBy_100 : decode b_Md_leftBy 100 = .ok (.iconst 2, 1) := by decide +kernel
theorem d_Md_leftBy_101 : decode b_Md_leftBy 101 = .ok (.isub, 1) := by decide +kernel
theorem d_Md_leftBy_102 : decode b_Md_leftBy 102 = .ok (.istore 7, 2) := by decide +kernel
theorem d_Md_leftBy_104 : decode b_Md_leftBy 104 = .ok (.iload 6, 2) := by decide +kernel
theorem d_Md_leftBy_106 : decode b_Md_leftBy 106 = .ok (.iconst 5, 1) := by decide +kernel
theorem d_Md_leftBy_107 : decode b_Md_leftBy 107 = .ok (.idiv, 1) := by decide +kernel
theorem d_Md_leftBy_108 : decode b_Md_leftBy 108 = .ok (.iconst 5, 1) := by decide +kernel
theorem d_Md_leftBy_109 : decode b_Md_leftBy 109 = .ok (.irem, 1) := by decide +kernel
theorem d_Md_leftBy_110 : decode b_Md_leftBy 110 = .ok (.iconst 2, 1) := by decide +kernel
theorem d_Md_leftBy_111 : decode b_Md_leftBy 111 = .ok (.isub, 1) := by decide +kernel
theorem d_Md_leftBy_112 : decode b_Md_leftBy 112 = .ok (.istore 8, 2) := by decide +kernel
theorem d_Md_leftBy_114 : decode b_Md_leftBy 114 = .ok (.iload 6, 2) := by decide +kernel
theorem d_Md_leftBy_116 : decode b_Md_leftBy 116 = .ok (.iconst 5, 1) := by decide +kernel
theorem d_Md_leftBy_117 : decode b_Md_leftBy 117 = .ok (.irem, 1) := by decide +kernel
theorem d_Md_leftBy_118 : decode b_Md_leftBy 118 = .ok (.iconst 2, 1) := by decide +kernel
theorem d_Md_leftBy_119 : decode b_Md_leftBy 119 = .ok (.isub, 1) := by decide +kernel
theorem d_Md_leftBy_120 : decode b_Md_leftBy 120 = .ok (.istore 9, 2) := by decide +kernel
theorem d_Md_leftBy_122 : decode b_Md_leftBy 122 = .ok (.aload_n 0, 1) := by decide +kernel
theorem d_Md_leftBy_123 : decode b_Md_leftBy 123 = .ok (.iload_n 1, 1) := by decide +kernel
theorem d_Md_leftBy_124 : decode b_Md_leftBy 124 = .ok (.iload 7, 2) := by decide +kernel
theorem d_Md_leftBy_126 : decode b_Md_leftBy 126 = .ok (.iload 8, 2) := by decide +kernel
theorem d_Md_leftBy_128 : decode b_Md_leftBy 128 = .ok (.iload 9, 2) := by decide +kernel
theorem d_Md_leftBy_130 : decode b_Md_leftBy 130 = .ok (.iconst 2, 1) := by decide +kernel
theorem d_Md_leftBy_131 : decode b_Md_leftBy 131 = .ok (.invokevirtual 71, 3) := by decide +kernel
theorem d_Md_leftBy_134 : decode b_Md_leftBy 134 = .ok (.ifCond .eq 21, 3) := by decide +kernel
theorem d_Md_leftBy_137 : decode b_Md_leftBy 137 = .ok (.aload_n 0, 1) := by decide +kernel
theorem d_Md_leftBy_138 : decode b_Md_leftBy 138 = .ok (.iload_n 1, 1) := by decide +kernel
theorem d_Md_leftBy_139 : decode b_Md_leftBy 139 = .ok (.iload_n 2, 1) := by decide +kernel
theorem d_Md_leftBy_140 : decode b_Md_leftBy 140 = .ok (.iload_n 3, 1) := by decide +kernel
theorem d_Md_leftBy_141 : decode b_Md_leftBy 141 = .ok (.iload 4, 2) := by decide +kernel
theorem d_Md_leftBy_143 : decode b_Md_leftBy 143 = .ok (.iload 7, 2) := by decide +kernel
theorem d_Md_leftBy_145 : decode b_Md_leftBy 145 = .ok (.iload 8, 2) := by decide +kernel
theorem d_Md_leftBy_147 : decode b_Md_leftBy 147 = .ok (.iload 9, 2) := by decide +kernel
theorem d_Md_leftBy_149 : decode b_Md_leftBy 149 = .ok (.invokevirtual 200, 3) := by decide +kernel
theorem d_Md_leftBy_152 : decode b_Md_leftBy 152 = .ok (.goto 4, 3) := by decide +kernel
theorem d_Md_leftBy_155 : decode b_Md_leftBy 155 = .ok (.iconst 0, 1) := by decide +kernel
theorem d_Md_leftBy_156 : decode b_Md_leftBy 156 = .ok (.istore 10, 2) := by decide +kernel
theorem d_Md_leftBy_158 : decode b_Md_leftBy 158 = .ok (.iload 10, 2) := by decide +kernel
theorem d_Md_leftBy_160 : decode b_Md_leftBy 160 = .ok (.ifCond .le 42, 3) := by decide +kernel
theorem d_Md_leftBy_163 : decode b_Md_leftBy 163 = .ok (.aload_n 0, 1) := by decide +kernel
theorem d_Md_leftBy_164 : decode b_Md_leftBy 164 = .ok (.getfield 56, 3) := by decide +kernel
theorem d_Md_leftBy_167 : decode b_Md_leftBy 167 = .ok (.iconst 4, 1) := by decide +kernel
theorem d_Md_leftBy_168 : decode b_Md_leftBy 168 = .ok (.aload_n 0, 1) := by decide +kernel
theorem d_Md_leftBy_169 : decode b_Md_leftBy 169 = .ok (.getfield 197, 3) := by decide +kernel
theorem d_Md_leftBy_172 : decode b_Md_leftBy 172 = .ok (.imul, 1) := by decide +kernel
theorem d_Md_leftBy_173 : decode b_Md_leftBy 173 = .ok (.iload 7, 2) := by decide +kernel
theorem d_Md_leftBy_175 : decode b_Md_leftBy 175 = .ok (.iload 8, 2) := by decide +kernel
theorem d_Md_leftBy_177 : decode b_Md_leftBy 177 = .ok (.iload 9, 2) := by decide +kernel
theorem d_Md_leftBy_179 : decode b_Md_leftBy 179 = .ok (.iload 10, 2) := by decide +kernel
theorem d_Md_leftBy_181 : decode b_Md_leftBy 181 = .ok (.invokestatic 88, 3) := by decide +kernel
theorem d_Md_leftBy_184 : decode b_Md_leftBy 184 = .ok (.aload_n 0, 1) := by decide +kernel
theorem d_Md_leftBy_185 : decode b_Md_leftBy 185 = .ok (.dup, 1) := by decide +kernel
theorem d_Md_leftBy_186 : decode b_Md_leftBy 186 = .ok (.getfield 197, 3) := by decide +kernel
theorem d_Md_leftBy_189 : decode b_Md_leftBy 189 = .ok (.iconst 1, 1) := by decide +kernel
theorem d_Md_leftBy_190 : decode b_Md_leftBy 190 = .ok (.iadd, 1) := by decide +kernel
theorem d_Md_leftBy_191 : decode b_Md_leftBy 191 = .ok (.putfield 197, 3) := by decide +kernel
theorem d_Md_leftBy_194 : decode b_Md_leftBy 194 = .ok (.iload_n 3, 1) := by decide +kernel
theorem d_Md_leftBy_195 : decode b_Md_leftBy 195 = .ok (.iload 10, 2) := by decide +kernel
theorem d_Md_leftBy_197 : decode b_Md_leftBy 197 = .ok (.isub, 1) := by decide +kernel
theorem d_Md_leftBy_198 : decode b_Md_leftBy 198 = .ok (.istore_n 3, 1) := by decide +kernel
theorem d_Md_leftBy_199 : decode b_Md_leftBy 199 = .ok (.iconst 1, 1) := by decide +kernel
theorem d_Md_leftBy_200 : decode b_Md_leftBy 200 = .ok (.istore 5, 2) := by decide +kernel
theorem d_Md_leftBy_202 : decode b_Md_leftBy 202 = .ok (.iinc 6 1, 3) := by decide +kernel
theorem d_Md_leftBy_205 : decode b_Md_leftBy 205 = .ok (.goto (-122), 3) := by decide +kernel
theorem d_Md_leftBy_208 : decode b_Md_leftBy 208 = .ok (.goto (-140), 3) := by decide +kernel
theorem d_Md_leftBy_211 : decode b_Md_leftBy 211 = .ok (.iload_n 3, 1) := by decide +kernel
theorem d_Md_leftBy_212 : decode b_Md_leftBy 212 = .ok (.ireturn, 1) := by decide +kernel
theorem d_Md_taken_0 : decode b_Md_taken 0 = .ok (.iconst 0, 1) := by decide +kernel
theorem d_Md_taken_1 : decode b_Md_taken 1 = .ok (.istore 8, 2) := by decide +kernel
theorem d_Md_taken_3 : decode b_Md_taken 3 = .ok (.iconst 0, 1) := by decide +kernel
theorem d_Md_taken_4 : decode b_Md_taken 4 = .ok (.istore 9, 2) := by decide +kernel
theorem d_Md_taken_6 : decode b_Md_taken 6 = .ok (.iload 9, 2) := by decide +kernel
theorem d_Md_taken_8 : decode b_Md_taken 8 = .ok (.aload_n 0, 1) := by decide +kernel
theorem d_Md_taken_9 : decode b_Md_taken 9 = .ok (.getfield 13, 3) := by decide +kernel
theorem d_Md_taken_12 : decode b_Md_taken 12 = .ok (.iload_n 1, 1) := by decide +kernel
theorem d_Md_taken_13 : decode b_Md_taken 13 = .ok (.iaload, 1) := by decide +kernel
theorem d_Md_taken_14 : decode b_Md_taken 14 = .ok (.if_icmp .ge 115, 3) := by decide +kernel
theorem d_Md_taken_17 : decode b_Md_taken 17 = .ok (.iload_n 3, 1) := by decide +kernel
theorem d_Md_taken_18 : decode b_Md_taken 18 = .ok (.iload 9, 2) := by decide +kernel
theorem d_Md_taken_20 : decode b_Md_taken 20 = .ok (.ishr, 1) := by decide +kernel
theorem d_Md_taken_21 : decode b_Md_taken 21 = .ok (.iconst 1, 1) := by decide +kernel
theorem d_Md_taken_22 : decode b_Md_taken 22 = .ok (.iand, 1) := by decide +kernel
theorem d_Md_taken_23 : decode b_Md_taken 23 = .ok (.iconst 1, 1) := by decide +kernel
theorem d_Md_taken_24 : decode b_Md_taken 24 = .ok (.if_icmp .ne 99, 3) := by decide +kernel
theorem d_Md_taken_27 : decode b_Md_taken 27 = .ok (.iload 4, 2) := by decide +kernel
theorem d_Md_taken_29 : decode b_Md_taken 29 = .ok (.iload 9, 2) := by decide +kernel
theorem d_Md_taken_31 : decode b_Md_taken 31 = .ok (.ishr, 1) := by decide +kernel
theorem d_Md_taken_32 : decode b_Md_taken 32 = .ok (.iconst 1, 1) := by decide +kernel
theorem d_Md_taken_33 : decode b_Md_taken 33 = .ok (.iand, 1) := by decide +kernel
theorem d_Md_taken_34 : decode b_Md_taken 34 = .ok (.iconst 1, 1) := by decide +kernel
theorem d_Md_taken_35 : decode b_Md_taken 35 = .ok (.if_icmp .ne 7, 3) := by decide +kernel
theorem d_Md_taken_38 : decode b_Md_taken 38 = .ok (.iconst 1, 1) := by decide +kernel
theorem d_Md_taken_39 : decode b_Md_taken 39 = .ok (.goto 4, 3) := by decide +kernel
theorem d_Md_taken_42 : decode b_Md_taken 42 = .ok (.iconst 0, 1) := by decide +kernel
theorem d_Md_taken_43 : decode b_Md_taken 43 = .ok (.istore 10, 2) := by decide +kernel
theorem d_Md_taken_45 : decode b_Md_taken 45 = .ok (.aload_n 0, 1) := by decide +kernel
theorem d_Md_taken_46 : decode b_Md_taken 46 = .ok (.iload_n 1, 1) := by decide +kernel
theorem d_Md_taken_47 : decode b_Md_taken 47 = .ok (.iload 9, 2) := by decide +kernel
theorem d_Md_taken_49 : decode b_Md_taken 49 = .ok (.iload_n 2, 1) := by decide +kernel
theorem d_Md_taken_50 : decode b_Md_taken 50 = .ok (.invokevirtual 174, 3) := by decide +kernel
theorem d_Md_taken_53 : decode b_Md_taken 53 = .ok (.iload 10, 2) := by decide +kernel
theorem d_Md_taken_55 : decode b_Md_taken 55 = .ok (.ifCond .eq 8, 3) := by decide +kernel
theorem d_Md_taken_58 : decode b_Md_taken 58 = .ok (.bipush 6, 2) := by decide +kernel
theorem d_Md_taken_60 : decode b_Md_taken 60 = .ok (.goto 16, 3) := by decide +kernel
theorem d_Md_taken_63 : decode b_Md_taken 63 = .ok (.aload_n 0, 1) := by decide +kernel
theorem d_Md_taken_64 : decode b_Md_taken 64 = .ok (.iload_n 1, 1) := by decide +kernel
theorem d_Md_taken_65 : decode b_Md_taken 65 = .ok (.iload 9, 2) := by decide +kernel
theorem d_Md_taken_67 : decode b_Md_taken 67 = .ok (.iload 5, 2) := by decide +kernel
theorem d_Md_taken_69 : decode b_Md_taken 69 = .ok (.iload 6, 2) := by decide +kernel
theorem d_Md_taken_71 : decode b_Md_taken 71 = .ok (.iload 7, 2) := by decide +kernel
theorem d_Md_taken_73 : decode b_Md_taken 73 = .ok (.invokevirtual 193, 3) := by decide +kernel
theorem d_Md_taken_76 : decode b_Md_taken 76 = .ok (.istore 11, 2) := by decide +kernel
theorem d_Md_taken_78 : decode b_Md_taken 78 = .ok (.iload 11, 2) := by decide +kernel
theorem d_Md_taken_80 : decode b_Md_taken 80 = .ok (.ifCond .ne 5, 3) := by decide +kernel
theorem d_Md_taken_83 : decode b_Md_taken 83 = .ok (.iconst 0, 1) := by decide +kernel
theorem d_Md_taken_84 : decode b_Md_taken 84 = .ok (.ireturn, 1) := by decide +kernel
theorem d_Md_taken_85 : decode b_Md_taken 85 = .ok (.iload 8, 2) := by decide +kernel
theorem d_Md_taken_87 : decode b_Md_taken 87 = .ok (.iload 11, 2) := by decide +kernel
theorem d_Md_taken_89 : decode b_Md_taken 89 = .ok (.bipush 6, 2) := by decide +kernel
theorem d_Md_taken_91 : decode b_Md_taken 91 = .ok (.if_icmp .ne 28, 3) := by decide +kernel
theorem d_Md_taken_94 : decode b_Md_taken 94 = .ok (.iload 10, 2) := by decide +kernel
theorem d_Md_taken_96 : decode b_Md_taken 96 = .ok (.ifCond .ne 16, 3) := by decide +kernel
theorem d_Md_taken_99 : decode b_Md_taken 99 = .ok (.aload_n 0, 1) := by decide +kernel
theorem d_Md_taken_100 : decode b_Md_taken 100 = .ok (.iload 5, 2) := by decide +kernel
theorem d_Md_taken_102 : decode b_Md_taken 102 = .ok (.iload 6, 2) := by decide +kernel
theorem d_Md_taken_104 : decode b_Md_taken 104 = .ok (.iload 7, 2) := by decide +kernel
theorem d_Md_taken_106 : decode b_Md_taken 106 = .ok (.invokevirtual 190, 3) := by decide +kernel
theorem d_Md_taken_109 : decode b_Md_taken 109 = .ok (.ifCond .eq 10, 3) := by decide +kernel
theorem d_Md_taken_112 : decode b_Md_taken 112 = .ok (.iconst 1, 1) := by decide +kernel
theorem d_Md_taken_113 : decode b_Md_taken 113 = .ok (.iload 9, 2) := by decide +kernel
theorem d_Md_taken_115 : decode b_Md_taken 115 = .ok (.ishl, 1) := by decide +kernel
theorem d_Md_taken_116 : decode b_Md_taken 116 = .ok (.goto 4, 3) := by decide +kernel
theorem d_Md_taken_119 : decode b_Md_taken 119 = .ok (.iconst 0, 1) := by decide +kernel
theorem d_Md_taken_120 : decode b_Md_taken 120 = .ok (.iadd, 1) := by decide +kernel
theorem d_Md_taken_121 : decode b_Md_taken 121 = .ok (.istore 8, 2) := by decide +kernel
theorem d_Md_taken_123 : decode b_Md_taken 123 = .ok (.iinc 9 1, 3) := by decide +kernel
theorem d_Md_taken_126 : decode b_Md_taken 126 = .ok (.goto (-120), 3) := by decide +kernel
theorem d_Md_taken_129 : decode b_Md_taken 129 = .ok (.iload 8, 2) := by decide +kernel
theorem d_Md_taken_131 : decode b_Md_taken 131 = .ok (.ireturn, 1) := by decide +kernel
theorem d_Md_proof_0 : decode b_Md_proof 0 = .ok (.iload_n 1, 1) := by decide +kernel
theorem d_Md_proof_1 : decode b_Md_proof 1 = .ok (.iconst 0, 1) := by decide +kernel
theorem d_Md_proof_2 : decode b_Md_proof 2 = .ok (.aload_n 0, 1) := by decide +kernel
theorem d_Md_proof_3 : decode b_Md_proof 3 = .ok (.getfield 75, 3) := by decide +kernel
theorem d_Md_proof_6 : decode b_Md_proof 6 = .ok (.iconst 1, 1) := by decide +kernel
theorem d_Md_proof_7 : decode b_Md_proof 7 = .ok (.isub, 1) := by decide +kernel
theorem d_Md_proof_8 : decode b_Md_proof 8 = .ok (.invokestatic 63, 3) := by decide +kernel
theorem d_Md_proof_11 : decode b_Md_proof 11 = .ok (.ifCond .eq 25, 3) := by decide +kernel
theorem d_Md_proof_14 : decode b_Md_proof 14 = .ok (.iload_n 2, 1) := by decide +kernel
theorem d_Md_proof_15 : decode b_Md_proof 15 = .ok (.iconst 0, 1) := by decide +kernel
theorem d_Md_proof_16 : decode b_Md_proof 16 = .ok (.iconst 3, 1) := by decide +kernel
theorem d_Md_proof_17 : decode b_Md_proof 17 = .ok (.invokestatic 63, 3) := by decide +kernel
theorem d_Md_proof_20 : decode b_Md_proof 20 = .ok (.ifCond .eq 16, 3) := by decide +kernel
theorem d_Md_proof_23 : decode b_Md_proof 23 = .ok (.aload_n 0, 1) := by decide +kernel
theorem d_Md_proof_24 : decode b_Md_proof 24 = .ok (.getfield 38, 3) := by decide +kernel
theorem d_Md_proof_27 : decode b_Md_proof 27 = .ok (.iconst 4, 1) := by decide +kernel
theorem d_Md_proof_28 : decode b_Md_proof 28 = .ok (.iload_n 1, 1) := by decide +kernel
theorem d_Md_proof_29 : decode b_Md_proof 29 = .ok (.imul, 1) := by decide +kernel
theorem d_Md_proof_30 : decode b_Md_proof 30 = .ok (.iload_n 2, 1) := by decide +kernel
theorem d_Md_proof_31 : decode b_Md_proof 31 = .ok (.iadd, 1) := by decide +kernel
theorem d_Md_proof_32 : decode b_Md_proof 32 = .ok (.iaload, 1) := by decide +kernel
theorem d_Md_proof_33 : decode b_Md_proof 33 = .ok (.goto 6, 3) := by decide +kernel
theorem d_Md_proof_36 : decode b_Md_proof 36 = .ok (.sipush (-1000), 3) := by decide +kernel
theorem d_Md_proof_39 : decode b_Md_proof 39 = .ok (.ireturn, 1) := by decide +kernel
theorem d_Md_left_0 : decode b_Md_left 0 = .ok (.aload_n 0, 1) := by decide +kernel
theorem d_Md_left_1 : decode b_Md_left 1 = .ok (.getfield 78, 3) := by decide +kernel
theorem d_Md_left_4 : decode b_Md_left 4 = .ok (.ireturn, 1) := by decide +kernel
theorem d_Md_need_0 : decode b_Md_need 0 = .ok (.aload_n 0, 1) := by decide +kernel
theorem d_Md_need_1 : decode b_Md_need 1 = .ok (.iload_n 1, 1) := by decide +kernel
theorem d_Md_need_2 : decode b_Md_need 2 = .ok (.invokevirtual 67, 3) := by decide +kernel
theorem d_Md_need_5 : decode b_Md_need 5 = .ok (.ifCond .ne 6, 3) := by decide +kernel
theorem d_Md_need_8 : decode b_Md_need 8 = .ok (.bipush (-2), 2) := by decide +kernel
theorem d_Md_need_10 : decode b_Md_need 10 = .ok (.ireturn, 1) := by decide +kernel
theorem d_Md_need_11 : decode b_Md_need 11 = .ok (.aload_n 0, 1) := by decide +kernel
theorem d_Md_need_12 : decode b_Md_need 12 = .ok (.iconst 0, 1) := by decide +kernel
theorem d_Md_need_13 : decode b_Md_need 13 = .ok (.putfield 81, 3) := by decide +kernel
theorem d_Md_need_16 : decode b_Md_need 16 = .ok (.aload_n 0, 1) := by decide +kernel
theorem d_Md_need_17 : decode b_Md_need 17 = .ok (.iload_n 1, 1) := by decide +kernel
theorem d_Md_need_18 : decode b_Md_need 18 = .ok (.iconst 0, 1) := by decide +kernel
theorem d_Md_need_19 : decode b_Md_need 19 = .ok (.invokevirtual 204, 3) := by decide +kernel
theorem d_Md_need_22 : decode b_Md_need 22 = .ok (.ifCond .ne 5, 3) := by decide +kernel
theorem d_Md_need_25 : decode b_Md_need 25 = .ok (.iconst 2, 1) := by decide +kernel
theorem d_Md_need_26 : decode b_Md_need 26 = .ok (.ireturn, 1) := by decide +kernel
theorem d_Md_need_27 : decode b_Md_need 27 = .ok (.iconst 0, 1) := by decide +kernel
theorem d_Md_need_28 : decode b_Md_need 28 = .ok (.istore_n 2, 1) := by decide +kernel
theorem d_Md_need_29 : decode b_Md_need 29 = .ok (.iload_n 2, 1) := by decide +kernel
theorem d_Md_need_30 : decode b_Md_need 30 = .ok (.sipush 135, 3) := by decide +kernel
theorem d_Md_need_33 : decode b_Md_need 33 = .ok (.if_icmp .ge 131, 3) := by decide +kernel
theorem d_Md_need_36 : decode b_Md_need 36 = .ok (.aload_n 0, 1) := by decide +kernel
theorem d_Md_need_37 : decode b_Md_need 37 = .ok (.getfield 81, 3) := by decide +kernel
theorem d_Md_need_40 : decode b_Md_need 40 = .ok (.ifCond .ne 124, 3) := by decide +kernel
theorem d_Md_need_43 : decode b_Md_need 43 = .ok (.iload_n 2, 1) := by decide +kernel
theorem d_Md_need_44 : decode b_Md_need 44 = .ok (.bipush 45, 2) := by decide +kernel
theorem d_Md_need_46 : decode b_Md_need 46 = .ok (.idiv, 1) := by decide +kernel
theorem d_Md_need_47 : decode b_Md_need 47 = .ok (.iconst 1, 1) := by decide +kernel
theorem d_Md_need_48 : decode b_Md_need 48 = .ok (.isub, 1) := by decide +kernel
theorem d_Md_need_49 : decode b_Md_need 49 = .ok (.istore_n 3, 1) := by decide +kernel
theorem d_Md_need_50 : decode b_Md_need 50 = .ok (.iload_n 2, 1) := by decide +kernel
theorem d_Md_need_51 : decode b_Md_need 51 = .ok (.bipush 15, 2) := by decide +kernel
theorem d_Md_need_53 : decode b_Md_need 53 = .ok (.idiv, 1) := by decide +kernel
theorem d_Md_need_54 : decode b_Md_need 54 = .ok (.iconst 3, 1) := by decide +kernel
theorem d_Md_need_55 : decode b_Md_need 55 = .ok (.irem, 1) := by decide +kernel
theorem d_Md_need_56 : decode b_Md_need 56 = .ok (.iconst 1, 1) := by decide +kernel
theorem d_Md_need_57 : decode b_Md_need 57 = .ok (.isub, 1) := by decide +kernel
theorem d_Md_need_58 : decode b_Md_need 58 = .ok (.istore 4, 2) := by decide +kernel
theorem d_Md_need_60 : decode b_Md_need 60 = .ok (.iload_n 2, 1) := by decide +kernel
theorem d_Md_need_61 : decode b_Md_need 61 = .ok (.iconst 5, 1) := by decide +kernel
theorem d_Md_need_62 : decode b_Md_need 62 = .ok (.idiv, 1) := by decide +kernel
theorem d_Md_need_63 : decode b_Md_need 63 = .ok (.iconst 3, 1) := by decide +kernel
theorem d_Md_need_64 : decode b_Md_need 64 = .ok (.irem, 1) := by decide +kernel
theorem d_Md_need_65 : decode b_Md_need 65 = .ok (.iconst 1, 1) := by decide +kernel
theorem d_Md_need_66 : decode b_Md_need 66 = .ok (.isub, 1) := by decide +kernel
theorem d_Md_need_67 : decode b_Md_need 67 = .ok (.istore 5, 2) := by decide +kernel
theorem d_Md_need_69 : decode b_Md_need 69 = .ok (.iload_n 2, 1) := by decide +kernel
theorem d_Md_need_70 : decode b_Md_need 70 = .ok (.iconst 5, 1) := by decide +kernel
theorem d_Md_need_71 : decode b_Md_need 71 = .ok (.irem, 1) := by decide +kernel
theorem d_Md_need_72 : decode b_Md_need 72 = .ok (.iconst 2, 1) := by decide +kernel
theorem d_Md_need_73 : decode b_Md_need 73 = .ok (.isub, 1) := by decide +kernel
theorem d_Md_need_74 : decode b_Md_need 74 = .ok (.istore 6, 2) := by decide +kernel
theorem d_Md_need_76 : decode b_Md_need 76 = .ok (.aload_n 0, 1) := by decide +kernel
theorem d_Md_need_77 : decode b_Md_need 77 = .ok (.iload_n 1, 1) := by decide +kernel
theorem d_Md_need_78 : decode b_Md_need 78 = .ok (.iload_n 3, 1) := by decide +kernel
theorem d_Md_need_79 : decode b_Md_need 79 = .ok (.iload 4, 2) := by decide +kernel
theorem d_Md_need_81 : decode b_Md_need 81 = .ok (.iload 5, 2) := by decide +kernel
theorem d_Md_need_83 : decode b_Md_need 83 = .ok (.iconst 1, 1) := by decide +kernel
theorem d_Md_need_84 : decode b_Md_need 84 = .ok (.invokevirtual 71, 3) := by decide +kernel
theorem d_Md_need_87 : decode b_Md_need 87 = .ok (.ifCond .eq 71, 3) := by decide +kernel
theorem d_Md_need_90 : decode b_Md_need 90 = .ok (.aload_n 0, 1) := by decide +kernel
theorem d_Md_need_91 : decode b_Md_need 91 = .ok (.iload_n 3, 1) := by decide +kernel
theorem d_Md_need_92 : decode b_Md_need 92 = .ok (.i2l, 1) := by decide +kernel
theorem d_Md_need_93 : decode b_Md_need 93 = .ok (.putfield 106, 3) := by decide +kernel
theorem d_Md_need_96 : decode b_Md_need 96 = .ok (.aload_n 0, 1) := by decide +kernel
theorem d_Md_need_97 : decode b_Md_need 97 = .ok (.iload 4, 2) := by decide +kernel
theorem d_Md_need_99 : decode b_Md_need 99 = .ok (.i2l, 1) := by decide +kernel
theorem d_Md_need_100 : decode b_Md_need 100 = .ok (.putfield 110, 3) := by decide +kernel
theorem d_Md_need_103 : decode b_Md_need 103 = .ok (.aload_n 0, 1) := by decide +kernel
theorem d_Md_need_104 : decode b_Md_need 104 = .ok (.iload 5, 2) := by decide +kernel
theorem d_Md_need_106 : decode b_Md_need 106 = .ok (.i2l, 1) := by decide +kernel
theorem d_Md_need_107 : decode b_Md_need 107 = .ok (.putfield 113, 3) := by decide +kernel
theorem d_Md_need_110 : decode b_Md_need 110 = .ok (.aload_n 0, 1) := by decide +kernel
theorem d_Md_need_111 : decode b_Md_need 111 = .ok (.iload 6, 2) := by decide +kernel
theorem d_Md_need_113 : decode b_Md_need 113 = .ok (.i2l, 1) := by decide +kernel
theorem d_Md_need_114 : decode b_Md_need 114 = .ok (.putfield 116, 3) := by decide +kernel
theorem d_Md_need_117 : decode b_Md_need 117 = .ok (.aload_n 0, 1) := by decide +kernel
theorem d_Md_need_118 : decode b_Md_need 118 = .ok (.aload_n 0, 1) := by decide +kernel
theorem d_Md_need_119 : decode b_Md_need 119 = .ok (.iload_n 1, 1) := by decide +kernel
theorem d_Md_need_120 : decode b_Md_need 120 = .ok (.invokevirtual 208, 3) := by decide +kernel
theorem d_Md_need_123 : decode b_Md_need 123 = .ok (.ifCond .eq 16, 3) := by decide +kernel
theorem d_Md_need_126 : decode b_Md_need 126 = .ok (.aload_n 0, 1) := by decide +kernel
theorem d_Md_need_127 : decode b_Md_need 127 = .ok (.iload_n 1, 1) := by decide +kernel
theorem d_Md_need_128 : decode b_Md_need 128 = .ok (.iconst 1, 1) := by decide +kernel
theorem d_Md_need_129 : decode b_Md_need 129 = .ok (.invokevirtual 204, 3) := by decide +kernel
theorem d_Md_need_132 : decode b_Md_need 132 = .ok (.ifCond .ne 7, 3) := by decide +kernel
theorem d_Md_need_135 : decode b_Md_need 135 = .ok (.iconst 1, 1) := by decide +kernel
theorem d_Md_need_136 : decode b_Md_need 136 = .ok (.goto 4, 3) := by decide +kernel
theorem d_Md_need_139 : decode b_Md_need 139 = .ok (.iconst 0, 1) := by decide +kernel
theorem d_Md_need_140 : decode b_Md_need 140 = .ok (.putfield 81, 3) := by decide +kernel
theorem d_Md_need_143 : decode b_Md_need 143 = .ok (.aload_n 0, 1) := by decide +kernel
theorem d_Md_need_144 : decode b_Md_need 144 = .ok (.getfield 41, 3) := by decide +kernel
theorem d_Md_need_147 : decode b_Md_need 147 = .ok (.iconst 0, 1) := by decide +kernel
theorem d_Md_need_148 : decode b_Md_need 148 = .ok (.iload_n 3, 1) := by decide +kernel
theorem d_Md_need_149 : decode b_Md_need 149 = .ok (.iload 4, 2) := by decide +kernel
theorem d_Md_need_151 : decode b_Md_need 151 = .ok (.iload 5, 2) := by decide +kernel
theorem d_Md_need_153 : decode b_Md_need 153 = .ok (.iload 6, 2) := by decide +kernel
theorem d_Md_need_155 : decode b_Md_need 155 = .ok (.invokestatic 88, 3) := by decide +kernel
theorem d_Md_need_158 : decode b_Md_need 158 = .ok (.iinc 2 1, 3) := by decide +kernel
theorem d_Md_need_161 : decode b_Md_need 161 = .ok (.goto (-132), 3) := by decide +kernel
theorem d_Md_need_164 : decode b_Md_need 164 = .ok (.aload_n 0, 1) := by decide +kernel
theorem d_Md_need_165 : decode b_Md_need 165 = .ok (.getfield 81, 3) := by decide +kernel
