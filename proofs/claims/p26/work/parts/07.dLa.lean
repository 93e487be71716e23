theorem dL_from_0 : decode cL_from 0 = .ok (.aload_n 0, 1) := by decide +kernel
theorem dL_from_1 : decode cL_from 1 = .ok (.arraylength, 1) := by decide +kernel
theorem dL_from_2 : decode cL_from 2 = .ok (.ifCond .ne 14, 3) := by decide +kernel
theorem dL_from_5 : decode cL_from 5 = .ok (.sipush 151, 3) := by decide +kernel
theorem dL_from_8 : decode cL_from 8 = .ok (.iload_n 1, 1) := by decide +kernel
theorem dL_from_9 : decode cL_from 9 = .ok (.imul, 1) := by decide +kernel
theorem dL_from_10 : decode cL_from 10 = .ok (.bipush 127, 2) := by decide +kernel
theorem dL_from_12 : decode cL_from 12 = .ok (.iadd, 1) := by decide +kernel
theorem dL_from_13 : decode cL_from 13 = .ok (.goto 14, 3) := by decide +kernel
theorem dL_from_16 : decode cL_from 16 = .ok (.aload_n 0, 1) := by decide +kernel
theorem dL_from_17 : decode cL_from 17 = .ok (.iload_n 1, 1) := by decide +kernel
theorem dL_from_18 : decode cL_from 18 = .ok (.aload_n 0, 1) := by decide +kernel
theorem dL_from_19 : decode cL_from 19 = .ok (.arraylength, 1) := by decide +kernel
theorem dL_from_20 : decode cL_from 20 = .ok (.irem, 1) := by decide +kernel
theorem dL_from_21 : decode cL_from 21 = .ok (.iaload, 1) := by decide +kernel
theorem dL_from_22 : decode cL_from 22 = .ok (.ldc 7, 2) := by decide +kernel
theorem dL_from_24 : decode cL_from 24 = .ok (.iload_n 1, 1) := by decide +kernel
theorem dL_from_25 : decode cL_from 25 = .ok (.imul, 1) := by decide +kernel
theorem dL_from_26 : decode cL_from 26 = .ok (.ixor, 1) := by decide +kernel
theorem dL_from_27 : decode cL_from 27 = .ok (.istore_n 3, 1) := by decide +kernel
theorem dL_from_28 : decode cL_from 28 = .ok (.iload_n 3, 1) := by decide +kernel
theorem dL_from_29 : decode cL_from 29 = .ok (.ldc 8, 2) := by decide +kernel
theorem dL_from_31 : decode cL_from 31 = .ok (.iand, 1) := by decide +kernel
theorem dL_from_32 : decode cL_from 32 = .ok (.iload_n 2, 1) := by decide +kernel
theorem dL_from_33 : decode cL_from 33 = .ok (.irem, 1) := by decide +kernel
theorem dL_from_34 : decode cL_from 34 = .ok (.ireturn, 1) := by decide +kernel
theorem dL_may_0 : decode cL_may 0 = .ok (.aload_n 0, 1) := by decide +kernel
theorem dL_may_1 : decode cL_may 1 = .ok (.iconst 2, 1) := by decide +kernel
theorem dL_may_2 : decode cL_may 2 = .ok (.iload_n 2, 1) := by decide +kernel
theorem dL_may_3 : decode cL_may 3 = .ok (.imul, 1) := by decide +kernel
theorem dL_may_4 : decode cL_may 4 = .ok (.iconst 1, 1) := by decide +kernel
theorem dL_may_5 : decode cL_may 5 = .ok (.iadd, 1) := by decide +kernel
theorem dL_may_6 : decode cL_may 6 = .ok (.iaload, 1) := by decide +kernel
theorem dL_may_7 : decode cL_may 7 = .ok (.aload_n 1, 1) := by decide +kernel
theorem dL_may_8 : decode cL_may 8 = .ok (.iload_n 3, 1) := by decide +kernel
theorem dL_may_9 : decode cL_may 9 = .ok (.iaload, 1) := by decide +kernel
theorem dL_may_10 : decode cL_may 10 = .ok (.ishr, 1) := by decide +kernel
theorem dL_may_11 : decode cL_may 11 = .ok (.iconst 1, 1) := by decide +kernel
theorem dL_may_12 : decode cL_may 12 = .ok (.iand, 1) := by decide +kernel
theorem dL_may_13 : decode cL_may 13 = .ok (.iconst 1, 1) := by decide +kernel
theorem dL_may_14 : decode cL_may 14 = .ok (.if_icmp .ne 7, 3) := by decide +kernel
theorem dL_may_17 : decode cL_may 17 = .ok (.iconst 1, 1) := by decide +kernel
theorem dL_may_18 : decode cL_may 18 = .ok (.goto 4, 3) := by decide +kernel
theorem dL_may_21 : decode cL_may 21 = .ok (.iconst 0, 1) := by decide +kernel
theorem dL_may_22 : decode cL_may 22 = .ok (.ireturn, 1) := by decide +kernel
theorem dL_holdsAt_0 : decode cL_holdsAt 0 = .ok (.iconst 0, 1) := by decide +kernel
theorem dL_holdsAt_1 : decode cL_holdsAt 1 = .ok (.istore 4, 2) := by decide +kernel
theorem dL_holdsAt_3 : decode cL_holdsAt 3 = .ok (.aload_n 1, 1) := by decide +kernel
theorem dL_holdsAt_4 : decode cL_holdsAt 4 = .ok (.iconst 3, 1) := by decide +kernel
theorem dL_holdsAt_5 : decode cL_holdsAt 5 = .ok (.iaload, 1) := by decide +kernel
theorem dL_holdsAt_6 : decode cL_holdsAt 6 = .ok (.iconst 1, 1) := by decide +kernel
theorem dL_holdsAt_7 : decode cL_holdsAt 7 = .ok (.isub, 1) := by decide +kernel
theorem dL_holdsAt_8 : decode cL_holdsAt 8 = .ok (.istore 5, 2) := by decide +kernel
theorem dL_holdsAt_10 : decode cL_holdsAt 10 = .ok (.iload 5, 2) := by decide +kernel
theorem dL_holdsAt_12 : decode cL_holdsAt 12 = .ok (.ifCond .lt 55, 3) := by decide +kernel
theorem dL_holdsAt_15 : decode cL_holdsAt 15 = .ok (.iload 4, 2) := by decide +kernel
theorem dL_holdsAt_17 : decode cL_holdsAt 17 = .ok (.ifCond .ne 37, 3) := by decide +kernel
theorem dL_holdsAt_20 : decode cL_holdsAt 20 = .ok (.aload_n 0, 1) := by decide +kernel
theorem dL_holdsAt_21 : decode cL_holdsAt 21 = .ok (.iconst 3, 1) := by decide +kernel
theorem dL_holdsAt_22 : decode cL_holdsAt 22 = .ok (.iload 5, 2) := by decide +kernel
theorem dL_holdsAt_24 : decode cL_holdsAt 24 = .ok (.imul, 1) := by decide +kernel
theorem dL_holdsAt_25 : decode cL_holdsAt 25 = .ok (.iaload, 1) := by decide +kernel
theorem dL_holdsAt_26 : decode cL_holdsAt 26 = .ok (.iload_n 2, 1) := by decide +kernel
theorem dL_holdsAt_27 : decode cL_holdsAt 27 = .ok (.if_icmp .ne 31, 3) := by decide +kernel
theorem dL_holdsAt_30 : decode cL_holdsAt 30 = .ok (.iload_n 3, 1) := by decide +kernel
theorem dL_holdsAt_31 : decode cL_holdsAt 31 = .ok (.aload_n 0, 1) := by decide +kernel
theorem dL_holdsAt_32 : decode cL_holdsAt 32 = .ok (.iconst 3, 1) := by decide +kernel
theorem dL_holdsAt_33 : decode cL_holdsAt 33 = .ok (.iload 5, 2) := by decide +kernel
theorem dL_holdsAt_35 : decode cL_holdsAt 35 = .ok (.imul, 1) := by decide +kernel
theorem dL_holdsAt_36 : decode cL_holdsAt 36 = .ok (.iconst 1, 1) := by decide +kernel
theorem dL_holdsAt_37 : decode cL_holdsAt 37 = .ok (.iadd, 1) := by decide +kernel
theorem dL_holdsAt_38 : decode cL_holdsAt 38 = .ok (.iaload, 1) := by decide +kernel
theorem dL_holdsAt_39 : decode cL_holdsAt 39 = .ok (.if_icmp .lt 19, 3) := by decide +kernel
theorem dL_holdsAt_42 : decode cL_holdsAt 42 = .ok (.iload_n 3, 1) := by decide +kernel
theorem dL_holdsAt_43 : decode cL_holdsAt 43 = .ok (.aload_n 0, 1) := by decide +kernel
theorem dL_holdsAt_44 : decode cL_holdsAt 44 = .ok (.iconst 3, 1) := by decide +kernel
theorem dL_holdsAt_45 : decode cL_holdsAt 45 = .ok (.iload 5, 2) := by decide +kernel
theorem dL_holdsAt_47 : decode cL_holdsAt 47 = .ok (.imul, 1) := by decide +kernel
theorem dL_holdsAt_48 : decode cL_holdsAt 48 = .ok (.iconst 2, 1) := by decide +kernel
theorem dL_holdsAt_49 : decode cL_holdsAt 49 = .ok (.iadd, 1) := by decide +kernel
theorem dL_holdsAt_50 : decode cL_holdsAt 50 = .ok (.iaload, 1) := by decide +kernel
theorem dL_holdsAt_51 : decode cL_holdsAt 51 = .ok (.if_icmp .ge 7, 3) := by decide +kernel
theorem dL_holdsAt_54 : decode cL_holdsAt 54 = .ok (.iconst 1, 1) := by decide +kernel
theorem dL_holdsAt_55 : decode cL_holdsAt 55 = .ok (.goto 4, 3) := by decide +kernel
theorem dL_holdsAt_58 : decode cL_holdsAt 58 = .ok (.iconst 0, 1) := by decide +kernel
theorem dL_holdsAt_59 : decode cL_holdsAt 59 = .ok (.istore 4, 2) := by decide +kernel
theorem dL_holdsAt_61 : decode cL_holdsAt 61 = .ok (.iinc 5 (-1), 3) := by decide +kernel
theorem dL_holdsAt_64 : decode cL_holdsAt 64 = .ok (.goto (-54), 3) := by decide +kernel
theorem dL_holdsAt_67 : decode cL_holdsAt 67 = .ok (.iload 4, 2) := by decide +kernel
theorem dL_holdsAt_69 : decode cL_holdsAt 69 = .ok (.ireturn, 1) := by decide +kernel
theorem dL_isStep_0 : decode cL_isStep 0 = .ok (.ldc2_w 9, 3) := by decide +kernel
theorem dL_isStep_3 : decode cL_isStep 3 = .ok (.aload_n 1, 1) := by decide +kernel
theorem dL_isStep_4 : decode cL_isStep 4 = .ok (.bipush 8, 2) := by decide +kernel
theorem dL_isStep_6 : decode cL_isStep 6 = .ok (.iaload, 1) := by decide +kernel
theorem dL_isStep_7 : decode cL_isStep 7 = .ok (.i2l, 1) := by decide +kernel
theorem dL_isStep_8 : decode cL_isStep 8 = .ok (.lmul, 1) := by decide +kernel
theorem dL_isStep_9 : decode cL_isStep 9 = .ok (.iload_n 2, 1) := by decide +kernel
theorem dL_isStep_10 : decode cL_isStep 10 = .ok (.i2l, 1) := by decide +kernel
theorem dL_isStep_11 : decode cL_isStep 11 = .ok (.ladd, 1) := by decide +kernel
theorem dL_isStep_12 : decode cL_isStep 12 = .ok (.ldc2_w 11, 3) := by decide +kernel
theorem dL_isStep_15 : decode cL_isStep 15 = .ok (.iload_n 3, 1) := by decide +kernel
theorem dL_isStep_16 : decode cL_isStep 16 = .ok (.i2l, 1) := by decide +kernel
theorem dL_isStep_17 : decode cL_isStep 17 = .ok (.lmul, 1) := by decide +kernel
theorem dL_isStep_18 : decode cL_isStep 18 = .ok (.ladd, 1) := by decide +kernel
theorem dL_isStep_19 : decode cL_isStep 19 = .ok (.ldc2_w 13, 3) := by decide +kernel
theorem dL_isStep_22 : decode cL_isStep 22 = .ok (.iload 4, 2) := by decide +kernel
theorem dL_isStep_24 : decode cL_isStep 24 = .ok (.i2l, 1) := by decide +kernel
theorem dL_isStep_25 : decode cL_isStep 25 = .ok (.lmul, 1) := by decide +kernel
theorem dL_isStep_26 : decode cL_isStep 26 = .ok (.ladd, 1) := by decide +kernel
theorem dL_isStep_27 : decode cL_isStep 27 = .ok (.ldc2_w 15, 3) := by decide +kernel
theorem dL_isStep_30 : decode cL_isStep 30 = .ok (.iload 5, 2) := by decide +kernel
theorem dL_isStep_32 : decode cL_isStep 32 = .ok (.i2l, 1) := by decide +kernel
theorem dL_isStep_33 : decode cL_isStep 33 = .ok (.lmul, 1) := by decide +kernel
theorem dL_isStep_34 : decode cL_isStep 34 = .ok (.ladd, 1) := by decide +kernel
theorem dL_isStep_35 : decode cL_isStep 35 = .ok (.lstore 6, 2) := by decide +kernel
theorem dL_isStep_37 : decode cL_isStep 37 = .ok (.aload_n 1, 1) := by decide +kernel
theorem dL_isStep_38 : decode cL_isStep 38 = .ok (.bipush 8, 2) := by decide +kernel
theorem dL_isStep_40 : decode cL_isStep 40 = .ok (.lload 6, 2) := by decide +kernel
theorem dL_isStep_42 : decode cL_isStep 42 = .ok (.ldc2_w 17, 3) := by decide +kernel
theorem dL_isStep_45 : decode cL_isStep 45 = .ok (.lrem, 1) := by decide +kernel
theorem dL_isStep_46 : decode cL_isStep 46 = .ok (.l2i, 1) := by decide +kernel
theorem dL_isStep_47 : decode cL_isStep 47 = .ok (.iastore, 1) := by decide +kernel
theorem dL_isStep_48 : decode cL_isStep 48 = .ok (.aload_n 1, 1) := by decide +kernel
theorem dL_isStep_49 : decode cL_isStep 49 = .ok (.bipush 7, 2) := by decide +kernel
theorem dL_isStep_51 : decode cL_isStep 51 = .ok (.dup2, 1) := by decide +kernel
theorem dL_isStep_52 : decode cL_isStep 52 = .ok (.iaload, 1) := by decide +kernel
theorem dL_isStep_53 : decode cL_isStep 53 = .ok (.iconst 1, 1) := by decide +kernel
theorem dL_isStep_54 : decode cL_isStep 54 = .ok (.iadd, 1) := by decide +kernel
theorem dL_isStep_55 : decode cL_isStep 55 = .ok (.iastore, 1) := by decide +kernel
theorem dL_isStep_56 : decode cL_isStep 56 = .ok (.aload_n 0, 1) := by decide +kernel
theorem dL_isStep_57 : decode cL_isStep 57 = .ok (.invokevirtual 19, 3) := by decide +kernel
theorem dL_isStep_60 : decode cL_isStep 60 = .ok (.aload_n 1, 1) := by decide +kernel
theorem dL_isStep_61 : decode cL_isStep 61 = .ok (.bipush 7, 2) := by decide +kernel
theorem dL_isStep_63 : decode cL_isStep 63 = .ok (.iaload, 1) := by decide +kernel
theorem dL_isStep_64 : decode cL_isStep 64 = .ok (.if_icmp .lt 38, 3) := by decide +kernel
theorem dL_isStep_67 : decode cL_isStep 67 = .ok (.aload_n 0, 1) := by decide +kernel
theorem dL_isStep_68 : decode cL_isStep 68 = .ok (.aload_n 1, 1) := by decide +kernel
theorem dL_isStep_69 : decode cL_isStep 69 = .ok (.bipush 7, 2) := by decide +kernel
theorem dL_isStep_71 : decode cL_isStep 71 = .ok (.iaload, 1) := by decide +kernel
theorem dL_isStep_72 : decode cL_isStep 72 = .ok (.iconst 1, 1) := by decide +kernel
theorem dL_isStep_73 : decode cL_isStep 73 = .ok (.isub, 1) := by decide +kernel
theorem dL_isStep_74 : decode cL_isStep 74 = .ok (.invokevirtual 25, 3) := by decide +kernel
theorem dL_isStep_77 : decode cL_isStep 77 = .ok (.iload_n 2, 1) := by decide +kernel
theorem dL_isStep_78 : decode cL_isStep 78 = .ok (.if_icmp .ne 24, 3) := by decide +kernel
theorem dL_isStep_81 : decode cL_isStep 81 = .ok (.aload_n 0, 1) := by decide +kernel
theorem dL_isStep_82 : decode cL_isStep 82 = .ok (.aload_n 1, 1) := by decide +kernel
theorem dL_isStep_83 : decode cL_isStep 83 = .ok (.bipush 7, 2) := by decide +kernel
theorem dL_isStep_85 : decode cL_isStep 85 = .ok (.iaload, 1) := by decide +kernel
theorem dL_isStep_86 : decode cL_isStep 86 = .ok (.iconst 1, 1) := by decide +kernel
theorem dL_isStep_87 : decode cL_isStep 87 = .ok (.isub, 1) := by decide +kernel
theorem dL_isStep_88 : decode cL_isStep 88 = .ok (.invokevirtual 29, 3) := by decide +kernel
theorem dL_isStep_91 : decode cL_isStep 91 = .ok (.aload_n 1, 1) := by decide +kernel
theorem dL_isStep_92 : decode cL_isStep 92 = .ok (.bipush 8, 2) := by decide +kernel
theorem dL_isStep_94 : decode cL_isStep 94 = .ok (.iaload, 1) := by decide +kernel
theorem dL_isStep_95 : decode cL_isStep 95 = .ok (.if_icmp .ne 7, 3) := by decide +kernel
theorem dL_isStep_98 : decode cL_isStep 98 = .ok (.iconst 1, 1) := by decide +kernel
theorem dL_isStep_99 : decode cL_isStep 99 = .ok (.goto 4, 3) := by decide +kernel
theorem dL_isStep_102 : decode cL_isStep 102 = .ok (.iconst 0, 1) := by decide +kernel
theorem dL_isStep_103 : decode cL_isStep 103 = .ok (.ireturn, 1) := by decide +kernel
theorem dL_end_0 : decode cL_end 0 = .ok (.iconst 0, 1) := by decide +kernel
theorem dL_end_1 : decode cL_end 1 = .ok (.istore_n 3, 1) := by decide +kernel
theorem dL_end_2 : decode cL_end 2 = .ok (.iload_n 3, 1) := by decide +kernel
theorem dL_end_3 : decode cL_end 3 = .ok (.aload_n 1, 1) := by decide +kernel
theorem dL_end_4 : decode cL_end 4 = .ok (.iconst 3, 1) := by decide +kernel
theorem dL_end_5 : decode cL_end 5 = .ok (.iaload, 1) := by decide +kernel
theorem dL_end_6 : decode cL_end 6 = .ok (.if_icmp .ge 64, 3) := by decide +kernel
theorem dL_end_9 : decode cL_end 9 = .ok (.aload_n 0, 1) := by decide +kernel
theorem dL_end_10 : decode cL_end 10 = .ok (.iconst 3, 1) := by decide +kernel
theorem dL_end_11 : decode cL_end 11 = .ok (.iload_n 3, 1) := by decide +kernel
theorem dL_end_12 : decode cL_end 12 = .ok (.imul, 1) := by decide +kernel
theorem dL_end_13 : decode cL_end 13 = .ok (.iconst 2, 1) := by decide +kernel
theorem dL_end_14 : decode cL_end 14 = .ok (.iadd, 1) := by decide +kernel
theorem dL_end_15 : decode cL_end 15 = .ok (.aload_n 0, 1) := by decide +kernel
theorem dL_end_16 : decode cL_end 16 = .ok (.iconst 3, 1) := by decide +kernel
theorem dL_end_17 : decode cL_end 17 = .ok (.iload_n 3, 1) := by decide +kernel
theorem dL_end_18 : decode cL_end 18 = .ok (.imul, 1) := by decide +kernel
theorem dL_end_19 : decode cL_end 19 = .ok (.iaload, 1) := by decide +kernel
theorem dL_end_20 : decode cL_end 20 = .ok (.iload_n 2, 1) := by decide +kernel
theorem dL_end_21 : decode cL_end 21 = .ok (.if_icmp .ne 35, 3) := by decide +kernel
theorem dL_end_24 : decode cL_end 24 = .ok (.aload_n 0, 1) := by decide +kernel
theorem dL_end_25 : decode cL_end 25 = .ok (.iconst 3, 1) := by decide +kernel
theorem dL_end_26 : decode cL_end 26 = .ok (.iload_n 3, 1) := by decide +kernel
theorem dL_end_27 : decode cL_end 27 = .ok (.imul, 1) := by decide +kernel
theorem dL_end_28 : decode cL_end 28 = .ok (.iconst 1, 1) := by decide +kernel
theorem dL_end_29 : decode cL_end 29 = .ok (.iadd, 1) := by decide +kernel
theorem dL_end_30 : decode cL_end 30 = .ok (.iaload, 1) := by decide +kernel
theorem dL_end_31 : decode cL_end 31 = .ok (.aload_n 1, 1) := by decide +kernel
theorem dL_end_32 : decode cL_end 32 = .ok (.iconst 2, 1) := by decide +kernel
theorem dL_end_33 : decode cL_end 33 = .ok (.iaload, 1) := by decide +kernel
theorem dL_end_34 : decode cL_end 34 = .ok (.if_icmp .gt 22, 3) := by decide +kernel
theorem dL_end_37 : decode cL_end 37 = .ok (.aload_n 0, 1) := by decide +kernel
theorem dL_end_38 : decode cL_end 38 = .ok (.iconst 3, 1) := by decide +kernel
theorem dL_end_39 : decode cL_end 39 = .ok (.iload_n 3, 1) := by decide +kernel
theorem dL_end_40 : decode cL_end 40 = .ok (.imul, 1) := by decide +kernel
theorem dL_end_41 : decode cL_end 41 = .ok (.iconst 2, 1) := by decide +kernel
theorem dL_end_42 : decode cL_end 42 = .ok (.iadd, 1) := by decide +kernel
theorem dL_end_43 : decode cL_end 43 = .ok (.iaload, 1) := by decide +kernel
theorem dL_end_44 : decode cL_end 44 = .ok (.aload_n 1, 1) := by decide +kernel
theorem dL_end_45 : decode cL_end 45 = .ok (.iconst 2, 1) := by decide +kernel
theorem dL_end_46 : decode cL_end 46 = .ok (.iaload, 1) := by decide +kernel
theorem dL_end_47 : decode cL_end 47 = .ok (.if_icmp .le 9, 3) := by decide +kernel
theorem dL_end_50 : decode cL_end 50 = .ok (.aload_n 1, 1) := by decide +kernel
theorem dL_end_51 : decode cL_end 51 = .ok (.iconst 2, 1) := by decide +kernel
theorem dL_end_52 : decode cL_end 52 = .ok (.iaload, 1) := by decide +kernel
theorem dL_end_53 : decode cL_end 53 = .ok (.goto 10, 3) := by decide +kernel
theorem dL_end_56 : decode cL_end 56 = .ok (.aload_n 0, 1) := by decide +kernel
theorem dL_end_57 : decode cL_end 57 = .ok (.iconst 3, 1) := by decide +kernel
theorem dL_end_58 : decode cL_end 58 = .ok (.iload_n 3, 1) := by decide +kernel
theorem dL_end_59 : decode cL_end 59 = .ok (.imul, 1) := by decide +kernel
theorem dL_end_60 : decode cL_end 60 = .ok (.iconst 2, 1) := by decide +kernel
theorem dL_end_61 : decode cL_end 61 = .ok (.iadd, 1) := by decide +kernel
theorem dL_end_62 : decode cL_end 62 = .ok (.iaload, 1) := by decide +kernel
theorem dL_end_63 : decode cL_end 63 = .ok (.iastore, 1) := by decide +kernel
theorem dL_end_64 : decode cL_end 64 = .ok (.iinc 3 1, 3) := by decide +kernel
theorem dL_end_67 : decode cL_end 67 = .ok (.goto (-65), 3) := by decide +kernel
theorem dL_end_70 : decode cL_end 70 = .ok (.return_, 1) := by decide +kernel
theorem dL_deny_0 : decode cL_deny 0 = .ok (.iconst 0, 1) := by decide +kernel
theorem dL_deny_1 : decode cL_deny 1 = .ok (.istore_n 3, 1) := by decide +kernel
theorem dL_deny_2 : decode cL_deny 2 = .ok (.iload_n 3, 1) := by decide +kernel
theorem dL_deny_3 : decode cL_deny 3 = .ok (.aload_n 1, 1) := by decide +kernel
theorem dL_deny_4 : decode cL_deny 4 = .ok (.iconst 4, 1) := by decide +kernel
theorem dL_deny_5 : decode cL_deny 5 = .ok (.iaload, 1) := by decide +kernel
theorem dL_deny_6 : decode cL_deny 6 = .ok (.if_icmp .ge 46, 3) := by decide +kernel
theorem dL_deny_9 : decode cL_deny 9 = .ok (.aload_n 0, 1) := by decide +kernel
theorem dL_deny_10 : decode cL_deny 10 = .ok (.iconst 5, 1) := by decide +kernel
theorem dL_deny_11 : decode cL_deny 11 = .ok (.iload_n 3, 1) := by decide +kernel
theorem dL_deny_12 : decode cL_deny 12 = .ok (.imul, 1) := by decide +kernel
theorem dL_deny_13 : decode cL_deny 13 = .ok (.iconst 3, 1) := by decide +kernel
theorem dL_deny_14 : decode cL_deny 14 = .ok (.iadd, 1) := by decide +kernel
theorem dL_deny_15 : decode cL_deny 15 = .ok (.aload_n 0, 1) := by decide +kernel
theorem dL_deny_16 : decode cL_deny 16 = .ok (.iconst 5, 1) := by decide +kernel
theorem dL_deny_17 : decode cL_deny 17 = .ok (.iload_n 3, 1) := by decide +kernel
theorem dL_deny_18 : decode cL_deny 18 = .ok (.imul, 1) := by decide +kernel
theorem dL_deny_19 : decode cL_deny 19 = .ok (.iaload, 1) := by decide +kernel
theorem dL_deny_20 : decode cL_deny 20 = .ok (.iload_n 2, 1) := by decide +kernel
theorem dL_deny_21 : decode cL_deny 21 = .ok (.if_icmp .ne 17, 3) := by decide +kernel
theorem dL_deny_24 : decode cL_deny 24 = .ok (.aload_n 0, 1) := by decide +kernel
theorem dL_deny_25 : decode cL_deny 25 = .ok (.iconst 5, 1) := by decide +kernel
theorem dL_deny_26 : decode cL_deny 26 = .ok (.iload_n 3, 1) := by decide +kernel
theorem dL_deny_27 : decode cL_deny 27 = .ok (.imul, 1) := by decide +kernel
theorem dL_deny_28 : decode cL_deny 28 = .ok (.iconst 3, 1) := by decide +kernel
theorem dL_deny_29 : decode cL_deny 29 = .ok (.iadd, 1) := by decide +kernel
theorem dL_deny_30 : decode cL_deny 30 = .ok (.iaload, 1) := by decide +kernel
theorem dL_deny_31 : decode cL_deny 31 = .ok (.ifCond .ne 7, 3) := by decide +kernel
theorem dL_deny_34 : decode cL_deny 34 = .ok (.iconst 2, 1) := by decide +kernel
theorem dL_deny_35 : decode cL_deny 35 = .ok (.goto 10, 3) := by decide +kernel
theorem dL_deny_38 : decode cL_deny 38 = .ok (.aload_n 0, 1) := by decide +kernel
theorem dL_deny_39 : decode cL_deny 39 = .ok (.iconst 5, 1) := by decide +kernel
theorem dL_deny_40 : decode cL_deny 40 = .ok (.iload_n 3, 1) := by decide +kernel
theorem dL_deny_41 : decode cL_deny 41 = .ok (.imul, 1) := by decide +kernel
theorem dL_deny_42 : decode cL_deny 42 = .ok (.iconst 3, 1) := by decide +kernel
theorem dL_deny_43 : decode cL_deny 43 = .ok (.iadd, 1) := by decide +kernel
theorem dL_deny_44 : decode cL_deny 44 = .ok (.iaload, 1) := by decide +kernel
theorem dL_deny_45 : decode cL_deny 45 = .ok (.iastore, 1) := by decide +kernel
theorem dL_deny_46 : decode cL_deny 46 = .ok (.iinc 3 1, 3) := by decide +kernel
theorem dL_deny_49 : decode cL_deny 49 = .ok (.goto (-47), 3) := by decide +kernel
theorem dL_deny_52 : decode cL_deny 52 = .ok (.return_, 1) := by decide +kernel
theorem dL_shut_0 : decode cL_shut 0 = .ok (.iconst 0, 1) := by decide +kernel
theorem dL_shut_1 : decode cL_shut 1 = .ok (.istore 5, 2) := by decide +kernel
theorem dL_shut_3 : decode cL_shut 3 = .ok (.iconst 0, 1) := by decide +kernel
theorem dL_shut_4 : decode cL_shut 4 = .ok (.istore 6, 2) := by decide +kernel
theorem dL_shut_6 : decode cL_shut 6 = .ok (.iload 6, 2) := by decide +kernel
theorem dL_shut_8 : decode cL_shut 8 = .ok (.aload_n 3, 1) := by decide +kernel
theorem dL_shut_9 : decode cL_shut 9 = .ok (.bipush 6, 2) := by decide +kernel
theorem dL_shut_11 : decode cL_shut 11 = .ok (.iaload, 1) := by decide +kernel
theorem dL_shut_12 : decode cL_shut 12 = .ok (.if_icmp .ge 134, 3) := by decide +kernel
theorem dL_shut_15 : decode cL_shut 15 = .ok (.aload_n 2, 1) := by decide +kernel
theorem dL_shut_16 : decode cL_shut 16 = .ok (.iconst 5, 1) := by decide +kernel
theorem dL_shut_17 : decode cL_shut 17 = .ok (.iload 6, 2) := by decide +kernel
theorem dL_shut_19 : decode cL_shut 19 = .ok (.imul, 1) := by decide +kernel
theorem dL_shut_20 : decode cL_shut 20 = .ok (.iconst 1, 1) := by decide +kernel
theorem dL_shut_21 : decode cL_shut 21 = .ok (.iadd, 1) := by decide +kernel
theorem dL_shut_22 : decode cL_shut 22 = .ok (.iaload, 1) := by decide +kernel
theorem dL_shut_23 : decode cL_shut 23 = .ok (.iconst 1, 1) := by decide +kernel
theorem dL_shut_24 : decode cL_shut 24 = .ok (.if_icmp .ne 48, 3) := by decide +kernel
theorem dL_shut_27 : decode cL_shut 27 = .ok (.iload 6, 2) := by decide +kernel
theorem dL_shut_29 : decode cL_shut 29 = .ok (.iload 4, 2) := by decide +kernel
theorem dL_shut_31 : decode cL_shut 31 = .ok (.if_icmp .eq 37, 3) := by decide +kernel
theorem dL_shut_34 : decode cL_shut 34 = .ok (.aload_n 3, 1) := by decide +kernel
theorem dL_shut_35 : decode cL_shut 35 = .ok (.iconst 2, 1) := by decide +kernel
theorem dL_shut_36 : decode cL_shut 36 = .ok (.iaload, 1) := by decide +kernel
theorem dL_shut_37 : decode cL_shut 37 = .ok (.aload_n 2, 1) := by decide +kernel
theorem dL_shut_38 : decode cL_shut 38 = .ok (.iconst 5, 1) := by decide +kernel
theorem dL_shut_39 : decode cL_shut 39 = .ok (.iload 6, 2) := by decide +kernel
theorem dL_shut_41 : decode cL_shut 41 = .ok (.imul, 1) := by decide +kernel
theorem dL_shut_42 : decode cL_shut 42 = .ok (.iconst 2, 1) := by decide +kernel
theorem dL_shut_43 : decode cL_shut 43 = .ok (.iadd, 1) := by decide +kernel
theorem dL_shut_44 : decode cL_shut 44 = .ok (.iaload, 1) := by decide +kernel
theorem dL_shut_45 : decode cL_shut 45 = .ok (.bipush 15, 2) := by decide +kernel
theorem dL_shut_47 : decode cL_shut 47 = .ok (.iadd, 1) := by decide +kernel
theorem dL_shut_48 : decode cL_shut 48 = .ok (.if_icmp .ge 20, 3) := by decide +kernel
theorem dL_shut_51 : decode cL_shut 51 = .ok (.aload_n 1, 1) := by decide +kernel
theorem dL_shut_52 : decode cL_shut 52 = .ok (.aload_n 3, 1) := by decide +kernel
theorem dL_shut_53 : decode cL_shut 53 = .ok (.aload_n 2, 1) := by decide +kernel
theorem dL_shut_54 : decode cL_shut 54 = .ok (.iconst 5, 1) := by decide +kernel
theorem dL_shut_55 : decode cL_shut 55 = .ok (.iload 6, 2) := by decide +kernel
theorem dL_shut_57 : decode cL_shut 57 = .ok (.imul, 1) := by decide +kernel
theorem dL_shut_58 : decode cL_shut 58 = .ok (.iaload, 1) := by decide +kernel
theorem dL_shut_59 : decode cL_shut 59 = .ok (.aload_n 3, 1) := by decide +kernel
theorem dL_shut_60 : decode cL_shut 60 = .ok (.iconst 2, 1) := by decide +kernel
theorem dL_shut_61 : decode cL_shut 61 = .ok (.iaload, 1) := by decide +kernel
theorem dL_shut_62 : decode cL_shut 62 = .ok (.invokestatic 32, 3) := by decide +kernel
theorem dL_shut_65 : decode cL_shut 65 = .ok (.ifCond .ne 7, 3) := by decide +kernel
theorem dL_shut_68 : decode cL_shut 68 = .ok (.iconst 1, 1) := by decide +kernel
theorem dL_shut_69 : decode cL_shut 69 = .ok (.goto 4, 3) := by decide +kernel
theorem dL_shut_72 : decode cL_shut 72 = .ok (.iconst 0, 1) := by decide +kernel
theorem dL_shut_73 : decode cL_shut 73 = .ok (.istore 7, 2) := by decide +kernel
theorem dL_shut_75 : decode cL_shut 75 = .ok (.iload 7, 2) := by decide +kernel
theorem dL_shut_77 : decode cL_shut 77 = .ok (.ifCond .eq 63, 3) := by decide +kernel
theorem dL_shut_80 : decode cL_shut 80 = .ok (.aload_n 2, 1) := by decide +kernel
theorem dL_shut_81 : decode cL_shut 81 = .ok (.iconst 5, 1) := by decide +kernel
theorem dL_shut_82 : decode cL_shut 82 = .ok (.iload 6, 2) := by decide +kernel
theorem dL_shut_84 : decode cL_shut 84 = .ok (.imul, 1) := by decide +kernel
theorem dL_shut_85 : decode cL_shut 85 = .ok (.iconst 1, 1) := by decide +kernel
theorem dL_shut_86 : decode cL_shut 86 = .ok (.iadd, 1) := by decide +kernel
theorem dL_shut_87 : decode cL_shut 87 = .ok (.iconst 0, 1) := by decide +kernel
theorem dL_shut_88 : decode cL_shut 88 = .ok (.iastore, 1) := by decide +kernel
theorem dL_shut_89 : decode cL_shut 89 = .ok (.aload_n 2, 1) := by decide +kernel
theorem dL_shut_90 : decode cL_shut 90 = .ok (.iconst 5, 1) := by decide +kernel
theorem dL_shut_91 : decode cL_shut 91 = .ok (.iload 6, 2) := by decide +kernel
theorem dL_shut_93 : decode cL_shut 93 = .ok (.imul, 1) := by decide +kernel
theorem dL_shut_94 : decode cL_shut 94 = .ok (.iconst 3, 1) := by decide +kernel
theorem dL_shut_95 : decode cL_shut 95 = .ok (.iadd, 1) := by decide +kernel
theorem dL_shut_96 : decode cL_shut 96 = .ok (.iconst 0, 1) := by decide +kernel
theorem dL_shut_97 : decode cL_shut 97 = .ok (.iastore, 1) := by decide +kernel
theorem dL_shut_98 : decode cL_shut 98 = .ok (.aload_n 0, 1) := by decide +kernel
theorem dL_shut_99 : decode cL_shut 99 = .ok (.aload_n 3, 1) := by decide +kernel
theorem dL_shut_100 : decode cL_shut 100 = .ok (.bipush 6, 2) := by decide +kernel
theorem dL_shut_102 : decode cL_shut 102 = .ok (.aload_n 2, 1) := by decide +kernel
theorem dL_shut_103 : decode cL_shut 103 = .ok (.iconst 5, 1) := by decide +kernel
theorem dL_shut_104 : decode cL_shut 104 = .ok (.iload 6, 2) := by decide +kernel
theorem dL_shut_106 : decode cL_shut 106 = .ok (.imul, 1) := by decide +kernel
theorem dL_shut_107 : decode cL_shut 107 = .ok (.iaload, 1) := by decide +kernel
theorem dL_shut_108 : decode cL_shut 108 = .ok (.bipush 8, 2) := by decide +kernel
theorem dL_shut_110 : decode cL_shut 110 = .ok (.idiv, 1) := by decide +kernel
theorem dL_shut_111 : decode cL_shut 111 = .ok (.aload_n 2, 1) := by decide +kernel
theorem dL_shut_112 : decode cL_shut 112 = .ok (.iconst 5, 1) := by decide +kernel
theorem dL_shut_113 : decode cL_shut 113 = .ok (.iload 6, 2) := by decide +kernel
theorem dL_shut_115 : decode cL_shut 115 = .ok (.imul, 1) := by decide +kernel
theorem dL_shut_116 : decode cL_shut 116 = .ok (.iaload, 1) := by decide +kernel
theorem dL_shut_117 : decode cL_shut 117 = .ok (.bipush 8, 2) := by decide +kernel
theorem dL_shut_119 : decode cL_shut 119 = .ok (.irem, 1) := by decide +kernel
theorem dL_shut_120 : decode cL_shut 120 = .ok (.aload_n 3, 1) := by decide +kernel
theorem dL_shut_121 : decode cL_shut 121 = .ok (.iconst 2, 1) := by decide +kernel
theorem dL_shut_122 : decode cL_shut 122 = .ok (.iaload, 1) := by decide +kernel
theorem dL_shut_123 : decode cL_shut 123 = .ok (.invokestatic 38, 3) := by decide +kernel
theorem dL_shut_126 : decode cL_shut 126 = .ok (.ifCond .eq 10, 3) := by decide +kernel
theorem dL_shut_129 : decode cL_shut 129 = .ok (.iload 5, 2) := by decide +kernel
theorem dL_shut_131 : decode cL_shut 131 = .ok (.iconst 1, 1) := by decide +kernel
theorem dL_shut_132 : decode cL_shut 132 = .ok (.iadd, 1) := by decide +kernel
theorem dL_shut_133 : decode cL_shut 133 = .ok (.goto 5, 3) := by decide +kernel
theorem dL_shut_136 : decode cL_shut 136 = .ok (.bipush (-100), 2) := by decide +kernel
theorem dL_shut_138 : decode cL_shut 138 = .ok (.istore 5, 2) := by decide +kernel
theorem dL_shut_140 : decode cL_shut 140 = .ok (.iinc 6 1, 3) := by decide +kernel
theorem dL_shut_143 : decode cL_shut 143 = .ok (.goto (-137), 3) := by decide +kernel
theorem dL_shut_146 : decode cL_shut 146 = .ok (.iload 5, 2) := by decide +kernel
theorem dL_shut_148 : decode cL_shut 148 = .ok (.ireturn, 1) := by decide +kernel
theorem dL_overdue_0 : decode cL_overdue 0 = .ok (.iconst 0, 1) := by decide +kernel
theorem dL_overdue_1 : decode cL_overdue 1 = .ok (.istore_n 3, 1) := by decide +kernel
theorem dL_overdue_2 : decode cL_overdue 2 = .ok (.iconst 0, 1) := by decide +kernel
theorem dL_overdue_3 : decode cL_overdue 3 = .ok (.istore 4, 2) := by decide +kernel
theorem dL_overdue_5 : decode cL_overdue 5 = .ok (.iload 4, 2) := by decide +kernel
theorem dL_overdue_7 : decode cL_overdue 7 = .ok (.aload_n 1, 1) := by decide +kernel
theorem dL_overdue_8 : decode cL_overdue 8 = .ok (.iconst 5, 1) := by decide +kernel
theorem dL_overdue_9 : decode cL_overdue 9 = .ok (.iaload, 1) := by decide +kernel
theorem dL_overdue_10 : decode cL_overdue 10 = .ok (.if_icmp .ge 59, 3) := by decide +kernel
theorem dL_overdue_13 : decode cL_overdue 13 = .ok (.iload_n 3, 1) := by decide +kernel
theorem dL_overdue_14 : decode cL_overdue 14 = .ok (.aload_n 0, 1) := by decide +kernel
theorem dL_overdue_15 : decode cL_overdue 15 = .ok (.iconst 3, 1) := by decide +kernel
theorem dL_overdue_16 : decode cL_overdue 16 = .ok (.iload 4, 2) := by decide +kernel
theorem dL_overdue_18 : decode cL_overdue 18 = .ok (.imul, 1) := by decide +kernel
theorem dL_overdue_19 : decode cL_overdue 19 = .ok (.iaload, 1) := by decide +kernel
theorem dL_overdue_20 : decode cL_overdue 20 = .ok (.bipush 8, 2) := by decide +kernel
theorem dL_overdue_22 : decode cL_overdue 22 = .ok (.idiv, 1) := by decide +kernel
theorem dL_overdue_23 : decode cL_overdue 23 = .ok (.iload_n 2, 1) := by decide +kernel
theorem dL_overdue_24 : decode cL_overdue 24 = .ok (.if_icmp .ne 36, 3) := by decide +kernel
theorem dL_overdue_27 : decode cL_overdue 27 = .ok (.aload_n 0, 1) := by decide +kernel
theorem dL_overdue_28 : decode cL_overdue 28 = .ok (.iconst 3, 1) := by decide +kernel
theorem dL_overdue_29 : decode cL_overdue 29 = .ok (.iload 4, 2) := by decide +kernel
theorem dL_overdue_31 : decode cL_overdue 31 = .ok (.imul, 1) := by decide +kernel
theorem dL_overdue_32 : decode cL_overdue 32 = .ok (.iconst 2, 1) := by decide +kernel
theorem dL_overdue_33 : decode cL_overdue 33 = .ok (.iadd, 1) := by decide +kernel
theorem dL_overdue_34 : decode cL_overdue 34 = .ok (.iaload, 1) := by decide +kernel
theorem dL_overdue_35 : decode cL_overdue 35 = .ok (.ifCond .ne 25, 3) := by decide +kernel
theorem dL_overdue_38 : decode cL_overdue 38 = .ok (.aload_n 1, 1) := by decide +kernel
theorem dL_overdue_39 : decode cL_overdue 39 = .ok (.iconst 2, 1) := by decide +kernel
theorem dL_overdue_40 : decode cL_overdue 40 = .ok (.iaload, 1) := by decide +kernel
theorem dL_overdue_41 : decode cL_overdue 41 = .ok (.aload_n 0, 1) := by decide +kernel
theorem dL_overdue_42 : decode cL_overdue 42 = .ok (.iconst 3, 1) := by decide +kernel
theorem dL_overdue_43 : decode cL_overdue 43 = .ok (.iload 4, 2) := by decide +kernel
theorem dL_overdue_45 : decode cL_overdue 45 = .ok (.imul, 1) := by decide +kernel
theorem dL_overdue_46 : decode cL_overdue 46 = .ok (.iconst 1, 1) := by decide +kernel
theorem dL_overdue_47 : decode cL_overdue 47 = .ok (.iadd, 1) := by decide +kernel
theorem dL_overdue_48 : decode cL_overdue 48 = .ok (.iaload, 1) := by decide +kernel
theorem dL_overdue_49 : decode cL_overdue 49 = .ok (.sipush 1440, 3) := by decide +kernel
theorem dL_overdue_52 : decode cL_overdue 52 = .ok (.iadd, 1) := by decide +kernel
theorem dL_overdue_53 : decode cL_overdue 53 = .ok (.if_icmp .lt 7, 3) := by decide +kernel
theorem dL_overdue_56 : decode cL_overdue 56 = .ok (.iconst 1, 1) := by decide +kernel
theorem dL_overdue_57 : decode cL_overdue 57 = .ok (.goto 4, 3) := by decide +kernel
theorem dL_overdue_60 : decode cL_overdue 60 = .ok (.iconst 0, 1) := by decide +kernel
theorem dL_overdue_61 : decode cL_overdue 61 = .ok (.iadd, 1) := by decide +kernel
theorem dL_overdue_62 : decode cL_overdue 62 = .ok (.istore_n 3, 1) := by decide +kernel
theorem dL_overdue_63 : decode cL_overdue 63 = .ok (.iinc 4 1, 3) := by decide +kernel
theorem dL_overdue_66 : decode cL_overdue 66 = .ok (.goto (-61), 3) := by decide +kernel
theorem dL_overdue_69 : decode cL_overdue 69 = .ok (.iload_n 3, 1) := by decide +kernel
theorem dL_overdue_70 : decode cL_overdue 70 = .ok (.ireturn, 1) := by decide +kernel
theorem dL_asked_0 : decode cL_asked 0 = .ok (.aload_n 0, 1) := by decide +kernel
theorem dL_asked_1 : decode cL_asked 1 = .ok (.iload_n 1, 1) := by decide +kernel
theorem dL_asked_2 : decode cL_asked 2 = .ok (.iload_n 2, 1) := by decide +kernel
theorem dL_asked_3 : decode cL_asked 3 = .ok (.iload_n 3, 1) := by decide +kernel
theorem dL_asked_4 : decode cL_asked 4 = .ok (.invokevirtual 42, 3) := by decide +kernel
theorem dL_asked_7 : decode cL_asked 7 = .ok (.ireturn, 1) := by decide +kernel
theorem dL_asked_8 : decode cL_asked 8 = .ok (.astore 4, 2) := by decide +kernel
theorem dL_asked_10 : decode cL_asked 10 = .ok (.bipush (-2), 2) := by decide +kernel
theorem dL_asked_12 : decode cL_asked 12 = .ok (.ireturn, 1) := by decide +kernel
theorem dL_approved_0 : decode cL_approved 0 = .ok (.aload_n 0, 1) := by decide +kernel
theorem dL_approved_1 : decode cL_approved 1 = .ok (.iload_n 1, 1) := by decide +kernel
theorem dL_approved_2 : decode cL_approved 2 = .ok (.iload_n 2, 1) := by decide +kernel
theorem dL_approved_3 : decode cL_approved 3 = .ok (.invokevirtual 48, 3) := by decide +kernel
theorem dL_approved_6 : decode cL_approved 6 = .ok (.ifCond .eq 7, 3) := by decide +kernel
theorem dL_approved_9 : decode cL_approved 9 = .ok (.iconst 1, 1) := by decide +kernel
theorem dL_approved_10 : decode cL_approved 10 = .ok (.goto 4, 3) := by decide +kernel
theorem dL_approved_13 : decode cL_approved 13 = .ok (.iconst 0, 1) := by decide +kernel
theorem dL_approved_14 : decode cL_approved 14 = .ok (.ireturn, 1) := by decide +kernel
theorem dL_approved_15 : decode cL_approved 15 = .ok (.astore_n 3, 1) := by decide +kernel
theorem dL_approved_16 : decode cL_approved 16 = .ok (.bipush (-2), 2) := by decide +kernel
theorem dL_approved_18 : decode cL_approved 18 = .ok (.ireturn, 1) := by decide +kernel
theorem dL_denied_0 : decode cL_denied 0 = .ok (.aload_n 0, 1) := by decide +kernel
theorem dL_denied_1 : decode cL_denied 1 = .ok (.iload_n 1, 1) := by decide +kernel
theorem dL_denied_2 : decode cL_denied 2 = .ok (.iload_n 2, 1) := by decide +kernel
theorem dL_denied_3 : decode cL_denied 3 = .ok (.invokevirtual 52, 3) := by decide +kernel
theorem dL_denied_6 : decode cL_denied 6 = .ok (.goto 7, 3) := by decide +kernel
theorem dL_denied_9 : decode cL_denied 9 = .ok (.astore_n 3, 1) := by decide +kernel
theorem dL_denied_10 : decode cL_denied 10 = .ok (.bipush (-2), 2) := by decide +kernel
theorem dL_denied_12 : decode cL_denied 12 = .ok (.ireturn, 1) := by decide +kernel
theorem dL_denied_13 : decode cL_denied 13 = .ok (.iconst 0, 1) := by decide +kernel
theorem dL_denied_14 : decode cL_denied 14 = .ok (.ireturn, 1) := by decide +kernel
theorem dL_entered_0 : decode cL_entered 0 = .ok (.aload_n 0, 1) := by decide +kernel
theorem dL_entered_1 : decode cL_entered 1 = .ok (.iload_n 1, 1) := by decide +kernel
theorem dL_entered_2 : decode cL_entered 2 = .ok (.iload_n 2, 1) := by decide +kernel
theorem dL_entered_3 : decode cL_entered 3 = .ok (.invokevirtual 56, 3) := by decide +kernel
theorem dL_entered_6 : decode cL_entered 6 = .ok (.ireturn, 1) := by decide +kernel
theorem dL_entered_7 : decode cL_entered 7 = .ok (.astore_n 3, 1) := by decide +kernel
theorem dL_entered_8 : decode cL_entered 8 = .ok (.bipush (-2), 2) := by decide +kernel
theorem dL_entered_10 : decode cL_entered 10 = .ok (.ireturn, 1) := by decide +kernel
theorem dL_looked_0 : decode cL_looked 0 = .ok (.aload_n 0, 1) := by decide +kernel
theorem dL_looked_1 : decode cL_looked 1 = .ok (.iload_n 1, 1) := by decide +kernel
theorem dL_looked_2 : decode cL_looked 2 = .ok (.iload_n 2, 1) := by decide +kernel
theorem dL_looked_3 : decode cL_looked 3 = .ok (.invokevirtual 60, 3) := by decide +kernel
theorem dL_looked_6 : decode cL_looked 6 = .ok (.ireturn, 1) := by decide +kernel
theorem dL_looked_7 : decode cL_looked 7 = .ok (.astore_n 3, 1) := by decide +kernel
theorem dL_looked_8 : decode cL_looked 8 = .ok (.bipush (-2), 2) := by decide +kernel
theorem dL_looked_10 : decode cL_looked 10 = .ok (.ireturn, 1) := by decide +kernel
theorem dL_opened_0 : decode cL_opened 0 = .ok (.aload_n 0, 1) := by decide +kernel
theorem dL_opened_1 : decode cL_opened 1 = .ok (.iload_n 1, 1) := by decide +kernel
theorem dL_opened_2 : decode cL_opened 2 = .ok (.iload_n 2, 1) := by decide +kernel
theorem dL_opened_3 : decode cL_opened 3 = .ok (.invokevirtual 63, 3) := by decide +kernel
theorem dL_opened_6 : decode cL_opened 6 = .ok (.ireturn, 1) := by decide +kernel
theorem dL_opened_7 : decode cL_opened 7 = .ok (.astore_n 3, 1) := by decide +kernel
theorem dL_opened_8 : decode cL_opened 8 = .ok (.bipush (-2), 2) := by decide +kernel
theorem dL_opened_10 : decode cL_opened 10 = .ok (.ireturn, 1) := by decide +kernel
theorem dL_typed_0 : decode cL_typed 0 = .ok (.aload_n 0, 1) := by decide +kernel
theorem dL_typed_1 : decode cL_typed 1 = .ok (.iload_n 1, 1) := by decide +kernel
theorem dL_typed_2 : decode cL_typed 2 = .ok (.iload_n 2, 1) := by decide +kernel
theorem dL_typed_3 : decode cL_typed 3 = .ok (.invokevirtual 66, 3) := by decide +kernel
theorem dL_typed_6 : decode cL_typed 6 = .ok (.ifCond .eq 7, 3) := by decide +kernel
theorem dL_typed_9 : decode cL_typed 9 = .ok (.iconst 1, 1) := by decide +kernel
theorem dL_typed_10 : decode cL_typed 10 = .ok (.goto 4, 3) := by decide +kernel
theorem dL_typed_13 : decode cL_typed 13 = .ok (.iconst 0, 1) := by decide +kernel
theorem dL_typed_14 : decode cL_typed 14 = .ok (.ireturn, 1) := by decide +kernel
theorem dL_typed_15 : decode cL_typed 15 = .ok (.astore_n 3, 1) := by decide +kernel
theorem dL_typed_16 : decode cL_typed 16 = .ok (.bipush (-2), 2) := by decide +kernel
theorem dL_typed_18 : decode cL_typed 18 = .ok (.ireturn, 1) := by decide +kernel
theorem dL_let_0 : decode cL_let 0 = .ok (.aload_n 0, 1) := by decide +kernel
theorem dL_let_1 : decode cL_let 1 = .ok (.iload_n 1, 1) := by decide +kernel
theorem dL_let_2 : decode cL_let 2 = .ok (.iload_n 2, 1) := by decide +kernel
theorem dL_let_3 : decode cL_let 3 = .ok (.invokevirtual 69, 3) := by decide +kernel
theorem dL_let_6 : decode cL_let 6 = .ok (.ireturn, 1) := by decide +kernel
theorem dL_let_7 : decode cL_let 7 = .ok (.astore_n 3, 1) := by decide +kernel
theorem dL_let_8 : decode cL_let 8 = .ok (.bipush (-2), 2) := by decide +kernel
theorem dL_let_10 : decode cL_let 10 = .ok (.ireturn, 1) := by decide +kernel
theorem dL_closed_0 : decode cL_closed 0 = .ok (.aload_n 0, 1) := by decide +kernel
theorem dL_closed_1 : decode cL_closed 1 = .ok (.iload_n 1, 1) := by decide +kernel
theorem dL_closed_2 : decode cL_closed 2 = .ok (.invokevirtual 72, 3) := by decide +kernel
theorem dL_closed_5 : decode cL_closed 5 = .ok (.ireturn, 1) := by decide +kernel
theorem dL_closed_6 : decode cL_closed 6 = .ok (.astore_n 2, 1) := by decide +kernel
theorem dL_closed_7 : decode cL_closed 7 = .ok (.bipush (-2), 2) := by decide +kernel
theorem dL_closed_9 : decode cL_closed 9 = .ok (.ireturn, 1) := by decide +kernel
theorem dL_give_0 : decode cL_give 0 = .ok (.aload_n 0, 1) := by decide +kernel
theorem dL_give_1 : decode cL_give 1 = .ok (.iconst 3, 1) := by decide +kernel
theorem dL_give_2 : decode cL_give 2 = .ok (.aload_n 1, 1) := by decide +kernel
theorem dL_give_3 : decode cL_give 3 = .ok (.iconst 3, 1) := by decide +kernel
theorem dL_give_4 : decode cL_give 4 = .ok (.iaload, 1) := by decide +kernel
theorem dL_give_5 : decode cL_give 5 = .ok (.imul, 1) := by decide +kernel
theorem dL_give_6 : decode cL_give 6 = .ok (.iload_n 2, 1) := by decide +kernel
theorem dL_give_7 : decode cL_give 7 = .ok (.iastore, 1) := by decide +kernel
theorem dL_give_8 : decode cL_give 8 = .ok (.aload_n 0, 1) := by decide +kernel
theorem dL_give_9 : decode cL_give 9 = .ok (.iconst 3, 1) := by decide +kernel
theorem dL_give_10 : decode cL_give 10 = .ok (.aload_n 1, 1) := by decide +kernel
theorem dL_give_11 : decode cL_give 11 = .ok (.iconst 3, 1) := by decide +kernel
theorem dL_give_12 : decode cL_give 12 = .ok (.iaload, 1) := by decide +kernel
theorem dL_give_13 : decode cL_give 13 = .ok (.imul, 1) := by decide +kernel
theorem dL_give_14 : decode cL_give 14 = .ok (.iconst 1, 1) := by decide +kernel
theorem dL_give_15 : decode cL_give 15 = .ok (.iadd, 1) := by decide +kernel
theorem dL_give_16 : decode cL_give 16 = .ok (.aload_n 1, 1) := by decide +kernel
theorem dL_give_17 : decode cL_give 17 = .ok (.iconst 2, 1) := by decide +kernel
theorem dL_give_18 : decode cL_give 18 = .ok (.iaload, 1) := by decide +kernel
theorem dL_give_19 : decode cL_give 19 = .ok (.iastore, 1) := by decide +kernel
theorem dL_give_20 : decode cL_give 20 = .ok (.aload_n 0, 1) := by decide +kernel
theorem dL_give_21 : decode cL_give 21 = .ok (.iconst 3, 1) := by decide +kernel
theorem dL_give_22 : decode cL_give 22 = .ok (.aload_n 1, 1) := by decide +kernel
theorem dL_give_23 : decode cL_give 23 = .ok (.iconst 3, 1) := by decide +kernel
theorem dL_give_24 : decode cL_give 24 = .ok (.iaload, 1) := by decide +kernel
theorem dL_give_25 : decode cL_give 25 = .ok (.imul, 1) := by decide +kernel
theorem dL_give_26 : decode cL_give 26 = .ok (.iconst 2, 1) := by decide +kernel
theorem dL_give_27 : decode cL_give 27 = .ok (.iadd, 1) := by decide +kernel
theorem dL_give_28 : decode cL_give 28 = .ok (.aload_n 1, 1) := by decide +kernel
theorem dL_give_29 : decode cL_give 29 = .ok (.iconst 2, 1) := by decide +kernel
theorem dL_give_30 : decode cL_give 30 = .ok (.iaload, 1) := by decide +kernel
theorem dL_give_31 : decode cL_give 31 = .ok (.iload_n 3, 1) := by decide +kernel
theorem dL_give_32 : decode cL_give 32 = .ok (.iadd, 1) := by decide +kernel
theorem dL_give_33 : decode cL_give 33 = .ok (.iastore, 1) := by decide +kernel
theorem dL_give_34 : decode cL_give 34 = .ok (.aload_n 1, 1) := by decide +kernel
theorem dL_give_35 : decode cL_give 35 = .ok (.iconst 3, 1) := by decide +kernel
theorem dL_give_36 : decode cL_give 36 = .ok (.dup2, 1) := by decide +kernel
theorem dL_give_37 : decode cL_give 37 = .ok (.iaload, 1) := by decide +kernel
theorem dL_give_38 : decode cL_give 38 = .ok (.iconst 1, 1) := by decide +kernel
theorem dL_give_39 : decode cL_give 39 = .ok (.iadd, 1) := by decide +kernel
theorem dL_give_40 : decode cL_give 40 = .ok (.iastore, 1) := by decide +kernel
theorem dL_give_41 : decode cL_give 41 = .ok (.return_, 1) := by decide +kernel
theorem dL_isAsked_0 : decode cL_isAsked 0 = .ok (.iload 8, 2) := by decide +kernel
theorem dL_isAsked_2 : decode cL_isAsked 2 = .ok (.aload_n 3, 1) := by decide +kernel
theorem dL_isAsked_3 : decode cL_isAsked 3 = .ok (.iconst 0, 1) := by decide +kernel
theorem dL_isAsked_4 : decode cL_isAsked 4 = .ok (.iaload, 1) := by decide +kernel
theorem dL_isAsked_5 : decode cL_isAsked 5 = .ok (.irem, 1) := by decide +kernel
theorem dL_isAsked_6 : decode cL_isAsked 6 = .ok (.istore 9, 2) := by decide +kernel
theorem dL_isAsked_8 : decode cL_isAsked 8 = .ok (.iload 8, 2) := by decide +kernel
theorem dL_isAsked_10 : decode cL_isAsked 10 = .ok (.iconst 5, 1) := by decide +kernel
theorem dL_isAsked_11 : decode cL_isAsked 11 = .ok (.idiv, 1) := by decide +kernel
theorem dL_isAsked_12 : decode cL_isAsked 12 = .ok (.aload_n 3, 1) := by decide +kernel
theorem dL_isAsked_13 : decode cL_isAsked 13 = .ok (.iconst 1, 1) := by decide +kernel
theorem dL_isAsked_14 : decode cL_isAsked 14 = .ok (.iaload, 1) := by decide +kernel
theorem dL_isAsked_15 : decode cL_isAsked 15 = .ok (.irem, 1) := by decide +kernel
theorem dL_isAsked_16 : decode cL_isAsked 16 = .ok (.istore 10, 2) := by decide +kernel
theorem dL_isAsked_18 : decode cL_isAsked 18 = .ok (.aload_n 1, 1) := by decide +kernel
theorem dL_isAsked_19 : decode cL_isAsked 19 = .ok (.aload_n 2, 1) := by decide +kernel
theorem dL_isAsked_20 : decode cL_isAsked 20 = .ok (.iload 9, 2) := by decide +kernel
theorem dL_isAsked_22 : decode cL_isAsked 22 = .ok (.iload 10, 2) := by decide +kernel
theorem dL_isAsked_24 : decode cL_isAsked 24 = .ok (.invokestatic 75, 3) := by decide +kernel
theorem dL_isAsked_27 : decode cL_isAsked 27 = .ok (.ifCond .eq 18, 3) := by decide +kernel
theorem dL_isAsked_30 : decode cL_isAsked 30 = .ok (.aload 6, 2) := by decide +kernel
theorem dL_isAsked_32 : decode cL_isAsked 32 = .ok (.aload_n 3, 1) := by decide +kernel
theorem dL_isAsked_33 : decode cL_isAsked 33 = .ok (.iload 9, 2) := by decide +kernel
theorem dL_isAsked_35 : decode cL_isAsked 35 = .ok (.invokestatic 78, 3) := by decide +kernel
theorem dL_isAsked_38 : decode cL_isAsked 38 = .ok (.ifCond .ne 7, 3) := by decide +kernel
theorem dL_isAsked_41 : decode cL_isAsked 41 = .ok (.iconst 1, 1) := by decide +kernel
theorem dL_isAsked_42 : decode cL_isAsked 42 = .ok (.goto 4, 3) := by decide +kernel
theorem dL_isAsked_45 : decode cL_isAsked 45 = .ok (.iconst 0, 1) := by decide +kernel
theorem dL_isAsked_46 : decode cL_isAsked 46 = .ok (.istore 11, 2) := by decide +kernel
theorem dL_isAsked_48 : decode cL_isAsked 48 = .ok (.iload 7, 2) := by decide +kernel
theorem dL_isAsked_50 : decode cL_isAsked 50 = .ok (.ifCond .ne 172, 3) := by decide +kernel
theorem dL_isAsked_53 : decode cL_isAsked 53 = .ok (.aload_n 3, 1) := by decide +kernel
theorem dL_isAsked_54 : decode cL_isAsked 54 = .ok (.iconst 4, 1) := by decide +kernel
theorem dL_isAsked_55 : decode cL_isAsked 55 = .ok (.iaload, 1) := by decide +kernel
theorem dL_isAsked_56 : decode cL_isAsked 56 = .ok (.bipush 12, 2) := by decide +kernel
theorem dL_isAsked_58 : decode cL_isAsked 58 = .ok (.if_icmp .ge 164, 3) := by decide +kernel
theorem dL_isAsked_61 : decode cL_isAsked 61 = .ok (.iconst 1, 1) := by decide +kernel
theorem dL_isAsked_62 : decode cL_isAsked 62 = .ok (.iload 8, 2) := by decide +kernel
theorem dL_isAsked_64 : decode cL_isAsked 64 = .ok (.bipush 15, 2) := by decide +kernel
theorem dL_isAsked_66 : decode cL_isAsked 66 = .ok (.idiv, 1) := by decide +kernel
theorem dL_isAsked_67 : decode cL_isAsked 67 = .ok (.iload 8, 2) := by decide +kernel
theorem dL_isAsked_69 : decode cL_isAsked 69 = .ok (.iconst 2, 1) := by decide +kernel
theorem dL_isAsked_70 : decode cL_isAsked 70 = .ok (.irem, 1) := by decide +kernel
theorem dL_isAsked_71 : decode cL_isAsked 71 = .ok (.ifCond .ne 9, 3) := by decide +kernel
theorem dL_isAsked_74 : decode cL_isAsked 74 = .ok (.sipush 600, 3) := by decide +kernel
theorem dL_isAsked_77 : decode cL_isAsked 77 = .ok (.goto 5, 3) := by decide +kernel
theorem dL_isAsked_80 : decode cL_isAsked 80 = .ok (.bipush 30, 2) := by decide +kernel
theorem dL_isAsked_82 : decode cL_isAsked 82 = .ok (.irem, 1) := by decide +kernel
theorem dL_isAsked_83 : decode cL_isAsked 83 = .ok (.iadd, 1) := by decide +kernel
theorem dL_isAsked_84 : decode cL_isAsked 84 = .ok (.istore 12, 2) := by decide +kernel
theorem dL_isAsked_86 : decode cL_isAsked 86 = .ok (.iload 11, 2) := by decide +kernel
theorem dL_isAsked_88 : decode cL_isAsked 88 = .ok (.ifCond .ne 24, 3) := by decide +kernel
theorem dL_isAsked_91 : decode cL_isAsked 91 = .ok (.aload_n 0, 1) := by decide +kernel
theorem dL_isAsked_92 : decode cL_isAsked 92 = .ok (.iload 9, 2) := by decide +kernel
theorem dL_isAsked_94 : decode cL_isAsked 94 = .ok (.iload 10, 2) := by decide +kernel
theorem dL_isAsked_96 : decode cL_isAsked 96 = .ok (.iload 12, 2) := by decide +kernel
theorem dL_isAsked_98 : decode cL_isAsked 98 = .ok (.invokestatic 82, 3) := by decide +kernel
theorem dL_isAsked_101 : decode cL_isAsked 101 = .ok (.bipush (-2), 2) := by decide +kernel
theorem dL_isAsked_103 : decode cL_isAsked 103 = .ok (.if_icmp .ne 7, 3) := by decide +kernel
theorem dL_isAsked_106 : decode cL_isAsked 106 = .ok (.iconst 1, 1) := by decide +kernel
theorem dL_isAsked_107 : decode cL_isAsked 107 = .ok (.goto 4, 3) := by decide +kernel
theorem dL_isAsked_110 : decode cL_isAsked 110 = .ok (.iconst 0, 1) := by decide +kernel
theorem dL_isAsked_111 : decode cL_isAsked 111 = .ok (.ireturn, 1) := by decide +kernel
theorem dL_isAsked_112 : decode cL_isAsked 112 = .ok (.aload 5, 2) := by decide +kernel
theorem dL_isAsked_114 : decode cL_isAsked 114 = .ok (.iconst 5, 1) := by decide +kernel
theorem dL_isAsked_115 : decode cL_isAsked 115 = .ok (.aload_n 3, 1) := by decide +kernel
theorem dL_isAsked_116 : decode cL_isAsked 116 = .ok (.iconst 4, 1) := by decide +kernel
theorem dL_isAsked_117 : decode cL_isAsked 117 = .ok (.iaload, 1) := by decide +kernel
theorem dL_isAsked_118 : decode cL_isAsked 118 = .ok (.imul, 1) := by decide +kernel
theorem dL_isAsked_119 : decode cL_isAsked 119 = .ok (.bipush 8, 2) := by decide +kernel
theorem dL_isAsked_121 : decode cL_isAsked 121 = .ok (.iload 9, 2) := by decide +kernel
theorem dL_isAsked_123 : decode cL_isAsked 123 = .ok (.imul, 1) := by decide +kernel
theorem dL_isAsked_124 : decode cL_isAsked 124 = .ok (.iload 10, 2) := by decide +kernel
theorem dL_isAsked_126 : decode cL_isAsked 126 = .ok (.iadd, 1) := by decide +kernel
theorem dL_isAsked_127 : decode cL_isAsked 127 = .ok (.iastore, 1) := by decide +kernel
theorem dL_isAsked_128 : decode cL_isAsked 128 = .ok (.aload 5, 2) := by decide +kernel
theorem dL_isAsked_130 : decode cL_isAsked 130 = .ok (.iconst 5, 1) := by decide +kernel
theorem dL_isAsked_131 : decode cL_isAsked 131 = .ok (.aload_n 3, 1) := by decide +kernel
theorem dL_isAsked_132 : decode cL_isAsked 132 = .ok (.iconst 4, 1) := by decide +kernel
theorem dL_isAsked_133 : decode cL_isAsked 133 = .ok (.iaload, 1) := by decide +kernel
theorem dL_isAsked_134 : decode cL_isAsked 134 = .ok (.imul, 1) := by decide +kernel
theorem dL_isAsked_135 : decode cL_isAsked 135 = .ok (.iconst 1, 1) := by decide +kernel
theorem dL_isAsked_136 : decode cL_isAsked 136 = .ok (.iadd, 1) := by decide +kernel
theorem dL_isAsked_137 : decode cL_isAsked 137 = .ok (.iload 12, 2) := by decide +kernel
theorem dL_isAsked_139 : decode cL_isAsked 139 = .ok (.iastore, 1) := by decide +kernel
theorem dL_isAsked_140 : decode cL_isAsked 140 = .ok (.aload 5, 2) := by decide +kernel
theorem dL_isAsked_142 : decode cL_isAsked 142 = .ok (.iconst 5, 1) := by decide +kernel
theorem dL_isAsked_143 : decode cL_isAsked 143 = .ok (.aload_n 3, 1) := by decide +kernel
theorem dL_isAsked_144 : decode cL_isAsked 144 = .ok (.iconst 4, 1) := by decide +kernel
theorem dL_isAsked_145 : decode cL_isAsked 145 = .ok (.iaload, 1) := by decide +kernel
theorem dL_isAsked_146 : decode cL_isAsked 146 = .ok (.imul, 1) := by decide +kernel
theorem dL_isAsked_147 : decode cL_isAsked 147 = .ok (.iconst 2, 1) := by decide +kernel
theorem dL_isAsked_148 : decode cL_isAsked 148 = .ok (.iadd, 1) := by decide +kernel
theorem dL_isAsked_149 : decode cL_isAsked 149 = .ok (.aload_n 3, 1) := by decide +kernel
theorem dL_isAsked_150 : decode cL_isAsked 150 = .ok (.iconst 2, 1) := by decide +kernel
theorem dL_isAsked_151 : decode cL_isAsked 151 = .ok (.iaload, 1) := by decide +kernel
theorem dL_isAsked_152 : decode cL_isAsked 152 = .ok (.iastore, 1) := by decide +kernel
theorem dL_isAsked_153 : decode cL_isAsked 153 = .ok (.aload 5, 2) := by decide +kernel
theorem dL_isAsked_155 : decode cL_isAsked 155 = .ok (.iconst 5, 1) := by decide +kernel
theorem dL_isAsked_156 : decode cL_isAsked 156 = .ok (.aload_n 3, 1) := by decide +kernel
theorem dL_isAsked_157 : decode cL_isAsked 157 = .ok (.iconst 4, 1) := by decide +kernel
theorem dL_isAsked_158 : decode cL_isAsked 158 = .ok (.iaload, 1) := by decide +kernel
theorem dL_isAsked_159 : decode cL_isAsked 159 = .ok (.imul, 1) := by decide +kernel
theorem dL_isAsked_160 : decode cL_isAsked 160 = .ok (.iconst 3, 1) := by decide +kernel
theorem dL_isAsked_161 : decode cL_isAsked 161 = .ok (.iadd, 1) := by decide +kernel
theorem dL_isAsked_162 : decode cL_isAsked 162 = .ok (.iconst 0, 1) := by decide +kernel
theorem dL_isAsked_163 : decode cL_isAsked 163 = .ok (.iastore, 1) := by decide +kernel
theorem dL_isAsked_164 : decode cL_isAsked 164 = .ok (.aload 5, 2) := by decide +kernel
theorem dL_isAsked_166 : decode cL_isAsked 166 = .ok (.iconst 5, 1) := by decide +kernel
theorem dL_isAsked_167 : decode cL_isAsked 167 = .ok (.aload_n 3, 1) := by decide +kernel
theorem dL_isAsked_168 : decode cL_isAsked 168 = .ok (.iconst 4, 1) := by decide +kernel
theorem dL_isAsked_169 : decode cL_isAsked 169 = .ok (.iaload, 1) := by decide +kernel
theorem dL_isAsked_170 : decode cL_isAsked 170 = .ok (.imul, 1) := by decide +kernel
theorem dL_isAsked_171 : decode cL_isAsked 171 = .ok (.iconst 4, 1) := by decide +kernel
theorem dL_isAsked_172 : decode cL_isAsked 172 = .ok (.iadd, 1) := by decide +kernel
theorem dL_isAsked_173 : decode cL_isAsked 173 = .ok (.iconst 0, 1) := by decide +kernel
theorem dL_isAsked_174 : decode cL_isAsked 174 = .ok (.iastore, 1) := by decide +kernel
theorem dL_isAsked_175 : decode cL_isAsked 175 = .ok (.aload_n 3, 1) := by decide +kernel
theorem dL_isAsked_176 : decode cL_isAsked 176 = .ok (.iconst 4, 1) := by decide +kernel
theorem dL_isAsked_177 : decode cL_isAsked 177 = .ok (.dup2, 1) := by decide +kernel
theorem dL_isAsked_178 : decode cL_isAsked 178 = .ok (.iaload, 1) := by decide +kernel
theorem dL_isAsked_179 : decode cL_isAsked 179 = .ok (.iconst 1, 1) := by decide +kernel
theorem dL_isAsked_180 : decode cL_isAsked 180 = .ok (.iadd, 1) := by decide +kernel
theorem dL_isAsked_181 : decode cL_isAsked 181 = .ok (.iastore, 1) := by decide +kernel
theorem dL_isAsked_182 : decode cL_isAsked 182 = .ok (.aload_n 0, 1) := by decide +kernel
theorem dL_isAsked_183 : decode cL_isAsked 183 = .ok (.iload 9, 2) := by decide +kernel
theorem dL_isAsked_185 : decode cL_isAsked 185 = .ok (.iload 10, 2) := by decide +kernel
theorem dL_isAsked_187 : decode cL_isAsked 187 = .ok (.iload 12, 2) := by decide +kernel
theorem dL_isAsked_189 : decode cL_isAsked 189 = .ok (.invokestatic 82, 3) := by decide +kernel
theorem dL_isAsked_192 : decode cL_isAsked 192 = .ok (.aload_n 3, 1) := by decide +kernel
theorem dL_isAsked_193 : decode cL_isAsked 193 = .ok (.iconst 4, 1) := by decide +kernel
theorem dL_isAsked_194 : decode cL_isAsked 194 = .ok (.iaload, 1) := by decide +kernel
theorem dL_isAsked_195 : decode cL_isAsked 195 = .ok (.iconst 1, 1) := by decide +kernel
theorem dL_isAsked_196 : decode cL_isAsked 196 = .ok (.isub, 1) := by decide +kernel
theorem dL_isAsked_197 : decode cL_isAsked 197 = .ok (.if_icmp .ne 23, 3) := by decide +kernel
theorem dL_isAsked_200 : decode cL_isAsked 200 = .ok (.aload_n 0, 1) := by decide +kernel
theorem dL_isAsked_201 : decode cL_isAsked 201 = .ok (.aload_n 3, 1) := by decide +kernel
theorem dL_isAsked_202 : decode cL_isAsked 202 = .ok (.iconst 0, 1) := by decide +kernel
theorem dL_isAsked_203 : decode cL_isAsked 203 = .ok (.iload 9, 2) := by decide +kernel
theorem dL_isAsked_205 : decode cL_isAsked 205 = .ok (.iload 10, 2) := by decide +kernel
theorem dL_isAsked_207 : decode cL_isAsked 207 = .ok (.aload_n 3, 1) := by decide +kernel
theorem dL_isAsked_208 : decode cL_isAsked 208 = .ok (.iconst 2, 1) := by decide +kernel
theorem dL_isAsked_209 : decode cL_isAsked 209 = .ok (.iaload, 1) := by decide +kernel
theorem dL_isAsked_210 : decode cL_isAsked 210 = .ok (.invokestatic 38, 3) := by decide +kernel
theorem dL_isAsked_213 : decode cL_isAsked 213 = .ok (.ifCond .eq 7, 3) := by decide +kernel
theorem dL_isAsked_216 : decode cL_isAsked 216 = .ok (.iconst 1, 1) := by decide +kernel
theorem dL_isAsked_217 : decode cL_isAsked 217 = .ok (.goto 4, 3) := by decide +kernel
theorem dL_isAsked_220 : decode cL_isAsked 220 = .ok (.iconst 0, 1) := by decide +kernel
theorem dL_isAsked_221 : decode cL_isAsked 221 = .ok (.ireturn, 1) := by decide +kernel
theorem dL_isAsked_222 : decode cL_isAsked 222 = .ok (.iload 7, 2) := by decide +kernel
theorem dL_isAsked_224 : decode cL_isAsked 224 = .ok (.iconst 1, 1) := by decide +kernel
theorem dL_isAsked_225 : decode cL_isAsked 225 = .ok (.if_icmp .ne 144, 3) := by decide +kernel
theorem dL_isAsked_228 : decode cL_isAsked 228 = .ok (.aload_n 3, 1) := by decide +kernel
theorem dL_isAsked_229 : decode cL_isAsked 229 = .ok (.iconst 5, 1) := by decide +kernel
theorem dL_isAsked_230 : decode cL_isAsked 230 = .ok (.iaload, 1) := by decide +kernel
theorem dL_isAsked_231 : decode cL_isAsked 231 = .ok (.bipush 20, 2) := by decide +kernel
theorem dL_isAsked_233 : decode cL_isAsked 233 = .ok (.if_icmp .ge 136, 3) := by decide +kernel
theorem dL_isAsked_236 : decode cL_isAsked 236 = .ok (.aload_n 3, 1) := by decide +kernel
theorem dL_isAsked_237 : decode cL_isAsked 237 = .ok (.iconst 3, 1) := by decide +kernel
theorem dL_isAsked_238 : decode cL_isAsked 238 = .ok (.iaload, 1) := by decide +kernel
theorem dL_isAsked_239 : decode cL_isAsked 239 = .ok (.bipush 20, 2) := by decide +kernel
theorem dL_isAsked_241 : decode cL_isAsked 241 = .ok (.if_icmp .ge 128, 3) := by decide +kernel
theorem dL_isAsked_244 : decode cL_isAsked 244 = .ok (.iload 11, 2) := by decide +kernel
theorem dL_isAsked_246 : decode cL_isAsked 246 = .ok (.ifCond .ne 22, 3) := by decide +kernel
theorem dL_isAsked_249 : decode cL_isAsked 249 = .ok (.aload_n 0, 1) := by decide +kernel
theorem dL_isAsked_250 : decode cL_isAsked 250 = .ok (.iload 9, 2) := by decide +kernel
theorem dL_isAsked_252 : decode cL_isAsked 252 = .ok (.iload 10, 2) := by decide +kernel
theorem dL_isAsked_254 : decode cL_isAsked 254 = .ok (.invokestatic 86, 3) := by decide +kernel
theorem dL_isAsked_257 : decode cL_isAsked 257 = .ok (.bipush (-2), 2) := by decide +kernel
theorem dL_isAsked_259 : decode cL_isAsked 259 = .ok (.if_icmp .ne 7, 3) := by decide +kernel
theorem dL_isAsked_262 : decode cL_isAsked 262 = .ok (.iconst 1, 1) := by decide +kernel
theorem dL_isAsked_263 : decode cL_isAsked 263 = .ok (.goto 4, 3) := by decide +kernel
theorem dL_isAsked_266 : decode cL_isAsked 266 = .ok (.iconst 0, 1) := by decide +kernel
theorem dL_isAsked_267 : decode cL_isAsked 267 = .ok (.ireturn, 1) := by decide +kernel
theorem dL_isAsked_268 : decode cL_isAsked 268 = .ok (.aload 6, 2) := by decide +kernel
theorem dL_isAsked_270 : decode cL_isAsked 270 = .ok (.iconst 3, 1) := by decide +kernel
theorem dL_isAsked_271 : decode cL_isAsked 271 = .ok (.aload_n 3, 1) := by decide +kernel
theorem dL_isAsked_272 : decode cL_isAsked 272 = .ok (.iconst 5, 1) := by decide +kernel
theorem dL_isAsked_273 : decode cL_isAsked 273 = .ok (.iaload, 1) := by decide +kernel
theorem dL_isAsked_274 : decode cL_isAsked 274 = .ok (.imul, 1) := by decide +kernel
theorem dL_isAsked_275 : decode cL_isAsked 275 = .ok (.bipush 8, 2) := by decide +kernel
theorem dL_isAsked_277 : decode cL_isAsked 277 = .ok (.iload 9, 2) := by decide +kernel
theorem dL_isAsked_279 : decode cL_isAsked 279 = .ok (.imul, 1) := by decide +kernel
theorem dL_isAsked_280 : decode cL_isAsked 280 = .ok (.iload 10, 2) := by decide +kernel
theorem dL_isAsked_282 : decode cL_isAsked 282 = .ok (.iadd, 1) := by decide +kernel
theorem dL_isAsked_283 : decode cL_isAsked 283 = .ok (.iastore, 1) := by decide +kernel
theorem dL_isAsked_284 : decode cL_isAsked 284 = .ok (.aload 6, 2) := by decide +kernel
theorem dL_isAsked_286 : decode cL_isAsked 286 = .ok (.iconst 3, 1) := by decide +kernel
theorem dL_isAsked_287 : decode cL_isAsked 287 = .ok (.aload_n 3, 1) := by decide +kernel
theorem dL_isAsked_288 : decode cL_isAsked 288 = .ok (.iconst 5, 1) := by decide +kernel
theorem dL_isAsked_289 : decode cL_isAsked 289 = .ok (.iaload, 1) := by decide +kernel
theorem dL_isAsked_290 : decode cL_isAsked 290 = .ok (.imul, 1) := by decide +kernel
theorem dL_isAsked_291 : decode cL_isAsked 291 = .ok (.iconst 1, 1) := by decide +kernel
theorem dL_isAsked_292 : decode cL_isAsked 292 = .ok (.iadd, 1) := by decide +kernel
theorem dL_isAsked_293 : decode cL_isAsked 293 = .ok (.aload_n 3, 1) := by decide +kernel
theorem dL_isAsked_294 : decode cL_isAsked 294 = .ok (.iconst 2, 1) := by decide +kernel
theorem dL_isAsked_295 : decode cL_isAsked 295 = .ok (.iaload, 1) := by decide +kernel
theorem dL_isAsked_296 : decode cL_isAsked 296 = .ok (.iastore, 1) := by decide +kernel
theorem dL_isAsked_297 : decode cL_isAsked 297 = .ok (.aload 6, 2) := by decide +kernel
theorem dL_isAsked_299 : decode cL_isAsked 299 = .ok (.iconst 3, 1) := by decide +kernel
theorem dL_isAsked_300 : decode cL_isAsked 300 = .ok (.aload_n 3, 1) := by decide +kernel
theorem dL_isAsked_301 : decode cL_isAsked 301 = .ok (.iconst 5, 1) := by decide +kernel
theorem dL_isAsked_302 : decode cL_isAsked 302 = .ok (.iaload, 1) := by decide +kernel
theorem dL_isAsked_303 : decode cL_isAsked 303 = .ok (.imul, 1) := by decide +kernel
theorem dL_isAsked_304 : decode cL_isAsked 304 = .ok (.iconst 2, 1) := by decide +kernel
theorem dL_isAsked_305 : decode cL_isAsked 305 = .ok (.iadd, 1) := by decide +kernel
theorem dL_isAsked_306 : decode cL_isAsked 306 = .ok (.iconst 0, 1) := by decide +kernel
theorem dL_isAsked_307 : decode cL_isAsked 307 = .ok (.iastore, 1) := by decide +kernel
theorem dL_isAsked_308 : decode cL_isAsked 308 = .ok (.aload_n 3, 1) := by decide +kernel
theorem dL_isAsked_309 : decode cL_isAsked 309 = .ok (.iconst 5, 1) := by decide +kernel
theorem dL_isAsked_310 : decode cL_isAsked 310 = .ok (.dup2, 1) := by decide +kernel
theorem dL_isAsked_311 : decode cL_isAsked 311 = .ok (.iaload, 1) := by decide +kernel
theorem dL_isAsked_312 : decode cL_isAsked 312 = .ok (.iconst 1, 1) := by decide +kernel
theorem dL_isAsked_313 : decode cL_isAsked 313 = .ok (.iadd, 1) := by decide +kernel
theorem dL_isAsked_314 : decode cL_isAsked 314 = .ok (.iastore, 1) := by decide +kernel
theorem dL_isAsked_315 : decode cL_isAsked 315 = .ok (.aload 4, 2) := by decide +kernel
theorem dL_isAsked_317 : decode cL_isAsked 317 = .ok (.aload_n 3, 1) := by decide +kernel
theorem dL_isAsked_318 : decode cL_isAsked 318 = .ok (.bipush 8, 2) := by decide +kernel
theorem dL_isAsked_320 : decode cL_isAsked 320 = .ok (.iload 9, 2) := by decide +kernel
theorem dL_isAsked_322 : decode cL_isAsked 322 = .ok (.imul, 1) := by decide +kernel
theorem dL_isAsked_323 : decode cL_isAsked 323 = .ok (.iload 10, 2) := by decide +kernel
theorem dL_isAsked_325 : decode cL_isAsked 325 = .ok (.iadd, 1) := by decide +kernel
theorem dL_isAsked_326 : decode cL_isAsked 326 = .ok (.bipush 30, 2) := by decide +kernel
theorem dL_isAsked_328 : decode cL_isAsked 328 = .ok (.invokestatic 90, 3) := by decide +kernel
theorem dL_isAsked_331 : decode cL_isAsked 331 = .ok (.aload_n 0, 1) := by decide +kernel
theorem dL_isAsked_332 : decode cL_isAsked 332 = .ok (.iload 9, 2) := by decide +kernel
theorem dL_isAsked_334 : decode cL_isAsked 334 = .ok (.iload 10, 2) := by decide +kernel
theorem dL_isAsked_336 : decode cL_isAsked 336 = .ok (.invokestatic 86, 3) := by decide +kernel
theorem dL_isAsked_339 : decode cL_isAsked 339 = .ok (.aload_n 3, 1) := by decide +kernel
theorem dL_isAsked_340 : decode cL_isAsked 340 = .ok (.iconst 5, 1) := by decide +kernel
theorem dL_isAsked_341 : decode cL_isAsked 341 = .ok (.iaload, 1) := by decide +kernel
theorem dL_isAsked_342 : decode cL_isAsked 342 = .ok (.iconst 1, 1) := by decide +kernel
theorem dL_isAsked_343 : decode cL_isAsked 343 = .ok (.isub, 1) := by decide +kernel
theorem dL_isAsked_344 : decode cL_isAsked 344 = .ok (.if_icmp .ne 23, 3) := by decide +kernel
theorem dL_isAsked_347 : decode cL_isAsked 347 = .ok (.aload_n 0, 1) := by decide +kernel
theorem dL_isAsked_348 : decode cL_isAsked 348 = .ok (.aload_n 3, 1) := by decide +kernel
theorem dL_isAsked_349 : decode cL_isAsked 349 = .ok (.iconst 3, 1) := by decide +kernel
theorem dL_isAsked_350 : decode cL_isAsked 350 = .ok (.iload 9, 2) := by decide +kernel
theorem dL_isAsked_352 : decode cL_isAsked 352 = .ok (.iload 10, 2) := by decide +kernel
theorem dL_isAsked_354 : decode cL_isAsked 354 = .ok (.aload_n 3, 1) := by decide +kernel
theorem dL_isAsked_355 : decode cL_isAsked 355 = .ok (.iconst 2, 1) := by decide +kernel
theorem dL_isAsked_356 : decode cL_isAsked 356 = .ok (.iaload, 1) := by decide +kernel
theorem dL_isAsked_357 : decode cL_isAsked 357 = .ok (.invokestatic 38, 3) := by decide +kernel
theorem dL_isAsked_360 : decode cL_isAsked 360 = .ok (.ifCond .eq 7, 3) := by decide +kernel
theorem dL_isAsked_363 : decode cL_isAsked 363 = .ok (.iconst 1, 1) := by decide +kernel
theorem dL_isAsked_364 : decode cL_isAsked 364 = .ok (.goto 4, 3) := by decide +kernel
theorem dL_isAsked_367 : decode cL_isAsked 367 = .ok (.iconst 0, 1) := by decide +kernel
theorem dL_isAsked_368 : decode cL_isAsked 368 = .ok (.ireturn, 1) := by decide +kernel
theorem dL_isAsked_369 : decode cL_isAsked 369 = .ok (.iload 7, 2) := by decide +kernel
theorem dL_isAsked_371 : decode cL_isAsked 371 = .ok (.iconst 2, 1) := by decide +kernel
theorem dL_isAsked_372 : decode cL_isAsked 372 = .ok (.if_icmp .ne 157, 3) := by decide +kernel
theorem dL_isAsked_375 : decode cL_isAsked 375 = .ok (.aload_n 3, 1) := by decide +kernel
theorem dL_isAsked_376 : decode cL_isAsked 376 = .ok (.iconst 5, 1) := by decide +kernel
theorem dL_isAsked_377 : decode cL_isAsked 377 = .ok (.iaload, 1) := by decide +kernel
theorem dL_isAsked_378 : decode cL_isAsked 378 = .ok (.ifCond .le 151, 3) := by decide +kernel
theorem dL_isAsked_381 : decode cL_isAsked 381 = .ok (.iload 8, 2) := by decide +kernel
theorem dL_isAsked_383 : decode cL_isAsked 383 = .ok (.iconst 5, 1) := by decide +kernel
theorem dL_isAsked_384 : decode cL_isAsked 384 = .ok (.idiv, 1) := by decide +kernel
theorem dL_isAsked_385 : decode cL_isAsked 385 = .ok (.aload_n 3, 1) := by decide +kernel
theorem dL_isAsked_386 : decode cL_isAsked 386 = .ok (.iconst 5, 1) := by decide +kernel
theorem dL_isAsked_387 : decode cL_isAsked 387 = .ok (.iaload, 1) := by decide +kernel
theorem dL_isAsked_388 : decode cL_isAsked 388 = .ok (.irem, 1) := by decide +kernel
theorem dL_isAsked_389 : decode cL_isAsked 389 = .ok (.istore 12, 2) := by decide +kernel
theorem dL_isAsked_391 : decode cL_isAsked 391 = .ok (.aload 6, 2) := by decide +kernel
theorem dL_isAsked_393 : decode cL_isAsked 393 = .ok (.iconst 3, 1) := by decide +kernel
theorem dL_isAsked_394 : decode cL_isAsked 394 = .ok (.iload 12, 2) := by decide +kernel
theorem dL_isAsked_396 : decode cL_isAsked 396 = .ok (.imul, 1) := by decide +kernel
theorem dL_isAsked_397 : decode cL_isAsked 397 = .ok (.iconst 2, 1) := by decide +kernel
theorem dL_isAsked_398 : decode cL_isAsked 398 = .ok (.iadd, 1) := by decide +kernel
theorem dL_isAsked_399 : decode cL_isAsked 399 = .ok (.iaload, 1) := by decide +kernel
theorem dL_isAsked_400 : decode cL_isAsked 400 = .ok (.ifCond .ne 30, 3) := by decide +kernel
theorem dL_isAsked_403 : decode cL_isAsked 403 = .ok (.aload_n 1, 1) := by decide +kernel
theorem dL_isAsked_404 : decode cL_isAsked 404 = .ok (.iconst 2, 1) := by decide +kernel
theorem dL_isAsked_405 : decode cL_isAsked 405 = .ok (.iload 9, 2) := by decide +kernel
theorem dL_isAsked_407 : decode cL_isAsked 407 = .ok (.imul, 1) := by decide +kernel
theorem dL_isAsked_408 : decode cL_isAsked 408 = .ok (.iaload, 1) := by decide +kernel
theorem dL_isAsked_409 : decode cL_isAsked 409 = .ok (.aload_n 1, 1) := by decide +kernel
theorem dL_isAsked_410 : decode cL_isAsked 410 = .ok (.iconst 2, 1) := by decide +kernel
theorem dL_isAsked_411 : decode cL_isAsked 411 = .ok (.aload 6, 2) := by decide +kernel
theorem dL_isAsked_413 : decode cL_isAsked 413 = .ok (.iconst 3, 1) := by decide +kernel
theorem dL_isAsked_414 : decode cL_isAsked 414 = .ok (.iload 12, 2) := by decide +kernel
theorem dL_isAsked_416 : decode cL_isAsked 416 = .ok (.imul, 1) := by decide +kernel
theorem dL_isAsked_417 : decode cL_isAsked 417 = .ok (.iaload, 1) := by decide +kernel
theorem dL_isAsked_418 : decode cL_isAsked 418 = .ok (.bipush 8, 2) := by decide +kernel
theorem dL_isAsked_420 : decode cL_isAsked 420 = .ok (.idiv, 1) := by decide +kernel
theorem dL_isAsked_421 : decode cL_isAsked 421 = .ok (.imul, 1) := by decide +kernel
theorem dL_isAsked_422 : decode cL_isAsked 422 = .ok (.iaload, 1) := by decide +kernel
