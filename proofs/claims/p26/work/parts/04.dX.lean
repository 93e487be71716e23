theorem dX0_init_0 : decode cX0_init 0 = .ok (.aload_n 0, 1) := by decide +kernel
theorem dX0_init_1 : decode cX0_init 1 = .ok (.invokespecial 3, 3) := by decide +kernel
theorem dX0_init_4 : decode cX0_init 4 = .ok (.aload_n 0, 1) := by decide +kernel
theorem dX0_init_5 : decode cX0_init 5 = .ok (.aconst_null, 1) := by decide +kernel
theorem dX0_init_6 : decode cX0_init 6 = .ok (.putfield 9, 3) := by decide +kernel
theorem dX0_init_9 : decode cX0_init 9 = .ok (.aload_n 0, 1) := by decide +kernel
theorem dX0_init_10 : decode cX0_init 10 = .ok (.iconst 0, 1) := by decide +kernel
theorem dX0_init_11 : decode cX0_init 11 = .ok (.putfield 15, 3) := by decide +kernel
theorem dX0_init_14 : decode cX0_init 14 = .ok (.aload_n 0, 1) := by decide +kernel
theorem dX0_init_15 : decode cX0_init 15 = .ok (.aload_n 1, 1) := by decide +kernel
theorem dX0_init_16 : decode cX0_init 16 = .ok (.putfield 19, 3) := by decide +kernel
theorem dX0_init_19 : decode cX0_init 19 = .ok (.aload_n 0, 1) := by decide +kernel
theorem dX0_init_20 : decode cX0_init 20 = .ok (.aload_n 2, 1) := by decide +kernel
theorem dX0_init_21 : decode cX0_init 21 = .ok (.putfield 22, 3) := by decide +kernel
theorem dX0_init_24 : decode cX0_init 24 = .ok (.aload_n 0, 1) := by decide +kernel
theorem dX0_init_25 : decode cX0_init 25 = .ok (.iload_n 3, 1) := by decide +kernel
theorem dX0_init_26 : decode cX0_init 26 = .ok (.putfield 26, 3) := by decide +kernel
theorem dX0_init_29 : decode cX0_init 29 = .ok (.aload_n 0, 1) := by decide +kernel
theorem dX0_init_30 : decode cX0_init 30 = .ok (.iload 4, 2) := by decide +kernel
theorem dX0_init_32 : decode cX0_init 32 = .ok (.putfield 29, 3) := by decide +kernel
theorem dX0_init_35 : decode cX0_init 35 = .ok (.return_, 1) := by decide +kernel
theorem dX0_stateAt_0 : decode cX0_stateAt 0 = .ok (.aload_n 0, 1) := by decide +kernel
theorem dX0_stateAt_1 : decode cX0_stateAt 1 = .ok (.getfield 15, 3) := by decide +kernel
theorem dX0_stateAt_4 : decode cX0_stateAt 4 = .ok (.ifCond .ne 18, 3) := by decide +kernel
theorem dX0_stateAt_7 : decode cX0_stateAt 7 = .ok (.iload_n 1, 1) := by decide +kernel
theorem dX0_stateAt_8 : decode cX0_stateAt 8 = .ok (.aload_n 0, 1) := by decide +kernel
theorem dX0_stateAt_9 : decode cX0_stateAt 9 = .ok (.getfield 29, 3) := by decide +kernel
theorem dX0_stateAt_12 : decode cX0_stateAt 12 = .ok (.isub, 1) := by decide +kernel
theorem dX0_stateAt_13 : decode cX0_stateAt 13 = .ok (.bipush 60, 2) := by decide +kernel
theorem dX0_stateAt_15 : decode cX0_stateAt 15 = .ok (.if_icmp .lt 7, 3) := by decide +kernel
theorem dX0_stateAt_18 : decode cX0_stateAt 18 = .ok (.iconst 3, 1) := by decide +kernel
theorem dX0_stateAt_19 : decode cX0_stateAt 19 = .ok (.goto 7, 3) := by decide +kernel
theorem dX0_stateAt_22 : decode cX0_stateAt 22 = .ok (.aload_n 0, 1) := by decide +kernel
theorem dX0_stateAt_23 : decode cX0_stateAt 23 = .ok (.getfield 15, 3) := by decide +kernel
theorem dX0_stateAt_26 : decode cX0_stateAt 26 = .ok (.ireturn, 1) := by decide +kernel
theorem dX1_init_0 : decode cX1_init 0 = .ok (.aload_n 0, 1) := by decide +kernel
theorem dX1_init_1 : decode cX1_init 1 = .ok (.invokespecial 3, 3) := by decide +kernel
theorem dX1_init_4 : decode cX1_init 4 = .ok (.aload_n 0, 1) := by decide +kernel
theorem dX1_init_5 : decode cX1_init 5 = .ok (.iconst 0, 1) := by decide +kernel
theorem dX1_init_6 : decode cX1_init 6 = .ok (.putfield 9, 3) := by decide +kernel
theorem dX1_init_9 : decode cX1_init 9 = .ok (.aload_n 0, 1) := by decide +kernel
theorem dX1_init_10 : decode cX1_init 10 = .ok (.aload_n 1, 1) := by decide +kernel
theorem dX1_init_11 : decode cX1_init 11 = .ok (.putfield 15, 3) := by decide +kernel
theorem dX1_init_14 : decode cX1_init 14 = .ok (.aload_n 0, 1) := by decide +kernel
theorem dX1_init_15 : decode cX1_init 15 = .ok (.aload_n 2, 1) := by decide +kernel
theorem dX1_init_16 : decode cX1_init 16 = .ok (.putfield 19, 3) := by decide +kernel
theorem dX1_init_19 : decode cX1_init 19 = .ok (.aload_n 0, 1) := by decide +kernel
theorem dX1_init_20 : decode cX1_init 20 = .ok (.iload_n 3, 1) := by decide +kernel
theorem dX1_init_21 : decode cX1_init 21 = .ok (.putfield 23, 3) := by decide +kernel
theorem dX1_init_24 : decode cX1_init 24 = .ok (.return_, 1) := by decide +kernel
theorem dX1_isOverdueAt_0 : decode cX1_isOverdueAt 0 = .ok (.aload_n 0, 1) := by decide +kernel
theorem dX1_isOverdueAt_1 : decode cX1_isOverdueAt 1 = .ok (.getfield 9, 3) := by decide +kernel
theorem dX1_isOverdueAt_4 : decode cX1_isOverdueAt 4 = .ok (.ifCond .ne 19, 3) := by decide +kernel
theorem dX1_isOverdueAt_7 : decode cX1_isOverdueAt 7 = .ok (.iload_n 1, 1) := by decide +kernel
theorem dX1_isOverdueAt_8 : decode cX1_isOverdueAt 8 = .ok (.aload_n 0, 1) := by decide +kernel
theorem dX1_isOverdueAt_9 : decode cX1_isOverdueAt 9 = .ok (.getfield 23, 3) := by decide +kernel
theorem dX1_isOverdueAt_12 : decode cX1_isOverdueAt 12 = .ok (.isub, 1) := by decide +kernel
theorem dX1_isOverdueAt_13 : decode cX1_isOverdueAt 13 = .ok (.sipush 1440, 3) := by decide +kernel
theorem dX1_isOverdueAt_16 : decode cX1_isOverdueAt 16 = .ok (.if_icmp .lt 7, 3) := by decide +kernel
theorem dX1_isOverdueAt_19 : decode cX1_isOverdueAt 19 = .ok (.iconst 1, 1) := by decide +kernel
theorem dX1_isOverdueAt_20 : decode cX1_isOverdueAt 20 = .ok (.goto 4, 3) := by decide +kernel
theorem dX1_isOverdueAt_23 : decode cX1_isOverdueAt 23 = .ok (.iconst 0, 1) := by decide +kernel
theorem dX1_isOverdueAt_24 : decode cX1_isOverdueAt 24 = .ok (.ireturn, 1) := by decide +kernel
theorem dX2_init_0 : decode cX2_init 0 = .ok (.aload_n 0, 1) := by decide +kernel
theorem dX2_init_1 : decode cX2_init 1 = .ok (.invokespecial 1, 3) := by decide +kernel
theorem dX2_init_4 : decode cX2_init 4 = .ok (.aload_n 0, 1) := by decide +kernel
theorem dX2_init_5 : decode cX2_init 5 = .ok (.iload_n 1, 1) := by decide +kernel
theorem dX2_init_6 : decode cX2_init 6 = .ok (.putfield 7, 3) := by decide +kernel
theorem dX2_init_9 : decode cX2_init 9 = .ok (.aload_n 0, 1) := by decide +kernel
theorem dX2_init_10 : decode cX2_init 10 = .ok (.iload_n 2, 1) := by decide +kernel
theorem dX2_init_11 : decode cX2_init 11 = .ok (.putfield 13, 3) := by decide +kernel
theorem dX2_init_14 : decode cX2_init 14 = .ok (.return_, 1) := by decide +kernel
theorem dX3_init_0 : decode cX3_init 0 = .ok (.aload_n 0, 1) := by decide +kernel
theorem dX3_init_1 : decode cX3_init 1 = .ok (.invokespecial 1, 3) := by decide +kernel
theorem dX3_init_4 : decode cX3_init 4 = .ok (.aload_n 0, 1) := by decide +kernel
theorem dX3_init_5 : decode cX3_init 5 = .ok (.iconst 0, 1) := by decide +kernel
theorem dX3_init_6 : decode cX3_init 6 = .ok (.putfield 7, 3) := by decide +kernel
theorem dX3_init_9 : decode cX3_init 9 = .ok (.aload_n 0, 1) := by decide +kernel
theorem dX3_init_10 : decode cX3_init 10 = .ok (.iload_n 1, 1) := by decide +kernel
theorem dX3_init_11 : decode cX3_init 11 = .ok (.putfield 13, 3) := by decide +kernel
theorem dX3_init_14 : decode cX3_init 14 = .ok (.aload_n 0, 1) := by decide +kernel
theorem dX3_init_15 : decode cX3_init 15 = .ok (.iload_n 2, 1) := by decide +kernel
theorem dX3_init_16 : decode cX3_init 16 = .ok (.putfield 16, 3) := by decide +kernel
theorem dX3_init_19 : decode cX3_init 19 = .ok (.return_, 1) := by decide +kernel
theorem dX3_hasLabel_0 : decode cX3_hasLabel 0 = .ok (.aload_n 0, 1) := by decide +kernel
theorem dX3_hasLabel_1 : decode cX3_hasLabel 1 = .ok (.getfield 7, 3) := by decide +kernel
theorem dX3_hasLabel_4 : decode cX3_hasLabel 4 = .ok (.iload_n 1, 1) := by decide +kernel
theorem dX3_hasLabel_5 : decode cX3_hasLabel 5 = .ok (.ishr, 1) := by decide +kernel
theorem dX3_hasLabel_6 : decode cX3_hasLabel 6 = .ok (.iconst 1, 1) := by decide +kernel
theorem dX3_hasLabel_7 : decode cX3_hasLabel 7 = .ok (.iand, 1) := by decide +kernel
theorem dX3_hasLabel_8 : decode cX3_hasLabel 8 = .ok (.iconst 1, 1) := by decide +kernel
theorem dX3_hasLabel_9 : decode cX3_hasLabel 9 = .ok (.if_icmp .ne 7, 3) := by decide +kernel
theorem dX3_hasLabel_12 : decode cX3_hasLabel 12 = .ok (.iconst 1, 1) := by decide +kernel
theorem dX3_hasLabel_13 : decode cX3_hasLabel 13 = .ok (.goto 4, 3) := by decide +kernel
theorem dX3_hasLabel_16 : decode cX3_hasLabel 16 = .ok (.iconst 0, 1) := by decide +kernel
theorem dX3_hasLabel_17 : decode cX3_hasLabel 17 = .ok (.ireturn, 1) := by decide +kernel
theorem dX3_keepLabel_0 : decode cX3_keepLabel 0 = .ok (.iconst 1, 1) := by decide +kernel
theorem dX3_keepLabel_1 : decode cX3_keepLabel 1 = .ok (.iload_n 1, 1) := by decide +kernel
theorem dX3_keepLabel_2 : decode cX3_keepLabel 2 = .ok (.ishl, 1) := by decide +kernel
theorem dX3_keepLabel_3 : decode cX3_keepLabel 3 = .ok (.istore_n 3, 1) := by decide +kernel
theorem dX3_keepLabel_4 : decode cX3_keepLabel 4 = .ok (.aload_n 0, 1) := by decide +kernel
theorem dX3_keepLabel_5 : decode cX3_keepLabel 5 = .ok (.iload_n 2, 1) := by decide +kernel
theorem dX3_keepLabel_6 : decode cX3_keepLabel 6 = .ok (.ifCond .eq 12, 3) := by decide +kernel
theorem dX3_keepLabel_9 : decode cX3_keepLabel 9 = .ok (.aload_n 0, 1) := by decide +kernel
theorem dX3_keepLabel_10 : decode cX3_keepLabel 10 = .ok (.getfield 7, 3) := by decide +kernel
theorem dX3_keepLabel_13 : decode cX3_keepLabel 13 = .ok (.iload_n 3, 1) := by decide +kernel
theorem dX3_keepLabel_14 : decode cX3_keepLabel 14 = .ok (.ior, 1) := by decide +kernel
theorem dX3_keepLabel_15 : decode cX3_keepLabel 15 = .ok (.goto 11, 3) := by decide +kernel
theorem dX3_keepLabel_18 : decode cX3_keepLabel 18 = .ok (.aload_n 0, 1) := by decide +kernel
theorem dX3_keepLabel_19 : decode cX3_keepLabel 19 = .ok (.getfield 7, 3) := by decide +kernel
theorem dX3_keepLabel_22 : decode cX3_keepLabel 22 = .ok (.iload_n 3, 1) := by decide +kernel
theorem dX3_keepLabel_23 : decode cX3_keepLabel 23 = .ok (.iconst (-1), 1) := by decide +kernel
theorem dX3_keepLabel_24 : decode cX3_keepLabel 24 = .ok (.ixor, 1) := by decide +kernel
theorem dX3_keepLabel_25 : decode cX3_keepLabel 25 = .ok (.iand, 1) := by decide +kernel
theorem dX3_keepLabel_26 : decode cX3_keepLabel 26 = .ok (.putfield 7, 3) := by decide +kernel
theorem dX3_keepLabel_29 : decode cX3_keepLabel 29 = .ok (.return_, 1) := by decide +kernel
theorem dX3_mayJudge_0 : decode cX3_mayJudge 0 = .ok (.aload_n 0, 1) := by decide +kernel
theorem dX3_mayJudge_1 : decode cX3_mayJudge 1 = .ok (.getfield 16, 3) := by decide +kernel
theorem dX3_mayJudge_4 : decode cX3_mayJudge 4 = .ok (.aload_n 1, 1) := by decide +kernel
theorem dX3_mayJudge_5 : decode cX3_mayJudge 5 = .ok (.getfield 16, 3) := by decide +kernel
theorem dX3_mayJudge_8 : decode cX3_mayJudge 8 = .ok (.if_icmp .eq 18, 3) := by decide +kernel
theorem dX3_mayJudge_11 : decode cX3_mayJudge 11 = .ok (.aload_n 0, 1) := by decide +kernel
theorem dX3_mayJudge_12 : decode cX3_mayJudge 12 = .ok (.aload_n 2, 1) := by decide +kernel
theorem dX3_mayJudge_13 : decode cX3_mayJudge 13 = .ok (.getfield 19, 3) := by decide +kernel
theorem dX3_mayJudge_16 : decode cX3_mayJudge 16 = .ok (.invokevirtual 24, 3) := by decide +kernel
theorem dX3_mayJudge_19 : decode cX3_mayJudge 19 = .ok (.ifCond .eq 7, 3) := by decide +kernel
theorem dX3_mayJudge_22 : decode cX3_mayJudge 22 = .ok (.iconst 1, 1) := by decide +kernel
theorem dX3_mayJudge_23 : decode cX3_mayJudge 23 = .ok (.goto 4, 3) := by decide +kernel
theorem dX3_mayJudge_26 : decode cX3_mayJudge 26 = .ok (.iconst 0, 1) := by decide +kernel
theorem dX3_mayJudge_27 : decode cX3_mayJudge 27 = .ok (.ireturn, 1) := by decide +kernel
theorem dX4_init_0 : decode cX4_init 0 = .ok (.aload_n 0, 1) := by decide +kernel
theorem dX4_init_1 : decode cX4_init 1 = .ok (.invokespecial 1, 3) := by decide +kernel
theorem dX4_init_4 : decode cX4_init 4 = .ok (.aload_n 0, 1) := by decide +kernel
theorem dX4_init_5 : decode cX4_init 5 = .ok (.aload_n 1, 1) := by decide +kernel
theorem dX4_init_6 : decode cX4_init 6 = .ok (.putfield 7, 3) := by decide +kernel
theorem dX4_init_9 : decode cX4_init 9 = .ok (.aload_n 0, 1) := by decide +kernel
theorem dX4_init_10 : decode cX4_init 10 = .ok (.aload_n 2, 1) := by decide +kernel
theorem dX4_init_11 : decode cX4_init 11 = .ok (.putfield 13, 3) := by decide +kernel
theorem dX4_init_14 : decode cX4_init 14 = .ok (.aload_n 0, 1) := by decide +kernel
theorem dX4_init_15 : decode cX4_init 15 = .ok (.iload_n 3, 1) := by decide +kernel
theorem dX4_init_16 : decode cX4_init 16 = .ok (.putfield 17, 3) := by decide +kernel
theorem dX4_init_19 : decode cX4_init 19 = .ok (.aload_n 0, 1) := by decide +kernel
theorem dX4_init_20 : decode cX4_init 20 = .ok (.iload 4, 2) := by decide +kernel
theorem dX4_init_22 : decode cX4_init 22 = .ok (.putfield 21, 3) := by decide +kernel
theorem dX4_init_25 : decode cX4_init 25 = .ok (.return_, 1) := by decide +kernel
theorem dX4_holdsAt_0 : decode cX4_holdsAt 0 = .ok (.aload_n 0, 1) := by decide +kernel
theorem dX4_holdsAt_1 : decode cX4_holdsAt 1 = .ok (.getfield 17, 3) := by decide +kernel
theorem dX4_holdsAt_4 : decode cX4_holdsAt 4 = .ok (.iload_n 1, 1) := by decide +kernel
theorem dX4_holdsAt_5 : decode cX4_holdsAt 5 = .ok (.if_icmp .gt 15, 3) := by decide +kernel
theorem dX4_holdsAt_8 : decode cX4_holdsAt 8 = .ok (.iload_n 1, 1) := by decide +kernel
theorem dX4_holdsAt_9 : decode cX4_holdsAt 9 = .ok (.aload_n 0, 1) := by decide +kernel
theorem dX4_holdsAt_10 : decode cX4_holdsAt 10 = .ok (.getfield 21, 3) := by decide +kernel
theorem dX4_holdsAt_13 : decode cX4_holdsAt 13 = .ok (.if_icmp .ge 7, 3) := by decide +kernel
theorem dX4_holdsAt_16 : decode cX4_holdsAt 16 = .ok (.iconst 1, 1) := by decide +kernel
theorem dX4_holdsAt_17 : decode cX4_holdsAt 17 = .ok (.goto 4, 3) := by decide +kernel
theorem dX4_holdsAt_20 : decode cX4_holdsAt 20 = .ok (.iconst 0, 1) := by decide +kernel
theorem dX4_holdsAt_21 : decode cX4_holdsAt 21 = .ok (.ireturn, 1) := by decide +kernel
theorem dX5_init_0 : decode cX5_init 0 = .ok (.aload_n 0, 1) := by decide +kernel
theorem dX5_init_1 : decode cX5_init 1 = .ok (.invokespecial 3, 3) := by decide +kernel
theorem dX5_init_4 : decode cX5_init 4 = .ok (.aload_n 0, 1) := by decide +kernel
theorem dX5_init_5 : decode cX5_init 5 = .ok (.iconst 0, 1) := by decide +kernel
theorem dX5_init_6 : decode cX5_init 6 = .ok (.putfield 9, 3) := by decide +kernel
theorem dX5_init_9 : decode cX5_init 9 = .ok (.aload_n 0, 1) := by decide +kernel
theorem dX5_init_10 : decode cX5_init 10 = .ok (.iconst (-1), 1) := by decide +kernel
theorem dX5_init_11 : decode cX5_init 11 = .ok (.putfield 15, 3) := by decide +kernel
theorem dX5_init_14 : decode cX5_init 14 = .ok (.aload_n 0, 1) := by decide +kernel
theorem dX5_init_15 : decode cX5_init 15 = .ok (.iconst 0, 1) := by decide +kernel
theorem dX5_init_16 : decode cX5_init 16 = .ok (.putfield 19, 3) := by decide +kernel
theorem dX5_init_19 : decode cX5_init 19 = .ok (.aload_n 0, 1) := by decide +kernel
theorem dX5_init_20 : decode cX5_init 20 = .ok (.aload_n 1, 1) := by decide +kernel
theorem dX5_init_21 : decode cX5_init 21 = .ok (.putfield 22, 3) := by decide +kernel
theorem dX5_init_24 : decode cX5_init 24 = .ok (.aload_n 0, 1) := by decide +kernel
theorem dX5_init_25 : decode cX5_init 25 = .ok (.aload_n 2, 1) := by decide +kernel
theorem dX5_init_26 : decode cX5_init 26 = .ok (.putfield 26, 3) := by decide +kernel
theorem dX5_init_29 : decode cX5_init 29 = .ok (.aload_n 0, 1) := by decide +kernel
theorem dX5_init_30 : decode cX5_init 30 = .ok (.iload_n 3, 1) := by decide +kernel
theorem dX5_init_31 : decode cX5_init 31 = .ok (.putfield 30, 3) := by decide +kernel
theorem dX5_init_34 : decode cX5_init 34 = .ok (.return_, 1) := by decide +kernel
theorem dX5_holdsLine_0 : decode cX5_holdsLine 0 = .ok (.aload_n 0, 1) := by decide +kernel
theorem dX5_holdsLine_1 : decode cX5_holdsLine 1 = .ok (.getfield 15, 3) := by decide +kernel
theorem dX5_holdsLine_4 : decode cX5_holdsLine 4 = .ok (.iconst (-1), 1) := by decide +kernel
theorem dX5_holdsLine_5 : decode cX5_holdsLine 5 = .ok (.if_icmp .eq 7, 3) := by decide +kernel
theorem dX5_holdsLine_8 : decode cX5_holdsLine 8 = .ok (.iconst 1, 1) := by decide +kernel
theorem dX5_holdsLine_9 : decode cX5_holdsLine 9 = .ok (.goto 4, 3) := by decide +kernel
theorem dX5_holdsLine_12 : decode cX5_holdsLine 12 = .ok (.iconst 0, 1) := by decide +kernel
theorem dX5_holdsLine_13 : decode cX5_holdsLine 13 = .ok (.ireturn, 1) := by decide +kernel
theorem dX5_restsAt_0 : decode cX5_restsAt 0 = .ok (.iload_n 1, 1) := by decide +kernel
theorem dX5_restsAt_1 : decode cX5_restsAt 1 = .ok (.aload_n 0, 1) := by decide +kernel
theorem dX5_restsAt_2 : decode cX5_restsAt 2 = .ok (.getfield 30, 3) := by decide +kernel
theorem dX5_restsAt_5 : decode cX5_restsAt 5 = .ok (.isub, 1) := by decide +kernel
theorem dX5_restsAt_6 : decode cX5_restsAt 6 = .ok (.bipush 15, 2) := by decide +kernel
theorem dX5_restsAt_8 : decode cX5_restsAt 8 = .ok (.if_icmp .lt 7, 3) := by decide +kernel
theorem dX5_restsAt_11 : decode cX5_restsAt 11 = .ok (.iconst 1, 1) := by decide +kernel
theorem dX5_restsAt_12 : decode cX5_restsAt 12 = .ok (.goto 4, 3) := by decide +kernel
theorem dX5_restsAt_15 : decode cX5_restsAt 15 = .ok (.iconst 0, 1) := by decide +kernel
theorem dX5_restsAt_16 : decode cX5_restsAt 16 = .ok (.ireturn, 1) := by decide +kernel
theorem dX6_init_0 : decode cX6_init 0 = .ok (.aload_n 0, 1) := by decide +kernel
theorem dX6_init_1 : decode cX6_init 1 = .ok (.invokespecial 3, 3) := by decide +kernel
theorem dX6_init_4 : decode cX6_init 4 = .ok (.aload_n 0, 1) := by decide +kernel
theorem dX6_init_5 : decode cX6_init 5 = .ok (.sipush 1024, 3) := by decide +kernel
theorem dX6_init_8 : decode cX6_init 8 = .ok (.newarray .int, 2) := by decide +kernel
theorem dX6_init_10 : decode cX6_init 10 = .ok (.putfield 9, 3) := by decide +kernel
theorem dX6_init_13 : decode cX6_init 13 = .ok (.aload_n 0, 1) := by decide +kernel
theorem dX6_init_14 : decode cX6_init 14 = .ok (.sipush 1024, 3) := by decide +kernel
theorem dX6_init_17 : decode cX6_init 17 = .ok (.newarray .int, 2) := by decide +kernel
theorem dX6_init_19 : decode cX6_init 19 = .ok (.putfield 15, 3) := by decide +kernel
theorem dX6_init_22 : decode cX6_init 22 = .ok (.aload_n 0, 1) := by decide +kernel
theorem dX6_init_23 : decode cX6_init 23 = .ok (.iconst 0, 1) := by decide +kernel
theorem dX6_init_24 : decode cX6_init 24 = .ok (.putfield 18, 3) := by decide +kernel
theorem dX6_init_27 : decode cX6_init 27 = .ok (.aload_n 0, 1) := by decide +kernel
theorem dX6_init_28 : decode cX6_init 28 = .ok (.iconst 1, 1) := by decide +kernel
theorem dX6_init_29 : decode cX6_init 29 = .ok (.putfield 22, 3) := by decide +kernel
theorem dX6_init_32 : decode cX6_init 32 = .ok (.return_, 1) := by decide +kernel
theorem dX6_add_0 : decode cX6_add 0 = .ok (.aload_n 0, 1) := by decide +kernel
theorem dX6_add_1 : decode cX6_add 1 = .ok (.getfield 18, 3) := by decide +kernel
theorem dX6_add_4 : decode cX6_add 4 = .ok (.sipush 1024, 3) := by decide +kernel
theorem dX6_add_7 : decode cX6_add 7 = .ok (.if_icmp .lt 4, 3) := by decide +kernel
theorem dX6_add_10 : decode cX6_add 10 = .ok (.return_, 1) := by decide +kernel
theorem dX6_add_11 : decode cX6_add 11 = .ok (.aload_n 0, 1) := by decide +kernel
theorem dX6_add_12 : decode cX6_add 12 = .ok (.bipush 31, 2) := by decide +kernel
theorem dX6_add_14 : decode cX6_add 14 = .ok (.aload_n 0, 1) := by decide +kernel
theorem dX6_add_15 : decode cX6_add 15 = .ok (.getfield 22, 3) := by decide +kernel
theorem dX6_add_18 : decode cX6_add 18 = .ok (.imul, 1) := by decide +kernel
theorem dX6_add_19 : decode cX6_add 19 = .ok (.iload_n 1, 1) := by decide +kernel
theorem dX6_add_20 : decode cX6_add 20 = .ok (.iadd, 1) := by decide +kernel
theorem dX6_add_21 : decode cX6_add 21 = .ok (.bipush 10, 2) := by decide +kernel
theorem dX6_add_23 : decode cX6_add 23 = .ok (.aload_n 2, 1) := by decide +kernel
theorem dX6_add_24 : decode cX6_add 24 = .ok (.getfield 25, 3) := by decide +kernel
theorem dX6_add_27 : decode cX6_add 27 = .ok (.imul, 1) := by decide +kernel
theorem dX6_add_28 : decode cX6_add 28 = .ok (.iadd, 1) := by decide +kernel
theorem dX6_add_29 : decode cX6_add 29 = .ok (.sipush 200, 3) := by decide +kernel
theorem dX6_add_32 : decode cX6_add 32 = .ok (.aload_n 3, 1) := by decide +kernel
theorem dX6_add_33 : decode cX6_add 33 = .ok (.getfield 30, 3) := by decide +kernel
theorem dX6_add_36 : decode cX6_add 36 = .ok (.imul, 1) := by decide +kernel
theorem dX6_add_37 : decode cX6_add 37 = .ok (.iadd, 1) := by decide +kernel
theorem dX6_add_38 : decode cX6_add 38 = .ok (.sipush 2000, 3) := by decide +kernel
theorem dX6_add_41 : decode cX6_add 41 = .ok (.iload 4, 2) := by decide +kernel
theorem dX6_add_43 : decode cX6_add 43 = .ok (.imul, 1) := by decide +kernel
theorem dX6_add_44 : decode cX6_add 44 = .ok (.iadd, 1) := by decide +kernel
theorem dX6_add_45 : decode cX6_add 45 = .ok (.ldc 33, 2) := by decide +kernel
theorem dX6_add_47 : decode cX6_add 47 = .ok (.irem, 1) := by decide +kernel
theorem dX6_add_48 : decode cX6_add 48 = .ok (.putfield 22, 3) := by decide +kernel
theorem dX6_add_51 : decode cX6_add 51 = .ok (.aload_n 0, 1) := by decide +kernel
theorem dX6_add_52 : decode cX6_add 52 = .ok (.getfield 9, 3) := by decide +kernel
theorem dX6_add_55 : decode cX6_add 55 = .ok (.aload_n 0, 1) := by decide +kernel
theorem dX6_add_56 : decode cX6_add 56 = .ok (.getfield 18, 3) := by decide +kernel
theorem dX6_add_59 : decode cX6_add 59 = .ok (.iload_n 1, 1) := by decide +kernel
theorem dX6_add_60 : decode cX6_add 60 = .ok (.iastore, 1) := by decide +kernel
theorem dX6_add_61 : decode cX6_add 61 = .ok (.aload_n 0, 1) := by decide +kernel
theorem dX6_add_62 : decode cX6_add 62 = .ok (.getfield 15, 3) := by decide +kernel
theorem dX6_add_65 : decode cX6_add 65 = .ok (.aload_n 0, 1) := by decide +kernel
theorem dX6_add_66 : decode cX6_add 66 = .ok (.getfield 18, 3) := by decide +kernel
theorem dX6_add_69 : decode cX6_add 69 = .ok (.aload_n 0, 1) := by decide +kernel
theorem dX6_add_70 : decode cX6_add 70 = .ok (.getfield 22, 3) := by decide +kernel
theorem dX6_add_73 : decode cX6_add 73 = .ok (.iastore, 1) := by decide +kernel
theorem dX6_add_74 : decode cX6_add 74 = .ok (.aload_n 0, 1) := by decide +kernel
theorem dX6_add_75 : decode cX6_add 75 = .ok (.dup, 1) := by decide +kernel
theorem dX6_add_76 : decode cX6_add 76 = .ok (.getfield 18, 3) := by decide +kernel
theorem dX6_add_79 : decode cX6_add 79 = .ok (.iconst 1, 1) := by decide +kernel
theorem dX6_add_80 : decode cX6_add 80 = .ok (.iadd, 1) := by decide +kernel
theorem dX6_add_81 : decode cX6_add 81 = .ok (.putfield 18, 3) := by decide +kernel
theorem dX6_add_84 : decode cX6_add 84 = .ok (.return_, 1) := by decide +kernel
theorem dX7_init_0 : decode cX7_init 0 = .ok (.aload_n 0, 1) := by decide +kernel
theorem dX7_init_1 : decode cX7_init 1 = .ok (.invokespecial 3, 3) := by decide +kernel
theorem dX7_init_4 : decode cX7_init 4 = .ok (.aload_n 0, 1) := by decide +kernel
theorem dX7_init_5 : decode cX7_init 5 = .ok (.new 9, 3) := by decide +kernel
theorem dX7_init_8 : decode cX7_init 8 = .ok (.dup, 1) := by decide +kernel
theorem dX7_init_9 : decode cX7_init 9 = .ok (.invokespecial 11, 3) := by decide +kernel
theorem dX7_init_12 : decode cX7_init 12 = .ok (.putfield 12, 3) := by decide +kernel
theorem dX7_init_15 : decode cX7_init 15 = .ok (.aload_n 0, 1) := by decide +kernel
theorem dX7_init_16 : decode cX7_init 16 = .ok (.new 9, 3) := by decide +kernel
theorem dX7_init_19 : decode cX7_init 19 = .ok (.dup, 1) := by decide +kernel
theorem dX7_init_20 : decode cX7_init 20 = .ok (.invokespecial 11, 3) := by decide +kernel
theorem dX7_init_23 : decode cX7_init 23 = .ok (.putfield 16, 3) := by decide +kernel
theorem dX7_init_26 : decode cX7_init 26 = .ok (.aload_n 0, 1) := by decide +kernel
theorem dX7_init_27 : decode cX7_init 27 = .ok (.new 9, 3) := by decide +kernel
theorem dX7_init_30 : decode cX7_init 30 = .ok (.dup, 1) := by decide +kernel
theorem dX7_init_31 : decode cX7_init 31 = .ok (.invokespecial 11, 3) := by decide +kernel
theorem dX7_init_34 : decode cX7_init 34 = .ok (.putfield 19, 3) := by decide +kernel
theorem dX7_init_37 : decode cX7_init 37 = .ok (.aload_n 0, 1) := by decide +kernel
theorem dX7_init_38 : decode cX7_init 38 = .ok (.new 9, 3) := by decide +kernel
theorem dX7_init_41 : decode cX7_init 41 = .ok (.dup, 1) := by decide +kernel
theorem dX7_init_42 : decode cX7_init 42 = .ok (.invokespecial 11, 3) := by decide +kernel
theorem dX7_init_45 : decode cX7_init 45 = .ok (.putfield 22, 3) := by decide +kernel
theorem dX7_init_48 : decode cX7_init 48 = .ok (.aload_n 0, 1) := by decide +kernel
theorem dX7_init_49 : decode cX7_init 49 = .ok (.new 9, 3) := by decide +kernel
theorem dX7_init_52 : decode cX7_init 52 = .ok (.dup, 1) := by decide +kernel
theorem dX7_init_53 : decode cX7_init 53 = .ok (.invokespecial 11, 3) := by decide +kernel
theorem dX7_init_56 : decode cX7_init 56 = .ok (.putfield 25, 3) := by decide +kernel
theorem dX7_init_59 : decode cX7_init 59 = .ok (.aload_n 0, 1) := by decide +kernel
theorem dX7_init_60 : decode cX7_init 60 = .ok (.new 9, 3) := by decide +kernel
theorem dX7_init_63 : decode cX7_init 63 = .ok (.dup, 1) := by decide +kernel
theorem dX7_init_64 : decode cX7_init 64 = .ok (.invokespecial 11, 3) := by decide +kernel
theorem dX7_init_67 : decode cX7_init 67 = .ok (.putfield 28, 3) := by decide +kernel
theorem dX7_init_70 : decode cX7_init 70 = .ok (.aload_n 0, 1) := by decide +kernel
theorem dX7_init_71 : decode cX7_init 71 = .ok (.new 31, 3) := by decide +kernel
theorem dX7_init_74 : decode cX7_init 74 = .ok (.dup, 1) := by decide +kernel
theorem dX7_init_75 : decode cX7_init 75 = .ok (.invokespecial 33, 3) := by decide +kernel
theorem dX7_init_78 : decode cX7_init 78 = .ok (.putfield 34, 3) := by decide +kernel
theorem dX7_init_81 : decode cX7_init 81 = .ok (.aload_n 0, 1) := by decide +kernel
theorem dX7_init_82 : decode cX7_init 82 = .ok (.iconst 0, 1) := by decide +kernel
theorem dX7_init_83 : decode cX7_init 83 = .ok (.putfield 38, 3) := by decide +kernel
theorem dX7_init_86 : decode cX7_init 86 = .ok (.aload_n 0, 1) := by decide +kernel
theorem dX7_init_87 : decode cX7_init 87 = .ok (.iconst 0, 1) := by decide +kernel
theorem dX7_init_88 : decode cX7_init 88 = .ok (.putfield 42, 3) := by decide +kernel
theorem dX7_init_91 : decode cX7_init 91 = .ok (.return_, 1) := by decide +kernel
theorem dX7_addPerson_0 : decode cX7_addPerson 0 = .ok (.iload_n 1, 1) := by decide +kernel
theorem dX7_addPerson_1 : decode cX7_addPerson 1 = .ok (.ifCond .lt 8, 3) := by decide +kernel
theorem dX7_addPerson_4 : decode cX7_addPerson 4 = .ok (.iload_n 1, 1) := by decide +kernel
theorem dX7_addPerson_5 : decode cX7_addPerson 5 = .ok (.iconst 4, 1) := by decide +kernel
theorem dX7_addPerson_6 : decode cX7_addPerson 6 = .ok (.if_icmp .lt 13, 3) := by decide +kernel
theorem dX7_addPerson_9 : decode cX7_addPerson 9 = .ok (.new 45, 3) := by decide +kernel
theorem dX7_addPerson_12 : decode cX7_addPerson 12 = .ok (.dup, 1) := by decide +kernel
theorem dX7_addPerson_13 : decode cX7_addPerson 13 = .ok (.ldc 47, 2) := by decide +kernel
theorem dX7_addPerson_15 : decode cX7_addPerson 15 = .ok (.invokespecial 49, 3) := by decide +kernel
theorem dX7_addPerson_18 : decode cX7_addPerson 18 = .ok (.athrow, 1) := by decide +kernel
theorem dX7_addPerson_19 : decode cX7_addPerson 19 = .ok (.aload_n 0, 1) := by decide +kernel
theorem dX7_addPerson_20 : decode cX7_addPerson 20 = .ok (.getfield 12, 3) := by decide +kernel
theorem dX7_addPerson_23 : decode cX7_addPerson 23 = .ok (.invokevirtual 52, 3) := by decide +kernel
theorem dX7_addPerson_26 : decode cX7_addPerson 26 = .ok (.istore_n 2, 1) := by decide +kernel
theorem dX7_addPerson_27 : decode cX7_addPerson 27 = .ok (.iload_n 2, 1) := by decide +kernel
theorem dX7_addPerson_28 : decode cX7_addPerson 28 = .ok (.bipush 12, 2) := by decide +kernel
theorem dX7_addPerson_30 : decode cX7_addPerson 30 = .ok (.if_icmp .lt 13, 3) := by decide +kernel
theorem dX7_addPerson_33 : decode cX7_addPerson 33 = .ok (.new 56, 3) := by decide +kernel
theorem dX7_addPerson_36 : decode cX7_addPerson 36 = .ok (.dup, 1) := by decide +kernel
theorem dX7_addPerson_37 : decode cX7_addPerson 37 = .ok (.ldc 58, 2) := by decide +kernel
theorem dX7_addPerson_39 : decode cX7_addPerson 39 = .ok (.invokespecial 60, 3) := by decide +kernel
theorem dX7_addPerson_42 : decode cX7_addPerson 42 = .ok (.athrow, 1) := by decide +kernel
theorem dX7_addPerson_43 : decode cX7_addPerson 43 = .ok (.aload_n 0, 1) := by decide +kernel
theorem dX7_addPerson_44 : decode cX7_addPerson 44 = .ok (.getfield 12, 3) := by decide +kernel
theorem dX7_addPerson_47 : decode cX7_addPerson 47 = .ok (.new 61, 3) := by decide +kernel
theorem dX7_addPerson_50 : decode cX7_addPerson 50 = .ok (.dup, 1) := by decide +kernel
theorem dX7_addPerson_51 : decode cX7_addPerson 51 = .ok (.iload_n 2, 1) := by decide +kernel
theorem dX7_addPerson_52 : decode cX7_addPerson 52 = .ok (.iload_n 1, 1) := by decide +kernel
theorem dX7_addPerson_53 : decode cX7_addPerson 53 = .ok (.invokespecial 63, 3) := by decide +kernel
theorem dX7_addPerson_56 : decode cX7_addPerson 56 = .ok (.invokevirtual 66, 3) := by decide +kernel
theorem dX7_addPerson_59 : decode cX7_addPerson 59 = .ok (.pop, 1) := by decide +kernel
theorem dX7_addPerson_60 : decode cX7_addPerson 60 = .ok (.iload_n 2, 1) := by decide +kernel
theorem dX7_addPerson_61 : decode cX7_addPerson 61 = .ok (.ireturn, 1) := by decide +kernel
theorem dX7_addMachine_0 : decode cX7_addMachine 0 = .ok (.iload_n 1, 1) := by decide +kernel
theorem dX7_addMachine_1 : decode cX7_addMachine 1 = .ok (.invokestatic 70, 3) := by decide +kernel
theorem dX7_addMachine_4 : decode cX7_addMachine 4 = .ok (.aload_n 0, 1) := by decide +kernel
theorem dX7_addMachine_5 : decode cX7_addMachine 5 = .ok (.getfield 16, 3) := by decide +kernel
theorem dX7_addMachine_8 : decode cX7_addMachine 8 = .ok (.invokevirtual 52, 3) := by decide +kernel
theorem dX7_addMachine_11 : decode cX7_addMachine 11 = .ok (.istore_n 2, 1) := by decide +kernel
theorem dX7_addMachine_12 : decode cX7_addMachine 12 = .ok (.iload_n 2, 1) := by decide +kernel
theorem dX7_addMachine_13 : decode cX7_addMachine 13 = .ok (.bipush 8, 2) := by decide +kernel
theorem dX7_addMachine_15 : decode cX7_addMachine 15 = .ok (.if_icmp .lt 13, 3) := by decide +kernel
theorem dX7_addMachine_18 : decode cX7_addMachine 18 = .ok (.new 56, 3) := by decide +kernel
theorem dX7_addMachine_21 : decode cX7_addMachine 21 = .ok (.dup, 1) := by decide +kernel
theorem dX7_addMachine_22 : decode cX7_addMachine 22 = .ok (.ldc 74, 2) := by decide +kernel
theorem dX7_addMachine_24 : decode cX7_addMachine 24 = .ok (.invokespecial 60, 3) := by decide +kernel
theorem dX7_addMachine_27 : decode cX7_addMachine 27 = .ok (.athrow, 1) := by decide +kernel
theorem dX7_addMachine_28 : decode cX7_addMachine 28 = .ok (.aload_n 0, 1) := by decide +kernel
theorem dX7_addMachine_29 : decode cX7_addMachine 29 = .ok (.getfield 16, 3) := by decide +kernel
theorem dX7_addMachine_32 : decode cX7_addMachine 32 = .ok (.new 76, 3) := by decide +kernel
theorem dX7_addMachine_35 : decode cX7_addMachine 35 = .ok (.dup, 1) := by decide +kernel
theorem dX7_addMachine_36 : decode cX7_addMachine 36 = .ok (.iload_n 2, 1) := by decide +kernel
theorem dX7_addMachine_37 : decode cX7_addMachine 37 = .ok (.iload_n 1, 1) := by decide +kernel
theorem dX7_addMachine_38 : decode cX7_addMachine 38 = .ok (.invokespecial 78, 3) := by decide +kernel
theorem dX7_addMachine_41 : decode cX7_addMachine 41 = .ok (.invokevirtual 66, 3) := by decide +kernel
theorem dX7_addMachine_44 : decode cX7_addMachine 44 = .ok (.pop, 1) := by decide +kernel
theorem dX7_addMachine_45 : decode cX7_addMachine 45 = .ok (.iload_n 2, 1) := by decide +kernel
theorem dX7_addMachine_46 : decode cX7_addMachine 46 = .ok (.ireturn, 1) := by decide +kernel
theorem dX7_setLabel_0 : decode cX7_setLabel 0 = .ok (.aload_n 0, 1) := by decide +kernel
theorem dX7_setLabel_1 : decode cX7_setLabel 1 = .ok (.iload_n 1, 1) := by decide +kernel
theorem dX7_setLabel_2 : decode cX7_setLabel 2 = .ok (.invokevirtual 79, 3) := by decide +kernel
theorem dX7_setLabel_5 : decode cX7_setLabel 5 = .ok (.astore 4, 2) := by decide +kernel
theorem dX7_setLabel_7 : decode cX7_setLabel 7 = .ok (.iload_n 2, 1) := by decide +kernel
theorem dX7_setLabel_8 : decode cX7_setLabel 8 = .ok (.invokestatic 70, 3) := by decide +kernel
theorem dX7_setLabel_11 : decode cX7_setLabel 11 = .ok (.aload 4, 2) := by decide +kernel
theorem dX7_setLabel_13 : decode cX7_setLabel 13 = .ok (.iload_n 2, 1) := by decide +kernel
theorem dX7_setLabel_14 : decode cX7_setLabel 14 = .ok (.iload_n 3, 1) := by decide +kernel
theorem dX7_setLabel_15 : decode cX7_setLabel 15 = .ok (.invokevirtual 83, 3) := by decide +kernel
theorem dX7_setLabel_18 : decode cX7_setLabel 18 = .ok (.iload_n 3, 1) := by decide +kernel
theorem dX7_setLabel_19 : decode cX7_setLabel 19 = .ok (.ifCond .eq 5, 3) := by decide +kernel
theorem dX7_setLabel_22 : decode cX7_setLabel 22 = .ok (.iconst 0, 1) := by decide +kernel
theorem dX7_setLabel_23 : decode cX7_setLabel 23 = .ok (.ireturn, 1) := by decide +kernel
theorem dX7_setLabel_24 : decode cX7_setLabel 24 = .ok (.iconst 0, 1) := by decide +kernel
theorem dX7_setLabel_25 : decode cX7_setLabel 25 = .ok (.istore 5, 2) := by decide +kernel
theorem dX7_setLabel_27 : decode cX7_setLabel 27 = .ok (.iload 5, 2) := by decide +kernel
theorem dX7_setLabel_29 : decode cX7_setLabel 29 = .ok (.aload_n 0, 1) := by decide +kernel
theorem dX7_setLabel_30 : decode cX7_setLabel 30 = .ok (.getfield 16, 3) := by decide +kernel
theorem dX7_setLabel_33 : decode cX7_setLabel 33 = .ok (.invokevirtual 52, 3) := by decide +kernel
theorem dX7_setLabel_36 : decode cX7_setLabel 36 = .ok (.if_icmp .ge 48, 3) := by decide +kernel
theorem dX7_setLabel_39 : decode cX7_setLabel 39 = .ok (.aload_n 0, 1) := by decide +kernel
theorem dX7_setLabel_40 : decode cX7_setLabel 40 = .ok (.getfield 16, 3) := by decide +kernel
theorem dX7_setLabel_43 : decode cX7_setLabel 43 = .ok (.iload 5, 2) := by decide +kernel
theorem dX7_setLabel_45 : decode cX7_setLabel 45 = .ok (.invokevirtual 87, 3) := by decide +kernel
theorem dX7_setLabel_48 : decode cX7_setLabel 48 = .ok (.checkcast 76, 3) := by decide +kernel
theorem dX7_setLabel_51 : decode cX7_setLabel 51 = .ok (.astore 6, 2) := by decide +kernel
theorem dX7_setLabel_53 : decode cX7_setLabel 53 = .ok (.aload 6, 2) := by decide +kernel
theorem dX7_setLabel_55 : decode cX7_setLabel 55 = .ok (.getfield 91, 3) := by decide +kernel
theorem dX7_setLabel_58 : decode cX7_setLabel 58 = .ok (.iload_n 2, 1) := by decide +kernel
theorem dX7_setLabel_59 : decode cX7_setLabel 59 = .ok (.if_icmp .ne 19, 3) := by decide +kernel
theorem dX7_setLabel_62 : decode cX7_setLabel 62 = .ok (.aload_n 0, 1) := by decide +kernel
theorem dX7_setLabel_63 : decode cX7_setLabel 63 = .ok (.aload 4, 2) := by decide +kernel
theorem dX7_setLabel_65 : decode cX7_setLabel 65 = .ok (.aload 6, 2) := by decide +kernel
theorem dX7_setLabel_67 : decode cX7_setLabel 67 = .ok (.invokevirtual 94, 3) := by decide +kernel
theorem dX7_setLabel_70 : decode cX7_setLabel 70 = .ok (.aload_n 0, 1) := by decide +kernel
theorem dX7_setLabel_71 : decode cX7_setLabel 71 = .ok (.aload 4, 2) := by decide +kernel
theorem dX7_setLabel_73 : decode cX7_setLabel 73 = .ok (.aload 6, 2) := by decide +kernel
theorem dX7_setLabel_75 : decode cX7_setLabel 75 = .ok (.invokevirtual 98, 3) := by decide +kernel
theorem dX7_setLabel_78 : decode cX7_setLabel 78 = .ok (.iinc 5 1, 3) := by decide +kernel
theorem dX7_setLabel_81 : decode cX7_setLabel 81 = .ok (.goto (-54), 3) := by decide +kernel
theorem dX7_setLabel_84 : decode cX7_setLabel 84 = .ok (.aload_n 0, 1) := by decide +kernel
theorem dX7_setLabel_85 : decode cX7_setLabel 85 = .ok (.invokevirtual 101, 3) := by decide +kernel
theorem dX7_setLabel_88 : decode cX7_setLabel 88 = .ok (.ireturn, 1) := by decide +kernel
theorem dX7_takeAway_0 : decode cX7_takeAway 0 = .ok (.aload_n 0, 1) := by decide +kernel
theorem dX7_takeAway_1 : decode cX7_takeAway 1 = .ok (.iload_n 1, 1) := by decide +kernel
theorem dX7_takeAway_2 : decode cX7_takeAway 2 = .ok (.invokevirtual 79, 3) := by decide +kernel
theorem dX7_takeAway_5 : decode cX7_takeAway 5 = .ok (.astore_n 3, 1) := by decide +kernel
theorem dX7_takeAway_6 : decode cX7_takeAway 6 = .ok (.aload_n 0, 1) := by decide +kernel
theorem dX7_takeAway_7 : decode cX7_takeAway 7 = .ok (.iload_n 2, 1) := by decide +kernel
theorem dX7_takeAway_8 : decode cX7_takeAway 8 = .ok (.invokevirtual 104, 3) := by decide +kernel
theorem dX7_takeAway_11 : decode cX7_takeAway 11 = .ok (.astore 4, 2) := by decide +kernel
theorem dX7_takeAway_13 : decode cX7_takeAway 13 = .ok (.aload_n 0, 1) := by decide +kernel
theorem dX7_takeAway_14 : decode cX7_takeAway 14 = .ok (.aload_n 3, 1) := by decide +kernel
theorem dX7_takeAway_15 : decode cX7_takeAway 15 = .ok (.aload 4, 2) := by decide +kernel
theorem dX7_takeAway_17 : decode cX7_takeAway 17 = .ok (.invokevirtual 94, 3) := by decide +kernel
theorem dX7_takeAway_20 : decode cX7_takeAway 20 = .ok (.aload_n 0, 1) := by decide +kernel
theorem dX7_takeAway_21 : decode cX7_takeAway 21 = .ok (.aload_n 3, 1) := by decide +kernel
theorem dX7_takeAway_22 : decode cX7_takeAway 22 = .ok (.aload 4, 2) := by decide +kernel
theorem dX7_takeAway_24 : decode cX7_takeAway 24 = .ok (.invokevirtual 98, 3) := by decide +kernel
theorem dX7_takeAway_27 : decode cX7_takeAway 27 = .ok (.aload_n 0, 1) := by decide +kernel
theorem dX7_takeAway_28 : decode cX7_takeAway 28 = .ok (.invokevirtual 101, 3) := by decide +kernel
theorem dX7_takeAway_31 : decode cX7_takeAway 31 = .ok (.ireturn, 1) := by decide +kernel
theorem dX7_ask_0 : decode cX7_ask 0 = .ok (.aload_n 0, 1) := by decide +kernel
theorem dX7_ask_1 : decode cX7_ask 1 = .ok (.iload_n 1, 1) := by decide +kernel
theorem dX7_ask_2 : decode cX7_ask 2 = .ok (.invokevirtual 79, 3) := by decide +kernel
theorem dX7_ask_5 : decode cX7_ask 5 = .ok (.astore 4, 2) := by decide +kernel
theorem dX7_ask_7 : decode cX7_ask 7 = .ok (.aload_n 0, 1) := by decide +kernel
theorem dX7_ask_8 : decode cX7_ask 8 = .ok (.iload_n 2, 1) := by decide +kernel
theorem dX7_ask_9 : decode cX7_ask 9 = .ok (.invokevirtual 104, 3) := by decide +kernel
theorem dX7_ask_12 : decode cX7_ask 12 = .ok (.astore 5, 2) := by decide +kernel
theorem dX7_ask_14 : decode cX7_ask 14 = .ok (.iload_n 3, 1) := by decide +kernel
theorem dX7_ask_15 : decode cX7_ask 15 = .ok (.iconst 1, 1) := by decide +kernel
theorem dX7_ask_16 : decode cX7_ask 16 = .ok (.if_icmp .lt 10, 3) := by decide +kernel
theorem dX7_ask_19 : decode cX7_ask 19 = .ok (.iload_n 3, 1) := by decide +kernel
theorem dX7_ask_20 : decode cX7_ask 20 = .ok (.sipush 600, 3) := by decide +kernel
theorem dX7_ask_23 : decode cX7_ask 23 = .ok (.if_icmp .le 13, 3) := by decide +kernel
theorem dX7_ask_26 : decode cX7_ask 26 = .ok (.new 45, 3) := by decide +kernel
theorem dX7_ask_29 : decode cX7_ask 29 = .ok (.dup, 1) := by decide +kernel
theorem dX7_ask_30 : decode cX7_ask 30 = .ok (.ldc 108, 2) := by decide +kernel
theorem dX7_ask_32 : decode cX7_ask 32 = .ok (.invokespecial 49, 3) := by decide +kernel
theorem dX7_ask_35 : decode cX7_ask 35 = .ok (.athrow, 1) := by decide +kernel
theorem dX7_ask_36 : decode cX7_ask 36 = .ok (.aload_n 0, 1) := by decide +kernel
theorem dX7_ask_37 : decode cX7_ask 37 = .ok (.aload 4, 2) := by decide +kernel
theorem dX7_ask_39 : decode cX7_ask 39 = .ok (.aload 5, 2) := by decide +kernel
theorem dX7_ask_41 : decode cX7_ask 41 = .ok (.invokevirtual 110, 3) := by decide +kernel
theorem dX7_ask_44 : decode cX7_ask 44 = .ok (.aload_n 0, 1) := by decide +kernel
theorem dX7_ask_45 : decode cX7_ask 45 = .ok (.getfield 19, 3) := by decide +kernel
theorem dX7_ask_48 : decode cX7_ask 48 = .ok (.invokevirtual 52, 3) := by decide +kernel
theorem dX7_ask_51 : decode cX7_ask 51 = .ok (.istore 6, 2) := by decide +kernel
theorem dX7_ask_53 : decode cX7_ask 53 = .ok (.iload 6, 2) := by decide +kernel
theorem dX7_ask_55 : decode cX7_ask 55 = .ok (.invokestatic 113, 3) := by decide +kernel
theorem dX7_ask_58 : decode cX7_ask 58 = .ok (.aload_n 0, 1) := by decide +kernel
theorem dX7_ask_59 : decode cX7_ask 59 = .ok (.getfield 19, 3) := by decide +kernel
theorem dX7_ask_62 : decode cX7_ask 62 = .ok (.new 116, 3) := by decide +kernel
theorem dX7_ask_65 : decode cX7_ask 65 = .ok (.dup, 1) := by decide +kernel
theorem dX7_ask_66 : decode cX7_ask 66 = .ok (.aload 4, 2) := by decide +kernel
theorem dX7_ask_68 : decode cX7_ask 68 = .ok (.aload 5, 2) := by decide +kernel
theorem dX7_ask_70 : decode cX7_ask 70 = .ok (.iload_n 3, 1) := by decide +kernel
theorem dX7_ask_71 : decode cX7_ask 71 = .ok (.aload_n 0, 1) := by decide +kernel
theorem dX7_ask_72 : decode cX7_ask 72 = .ok (.getfield 42, 3) := by decide +kernel
theorem dX7_ask_75 : decode cX7_ask 75 = .ok (.invokespecial 118, 3) := by decide +kernel
theorem dX7_ask_78 : decode cX7_ask 78 = .ok (.invokevirtual 66, 3) := by decide +kernel
theorem dX7_ask_81 : decode cX7_ask 81 = .ok (.pop, 1) := by decide +kernel
theorem dX7_ask_82 : decode cX7_ask 82 = .ok (.aload_n 0, 1) := by decide +kernel
theorem dX7_ask_83 : decode cX7_ask 83 = .ok (.getfield 34, 3) := by decide +kernel
theorem dX7_ask_86 : decode cX7_ask 86 = .ok (.iconst 0, 1) := by decide +kernel
theorem dX7_ask_87 : decode cX7_ask 87 = .ok (.aload 4, 2) := by decide +kernel
theorem dX7_ask_89 : decode cX7_ask 89 = .ok (.aload 5, 2) := by decide +kernel
theorem dX7_ask_91 : decode cX7_ask 91 = .ok (.aload_n 0, 1) := by decide +kernel
theorem dX7_ask_92 : decode cX7_ask 92 = .ok (.getfield 42, 3) := by decide +kernel
theorem dX7_ask_95 : decode cX7_ask 95 = .ok (.invokevirtual 121, 3) := by decide +kernel
theorem dX7_ask_98 : decode cX7_ask 98 = .ok (.iload 6, 2) := by decide +kernel
theorem dX7_ask_100 : decode cX7_ask 100 = .ok (.ireturn, 1) := by decide +kernel
theorem dX7_approve_0 : decode cX7_approve 0 = .ok (.aload_n 0, 1) := by decide +kernel
theorem dX7_approve_1 : decode cX7_approve 1 = .ok (.iload_n 1, 1) := by decide +kernel
theorem dX7_approve_2 : decode cX7_approve 2 = .ok (.invokevirtual 124, 3) := by decide +kernel
theorem dX7_approve_5 : decode cX7_approve 5 = .ok (.astore_n 3, 1) := by decide +kernel
theorem dX7_approve_6 : decode cX7_approve 6 = .ok (.aload_n 0, 1) := by decide +kernel
theorem dX7_approve_7 : decode cX7_approve 7 = .ok (.iload_n 2, 1) := by decide +kernel
theorem dX7_approve_8 : decode cX7_approve 8 = .ok (.invokevirtual 79, 3) := by decide +kernel
theorem dX7_approve_11 : decode cX7_approve 11 = .ok (.astore 4, 2) := by decide +kernel
theorem dX7_approve_13 : decode cX7_approve 13 = .ok (.aload_n 0, 1) := by decide +kernel
theorem dX7_approve_14 : decode cX7_approve 14 = .ok (.aload_n 3, 1) := by decide +kernel
theorem dX7_approve_15 : decode cX7_approve 15 = .ok (.aload 4, 2) := by decide +kernel
theorem dX7_approve_17 : decode cX7_approve 17 = .ok (.invokevirtual 128, 3) := by decide +kernel
theorem dX7_approve_20 : decode cX7_approve 20 = .ok (.aload_n 3, 1) := by decide +kernel
theorem dX7_approve_21 : decode cX7_approve 21 = .ok (.getfield 132, 3) := by decide +kernel
theorem dX7_approve_24 : decode cX7_approve 24 = .ok (.aload 4, 2) := by decide +kernel
theorem dX7_approve_26 : decode cX7_approve 26 = .ok (.if_acmp .ne 13, 3) := by decide +kernel
theorem dX7_approve_29 : decode cX7_approve 29 = .ok (.new 56, 3) := by decide +kernel
theorem dX7_approve_32 : decode cX7_approve 32 = .ok (.dup, 1) := by decide +kernel
theorem dX7_approve_33 : decode cX7_approve 33 = .ok (.ldc 136, 2) := by decide +kernel
theorem dX7_approve_35 : decode cX7_approve 35 = .ok (.invokespecial 60, 3) := by decide +kernel
theorem dX7_approve_38 : decode cX7_approve 38 = .ok (.athrow, 1) := by decide +kernel
theorem dX7_approve_39 : decode cX7_approve 39 = .ok (.aload_n 0, 1) := by decide +kernel
theorem dX7_approve_40 : decode cX7_approve 40 = .ok (.getfield 34, 3) := by decide +kernel
theorem dX7_approve_43 : decode cX7_approve 43 = .ok (.iconst 1, 1) := by decide +kernel
theorem dX7_approve_44 : decode cX7_approve 44 = .ok (.aload 4, 2) := by decide +kernel
theorem dX7_approve_46 : decode cX7_approve 46 = .ok (.aload_n 3, 1) := by decide +kernel
theorem dX7_approve_47 : decode cX7_approve 47 = .ok (.getfield 138, 3) := by decide +kernel
theorem dX7_approve_50 : decode cX7_approve 50 = .ok (.aload_n 0, 1) := by decide +kernel
theorem dX7_approve_51 : decode cX7_approve 51 = .ok (.getfield 42, 3) := by decide +kernel
theorem dX7_approve_54 : decode cX7_approve 54 = .ok (.invokevirtual 121, 3) := by decide +kernel
theorem dX7_approve_57 : decode cX7_approve 57 = .ok (.aload_n 3, 1) := by decide +kernel
theorem dX7_approve_58 : decode cX7_approve 58 = .ok (.getfield 132, 3) := by decide +kernel
theorem dX7_approve_61 : decode cX7_approve 61 = .ok (.ifnonnull 11, 3) := by decide +kernel
theorem dX7_approve_64 : decode cX7_approve 64 = .ok (.aload_n 3, 1) := by decide +kernel
theorem dX7_approve_65 : decode cX7_approve 65 = .ok (.aload 4, 2) := by decide +kernel
theorem dX7_approve_67 : decode cX7_approve 67 = .ok (.putfield 132, 3) := by decide +kernel
theorem dX7_approve_70 : decode cX7_approve 70 = .ok (.iconst 0, 1) := by decide +kernel
theorem dX7_approve_71 : decode cX7_approve 71 = .ok (.ireturn, 1) := by decide +kernel
theorem dX7_approve_72 : decode cX7_approve 72 = .ok (.aload_n 3, 1) := by decide +kernel
theorem dX7_approve_73 : decode cX7_approve 73 = .ok (.iconst 1, 1) := by decide +kernel
theorem dX7_approve_74 : decode cX7_approve 74 = .ok (.putfield 142, 3) := by decide +kernel
theorem dX7_approve_77 : decode cX7_approve 77 = .ok (.aload_n 0, 1) := by decide +kernel
theorem dX7_approve_78 : decode cX7_approve 78 = .ok (.getfield 25, 3) := by decide +kernel
theorem dX7_approve_81 : decode cX7_approve 81 = .ok (.new 145, 3) := by decide +kernel
theorem dX7_approve_84 : decode cX7_approve 84 = .ok (.dup, 1) := by decide +kernel
theorem dX7_approve_85 : decode cX7_approve 85 = .ok (.aload_n 3, 1) := by decide +kernel
theorem dX7_approve_86 : decode cX7_approve 86 = .ok (.getfield 147, 3) := by decide +kernel
theorem dX7_approve_89 : decode cX7_approve 89 = .ok (.aload_n 3, 1) := by decide +kernel
theorem dX7_approve_90 : decode cX7_approve 90 = .ok (.getfield 138, 3) := by decide +kernel
theorem dX7_approve_93 : decode cX7_approve 93 = .ok (.aload_n 0, 1) := by decide +kernel
theorem dX7_approve_94 : decode cX7_approve 94 = .ok (.getfield 42, 3) := by decide +kernel
theorem dX7_approve_97 : decode cX7_approve 97 = .ok (.aload_n 0, 1) := by decide +kernel
theorem dX7_approve_98 : decode cX7_approve 98 = .ok (.getfield 42, 3) := by decide +kernel
theorem dX7_approve_101 : decode cX7_approve 101 = .ok (.aload_n 3, 1) := by decide +kernel
theorem dX7_approve_102 : decode cX7_approve 102 = .ok (.getfield 150, 3) := by decide +kernel
theorem dX7_approve_105 : decode cX7_approve 105 = .ok (.iadd, 1) := by decide +kernel
theorem dX7_approve_106 : decode cX7_approve 106 = .ok (.invokespecial 153, 3) := by decide +kernel
theorem dX7_approve_109 : decode cX7_approve 109 = .ok (.invokevirtual 66, 3) := by decide +kernel
theorem dX7_approve_112 : decode cX7_approve 112 = .ok (.pop, 1) := by decide +kernel
theorem dX7_approve_113 : decode cX7_approve 113 = .ok (.iconst 1, 1) := by decide +kernel
theorem dX7_approve_114 : decode cX7_approve 114 = .ok (.ireturn, 1) := by decide +kernel
theorem dX7_deny_0 : decode cX7_deny 0 = .ok (.aload_n 0, 1) := by decide +kernel
theorem dX7_deny_1 : decode cX7_deny 1 = .ok (.iload_n 1, 1) := by decide +kernel
theorem dX7_deny_2 : decode cX7_deny 2 = .ok (.invokevirtual 124, 3) := by decide +kernel
theorem dX7_deny_5 : decode cX7_deny 5 = .ok (.astore_n 3, 1) := by decide +kernel
theorem dX7_deny_6 : decode cX7_deny 6 = .ok (.aload_n 0, 1) := by decide +kernel
theorem dX7_deny_7 : decode cX7_deny 7 = .ok (.iload_n 2, 1) := by decide +kernel
theorem dX7_deny_8 : decode cX7_deny 8 = .ok (.invokevirtual 79, 3) := by decide +kernel
theorem dX7_deny_11 : decode cX7_deny 11 = .ok (.astore 4, 2) := by decide +kernel
theorem dX7_deny_13 : decode cX7_deny 13 = .ok (.aload_n 0, 1) := by decide +kernel
theorem dX7_deny_14 : decode cX7_deny 14 = .ok (.aload_n 3, 1) := by decide +kernel
theorem dX7_deny_15 : decode cX7_deny 15 = .ok (.aload 4, 2) := by decide +kernel
theorem dX7_deny_17 : decode cX7_deny 17 = .ok (.invokevirtual 128, 3) := by decide +kernel
theorem dX7_deny_20 : decode cX7_deny 20 = .ok (.aload_n 3, 1) := by decide +kernel
theorem dX7_deny_21 : decode cX7_deny 21 = .ok (.iconst 2, 1) := by decide +kernel
theorem dX7_deny_22 : decode cX7_deny 22 = .ok (.putfield 142, 3) := by decide +kernel
theorem dX7_deny_25 : decode cX7_deny 25 = .ok (.aload_n 0, 1) := by decide +kernel
theorem dX7_deny_26 : decode cX7_deny 26 = .ok (.getfield 34, 3) := by decide +kernel
theorem dX7_deny_29 : decode cX7_deny 29 = .ok (.iconst 2, 1) := by decide +kernel
theorem dX7_deny_30 : decode cX7_deny 30 = .ok (.aload 4, 2) := by decide +kernel
theorem dX7_deny_32 : decode cX7_deny 32 = .ok (.aload_n 3, 1) := by decide +kernel
theorem dX7_deny_33 : decode cX7_deny 33 = .ok (.getfield 138, 3) := by decide +kernel
theorem dX7_deny_36 : decode cX7_deny 36 = .ok (.aload_n 0, 1) := by decide +kernel
theorem dX7_deny_37 : decode cX7_deny 37 = .ok (.getfield 42, 3) := by decide +kernel
theorem dX7_deny_40 : decode cX7_deny 40 = .ok (.invokevirtual 121, 3) := by decide +kernel
theorem dX7_deny_43 : decode cX7_deny 43 = .ok (.return_, 1) := by decide +kernel
theorem dX7_askState_0 : decode cX7_askState 0 = .ok (.aload_n 0, 1) := by decide +kernel
theorem dX7_askState_1 : decode cX7_askState 1 = .ok (.iload_n 1, 1) := by decide +kernel
theorem dX7_askState_2 : decode cX7_askState 2 = .ok (.invokevirtual 124, 3) := by decide +kernel
theorem dX7_askState_5 : decode cX7_askState 5 = .ok (.aload_n 0, 1) := by decide +kernel
theorem dX7_askState_6 : decode cX7_askState 6 = .ok (.getfield 42, 3) := by decide +kernel
theorem dX7_askState_9 : decode cX7_askState 9 = .ok (.invokevirtual 154, 3) := by decide +kernel
theorem dX7_askState_12 : decode cX7_askState 12 = .ok (.ireturn, 1) := by decide +kernel
theorem dX7_enter_0 : decode cX7_enter 0 = .ok (.aload_n 0, 1) := by decide +kernel
theorem dX7_enter_1 : decode cX7_enter 1 = .ok (.iload_n 1, 1) := by decide +kernel
theorem dX7_enter_2 : decode cX7_enter 2 = .ok (.invokevirtual 79, 3) := by decide +kernel
theorem dX7_enter_5 : decode cX7_enter 5 = .ok (.astore_n 3, 1) := by decide +kernel
theorem dX7_enter_6 : decode cX7_enter 6 = .ok (.aload_n 0, 1) := by decide +kernel
theorem dX7_enter_7 : decode cX7_enter 7 = .ok (.iload_n 2, 1) := by decide +kernel
theorem dX7_enter_8 : decode cX7_enter 8 = .ok (.invokevirtual 104, 3) := by decide +kernel
theorem dX7_enter_11 : decode cX7_enter 11 = .ok (.astore 4, 2) := by decide +kernel
theorem dX7_enter_13 : decode cX7_enter 13 = .ok (.aload_n 0, 1) := by decide +kernel
theorem dX7_enter_14 : decode cX7_enter 14 = .ok (.aload_n 3, 1) := by decide +kernel
theorem dX7_enter_15 : decode cX7_enter 15 = .ok (.aload 4, 2) := by decide +kernel
theorem dX7_enter_17 : decode cX7_enter 17 = .ok (.invokevirtual 110, 3) := by decide +kernel
theorem dX7_enter_20 : decode cX7_enter 20 = .ok (.aload_n 0, 1) := by decide +kernel
theorem dX7_enter_21 : decode cX7_enter 21 = .ok (.getfield 22, 3) := by decide +kernel
theorem dX7_enter_24 : decode cX7_enter 24 = .ok (.invokevirtual 52, 3) := by decide +kernel
theorem dX7_enter_27 : decode cX7_enter 27 = .ok (.istore 5, 2) := by decide +kernel
theorem dX7_enter_29 : decode cX7_enter 29 = .ok (.iload 5, 2) := by decide +kernel
theorem dX7_enter_31 : decode cX7_enter 31 = .ok (.invokestatic 113, 3) := by decide +kernel
theorem dX7_enter_34 : decode cX7_enter 34 = .ok (.aload_n 0, 1) := by decide +kernel
theorem dX7_enter_35 : decode cX7_enter 35 = .ok (.getfield 22, 3) := by decide +kernel
theorem dX7_enter_38 : decode cX7_enter 38 = .ok (.new 158, 3) := by decide +kernel
theorem dX7_enter_41 : decode cX7_enter 41 = .ok (.dup, 1) := by decide +kernel
theorem dX7_enter_42 : decode cX7_enter 42 = .ok (.aload_n 3, 1) := by decide +kernel
theorem dX7_enter_43 : decode cX7_enter 43 = .ok (.aload 4, 2) := by decide +kernel
theorem dX7_enter_45 : decode cX7_enter 45 = .ok (.aload_n 0, 1) := by decide +kernel
theorem dX7_enter_46 : decode cX7_enter 46 = .ok (.getfield 42, 3) := by decide +kernel
theorem dX7_enter_49 : decode cX7_enter 49 = .ok (.invokespecial 160, 3) := by decide +kernel
theorem dX7_enter_52 : decode cX7_enter 52 = .ok (.invokevirtual 66, 3) := by decide +kernel
theorem dX7_enter_55 : decode cX7_enter 55 = .ok (.pop, 1) := by decide +kernel
theorem dX7_enter_56 : decode cX7_enter 56 = .ok (.aload_n 0, 1) := by decide +kernel
theorem dX7_enter_57 : decode cX7_enter 57 = .ok (.getfield 25, 3) := by decide +kernel
theorem dX7_enter_60 : decode cX7_enter 60 = .ok (.new 145, 3) := by decide +kernel
theorem dX7_enter_63 : decode cX7_enter 63 = .ok (.dup, 1) := by decide +kernel
theorem dX7_enter_64 : decode cX7_enter 64 = .ok (.aload_n 3, 1) := by decide +kernel
theorem dX7_enter_65 : decode cX7_enter 65 = .ok (.aload 4, 2) := by decide +kernel
theorem dX7_enter_67 : decode cX7_enter 67 = .ok (.aload_n 0, 1) := by decide +kernel
theorem dX7_enter_68 : decode cX7_enter 68 = .ok (.getfield 42, 3) := by decide +kernel
theorem dX7_enter_71 : decode cX7_enter 71 = .ok (.aload_n 0, 1) := by decide +kernel
theorem dX7_enter_72 : decode cX7_enter 72 = .ok (.getfield 42, 3) := by decide +kernel
theorem dX7_enter_75 : decode cX7_enter 75 = .ok (.bipush 30, 2) := by decide +kernel
theorem dX7_enter_77 : decode cX7_enter 77 = .ok (.iadd, 1) := by decide +kernel
theorem dX7_enter_78 : decode cX7_enter 78 = .ok (.invokespecial 153, 3) := by decide +kernel
theorem dX7_enter_81 : decode cX7_enter 81 = .ok (.invokevirtual 66, 3) := by decide +kernel
theorem dX7_enter_84 : decode cX7_enter 84 = .ok (.pop, 1) := by decide +kernel
theorem dX7_enter_85 : decode cX7_enter 85 = .ok (.aload_n 0, 1) := by decide +kernel
theorem dX7_enter_86 : decode cX7_enter 86 = .ok (.getfield 34, 3) := by decide +kernel
theorem dX7_enter_89 : decode cX7_enter 89 = .ok (.iconst 3, 1) := by decide +kernel
theorem dX7_enter_90 : decode cX7_enter 90 = .ok (.aload_n 3, 1) := by decide +kernel
theorem dX7_enter_91 : decode cX7_enter 91 = .ok (.aload 4, 2) := by decide +kernel
theorem dX7_enter_93 : decode cX7_enter 93 = .ok (.aload_n 0, 1) := by decide +kernel
theorem dX7_enter_94 : decode cX7_enter 94 = .ok (.getfield 42, 3) := by decide +kernel
theorem dX7_enter_97 : decode cX7_enter 97 = .ok (.invokevirtual 121, 3) := by decide +kernel
theorem dX7_enter_100 : decode cX7_enter 100 = .ok (.iload 5, 2) := by decide +kernel
theorem dX7_enter_102 : decode cX7_enter 102 = .ok (.ireturn, 1) := by decide +kernel
theorem dX7_lookAt_0 : decode cX7_lookAt 0 = .ok (.aload_n 0, 1) := by decide +kernel
theorem dX7_lookAt_1 : decode cX7_lookAt 1 = .ok (.iload_n 1, 1) := by decide +kernel
theorem dX7_lookAt_2 : decode cX7_lookAt 2 = .ok (.invokevirtual 163, 3) := by decide +kernel
theorem dX7_lookAt_5 : decode cX7_lookAt 5 = .ok (.astore_n 3, 1) := by decide +kernel
theorem dX7_lookAt_6 : decode cX7_lookAt 6 = .ok (.aload_n 0, 1) := by decide +kernel
theorem dX7_lookAt_7 : decode cX7_lookAt 7 = .ok (.iload_n 2, 1) := by decide +kernel
theorem dX7_lookAt_8 : decode cX7_lookAt 8 = .ok (.invokevirtual 79, 3) := by decide +kernel
theorem dX7_lookAt_11 : decode cX7_lookAt 11 = .ok (.astore 4, 2) := by decide +kernel
theorem dX7_lookAt_13 : decode cX7_lookAt 13 = .ok (.aload_n 3, 1) := by decide +kernel
theorem dX7_lookAt_14 : decode cX7_lookAt 14 = .ok (.getfield 167, 3) := by decide +kernel
theorem dX7_lookAt_17 : decode cX7_lookAt 17 = .ok (.ifCond .eq 13, 3) := by decide +kernel
theorem dX7_lookAt_20 : decode cX7_lookAt 20 = .ok (.new 56, 3) := by decide +kernel
theorem dX7_lookAt_23 : decode cX7_lookAt 23 = .ok (.dup, 1) := by decide +kernel
theorem dX7_lookAt_24 : decode cX7_lookAt 24 = .ok (.ldc 171, 2) := by decide +kernel
theorem dX7_lookAt_26 : decode cX7_lookAt 26 = .ok (.invokespecial 60, 3) := by decide +kernel
theorem dX7_lookAt_29 : decode cX7_lookAt 29 = .ok (.athrow, 1) := by decide +kernel
theorem dX7_lookAt_30 : decode cX7_lookAt 30 = .ok (.aload 4, 2) := by decide +kernel
theorem dX7_lookAt_32 : decode cX7_lookAt 32 = .ok (.getfield 173, 3) := by decide +kernel
theorem dX7_lookAt_35 : decode cX7_lookAt 35 = .ok (.aload_n 3, 1) := by decide +kernel
theorem dX7_lookAt_36 : decode cX7_lookAt 36 = .ok (.getfield 176, 3) := by decide +kernel
theorem dX7_lookAt_39 : decode cX7_lookAt 39 = .ok (.getfield 173, 3) := by decide +kernel
theorem dX7_lookAt_42 : decode cX7_lookAt 42 = .ok (.if_icmp .ne 13, 3) := by decide +kernel
theorem dX7_lookAt_45 : decode cX7_lookAt 45 = .ok (.new 56, 3) := by decide +kernel
theorem dX7_lookAt_48 : decode cX7_lookAt 48 = .ok (.dup, 1) := by decide +kernel
theorem dX7_lookAt_49 : decode cX7_lookAt 49 = .ok (.ldc 177, 2) := by decide +kernel
theorem dX7_lookAt_51 : decode cX7_lookAt 51 = .ok (.invokespecial 60, 3) := by decide +kernel
theorem dX7_lookAt_54 : decode cX7_lookAt 54 = .ok (.athrow, 1) := by decide +kernel
theorem dX7_lookAt_55 : decode cX7_lookAt 55 = .ok (.aload_n 3, 1) := by decide +kernel
theorem dX7_lookAt_56 : decode cX7_lookAt 56 = .ok (.iconst 1, 1) := by decide +kernel
theorem dX7_lookAt_57 : decode cX7_lookAt 57 = .ok (.putfield 167, 3) := by decide +kernel
theorem dX7_lookAt_60 : decode cX7_lookAt 60 = .ok (.aload_n 0, 1) := by decide +kernel
theorem dX7_lookAt_61 : decode cX7_lookAt 61 = .ok (.getfield 34, 3) := by decide +kernel
theorem dX7_lookAt_64 : decode cX7_lookAt 64 = .ok (.iconst 4, 1) := by decide +kernel
theorem dX7_lookAt_65 : decode cX7_lookAt 65 = .ok (.aload 4, 2) := by decide +kernel
theorem dX7_lookAt_67 : decode cX7_lookAt 67 = .ok (.aload_n 3, 1) := by decide +kernel
theorem dX7_lookAt_68 : decode cX7_lookAt 68 = .ok (.getfield 179, 3) := by decide +kernel
theorem dX7_lookAt_71 : decode cX7_lookAt 71 = .ok (.aload_n 0, 1) := by decide +kernel
theorem dX7_lookAt_72 : decode cX7_lookAt 72 = .ok (.getfield 42, 3) := by decide +kernel
theorem dX7_lookAt_75 : decode cX7_lookAt 75 = .ok (.invokevirtual 121, 3) := by decide +kernel
theorem dX7_lookAt_78 : decode cX7_lookAt 78 = .ok (.aload_n 0, 1) := by decide +kernel
theorem dX7_lookAt_79 : decode cX7_lookAt 79 = .ok (.getfield 42, 3) := by decide +kernel
theorem dX7_lookAt_82 : decode cX7_lookAt 82 = .ok (.aload_n 3, 1) := by decide +kernel
theorem dX7_lookAt_83 : decode cX7_lookAt 83 = .ok (.getfield 180, 3) := by decide +kernel
theorem dX7_lookAt_86 : decode cX7_lookAt 86 = .ok (.isub, 1) := by decide +kernel
theorem dX7_lookAt_87 : decode cX7_lookAt 87 = .ok (.ireturn, 1) := by decide +kernel
theorem dX7_overdue_0 : decode cX7_overdue 0 = .ok (.aload_n 0, 1) := by decide +kernel
theorem dX7_overdue_1 : decode cX7_overdue 1 = .ok (.aload_n 0, 1) := by decide +kernel
theorem dX7_overdue_2 : decode cX7_overdue 2 = .ok (.iload_n 1, 1) := by decide +kernel
theorem dX7_overdue_3 : decode cX7_overdue 3 = .ok (.invokevirtual 79, 3) := by decide +kernel
theorem dX7_overdue_6 : decode cX7_overdue 6 = .ok (.invokevirtual 183, 3) := by decide +kernel
theorem dX7_overdue_9 : decode cX7_overdue 9 = .ok (.ireturn, 1) := by decide +kernel
theorem dX7_couldEnter_0 : decode cX7_couldEnter 0 = .ok (.aload_n 0, 1) := by decide +kernel
theorem dX7_couldEnter_1 : decode cX7_couldEnter 1 = .ok (.iload_n 1, 1) := by decide +kernel
theorem dX7_couldEnter_2 : decode cX7_couldEnter 2 = .ok (.invokevirtual 79, 3) := by decide +kernel
theorem dX7_couldEnter_5 : decode cX7_couldEnter 5 = .ok (.astore 4, 2) := by decide +kernel
theorem dX7_couldEnter_7 : decode cX7_couldEnter 7 = .ok (.aload_n 0, 1) := by decide +kernel
theorem dX7_couldEnter_8 : decode cX7_couldEnter 8 = .ok (.iload_n 2, 1) := by decide +kernel
theorem dX7_couldEnter_9 : decode cX7_couldEnter 9 = .ok (.invokevirtual 104, 3) := by decide +kernel
theorem dX7_couldEnter_12 : decode cX7_couldEnter 12 = .ok (.astore 5, 2) := by decide +kernel
theorem dX7_couldEnter_14 : decode cX7_couldEnter 14 = .ok (.iload_n 3, 1) := by decide +kernel
theorem dX7_couldEnter_15 : decode cX7_couldEnter 15 = .ok (.ifCond .lt 9, 3) := by decide +kernel
theorem dX7_couldEnter_18 : decode cX7_couldEnter 18 = .ok (.iload_n 3, 1) := by decide +kernel
theorem dX7_couldEnter_19 : decode cX7_couldEnter 19 = .ok (.ldc 187, 2) := by decide +kernel
theorem dX7_couldEnter_21 : decode cX7_couldEnter 21 = .ok (.if_icmp .le 13, 3) := by decide +kernel
theorem dX7_couldEnter_24 : decode cX7_couldEnter 24 = .ok (.new 45, 3) := by decide +kernel
theorem dX7_couldEnter_27 : decode cX7_couldEnter 27 = .ok (.dup, 1) := by decide +kernel
theorem dX7_couldEnter_28 : decode cX7_couldEnter 28 = .ok (.ldc 188, 2) := by decide +kernel
theorem dX7_couldEnter_30 : decode cX7_couldEnter 30 = .ok (.invokespecial 49, 3) := by decide +kernel
theorem dX7_couldEnter_33 : decode cX7_couldEnter 33 = .ok (.athrow, 1) := by decide +kernel
theorem dX7_couldEnter_34 : decode cX7_couldEnter 34 = .ok (.aload_n 0, 1) := by decide +kernel
theorem dX7_couldEnter_35 : decode cX7_couldEnter 35 = .ok (.aload 4, 2) := by decide +kernel
theorem dX7_couldEnter_37 : decode cX7_couldEnter 37 = .ok (.aload 5, 2) := by decide +kernel
theorem dX7_couldEnter_39 : decode cX7_couldEnter 39 = .ok (.iload_n 3, 1) := by decide +kernel
theorem dX7_couldEnter_40 : decode cX7_couldEnter 40 = .ok (.invokevirtual 190, 3) := by decide +kernel
theorem dX7_couldEnter_43 : decode cX7_couldEnter 43 = .ok (.ireturn, 1) := by decide +kernel
theorem dX7_open_0 : decode cX7_open 0 = .ok (.aload_n 0, 1) := by decide +kernel
theorem dX7_open_1 : decode cX7_open 1 = .ok (.iload_n 1, 1) := by decide +kernel
theorem dX7_open_2 : decode cX7_open 2 = .ok (.invokevirtual 79, 3) := by decide +kernel
theorem dX7_open_5 : decode cX7_open 5 = .ok (.astore_n 3, 1) := by decide +kernel
theorem dX7_open_6 : decode cX7_open 6 = .ok (.aload_n 0, 1) := by decide +kernel
theorem dX7_open_7 : decode cX7_open 7 = .ok (.iload_n 2, 1) := by decide +kernel
theorem dX7_open_8 : decode cX7_open 8 = .ok (.invokevirtual 104, 3) := by decide +kernel
theorem dX7_open_11 : decode cX7_open 11 = .ok (.astore 4, 2) := by decide +kernel
theorem dX7_open_13 : decode cX7_open 13 = .ok (.aload_n 0, 1) := by decide +kernel
theorem dX7_open_14 : decode cX7_open 14 = .ok (.aload_n 3, 1) := by decide +kernel
theorem dX7_open_15 : decode cX7_open 15 = .ok (.aload 4, 2) := by decide +kernel
theorem dX7_open_17 : decode cX7_open 17 = .ok (.aload_n 0, 1) := by decide +kernel
theorem dX7_open_18 : decode cX7_open 18 = .ok (.getfield 42, 3) := by decide +kernel
theorem dX7_open_21 : decode cX7_open 21 = .ok (.invokevirtual 190, 3) := by decide +kernel
theorem dX7_open_24 : decode cX7_open 24 = .ok (.ifCond .ne 13, 3) := by decide +kernel
theorem dX7_open_27 : decode cX7_open 27 = .ok (.new 56, 3) := by decide +kernel
theorem dX7_open_30 : decode cX7_open 30 = .ok (.dup, 1) := by decide +kernel
theorem dX7_open_31 : decode cX7_open 31 = .ok (.ldc 194, 2) := by decide +kernel
theorem dX7_open_33 : decode cX7_open 33 = .ok (.invokespecial 60, 3) := by decide +kernel
theorem dX7_open_36 : decode cX7_open 36 = .ok (.athrow, 1) := by decide +kernel
theorem dX7_open_37 : decode cX7_open 37 = .ok (.aload_n 0, 1) := by decide +kernel
theorem dX7_open_38 : decode cX7_open 38 = .ok (.getfield 28, 3) := by decide +kernel
theorem dX7_open_41 : decode cX7_open 41 = .ok (.invokevirtual 52, 3) := by decide +kernel
theorem dX7_open_44 : decode cX7_open 44 = .ok (.istore 5, 2) := by decide +kernel
theorem dX7_open_46 : decode cX7_open 46 = .ok (.iload 5, 2) := by decide +kernel
theorem dX7_open_48 : decode cX7_open 48 = .ok (.invokestatic 113, 3) := by decide +kernel
theorem dX7_open_51 : decode cX7_open 51 = .ok (.aload_n 0, 1) := by decide +kernel
theorem dX7_open_52 : decode cX7_open 52 = .ok (.getfield 28, 3) := by decide +kernel
theorem dX7_open_55 : decode cX7_open 55 = .ok (.new 196, 3) := by decide +kernel
theorem dX7_open_58 : decode cX7_open 58 = .ok (.dup, 1) := by decide +kernel
theorem dX7_open_59 : decode cX7_open 59 = .ok (.aload_n 3, 1) := by decide +kernel
theorem dX7_open_60 : decode cX7_open 60 = .ok (.aload 4, 2) := by decide +kernel
theorem dX7_open_62 : decode cX7_open 62 = .ok (.aload_n 0, 1) := by decide +kernel
theorem dX7_open_63 : decode cX7_open 63 = .ok (.getfield 42, 3) := by decide +kernel
theorem dX7_open_66 : decode cX7_open 66 = .ok (.invokespecial 198, 3) := by decide +kernel
theorem dX7_open_69 : decode cX7_open 69 = .ok (.invokevirtual 66, 3) := by decide +kernel
theorem dX7_open_72 : decode cX7_open 72 = .ok (.pop, 1) := by decide +kernel
theorem dX7_open_73 : decode cX7_open 73 = .ok (.aload_n 0, 1) := by decide +kernel
theorem dX7_open_74 : decode cX7_open 74 = .ok (.dup, 1) := by decide +kernel
theorem dX7_open_75 : decode cX7_open 75 = .ok (.getfield 38, 3) := by decide +kernel
theorem dX7_open_78 : decode cX7_open 78 = .ok (.iconst 1, 1) := by decide +kernel
theorem dX7_open_79 : decode cX7_open 79 = .ok (.iadd, 1) := by decide +kernel
theorem dX7_open_80 : decode cX7_open 80 = .ok (.putfield 38, 3) := by decide +kernel
theorem dX7_open_83 : decode cX7_open 83 = .ok (.aload_n 0, 1) := by decide +kernel
theorem dX7_open_84 : decode cX7_open 84 = .ok (.getfield 34, 3) := by decide +kernel
theorem dX7_open_87 : decode cX7_open 87 = .ok (.iconst 5, 1) := by decide +kernel
theorem dX7_open_88 : decode cX7_open 88 = .ok (.aload_n 3, 1) := by decide +kernel
theorem dX7_open_89 : decode cX7_open 89 = .ok (.aload 4, 2) := by decide +kernel
theorem dX7_open_91 : decode cX7_open 91 = .ok (.aload_n 0, 1) := by decide +kernel
theorem dX7_open_92 : decode cX7_open 92 = .ok (.getfield 42, 3) := by decide +kernel
theorem dX7_open_95 : decode cX7_open 95 = .ok (.invokevirtual 121, 3) := by decide +kernel
theorem dX7_open_98 : decode cX7_open 98 = .ok (.iload 5, 2) := by decide +kernel
theorem dX7_open_100 : decode cX7_open 100 = .ok (.ireturn, 1) := by decide +kernel
theorem dX7_type_0 : decode cX7_type 0 = .ok (.aload_n 0, 1) := by decide +kernel
theorem dX7_type_1 : decode cX7_type 1 = .ok (.iload_n 1, 1) := by decide +kernel
theorem dX7_type_2 : decode cX7_type 2 = .ok (.invokevirtual 199, 3) := by decide +kernel
theorem dX7_type_5 : decode cX7_type 5 = .ok (.astore_n 3, 1) := by decide +kernel
theorem dX7_type_6 : decode cX7_type 6 = .ok (.iload_n 2, 1) := by decide +kernel
theorem dX7_type_7 : decode cX7_type 7 = .ok (.ifCond .lt 8, 3) := by decide +kernel
theorem dX7_type_10 : decode cX7_type 10 = .ok (.iload_n 2, 1) := by decide +kernel
theorem dX7_type_11 : decode cX7_type 11 = .ok (.iconst 2, 1) := by decide +kernel
theorem dX7_type_12 : decode cX7_type 12 = .ok (.if_icmp .le 13, 3) := by decide +kernel
theorem dX7_type_15 : decode cX7_type 15 = .ok (.new 45, 3) := by decide +kernel
theorem dX7_type_18 : decode cX7_type 18 = .ok (.dup, 1) := by decide +kernel
theorem dX7_type_19 : decode cX7_type 19 = .ok (.ldc 203, 2) := by decide +kernel
theorem dX7_type_21 : decode cX7_type 21 = .ok (.invokespecial 49, 3) := by decide +kernel
theorem dX7_type_24 : decode cX7_type 24 = .ok (.athrow, 1) := by decide +kernel
theorem dX7_type_25 : decode cX7_type 25 = .ok (.aload_n 3, 1) := by decide +kernel
theorem dX7_type_26 : decode cX7_type 26 = .ok (.invokestatic 205, 3) := by decide +kernel
theorem dX7_type_29 : decode cX7_type 29 = .ok (.aload_n 3, 1) := by decide +kernel
theorem dX7_type_30 : decode cX7_type 30 = .ok (.invokevirtual 209, 3) := by decide +kernel
theorem dX7_type_33 : decode cX7_type 33 = .ok (.ifCond .eq 13, 3) := by decide +kernel
theorem dX7_type_36 : decode cX7_type 36 = .ok (.new 56, 3) := by decide +kernel
theorem dX7_type_39 : decode cX7_type 39 = .ok (.dup, 1) := by decide +kernel
theorem dX7_type_40 : decode cX7_type 40 = .ok (.ldc 213, 2) := by decide +kernel
theorem dX7_type_42 : decode cX7_type 42 = .ok (.invokespecial 60, 3) := by decide +kernel
theorem dX7_type_45 : decode cX7_type 45 = .ok (.athrow, 1) := by decide +kernel
theorem dX7_type_46 : decode cX7_type 46 = .ok (.aload_n 0, 1) := by decide +kernel
theorem dX7_type_47 : decode cX7_type 47 = .ok (.getfield 34, 3) := by decide +kernel
theorem dX7_type_50 : decode cX7_type 50 = .ok (.bipush 7, 2) := by decide +kernel
theorem dX7_type_52 : decode cX7_type 52 = .ok (.aload_n 3, 1) := by decide +kernel
theorem dX7_type_53 : decode cX7_type 53 = .ok (.getfield 215, 3) := by decide +kernel
theorem dX7_type_56 : decode cX7_type 56 = .ok (.aload_n 3, 1) := by decide +kernel
theorem dX7_type_57 : decode cX7_type 57 = .ok (.getfield 216, 3) := by decide +kernel
theorem dX7_type_60 : decode cX7_type 60 = .ok (.aload_n 0, 1) := by decide +kernel
theorem dX7_type_61 : decode cX7_type 61 = .ok (.getfield 42, 3) := by decide +kernel
theorem dX7_type_64 : decode cX7_type 64 = .ok (.invokevirtual 121, 3) := by decide +kernel
theorem dX7_type_67 : decode cX7_type 67 = .ok (.aload_n 3, 1) := by decide +kernel
theorem dX7_type_68 : decode cX7_type 68 = .ok (.aload_n 0, 1) := by decide +kernel
theorem dX7_type_69 : decode cX7_type 69 = .ok (.getfield 42, 3) := by decide +kernel
theorem dX7_type_72 : decode cX7_type 72 = .ok (.putfield 217, 3) := by decide +kernel
theorem dX7_type_75 : decode cX7_type 75 = .ok (.iload_n 2, 1) := by decide +kernel
theorem dX7_type_76 : decode cX7_type 76 = .ok (.ifCond .ne 15, 3) := by decide +kernel
theorem dX7_type_79 : decode cX7_type 79 = .ok (.aload_n 3, 1) := by decide +kernel
theorem dX7_type_80 : decode cX7_type 80 = .ok (.dup, 1) := by decide +kernel
theorem dX7_type_81 : decode cX7_type 81 = .ok (.getfield 220, 3) := by decide +kernel
theorem dX7_type_84 : decode cX7_type 84 = .ok (.iconst 1, 1) := by decide +kernel
theorem dX7_type_85 : decode cX7_type 85 = .ok (.iadd, 1) := by decide +kernel
theorem dX7_type_86 : decode cX7_type 86 = .ok (.putfield 220, 3) := by decide +kernel
theorem dX7_type_89 : decode cX7_type 89 = .ok (.iconst 1, 1) := by decide +kernel
theorem dX7_type_90 : decode cX7_type 90 = .ok (.ireturn, 1) := by decide +kernel
theorem dX7_type_91 : decode cX7_type 91 = .ok (.iload_n 2, 1) := by decide +kernel
theorem dX7_type_92 : decode cX7_type 92 = .ok (.iconst 1, 1) := by decide +kernel
theorem dX7_type_93 : decode cX7_type 93 = .ok (.if_icmp .ne 13, 3) := by decide +kernel
theorem dX7_type_96 : decode cX7_type 96 = .ok (.aload_n 3, 1) := by decide +kernel
theorem dX7_type_97 : decode cX7_type 97 = .ok (.aload_n 0, 1) := by decide +kernel
theorem dX7_type_98 : decode cX7_type 98 = .ok (.getfield 42, 3) := by decide +kernel
theorem dX7_type_101 : decode cX7_type 101 = .ok (.putfield 223, 3) := by decide +kernel
theorem dX7_type_104 : decode cX7_type 104 = .ok (.iconst 0, 1) := by decide +kernel
theorem dX7_type_105 : decode cX7_type 105 = .ok (.ireturn, 1) := by decide +kernel
theorem dX7_type_106 : decode cX7_type 106 = .ok (.aload_n 0, 1) := by decide +kernel
theorem dX7_type_107 : decode cX7_type 107 = .ok (.aload_n 3, 1) := by decide +kernel
theorem dX7_type_108 : decode cX7_type 108 = .ok (.getfield 215, 3) := by decide +kernel
theorem dX7_type_111 : decode cX7_type 111 = .ok (.aload_n 3, 1) := by decide +kernel
theorem dX7_type_112 : decode cX7_type 112 = .ok (.getfield 216, 3) := by decide +kernel
theorem dX7_type_115 : decode cX7_type 115 = .ok (.invokevirtual 94, 3) := by decide +kernel
theorem dX7_type_118 : decode cX7_type 118 = .ok (.aload_n 0, 1) := by decide +kernel
theorem dX7_type_119 : decode cX7_type 119 = .ok (.invokevirtual 101, 3) := by decide +kernel
theorem dX7_type_122 : decode cX7_type 122 = .ok (.pop, 1) := by decide +kernel
theorem dX7_type_123 : decode cX7_type 123 = .ok (.iconst 0, 1) := by decide +kernel
theorem dX7_type_124 : decode cX7_type 124 = .ok (.ireturn, 1) := by decide +kernel
theorem dX7_letThrough_0 : decode cX7_letThrough 0 = .ok (.aload_n 0, 1) := by decide +kernel
theorem dX7_letThrough_1 : decode cX7_letThrough 1 = .ok (.iload_n 1, 1) := by decide +kernel
theorem dX7_letThrough_2 : decode cX7_letThrough 2 = .ok (.invokevirtual 199, 3) := by decide +kernel
theorem dX7_letThrough_5 : decode cX7_letThrough 5 = .ok (.astore_n 3, 1) := by decide +kernel
theorem dX7_letThrough_6 : decode cX7_letThrough 6 = .ok (.aload_n 0, 1) := by decide +kernel
theorem dX7_letThrough_7 : decode cX7_letThrough 7 = .ok (.iload_n 2, 1) := by decide +kernel
theorem dX7_letThrough_8 : decode cX7_letThrough 8 = .ok (.invokevirtual 79, 3) := by decide +kernel
theorem dX7_letThrough_11 : decode cX7_letThrough 11 = .ok (.astore 4, 2) := by decide +kernel
theorem dX7_letThrough_13 : decode cX7_letThrough 13 = .ok (.aload_n 3, 1) := by decide +kernel
theorem dX7_letThrough_14 : decode cX7_letThrough 14 = .ok (.invokestatic 205, 3) := by decide +kernel
theorem dX7_letThrough_17 : decode cX7_letThrough 17 = .ok (.aload_n 3, 1) := by decide +kernel
theorem dX7_letThrough_18 : decode cX7_letThrough 18 = .ok (.invokevirtual 209, 3) := by decide +kernel
theorem dX7_letThrough_21 : decode cX7_letThrough 21 = .ok (.ifCond .ne 13, 3) := by decide +kernel
theorem dX7_letThrough_24 : decode cX7_letThrough 24 = .ok (.new 56, 3) := by decide +kernel
theorem dX7_letThrough_27 : decode cX7_letThrough 27 = .ok (.dup, 1) := by decide +kernel
theorem dX7_letThrough_28 : decode cX7_letThrough 28 = .ok (.ldc 226, 2) := by decide +kernel
theorem dX7_letThrough_30 : decode cX7_letThrough 30 = .ok (.invokespecial 60, 3) := by decide +kernel
theorem dX7_letThrough_33 : decode cX7_letThrough 33 = .ok (.athrow, 1) := by decide +kernel
theorem dX7_letThrough_34 : decode cX7_letThrough 34 = .ok (.aload 4, 2) := by decide +kernel
theorem dX7_letThrough_36 : decode cX7_letThrough 36 = .ok (.aload_n 3, 1) := by decide +kernel
theorem dX7_letThrough_37 : decode cX7_letThrough 37 = .ok (.getfield 215, 3) := by decide +kernel
theorem dX7_letThrough_40 : decode cX7_letThrough 40 = .ok (.aload_n 3, 1) := by decide +kernel
theorem dX7_letThrough_41 : decode cX7_letThrough 41 = .ok (.getfield 216, 3) := by decide +kernel
theorem dX7_letThrough_44 : decode cX7_letThrough 44 = .ok (.invokevirtual 228, 3) := by decide +kernel
theorem dX7_letThrough_47 : decode cX7_letThrough 47 = .ok (.ifCond .ne 13, 3) := by decide +kernel
theorem dX7_letThrough_50 : decode cX7_letThrough 50 = .ok (.new 56, 3) := by decide +kernel
theorem dX7_letThrough_53 : decode cX7_letThrough 53 = .ok (.dup, 1) := by decide +kernel
theorem dX7_letThrough_54 : decode cX7_letThrough 54 = .ok (.ldc 232, 2) := by decide +kernel
theorem dX7_letThrough_56 : decode cX7_letThrough 56 = .ok (.invokespecial 60, 3) := by decide +kernel
theorem dX7_letThrough_59 : decode cX7_letThrough 59 = .ok (.athrow, 1) := by decide +kernel
theorem dX7_letThrough_60 : decode cX7_letThrough 60 = .ok (.aload_n 0, 1) := by decide +kernel
theorem dX7_letThrough_61 : decode cX7_letThrough 61 = .ok (.getfield 42, 3) := by decide +kernel
theorem dX7_letThrough_64 : decode cX7_letThrough 64 = .ok (.aload_n 3, 1) := by decide +kernel
theorem dX7_letThrough_65 : decode cX7_letThrough 65 = .ok (.getfield 223, 3) := by decide +kernel
theorem dX7_letThrough_68 : decode cX7_letThrough 68 = .ok (.isub, 1) := by decide +kernel
theorem dX7_letThrough_69 : decode cX7_letThrough 69 = .ok (.istore 5, 2) := by decide +kernel
theorem dX7_letThrough_71 : decode cX7_letThrough 71 = .ok (.aload_n 3, 1) := by decide +kernel
theorem dX7_letThrough_72 : decode cX7_letThrough 72 = .ok (.iconst (-1), 1) := by decide +kernel
theorem dX7_letThrough_73 : decode cX7_letThrough 73 = .ok (.putfield 223, 3) := by decide +kernel
theorem dX7_letThrough_76 : decode cX7_letThrough 76 = .ok (.aload_n 3, 1) := by decide +kernel
theorem dX7_letThrough_77 : decode cX7_letThrough 77 = .ok (.dup, 1) := by decide +kernel
theorem dX7_letThrough_78 : decode cX7_letThrough 78 = .ok (.getfield 220, 3) := by decide +kernel
theorem dX7_letThrough_81 : decode cX7_letThrough 81 = .ok (.iconst 1, 1) := by decide +kernel
theorem dX7_letThrough_82 : decode cX7_letThrough 82 = .ok (.iadd, 1) := by decide +kernel
theorem dX7_letThrough_83 : decode cX7_letThrough 83 = .ok (.putfield 220, 3) := by decide +kernel
theorem dX7_letThrough_86 : decode cX7_letThrough 86 = .ok (.aload_n 0, 1) := by decide +kernel
theorem dX7_letThrough_87 : decode cX7_letThrough 87 = .ok (.getfield 34, 3) := by decide +kernel
theorem dX7_letThrough_90 : decode cX7_letThrough 90 = .ok (.bipush 8, 2) := by decide +kernel
theorem dX7_letThrough_92 : decode cX7_letThrough 92 = .ok (.aload 4, 2) := by decide +kernel
theorem dX7_letThrough_94 : decode cX7_letThrough 94 = .ok (.aload_n 3, 1) := by decide +kernel
theorem dX7_letThrough_95 : decode cX7_letThrough 95 = .ok (.getfield 216, 3) := by decide +kernel
theorem dX7_letThrough_98 : decode cX7_letThrough 98 = .ok (.aload_n 0, 1) := by decide +kernel
theorem dX7_letThrough_99 : decode cX7_letThrough 99 = .ok (.getfield 42, 3) := by decide +kernel
theorem dX7_letThrough_102 : decode cX7_letThrough 102 = .ok (.invokevirtual 121, 3) := by decide +kernel
theorem dX7_letThrough_105 : decode cX7_letThrough 105 = .ok (.iload 5, 2) := by decide +kernel
theorem dX7_letThrough_107 : decode cX7_letThrough 107 = .ok (.ireturn, 1) := by decide +kernel
theorem dX7_close_0 : decode cX7_close 0 = .ok (.aload_n 0, 1) := by decide +kernel
theorem dX7_close_1 : decode cX7_close 1 = .ok (.iload_n 1, 1) := by decide +kernel
theorem dX7_close_2 : decode cX7_close 2 = .ok (.invokevirtual 199, 3) := by decide +kernel
theorem dX7_close_5 : decode cX7_close 5 = .ok (.astore_n 2, 1) := by decide +kernel
theorem dX7_close_6 : decode cX7_close 6 = .ok (.aload_n 2, 1) := by decide +kernel
theorem dX7_close_7 : decode cX7_close 7 = .ok (.invokestatic 205, 3) := by decide +kernel
theorem dX7_close_10 : decode cX7_close 10 = .ok (.aload_n 0, 1) := by decide +kernel
theorem dX7_close_11 : decode cX7_close 11 = .ok (.aload_n 2, 1) := by decide +kernel
theorem dX7_close_12 : decode cX7_close 12 = .ok (.invokevirtual 234, 3) := by decide +kernel
theorem dX7_close_15 : decode cX7_close 15 = .ok (.aload_n 2, 1) := by decide +kernel
theorem dX7_close_16 : decode cX7_close 16 = .ok (.getfield 220, 3) := by decide +kernel
theorem dX7_close_19 : decode cX7_close 19 = .ok (.ireturn, 1) := by decide +kernel
theorem dX7_isOpen_0 : decode cX7_isOpen 0 = .ok (.aload_n 0, 1) := by decide +kernel
theorem dX7_isOpen_1 : decode cX7_isOpen 1 = .ok (.iload_n 1, 1) := by decide +kernel
theorem dX7_isOpen_2 : decode cX7_isOpen 2 = .ok (.invokevirtual 199, 3) := by decide +kernel
theorem dX7_isOpen_5 : decode cX7_isOpen 5 = .ok (.getfield 237, 3) := by decide +kernel
theorem dX7_isOpen_8 : decode cX7_isOpen 8 = .ok (.ifCond .ne 7, 3) := by decide +kernel
theorem dX7_isOpen_11 : decode cX7_isOpen 11 = .ok (.iconst 1, 1) := by decide +kernel
theorem dX7_isOpen_12 : decode cX7_isOpen 12 = .ok (.goto 4, 3) := by decide +kernel
theorem dX7_isOpen_15 : decode cX7_isOpen 15 = .ok (.iconst 0, 1) := by decide +kernel
theorem dX7_isOpen_16 : decode cX7_isOpen 16 = .ok (.ireturn, 1) := by decide +kernel
theorem dX7_openSessions_0 : decode cX7_openSessions 0 = .ok (.aload_n 0, 1) := by decide +kernel
theorem dX7_openSessions_1 : decode cX7_openSessions 1 = .ok (.getfield 38, 3) := by decide +kernel
theorem dX7_openSessions_4 : decode cX7_openSessions 4 = .ok (.ireturn, 1) := by decide +kernel
theorem dX7_pass_0 : decode cX7_pass 0 = .ok (.iload_n 1, 1) := by decide +kernel
theorem dX7_pass_1 : decode cX7_pass 1 = .ok (.iconst 1, 1) := by decide +kernel
theorem dX7_pass_2 : decode cX7_pass 2 = .ok (.if_icmp .lt 10, 3) := by decide +kernel
theorem dX7_pass_5 : decode cX7_pass 5 = .ok (.iload_n 1, 1) := by decide +kernel
theorem dX7_pass_6 : decode cX7_pass 6 = .ok (.sipush 3000, 3) := by decide +kernel
theorem dX7_pass_9 : decode cX7_pass 9 = .ok (.if_icmp .le 13, 3) := by decide +kernel
theorem dX7_pass_12 : decode cX7_pass 12 = .ok (.new 45, 3) := by decide +kernel
theorem dX7_pass_15 : decode cX7_pass 15 = .ok (.dup, 1) := by decide +kernel
theorem dX7_pass_16 : decode cX7_pass 16 = .ok (.ldc 108, 2) := by decide +kernel
theorem dX7_pass_18 : decode cX7_pass 18 = .ok (.invokespecial 49, 3) := by decide +kernel
theorem dX7_pass_21 : decode cX7_pass 21 = .ok (.athrow, 1) := by decide +kernel
theorem dX7_pass_22 : decode cX7_pass 22 = .ok (.aload_n 0, 1) := by decide +kernel
theorem dX7_pass_23 : decode cX7_pass 23 = .ok (.getfield 42, 3) := by decide +kernel
theorem dX7_pass_26 : decode cX7_pass 26 = .ok (.iload_n 1, 1) := by decide +kernel
theorem dX7_pass_27 : decode cX7_pass 27 = .ok (.iadd, 1) := by decide +kernel
theorem dX7_pass_28 : decode cX7_pass 28 = .ok (.istore_n 2, 1) := by decide +kernel
theorem dX7_pass_29 : decode cX7_pass 29 = .ok (.iload_n 2, 1) := by decide +kernel
theorem dX7_pass_30 : decode cX7_pass 30 = .ok (.ldc 187, 2) := by decide +kernel
theorem dX7_pass_32 : decode cX7_pass 32 = .ok (.if_icmp .le 13, 3) := by decide +kernel
theorem dX7_pass_35 : decode cX7_pass 35 = .ok (.new 56, 3) := by decide +kernel
theorem dX7_pass_38 : decode cX7_pass 38 = .ok (.dup, 1) := by decide +kernel
theorem dX7_pass_39 : decode cX7_pass 39 = .ok (.ldc 240, 2) := by decide +kernel
theorem dX7_pass_41 : decode cX7_pass 41 = .ok (.invokespecial 60, 3) := by decide +kernel
theorem dX7_pass_44 : decode cX7_pass 44 = .ok (.athrow, 1) := by decide +kernel
theorem dX7_pass_45 : decode cX7_pass 45 = .ok (.iconst 0, 1) := by decide +kernel
theorem dX7_pass_46 : decode cX7_pass 46 = .ok (.istore_n 3, 1) := by decide +kernel
theorem dX7_pass_47 : decode cX7_pass 47 = .ok (.iconst 0, 1) := by decide +kernel
theorem dX7_pass_48 : decode cX7_pass 48 = .ok (.istore 4, 2) := by decide +kernel
theorem dX7_pass_50 : decode cX7_pass 50 = .ok (.iload 4, 2) := by decide +kernel
theorem dX7_pass_52 : decode cX7_pass 52 = .ok (.iload_n 1, 1) := by decide +kernel
theorem dX7_pass_53 : decode cX7_pass 53 = .ok (.if_icmp .ge 33, 3) := by decide +kernel
theorem dX7_pass_56 : decode cX7_pass 56 = .ok (.aload_n 0, 1) := by decide +kernel
theorem dX7_pass_57 : decode cX7_pass 57 = .ok (.getfield 38, 3) := by decide +kernel
theorem dX7_pass_60 : decode cX7_pass 60 = .ok (.ifCond .le 26, 3) := by decide +kernel
theorem dX7_pass_63 : decode cX7_pass 63 = .ok (.aload_n 0, 1) := by decide +kernel
theorem dX7_pass_64 : decode cX7_pass 64 = .ok (.dup, 1) := by decide +kernel
theorem dX7_pass_65 : decode cX7_pass 65 = .ok (.getfield 42, 3) := by decide +kernel
theorem dX7_pass_68 : decode cX7_pass 68 = .ok (.iconst 1, 1) := by decide +kernel
theorem dX7_pass_69 : decode cX7_pass 69 = .ok (.iadd, 1) := by decide +kernel
theorem dX7_pass_70 : decode cX7_pass 70 = .ok (.putfield 42, 3) := by decide +kernel
theorem dX7_pass_73 : decode cX7_pass 73 = .ok (.iload_n 3, 1) := by decide +kernel
theorem dX7_pass_74 : decode cX7_pass 74 = .ok (.aload_n 0, 1) := by decide +kernel
theorem dX7_pass_75 : decode cX7_pass 75 = .ok (.invokevirtual 101, 3) := by decide +kernel
theorem dX7_pass_78 : decode cX7_pass 78 = .ok (.iadd, 1) := by decide +kernel
theorem dX7_pass_79 : decode cX7_pass 79 = .ok (.istore_n 3, 1) := by decide +kernel
theorem dX7_pass_80 : decode cX7_pass 80 = .ok (.iinc 4 1, 3) := by decide +kernel
theorem dX7_pass_83 : decode cX7_pass 83 = .ok (.goto (-33), 3) := by decide +kernel
theorem dX7_pass_86 : decode cX7_pass 86 = .ok (.aload_n 0, 1) := by decide +kernel
theorem dX7_pass_87 : decode cX7_pass 87 = .ok (.iload_n 2, 1) := by decide +kernel
theorem dX7_pass_88 : decode cX7_pass 88 = .ok (.putfield 42, 3) := by decide +kernel
theorem dX7_pass_91 : decode cX7_pass 91 = .ok (.iload_n 3, 1) := by decide +kernel
theorem dX7_pass_92 : decode cX7_pass 92 = .ok (.ireturn, 1) := by decide +kernel
theorem dX7_clock_0 : decode cX7_clock 0 = .ok (.aload_n 0, 1) := by decide +kernel
theorem dX7_clock_1 : decode cX7_clock 1 = .ok (.getfield 42, 3) := by decide +kernel
theorem dX7_clock_4 : decode cX7_clock 4 = .ok (.ireturn, 1) := by decide +kernel
theorem dX7_steps_0 : decode cX7_steps 0 = .ok (.aload_n 0, 1) := by decide +kernel
theorem dX7_steps_1 : decode cX7_steps 1 = .ok (.getfield 34, 3) := by decide +kernel
theorem dX7_steps_4 : decode cX7_steps 4 = .ok (.getfield 242, 3) := by decide +kernel
theorem dX7_steps_7 : decode cX7_steps 7 = .ok (.ireturn, 1) := by decide +kernel
theorem dX7_kind_0 : decode cX7_kind 0 = .ok (.aload_n 0, 1) := by decide +kernel
theorem dX7_kind_1 : decode cX7_kind 1 = .ok (.iload_n 1, 1) := by decide +kernel
theorem dX7_kind_2 : decode cX7_kind 2 = .ok (.invokevirtual 245, 3) := by decide +kernel
theorem dX7_kind_5 : decode cX7_kind 5 = .ok (.aload_n 0, 1) := by decide +kernel
theorem dX7_kind_6 : decode cX7_kind 6 = .ok (.getfield 34, 3) := by decide +kernel
theorem dX7_kind_9 : decode cX7_kind 9 = .ok (.getfield 248, 3) := by decide +kernel
theorem dX7_kind_12 : decode cX7_kind 12 = .ok (.iload_n 1, 1) := by decide +kernel
theorem dX7_kind_13 : decode cX7_kind 13 = .ok (.iaload, 1) := by decide +kernel
theorem dX7_kind_14 : decode cX7_kind 14 = .ok (.ireturn, 1) := by decide +kernel
theorem dX7_seal_0 : decode cX7_seal 0 = .ok (.aload_n 0, 1) := by decide +kernel
theorem dX7_seal_1 : decode cX7_seal 1 = .ok (.iload_n 1, 1) := by decide +kernel
theorem dX7_seal_2 : decode cX7_seal 2 = .ok (.invokevirtual 245, 3) := by decide +kernel
theorem dX7_seal_5 : decode cX7_seal 5 = .ok (.aload_n 0, 1) := by decide +kernel
theorem dX7_seal_6 : decode cX7_seal 6 = .ok (.getfield 34, 3) := by decide +kernel
theorem dX7_seal_9 : decode cX7_seal 9 = .ok (.getfield 252, 3) := by decide +kernel
theorem dX7_seal_12 : decode cX7_seal 12 = .ok (.iload_n 1, 1) := by decide +kernel
theorem dX7_seal_13 : decode cX7_seal 13 = .ok (.iaload, 1) := by decide +kernel
theorem dX7_seal_14 : decode cX7_seal 14 = .ok (.ireturn, 1) := by decide +kernel
theorem dX7_personAt_0 : decode cX7_personAt 0 = .ok (.iload_n 1, 1) := by decide +kernel
theorem dX7_personAt_1 : decode cX7_personAt 1 = .ok (.ifCond .lt 14, 3) := by decide +kernel
theorem dX7_personAt_4 : decode cX7_personAt 4 = .ok (.iload_n 1, 1) := by decide +kernel
theorem dX7_personAt_5 : decode cX7_personAt 5 = .ok (.aload_n 0, 1) := by decide +kernel
theorem dX7_personAt_6 : decode cX7_personAt 6 = .ok (.getfield 12, 3) := by decide +kernel
theorem dX7_personAt_9 : decode cX7_personAt 9 = .ok (.invokevirtual 52, 3) := by decide +kernel
theorem dX7_personAt_12 : decode cX7_personAt 12 = .ok (.if_icmp .lt 14, 3) := by decide +kernel
theorem dX7_personAt_15 : decode cX7_personAt 15 = .ok (.new 255, 3) := by decide +kernel
theorem dX7_personAt_18 : decode cX7_personAt 18 = .ok (.dup, 1) := by decide +kernel
theorem dX7_personAt_19 : decode cX7_personAt 19 = .ok (.ldc_w 257, 3) := by decide +kernel
theorem dX7_personAt_22 : decode cX7_personAt 22 = .ok (.invokespecial 259, 3) := by decide +kernel
theorem dX7_personAt_25 : decode cX7_personAt 25 = .ok (.athrow, 1) := by decide +kernel
theorem dX7_personAt_26 : decode cX7_personAt 26 = .ok (.aload_n 0, 1) := by decide +kernel
theorem dX7_personAt_27 : decode cX7_personAt 27 = .ok (.getfield 12, 3) := by decide +kernel
theorem dX7_personAt_30 : decode cX7_personAt 30 = .ok (.iload_n 1, 1) := by decide +kernel
theorem dX7_personAt_31 : decode cX7_personAt 31 = .ok (.invokevirtual 87, 3) := by decide +kernel
theorem dX7_personAt_34 : decode cX7_personAt 34 = .ok (.checkcast 61, 3) := by decide +kernel
theorem dX7_personAt_37 : decode cX7_personAt 37 = .ok (.areturn, 1) := by decide +kernel
theorem dX7_machineAt_0 : decode cX7_machineAt 0 = .ok (.iload_n 1, 1) := by decide +kernel
theorem dX7_machineAt_1 : decode cX7_machineAt 1 = .ok (.ifCond .lt 14, 3) := by decide +kernel
theorem dX7_machineAt_4 : decode cX7_machineAt 4 = .ok (.iload_n 1, 1) := by decide +kernel
theorem dX7_machineAt_5 : decode cX7_machineAt 5 = .ok (.aload_n 0, 1) := by decide +kernel
theorem dX7_machineAt_6 : decode cX7_machineAt 6 = .ok (.getfield 16, 3) := by decide +kernel
theorem dX7_machineAt_9 : decode cX7_machineAt 9 = .ok (.invokevirtual 52, 3) := by decide +kernel
theorem dX7_machineAt_12 : decode cX7_machineAt 12 = .ok (.if_icmp .lt 14, 3) := by decide +kernel
theorem dX7_machineAt_15 : decode cX7_machineAt 15 = .ok (.new 255, 3) := by decide +kernel
theorem dX7_machineAt_18 : decode cX7_machineAt 18 = .ok (.dup, 1) := by decide +kernel
theorem dX7_machineAt_19 : decode cX7_machineAt 19 = .ok (.ldc_w 260, 3) := by decide +kernel
theorem dX7_machineAt_22 : decode cX7_machineAt 22 = .ok (.invokespecial 259, 3) := by decide +kernel
theorem dX7_machineAt_25 : decode cX7_machineAt 25 = .ok (.athrow, 1) := by decide +kernel
theorem dX7_machineAt_26 : decode cX7_machineAt 26 = .ok (.aload_n 0, 1) := by decide +kernel
theorem dX7_machineAt_27 : decode cX7_machineAt 27 = .ok (.getfield 16, 3) := by decide +kernel
theorem dX7_machineAt_30 : decode cX7_machineAt 30 = .ok (.iload_n 1, 1) := by decide +kernel
theorem dX7_machineAt_31 : decode cX7_machineAt 31 = .ok (.invokevirtual 87, 3) := by decide +kernel
theorem dX7_machineAt_34 : decode cX7_machineAt 34 = .ok (.checkcast 76, 3) := by decide +kernel
theorem dX7_machineAt_37 : decode cX7_machineAt 37 = .ok (.areturn, 1) := by decide +kernel
theorem dX7_askAt_0 : decode cX7_askAt 0 = .ok (.iload_n 1, 1) := by decide +kernel
theorem dX7_askAt_1 : decode cX7_askAt 1 = .ok (.ifCond .lt 14, 3) := by decide +kernel
theorem dX7_askAt_4 : decode cX7_askAt 4 = .ok (.iload_n 1, 1) := by decide +kernel
theorem dX7_askAt_5 : decode cX7_askAt 5 = .ok (.aload_n 0, 1) := by decide +kernel
theorem dX7_askAt_6 : decode cX7_askAt 6 = .ok (.getfield 19, 3) := by decide +kernel
theorem dX7_askAt_9 : decode cX7_askAt 9 = .ok (.invokevirtual 52, 3) := by decide +kernel
theorem dX7_askAt_12 : decode cX7_askAt 12 = .ok (.if_icmp .lt 14, 3) := by decide +kernel
theorem dX7_askAt_15 : decode cX7_askAt 15 = .ok (.new 255, 3) := by decide +kernel
theorem dX7_askAt_18 : decode cX7_askAt 18 = .ok (.dup, 1) := by decide +kernel
theorem dX7_askAt_19 : decode cX7_askAt 19 = .ok (.ldc_w 262, 3) := by decide +kernel
theorem dX7_askAt_22 : decode cX7_askAt 22 = .ok (.invokespecial 259, 3) := by decide +kernel
theorem dX7_askAt_25 : decode cX7_askAt 25 = .ok (.athrow, 1) := by decide +kernel
theorem dX7_askAt_26 : decode cX7_askAt 26 = .ok (.aload_n 0, 1) := by decide +kernel
theorem dX7_askAt_27 : decode cX7_askAt 27 = .ok (.getfield 19, 3) := by decide +kernel
theorem dX7_askAt_30 : decode cX7_askAt 30 = .ok (.iload_n 1, 1) := by decide +kernel
theorem dX7_askAt_31 : decode cX7_askAt 31 = .ok (.invokevirtual 87, 3) := by decide +kernel
theorem dX7_askAt_34 : decode cX7_askAt 34 = .ok (.checkcast 116, 3) := by decide +kernel
theorem dX7_askAt_37 : decode cX7_askAt 37 = .ok (.areturn, 1) := by decide +kernel
theorem dX7_entryAt_0 : decode cX7_entryAt 0 = .ok (.iload_n 1, 1) := by decide +kernel
theorem dX7_entryAt_1 : decode cX7_entryAt 1 = .ok (.ifCond .lt 14, 3) := by decide +kernel
theorem dX7_entryAt_4 : decode cX7_entryAt 4 = .ok (.iload_n 1, 1) := by decide +kernel
theorem dX7_entryAt_5 : decode cX7_entryAt 5 = .ok (.aload_n 0, 1) := by decide +kernel
theorem dX7_entryAt_6 : decode cX7_entryAt 6 = .ok (.getfield 22, 3) := by decide +kernel
theorem dX7_entryAt_9 : decode cX7_entryAt 9 = .ok (.invokevirtual 52, 3) := by decide +kernel
theorem dX7_entryAt_12 : decode cX7_entryAt 12 = .ok (.if_icmp .lt 14, 3) := by decide +kernel
theorem dX7_entryAt_15 : decode cX7_entryAt 15 = .ok (.new 255, 3) := by decide +kernel
theorem dX7_entryAt_18 : decode cX7_entryAt 18 = .ok (.dup, 1) := by decide +kernel
theorem dX7_entryAt_19 : decode cX7_entryAt 19 = .ok (.ldc_w 264, 3) := by decide +kernel
theorem dX7_entryAt_22 : decode cX7_entryAt 22 = .ok (.invokespecial 259, 3) := by decide +kernel
theorem dX7_entryAt_25 : decode cX7_entryAt 25 = .ok (.athrow, 1) := by decide +kernel
theorem dX7_entryAt_26 : decode cX7_entryAt 26 = .ok (.aload_n 0, 1) := by decide +kernel
theorem dX7_entryAt_27 : decode cX7_entryAt 27 = .ok (.getfield 22, 3) := by decide +kernel
theorem dX7_entryAt_30 : decode cX7_entryAt 30 = .ok (.iload_n 1, 1) := by decide +kernel
theorem dX7_entryAt_31 : decode cX7_entryAt 31 = .ok (.invokevirtual 87, 3) := by decide +kernel
theorem dX7_entryAt_34 : decode cX7_entryAt 34 = .ok (.checkcast 158, 3) := by decide +kernel
theorem dX7_entryAt_37 : decode cX7_entryAt 37 = .ok (.areturn, 1) := by decide +kernel
theorem dX7_sessionAt_0 : decode cX7_sessionAt 0 = .ok (.iload_n 1, 1) := by decide +kernel
theorem dX7_sessionAt_1 : decode cX7_sessionAt 1 = .ok (.ifCond .lt 14, 3) := by decide +kernel
theorem dX7_sessionAt_4 : decode cX7_sessionAt 4 = .ok (.iload_n 1, 1) := by decide +kernel
theorem dX7_sessionAt_5 : decode cX7_sessionAt 5 = .ok (.aload_n 0, 1) := by decide +kernel
theorem dX7_sessionAt_6 : decode cX7_sessionAt 6 = .ok (.getfield 28, 3) := by decide +kernel
theorem dX7_sessionAt_9 : decode cX7_sessionAt 9 = .ok (.invokevirtual 52, 3) := by decide +kernel
theorem dX7_sessionAt_12 : decode cX7_sessionAt 12 = .ok (.if_icmp .lt 14, 3) := by decide +kernel
theorem dX7_sessionAt_15 : decode cX7_sessionAt 15 = .ok (.new 255, 3) := by decide +kernel
theorem dX7_sessionAt_18 : decode cX7_sessionAt 18 = .ok (.dup, 1) := by decide +kernel
theorem dX7_sessionAt_19 : decode cX7_sessionAt 19 = .ok (.ldc_w 266, 3) := by decide +kernel
theorem dX7_sessionAt_22 : decode cX7_sessionAt 22 = .ok (.invokespecial 259, 3) := by decide +kernel
theorem dX7_sessionAt_25 : decode cX7_sessionAt 25 = .ok (.athrow, 1) := by decide +kernel
theorem dX7_sessionAt_26 : decode cX7_sessionAt 26 = .ok (.aload_n 0, 1) := by decide +kernel
theorem dX7_sessionAt_27 : decode cX7_sessionAt 27 = .ok (.getfield 28, 3) := by decide +kernel
theorem dX7_sessionAt_30 : decode cX7_sessionAt 30 = .ok (.iload_n 1, 1) := by decide +kernel
theorem dX7_sessionAt_31 : decode cX7_sessionAt 31 = .ok (.invokevirtual 87, 3) := by decide +kernel
theorem dX7_sessionAt_34 : decode cX7_sessionAt 34 = .ok (.checkcast 196, 3) := by decide +kernel
theorem dX7_sessionAt_37 : decode cX7_sessionAt 37 = .ok (.areturn, 1) := by decide +kernel
theorem dX7_requireStep_0 : decode cX7_requireStep 0 = .ok (.iload_n 1, 1) := by decide +kernel
theorem dX7_requireStep_1 : decode cX7_requireStep 1 = .ok (.ifCond .lt 14, 3) := by decide +kernel
theorem dX7_requireStep_4 : decode cX7_requireStep 4 = .ok (.iload_n 1, 1) := by decide +kernel
theorem dX7_requireStep_5 : decode cX7_requireStep 5 = .ok (.aload_n 0, 1) := by decide +kernel
theorem dX7_requireStep_6 : decode cX7_requireStep 6 = .ok (.getfield 34, 3) := by decide +kernel
theorem dX7_requireStep_9 : decode cX7_requireStep 9 = .ok (.getfield 242, 3) := by decide +kernel
theorem dX7_requireStep_12 : decode cX7_requireStep 12 = .ok (.if_icmp .lt 14, 3) := by decide +kernel
theorem dX7_requireStep_15 : decode cX7_requireStep 15 = .ok (.new 255, 3) := by decide +kernel
theorem dX7_requireStep_18 : decode cX7_requireStep 18 = .ok (.dup, 1) := by decide +kernel
theorem dX7_requireStep_19 : decode cX7_requireStep 19 = .ok (.ldc_w 268, 3) := by decide +kernel
theorem dX7_requireStep_22 : decode cX7_requireStep 22 = .ok (.invokespecial 259, 3) := by decide +kernel
theorem dX7_requireStep_25 : decode cX7_requireStep 25 = .ok (.athrow, 1) := by decide +kernel
theorem dX7_requireStep_26 : decode cX7_requireStep 26 = .ok (.return_, 1) := by decide +kernel
theorem dX7_requireLabel_0 : decode cX7_requireLabel 0 = .ok (.iload_n 0, 1) := by decide +kernel
theorem dX7_requireLabel_1 : decode cX7_requireLabel 1 = .ok (.ifCond .lt 8, 3) := by decide +kernel
theorem dX7_requireLabel_4 : decode cX7_requireLabel 4 = .ok (.iload_n 0, 1) := by decide +kernel
theorem dX7_requireLabel_5 : decode cX7_requireLabel 5 = .ok (.iconst 4, 1) := by decide +kernel
theorem dX7_requireLabel_6 : decode cX7_requireLabel 6 = .ok (.if_icmp .lt 14, 3) := by decide +kernel
theorem dX7_requireLabel_9 : decode cX7_requireLabel 9 = .ok (.new 45, 3) := by decide +kernel
theorem dX7_requireLabel_12 : decode cX7_requireLabel 12 = .ok (.dup, 1) := by decide +kernel
theorem dX7_requireLabel_13 : decode cX7_requireLabel 13 = .ok (.ldc_w 270, 3) := by decide +kernel
theorem dX7_requireLabel_16 : decode cX7_requireLabel 16 = .ok (.invokespecial 49, 3) := by decide +kernel
theorem dX7_requireLabel_19 : decode cX7_requireLabel 19 = .ok (.athrow, 1) := by decide +kernel
theorem dX7_requireLabel_20 : decode cX7_requireLabel 20 = .ok (.return_, 1) := by decide +kernel
theorem dX7_requireRoomFor_0 : decode cX7_requireRoomFor 0 = .ok (.iload_n 0, 1) := by decide +kernel
theorem dX7_requireRoomFor_1 : decode cX7_requireRoomFor 1 = .ok (.sipush 512, 3) := by decide +kernel
theorem dX7_requireRoomFor_4 : decode cX7_requireRoomFor 4 = .ok (.if_icmp .lt 14, 3) := by decide +kernel
theorem dX7_requireRoomFor_7 : decode cX7_requireRoomFor 7 = .ok (.new 56, 3) := by decide +kernel
theorem dX7_requireRoomFor_10 : decode cX7_requireRoomFor 10 = .ok (.dup, 1) := by decide +kernel
theorem dX7_requireRoomFor_11 : decode cX7_requireRoomFor 11 = .ok (.ldc_w 272, 3) := by decide +kernel
theorem dX7_requireRoomFor_14 : decode cX7_requireRoomFor 14 = .ok (.invokespecial 60, 3) := by decide +kernel
theorem dX7_requireRoomFor_17 : decode cX7_requireRoomFor 17 = .ok (.athrow, 1) := by decide +kernel
theorem dX7_requireRoomFor_18 : decode cX7_requireRoomFor 18 = .ok (.return_, 1) := by decide +kernel
theorem dX7_requireOpen_0 : decode cX7_requireOpen 0 = .ok (.aload_n 0, 1) := by decide +kernel
theorem dX7_requireOpen_1 : decode cX7_requireOpen 1 = .ok (.getfield 237, 3) := by decide +kernel
theorem dX7_requireOpen_4 : decode cX7_requireOpen 4 = .ok (.ifCond .eq 14, 3) := by decide +kernel
theorem dX7_requireOpen_7 : decode cX7_requireOpen 7 = .ok (.new 56, 3) := by decide +kernel
theorem dX7_requireOpen_10 : decode cX7_requireOpen 10 = .ok (.dup, 1) := by decide +kernel
theorem dX7_requireOpen_11 : decode cX7_requireOpen 11 = .ok (.ldc_w 274, 3) := by decide +kernel
theorem dX7_requireOpen_14 : decode cX7_requireOpen 14 = .ok (.invokespecial 60, 3) := by decide +kernel
theorem dX7_requireOpen_17 : decode cX7_requireOpen 17 = .ok (.athrow, 1) := by decide +kernel
theorem dX7_requireOpen_18 : decode cX7_requireOpen 18 = .ok (.return_, 1) := by decide +kernel
theorem dX7_requireMayAskOrEnter_0 : decode cX7_requireMayAskOrEnter 0 = .ok (.aload_n 1, 1) := by decide +kernel
theorem dX7_requireMayAskOrEnter_1 : decode cX7_requireMayAskOrEnter 1 = .ok (.aload_n 2, 1) := by decide +kernel
theorem dX7_requireMayAskOrEnter_2 : decode cX7_requireMayAskOrEnter 2 = .ok (.getfield 91, 3) := by decide +kernel
theorem dX7_requireMayAskOrEnter_5 : decode cX7_requireMayAskOrEnter 5 = .ok (.invokevirtual 276, 3) := by decide +kernel
theorem dX7_requireMayAskOrEnter_8 : decode cX7_requireMayAskOrEnter 8 = .ok (.ifCond .ne 14, 3) := by decide +kernel
theorem dX7_requireMayAskOrEnter_11 : decode cX7_requireMayAskOrEnter 11 = .ok (.new 56, 3) := by decide +kernel
theorem dX7_requireMayAskOrEnter_14 : decode cX7_requireMayAskOrEnter 14 = .ok (.dup, 1) := by decide +kernel
theorem dX7_requireMayAskOrEnter_15 : decode cX7_requireMayAskOrEnter 15 = .ok (.ldc_w 280, 3) := by decide +kernel
theorem dX7_requireMayAskOrEnter_18 : decode cX7_requireMayAskOrEnter 18 = .ok (.invokespecial 60, 3) := by decide +kernel
theorem dX7_requireMayAskOrEnter_21 : decode cX7_requireMayAskOrEnter 21 = .ok (.athrow, 1) := by decide +kernel
theorem dX7_requireMayAskOrEnter_22 : decode cX7_requireMayAskOrEnter 22 = .ok (.aload_n 0, 1) := by decide +kernel
theorem dX7_requireMayAskOrEnter_23 : decode cX7_requireMayAskOrEnter 23 = .ok (.aload_n 1, 1) := by decide +kernel
theorem dX7_requireMayAskOrEnter_24 : decode cX7_requireMayAskOrEnter 24 = .ok (.invokevirtual 183, 3) := by decide +kernel
theorem dX7_requireMayAskOrEnter_27 : decode cX7_requireMayAskOrEnter 27 = .ok (.ifCond .le 14, 3) := by decide +kernel
theorem dX7_requireMayAskOrEnter_30 : decode cX7_requireMayAskOrEnter 30 = .ok (.new 56, 3) := by decide +kernel
theorem dX7_requireMayAskOrEnter_33 : decode cX7_requireMayAskOrEnter 33 = .ok (.dup, 1) := by decide +kernel
theorem dX7_requireMayAskOrEnter_34 : decode cX7_requireMayAskOrEnter 34 = .ok (.ldc_w 282, 3) := by decide +kernel
theorem dX7_requireMayAskOrEnter_37 : decode cX7_requireMayAskOrEnter 37 = .ok (.invokespecial 60, 3) := by decide +kernel
theorem dX7_requireMayAskOrEnter_40 : decode cX7_requireMayAskOrEnter 40 = .ok (.athrow, 1) := by decide +kernel
theorem dX7_requireMayAskOrEnter_41 : decode cX7_requireMayAskOrEnter 41 = .ok (.return_, 1) := by decide +kernel
theorem dX7_requireMayJudge_0 : decode cX7_requireMayJudge 0 = .ok (.aload_n 1, 1) := by decide +kernel
theorem dX7_requireMayJudge_1 : decode cX7_requireMayJudge 1 = .ok (.aload_n 0, 1) := by decide +kernel
theorem dX7_requireMayJudge_2 : decode cX7_requireMayJudge 2 = .ok (.getfield 42, 3) := by decide +kernel
theorem dX7_requireMayJudge_5 : decode cX7_requireMayJudge 5 = .ok (.invokevirtual 154, 3) := by decide +kernel
theorem dX7_requireMayJudge_8 : decode cX7_requireMayJudge 8 = .ok (.ifCond .eq 14, 3) := by decide +kernel
theorem dX7_requireMayJudge_11 : decode cX7_requireMayJudge 11 = .ok (.new 56, 3) := by decide +kernel
theorem dX7_requireMayJudge_14 : decode cX7_requireMayJudge 14 = .ok (.dup, 1) := by decide +kernel
theorem dX7_requireMayJudge_15 : decode cX7_requireMayJudge 15 = .ok (.ldc_w 284, 3) := by decide +kernel
theorem dX7_requireMayJudge_18 : decode cX7_requireMayJudge 18 = .ok (.invokespecial 60, 3) := by decide +kernel
theorem dX7_requireMayJudge_21 : decode cX7_requireMayJudge 21 = .ok (.athrow, 1) := by decide +kernel
theorem dX7_requireMayJudge_22 : decode cX7_requireMayJudge 22 = .ok (.aload_n 2, 1) := by decide +kernel
theorem dX7_requireMayJudge_23 : decode cX7_requireMayJudge 23 = .ok (.aload_n 1, 1) := by decide +kernel
theorem dX7_requireMayJudge_24 : decode cX7_requireMayJudge 24 = .ok (.getfield 147, 3) := by decide +kernel
theorem dX7_requireMayJudge_27 : decode cX7_requireMayJudge 27 = .ok (.aload_n 1, 1) := by decide +kernel
theorem dX7_requireMayJudge_28 : decode cX7_requireMayJudge 28 = .ok (.getfield 138, 3) := by decide +kernel
theorem dX7_requireMayJudge_31 : decode cX7_requireMayJudge 31 = .ok (.invokevirtual 228, 3) := by decide +kernel
theorem dX7_requireMayJudge_34 : decode cX7_requireMayJudge 34 = .ok (.ifCond .ne 14, 3) := by decide +kernel
theorem dX7_requireMayJudge_37 : decode cX7_requireMayJudge 37 = .ok (.new 56, 3) := by decide +kernel
theorem dX7_requireMayJudge_40 : decode cX7_requireMayJudge 40 = .ok (.dup, 1) := by decide +kernel
theorem dX7_requireMayJudge_41 : decode cX7_requireMayJudge 41 = .ok (.ldc_w 286, 3) := by decide +kernel
theorem dX7_requireMayJudge_44 : decode cX7_requireMayJudge 44 = .ok (.invokespecial 60, 3) := by decide +kernel
theorem dX7_requireMayJudge_47 : decode cX7_requireMayJudge 47 = .ok (.athrow, 1) := by decide +kernel
theorem dX7_requireMayJudge_48 : decode cX7_requireMayJudge 48 = .ok (.return_, 1) := by decide +kernel
theorem dX7_countOverdue_0 : decode cX7_countOverdue 0 = .ok (.iconst 0, 1) := by decide +kernel
theorem dX7_countOverdue_1 : decode cX7_countOverdue 1 = .ok (.istore_n 2, 1) := by decide +kernel
theorem dX7_countOverdue_2 : decode cX7_countOverdue 2 = .ok (.iconst 0, 1) := by decide +kernel
theorem dX7_countOverdue_3 : decode cX7_countOverdue 3 = .ok (.istore_n 3, 1) := by decide +kernel
theorem dX7_countOverdue_4 : decode cX7_countOverdue 4 = .ok (.iload_n 3, 1) := by decide +kernel
theorem dX7_countOverdue_5 : decode cX7_countOverdue 5 = .ok (.aload_n 0, 1) := by decide +kernel
theorem dX7_countOverdue_6 : decode cX7_countOverdue 6 = .ok (.getfield 22, 3) := by decide +kernel
theorem dX7_countOverdue_9 : decode cX7_countOverdue 9 = .ok (.invokevirtual 52, 3) := by decide +kernel
theorem dX7_countOverdue_12 : decode cX7_countOverdue 12 = .ok (.if_icmp .ge 46, 3) := by decide +kernel
theorem dX7_countOverdue_15 : decode cX7_countOverdue 15 = .ok (.aload_n 0, 1) := by decide +kernel
theorem dX7_countOverdue_16 : decode cX7_countOverdue 16 = .ok (.getfield 22, 3) := by decide +kernel
theorem dX7_countOverdue_19 : decode cX7_countOverdue 19 = .ok (.iload_n 3, 1) := by decide +kernel
theorem dX7_countOverdue_20 : decode cX7_countOverdue 20 = .ok (.invokevirtual 87, 3) := by decide +kernel
theorem dX7_countOverdue_23 : decode cX7_countOverdue 23 = .ok (.checkcast 158, 3) := by decide +kernel
theorem dX7_countOverdue_26 : decode cX7_countOverdue 26 = .ok (.astore 4, 2) := by decide +kernel
theorem dX7_countOverdue_28 : decode cX7_countOverdue 28 = .ok (.aload 4, 2) := by decide +kernel
theorem dX7_countOverdue_30 : decode cX7_countOverdue 30 = .ok (.getfield 176, 3) := by decide +kernel
theorem dX7_countOverdue_33 : decode cX7_countOverdue 33 = .ok (.aload_n 1, 1) := by decide +kernel
theorem dX7_countOverdue_34 : decode cX7_countOverdue 34 = .ok (.if_acmp .ne 18, 3) := by decide +kernel
theorem dX7_countOverdue_37 : decode cX7_countOverdue 37 = .ok (.aload 4, 2) := by decide +kernel
theorem dX7_countOverdue_39 : decode cX7_countOverdue 39 = .ok (.aload_n 0, 1) := by decide +kernel
theorem dX7_countOverdue_40 : decode cX7_countOverdue 40 = .ok (.getfield 42, 3) := by decide +kernel
theorem dX7_countOverdue_43 : decode cX7_countOverdue 43 = .ok (.invokevirtual 288, 3) := by decide +kernel
theorem dX7_countOverdue_46 : decode cX7_countOverdue 46 = .ok (.ifCond .eq 6, 3) := by decide +kernel
theorem dX7_countOverdue_49 : decode cX7_countOverdue 49 = .ok (.iinc 2 1, 3) := by decide +kernel
theorem dX7_countOverdue_52 : decode cX7_countOverdue 52 = .ok (.iinc 3 1, 3) := by decide +kernel
theorem dX7_countOverdue_55 : decode cX7_countOverdue 55 = .ok (.goto (-51), 3) := by decide +kernel
theorem dX7_countOverdue_58 : decode cX7_countOverdue 58 = .ok (.iload_n 2, 1) := by decide +kernel
theorem dX7_countOverdue_59 : decode cX7_countOverdue 59 = .ok (.ireturn, 1) := by decide +kernel
theorem dX7_rightHolds_0 : decode cX7_rightHolds 0 = .ok (.iconst 0, 1) := by decide +kernel
theorem dX7_rightHolds_1 : decode cX7_rightHolds 1 = .ok (.istore 4, 2) := by decide +kernel
theorem dX7_rightHolds_3 : decode cX7_rightHolds 3 = .ok (.iload 4, 2) := by decide +kernel
theorem dX7_rightHolds_5 : decode cX7_rightHolds 5 = .ok (.aload_n 0, 1) := by decide +kernel
theorem dX7_rightHolds_6 : decode cX7_rightHolds 6 = .ok (.getfield 25, 3) := by decide +kernel
theorem dX7_rightHolds_9 : decode cX7_rightHolds 9 = .ok (.invokevirtual 52, 3) := by decide +kernel
theorem dX7_rightHolds_12 : decode cX7_rightHolds 12 = .ok (.if_icmp .ge 52, 3) := by decide +kernel
theorem dX7_rightHolds_15 : decode cX7_rightHolds 15 = .ok (.aload_n 0, 1) := by decide +kernel
theorem dX7_rightHolds_16 : decode cX7_rightHolds 16 = .ok (.getfield 25, 3) := by decide +kernel
theorem dX7_rightHolds_19 : decode cX7_rightHolds 19 = .ok (.iload 4, 2) := by decide +kernel
theorem dX7_rightHolds_21 : decode cX7_rightHolds 21 = .ok (.invokevirtual 87, 3) := by decide +kernel
theorem dX7_rightHolds_24 : decode cX7_rightHolds 24 = .ok (.checkcast 145, 3) := by decide +kernel
theorem dX7_rightHolds_27 : decode cX7_rightHolds 27 = .ok (.astore 5, 2) := by decide +kernel
theorem dX7_rightHolds_29 : decode cX7_rightHolds 29 = .ok (.aload 5, 2) := by decide +kernel
theorem dX7_rightHolds_31 : decode cX7_rightHolds 31 = .ok (.getfield 291, 3) := by decide +kernel
theorem dX7_rightHolds_34 : decode cX7_rightHolds 34 = .ok (.aload_n 1, 1) := by decide +kernel
theorem dX7_rightHolds_35 : decode cX7_rightHolds 35 = .ok (.if_acmp .ne 23, 3) := by decide +kernel
theorem dX7_rightHolds_38 : decode cX7_rightHolds 38 = .ok (.aload 5, 2) := by decide +kernel
theorem dX7_rightHolds_40 : decode cX7_rightHolds 40 = .ok (.getfield 292, 3) := by decide +kernel
theorem dX7_rightHolds_43 : decode cX7_rightHolds 43 = .ok (.aload_n 2, 1) := by decide +kernel
theorem dX7_rightHolds_44 : decode cX7_rightHolds 44 = .ok (.if_acmp .ne 14, 3) := by decide +kernel
theorem dX7_rightHolds_47 : decode cX7_rightHolds 47 = .ok (.aload 5, 2) := by decide +kernel
theorem dX7_rightHolds_49 : decode cX7_rightHolds 49 = .ok (.iload_n 3, 1) := by decide +kernel
theorem dX7_rightHolds_50 : decode cX7_rightHolds 50 = .ok (.invokevirtual 293, 3) := by decide +kernel
theorem dX7_rightHolds_53 : decode cX7_rightHolds 53 = .ok (.ifCond .eq 5, 3) := by decide +kernel
theorem dX7_rightHolds_56 : decode cX7_rightHolds 56 = .ok (.iconst 1, 1) := by decide +kernel
theorem dX7_rightHolds_57 : decode cX7_rightHolds 57 = .ok (.ireturn, 1) := by decide +kernel
theorem dX7_rightHolds_58 : decode cX7_rightHolds 58 = .ok (.iinc 4 1, 3) := by decide +kernel
theorem dX7_rightHolds_61 : decode cX7_rightHolds 61 = .ok (.goto (-58), 3) := by decide +kernel
theorem dX7_rightHolds_64 : decode cX7_rightHolds 64 = .ok (.iconst 0, 1) := by decide +kernel
theorem dX7_rightHolds_65 : decode cX7_rightHolds 65 = .ok (.ireturn, 1) := by decide +kernel
theorem dX7_endRights_0 : decode cX7_endRights 0 = .ok (.iconst 0, 1) := by decide +kernel
theorem dX7_endRights_1 : decode cX7_endRights 1 = .ok (.istore_n 3, 1) := by decide +kernel
theorem dX7_endRights_2 : decode cX7_endRights 2 = .ok (.iload_n 3, 1) := by decide +kernel
theorem dX7_endRights_3 : decode cX7_endRights 3 = .ok (.aload_n 0, 1) := by decide +kernel
theorem dX7_endRights_4 : decode cX7_endRights 4 = .ok (.getfield 25, 3) := by decide +kernel
theorem dX7_endRights_7 : decode cX7_endRights 7 = .ok (.invokevirtual 52, 3) := by decide +kernel
theorem dX7_endRights_10 : decode cX7_endRights 10 = .ok (.if_icmp .ge 61, 3) := by decide +kernel
theorem dX7_endRights_13 : decode cX7_endRights 13 = .ok (.aload_n 0, 1) := by decide +kernel
theorem dX7_endRights_14 : decode cX7_endRights 14 = .ok (.getfield 25, 3) := by decide +kernel
theorem dX7_endRights_17 : decode cX7_endRights 17 = .ok (.iload_n 3, 1) := by decide +kernel
theorem dX7_endRights_18 : decode cX7_endRights 18 = .ok (.invokevirtual 87, 3) := by decide +kernel
theorem dX7_endRights_21 : decode cX7_endRights 21 = .ok (.checkcast 145, 3) := by decide +kernel
theorem dX7_endRights_24 : decode cX7_endRights 24 = .ok (.astore 4, 2) := by decide +kernel
theorem dX7_endRights_26 : decode cX7_endRights 26 = .ok (.aload 4, 2) := by decide +kernel
theorem dX7_endRights_28 : decode cX7_endRights 28 = .ok (.getfield 291, 3) := by decide +kernel
theorem dX7_endRights_31 : decode cX7_endRights 31 = .ok (.aload_n 1, 1) := by decide +kernel
theorem dX7_endRights_32 : decode cX7_endRights 32 = .ok (.if_acmp .ne 33, 3) := by decide +kernel
theorem dX7_endRights_35 : decode cX7_endRights 35 = .ok (.aload 4, 2) := by decide +kernel
theorem dX7_endRights_37 : decode cX7_endRights 37 = .ok (.getfield 292, 3) := by decide +kernel
theorem dX7_endRights_40 : decode cX7_endRights 40 = .ok (.aload_n 2, 1) := by decide +kernel
theorem dX7_endRights_41 : decode cX7_endRights 41 = .ok (.if_acmp .ne 24, 3) := by decide +kernel
theorem dX7_endRights_44 : decode cX7_endRights 44 = .ok (.aload 4, 2) := by decide +kernel
theorem dX7_endRights_46 : decode cX7_endRights 46 = .ok (.aload_n 0, 1) := by decide +kernel
theorem dX7_endRights_47 : decode cX7_endRights 47 = .ok (.getfield 42, 3) := by decide +kernel
theorem dX7_endRights_50 : decode cX7_endRights 50 = .ok (.invokevirtual 293, 3) := by decide +kernel
theorem dX7_endRights_53 : decode cX7_endRights 53 = .ok (.ifCond .eq 12, 3) := by decide +kernel
theorem dX7_endRights_56 : decode cX7_endRights 56 = .ok (.aload 4, 2) := by decide +kernel
theorem dX7_endRights_58 : decode cX7_endRights 58 = .ok (.aload_n 0, 1) := by decide +kernel
theorem dX7_endRights_59 : decode cX7_endRights 59 = .ok (.getfield 42, 3) := by decide +kernel
theorem dX7_endRights_62 : decode cX7_endRights 62 = .ok (.putfield 296, 3) := by decide +kernel
theorem dX7_endRights_65 : decode cX7_endRights 65 = .ok (.iinc 3 1, 3) := by decide +kernel
theorem dX7_endRights_68 : decode cX7_endRights 68 = .ok (.goto (-66), 3) := by decide +kernel
theorem dX7_endRights_71 : decode cX7_endRights 71 = .ok (.return_, 1) := by decide +kernel
theorem dX7_denyWaitingAsks_0 : decode cX7_denyWaitingAsks 0 = .ok (.iconst 0, 1) := by decide +kernel
theorem dX7_denyWaitingAsks_1 : decode cX7_denyWaitingAsks 1 = .ok (.istore_n 3, 1) := by decide +kernel
theorem dX7_denyWaitingAsks_2 : decode cX7_denyWaitingAsks 2 = .ok (.iload_n 3, 1) := by decide +kernel
theorem dX7_denyWaitingAsks_3 : decode cX7_denyWaitingAsks 3 = .ok (.aload_n 0, 1) := by decide +kernel
theorem dX7_denyWaitingAsks_4 : decode cX7_denyWaitingAsks 4 = .ok (.getfield 19, 3) := by decide +kernel
theorem dX7_denyWaitingAsks_7 : decode cX7_denyWaitingAsks 7 = .ok (.invokevirtual 52, 3) := by decide +kernel
theorem dX7_denyWaitingAsks_10 : decode cX7_denyWaitingAsks 10 = .ok (.if_icmp .ge 58, 3) := by decide +kernel
theorem dX7_denyWaitingAsks_13 : decode cX7_denyWaitingAsks 13 = .ok (.aload_n 0, 1) := by decide +kernel
theorem dX7_denyWaitingAsks_14 : decode cX7_denyWaitingAsks 14 = .ok (.getfield 19, 3) := by decide +kernel
theorem dX7_denyWaitingAsks_17 : decode cX7_denyWaitingAsks 17 = .ok (.iload_n 3, 1) := by decide +kernel
theorem dX7_denyWaitingAsks_18 : decode cX7_denyWaitingAsks 18 = .ok (.invokevirtual 87, 3) := by decide +kernel
theorem dX7_denyWaitingAsks_21 : decode cX7_denyWaitingAsks 21 = .ok (.checkcast 116, 3) := by decide +kernel
theorem dX7_denyWaitingAsks_24 : decode cX7_denyWaitingAsks 24 = .ok (.astore 4, 2) := by decide +kernel
theorem dX7_denyWaitingAsks_26 : decode cX7_denyWaitingAsks 26 = .ok (.aload 4, 2) := by decide +kernel
theorem dX7_denyWaitingAsks_28 : decode cX7_denyWaitingAsks 28 = .ok (.getfield 147, 3) := by decide +kernel
theorem dX7_denyWaitingAsks_31 : decode cX7_denyWaitingAsks 31 = .ok (.aload_n 1, 1) := by decide +kernel
theorem dX7_denyWaitingAsks_32 : decode cX7_denyWaitingAsks 32 = .ok (.if_acmp .ne 30, 3) := by decide +kernel
theorem dX7_denyWaitingAsks_35 : decode cX7_denyWaitingAsks 35 = .ok (.aload 4, 2) := by decide +kernel
theorem dX7_denyWaitingAsks_37 : decode cX7_denyWaitingAsks 37 = .ok (.getfield 138, 3) := by decide +kernel
theorem dX7_denyWaitingAsks_40 : decode cX7_denyWaitingAsks 40 = .ok (.aload_n 2, 1) := by decide +kernel
theorem dX7_denyWaitingAsks_41 : decode cX7_denyWaitingAsks 41 = .ok (.if_acmp .ne 21, 3) := by decide +kernel
theorem dX7_denyWaitingAsks_44 : decode cX7_denyWaitingAsks 44 = .ok (.aload 4, 2) := by decide +kernel
theorem dX7_denyWaitingAsks_46 : decode cX7_denyWaitingAsks 46 = .ok (.aload_n 0, 1) := by decide +kernel
theorem dX7_denyWaitingAsks_47 : decode cX7_denyWaitingAsks 47 = .ok (.getfield 42, 3) := by decide +kernel
theorem dX7_denyWaitingAsks_50 : decode cX7_denyWaitingAsks 50 = .ok (.invokevirtual 154, 3) := by decide +kernel
theorem dX7_denyWaitingAsks_53 : decode cX7_denyWaitingAsks 53 = .ok (.ifCond .ne 9, 3) := by decide +kernel
theorem dX7_denyWaitingAsks_56 : decode cX7_denyWaitingAsks 56 = .ok (.aload 4, 2) := by decide +kernel
theorem dX7_denyWaitingAsks_58 : decode cX7_denyWaitingAsks 58 = .ok (.iconst 2, 1) := by decide +kernel
theorem dX7_denyWaitingAsks_59 : decode cX7_denyWaitingAsks 59 = .ok (.putfield 142, 3) := by decide +kernel
theorem dX7_denyWaitingAsks_62 : decode cX7_denyWaitingAsks 62 = .ok (.iinc 3 1, 3) := by decide +kernel
theorem dX7_denyWaitingAsks_65 : decode cX7_denyWaitingAsks 65 = .ok (.goto (-63), 3) := by decide +kernel
theorem dX7_denyWaitingAsks_68 : decode cX7_denyWaitingAsks 68 = .ok (.return_, 1) := by decide +kernel
theorem dX7_closeEndedSessions_0 : decode cX7_closeEndedSessions 0 = .ok (.iconst 0, 1) := by decide +kernel
theorem dX7_closeEndedSessions_1 : decode cX7_closeEndedSessions 1 = .ok (.istore_n 1, 1) := by decide +kernel
theorem dX7_closeEndedSessions_2 : decode cX7_closeEndedSessions 2 = .ok (.iconst 0, 1) := by decide +kernel
theorem dX7_closeEndedSessions_3 : decode cX7_closeEndedSessions 3 = .ok (.istore_n 2, 1) := by decide +kernel
theorem dX7_closeEndedSessions_4 : decode cX7_closeEndedSessions 4 = .ok (.iload_n 2, 1) := by decide +kernel
theorem dX7_closeEndedSessions_5 : decode cX7_closeEndedSessions 5 = .ok (.aload_n 0, 1) := by decide +kernel
theorem dX7_closeEndedSessions_6 : decode cX7_closeEndedSessions 6 = .ok (.getfield 28, 3) := by decide +kernel
theorem dX7_closeEndedSessions_9 : decode cX7_closeEndedSessions 9 = .ok (.invokevirtual 52, 3) := by decide +kernel
theorem dX7_closeEndedSessions_12 : decode cX7_closeEndedSessions 12 = .ok (.if_icmp .ge 66, 3) := by decide +kernel
theorem dX7_closeEndedSessions_15 : decode cX7_closeEndedSessions 15 = .ok (.aload_n 0, 1) := by decide +kernel
theorem dX7_closeEndedSessions_16 : decode cX7_closeEndedSessions 16 = .ok (.getfield 28, 3) := by decide +kernel
theorem dX7_closeEndedSessions_19 : decode cX7_closeEndedSessions 19 = .ok (.iload_n 2, 1) := by decide +kernel
theorem dX7_closeEndedSessions_20 : decode cX7_closeEndedSessions 20 = .ok (.invokevirtual 87, 3) := by decide +kernel
theorem dX7_closeEndedSessions_23 : decode cX7_closeEndedSessions 23 = .ok (.checkcast 196, 3) := by decide +kernel
theorem dX7_closeEndedSessions_26 : decode cX7_closeEndedSessions 26 = .ok (.astore_n 3, 1) := by decide +kernel
theorem dX7_closeEndedSessions_27 : decode cX7_closeEndedSessions 27 = .ok (.aload_n 3, 1) := by decide +kernel
theorem dX7_closeEndedSessions_28 : decode cX7_closeEndedSessions 28 = .ok (.getfield 237, 3) := by decide +kernel
theorem dX7_closeEndedSessions_31 : decode cX7_closeEndedSessions 31 = .ok (.ifCond .ne 41, 3) := by decide +kernel
theorem dX7_closeEndedSessions_34 : decode cX7_closeEndedSessions 34 = .ok (.aload_n 3, 1) := by decide +kernel
theorem dX7_closeEndedSessions_35 : decode cX7_closeEndedSessions 35 = .ok (.aload_n 0, 1) := by decide +kernel
theorem dX7_closeEndedSessions_36 : decode cX7_closeEndedSessions 36 = .ok (.getfield 42, 3) := by decide +kernel
theorem dX7_closeEndedSessions_39 : decode cX7_closeEndedSessions 39 = .ok (.invokevirtual 299, 3) := by decide +kernel
theorem dX7_closeEndedSessions_42 : decode cX7_closeEndedSessions 42 = .ok (.ifCond .ne 22, 3) := by decide +kernel
theorem dX7_closeEndedSessions_45 : decode cX7_closeEndedSessions 45 = .ok (.aload_n 0, 1) := by decide +kernel
theorem dX7_closeEndedSessions_46 : decode cX7_closeEndedSessions 46 = .ok (.aload_n 3, 1) := by decide +kernel
theorem dX7_closeEndedSessions_47 : decode cX7_closeEndedSessions 47 = .ok (.getfield 215, 3) := by decide +kernel
theorem dX7_closeEndedSessions_50 : decode cX7_closeEndedSessions 50 = .ok (.aload_n 3, 1) := by decide +kernel
theorem dX7_closeEndedSessions_51 : decode cX7_closeEndedSessions 51 = .ok (.getfield 216, 3) := by decide +kernel
theorem dX7_closeEndedSessions_54 : decode cX7_closeEndedSessions 54 = .ok (.aload_n 0, 1) := by decide +kernel
theorem dX7_closeEndedSessions_55 : decode cX7_closeEndedSessions 55 = .ok (.getfield 42, 3) := by decide +kernel
theorem dX7_closeEndedSessions_58 : decode cX7_closeEndedSessions 58 = .ok (.invokevirtual 190, 3) := by decide +kernel
theorem dX7_closeEndedSessions_61 : decode cX7_closeEndedSessions 61 = .ok (.ifCond .ne 11, 3) := by decide +kernel
theorem dX7_closeEndedSessions_64 : decode cX7_closeEndedSessions 64 = .ok (.aload_n 0, 1) := by decide +kernel
theorem dX7_closeEndedSessions_65 : decode cX7_closeEndedSessions 65 = .ok (.aload_n 3, 1) := by decide +kernel
theorem dX7_closeEndedSessions_66 : decode cX7_closeEndedSessions 66 = .ok (.invokevirtual 234, 3) := by decide +kernel
theorem dX7_closeEndedSessions_69 : decode cX7_closeEndedSessions 69 = .ok (.iinc 1 1, 3) := by decide +kernel
theorem dX7_closeEndedSessions_72 : decode cX7_closeEndedSessions 72 = .ok (.iinc 2 1, 3) := by decide +kernel
theorem dX7_closeEndedSessions_75 : decode cX7_closeEndedSessions 75 = .ok (.goto (-71), 3) := by decide +kernel
theorem dX7_closeEndedSessions_78 : decode cX7_closeEndedSessions 78 = .ok (.iload_n 1, 1) := by decide +kernel
theorem dX7_closeEndedSessions_79 : decode cX7_closeEndedSessions 79 = .ok (.ireturn, 1) := by decide +kernel
theorem dX7_endSession_0 : decode cX7_endSession 0 = .ok (.aload_n 1, 1) := by decide +kernel
theorem dX7_endSession_1 : decode cX7_endSession 1 = .ok (.iconst 1, 1) := by decide +kernel
theorem dX7_endSession_2 : decode cX7_endSession 2 = .ok (.putfield 237, 3) := by decide +kernel
theorem dX7_endSession_5 : decode cX7_endSession 5 = .ok (.aload_n 0, 1) := by decide +kernel
theorem dX7_endSession_6 : decode cX7_endSession 6 = .ok (.dup, 1) := by decide +kernel
theorem dX7_endSession_7 : decode cX7_endSession 7 = .ok (.getfield 38, 3) := by decide +kernel
theorem dX7_endSession_10 : decode cX7_endSession 10 = .ok (.iconst 1, 1) := by decide +kernel
theorem dX7_endSession_11 : decode cX7_endSession 11 = .ok (.isub, 1) := by decide +kernel
theorem dX7_endSession_12 : decode cX7_endSession 12 = .ok (.putfield 38, 3) := by decide +kernel
theorem dX7_endSession_15 : decode cX7_endSession 15 = .ok (.aload_n 0, 1) := by decide +kernel
theorem dX7_endSession_16 : decode cX7_endSession 16 = .ok (.getfield 34, 3) := by decide +kernel
theorem dX7_endSession_19 : decode cX7_endSession 19 = .ok (.bipush 6, 2) := by decide +kernel
theorem dX7_endSession_21 : decode cX7_endSession 21 = .ok (.aload_n 1, 1) := by decide +kernel
theorem dX7_endSession_22 : decode cX7_endSession 22 = .ok (.getfield 215, 3) := by decide +kernel
theorem dX7_endSession_25 : decode cX7_endSession 25 = .ok (.aload_n 1, 1) := by decide +kernel
theorem dX7_endSession_26 : decode cX7_endSession 26 = .ok (.getfield 216, 3) := by decide +kernel
theorem dX7_endSession_29 : decode cX7_endSession 29 = .ok (.aload_n 0, 1) := by decide +kernel
theorem dX7_endSession_30 : decode cX7_endSession 30 = .ok (.getfield 42, 3) := by decide +kernel
theorem dX7_endSession_33 : decode cX7_endSession 33 = .ok (.invokevirtual 121, 3) := by decide +kernel
theorem dX7_endSession_36 : decode cX7_endSession 36 = .ok (.return_, 1) := by decide +kernel
