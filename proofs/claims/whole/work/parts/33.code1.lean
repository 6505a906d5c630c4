/-! Rows that decode: laid by program. -/
theorem d_De_init_0 : decode m_De_init.2.1 0 = .ok (.aload_n 0, 1) := by decide +kernel
theorem d_De_init_1 : decode m_De_init.2.1 1 = .ok (.invokespecial 3, 3) := by decide +kernel
theorem d_De_init_4 : decode m_De_init.2.1 4 = .ok (.return_, 1) := by decide +kernel
theorem d_De_forget_0 : decode m_De_forget.2.1 0 = .ok (.aload_n 0, 1) := by decide +kernel
theorem d_De_forget_1 : decode m_De_forget.2.1 1 = .ok (.iconst 0, 1) := by decide +kernel
theorem d_De_forget_2 : decode m_De_forget.2.1 2 = .ok (.putfield 9, 3) := by decide +kernel
theorem d_De_forget_5 : decode m_De_forget.2.1 5 = .ok (.aload_n 0, 1) := by decide +kernel
theorem d_De_forget_6 : decode m_De_forget.2.1 6 = .ok (.iconst (-1), 1) := by decide +kernel
theorem d_De_forget_7 : decode m_De_forget.2.1 7 = .ok (.putfield 15, 3) := by decide +kernel
theorem d_De_forget_10 : decode m_De_forget.2.1 10 = .ok (.aload_n 0, 1) := by decide +kernel
theorem d_De_forget_11 : decode m_De_forget.2.1 11 = .ok (.iconst 0, 1) := by decide +kernel
theorem d_De_forget_12 : decode m_De_forget.2.1 12 = .ok (.putfield 18, 3) := by decide +kernel
theorem d_De_forget_15 : decode m_De_forget.2.1 15 = .ok (.return_, 1) := by decide +kernel
theorem d_De_isDone_0 : decode m_De_isDone.2.1 0 = .ok (.aload_n 0, 1) := by decide +kernel
theorem d_De_isDone_1 : decode m_De_isDone.2.1 1 = .ok (.getfield 9, 3) := by decide +kernel
theorem d_De_isDone_4 : decode m_De_isDone.2.1 4 = .ok (.ifCond .eq 7, 3) := by decide +kernel
theorem d_De_isDone_7 : decode m_De_isDone.2.1 7 = .ok (.iconst 1, 1) := by decide +kernel
theorem d_De_isDone_8 : decode m_De_isDone.2.1 8 = .ok (.goto 4, 3) := by decide +kernel
theorem d_De_isDone_11 : decode m_De_isDone.2.1 11 = .ok (.iconst 0, 1) := by decide +kernel
theorem d_De_isDone_12 : decode m_De_isDone.2.1 12 = .ok (.ireturn, 1) := by decide +kernel
theorem d_De_keepOutcome_0 : decode m_De_keepOutcome.2.1 0 = .ok (.aload_n 0, 1) := by decide +kernel
theorem d_De_keepOutcome_1 : decode m_De_keepOutcome.2.1 1 = .ok (.iload_n 2, 1) := by decide +kernel
theorem d_De_keepOutcome_2 : decode m_De_keepOutcome.2.1 2 = .ok (.ifCond .eq 9, 3) := by decide +kernel
theorem d_De_keepOutcome_5 : decode m_De_keepOutcome.2.1 5 = .ok (.iload_n 1, 1) := by decide +kernel
theorem d_De_keepOutcome_6 : decode m_De_keepOutcome.2.1 6 = .ok (.iconst 4, 1) := by decide +kernel
theorem d_De_keepOutcome_7 : decode m_De_keepOutcome.2.1 7 = .ok (.iadd, 1) := by decide +kernel
theorem d_De_keepOutcome_8 : decode m_De_keepOutcome.2.1 8 = .ok (.goto 4, 3) := by decide +kernel
theorem d_De_keepOutcome_11 : decode m_De_keepOutcome.2.1 11 = .ok (.iload_n 1, 1) := by decide +kernel
theorem d_De_keepOutcome_12 : decode m_De_keepOutcome.2.1 12 = .ok (.putfield 9, 3) := by decide +kernel
theorem d_De_keepOutcome_15 : decode m_De_keepOutcome.2.1 15 = .ok (.aload_n 0, 1) := by decide +kernel
theorem d_De_keepOutcome_16 : decode m_De_keepOutcome.2.1 16 = .ok (.iload_n 2, 1) := by decide +kernel
theorem d_De_keepOutcome_17 : decode m_De_keepOutcome.2.1 17 = .ok (.putfield 18, 3) := by decide +kernel
theorem d_De_keepOutcome_20 : decode m_De_keepOutcome.2.1 20 = .ok (.aload_n 0, 1) := by decide +kernel
theorem d_De_keepOutcome_21 : decode m_De_keepOutcome.2.1 21 = .ok (.iload_n 3, 1) := by decide +kernel
theorem d_De_keepOutcome_22 : decode m_De_keepOutcome.2.1 22 = .ok (.putfield 15, 3) := by decide +kernel
theorem d_De_keepOutcome_25 : decode m_De_keepOutcome.2.1 25 = .ok (.return_, 1) := by decide +kernel
theorem d_De_keepTraced_0 : decode m_De_keepTraced.2.1 0 = .ok (.aload_n 0, 1) := by decide +kernel
theorem d_De_keepTraced_1 : decode m_De_keepTraced.2.1 1 = .ok (.aload_n 1, 1) := by decide +kernel
theorem d_De_keepTraced_2 : decode m_De_keepTraced.2.1 2 = .ok (.getfield 22, 3) := by decide +kernel
theorem d_De_keepTraced_5 : decode m_De_keepTraced.2.1 5 = .ok (.putfield 27, 3) := by decide +kernel
theorem d_De_keepTraced_8 : decode m_De_keepTraced.2.1 8 = .ok (.aload_n 0, 1) := by decide +kernel
theorem d_De_keepTraced_9 : decode m_De_keepTraced.2.1 9 = .ok (.aload_n 1, 1) := by decide +kernel
theorem d_De_keepTraced_10 : decode m_De_keepTraced.2.1 10 = .ok (.getfield 28, 3) := by decide +kernel
theorem d_De_keepTraced_13 : decode m_De_keepTraced.2.1 13 = .ok (.putfield 31, 3) := by decide +kernel
theorem d_De_keepTraced_16 : decode m_De_keepTraced.2.1 16 = .ok (.aload_n 0, 1) := by decide +kernel
theorem d_De_keepTraced_17 : decode m_De_keepTraced.2.1 17 = .ok (.aload_n 1, 1) := by decide +kernel
theorem d_De_keepTraced_18 : decode m_De_keepTraced.2.1 18 = .ok (.invokevirtual 32, 3) := by decide +kernel
theorem d_De_keepTraced_21 : decode m_De_keepTraced.2.1 21 = .ok (.putfield 36, 3) := by decide +kernel
theorem d_De_keepTraced_24 : decode m_De_keepTraced.2.1 24 = .ok (.aload_n 0, 1) := by decide +kernel
theorem d_De_keepTraced_25 : decode m_De_keepTraced.2.1 25 = .ok (.iload_n 2, 1) := by decide +kernel
theorem d_De_keepTraced_26 : decode m_De_keepTraced.2.1 26 = .ok (.putfield 38, 3) := by decide +kernel
theorem d_De_keepTraced_29 : decode m_De_keepTraced.2.1 29 = .ok (.return_, 1) := by decide +kernel
theorem d_Lg_init_0 : decode m_Lg_init.2.1 0 = .ok (.aload_n 0, 1) := by decide +kernel
theorem d_Lg_init_1 : decode m_Lg_init.2.1 1 = .ok (.invokespecial 3, 3) := by decide +kernel
theorem d_Lg_init_4 : decode m_Lg_init.2.1 4 = .ok (.aload_n 0, 1) := by decide +kernel
theorem d_Lg_init_5 : decode m_Lg_init.2.1 5 = .ok (.bipush 10, 2) := by decide +kernel
theorem d_Lg_init_7 : decode m_Lg_init.2.1 7 = .ok (.anewarray 9, 3) := by decide +kernel
theorem d_Lg_init_10 : decode m_Lg_init.2.1 10 = .ok (.putfield 11, 3) := by decide +kernel
theorem d_Lg_init_13 : decode m_Lg_init.2.1 13 = .ok (.iconst 0, 1) := by decide +kernel
theorem d_Lg_init_14 : decode m_Lg_init.2.1 14 = .ok (.istore_n 1, 1) := by decide +kernel
theorem d_Lg_init_15 : decode m_Lg_init.2.1 15 = .ok (.iload_n 1, 1) := by decide +kernel
theorem d_Lg_init_16 : decode m_Lg_init.2.1 16 = .ok (.bipush 10, 2) := by decide +kernel
theorem d_Lg_init_18 : decode m_Lg_init.2.1 18 = .ok (.if_icmp .ge 22, 3) := by decide +kernel
theorem d_Lg_init_21 : decode m_Lg_init.2.1 21 = .ok (.aload_n 0, 1) := by decide +kernel
theorem d_Lg_init_22 : decode m_Lg_init.2.1 22 = .ok (.getfield 11, 3) := by decide +kernel
theorem d_Lg_init_25 : decode m_Lg_init.2.1 25 = .ok (.iload_n 1, 1) := by decide +kernel
theorem d_Lg_init_26 : decode m_Lg_init.2.1 26 = .ok (.new 9, 3) := by decide +kernel
theorem d_Lg_init_29 : decode m_Lg_init.2.1 29 = .ok (.dup, 1) := by decide +kernel
theorem d_Lg_init_30 : decode m_Lg_init.2.1 30 = .ok (.invokespecial 17, 3) := by decide +kernel
theorem d_Lg_init_33 : decode m_Lg_init.2.1 33 = .ok (.aastore, 1) := by decide +kernel
theorem d_Lg_init_34 : decode m_Lg_init.2.1 34 = .ok (.iinc 1 1, 3) := by decide +kernel
theorem d_Lg_init_37 : decode m_Lg_init.2.1 37 = .ok (.goto (-22), 3) := by decide +kernel
theorem d_Lg_init_40 : decode m_Lg_init.2.1 40 = .ok (.aload_n 0, 1) := by decide +kernel
theorem d_Lg_init_41 : decode m_Lg_init.2.1 41 = .ok (.iconst 0, 1) := by decide +kernel
theorem d_Lg_init_42 : decode m_Lg_init.2.1 42 = .ok (.putfield 18, 3) := by decide +kernel
theorem d_Lg_init_45 : decode m_Lg_init.2.1 45 = .ok (.aload_n 0, 1) := by decide +kernel
theorem d_Lg_init_46 : decode m_Lg_init.2.1 46 = .ok (.iconst (-1), 1) := by decide +kernel
theorem d_Lg_init_47 : decode m_Lg_init.2.1 47 = .ok (.putfield 22, 3) := by decide +kernel
theorem d_Lg_init_50 : decode m_Lg_init.2.1 50 = .ok (.return_, 1) := by decide +kernel
theorem d_Lg_deed_0 : decode m_Lg_deed.2.1 0 = .ok (.aload_n 0, 1) := by decide +kernel
theorem d_Lg_deed_1 : decode m_Lg_deed.2.1 1 = .ok (.getfield 11, 3) := by decide +kernel
theorem d_Lg_deed_4 : decode m_Lg_deed.2.1 4 = .ok (.iload_n 1, 1) := by decide +kernel
theorem d_Lg_deed_5 : decode m_Lg_deed.2.1 5 = .ok (.aaload, 1) := by decide +kernel
theorem d_Lg_deed_6 : decode m_Lg_deed.2.1 6 = .ok (.areturn, 1) := by decide +kernel
theorem d_Lg_hazardPart_0 : decode m_Lg_hazardPart.2.1 0 = .ok (.aload_n 0, 1) := by decide +kernel
theorem d_Lg_hazardPart_1 : decode m_Lg_hazardPart.2.1 1 = .ok (.invokevirtual 32, 3) := by decide +kernel
theorem d_Lg_hazardPart_4 : decode m_Lg_hazardPart.2.1 4 = .ok (.ifCond .ne 5, 3) := by decide +kernel
theorem d_Lg_hazardPart_7 : decode m_Lg_hazardPart.2.1 7 = .ok (.iconst (-1), 1) := by decide +kernel
theorem d_Lg_hazardPart_8 : decode m_Lg_hazardPart.2.1 8 = .ok (.ireturn, 1) := by decide +kernel
theorem d_Lg_hazardPart_9 : decode m_Lg_hazardPart.2.1 9 = .ok (.iload_n 1, 1) := by decide +kernel
theorem d_Lg_hazardPart_10 : decode m_Lg_hazardPart.2.1 10 = .ok (.tableswitch 50 0 3 #[30, 35, 40, 45], 30) := by decide +kernel
theorem d_Lg_hazardPart_40 : decode m_Lg_hazardPart.2.1 40 = .ok (.aload_n 0, 1) := by decide +kernel
theorem d_Lg_hazardPart_41 : decode m_Lg_hazardPart.2.1 41 = .ok (.getfield 22, 3) := by decide +kernel
theorem d_Lg_hazardPart_44 : decode m_Lg_hazardPart.2.1 44 = .ok (.ireturn, 1) := by decide +kernel
theorem d_Lg_hazardPart_45 : decode m_Lg_hazardPart.2.1 45 = .ok (.aload_n 0, 1) := by decide +kernel
theorem d_Lg_hazardPart_46 : decode m_Lg_hazardPart.2.1 46 = .ok (.getfield 36, 3) := by decide +kernel
theorem d_Lg_hazardPart_49 : decode m_Lg_hazardPart.2.1 49 = .ok (.ireturn, 1) := by decide +kernel
theorem d_Lg_hazardPart_50 : decode m_Lg_hazardPart.2.1 50 = .ok (.aload_n 0, 1) := by decide +kernel
theorem d_Lg_hazardPart_51 : decode m_Lg_hazardPart.2.1 51 = .ok (.getfield 39, 3) := by decide +kernel
theorem d_Lg_hazardPart_54 : decode m_Lg_hazardPart.2.1 54 = .ok (.ireturn, 1) := by decide +kernel
theorem d_Lg_hazardPart_55 : decode m_Lg_hazardPart.2.1 55 = .ok (.aload_n 0, 1) := by decide +kernel
theorem d_Lg_hazardPart_56 : decode m_Lg_hazardPart.2.1 56 = .ok (.getfield 42, 3) := by decide +kernel
theorem d_Lg_hazardPart_59 : decode m_Lg_hazardPart.2.1 59 = .ok (.ireturn, 1) := by decide +kernel
theorem d_Lg_hazardPart_60 : decode m_Lg_hazardPart.2.1 60 = .ok (.iconst (-1), 1) := by decide +kernel
theorem d_Lg_hazardPart_61 : decode m_Lg_hazardPart.2.1 61 = .ok (.ireturn, 1) := by decide +kernel
theorem d_Lg_hasHazard_0 : decode m_Lg_hasHazard.2.1 0 = .ok (.aload_n 0, 1) := by decide +kernel
theorem d_Lg_hasHazard_1 : decode m_Lg_hasHazard.2.1 1 = .ok (.getfield 22, 3) := by decide +kernel
theorem d_Lg_hasHazard_4 : decode m_Lg_hasHazard.2.1 4 = .ok (.iconst (-1), 1) := by decide +kernel
theorem d_Lg_hasHazard_5 : decode m_Lg_hasHazard.2.1 5 = .ok (.if_icmp .eq 7, 3) := by decide +kernel
theorem d_Lg_hasHazard_8 : decode m_Lg_hasHazard.2.1 8 = .ok (.iconst 1, 1) := by decide +kernel
theorem d_Lg_hasHazard_9 : decode m_Lg_hasHazard.2.1 9 = .ok (.goto 4, 3) := by decide +kernel
theorem d_Lg_hasHazard_12 : decode m_Lg_hasHazard.2.1 12 = .ok (.iconst 0, 1) := by decide +kernel
theorem d_Lg_hasHazard_13 : decode m_Lg_hasHazard.2.1 13 = .ok (.ireturn, 1) := by decide +kernel
theorem d_Lg_begin_0 : decode m_Lg_begin.2.1 0 = .ok (.aload_n 0, 1) := by decide +kernel
theorem d_Lg_begin_1 : decode m_Lg_begin.2.1 1 = .ok (.iload_n 1, 1) := by decide +kernel
theorem d_Lg_begin_2 : decode m_Lg_begin.2.1 2 = .ok (.putfield 18, 3) := by decide +kernel
theorem d_Lg_begin_5 : decode m_Lg_begin.2.1 5 = .ok (.iconst 0, 1) := by decide +kernel
theorem d_Lg_begin_6 : decode m_Lg_begin.2.1 6 = .ok (.istore_n 2, 1) := by decide +kernel
theorem d_Lg_begin_7 : decode m_Lg_begin.2.1 7 = .ok (.iload_n 2, 1) := by decide +kernel
theorem d_Lg_begin_8 : decode m_Lg_begin.2.1 8 = .ok (.aload_n 0, 1) := by decide +kernel
theorem d_Lg_begin_9 : decode m_Lg_begin.2.1 9 = .ok (.getfield 18, 3) := by decide +kernel
theorem d_Lg_begin_12 : decode m_Lg_begin.2.1 12 = .ok (.if_icmp .ge 18, 3) := by decide +kernel
theorem d_Lg_begin_15 : decode m_Lg_begin.2.1 15 = .ok (.aload_n 0, 1) := by decide +kernel
theorem d_Lg_begin_16 : decode m_Lg_begin.2.1 16 = .ok (.getfield 11, 3) := by decide +kernel
theorem d_Lg_begin_19 : decode m_Lg_begin.2.1 19 = .ok (.iload_n 2, 1) := by decide +kernel
theorem d_Lg_begin_20 : decode m_Lg_begin.2.1 20 = .ok (.aaload, 1) := by decide +kernel
theorem d_Lg_begin_21 : decode m_Lg_begin.2.1 21 = .ok (.invokevirtual 25, 3) := by decide +kernel
theorem d_Lg_begin_24 : decode m_Lg_begin.2.1 24 = .ok (.iinc 2 1, 3) := by decide +kernel
theorem d_Lg_begin_27 : decode m_Lg_begin.2.1 27 = .ok (.goto (-20), 3) := by decide +kernel
theorem d_Lg_begin_30 : decode m_Lg_begin.2.1 30 = .ok (.aload_n 0, 1) := by decide +kernel
theorem d_Lg_begin_31 : decode m_Lg_begin.2.1 31 = .ok (.iconst (-1), 1) := by decide +kernel
theorem d_Lg_begin_32 : decode m_Lg_begin.2.1 32 = .ok (.putfield 22, 3) := by decide +kernel
theorem d_Lg_begin_35 : decode m_Lg_begin.2.1 35 = .ok (.aload_n 0, 1) := by decide +kernel
theorem d_Lg_begin_36 : decode m_Lg_begin.2.1 36 = .ok (.iconst 0, 1) := by decide +kernel
theorem d_Lg_begin_37 : decode m_Lg_begin.2.1 37 = .ok (.putfield 28, 3) := by decide +kernel
theorem d_Lg_begin_40 : decode m_Lg_begin.2.1 40 = .ok (.return_, 1) := by decide +kernel
theorem d_Lg_lookForHazard_0 : decode m_Lg_lookForHazard.2.1 0 = .ok (.aload_n 0, 1) := by decide +kernel
theorem d_Lg_lookForHazard_1 : decode m_Lg_lookForHazard.2.1 1 = .ok (.iload_n 1, 1) := by decide +kernel
theorem d_Lg_lookForHazard_2 : decode m_Lg_lookForHazard.2.1 2 = .ok (.iconst 1, 1) := by decide +kernel
theorem d_Lg_lookForHazard_3 : decode m_Lg_lookForHazard.2.1 3 = .ok (.invokevirtual 45, 3) := by decide +kernel
theorem d_Lg_lookForHazard_6 : decode m_Lg_lookForHazard.2.1 6 = .ok (.aload_n 0, 1) := by decide +kernel
theorem d_Lg_lookForHazard_7 : decode m_Lg_lookForHazard.2.1 7 = .ok (.invokevirtual 32, 3) := by decide +kernel
theorem d_Lg_lookForHazard_10 : decode m_Lg_lookForHazard.2.1 10 = .ok (.ifCond .ne 9, 3) := by decide +kernel
theorem d_Lg_lookForHazard_13 : decode m_Lg_lookForHazard.2.1 13 = .ok (.aload_n 0, 1) := by decide +kernel
theorem d_Lg_lookForHazard_14 : decode m_Lg_lookForHazard.2.1 14 = .ok (.iload_n 1, 1) := by decide +kernel
theorem d_Lg_lookForHazard_15 : decode m_Lg_lookForHazard.2.1 15 = .ok (.iconst 0, 1) := by decide +kernel
theorem d_Lg_lookForHazard_16 : decode m_Lg_lookForHazard.2.1 16 = .ok (.invokevirtual 45, 3) := by decide +kernel
theorem d_Lg_lookForHazard_19 : decode m_Lg_lookForHazard.2.1 19 = .ok (.return_, 1) := by decide +kernel
theorem d_Lg_lookForHazard2_0 : decode m_Lg_lookForHazard2.2.1 0 = .ok (.iconst 0, 1) := by decide +kernel
theorem d_Lg_lookForHazard2_1 : decode m_Lg_lookForHazard2.2.1 1 = .ok (.istore_n 3, 1) := by decide +kernel
theorem d_Lg_lookForHazard2_2 : decode m_Lg_lookForHazard2.2.1 2 = .ok (.iload_n 3, 1) := by decide +kernel
theorem d_Lg_lookForHazard2_3 : decode m_Lg_lookForHazard2.2.1 3 = .ok (.aload_n 0, 1) := by decide +kernel
theorem d_Lg_lookForHazard2_4 : decode m_Lg_lookForHazard2.2.1 4 = .ok (.getfield 18, 3) := by decide +kernel
theorem d_Lg_lookForHazard2_7 : decode m_Lg_lookForHazard2.2.1 7 = .ok (.if_icmp .ge 78, 3) := by decide +kernel
theorem d_Lg_lookForHazard2_10 : decode m_Lg_lookForHazard2.2.1 10 = .ok (.aload_n 0, 1) := by decide +kernel
theorem d_Lg_lookForHazard2_11 : decode m_Lg_lookForHazard2.2.1 11 = .ok (.invokevirtual 32, 3) := by decide +kernel
theorem d_Lg_lookForHazard2_14 : decode m_Lg_lookForHazard2.2.1 14 = .ok (.ifCond .ne 71, 3) := by decide +kernel
theorem d_Lg_lookForHazard2_17 : decode m_Lg_lookForHazard2.2.1 17 = .ok (.aload_n 0, 1) := by decide +kernel
theorem d_Lg_lookForHazard2_18 : decode m_Lg_lookForHazard2.2.1 18 = .ok (.getfield 11, 3) := by decide +kernel
theorem d_Lg_lookForHazard2_21 : decode m_Lg_lookForHazard2.2.1 21 = .ok (.iload_n 3, 1) := by decide +kernel
theorem d_Lg_lookForHazard2_22 : decode m_Lg_lookForHazard2.2.1 22 = .ok (.aaload, 1) := by decide +kernel
theorem d_Lg_lookForHazard2_23 : decode m_Lg_lookForHazard2.2.1 23 = .ok (.getfield 49, 3) := by decide +kernel
theorem d_Lg_lookForHazard2_26 : decode m_Lg_lookForHazard2.2.1 26 = .ok (.ifCond .ne 15, 3) := by decide +kernel
theorem d_Lg_lookForHazard2_29 : decode m_Lg_lookForHazard2.2.1 29 = .ok (.aload_n 0, 1) := by decide +kernel
theorem d_Lg_lookForHazard2_30 : decode m_Lg_lookForHazard2.2.1 30 = .ok (.getfield 11, 3) := by decide +kernel
theorem d_Lg_lookForHazard2_33 : decode m_Lg_lookForHazard2.2.1 33 = .ok (.iload_n 1, 1) := by decide +kernel
theorem d_Lg_lookForHazard2_34 : decode m_Lg_lookForHazard2.2.1 34 = .ok (.aaload, 1) := by decide +kernel
theorem d_Lg_lookForHazard2_35 : decode m_Lg_lookForHazard2.2.1 35 = .ok (.getfield 49, 3) := by decide +kernel
theorem d_Lg_lookForHazard2_38 : decode m_Lg_lookForHazard2.2.1 38 = .ok (.ifCond .eq 7, 3) := by decide +kernel
theorem d_Lg_lookForHazard2_41 : decode m_Lg_lookForHazard2.2.1 41 = .ok (.iconst 1, 1) := by decide +kernel
theorem d_Lg_lookForHazard2_42 : decode m_Lg_lookForHazard2.2.1 42 = .ok (.goto 4, 3) := by decide +kernel
theorem d_Lg_lookForHazard2_45 : decode m_Lg_lookForHazard2.2.1 45 = .ok (.iconst 0, 1) := by decide +kernel
theorem d_Lg_lookForHazard2_46 : decode m_Lg_lookForHazard2.2.1 46 = .ok (.istore 4, 2) := by decide +kernel
theorem d_Lg_lookForHazard2_48 : decode m_Lg_lookForHazard2.2.1 48 = .ok (.iload_n 3, 1) := by decide +kernel
theorem d_Lg_lookForHazard2_49 : decode m_Lg_lookForHazard2.2.1 49 = .ok (.iload_n 1, 1) := by decide +kernel
theorem d_Lg_lookForHazard2_50 : decode m_Lg_lookForHazard2.2.1 50 = .ok (.if_icmp .eq 29, 3) := by decide +kernel
theorem d_Lg_lookForHazard2_53 : decode m_Lg_lookForHazard2.2.1 53 = .ok (.aload_n 0, 1) := by decide +kernel
theorem d_Lg_lookForHazard2_54 : decode m_Lg_lookForHazard2.2.1 54 = .ok (.getfield 11, 3) := by decide +kernel
theorem d_Lg_lookForHazard2_57 : decode m_Lg_lookForHazard2.2.1 57 = .ok (.iload_n 3, 1) := by decide +kernel
theorem d_Lg_lookForHazard2_58 : decode m_Lg_lookForHazard2.2.1 58 = .ok (.aaload, 1) := by decide +kernel
theorem d_Lg_lookForHazard2_59 : decode m_Lg_lookForHazard2.2.1 59 = .ok (.invokevirtual 52, 3) := by decide +kernel
theorem d_Lg_lookForHazard2_62 : decode m_Lg_lookForHazard2.2.1 62 = .ok (.ifCond .eq 17, 3) := by decide +kernel
theorem d_Lg_lookForHazard2_65 : decode m_Lg_lookForHazard2.2.1 65 = .ok (.iload 4, 2) := by decide +kernel
theorem d_Lg_lookForHazard2_67 : decode m_Lg_lookForHazard2.2.1 67 = .ok (.iload_n 2, 1) := by decide +kernel
theorem d_Lg_lookForHazard2_68 : decode m_Lg_lookForHazard2.2.1 68 = .ok (.if_icmp .ne 11, 3) := by decide +kernel
theorem d_Lg_lookForHazard2_71 : decode m_Lg_lookForHazard2.2.1 71 = .ok (.aload_n 0, 1) := by decide +kernel
theorem d_Lg_lookForHazard2_72 : decode m_Lg_lookForHazard2.2.1 72 = .ok (.iload_n 3, 1) := by decide +kernel
theorem d_Lg_lookForHazard2_73 : decode m_Lg_lookForHazard2.2.1 73 = .ok (.iload_n 1, 1) := by decide +kernel
theorem d_Lg_lookForHazard2_74 : decode m_Lg_lookForHazard2.2.1 74 = .ok (.iload 4, 2) := by decide +kernel
theorem d_Lg_lookForHazard2_76 : decode m_Lg_lookForHazard2.2.1 76 = .ok (.invokevirtual 55, 3) := by decide +kernel
theorem d_Lg_lookForHazard2_79 : decode m_Lg_lookForHazard2.2.1 79 = .ok (.iinc 3 1, 3) := by decide +kernel
theorem d_Lg_lookForHazard2_82 : decode m_Lg_lookForHazard2.2.1 82 = .ok (.goto (-80), 3) := by decide +kernel
theorem d_Lg_lookForHazard2_85 : decode m_Lg_lookForHazard2.2.1 85 = .ok (.return_, 1) := by decide +kernel
theorem d_Lg_lookBetween_0 : decode m_Lg_lookBetween.2.1 0 = .ok (.iconst 1, 1) := by decide +kernel
theorem d_Lg_lookBetween_1 : decode m_Lg_lookBetween.2.1 1 = .ok (.istore 4, 2) := by decide +kernel
theorem d_Lg_lookBetween_3 : decode m_Lg_lookBetween.2.1 3 = .ok (.iload 4, 2) := by decide +kernel
theorem d_Lg_lookBetween_5 : decode m_Lg_lookBetween.2.1 5 = .ok (.iconst 3, 1) := by decide +kernel
theorem d_Lg_lookBetween_6 : decode m_Lg_lookBetween.2.1 6 = .ok (.if_icmp .gt 55, 3) := by decide +kernel
theorem d_Lg_lookBetween_9 : decode m_Lg_lookBetween.2.1 9 = .ok (.aload_n 0, 1) := by decide +kernel
theorem d_Lg_lookBetween_10 : decode m_Lg_lookBetween.2.1 10 = .ok (.iload 4, 2) := by decide +kernel
theorem d_Lg_lookBetween_12 : decode m_Lg_lookBetween.2.1 12 = .ok (.iload_n 1, 1) := by decide +kernel
theorem d_Lg_lookBetween_13 : decode m_Lg_lookBetween.2.1 13 = .ok (.iload_n 2, 1) := by decide +kernel
theorem d_Lg_lookBetween_14 : decode m_Lg_lookBetween.2.1 14 = .ok (.invokevirtual 59, 3) := by decide +kernel
theorem d_Lg_lookBetween_17 : decode m_Lg_lookBetween.2.1 17 = .ok (.istore 5, 2) := by decide +kernel
theorem d_Lg_lookBetween_19 : decode m_Lg_lookBetween.2.1 19 = .ok (.iload 5, 2) := by decide +kernel
theorem d_Lg_lookBetween_21 : decode m_Lg_lookBetween.2.1 21 = .ok (.ifCond .eq 34, 3) := by decide +kernel
theorem d_Lg_lookBetween_24 : decode m_Lg_lookBetween.2.1 24 = .ok (.aload_n 0, 1) := by decide +kernel
theorem d_Lg_lookBetween_25 : decode m_Lg_lookBetween.2.1 25 = .ok (.iload 4, 2) := by decide +kernel
theorem d_Lg_lookBetween_27 : decode m_Lg_lookBetween.2.1 27 = .ok (.putfield 22, 3) := by decide +kernel
theorem d_Lg_lookBetween_30 : decode m_Lg_lookBetween.2.1 30 = .ok (.aload_n 0, 1) := by decide +kernel
theorem d_Lg_lookBetween_31 : decode m_Lg_lookBetween.2.1 31 = .ok (.iload_n 1, 1) := by decide +kernel
theorem d_Lg_lookBetween_32 : decode m_Lg_lookBetween.2.1 32 = .ok (.putfield 36, 3) := by decide +kernel
theorem d_Lg_lookBetween_35 : decode m_Lg_lookBetween.2.1 35 = .ok (.aload_n 0, 1) := by decide +kernel
theorem d_Lg_lookBetween_36 : decode m_Lg_lookBetween.2.1 36 = .ok (.iload_n 2, 1) := by decide +kernel
theorem d_Lg_lookBetween_37 : decode m_Lg_lookBetween.2.1 37 = .ok (.putfield 39, 3) := by decide +kernel
theorem d_Lg_lookBetween_40 : decode m_Lg_lookBetween.2.1 40 = .ok (.aload_n 0, 1) := by decide +kernel
theorem d_Lg_lookBetween_41 : decode m_Lg_lookBetween.2.1 41 = .ok (.iload 5, 2) := by decide +kernel
theorem d_Lg_lookBetween_43 : decode m_Lg_lookBetween.2.1 43 = .ok (.invokestatic 63, 3) := by decide +kernel
theorem d_Lg_lookBetween_46 : decode m_Lg_lookBetween.2.1 46 = .ok (.putfield 42, 3) := by decide +kernel
theorem d_Lg_lookBetween_49 : decode m_Lg_lookBetween.2.1 49 = .ok (.aload_n 0, 1) := by decide +kernel
theorem d_Lg_lookBetween_50 : decode m_Lg_lookBetween.2.1 50 = .ok (.iload_n 3, 1) := by decide +kernel
theorem d_Lg_lookBetween_51 : decode m_Lg_lookBetween.2.1 51 = .ok (.putfield 28, 3) := by decide +kernel
theorem d_Lg_lookBetween_54 : decode m_Lg_lookBetween.2.1 54 = .ok (.return_, 1) := by decide +kernel
theorem d_Lg_lookBetween_55 : decode m_Lg_lookBetween.2.1 55 = .ok (.iinc 4 1, 3) := by decide +kernel
theorem d_Lg_lookBetween_58 : decode m_Lg_lookBetween.2.1 58 = .ok (.goto (-55), 3) := by decide +kernel
theorem d_Lg_lookBetween_61 : decode m_Lg_lookBetween.2.1 61 = .ok (.return_, 1) := by decide +kernel
theorem d_Lg_filesInTheWay_0 : decode m_Lg_filesInTheWay.2.1 0 = .ok (.aload_n 0, 1) := by decide +kernel
theorem d_Lg_filesInTheWay_1 : decode m_Lg_filesInTheWay.2.1 1 = .ok (.getfield 11, 3) := by decide +kernel
theorem d_Lg_filesInTheWay_4 : decode m_Lg_filesInTheWay.2.1 4 = .ok (.iload_n 2, 1) := by decide +kernel
theorem d_Lg_filesInTheWay_5 : decode m_Lg_filesInTheWay.2.1 5 = .ok (.aaload, 1) := by decide +kernel
theorem d_Lg_filesInTheWay_6 : decode m_Lg_filesInTheWay.2.1 6 = .ok (.astore 4, 2) := by decide +kernel
theorem d_Lg_filesInTheWay_8 : decode m_Lg_filesInTheWay.2.1 8 = .ok (.aload_n 0, 1) := by decide +kernel
theorem d_Lg_filesInTheWay_9 : decode m_Lg_filesInTheWay.2.1 9 = .ok (.getfield 11, 3) := by decide +kernel
theorem d_Lg_filesInTheWay_12 : decode m_Lg_filesInTheWay.2.1 12 = .ok (.iload_n 3, 1) := by decide +kernel
theorem d_Lg_filesInTheWay_13 : decode m_Lg_filesInTheWay.2.1 13 = .ok (.aaload, 1) := by decide +kernel
theorem d_Lg_filesInTheWay_14 : decode m_Lg_filesInTheWay.2.1 14 = .ok (.astore 5, 2) := by decide +kernel
theorem d_Lg_filesInTheWay_16 : decode m_Lg_filesInTheWay.2.1 16 = .ok (.iload_n 1, 1) := by decide +kernel
theorem d_Lg_filesInTheWay_17 : decode m_Lg_filesInTheWay.2.1 17 = .ok (.lookupswitch 63 #[(1, 27), (2, 39)], 27) := by decide +kernel
theorem d_Lg_filesInTheWay_44 : decode m_Lg_filesInTheWay.2.1 44 = .ok (.aload 4, 2) := by decide +kernel
theorem d_Lg_filesInTheWay_46 : decode m_Lg_filesInTheWay.2.1 46 = .ok (.getfield 67, 3) := by decide +kernel
theorem d_Lg_filesInTheWay_49 : decode m_Lg_filesInTheWay.2.1 49 = .ok (.aload 5, 2) := by decide +kernel
theorem d_Lg_filesInTheWay_51 : decode m_Lg_filesInTheWay.2.1 51 = .ok (.getfield 67, 3) := by decide +kernel
theorem d_Lg_filesInTheWay_54 : decode m_Lg_filesInTheWay.2.1 54 = .ok (.iand, 1) := by decide +kernel
theorem d_Lg_filesInTheWay_55 : decode m_Lg_filesInTheWay.2.1 55 = .ok (.ireturn, 1) := by decide +kernel
theorem d_Lg_filesInTheWay_56 : decode m_Lg_filesInTheWay.2.1 56 = .ok (.aload 4, 2) := by decide +kernel
theorem d_Lg_filesInTheWay_58 : decode m_Lg_filesInTheWay.2.1 58 = .ok (.getfield 70, 3) := by decide +kernel
theorem d_Lg_filesInTheWay_61 : decode m_Lg_filesInTheWay.2.1 61 = .ok (.aload 5, 2) := by decide +kernel
theorem d_Lg_filesInTheWay_63 : decode m_Lg_filesInTheWay.2.1 63 = .ok (.getfield 67, 3) := by decide +kernel
theorem d_Lg_filesInTheWay_66 : decode m_Lg_filesInTheWay.2.1 66 = .ok (.iand, 1) := by decide +kernel
theorem d_Lg_filesInTheWay_67 : decode m_Lg_filesInTheWay.2.1 67 = .ok (.aload 4, 2) := by decide +kernel
theorem d_Lg_filesInTheWay_69 : decode m_Lg_filesInTheWay.2.1 69 = .ok (.getfield 73, 3) := by decide +kernel
theorem d_Lg_filesInTheWay_72 : decode m_Lg_filesInTheWay.2.1 72 = .ok (.aload 5, 2) := by decide +kernel
theorem d_Lg_filesInTheWay_74 : decode m_Lg_filesInTheWay.2.1 74 = .ok (.getfield 76, 3) := by decide +kernel
theorem d_Lg_filesInTheWay_77 : decode m_Lg_filesInTheWay.2.1 77 = .ok (.iand, 1) := by decide +kernel
theorem d_Lg_filesInTheWay_78 : decode m_Lg_filesInTheWay.2.1 78 = .ok (.ior, 1) := by decide +kernel
theorem d_Lg_filesInTheWay_79 : decode m_Lg_filesInTheWay.2.1 79 = .ok (.ireturn, 1) := by decide +kernel
theorem d_Lg_filesInTheWay_80 : decode m_Lg_filesInTheWay.2.1 80 = .ok (.iload_n 2, 1) := by decide +kernel
theorem d_Lg_filesInTheWay_81 : decode m_Lg_filesInTheWay.2.1 81 = .ok (.iload_n 3, 1) := by decide +kernel
theorem d_Lg_filesInTheWay_82 : decode m_Lg_filesInTheWay.2.1 82 = .ok (.if_icmp .le 29, 3) := by decide +kernel
theorem d_Lg_filesInTheWay_85 : decode m_Lg_filesInTheWay.2.1 85 = .ok (.aload 4, 2) := by decide +kernel
theorem d_Lg_filesInTheWay_87 : decode m_Lg_filesInTheWay.2.1 87 = .ok (.getfield 67, 3) := by decide +kernel
theorem d_Lg_filesInTheWay_90 : decode m_Lg_filesInTheWay.2.1 90 = .ok (.aload 5, 2) := by decide +kernel
theorem d_Lg_filesInTheWay_92 : decode m_Lg_filesInTheWay.2.1 92 = .ok (.getfield 70, 3) := by decide +kernel
theorem d_Lg_filesInTheWay_95 : decode m_Lg_filesInTheWay.2.1 95 = .ok (.iand, 1) := by decide +kernel
theorem d_Lg_filesInTheWay_96 : decode m_Lg_filesInTheWay.2.1 96 = .ok (.aload 4, 2) := by decide +kernel
theorem d_Lg_filesInTheWay_98 : decode m_Lg_filesInTheWay.2.1 98 = .ok (.getfield 76, 3) := by decide +kernel
theorem d_Lg_filesInTheWay_101 : decode m_Lg_filesInTheWay.2.1 101 = .ok (.aload 5, 2) := by decide +kernel
theorem d_Lg_filesInTheWay_103 : decode m_Lg_filesInTheWay.2.1 103 = .ok (.getfield 73, 3) := by decide +kernel
theorem d_Lg_filesInTheWay_106 : decode m_Lg_filesInTheWay.2.1 106 = .ok (.iand, 1) := by decide +kernel
theorem d_Lg_filesInTheWay_107 : decode m_Lg_filesInTheWay.2.1 107 = .ok (.ior, 1) := by decide +kernel
theorem d_Lg_filesInTheWay_108 : decode m_Lg_filesInTheWay.2.1 108 = .ok (.goto 4, 3) := by decide +kernel
theorem d_Lg_filesInTheWay_111 : decode m_Lg_filesInTheWay.2.1 111 = .ok (.iconst 0, 1) := by decide +kernel
theorem d_Lg_filesInTheWay_112 : decode m_Lg_filesInTheWay.2.1 112 = .ok (.ireturn, 1) := by decide +kernel
theorem d_Lg_isSpeculative_0 : decode m_Lg_isSpeculative.2.1 0 = .ok (.aload_n 0, 1) := by decide +kernel
theorem d_Lg_isSpeculative_1 : decode m_Lg_isSpeculative.2.1 1 = .ok (.invokevirtual 32, 3) := by decide +kernel
theorem d_Lg_isSpeculative_4 : decode m_Lg_isSpeculative.2.1 4 = .ok (.ifCond .eq 14, 3) := by decide +kernel
theorem d_Lg_isSpeculative_7 : decode m_Lg_isSpeculative.2.1 7 = .ok (.aload_n 0, 1) := by decide +kernel
theorem d_Lg_isSpeculative_8 : decode m_Lg_isSpeculative.2.1 8 = .ok (.getfield 28, 3) := by decide +kernel
theorem d_Lg_isSpeculative_11 : decode m_Lg_isSpeculative.2.1 11 = .ok (.ifCond .eq 7, 3) := by decide +kernel
theorem d_Lg_isSpeculative_14 : decode m_Lg_isSpeculative.2.1 14 = .ok (.iconst 1, 1) := by decide +kernel
theorem d_Lg_isSpeculative_15 : decode m_Lg_isSpeculative.2.1 15 = .ok (.goto 4, 3) := by decide +kernel
theorem d_Lg_isSpeculative_18 : decode m_Lg_isSpeculative.2.1 18 = .ok (.iconst 0, 1) := by decide +kernel
theorem d_Lg_isSpeculative_19 : decode m_Lg_isSpeculative.2.1 19 = .ok (.ireturn, 1) := by decide +kernel
theorem d_Sc_init_0 : decode m_Sc_init.2.1 0 = .ok (.aload_n 0, 1) := by decide +kernel
theorem d_Sc_init_1 : decode m_Sc_init.2.1 1 = .ok (.invokespecial 3, 3) := by decide +kernel
theorem d_Sc_init_4 : decode m_Sc_init.2.1 4 = .ok (.aload_n 0, 1) := by decide +kernel
theorem d_Sc_init_5 : decode m_Sc_init.2.1 5 = .ok (.bipush 10, 2) := by decide +kernel
theorem d_Sc_init_7 : decode m_Sc_init.2.1 7 = .ok (.anewarray 9, 3) := by decide +kernel
theorem d_Sc_init_10 : decode m_Sc_init.2.1 10 = .ok (.putfield 11, 3) := by decide +kernel
theorem d_Sc_init_13 : decode m_Sc_init.2.1 13 = .ok (.iconst 0, 1) := by decide +kernel
theorem d_Sc_init_14 : decode m_Sc_init.2.1 14 = .ok (.istore_n 1, 1) := by decide +kernel
theorem d_Sc_init_15 : decode m_Sc_init.2.1 15 = .ok (.iload_n 1, 1) := by decide +kernel
theorem d_Sc_init_16 : decode m_Sc_init.2.1 16 = .ok (.bipush 10, 2) := by decide +kernel
theorem d_Sc_init_18 : decode m_Sc_init.2.1 18 = .ok (.if_icmp .ge 22, 3) := by decide +kernel
theorem d_Sc_init_21 : decode m_Sc_init.2.1 21 = .ok (.aload_n 0, 1) := by decide +kernel
theorem d_Sc_init_22 : decode m_Sc_init.2.1 22 = .ok (.getfield 11, 3) := by decide +kernel
theorem d_Sc_init_25 : decode m_Sc_init.2.1 25 = .ok (.iload_n 1, 1) := by decide +kernel
theorem d_Sc_init_26 : decode m_Sc_init.2.1 26 = .ok (.new 9, 3) := by decide +kernel
theorem d_Sc_init_29 : decode m_Sc_init.2.1 29 = .ok (.dup, 1) := by decide +kernel
theorem d_Sc_init_30 : decode m_Sc_init.2.1 30 = .ok (.invokespecial 17, 3) := by decide +kernel
theorem d_Sc_init_33 : decode m_Sc_init.2.1 33 = .ok (.aastore, 1) := by decide +kernel
theorem d_Sc_init_34 : decode m_Sc_init.2.1 34 = .ok (.iinc 1 1, 3) := by decide +kernel
theorem d_Sc_init_37 : decode m_Sc_init.2.1 37 = .ok (.goto (-22), 3) := by decide +kernel
theorem d_Sc_init_40 : decode m_Sc_init.2.1 40 = .ok (.aload_n 0, 1) := by decide +kernel
theorem d_Sc_init_41 : decode m_Sc_init.2.1 41 = .ok (.iconst 0, 1) := by decide +kernel
theorem d_Sc_init_42 : decode m_Sc_init.2.1 42 = .ok (.putfield 18, 3) := by decide +kernel
theorem d_Sc_init_45 : decode m_Sc_init.2.1 45 = .ok (.return_, 1) := by decide +kernel
theorem d_Sc_length_0 : decode m_Sc_length.2.1 0 = .ok (.aload_n 0, 1) := by decide +kernel
theorem d_Sc_length_1 : decode m_Sc_length.2.1 1 = .ok (.getfield 18, 3) := by decide +kernel
theorem d_Sc_length_4 : decode m_Sc_length.2.1 4 = .ok (.ireturn, 1) := by decide +kernel
theorem d_Sc_has_0 : decode m_Sc_has.2.1 0 = .ok (.iload_n 1, 1) := by decide +kernel
theorem d_Sc_has_1 : decode m_Sc_has.2.1 1 = .ok (.ifCond .lt 15, 3) := by decide +kernel
theorem d_Sc_has_4 : decode m_Sc_has.2.1 4 = .ok (.iload_n 1, 1) := by decide +kernel
theorem d_Sc_has_5 : decode m_Sc_has.2.1 5 = .ok (.aload_n 0, 1) := by decide +kernel
theorem d_Sc_has_6 : decode m_Sc_has.2.1 6 = .ok (.getfield 18, 3) := by decide +kernel
theorem d_Sc_has_9 : decode m_Sc_has.2.1 9 = .ok (.if_icmp .ge 7, 3) := by decide +kernel
theorem d_Sc_has_12 : decode m_Sc_has.2.1 12 = .ok (.iconst 1, 1) := by decide +kernel
theorem d_Sc_has_13 : decode m_Sc_has.2.1 13 = .ok (.goto 4, 3) := by decide +kernel
theorem d_Sc_has_16 : decode m_Sc_has.2.1 16 = .ok (.iconst 0, 1) := by decide +kernel
theorem d_Sc_has_17 : decode m_Sc_has.2.1 17 = .ok (.ireturn, 1) := by decide +kernel
theorem d_Sc_isFull_0 : decode m_Sc_isFull.2.1 0 = .ok (.aload_n 0, 1) := by decide +kernel
theorem d_Sc_isFull_1 : decode m_Sc_isFull.2.1 1 = .ok (.getfield 18, 3) := by decide +kernel
theorem d_Sc_isFull_4 : decode m_Sc_isFull.2.1 4 = .ok (.bipush 10, 2) := by decide +kernel
theorem d_Sc_isFull_6 : decode m_Sc_isFull.2.1 6 = .ok (.if_icmp .lt 7, 3) := by decide +kernel
theorem d_Sc_isFull_9 : decode m_Sc_isFull.2.1 9 = .ok (.iconst 1, 1) := by decide +kernel
theorem d_Sc_isFull_10 : decode m_Sc_isFull.2.1 10 = .ok (.goto 4, 3) := by decide +kernel
theorem d_Sc_isFull_13 : decode m_Sc_isFull.2.1 13 = .ok (.iconst 0, 1) := by decide +kernel
theorem d_Sc_isFull_14 : decode m_Sc_isFull.2.1 14 = .ok (.ireturn, 1) := by decide +kernel
theorem d_Sc_append_0 : decode m_Sc_append.2.1 0 = .ok (.aload_n 0, 1) := by decide +kernel
theorem d_Sc_append_1 : decode m_Sc_append.2.1 1 = .ok (.getfield 11, 3) := by decide +kernel
theorem d_Sc_append_4 : decode m_Sc_append.2.1 4 = .ok (.aload_n 0, 1) := by decide +kernel
theorem d_Sc_append_5 : decode m_Sc_append.2.1 5 = .ok (.getfield 18, 3) := by decide +kernel
theorem d_Sc_append_8 : decode m_Sc_append.2.1 8 = .ok (.aaload, 1) := by decide +kernel
theorem d_Sc_append_9 : decode m_Sc_append.2.1 9 = .ok (.aload_n 1, 1) := by decide +kernel
theorem d_Sc_append_10 : decode m_Sc_append.2.1 10 = .ok (.invokevirtual 22, 3) := by decide +kernel
theorem d_Sc_append_13 : decode m_Sc_append.2.1 13 = .ok (.aload_n 0, 1) := by decide +kernel
theorem d_Sc_append_14 : decode m_Sc_append.2.1 14 = .ok (.dup, 1) := by decide +kernel
theorem d_Sc_append_15 : decode m_Sc_append.2.1 15 = .ok (.getfield 18, 3) := by decide +kernel
theorem d_Sc_append_18 : decode m_Sc_append.2.1 18 = .ok (.iconst 1, 1) := by decide +kernel
theorem d_Sc_append_19 : decode m_Sc_append.2.1 19 = .ok (.iadd, 1) := by decide +kernel
theorem d_Sc_append_20 : decode m_Sc_append.2.1 20 = .ok (.putfield 18, 3) := by decide +kernel
theorem d_Sc_append_23 : decode m_Sc_append.2.1 23 = .ok (.aload_n 0, 1) := by decide +kernel
theorem d_Sc_append_24 : decode m_Sc_append.2.1 24 = .ok (.getfield 18, 3) := by decide +kernel
theorem d_Sc_append_27 : decode m_Sc_append.2.1 27 = .ok (.iconst 1, 1) := by decide +kernel
theorem d_Sc_append_28 : decode m_Sc_append.2.1 28 = .ok (.isub, 1) := by decide +kernel
theorem d_Sc_append_29 : decode m_Sc_append.2.1 29 = .ok (.ireturn, 1) := by decide +kernel
theorem d_Sc_at_0 : decode m_Sc_at.2.1 0 = .ok (.aload_n 0, 1) := by decide +kernel
theorem d_Sc_at_1 : decode m_Sc_at.2.1 1 = .ok (.getfield 11, 3) := by decide +kernel
theorem d_Sc_at_4 : decode m_Sc_at.2.1 4 = .ok (.iload_n 1, 1) := by decide +kernel
theorem d_Sc_at_5 : decode m_Sc_at.2.1 5 = .ok (.aaload, 1) := by decide +kernel
theorem d_Sc_at_6 : decode m_Sc_at.2.1 6 = .ok (.areturn, 1) := by decide +kernel
theorem d_Sc_takeOut_0 : decode m_Sc_takeOut.2.1 0 = .ok (.aload_n 0, 1) := by decide +kernel
theorem d_Sc_takeOut_1 : decode m_Sc_takeOut.2.1 1 = .ok (.getfield 11, 3) := by decide +kernel
theorem d_Sc_takeOut_4 : decode m_Sc_takeOut.2.1 4 = .ok (.iload_n 1, 1) := by decide +kernel
theorem d_Sc_takeOut_5 : decode m_Sc_takeOut.2.1 5 = .ok (.aaload, 1) := by decide +kernel
theorem d_Sc_takeOut_6 : decode m_Sc_takeOut.2.1 6 = .ok (.astore_n 2, 1) := by decide +kernel
theorem d_Sc_takeOut_7 : decode m_Sc_takeOut.2.1 7 = .ok (.iload_n 1, 1) := by decide +kernel
theorem d_Sc_takeOut_8 : decode m_Sc_takeOut.2.1 8 = .ok (.istore_n 3, 1) := by decide +kernel
theorem d_Sc_takeOut_9 : decode m_Sc_takeOut.2.1 9 = .ok (.iload_n 3, 1) := by decide +kernel
theorem d_Sc_takeOut_10 : decode m_Sc_takeOut.2.1 10 = .ok (.iconst 1, 1) := by decide +kernel
theorem d_Sc_takeOut_11 : decode m_Sc_takeOut.2.1 11 = .ok (.iadd, 1) := by decide +kernel
theorem d_Sc_takeOut_12 : decode m_Sc_takeOut.2.1 12 = .ok (.aload_n 0, 1) := by decide +kernel
theorem d_Sc_takeOut_13 : decode m_Sc_takeOut.2.1 13 = .ok (.getfield 18, 3) := by decide +kernel
theorem d_Sc_takeOut_16 : decode m_Sc_takeOut.2.1 16 = .ok (.if_icmp .ge 23, 3) := by decide +kernel
theorem d_Sc_takeOut_19 : decode m_Sc_takeOut.2.1 19 = .ok (.aload_n 0, 1) := by decide +kernel
theorem d_Sc_takeOut_20 : decode m_Sc_takeOut.2.1 20 = .ok (.getfield 11, 3) := by decide +kernel
theorem d_Sc_takeOut_23 : decode m_Sc_takeOut.2.1 23 = .ok (.iload_n 3, 1) := by decide +kernel
theorem d_Sc_takeOut_24 : decode m_Sc_takeOut.2.1 24 = .ok (.aload_n 0, 1) := by decide +kernel
theorem d_Sc_takeOut_25 : decode m_Sc_takeOut.2.1 25 = .ok (.getfield 11, 3) := by decide +kernel
theorem d_Sc_takeOut_28 : decode m_Sc_takeOut.2.1 28 = .ok (.iload_n 3, 1) := by decide +kernel
theorem d_Sc_takeOut_29 : decode m_Sc_takeOut.2.1 29 = .ok (.iconst 1, 1) := by decide +kernel
theorem d_Sc_takeOut_30 : decode m_Sc_takeOut.2.1 30 = .ok (.iadd, 1) := by decide +kernel
theorem d_Sc_takeOut_31 : decode m_Sc_takeOut.2.1 31 = .ok (.aaload, 1) := by decide +kernel
theorem d_Sc_takeOut_32 : decode m_Sc_takeOut.2.1 32 = .ok (.aastore, 1) := by decide +kernel
theorem d_Sc_takeOut_33 : decode m_Sc_takeOut.2.1 33 = .ok (.iinc 3 1, 3) := by decide +kernel
theorem d_Sc_takeOut_36 : decode m_Sc_takeOut.2.1 36 = .ok (.goto (-27), 3) := by decide +kernel
theorem d_Sc_takeOut_39 : decode m_Sc_takeOut.2.1 39 = .ok (.aload_n 0, 1) := by decide +kernel
theorem d_Sc_takeOut_40 : decode m_Sc_takeOut.2.1 40 = .ok (.dup, 1) := by decide +kernel
theorem d_Sc_takeOut_41 : decode m_Sc_takeOut.2.1 41 = .ok (.getfield 18, 3) := by decide +kernel
theorem d_Sc_takeOut_44 : decode m_Sc_takeOut.2.1 44 = .ok (.iconst 1, 1) := by decide +kernel
theorem d_Sc_takeOut_45 : decode m_Sc_takeOut.2.1 45 = .ok (.isub, 1) := by decide +kernel
theorem d_Sc_takeOut_46 : decode m_Sc_takeOut.2.1 46 = .ok (.putfield 18, 3) := by decide +kernel
theorem d_Sc_takeOut_49 : decode m_Sc_takeOut.2.1 49 = .ok (.aload_n 0, 1) := by decide +kernel
theorem d_Sc_takeOut_50 : decode m_Sc_takeOut.2.1 50 = .ok (.getfield 11, 3) := by decide +kernel
theorem d_Sc_takeOut_53 : decode m_Sc_takeOut.2.1 53 = .ok (.aload_n 0, 1) := by decide +kernel
theorem d_Sc_takeOut_54 : decode m_Sc_takeOut.2.1 54 = .ok (.getfield 18, 3) := by decide +kernel
theorem d_Sc_takeOut_57 : decode m_Sc_takeOut.2.1 57 = .ok (.aload_n 2, 1) := by decide +kernel
theorem d_Sc_takeOut_58 : decode m_Sc_takeOut.2.1 58 = .ok (.aastore, 1) := by decide +kernel
theorem d_Sc_takeOut_59 : decode m_Sc_takeOut.2.1 59 = .ok (.return_, 1) := by decide +kernel
theorem d_Sh_init_0 : decode m_Sh_init.2.1 0 = .ok (.aload_n 0, 1) := by decide +kernel
theorem d_Sh_init_1 : decode m_Sh_init.2.1 1 = .ok (.invokespecial 3, 3) := by decide +kernel
theorem d_Sh_init_4 : decode m_Sh_init.2.1 4 = .ok (.aload_n 0, 1) := by decide +kernel
theorem d_Sh_init_5 : decode m_Sh_init.2.1 5 = .ok (.iload_n 1, 1) := by decide +kernel
theorem d_Sh_init_6 : decode m_Sh_init.2.1 6 = .ok (.newarray .int, 2) := by decide +kernel
theorem d_Sh_init_8 : decode m_Sh_init.2.1 8 = .ok (.putfield 9, 3) := by decide +kernel
theorem d_Sh_init_11 : decode m_Sh_init.2.1 11 = .ok (.iconst 0, 1) := by decide +kernel
theorem d_Sh_init_12 : decode m_Sh_init.2.1 12 = .ok (.istore_n 2, 1) := by decide +kernel
theorem d_Sh_init_13 : decode m_Sh_init.2.1 13 = .ok (.iload_n 2, 1) := by decide +kernel
theorem d_Sh_init_14 : decode m_Sh_init.2.1 14 = .ok (.iload_n 1, 1) := by decide +kernel
theorem d_Sh_init_15 : decode m_Sh_init.2.1 15 = .ok (.if_icmp .ge 16, 3) := by decide +kernel
theorem d_Sh_init_18 : decode m_Sh_init.2.1 18 = .ok (.aload_n 0, 1) := by decide +kernel
theorem d_Sh_init_19 : decode m_Sh_init.2.1 19 = .ok (.getfield 9, 3) := by decide +kernel
theorem d_Sh_init_22 : decode m_Sh_init.2.1 22 = .ok (.iload_n 2, 1) := by decide +kernel
theorem d_Sh_init_23 : decode m_Sh_init.2.1 23 = .ok (.iconst (-1), 1) := by decide +kernel
theorem d_Sh_init_24 : decode m_Sh_init.2.1 24 = .ok (.iastore, 1) := by decide +kernel
theorem d_Sh_init_25 : decode m_Sh_init.2.1 25 = .ok (.iinc 2 1, 3) := by decide +kernel
theorem d_Sh_init_28 : decode m_Sh_init.2.1 28 = .ok (.goto (-15), 3) := by decide +kernel
theorem d_Sh_init_31 : decode m_Sh_init.2.1 31 = .ok (.aload_n 0, 1) := by decide +kernel
theorem d_Sh_init_32 : decode m_Sh_init.2.1 32 = .ok (.iload_n 1, 1) := by decide +kernel
theorem d_Sh_init_33 : decode m_Sh_init.2.1 33 = .ok (.bipush 6, 2) := by decide +kernel
theorem d_Sh_init_35 : decode m_Sh_init.2.1 35 = .ok (.imul, 1) := by decide +kernel
theorem d_Sh_init_36 : decode m_Sh_init.2.1 36 = .ok (.newarray .short, 2) := by decide +kernel
theorem d_Sh_init_38 : decode m_Sh_init.2.1 38 = .ok (.putfield 15, 3) := by decide +kernel
theorem d_Sh_init_41 : decode m_Sh_init.2.1 41 = .ok (.return_, 1) := by decide +kernel
theorem d_Sh_append_0 : decode m_Sh_append.2.1 0 = .ok (.aload_n 0, 1) := by decide +kernel
theorem d_Sh_append_1 : decode m_Sh_append.2.1 1 = .ok (.iload_n 1, 1) := by decide +kernel
theorem d_Sh_append_2 : decode m_Sh_append.2.1 2 = .ok (.invokevirtual 19, 3) := by decide +kernel
theorem d_Sh_append_5 : decode m_Sh_append.2.1 5 = .ok (.istore_n 3, 1) := by decide +kernel
theorem d_Sh_append_6 : decode m_Sh_append.2.1 6 = .ok (.iload_n 3, 1) := by decide +kernel
theorem d_Sh_append_7 : decode m_Sh_append.2.1 7 = .ok (.bipush 6, 2) := by decide +kernel
theorem d_Sh_append_9 : decode m_Sh_append.2.1 9 = .ok (.if_icmp .lt 5, 3) := by decide +kernel
theorem d_Sh_append_12 : decode m_Sh_append.2.1 12 = .ok (.iconst 0, 1) := by decide +kernel
theorem d_Sh_append_13 : decode m_Sh_append.2.1 13 = .ok (.ireturn, 1) := by decide +kernel
theorem d_Sh_append_14 : decode m_Sh_append.2.1 14 = .ok (.aload_n 0, 1) := by decide +kernel
theorem d_Sh_append_15 : decode m_Sh_append.2.1 15 = .ok (.getfield 15, 3) := by decide +kernel
theorem d_Sh_append_18 : decode m_Sh_append.2.1 18 = .ok (.iload_n 1, 1) := by decide +kernel
theorem d_Sh_append_19 : decode m_Sh_append.2.1 19 = .ok (.bipush 6, 2) := by decide +kernel
theorem d_Sh_append_21 : decode m_Sh_append.2.1 21 = .ok (.imul, 1) := by decide +kernel
theorem d_Sh_append_22 : decode m_Sh_append.2.1 22 = .ok (.iload_n 3, 1) := by decide +kernel
theorem d_Sh_append_23 : decode m_Sh_append.2.1 23 = .ok (.iadd, 1) := by decide +kernel
theorem d_Sh_append_24 : decode m_Sh_append.2.1 24 = .ok (.iload_n 2, 1) := by decide +kernel
theorem d_Sh_append_25 : decode m_Sh_append.2.1 25 = .ok (.sastore, 1) := by decide +kernel
theorem d_Sh_append_26 : decode m_Sh_append.2.1 26 = .ok (.aload_n 0, 1) := by decide +kernel
theorem d_Sh_append_27 : decode m_Sh_append.2.1 27 = .ok (.getfield 9, 3) := by decide +kernel
theorem d_Sh_append_30 : decode m_Sh_append.2.1 30 = .ok (.iload_n 1, 1) := by decide +kernel
theorem d_Sh_append_31 : decode m_Sh_append.2.1 31 = .ok (.iload_n 3, 1) := by decide +kernel
theorem d_Sh_append_32 : decode m_Sh_append.2.1 32 = .ok (.iconst 1, 1) := by decide +kernel
theorem d_Sh_append_33 : decode m_Sh_append.2.1 33 = .ok (.iadd, 1) := by decide +kernel
theorem d_Sh_append_34 : decode m_Sh_append.2.1 34 = .ok (.iastore, 1) := by decide +kernel
theorem d_Sh_append_35 : decode m_Sh_append.2.1 35 = .ok (.iconst 1, 1) := by decide +kernel
theorem d_Sh_append_36 : decode m_Sh_append.2.1 36 = .ok (.ireturn, 1) := by decide +kernel
theorem d_Sh_length_0 : decode m_Sh_length.2.1 0 = .ok (.aload_n 0, 1) := by decide +kernel
theorem d_Sh_length_1 : decode m_Sh_length.2.1 1 = .ok (.getfield 9, 3) := by decide +kernel
theorem d_Sh_length_4 : decode m_Sh_length.2.1 4 = .ok (.iload_n 1, 1) := by decide +kernel
theorem d_Sh_length_5 : decode m_Sh_length.2.1 5 = .ok (.iaload, 1) := by decide +kernel
theorem d_Sh_length_6 : decode m_Sh_length.2.1 6 = .ok (.ifCond .ge 7, 3) := by decide +kernel
theorem d_Sh_length_9 : decode m_Sh_length.2.1 9 = .ok (.iconst 0, 1) := by decide +kernel
theorem d_Sh_length_10 : decode m_Sh_length.2.1 10 = .ok (.goto 9, 3) := by decide +kernel
theorem d_Sh_length_13 : decode m_Sh_length.2.1 13 = .ok (.aload_n 0, 1) := by decide +kernel
theorem d_Sh_length_14 : decode m_Sh_length.2.1 14 = .ok (.getfield 9, 3) := by decide +kernel
theorem d_Sh_length_17 : decode m_Sh_length.2.1 17 = .ok (.iload_n 1, 1) := by decide +kernel
theorem d_Sh_length_18 : decode m_Sh_length.2.1 18 = .ok (.iaload, 1) := by decide +kernel
theorem d_Sh_length_19 : decode m_Sh_length.2.1 19 = .ok (.ireturn, 1) := by decide +kernel
theorem d_Sh_isThere_0 : decode m_Sh_isThere.2.1 0 = .ok (.aload_n 0, 1) := by decide +kernel
theorem d_Sh_isThere_1 : decode m_Sh_isThere.2.1 1 = .ok (.getfield 9, 3) := by decide +kernel
theorem d_Sh_isThere_4 : decode m_Sh_isThere.2.1 4 = .ok (.iload_n 1, 1) := by decide +kernel
theorem d_Sh_isThere_5 : decode m_Sh_isThere.2.1 5 = .ok (.iaload, 1) := by decide +kernel
theorem d_Sh_isThere_6 : decode m_Sh_isThere.2.1 6 = .ok (.iconst (-1), 1) := by decide +kernel
theorem d_Sh_isThere_7 : decode m_Sh_isThere.2.1 7 = .ok (.if_icmp .eq 7, 3) := by decide +kernel
theorem d_Sh_isThere_10 : decode m_Sh_isThere.2.1 10 = .ok (.iconst 1, 1) := by decide +kernel
theorem d_Sh_isThere_11 : decode m_Sh_isThere.2.1 11 = .ok (.goto 4, 3) := by decide +kernel
theorem d_Sh_isThere_14 : decode m_Sh_isThere.2.1 14 = .ok (.iconst 0, 1) := by decide +kernel
theorem d_Sh_isThere_15 : decode m_Sh_isThere.2.1 15 = .ok (.ireturn, 1) := by decide +kernel
theorem d_Sh_takeAway_0 : decode m_Sh_takeAway.2.1 0 = .ok (.aload_n 0, 1) := by decide +kernel
theorem d_Sh_takeAway_1 : decode m_Sh_takeAway.2.1 1 = .ok (.getfield 9, 3) := by decide +kernel
theorem d_Sh_takeAway_4 : decode m_Sh_takeAway.2.1 4 = .ok (.iload_n 1, 1) := by decide +kernel
theorem d_Sh_takeAway_5 : decode m_Sh_takeAway.2.1 5 = .ok (.iconst (-1), 1) := by decide +kernel
theorem d_Sh_takeAway_6 : decode m_Sh_takeAway.2.1 6 = .ok (.iastore, 1) := by decide +kernel
theorem d_Sh_takeAway_7 : decode m_Sh_takeAway.2.1 7 = .ok (.return_, 1) := by decide +kernel
theorem d_Sh_becomeAll_0 : decode m_Sh_becomeAll.2.1 0 = .ok (.iconst 0, 1) := by decide +kernel
theorem d_Sh_becomeAll_1 : decode m_Sh_becomeAll.2.1 1 = .ok (.istore_n 2, 1) := by decide +kernel
theorem d_Sh_becomeAll_2 : decode m_Sh_becomeAll.2.1 2 = .ok (.iload_n 2, 1) := by decide +kernel
theorem d_Sh_becomeAll_3 : decode m_Sh_becomeAll.2.1 3 = .ok (.bipush 12, 2) := by decide +kernel
theorem d_Sh_becomeAll_5 : decode m_Sh_becomeAll.2.1 5 = .ok (.if_icmp .ge 16, 3) := by decide +kernel
theorem d_Sh_becomeAll_8 : decode m_Sh_becomeAll.2.1 8 = .ok (.aload_n 0, 1) := by decide +kernel
theorem d_Sh_becomeAll_9 : decode m_Sh_becomeAll.2.1 9 = .ok (.iload_n 2, 1) := by decide +kernel
theorem d_Sh_becomeAll_10 : decode m_Sh_becomeAll.2.1 10 = .ok (.aload_n 1, 1) := by decide +kernel
theorem d_Sh_becomeAll_11 : decode m_Sh_becomeAll.2.1 11 = .ok (.iload_n 2, 1) := by decide +kernel
theorem d_Sh_becomeAll_12 : decode m_Sh_becomeAll.2.1 12 = .ok (.invokevirtual 23, 3) := by decide +kernel
theorem d_Sh_becomeAll_15 : decode m_Sh_becomeAll.2.1 15 = .ok (.iinc 2 1, 3) := by decide +kernel
theorem d_Sh_becomeAll_18 : decode m_Sh_becomeAll.2.1 18 = .ok (.goto (-16), 3) := by decide +kernel
theorem d_Sh_becomeAll_21 : decode m_Sh_becomeAll.2.1 21 = .ok (.return_, 1) := by decide +kernel
theorem d_Sh_become_0 : decode m_Sh_become.2.1 0 = .ok (.aload_n 0, 1) := by decide +kernel
theorem d_Sh_become_1 : decode m_Sh_become.2.1 1 = .ok (.getfield 9, 3) := by decide +kernel
theorem d_Sh_become_4 : decode m_Sh_become.2.1 4 = .ok (.iload_n 1, 1) := by decide +kernel
theorem d_Sh_become_5 : decode m_Sh_become.2.1 5 = .ok (.aload_n 2, 1) := by decide +kernel
theorem d_Sh_become_6 : decode m_Sh_become.2.1 6 = .ok (.getfield 9, 3) := by decide +kernel
theorem d_Sh_become_9 : decode m_Sh_become.2.1 9 = .ok (.iload_n 3, 1) := by decide +kernel
theorem d_Sh_become_10 : decode m_Sh_become.2.1 10 = .ok (.iaload, 1) := by decide +kernel
theorem d_Sh_become_11 : decode m_Sh_become.2.1 11 = .ok (.iastore, 1) := by decide +kernel
theorem d_Sh_become_12 : decode m_Sh_become.2.1 12 = .ok (.iconst 0, 1) := by decide +kernel
theorem d_Sh_become_13 : decode m_Sh_become.2.1 13 = .ok (.istore 4, 2) := by decide +kernel
theorem d_Sh_become_15 : decode m_Sh_become.2.1 15 = .ok (.iload 4, 2) := by decide +kernel
theorem d_Sh_become_17 : decode m_Sh_become.2.1 17 = .ok (.aload_n 0, 1) := by decide +kernel
theorem d_Sh_become_18 : decode m_Sh_become.2.1 18 = .ok (.getfield 9, 3) := by decide +kernel
theorem d_Sh_become_21 : decode m_Sh_become.2.1 21 = .ok (.iload_n 1, 1) := by decide +kernel
theorem d_Sh_become_22 : decode m_Sh_become.2.1 22 = .ok (.iaload, 1) := by decide +kernel
theorem d_Sh_become_23 : decode m_Sh_become.2.1 23 = .ok (.if_icmp .ge 33, 3) := by decide +kernel
theorem d_Sh_become_26 : decode m_Sh_become.2.1 26 = .ok (.aload_n 0, 1) := by decide +kernel
theorem d_Sh_become_27 : decode m_Sh_become.2.1 27 = .ok (.getfield 15, 3) := by decide +kernel
theorem d_Sh_become_30 : decode m_Sh_become.2.1 30 = .ok (.iload_n 1, 1) := by decide +kernel
theorem d_Sh_become_31 : decode m_Sh_become.2.1 31 = .ok (.bipush 6, 2) := by decide +kernel
theorem d_Sh_become_33 : decode m_Sh_become.2.1 33 = .ok (.imul, 1) := by decide +kernel
theorem d_Sh_become_34 : decode m_Sh_become.2.1 34 = .ok (.iload 4, 2) := by decide +kernel
theorem d_Sh_become_36 : decode m_Sh_become.2.1 36 = .ok (.iadd, 1) := by decide +kernel
theorem d_Sh_become_37 : decode m_Sh_become.2.1 37 = .ok (.aload_n 2, 1) := by decide +kernel
theorem d_Sh_become_38 : decode m_Sh_become.2.1 38 = .ok (.getfield 15, 3) := by decide +kernel
theorem d_Sh_become_41 : decode m_Sh_become.2.1 41 = .ok (.iload_n 3, 1) := by decide +kernel
theorem d_Sh_become_42 : decode m_Sh_become.2.1 42 = .ok (.bipush 6, 2) := by decide +kernel
theorem d_Sh_become_44 : decode m_Sh_become.2.1 44 = .ok (.imul, 1) := by decide +kernel
theorem d_Sh_become_45 : decode m_Sh_become.2.1 45 = .ok (.iload 4, 2) := by decide +kernel
theorem d_Sh_become_47 : decode m_Sh_become.2.1 47 = .ok (.iadd, 1) := by decide +kernel
theorem d_Sh_become_48 : decode m_Sh_become.2.1 48 = .ok (.saload, 1) := by decide +kernel
theorem d_Sh_become_49 : decode m_Sh_become.2.1 49 = .ok (.sastore, 1) := by decide +kernel
theorem d_Sh_become_50 : decode m_Sh_become.2.1 50 = .ok (.iinc 4 1, 3) := by decide +kernel
theorem d_Sh_become_53 : decode m_Sh_become.2.1 53 = .ok (.goto (-38), 3) := by decide +kernel
theorem d_Sh_become_56 : decode m_Sh_become.2.1 56 = .ok (.return_, 1) := by decide +kernel
theorem d_Sh_thoseThere_0 : decode m_Sh_thoseThere.2.1 0 = .ok (.iconst 0, 1) := by decide +kernel
theorem d_Sh_thoseThere_1 : decode m_Sh_thoseThere.2.1 1 = .ok (.istore_n 1, 1) := by decide +kernel
theorem d_Sh_thoseThere_2 : decode m_Sh_thoseThere.2.1 2 = .ok (.iconst 0, 1) := by decide +kernel
theorem d_Sh_thoseThere_3 : decode m_Sh_thoseThere.2.1 3 = .ok (.istore_n 2, 1) := by decide +kernel
theorem d_Sh_thoseThere_4 : decode m_Sh_thoseThere.2.1 4 = .ok (.iload_n 2, 1) := by decide +kernel
theorem d_Sh_thoseThere_5 : decode m_Sh_thoseThere.2.1 5 = .ok (.bipush 12, 2) := by decide +kernel
theorem d_Sh_thoseThere_7 : decode m_Sh_thoseThere.2.1 7 = .ok (.if_icmp .ge 25, 3) := by decide +kernel
theorem d_Sh_thoseThere_10 : decode m_Sh_thoseThere.2.1 10 = .ok (.aload_n 0, 1) := by decide +kernel
theorem d_Sh_thoseThere_11 : decode m_Sh_thoseThere.2.1 11 = .ok (.getfield 9, 3) := by decide +kernel
theorem d_Sh_thoseThere_14 : decode m_Sh_thoseThere.2.1 14 = .ok (.iload_n 2, 1) := by decide +kernel
theorem d_Sh_thoseThere_15 : decode m_Sh_thoseThere.2.1 15 = .ok (.iaload, 1) := by decide +kernel
theorem d_Sh_thoseThere_16 : decode m_Sh_thoseThere.2.1 16 = .ok (.iconst (-1), 1) := by decide +kernel
theorem d_Sh_thoseThere_17 : decode m_Sh_thoseThere.2.1 17 = .ok (.if_icmp .eq 9, 3) := by decide +kernel
theorem d_Sh_thoseThere_20 : decode m_Sh_thoseThere.2.1 20 = .ok (.iload_n 1, 1) := by decide +kernel
theorem d_Sh_thoseThere_21 : decode m_Sh_thoseThere.2.1 21 = .ok (.iconst 1, 1) := by decide +kernel
theorem d_Sh_thoseThere_22 : decode m_Sh_thoseThere.2.1 22 = .ok (.iload_n 2, 1) := by decide +kernel
theorem d_Sh_thoseThere_23 : decode m_Sh_thoseThere.2.1 23 = .ok (.ishl, 1) := by decide +kernel
theorem d_Sh_thoseThere_24 : decode m_Sh_thoseThere.2.1 24 = .ok (.ior, 1) := by decide +kernel
theorem d_Sh_thoseThere_25 : decode m_Sh_thoseThere.2.1 25 = .ok (.istore_n 1, 1) := by decide +kernel
theorem d_Sh_thoseThere_26 : decode m_Sh_thoseThere.2.1 26 = .ok (.iinc 2 1, 3) := by decide +kernel
theorem d_Sh_thoseThere_29 : decode m_Sh_thoseThere.2.1 29 = .ok (.goto (-25), 3) := by decide +kernel
theorem d_Sh_thoseThere_32 : decode m_Sh_thoseThere.2.1 32 = .ok (.iload_n 1, 1) := by decide +kernel
theorem d_Sh_thoseThere_33 : decode m_Sh_thoseThere.2.1 33 = .ok (.ireturn, 1) := by decide +kernel
theorem d_Sh_isSame_0 : decode m_Sh_isSame.2.1 0 = .ok (.aload_n 0, 1) := by decide +kernel
theorem d_Sh_isSame_1 : decode m_Sh_isSame.2.1 1 = .ok (.getfield 9, 3) := by decide +kernel
theorem d_Sh_isSame_4 : decode m_Sh_isSame.2.1 4 = .ok (.iload_n 1, 1) := by decide +kernel
theorem d_Sh_isSame_5 : decode m_Sh_isSame.2.1 5 = .ok (.iaload, 1) := by decide +kernel
theorem d_Sh_isSame_6 : decode m_Sh_isSame.2.1 6 = .ok (.aload_n 2, 1) := by decide +kernel
theorem d_Sh_isSame_7 : decode m_Sh_isSame.2.1 7 = .ok (.getfield 9, 3) := by decide +kernel
theorem d_Sh_isSame_10 : decode m_Sh_isSame.2.1 10 = .ok (.iload_n 3, 1) := by decide +kernel
theorem d_Sh_isSame_11 : decode m_Sh_isSame.2.1 11 = .ok (.iaload, 1) := by decide +kernel
theorem d_Sh_isSame_12 : decode m_Sh_isSame.2.1 12 = .ok (.if_icmp .eq 5, 3) := by decide +kernel
theorem d_Sh_isSame_15 : decode m_Sh_isSame.2.1 15 = .ok (.iconst 0, 1) := by decide +kernel
theorem d_Sh_isSame_16 : decode m_Sh_isSame.2.1 16 = .ok (.ireturn, 1) := by decide +kernel
theorem d_Sh_isSame_17 : decode m_Sh_isSame.2.1 17 = .ok (.iconst 0, 1) := by decide +kernel
theorem d_Sh_isSame_18 : decode m_Sh_isSame.2.1 18 = .ok (.istore 4, 2) := by decide +kernel
theorem d_Sh_isSame_20 : decode m_Sh_isSame.2.1 20 = .ok (.iload 4, 2) := by decide +kernel
theorem d_Sh_isSame_22 : decode m_Sh_isSame.2.1 22 = .ok (.aload_n 0, 1) := by decide +kernel
theorem d_Sh_isSame_23 : decode m_Sh_isSame.2.1 23 = .ok (.getfield 9, 3) := by decide +kernel
theorem d_Sh_isSame_26 : decode m_Sh_isSame.2.1 26 = .ok (.iload_n 1, 1) := by decide +kernel
theorem d_Sh_isSame_27 : decode m_Sh_isSame.2.1 27 = .ok (.iaload, 1) := by decide +kernel
theorem d_Sh_isSame_28 : decode m_Sh_isSame.2.1 28 = .ok (.if_icmp .ge 38, 3) := by decide +kernel
theorem d_Sh_isSame_31 : decode m_Sh_isSame.2.1 31 = .ok (.aload_n 0, 1) := by decide +kernel
theorem d_Sh_isSame_32 : decode m_Sh_isSame.2.1 32 = .ok (.getfield 15, 3) := by decide +kernel
theorem d_Sh_isSame_35 : decode m_Sh_isSame.2.1 35 = .ok (.iload_n 1, 1) := by decide +kernel
theorem d_Sh_isSame_36 : decode m_Sh_isSame.2.1 36 = .ok (.bipush 6, 2) := by decide +kernel
theorem d_Sh_isSame_38 : decode m_Sh_isSame.2.1 38 = .ok (.imul, 1) := by decide +kernel
theorem d_Sh_isSame_39 : decode m_Sh_isSame.2.1 39 = .ok (.iload 4, 2) := by decide +kernel
theorem d_Sh_isSame_41 : decode m_Sh_isSame.2.1 41 = .ok (.iadd, 1) := by decide +kernel
theorem d_Sh_isSame_42 : decode m_Sh_isSame.2.1 42 = .ok (.saload, 1) := by decide +kernel
theorem d_Sh_isSame_43 : decode m_Sh_isSame.2.1 43 = .ok (.aload_n 2, 1) := by decide +kernel
theorem d_Sh_isSame_44 : decode m_Sh_isSame.2.1 44 = .ok (.getfield 15, 3) := by decide +kernel
theorem d_Sh_isSame_47 : decode m_Sh_isSame.2.1 47 = .ok (.iload_n 3, 1) := by decide +kernel
theorem d_Sh_isSame_48 : decode m_Sh_isSame.2.1 48 = .ok (.bipush 6, 2) := by decide +kernel
theorem d_Sh_isSame_50 : decode m_Sh_isSame.2.1 50 = .ok (.imul, 1) := by decide +kernel
theorem d_Sh_isSame_51 : decode m_Sh_isSame.2.1 51 = .ok (.iload 4, 2) := by decide +kernel
theorem d_Sh_isSame_53 : decode m_Sh_isSame.2.1 53 = .ok (.iadd, 1) := by decide +kernel
theorem d_Sh_isSame_54 : decode m_Sh_isSame.2.1 54 = .ok (.saload, 1) := by decide +kernel
theorem d_Sh_isSame_55 : decode m_Sh_isSame.2.1 55 = .ok (.if_icmp .eq 5, 3) := by decide +kernel
theorem d_Sh_isSame_58 : decode m_Sh_isSame.2.1 58 = .ok (.iconst 0, 1) := by decide +kernel
theorem d_Sh_isSame_59 : decode m_Sh_isSame.2.1 59 = .ok (.ireturn, 1) := by decide +kernel
theorem d_Sh_isSame_60 : decode m_Sh_isSame.2.1 60 = .ok (.iinc 4 1, 3) := by decide +kernel
theorem d_Sh_isSame_63 : decode m_Sh_isSame.2.1 63 = .ok (.goto (-43), 3) := by decide +kernel
theorem d_Sh_isSame_66 : decode m_Sh_isSame.2.1 66 = .ok (.iconst 1, 1) := by decide +kernel
theorem d_Sh_isSame_67 : decode m_Sh_isSame.2.1 67 = .ok (.ireturn, 1) := by decide +kernel
theorem d_Sh_at_0 : decode m_Sh_at.2.1 0 = .ok (.aload_n 0, 1) := by decide +kernel
theorem d_Sh_at_1 : decode m_Sh_at.2.1 1 = .ok (.getfield 15, 3) := by decide +kernel
theorem d_Sh_at_4 : decode m_Sh_at.2.1 4 = .ok (.iload_n 1, 1) := by decide +kernel
theorem d_Sh_at_5 : decode m_Sh_at.2.1 5 = .ok (.bipush 6, 2) := by decide +kernel
theorem d_Sh_at_7 : decode m_Sh_at.2.1 7 = .ok (.imul, 1) := by decide +kernel
theorem d_Sh_at_8 : decode m_Sh_at.2.1 8 = .ok (.iload_n 2, 1) := by decide +kernel
theorem d_Sh_at_9 : decode m_Sh_at.2.1 9 = .ok (.iadd, 1) := by decide +kernel
theorem d_Sh_at_10 : decode m_Sh_at.2.1 10 = .ok (.saload, 1) := by decide +kernel
theorem d_Sh_at_11 : decode m_Sh_at.2.1 11 = .ok (.ireturn, 1) := by decide +kernel
theorem d_Sh_makeEmpty_0 : decode m_Sh_makeEmpty.2.1 0 = .ok (.aload_n 0, 1) := by decide +kernel
theorem d_Sh_makeEmpty_1 : decode m_Sh_makeEmpty.2.1 1 = .ok (.getfield 9, 3) := by decide +kernel
theorem d_Sh_makeEmpty_4 : decode m_Sh_makeEmpty.2.1 4 = .ok (.iload_n 1, 1) := by decide +kernel
theorem d_Sh_makeEmpty_5 : decode m_Sh_makeEmpty.2.1 5 = .ok (.iconst 0, 1) := by decide +kernel
theorem d_Sh_makeEmpty_6 : decode m_Sh_makeEmpty.2.1 6 = .ok (.iastore, 1) := by decide +kernel
theorem d_Sh_makeEmpty_7 : decode m_Sh_makeEmpty.2.1 7 = .ok (.return_, 1) := by decide +kernel
theorem d_Sh_sort_0 : decode m_Sh_sort.2.1 0 = .ok (.iload_n 1, 1) := by decide +kernel
theorem d_Sh_sort_1 : decode m_Sh_sort.2.1 1 = .ok (.bipush 6, 2) := by decide +kernel
theorem d_Sh_sort_3 : decode m_Sh_sort.2.1 3 = .ok (.imul, 1) := by decide +kernel
theorem d_Sh_sort_4 : decode m_Sh_sort.2.1 4 = .ok (.istore_n 2, 1) := by decide +kernel
theorem d_Sh_sort_5 : decode m_Sh_sort.2.1 5 = .ok (.iconst 1, 1) := by decide +kernel
theorem d_Sh_sort_6 : decode m_Sh_sort.2.1 6 = .ok (.istore_n 3, 1) := by decide +kernel
theorem d_Sh_sort_7 : decode m_Sh_sort.2.1 7 = .ok (.iload_n 3, 1) := by decide +kernel
theorem d_Sh_sort_8 : decode m_Sh_sort.2.1 8 = .ok (.aload_n 0, 1) := by decide +kernel
theorem d_Sh_sort_9 : decode m_Sh_sort.2.1 9 = .ok (.iload_n 1, 1) := by decide +kernel
theorem d_Sh_sort_10 : decode m_Sh_sort.2.1 10 = .ok (.invokevirtual 19, 3) := by decide +kernel
theorem d_Sh_sort_13 : decode m_Sh_sort.2.1 13 = .ok (.if_icmp .ge 80, 3) := by decide +kernel
theorem d_Sh_sort_16 : decode m_Sh_sort.2.1 16 = .ok (.aload_n 0, 1) := by decide +kernel
theorem d_Sh_sort_17 : decode m_Sh_sort.2.1 17 = .ok (.getfield 15, 3) := by decide +kernel
theorem d_Sh_sort_20 : decode m_Sh_sort.2.1 20 = .ok (.iload_n 2, 1) := by decide +kernel
theorem d_Sh_sort_21 : decode m_Sh_sort.2.1 21 = .ok (.iload_n 3, 1) := by decide +kernel
theorem d_Sh_sort_22 : decode m_Sh_sort.2.1 22 = .ok (.iadd, 1) := by decide +kernel
theorem d_Sh_sort_23 : decode m_Sh_sort.2.1 23 = .ok (.saload, 1) := by decide +kernel
theorem d_Sh_sort_24 : decode m_Sh_sort.2.1 24 = .ok (.istore 4, 2) := by decide +kernel
theorem d_Sh_sort_26 : decode m_Sh_sort.2.1 26 = .ok (.iload_n 3, 1) := by decide +kernel
theorem d_Sh_sort_27 : decode m_Sh_sort.2.1 27 = .ok (.istore 5, 2) := by decide +kernel
theorem d_Sh_sort_29 : decode m_Sh_sort.2.1 29 = .ok (.iload 5, 2) := by decide +kernel
theorem d_Sh_sort_31 : decode m_Sh_sort.2.1 31 = .ok (.ifCond .le 45, 3) := by decide +kernel
theorem d_Sh_sort_34 : decode m_Sh_sort.2.1 34 = .ok (.aload_n 0, 1) := by decide +kernel
theorem d_Sh_sort_35 : decode m_Sh_sort.2.1 35 = .ok (.getfield 15, 3) := by decide +kernel
theorem d_Sh_sort_38 : decode m_Sh_sort.2.1 38 = .ok (.iload_n 2, 1) := by decide +kernel
theorem d_Sh_sort_39 : decode m_Sh_sort.2.1 39 = .ok (.iload 5, 2) := by decide +kernel
theorem d_Sh_sort_41 : decode m_Sh_sort.2.1 41 = .ok (.iadd, 1) := by decide +kernel
theorem d_Sh_sort_42 : decode m_Sh_sort.2.1 42 = .ok (.iconst 1, 1) := by decide +kernel
theorem d_Sh_sort_43 : decode m_Sh_sort.2.1 43 = .ok (.isub, 1) := by decide +kernel
theorem d_Sh_sort_44 : decode m_Sh_sort.2.1 44 = .ok (.saload, 1) := by decide +kernel
theorem d_Sh_sort_45 : decode m_Sh_sort.2.1 45 = .ok (.iload 4, 2) := by decide +kernel
theorem d_Sh_sort_47 : decode m_Sh_sort.2.1 47 = .ok (.if_icmp .le 29, 3) := by decide +kernel
theorem d_Sh_sort_50 : decode m_Sh_sort.2.1 50 = .ok (.aload_n 0, 1) := by decide +kernel
theorem d_Sh_sort_51 : decode m_Sh_sort.2.1 51 = .ok (.getfield 15, 3) := by decide +kernel
theorem d_Sh_sort_54 : decode m_Sh_sort.2.1 54 = .ok (.iload_n 2, 1) := by decide +kernel
theorem d_Sh_sort_55 : decode m_Sh_sort.2.1 55 = .ok (.iload 5, 2) := by decide +kernel
theorem d_Sh_sort_57 : decode m_Sh_sort.2.1 57 = .ok (.iadd, 1) := by decide +kernel
theorem d_Sh_sort_58 : decode m_Sh_sort.2.1 58 = .ok (.aload_n 0, 1) := by decide +kernel
theorem d_Sh_sort_59 : decode m_Sh_sort.2.1 59 = .ok (.getfield 15, 3) := by decide +kernel
theorem d_Sh_sort_62 : decode m_Sh_sort.2.1 62 = .ok (.iload_n 2, 1) := by decide +kernel
theorem d_Sh_sort_63 : decode m_Sh_sort.2.1 63 = .ok (.iload 5, 2) := by decide +kernel
theorem d_Sh_sort_65 : decode m_Sh_sort.2.1 65 = .ok (.iadd, 1) := by decide +kernel
theorem d_Sh_sort_66 : decode m_Sh_sort.2.1 66 = .ok (.iconst 1, 1) := by decide +kernel
theorem d_Sh_sort_67 : decode m_Sh_sort.2.1 67 = .ok (.isub, 1) := by decide +kernel
theorem d_Sh_sort_68 : decode m_Sh_sort.2.1 68 = .ok (.saload, 1) := by decide +kernel
theorem d_Sh_sort_69 : decode m_Sh_sort.2.1 69 = .ok (.sastore, 1) := by decide +kernel
theorem d_Sh_sort_70 : decode m_Sh_sort.2.1 70 = .ok (.iinc 5 (-1), 3) := by decide +kernel
theorem d_Sh_sort_73 : decode m_Sh_sort.2.1 73 = .ok (.goto (-44), 3) := by decide +kernel
theorem d_Sh_sort_76 : decode m_Sh_sort.2.1 76 = .ok (.aload_n 0, 1) := by decide +kernel
theorem d_Sh_sort_77 : decode m_Sh_sort.2.1 77 = .ok (.getfield 15, 3) := by decide +kernel
theorem d_Sh_sort_80 : decode m_Sh_sort.2.1 80 = .ok (.iload_n 2, 1) := by decide +kernel
theorem d_Sh_sort_81 : decode m_Sh_sort.2.1 81 = .ok (.iload 5, 2) := by decide +kernel
theorem d_Sh_sort_83 : decode m_Sh_sort.2.1 83 = .ok (.iadd, 1) := by decide +kernel
theorem d_Sh_sort_84 : decode m_Sh_sort.2.1 84 = .ok (.iload 4, 2) := by decide +kernel
theorem d_Sh_sort_86 : decode m_Sh_sort.2.1 86 = .ok (.sastore, 1) := by decide +kernel
theorem d_Sh_sort_87 : decode m_Sh_sort.2.1 87 = .ok (.iinc 3 1, 3) := by decide +kernel
theorem d_Sh_sort_90 : decode m_Sh_sort.2.1 90 = .ok (.goto (-83), 3) := by decide +kernel
theorem d_Sh_sort_93 : decode m_Sh_sort.2.1 93 = .ok (.return_, 1) := by decide +kernel
theorem d_St_init_0 : decode m_St_init.2.1 0 = .ok (.aload_n 0, 1) := by decide +kernel
theorem d_St_init_1 : decode m_St_init.2.1 1 = .ok (.invokespecial 3, 3) := by decide +kernel
theorem d_St_init_4 : decode m_St_init.2.1 4 = .ok (.aload_n 0, 1) := by decide +kernel
theorem d_St_init_5 : decode m_St_init.2.1 5 = .ok (.bipush 24, 2) := by decide +kernel
theorem d_St_init_7 : decode m_St_init.2.1 7 = .ok (.anewarray 9, 3) := by decide +kernel
theorem d_St_init_10 : decode m_St_init.2.1 10 = .ok (.putfield 11, 3) := by decide +kernel
theorem d_St_init_13 : decode m_St_init.2.1 13 = .ok (.iconst 0, 1) := by decide +kernel
theorem d_St_init_14 : decode m_St_init.2.1 14 = .ok (.istore_n 1, 1) := by decide +kernel
theorem d_St_init_15 : decode m_St_init.2.1 15 = .ok (.iload_n 1, 1) := by decide +kernel
theorem d_St_init_16 : decode m_St_init.2.1 16 = .ok (.bipush 24, 2) := by decide +kernel
theorem d_St_init_18 : decode m_St_init.2.1 18 = .ok (.if_icmp .ge 22, 3) := by decide +kernel
theorem d_St_init_21 : decode m_St_init.2.1 21 = .ok (.aload_n 0, 1) := by decide +kernel
theorem d_St_init_22 : decode m_St_init.2.1 22 = .ok (.getfield 11, 3) := by decide +kernel
theorem d_St_init_25 : decode m_St_init.2.1 25 = .ok (.iload_n 1, 1) := by decide +kernel
theorem d_St_init_26 : decode m_St_init.2.1 26 = .ok (.new 9, 3) := by decide +kernel
theorem d_St_init_29 : decode m_St_init.2.1 29 = .ok (.dup, 1) := by decide +kernel
theorem d_St_init_30 : decode m_St_init.2.1 30 = .ok (.invokespecial 17, 3) := by decide +kernel
theorem d_St_init_33 : decode m_St_init.2.1 33 = .ok (.aastore, 1) := by decide +kernel
theorem d_St_init_34 : decode m_St_init.2.1 34 = .ok (.iinc 1 1, 3) := by decide +kernel
theorem d_St_init_37 : decode m_St_init.2.1 37 = .ok (.goto (-22), 3) := by decide +kernel
theorem d_St_init_40 : decode m_St_init.2.1 40 = .ok (.aload_n 0, 1) := by decide +kernel
theorem d_St_init_41 : decode m_St_init.2.1 41 = .ok (.iconst 0, 1) := by decide +kernel
theorem d_St_init_42 : decode m_St_init.2.1 42 = .ok (.putfield 18, 3) := by decide +kernel
theorem d_St_init_45 : decode m_St_init.2.1 45 = .ok (.return_, 1) := by decide +kernel
theorem d_St_length_0 : decode m_St_length.2.1 0 = .ok (.aload_n 0, 1) := by decide +kernel
theorem d_St_length_1 : decode m_St_length.2.1 1 = .ok (.getfield 18, 3) := by decide +kernel
theorem d_St_length_4 : decode m_St_length.2.1 4 = .ok (.ireturn, 1) := by decide +kernel
theorem d_St_cutTo_0 : decode m_St_cutTo.2.1 0 = .ok (.iload_n 1, 1) := by decide +kernel
theorem d_St_cutTo_1 : decode m_St_cutTo.2.1 1 = .ok (.ifCond .lt 11, 3) := by decide +kernel
theorem d_St_cutTo_4 : decode m_St_cutTo.2.1 4 = .ok (.iload_n 1, 1) := by decide +kernel
theorem d_St_cutTo_5 : decode m_St_cutTo.2.1 5 = .ok (.aload_n 0, 1) := by decide +kernel
theorem d_St_cutTo_6 : decode m_St_cutTo.2.1 6 = .ok (.getfield 18, 3) := by decide +kernel
theorem d_St_cutTo_9 : decode m_St_cutTo.2.1 9 = .ok (.if_icmp .lt 5, 3) := by decide +kernel
theorem d_St_cutTo_12 : decode m_St_cutTo.2.1 12 = .ok (.iconst 0, 1) := by decide +kernel
theorem d_St_cutTo_13 : decode m_St_cutTo.2.1 13 = .ok (.ireturn, 1) := by decide +kernel
theorem d_St_cutTo_14 : decode m_St_cutTo.2.1 14 = .ok (.aload_n 0, 1) := by decide +kernel
theorem d_St_cutTo_15 : decode m_St_cutTo.2.1 15 = .ok (.iload_n 1, 1) := by decide +kernel
theorem d_St_cutTo_16 : decode m_St_cutTo.2.1 16 = .ok (.putfield 18, 3) := by decide +kernel
theorem d_St_cutTo_19 : decode m_St_cutTo.2.1 19 = .ok (.iconst 1, 1) := by decide +kernel
theorem d_St_cutTo_20 : decode m_St_cutTo.2.1 20 = .ok (.ireturn, 1) := by decide +kernel
theorem d_St_keepLatest_0 : decode m_St_keepLatest.2.1 0 = .ok (.aload_n 0, 1) := by decide +kernel
theorem d_St_keepLatest_1 : decode m_St_keepLatest.2.1 1 = .ok (.getfield 18, 3) := by decide +kernel
theorem d_St_keepLatest_4 : decode m_St_keepLatest.2.1 4 = .ok (.istore_n 1, 1) := by decide +kernel
theorem d_St_keepLatest_5 : decode m_St_keepLatest.2.1 5 = .ok (.iconst 0, 1) := by decide +kernel
theorem d_St_keepLatest_6 : decode m_St_keepLatest.2.1 6 = .ok (.istore_n 2, 1) := by decide +kernel
theorem d_St_keepLatest_7 : decode m_St_keepLatest.2.1 7 = .ok (.iconst 0, 1) := by decide +kernel
theorem d_St_keepLatest_8 : decode m_St_keepLatest.2.1 8 = .ok (.istore_n 3, 1) := by decide +kernel
theorem d_St_keepLatest_9 : decode m_St_keepLatest.2.1 9 = .ok (.iload_n 3, 1) := by decide +kernel
theorem d_St_keepLatest_10 : decode m_St_keepLatest.2.1 10 = .ok (.iload_n 1, 1) := by decide +kernel
theorem d_St_keepLatest_11 : decode m_St_keepLatest.2.1 11 = .ok (.if_icmp .ge 26, 3) := by decide +kernel
theorem d_St_keepLatest_14 : decode m_St_keepLatest.2.1 14 = .ok (.aload_n 0, 1) := by decide +kernel
theorem d_St_keepLatest_15 : decode m_St_keepLatest.2.1 15 = .ok (.iload_n 3, 1) := by decide +kernel
theorem d_St_keepLatest_16 : decode m_St_keepLatest.2.1 16 = .ok (.invokevirtual 45, 3) := by decide +kernel
theorem d_St_keepLatest_19 : decode m_St_keepLatest.2.1 19 = .ok (.ifCond .ne 12, 3) := by decide +kernel
theorem d_St_keepLatest_22 : decode m_St_keepLatest.2.1 22 = .ok (.aload_n 0, 1) := by decide +kernel
theorem d_St_keepLatest_23 : decode m_St_keepLatest.2.1 23 = .ok (.iload_n 2, 1) := by decide +kernel
theorem d_St_keepLatest_24 : decode m_St_keepLatest.2.1 24 = .ok (.iload_n 3, 1) := by decide +kernel
theorem d_St_keepLatest_25 : decode m_St_keepLatest.2.1 25 = .ok (.invokevirtual 49, 3) := by decide +kernel
theorem d_St_keepLatest_28 : decode m_St_keepLatest.2.1 28 = .ok (.iinc 2 1, 3) := by decide +kernel
theorem d_St_keepLatest_31 : decode m_St_keepLatest.2.1 31 = .ok (.iinc 3 1, 3) := by decide +kernel
theorem d_St_keepLatest_34 : decode m_St_keepLatest.2.1 34 = .ok (.goto (-25), 3) := by decide +kernel
theorem d_St_keepLatest_37 : decode m_St_keepLatest.2.1 37 = .ok (.aload_n 0, 1) := by decide +kernel
theorem d_St_keepLatest_38 : decode m_St_keepLatest.2.1 38 = .ok (.iload_n 2, 1) := by decide +kernel
theorem d_St_keepLatest_39 : decode m_St_keepLatest.2.1 39 = .ok (.putfield 18, 3) := by decide +kernel
theorem d_St_keepLatest_42 : decode m_St_keepLatest.2.1 42 = .ok (.iload_n 1, 1) := by decide +kernel
theorem d_St_keepLatest_43 : decode m_St_keepLatest.2.1 43 = .ok (.iload_n 2, 1) := by decide +kernel
theorem d_St_keepLatest_44 : decode m_St_keepLatest.2.1 44 = .ok (.isub, 1) := by decide +kernel
theorem d_St_keepLatest_45 : decode m_St_keepLatest.2.1 45 = .ok (.ireturn, 1) := by decide +kernel
theorem d_St_isFollowedByItsLike_0 : decode m_St_isFollowedByItsLike.2.1 0 = .ok (.iload_n 1, 1) := by decide +kernel
theorem d_St_isFollowedByItsLike_1 : decode m_St_isFollowedByItsLike.2.1 1 = .ok (.iconst 1, 1) := by decide +kernel
theorem d_St_isFollowedByItsLike_2 : decode m_St_isFollowedByItsLike.2.1 2 = .ok (.iadd, 1) := by decide +kernel
theorem d_St_isFollowedByItsLike_3 : decode m_St_isFollowedByItsLike.2.1 3 = .ok (.istore_n 2, 1) := by decide +kernel
theorem d_St_isFollowedByItsLike_4 : decode m_St_isFollowedByItsLike.2.1 4 = .ok (.iload_n 2, 1) := by decide +kernel
theorem d_St_isFollowedByItsLike_5 : decode m_St_isFollowedByItsLike.2.1 5 = .ok (.aload_n 0, 1) := by decide +kernel
theorem d_St_isFollowedByItsLike_6 : decode m_St_isFollowedByItsLike.2.1 6 = .ok (.getfield 18, 3) := by decide +kernel
theorem d_St_isFollowedByItsLike_9 : decode m_St_isFollowedByItsLike.2.1 9 = .ok (.if_icmp .ge 32, 3) := by decide +kernel
theorem d_St_isFollowedByItsLike_12 : decode m_St_isFollowedByItsLike.2.1 12 = .ok (.aload_n 0, 1) := by decide +kernel
theorem d_St_isFollowedByItsLike_13 : decode m_St_isFollowedByItsLike.2.1 13 = .ok (.getfield 11, 3) := by decide +kernel
theorem d_St_isFollowedByItsLike_16 : decode m_St_isFollowedByItsLike.2.1 16 = .ok (.iload_n 2, 1) := by decide +kernel
theorem d_St_isFollowedByItsLike_17 : decode m_St_isFollowedByItsLike.2.1 17 = .ok (.aaload, 1) := by decide +kernel
theorem d_St_isFollowedByItsLike_18 : decode m_St_isFollowedByItsLike.2.1 18 = .ok (.aload_n 0, 1) := by decide +kernel
theorem d_St_isFollowedByItsLike_19 : decode m_St_isFollowedByItsLike.2.1 19 = .ok (.getfield 11, 3) := by decide +kernel
theorem d_St_isFollowedByItsLike_22 : decode m_St_isFollowedByItsLike.2.1 22 = .ok (.iload_n 1, 1) := by decide +kernel
theorem d_St_isFollowedByItsLike_23 : decode m_St_isFollowedByItsLike.2.1 23 = .ok (.aaload, 1) := by decide +kernel
theorem d_St_isFollowedByItsLike_24 : decode m_St_isFollowedByItsLike.2.1 24 = .ok (.getfield 53, 3) := by decide +kernel
theorem d_St_isFollowedByItsLike_27 : decode m_St_isFollowedByItsLike.2.1 27 = .ok (.invokevirtual 22, 3) := by decide +kernel
theorem d_St_isFollowedByItsLike_30 : decode m_St_isFollowedByItsLike.2.1 30 = .ok (.ifCond .eq 5, 3) := by decide +kernel
theorem d_St_isFollowedByItsLike_33 : decode m_St_isFollowedByItsLike.2.1 33 = .ok (.iconst 1, 1) := by decide +kernel
theorem d_St_isFollowedByItsLike_34 : decode m_St_isFollowedByItsLike.2.1 34 = .ok (.ireturn, 1) := by decide +kernel
theorem d_St_isFollowedByItsLike_35 : decode m_St_isFollowedByItsLike.2.1 35 = .ok (.iinc 2 1, 3) := by decide +kernel
theorem d_St_isFollowedByItsLike_38 : decode m_St_isFollowedByItsLike.2.1 38 = .ok (.goto (-34), 3) := by decide +kernel
theorem d_St_isFollowedByItsLike_41 : decode m_St_isFollowedByItsLike.2.1 41 = .ok (.iconst 0, 1) := by decide +kernel
theorem d_St_isFollowedByItsLike_42 : decode m_St_isFollowedByItsLike.2.1 42 = .ok (.ireturn, 1) := by decide +kernel
theorem d_St_swap_0 : decode m_St_swap.2.1 0 = .ok (.aload_n 0, 1) := by decide +kernel
theorem d_St_swap_1 : decode m_St_swap.2.1 1 = .ok (.getfield 11, 3) := by decide +kernel
theorem d_St_swap_4 : decode m_St_swap.2.1 4 = .ok (.iload_n 1, 1) := by decide +kernel
theorem d_St_swap_5 : decode m_St_swap.2.1 5 = .ok (.aaload, 1) := by decide +kernel
theorem d_St_swap_6 : decode m_St_swap.2.1 6 = .ok (.astore_n 3, 1) := by decide +kernel
theorem d_St_swap_7 : decode m_St_swap.2.1 7 = .ok (.aload_n 0, 1) := by decide +kernel
theorem d_St_swap_8 : decode m_St_swap.2.1 8 = .ok (.getfield 11, 3) := by decide +kernel
theorem d_St_swap_11 : decode m_St_swap.2.1 11 = .ok (.iload_n 1, 1) := by decide +kernel
theorem d_St_swap_12 : decode m_St_swap.2.1 12 = .ok (.aload_n 0, 1) := by decide +kernel
theorem d_St_swap_13 : decode m_St_swap.2.1 13 = .ok (.getfield 11, 3) := by decide +kernel
theorem d_St_swap_16 : decode m_St_swap.2.1 16 = .ok (.iload_n 2, 1) := by decide +kernel
theorem d_St_swap_17 : decode m_St_swap.2.1 17 = .ok (.aaload, 1) := by decide +kernel
theorem d_St_swap_18 : decode m_St_swap.2.1 18 = .ok (.aastore, 1) := by decide +kernel
theorem d_St_swap_19 : decode m_St_swap.2.1 19 = .ok (.aload_n 0, 1) := by decide +kernel
theorem d_St_swap_20 : decode m_St_swap.2.1 20 = .ok (.getfield 11, 3) := by decide +kernel
theorem d_St_swap_23 : decode m_St_swap.2.1 23 = .ok (.iload_n 2, 1) := by decide +kernel
theorem d_St_swap_24 : decode m_St_swap.2.1 24 = .ok (.aload_n 3, 1) := by decide +kernel
theorem d_St_swap_25 : decode m_St_swap.2.1 25 = .ok (.aastore, 1) := by decide +kernel
theorem d_St_swap_26 : decode m_St_swap.2.1 26 = .ok (.return_, 1) := by decide +kernel
theorem d_St_fitting_0 : decode m_St_fitting.2.1 0 = .ok (.aload_n 0, 1) := by decide +kernel
theorem d_St_fitting_1 : decode m_St_fitting.2.1 1 = .ok (.getfield 18, 3) := by decide +kernel
theorem d_St_fitting_4 : decode m_St_fitting.2.1 4 = .ok (.iconst 1, 1) := by decide +kernel
theorem d_St_fitting_5 : decode m_St_fitting.2.1 5 = .ok (.isub, 1) := by decide +kernel
theorem d_St_fitting_6 : decode m_St_fitting.2.1 6 = .ok (.istore_n 3, 1) := by decide +kernel
theorem d_St_fitting_7 : decode m_St_fitting.2.1 7 = .ok (.iload_n 3, 1) := by decide +kernel
theorem d_St_fitting_8 : decode m_St_fitting.2.1 8 = .ok (.ifCond .lt 42, 3) := by decide +kernel
theorem d_St_fitting_11 : decode m_St_fitting.2.1 11 = .ok (.aload_n 0, 1) := by decide +kernel
theorem d_St_fitting_12 : decode m_St_fitting.2.1 12 = .ok (.getfield 11, 3) := by decide +kernel
theorem d_St_fitting_15 : decode m_St_fitting.2.1 15 = .ok (.iload_n 3, 1) := by decide +kernel
theorem d_St_fitting_16 : decode m_St_fitting.2.1 16 = .ok (.aaload, 1) := by decide +kernel
theorem d_St_fitting_17 : decode m_St_fitting.2.1 17 = .ok (.aload_n 1, 1) := by decide +kernel
theorem d_St_fitting_18 : decode m_St_fitting.2.1 18 = .ok (.invokevirtual 22, 3) := by decide +kernel
theorem d_St_fitting_21 : decode m_St_fitting.2.1 21 = .ok (.ifCond .eq 23, 3) := by decide +kernel
theorem d_St_fitting_24 : decode m_St_fitting.2.1 24 = .ok (.aload_n 0, 1) := by decide +kernel
theorem d_St_fitting_25 : decode m_St_fitting.2.1 25 = .ok (.getfield 11, 3) := by decide +kernel
theorem d_St_fitting_28 : decode m_St_fitting.2.1 28 = .ok (.iload_n 3, 1) := by decide +kernel
theorem d_St_fitting_29 : decode m_St_fitting.2.1 29 = .ok (.aaload, 1) := by decide +kernel
theorem d_St_fitting_30 : decode m_St_fitting.2.1 30 = .ok (.aload_n 2, 1) := by decide +kernel
theorem d_St_fitting_31 : decode m_St_fitting.2.1 31 = .ok (.invokevirtual 26, 3) := by decide +kernel
theorem d_St_fitting_34 : decode m_St_fitting.2.1 34 = .ok (.ifCond .eq 10, 3) := by decide +kernel
theorem d_St_fitting_37 : decode m_St_fitting.2.1 37 = .ok (.aload_n 0, 1) := by decide +kernel
theorem d_St_fitting_38 : decode m_St_fitting.2.1 38 = .ok (.getfield 11, 3) := by decide +kernel
theorem d_St_fitting_41 : decode m_St_fitting.2.1 41 = .ok (.iload_n 3, 1) := by decide +kernel
theorem d_St_fitting_42 : decode m_St_fitting.2.1 42 = .ok (.aaload, 1) := by decide +kernel
theorem d_St_fitting_43 : decode m_St_fitting.2.1 43 = .ok (.areturn, 1) := by decide +kernel
theorem d_St_fitting_44 : decode m_St_fitting.2.1 44 = .ok (.iinc 3 (-1), 3) := by decide +kernel
theorem d_St_fitting_47 : decode m_St_fitting.2.1 47 = .ok (.goto (-40), 3) := by decide +kernel
theorem d_St_fitting_50 : decode m_St_fitting.2.1 50 = .ok (.aconst_null, 1) := by decide +kernel
theorem d_St_fitting_51 : decode m_St_fitting.2.1 51 = .ok (.areturn, 1) := by decide +kernel
theorem d_St_reasonToRun_0 : decode m_St_reasonToRun.2.1 0 = .ok (.aload_n 0, 1) := by decide +kernel
theorem d_St_reasonToRun_1 : decode m_St_reasonToRun.2.1 1 = .ok (.aload_n 1, 1) := by decide +kernel
theorem d_St_reasonToRun_2 : decode m_St_reasonToRun.2.1 2 = .ok (.invokevirtual 30, 3) := by decide +kernel
theorem d_St_reasonToRun_5 : decode m_St_reasonToRun.2.1 5 = .ok (.astore_n 3, 1) := by decide +kernel
theorem d_St_reasonToRun_6 : decode m_St_reasonToRun.2.1 6 = .ok (.aload_n 3, 1) := by decide +kernel
theorem d_St_reasonToRun_7 : decode m_St_reasonToRun.2.1 7 = .ok (.ifnonnull 6, 3) := by decide +kernel
theorem d_St_reasonToRun_10 : decode m_St_reasonToRun.2.1 10 = .ok (.bipush 12, 2) := by decide +kernel
theorem d_St_reasonToRun_12 : decode m_St_reasonToRun.2.1 12 = .ok (.ireturn, 1) := by decide +kernel
theorem d_St_reasonToRun_13 : decode m_St_reasonToRun.2.1 13 = .ok (.aload_n 3, 1) := by decide +kernel
theorem d_St_reasonToRun_14 : decode m_St_reasonToRun.2.1 14 = .ok (.aload_n 2, 1) := by decide +kernel
theorem d_St_reasonToRun_15 : decode m_St_reasonToRun.2.1 15 = .ok (.invokevirtual 34, 3) := by decide +kernel
theorem d_St_reasonToRun_18 : decode m_St_reasonToRun.2.1 18 = .ok (.istore 4, 2) := by decide +kernel
theorem d_St_reasonToRun_20 : decode m_St_reasonToRun.2.1 20 = .ok (.iload 4, 2) := by decide +kernel
theorem d_St_reasonToRun_22 : decode m_St_reasonToRun.2.1 22 = .ok (.ifCond .eq 8, 3) := by decide +kernel
theorem d_St_reasonToRun_25 : decode m_St_reasonToRun.2.1 25 = .ok (.iload 4, 2) := by decide +kernel
theorem d_St_reasonToRun_27 : decode m_St_reasonToRun.2.1 27 = .ok (.goto 8, 3) := by decide +kernel
theorem d_St_reasonToRun_30 : decode m_St_reasonToRun.2.1 30 = .ok (.aload_n 3, 1) := by decide +kernel
theorem d_St_reasonToRun_31 : decode m_St_reasonToRun.2.1 31 = .ok (.aload_n 2, 1) := by decide +kernel
theorem d_St_reasonToRun_32 : decode m_St_reasonToRun.2.1 32 = .ok (.invokevirtual 38, 3) := by decide +kernel
theorem d_St_reasonToRun_35 : decode m_St_reasonToRun.2.1 35 = .ok (.invokestatic 41, 3) := by decide +kernel
theorem d_St_reasonToRun_38 : decode m_St_reasonToRun.2.1 38 = .ok (.ireturn, 1) := by decide +kernel
theorem d_St_latest_0 : decode m_St_latest.2.1 0 = .ok (.aload_n 0, 1) := by decide +kernel
theorem d_St_latest_1 : decode m_St_latest.2.1 1 = .ok (.getfield 18, 3) := by decide +kernel
theorem d_St_latest_4 : decode m_St_latest.2.1 4 = .ok (.iconst 1, 1) := by decide +kernel
theorem d_St_latest_5 : decode m_St_latest.2.1 5 = .ok (.isub, 1) := by decide +kernel
theorem d_St_latest_6 : decode m_St_latest.2.1 6 = .ok (.istore_n 2, 1) := by decide +kernel
theorem d_St_latest_7 : decode m_St_latest.2.1 7 = .ok (.iload_n 2, 1) := by decide +kernel
theorem d_St_latest_8 : decode m_St_latest.2.1 8 = .ok (.ifCond .lt 29, 3) := by decide +kernel
theorem d_St_latest_11 : decode m_St_latest.2.1 11 = .ok (.aload_n 0, 1) := by decide +kernel
theorem d_St_latest_12 : decode m_St_latest.2.1 12 = .ok (.getfield 11, 3) := by decide +kernel
theorem d_St_latest_15 : decode m_St_latest.2.1 15 = .ok (.iload_n 2, 1) := by decide +kernel
theorem d_St_latest_16 : decode m_St_latest.2.1 16 = .ok (.aaload, 1) := by decide +kernel
theorem d_St_latest_17 : decode m_St_latest.2.1 17 = .ok (.aload_n 1, 1) := by decide +kernel
theorem d_St_latest_18 : decode m_St_latest.2.1 18 = .ok (.invokevirtual 22, 3) := by decide +kernel
theorem d_St_latest_21 : decode m_St_latest.2.1 21 = .ok (.ifCond .eq 10, 3) := by decide +kernel
theorem d_St_latest_24 : decode m_St_latest.2.1 24 = .ok (.aload_n 0, 1) := by decide +kernel
theorem d_St_latest_25 : decode m_St_latest.2.1 25 = .ok (.getfield 11, 3) := by decide +kernel
theorem d_St_latest_28 : decode m_St_latest.2.1 28 = .ok (.iload_n 2, 1) := by decide +kernel
theorem d_St_latest_29 : decode m_St_latest.2.1 29 = .ok (.aaload, 1) := by decide +kernel
theorem d_St_latest_30 : decode m_St_latest.2.1 30 = .ok (.areturn, 1) := by decide +kernel
theorem d_St_latest_31 : decode m_St_latest.2.1 31 = .ok (.iinc 2 (-1), 3) := by decide +kernel
theorem d_St_latest_34 : decode m_St_latest.2.1 34 = .ok (.goto (-27), 3) := by decide +kernel
theorem d_St_latest_37 : decode m_St_latest.2.1 37 = .ok (.aconst_null, 1) := by decide +kernel
theorem d_St_latest_38 : decode m_St_latest.2.1 38 = .ok (.areturn, 1) := by decide +kernel
theorem d_St_append_0 : decode m_St_append.2.1 0 = .ok (.aload_n 0, 1) := by decide +kernel
theorem d_St_append_1 : decode m_St_append.2.1 1 = .ok (.getfield 18, 3) := by decide +kernel
theorem d_St_append_4 : decode m_St_append.2.1 4 = .ok (.bipush 24, 2) := by decide +kernel
theorem d_St_append_6 : decode m_St_append.2.1 6 = .ok (.if_icmp .ge 25, 3) := by decide +kernel
theorem d_St_append_9 : decode m_St_append.2.1 9 = .ok (.aload_n 0, 1) := by decide +kernel
theorem d_St_append_10 : decode m_St_append.2.1 10 = .ok (.dup, 1) := by decide +kernel
theorem d_St_append_11 : decode m_St_append.2.1 11 = .ok (.getfield 18, 3) := by decide +kernel
theorem d_St_append_14 : decode m_St_append.2.1 14 = .ok (.iconst 1, 1) := by decide +kernel
theorem d_St_append_15 : decode m_St_append.2.1 15 = .ok (.iadd, 1) := by decide +kernel
theorem d_St_append_16 : decode m_St_append.2.1 16 = .ok (.putfield 18, 3) := by decide +kernel
theorem d_St_append_19 : decode m_St_append.2.1 19 = .ok (.aload_n 0, 1) := by decide +kernel
theorem d_St_append_20 : decode m_St_append.2.1 20 = .ok (.getfield 11, 3) := by decide +kernel
theorem d_St_append_23 : decode m_St_append.2.1 23 = .ok (.aload_n 0, 1) := by decide +kernel
theorem d_St_append_24 : decode m_St_append.2.1 24 = .ok (.getfield 18, 3) := by decide +kernel
theorem d_St_append_27 : decode m_St_append.2.1 27 = .ok (.iconst 1, 1) := by decide +kernel
theorem d_St_append_28 : decode m_St_append.2.1 28 = .ok (.isub, 1) := by decide +kernel
theorem d_St_append_29 : decode m_St_append.2.1 29 = .ok (.aaload, 1) := by decide +kernel
theorem d_St_append_30 : decode m_St_append.2.1 30 = .ok (.areturn, 1) := by decide +kernel
theorem d_St_append_31 : decode m_St_append.2.1 31 = .ok (.aload_n 0, 1) := by decide +kernel
theorem d_St_append_32 : decode m_St_append.2.1 32 = .ok (.getfield 11, 3) := by decide +kernel
theorem d_St_append_35 : decode m_St_append.2.1 35 = .ok (.iconst 0, 1) := by decide +kernel
theorem d_St_append_36 : decode m_St_append.2.1 36 = .ok (.aaload, 1) := by decide +kernel
theorem d_St_append_37 : decode m_St_append.2.1 37 = .ok (.astore_n 1, 1) := by decide +kernel
theorem d_St_append_38 : decode m_St_append.2.1 38 = .ok (.iconst 0, 1) := by decide +kernel
theorem d_St_append_39 : decode m_St_append.2.1 39 = .ok (.istore_n 2, 1) := by decide +kernel
theorem d_St_append_40 : decode m_St_append.2.1 40 = .ok (.iload_n 2, 1) := by decide +kernel
theorem d_St_append_41 : decode m_St_append.2.1 41 = .ok (.iconst 1, 1) := by decide +kernel
theorem d_St_append_42 : decode m_St_append.2.1 42 = .ok (.iadd, 1) := by decide +kernel
theorem d_St_append_43 : decode m_St_append.2.1 43 = .ok (.bipush 24, 2) := by decide +kernel
theorem d_St_append_45 : decode m_St_append.2.1 45 = .ok (.if_icmp .ge 23, 3) := by decide +kernel
theorem d_St_append_48 : decode m_St_append.2.1 48 = .ok (.aload_n 0, 1) := by decide +kernel
theorem d_St_append_49 : decode m_St_append.2.1 49 = .ok (.getfield 11, 3) := by decide +kernel
theorem d_St_append_52 : decode m_St_append.2.1 52 = .ok (.iload_n 2, 1) := by decide +kernel
theorem d_St_append_53 : decode m_St_append.2.1 53 = .ok (.aload_n 0, 1) := by decide +kernel
theorem d_St_append_54 : decode m_St_append.2.1 54 = .ok (.getfield 11, 3) := by decide +kernel
theorem d_St_append_57 : decode m_St_append.2.1 57 = .ok (.iload_n 2, 1) := by decide +kernel
theorem d_St_append_58 : decode m_St_append.2.1 58 = .ok (.iconst 1, 1) := by decide +kernel
theorem d_St_append_59 : decode m_St_append.2.1 59 = .ok (.iadd, 1) := by decide +kernel
theorem d_St_append_60 : decode m_St_append.2.1 60 = .ok (.aaload, 1) := by decide +kernel
theorem d_St_append_61 : decode m_St_append.2.1 61 = .ok (.aastore, 1) := by decide +kernel
theorem d_St_append_62 : decode m_St_append.2.1 62 = .ok (.iinc 2 1, 3) := by decide +kernel
theorem d_St_append_65 : decode m_St_append.2.1 65 = .ok (.goto (-25), 3) := by decide +kernel
theorem d_St_append_68 : decode m_St_append.2.1 68 = .ok (.aload_n 0, 1) := by decide +kernel
theorem d_St_append_69 : decode m_St_append.2.1 69 = .ok (.getfield 11, 3) := by decide +kernel
theorem d_St_append_72 : decode m_St_append.2.1 72 = .ok (.bipush 23, 2) := by decide +kernel
theorem d_St_append_74 : decode m_St_append.2.1 74 = .ok (.aload_n 1, 1) := by decide +kernel
theorem d_St_append_75 : decode m_St_append.2.1 75 = .ok (.aastore, 1) := by decide +kernel
theorem d_St_append_76 : decode m_St_append.2.1 76 = .ok (.aload_n 1, 1) := by decide +kernel
theorem d_St_append_77 : decode m_St_append.2.1 77 = .ok (.areturn, 1) := by decide +kernel
theorem d_St_at_0 : decode m_St_at.2.1 0 = .ok (.aload_n 0, 1) := by decide +kernel
theorem d_St_at_1 : decode m_St_at.2.1 1 = .ok (.getfield 11, 3) := by decide +kernel
theorem d_St_at_4 : decode m_St_at.2.1 4 = .ok (.iload_n 1, 1) := by decide +kernel
theorem d_St_at_5 : decode m_St_at.2.1 5 = .ok (.aaload, 1) := by decide +kernel
theorem d_St_at_6 : decode m_St_at.2.1 6 = .ok (.areturn, 1) := by decide +kernel
theorem d_Tx_init_0 : decode m_Tx_init.2.1 0 = .ok (.aload_n 0, 1) := by decide +kernel
theorem d_Tx_init_1 : decode m_Tx_init.2.1 1 = .ok (.invokespecial 3, 3) := by decide +kernel
theorem d_Tx_init_4 : decode m_Tx_init.2.1 4 = .ok (.aload_n 0, 1) := by decide +kernel
theorem d_Tx_init_5 : decode m_Tx_init.2.1 5 = .ok (.bipush 12, 2) := by decide +kernel
theorem d_Tx_init_7 : decode m_Tx_init.2.1 7 = .ok (.newarray .char, 2) := by decide +kernel
theorem d_Tx_init_9 : decode m_Tx_init.2.1 9 = .ok (.putfield 9, 3) := by decide +kernel
theorem d_Tx_init_12 : decode m_Tx_init.2.1 12 = .ok (.aload_n 0, 1) := by decide +kernel
theorem d_Tx_init_13 : decode m_Tx_init.2.1 13 = .ok (.iconst 0, 1) := by decide +kernel
theorem d_Tx_init_14 : decode m_Tx_init.2.1 14 = .ok (.putfield 15, 3) := by decide +kernel
theorem d_Tx_init_17 : decode m_Tx_init.2.1 17 = .ok (.return_, 1) := by decide +kernel
theorem d_Tx_append_0 : decode m_Tx_append.2.1 0 = .ok (.aload_n 0, 1) := by decide +kernel
theorem d_Tx_append_1 : decode m_Tx_append.2.1 1 = .ok (.getfield 15, 3) := by decide +kernel
theorem d_Tx_append_4 : decode m_Tx_append.2.1 4 = .ok (.bipush 12, 2) := by decide +kernel
theorem d_Tx_append_6 : decode m_Tx_append.2.1 6 = .ok (.if_icmp .lt 5, 3) := by decide +kernel
theorem d_Tx_append_9 : decode m_Tx_append.2.1 9 = .ok (.iconst 0, 1) := by decide +kernel
theorem d_Tx_append_10 : decode m_Tx_append.2.1 10 = .ok (.ireturn, 1) := by decide +kernel
theorem d_Tx_append_11 : decode m_Tx_append.2.1 11 = .ok (.aload_n 0, 1) := by decide +kernel
theorem d_Tx_append_12 : decode m_Tx_append.2.1 12 = .ok (.getfield 9, 3) := by decide +kernel
theorem d_Tx_append_15 : decode m_Tx_append.2.1 15 = .ok (.aload_n 0, 1) := by decide +kernel
theorem d_Tx_append_16 : decode m_Tx_append.2.1 16 = .ok (.getfield 15, 3) := by decide +kernel
theorem d_Tx_append_19 : decode m_Tx_append.2.1 19 = .ok (.iload_n 1, 1) := by decide +kernel
theorem d_Tx_append_20 : decode m_Tx_append.2.1 20 = .ok (.castore, 1) := by decide +kernel
theorem d_Tx_append_21 : decode m_Tx_append.2.1 21 = .ok (.aload_n 0, 1) := by decide +kernel
theorem d_Tx_append_22 : decode m_Tx_append.2.1 22 = .ok (.dup, 1) := by decide +kernel
theorem d_Tx_append_23 : decode m_Tx_append.2.1 23 = .ok (.getfield 15, 3) := by decide +kernel
theorem d_Tx_append_26 : decode m_Tx_append.2.1 26 = .ok (.iconst 1, 1) := by decide +kernel
theorem d_Tx_append_27 : decode m_Tx_append.2.1 27 = .ok (.iadd, 1) := by decide +kernel
theorem d_Tx_append_28 : decode m_Tx_append.2.1 28 = .ok (.putfield 15, 3) := by decide +kernel
theorem d_Tx_append_31 : decode m_Tx_append.2.1 31 = .ok (.iconst 1, 1) := by decide +kernel
theorem d_Tx_append_32 : decode m_Tx_append.2.1 32 = .ok (.ireturn, 1) := by decide +kernel
theorem d_Tx_isSame_0 : decode m_Tx_isSame.2.1 0 = .ok (.aload_n 0, 1) := by decide +kernel
theorem d_Tx_isSame_1 : decode m_Tx_isSame.2.1 1 = .ok (.getfield 15, 3) := by decide +kernel
theorem d_Tx_isSame_4 : decode m_Tx_isSame.2.1 4 = .ok (.aload_n 1, 1) := by decide +kernel
theorem d_Tx_isSame_5 : decode m_Tx_isSame.2.1 5 = .ok (.getfield 15, 3) := by decide +kernel
theorem d_Tx_isSame_8 : decode m_Tx_isSame.2.1 8 = .ok (.if_icmp .eq 5, 3) := by decide +kernel
theorem d_Tx_isSame_11 : decode m_Tx_isSame.2.1 11 = .ok (.iconst 0, 1) := by decide +kernel
theorem d_Tx_isSame_12 : decode m_Tx_isSame.2.1 12 = .ok (.ireturn, 1) := by decide +kernel
theorem d_Tx_isSame_13 : decode m_Tx_isSame.2.1 13 = .ok (.iconst 0, 1) := by decide +kernel
theorem d_Tx_isSame_14 : decode m_Tx_isSame.2.1 14 = .ok (.istore_n 2, 1) := by decide +kernel
theorem d_Tx_isSame_15 : decode m_Tx_isSame.2.1 15 = .ok (.iload_n 2, 1) := by decide +kernel
theorem d_Tx_isSame_16 : decode m_Tx_isSame.2.1 16 = .ok (.aload_n 0, 1) := by decide +kernel
theorem d_Tx_isSame_17 : decode m_Tx_isSame.2.1 17 = .ok (.getfield 15, 3) := by decide +kernel
theorem d_Tx_isSame_20 : decode m_Tx_isSame.2.1 20 = .ok (.if_icmp .ge 26, 3) := by decide +kernel
theorem d_Tx_isSame_23 : decode m_Tx_isSame.2.1 23 = .ok (.aload_n 0, 1) := by decide +kernel
theorem d_Tx_isSame_24 : decode m_Tx_isSame.2.1 24 = .ok (.getfield 9, 3) := by decide +kernel
theorem d_Tx_isSame_27 : decode m_Tx_isSame.2.1 27 = .ok (.iload_n 2, 1) := by decide +kernel
theorem d_Tx_isSame_28 : decode m_Tx_isSame.2.1 28 = .ok (.caload, 1) := by decide +kernel
theorem d_Tx_isSame_29 : decode m_Tx_isSame.2.1 29 = .ok (.aload_n 1, 1) := by decide +kernel
theorem d_Tx_isSame_30 : decode m_Tx_isSame.2.1 30 = .ok (.getfield 9, 3) := by decide +kernel
theorem d_Tx_isSame_33 : decode m_Tx_isSame.2.1 33 = .ok (.iload_n 2, 1) := by decide +kernel
theorem d_Tx_isSame_34 : decode m_Tx_isSame.2.1 34 = .ok (.caload, 1) := by decide +kernel
theorem d_Tx_isSame_35 : decode m_Tx_isSame.2.1 35 = .ok (.if_icmp .eq 5, 3) := by decide +kernel
theorem d_Tx_isSame_38 : decode m_Tx_isSame.2.1 38 = .ok (.iconst 0, 1) := by decide +kernel
theorem d_Tx_isSame_39 : decode m_Tx_isSame.2.1 39 = .ok (.ireturn, 1) := by decide +kernel
theorem d_Tx_isSame_40 : decode m_Tx_isSame.2.1 40 = .ok (.iinc 2 1, 3) := by decide +kernel
theorem d_Tx_isSame_43 : decode m_Tx_isSame.2.1 43 = .ok (.goto (-28), 3) := by decide +kernel
theorem d_Tx_isSame_46 : decode m_Tx_isSame.2.1 46 = .ok (.iconst 1, 1) := by decide +kernel
theorem d_Tx_isSame_47 : decode m_Tx_isSame.2.1 47 = .ok (.ireturn, 1) := by decide +kernel
theorem d_Tx_isCommand_0 : decode m_Tx_isCommand.2.1 0 = .ok (.iconst 0, 1) := by decide +kernel
theorem d_Tx_isCommand_1 : decode m_Tx_isCommand.2.1 1 = .ok (.istore_n 1, 1) := by decide +kernel
theorem d_Tx_isCommand_2 : decode m_Tx_isCommand.2.1 2 = .ok (.iload_n 1, 1) := by decide +kernel
theorem d_Tx_isCommand_3 : decode m_Tx_isCommand.2.1 3 = .ok (.aload_n 0, 1) := by decide +kernel
theorem d_Tx_isCommand_4 : decode m_Tx_isCommand.2.1 4 = .ok (.getfield 15, 3) := by decide +kernel
theorem d_Tx_isCommand_7 : decode m_Tx_isCommand.2.1 7 = .ok (.if_icmp .ge 30, 3) := by decide +kernel
theorem d_Tx_isCommand_10 : decode m_Tx_isCommand.2.1 10 = .ok (.aload_n 0, 1) := by decide +kernel
theorem d_Tx_isCommand_11 : decode m_Tx_isCommand.2.1 11 = .ok (.iload_n 1, 1) := by decide +kernel
theorem d_Tx_isCommand_12 : decode m_Tx_isCommand.2.1 12 = .ok (.invokevirtual 19, 3) := by decide +kernel
theorem d_Tx_isCommand_15 : decode m_Tx_isCommand.2.1 15 = .ok (.bipush 63, 2) := by decide +kernel
theorem d_Tx_isCommand_17 : decode m_Tx_isCommand.2.1 17 = .ok (.if_icmp .ne 20, 3) := by decide +kernel
theorem d_Tx_isCommand_20 : decode m_Tx_isCommand.2.1 20 = .ok (.aload_n 0, 1) := by decide +kernel
theorem d_Tx_isCommand_21 : decode m_Tx_isCommand.2.1 21 = .ok (.iload_n 1, 1) := by decide +kernel
theorem d_Tx_isCommand_22 : decode m_Tx_isCommand.2.1 22 = .ok (.iconst 1, 1) := by decide +kernel
theorem d_Tx_isCommand_23 : decode m_Tx_isCommand.2.1 23 = .ok (.iadd, 1) := by decide +kernel
theorem d_Tx_isCommand_24 : decode m_Tx_isCommand.2.1 24 = .ok (.invokevirtual 23, 3) := by decide +kernel
theorem d_Tx_isCommand_27 : decode m_Tx_isCommand.2.1 27 = .ok (.iconst (-1), 1) := by decide +kernel
theorem d_Tx_isCommand_28 : decode m_Tx_isCommand.2.1 28 = .ok (.if_icmp .eq 9, 3) := by decide +kernel
theorem d_Tx_isCommand_31 : decode m_Tx_isCommand.2.1 31 = .ok (.iinc 1 2, 3) := by decide +kernel
theorem d_Tx_isCommand_34 : decode m_Tx_isCommand.2.1 34 = .ok (.goto (-32), 3) := by decide +kernel
theorem d_Tx_isCommand_37 : decode m_Tx_isCommand.2.1 37 = .ok (.aload_n 0, 1) := by decide +kernel
theorem d_Tx_isCommand_38 : decode m_Tx_isCommand.2.1 38 = .ok (.iload_n 1, 1) := by decide +kernel
theorem d_Tx_isCommand_39 : decode m_Tx_isCommand.2.1 39 = .ok (.invokevirtual 27, 3) := by decide +kernel
theorem d_Tx_isCommand_42 : decode m_Tx_isCommand.2.1 42 = .ok (.ireturn, 1) := by decide +kernel
theorem d_Tx_at_0 : decode m_Tx_at.2.1 0 = .ok (.iload_n 1, 1) := by decide +kernel
theorem d_Tx_at_1 : decode m_Tx_at.2.1 1 = .ok (.ifCond .lt 20, 3) := by decide +kernel
theorem d_Tx_at_4 : decode m_Tx_at.2.1 4 = .ok (.iload_n 1, 1) := by decide +kernel
theorem d_Tx_at_5 : decode m_Tx_at.2.1 5 = .ok (.aload_n 0, 1) := by decide +kernel
theorem d_Tx_at_6 : decode m_Tx_at.2.1 6 = .ok (.getfield 15, 3) := by decide +kernel
theorem d_Tx_at_9 : decode m_Tx_at.2.1 9 = .ok (.if_icmp .ge 12, 3) := by decide +kernel
theorem d_Tx_at_12 : decode m_Tx_at.2.1 12 = .ok (.aload_n 0, 1) := by decide +kernel
theorem d_Tx_at_13 : decode m_Tx_at.2.1 13 = .ok (.getfield 9, 3) := by decide +kernel
theorem d_Tx_at_16 : decode m_Tx_at.2.1 16 = .ok (.iload_n 1, 1) := by decide +kernel
theorem d_Tx_at_17 : decode m_Tx_at.2.1 17 = .ok (.caload, 1) := by decide +kernel
theorem d_Tx_at_18 : decode m_Tx_at.2.1 18 = .ok (.goto 4, 3) := by decide +kernel
theorem d_Tx_at_21 : decode m_Tx_at.2.1 21 = .ok (.iconst 0, 1) := by decide +kernel
theorem d_Tx_at_22 : decode m_Tx_at.2.1 22 = .ok (.ireturn, 1) := by decide +kernel
theorem d_Tx_fileAt_0 : decode m_Tx_fileAt.2.1 0 = .ok (.aload_n 0, 1) := by decide +kernel
theorem d_Tx_fileAt_1 : decode m_Tx_fileAt.2.1 1 = .ok (.iload_n 1, 1) := by decide +kernel
theorem d_Tx_fileAt_2 : decode m_Tx_fileAt.2.1 2 = .ok (.invokevirtual 19, 3) := by decide +kernel
theorem d_Tx_fileAt_5 : decode m_Tx_fileAt.2.1 5 = .ok (.istore_n 2, 1) := by decide +kernel
theorem d_Tx_fileAt_6 : decode m_Tx_fileAt.2.1 6 = .ok (.iload_n 2, 1) := by decide +kernel
theorem d_Tx_fileAt_7 : decode m_Tx_fileAt.2.1 7 = .ok (.bipush 97, 2) := by decide +kernel
theorem d_Tx_fileAt_9 : decode m_Tx_fileAt.2.1 9 = .ok (.if_icmp .lt 16, 3) := by decide +kernel
theorem d_Tx_fileAt_12 : decode m_Tx_fileAt.2.1 12 = .ok (.iload_n 2, 1) := by decide +kernel
theorem d_Tx_fileAt_13 : decode m_Tx_fileAt.2.1 13 = .ok (.bipush 108, 2) := by decide +kernel
theorem d_Tx_fileAt_15 : decode m_Tx_fileAt.2.1 15 = .ok (.if_icmp .gt 10, 3) := by decide +kernel
theorem d_Tx_fileAt_18 : decode m_Tx_fileAt.2.1 18 = .ok (.iload_n 2, 1) := by decide +kernel
theorem d_Tx_fileAt_19 : decode m_Tx_fileAt.2.1 19 = .ok (.bipush 97, 2) := by decide +kernel
theorem d_Tx_fileAt_21 : decode m_Tx_fileAt.2.1 21 = .ok (.isub, 1) := by decide +kernel
theorem d_Tx_fileAt_22 : decode m_Tx_fileAt.2.1 22 = .ok (.goto 4, 3) := by decide +kernel
theorem d_Tx_fileAt_25 : decode m_Tx_fileAt.2.1 25 = .ok (.iconst (-1), 1) := by decide +kernel
theorem d_Tx_fileAt_26 : decode m_Tx_fileAt.2.1 26 = .ok (.ireturn, 1) := by decide +kernel
theorem d_Tx_isPlainCommand_0 : decode m_Tx_isPlainCommand.2.1 0 = .ok (.aload_n 0, 1) := by decide +kernel
theorem d_Tx_isPlainCommand_1 : decode m_Tx_isPlainCommand.2.1 1 = .ok (.iload_n 1, 1) := by decide +kernel
theorem d_Tx_isPlainCommand_2 : decode m_Tx_isPlainCommand.2.1 2 = .ok (.invokevirtual 19, 3) := by decide +kernel
theorem d_Tx_isPlainCommand_5 : decode m_Tx_isPlainCommand.2.1 5 = .ok (.istore_n 2, 1) := by decide +kernel
theorem d_Tx_isPlainCommand_6 : decode m_Tx_isPlainCommand.2.1 6 = .ok (.iload_n 2, 1) := by decide +kernel
theorem d_Tx_isPlainCommand_7 : decode m_Tx_isPlainCommand.2.1 7 = .ok (.lookupswitch 144 #[(43, 99), (99, 90), (102, 108), (106, 99), (108, 81), (110, 136), (112, 90), (115, 90), (120, 81)], 81) := by decide +kernel
theorem d_Tx_isPlainCommand_88 : decode m_Tx_isPlainCommand.2.1 88 = .ok (.aload_n 0, 1) := by decide +kernel
theorem d_Tx_isPlainCommand_89 : decode m_Tx_isPlainCommand.2.1 89 = .ok (.iload_n 1, 1) := by decide +kernel
theorem d_Tx_isPlainCommand_90 : decode m_Tx_isPlainCommand.2.1 90 = .ok (.iconst 1, 1) := by decide +kernel
theorem d_Tx_isPlainCommand_91 : decode m_Tx_isPlainCommand.2.1 91 = .ok (.iadd, 1) := by decide +kernel
theorem d_Tx_isPlainCommand_92 : decode m_Tx_isPlainCommand.2.1 92 = .ok (.iconst 1, 1) := by decide +kernel
theorem d_Tx_isPlainCommand_93 : decode m_Tx_isPlainCommand.2.1 93 = .ok (.invokevirtual 31, 3) := by decide +kernel
theorem d_Tx_isPlainCommand_96 : decode m_Tx_isPlainCommand.2.1 96 = .ok (.ireturn, 1) := by decide +kernel
theorem d_Tx_isPlainCommand_97 : decode m_Tx_isPlainCommand.2.1 97 = .ok (.aload_n 0, 1) := by decide +kernel
theorem d_Tx_isPlainCommand_98 : decode m_Tx_isPlainCommand.2.1 98 = .ok (.iload_n 1, 1) := by decide +kernel
theorem d_Tx_isPlainCommand_99 : decode m_Tx_isPlainCommand.2.1 99 = .ok (.iconst 1, 1) := by decide +kernel
theorem d_Tx_isPlainCommand_100 : decode m_Tx_isPlainCommand.2.1 100 = .ok (.iadd, 1) := by decide +kernel
theorem d_Tx_isPlainCommand_101 : decode m_Tx_isPlainCommand.2.1 101 = .ok (.iconst 2, 1) := by decide +kernel
theorem d_Tx_isPlainCommand_102 : decode m_Tx_isPlainCommand.2.1 102 = .ok (.invokevirtual 31, 3) := by decide +kernel
theorem d_Tx_isPlainCommand_105 : decode m_Tx_isPlainCommand.2.1 105 = .ok (.ireturn, 1) := by decide +kernel
theorem d_Tx_isPlainCommand_106 : decode m_Tx_isPlainCommand.2.1 106 = .ok (.aload_n 0, 1) := by decide +kernel
theorem d_Tx_isPlainCommand_107 : decode m_Tx_isPlainCommand.2.1 107 = .ok (.iload_n 1, 1) := by decide +kernel
theorem d_Tx_isPlainCommand_108 : decode m_Tx_isPlainCommand.2.1 108 = .ok (.iconst 1, 1) := by decide +kernel
theorem d_Tx_isPlainCommand_109 : decode m_Tx_isPlainCommand.2.1 109 = .ok (.iadd, 1) := by decide +kernel
theorem d_Tx_isPlainCommand_110 : decode m_Tx_isPlainCommand.2.1 110 = .ok (.iconst 3, 1) := by decide +kernel
theorem d_Tx_isPlainCommand_111 : decode m_Tx_isPlainCommand.2.1 111 = .ok (.invokevirtual 31, 3) := by decide +kernel
theorem d_Tx_isPlainCommand_114 : decode m_Tx_isPlainCommand.2.1 114 = .ok (.ireturn, 1) := by decide +kernel
theorem d_Tx_isPlainCommand_115 : decode m_Tx_isPlainCommand.2.1 115 = .ok (.aload_n 0, 1) := by decide +kernel
theorem d_Tx_isPlainCommand_116 : decode m_Tx_isPlainCommand.2.1 116 = .ok (.iload_n 1, 1) := by decide +kernel
theorem d_Tx_isPlainCommand_117 : decode m_Tx_isPlainCommand.2.1 117 = .ok (.iconst 1, 1) := by decide +kernel
theorem d_Tx_isPlainCommand_118 : decode m_Tx_isPlainCommand.2.1 118 = .ok (.iadd, 1) := by decide +kernel
theorem d_Tx_isPlainCommand_119 : decode m_Tx_isPlainCommand.2.1 119 = .ok (.invokevirtual 35, 3) := by decide +kernel
theorem d_Tx_isPlainCommand_122 : decode m_Tx_isPlainCommand.2.1 122 = .ok (.iconst (-1), 1) := by decide +kernel
theorem d_Tx_isPlainCommand_123 : decode m_Tx_isPlainCommand.2.1 123 = .ok (.if_icmp .eq 18, 3) := by decide +kernel
theorem d_Tx_isPlainCommand_126 : decode m_Tx_isPlainCommand.2.1 126 = .ok (.aload_n 0, 1) := by decide +kernel
theorem d_Tx_isPlainCommand_127 : decode m_Tx_isPlainCommand.2.1 127 = .ok (.iload_n 1, 1) := by decide +kernel
theorem d_Tx_isPlainCommand_128 : decode m_Tx_isPlainCommand.2.1 128 = .ok (.iconst 2, 1) := by decide +kernel
theorem d_Tx_isPlainCommand_129 : decode m_Tx_isPlainCommand.2.1 129 = .ok (.iadd, 1) := by decide +kernel
theorem d_Tx_isPlainCommand_130 : decode m_Tx_isPlainCommand.2.1 130 = .ok (.iconst 2, 1) := by decide +kernel
theorem d_Tx_isPlainCommand_131 : decode m_Tx_isPlainCommand.2.1 131 = .ok (.invokevirtual 31, 3) := by decide +kernel
theorem d_Tx_isPlainCommand_134 : decode m_Tx_isPlainCommand.2.1 134 = .ok (.ifCond .eq 7, 3) := by decide +kernel
theorem d_Tx_isPlainCommand_137 : decode m_Tx_isPlainCommand.2.1 137 = .ok (.iconst 1, 1) := by decide +kernel
theorem d_Tx_isPlainCommand_138 : decode m_Tx_isPlainCommand.2.1 138 = .ok (.goto 4, 3) := by decide +kernel
theorem d_Tx_isPlainCommand_141 : decode m_Tx_isPlainCommand.2.1 141 = .ok (.iconst 0, 1) := by decide +kernel
theorem d_Tx_isPlainCommand_142 : decode m_Tx_isPlainCommand.2.1 142 = .ok (.ireturn, 1) := by decide +kernel
theorem d_Tx_isPlainCommand_143 : decode m_Tx_isPlainCommand.2.1 143 = .ok (.aload_n 0, 1) := by decide +kernel
theorem d_Tx_isPlainCommand_144 : decode m_Tx_isPlainCommand.2.1 144 = .ok (.iload_n 1, 1) := by decide +kernel
theorem d_Tx_isPlainCommand_145 : decode m_Tx_isPlainCommand.2.1 145 = .ok (.iconst 1, 1) := by decide +kernel
theorem d_Tx_isPlainCommand_146 : decode m_Tx_isPlainCommand.2.1 146 = .ok (.iadd, 1) := by decide +kernel
theorem d_Tx_isPlainCommand_147 : decode m_Tx_isPlainCommand.2.1 147 = .ok (.invokevirtual 38, 3) := by decide +kernel
theorem d_Tx_isPlainCommand_150 : decode m_Tx_isPlainCommand.2.1 150 = .ok (.ireturn, 1) := by decide +kernel
theorem d_Tx_isPlainCommand_151 : decode m_Tx_isPlainCommand.2.1 151 = .ok (.iconst 0, 1) := by decide +kernel
theorem d_Tx_isPlainCommand_152 : decode m_Tx_isPlainCommand.2.1 152 = .ok (.ireturn, 1) := by decide +kernel
theorem d_Tx_isFilesToEnd_0 : decode m_Tx_isFilesToEnd.2.1 0 = .ok (.aload_n 0, 1) := by decide +kernel
theorem d_Tx_isFilesToEnd_1 : decode m_Tx_isFilesToEnd.2.1 1 = .ok (.getfield 15, 3) := by decide +kernel
theorem d_Tx_isFilesToEnd_4 : decode m_Tx_isFilesToEnd.2.1 4 = .ok (.iload_n 1, 1) := by decide +kernel
theorem d_Tx_isFilesToEnd_5 : decode m_Tx_isFilesToEnd.2.1 5 = .ok (.iload_n 2, 1) := by decide +kernel
theorem d_Tx_isFilesToEnd_6 : decode m_Tx_isFilesToEnd.2.1 6 = .ok (.iadd, 1) := by decide +kernel
theorem d_Tx_isFilesToEnd_7 : decode m_Tx_isFilesToEnd.2.1 7 = .ok (.if_icmp .eq 5, 3) := by decide +kernel
theorem d_Tx_isFilesToEnd_10 : decode m_Tx_isFilesToEnd.2.1 10 = .ok (.iconst 0, 1) := by decide +kernel
theorem d_Tx_isFilesToEnd_11 : decode m_Tx_isFilesToEnd.2.1 11 = .ok (.ireturn, 1) := by decide +kernel
theorem d_Tx_isFilesToEnd_12 : decode m_Tx_isFilesToEnd.2.1 12 = .ok (.iload_n 1, 1) := by decide +kernel
theorem d_Tx_isFilesToEnd_13 : decode m_Tx_isFilesToEnd.2.1 13 = .ok (.istore_n 3, 1) := by decide +kernel
theorem d_Tx_isFilesToEnd_14 : decode m_Tx_isFilesToEnd.2.1 14 = .ok (.iload_n 3, 1) := by decide +kernel
theorem d_Tx_isFilesToEnd_15 : decode m_Tx_isFilesToEnd.2.1 15 = .ok (.aload_n 0, 1) := by decide +kernel
theorem d_Tx_isFilesToEnd_16 : decode m_Tx_isFilesToEnd.2.1 16 = .ok (.getfield 15, 3) := by decide +kernel
theorem d_Tx_isFilesToEnd_19 : decode m_Tx_isFilesToEnd.2.1 19 = .ok (.if_icmp .ge 20, 3) := by decide +kernel
theorem d_Tx_isFilesToEnd_22 : decode m_Tx_isFilesToEnd.2.1 22 = .ok (.aload_n 0, 1) := by decide +kernel
theorem d_Tx_isFilesToEnd_23 : decode m_Tx_isFilesToEnd.2.1 23 = .ok (.iload_n 3, 1) := by decide +kernel
theorem d_Tx_isFilesToEnd_24 : decode m_Tx_isFilesToEnd.2.1 24 = .ok (.invokevirtual 23, 3) := by decide +kernel
theorem d_Tx_isFilesToEnd_27 : decode m_Tx_isFilesToEnd.2.1 27 = .ok (.iconst (-1), 1) := by decide +kernel
theorem d_Tx_isFilesToEnd_28 : decode m_Tx_isFilesToEnd.2.1 28 = .ok (.if_icmp .ne 5, 3) := by decide +kernel
theorem d_Tx_isFilesToEnd_31 : decode m_Tx_isFilesToEnd.2.1 31 = .ok (.iconst 0, 1) := by decide +kernel
theorem d_Tx_isFilesToEnd_32 : decode m_Tx_isFilesToEnd.2.1 32 = .ok (.ireturn, 1) := by decide +kernel
theorem d_Tx_isFilesToEnd_33 : decode m_Tx_isFilesToEnd.2.1 33 = .ok (.iinc 3 1, 3) := by decide +kernel
theorem d_Tx_isFilesToEnd_36 : decode m_Tx_isFilesToEnd.2.1 36 = .ok (.goto (-22), 3) := by decide +kernel
theorem d_Tx_isFilesToEnd_39 : decode m_Tx_isFilesToEnd.2.1 39 = .ok (.iconst 1, 1) := by decide +kernel
theorem d_Tx_isFilesToEnd_40 : decode m_Tx_isFilesToEnd.2.1 40 = .ok (.ireturn, 1) := by decide +kernel
theorem d_Tx_digitAt_0 : decode m_Tx_digitAt.2.1 0 = .ok (.aload_n 0, 1) := by decide +kernel
theorem d_Tx_digitAt_1 : decode m_Tx_digitAt.2.1 1 = .ok (.iload_n 1, 1) := by decide +kernel
theorem d_Tx_digitAt_2 : decode m_Tx_digitAt.2.1 2 = .ok (.invokevirtual 19, 3) := by decide +kernel
theorem d_Tx_digitAt_5 : decode m_Tx_digitAt.2.1 5 = .ok (.istore_n 2, 1) := by decide +kernel
theorem d_Tx_digitAt_6 : decode m_Tx_digitAt.2.1 6 = .ok (.iload_n 2, 1) := by decide +kernel
theorem d_Tx_digitAt_7 : decode m_Tx_digitAt.2.1 7 = .ok (.bipush 49, 2) := by decide +kernel
theorem d_Tx_digitAt_9 : decode m_Tx_digitAt.2.1 9 = .ok (.if_icmp .lt 16, 3) := by decide +kernel
theorem d_Tx_digitAt_12 : decode m_Tx_digitAt.2.1 12 = .ok (.iload_n 2, 1) := by decide +kernel
theorem d_Tx_digitAt_13 : decode m_Tx_digitAt.2.1 13 = .ok (.bipush 57, 2) := by decide +kernel
theorem d_Tx_digitAt_15 : decode m_Tx_digitAt.2.1 15 = .ok (.if_icmp .gt 10, 3) := by decide +kernel
theorem d_Tx_digitAt_18 : decode m_Tx_digitAt.2.1 18 = .ok (.iload_n 2, 1) := by decide +kernel
theorem d_Tx_digitAt_19 : decode m_Tx_digitAt.2.1 19 = .ok (.bipush 48, 2) := by decide +kernel
theorem d_Tx_digitAt_21 : decode m_Tx_digitAt.2.1 21 = .ok (.isub, 1) := by decide +kernel
theorem d_Tx_digitAt_22 : decode m_Tx_digitAt.2.1 22 = .ok (.goto 4, 3) := by decide +kernel
theorem d_Tx_digitAt_25 : decode m_Tx_digitAt.2.1 25 = .ok (.iconst (-1), 1) := by decide +kernel
theorem d_Tx_digitAt_26 : decode m_Tx_digitAt.2.1 26 = .ok (.ireturn, 1) := by decide +kernel
theorem d_Tx_isDigitsAndFile_0 : decode m_Tx_isDigitsAndFile.2.1 0 = .ok (.aload_n 0, 1) := by decide +kernel
theorem d_Tx_isDigitsAndFile_1 : decode m_Tx_isDigitsAndFile.2.1 1 = .ok (.getfield 15, 3) := by decide +kernel
theorem d_Tx_isDigitsAndFile_4 : decode m_Tx_isDigitsAndFile.2.1 4 = .ok (.iconst 1, 1) := by decide +kernel
theorem d_Tx_isDigitsAndFile_5 : decode m_Tx_isDigitsAndFile.2.1 5 = .ok (.isub, 1) := by decide +kernel
theorem d_Tx_isDigitsAndFile_6 : decode m_Tx_isDigitsAndFile.2.1 6 = .ok (.istore_n 2, 1) := by decide +kernel
theorem d_Tx_isDigitsAndFile_7 : decode m_Tx_isDigitsAndFile.2.1 7 = .ok (.iload_n 2, 1) := by decide +kernel
theorem d_Tx_isDigitsAndFile_8 : decode m_Tx_isDigitsAndFile.2.1 8 = .ok (.iload_n 1, 1) := by decide +kernel
theorem d_Tx_isDigitsAndFile_9 : decode m_Tx_isDigitsAndFile.2.1 9 = .ok (.iconst 1, 1) := by decide +kernel
theorem d_Tx_isDigitsAndFile_10 : decode m_Tx_isDigitsAndFile.2.1 10 = .ok (.iadd, 1) := by decide +kernel
theorem d_Tx_isDigitsAndFile_11 : decode m_Tx_isDigitsAndFile.2.1 11 = .ok (.if_icmp .lt 10, 3) := by decide +kernel
theorem d_Tx_isDigitsAndFile_14 : decode m_Tx_isDigitsAndFile.2.1 14 = .ok (.iload_n 2, 1) := by decide +kernel
theorem d_Tx_isDigitsAndFile_15 : decode m_Tx_isDigitsAndFile.2.1 15 = .ok (.iload_n 1, 1) := by decide +kernel
theorem d_Tx_isDigitsAndFile_16 : decode m_Tx_isDigitsAndFile.2.1 16 = .ok (.iconst 4, 1) := by decide +kernel
theorem d_Tx_isDigitsAndFile_17 : decode m_Tx_isDigitsAndFile.2.1 17 = .ok (.iadd, 1) := by decide +kernel
theorem d_Tx_isDigitsAndFile_18 : decode m_Tx_isDigitsAndFile.2.1 18 = .ok (.if_icmp .le 5, 3) := by decide +kernel
theorem d_Tx_isDigitsAndFile_21 : decode m_Tx_isDigitsAndFile.2.1 21 = .ok (.iconst 0, 1) := by decide +kernel
theorem d_Tx_isDigitsAndFile_22 : decode m_Tx_isDigitsAndFile.2.1 22 = .ok (.ireturn, 1) := by decide +kernel
theorem d_Tx_isDigitsAndFile_23 : decode m_Tx_isDigitsAndFile.2.1 23 = .ok (.iload_n 1, 1) := by decide +kernel
theorem d_Tx_isDigitsAndFile_24 : decode m_Tx_isDigitsAndFile.2.1 24 = .ok (.istore_n 3, 1) := by decide +kernel
theorem d_Tx_isDigitsAndFile_25 : decode m_Tx_isDigitsAndFile.2.1 25 = .ok (.iload_n 3, 1) := by decide +kernel
theorem d_Tx_isDigitsAndFile_26 : decode m_Tx_isDigitsAndFile.2.1 26 = .ok (.iload_n 2, 1) := by decide +kernel
theorem d_Tx_isDigitsAndFile_27 : decode m_Tx_isDigitsAndFile.2.1 27 = .ok (.if_icmp .ge 20, 3) := by decide +kernel
theorem d_Tx_isDigitsAndFile_30 : decode m_Tx_isDigitsAndFile.2.1 30 = .ok (.aload_n 0, 1) := by decide +kernel
theorem d_Tx_isDigitsAndFile_31 : decode m_Tx_isDigitsAndFile.2.1 31 = .ok (.iload_n 3, 1) := by decide +kernel
theorem d_Tx_isDigitsAndFile_32 : decode m_Tx_isDigitsAndFile.2.1 32 = .ok (.invokevirtual 35, 3) := by decide +kernel
theorem d_Tx_isDigitsAndFile_35 : decode m_Tx_isDigitsAndFile.2.1 35 = .ok (.iconst (-1), 1) := by decide +kernel
theorem d_Tx_isDigitsAndFile_36 : decode m_Tx_isDigitsAndFile.2.1 36 = .ok (.if_icmp .ne 5, 3) := by decide +kernel
theorem d_Tx_isDigitsAndFile_39 : decode m_Tx_isDigitsAndFile.2.1 39 = .ok (.iconst 0, 1) := by decide +kernel
theorem d_Tx_isDigitsAndFile_40 : decode m_Tx_isDigitsAndFile.2.1 40 = .ok (.ireturn, 1) := by decide +kernel
theorem d_Tx_isDigitsAndFile_41 : decode m_Tx_isDigitsAndFile.2.1 41 = .ok (.iinc 3 1, 3) := by decide +kernel
theorem d_Tx_isDigitsAndFile_44 : decode m_Tx_isDigitsAndFile.2.1 44 = .ok (.goto (-19), 3) := by decide +kernel
theorem d_Tx_isDigitsAndFile_47 : decode m_Tx_isDigitsAndFile.2.1 47 = .ok (.aload_n 0, 1) := by decide +kernel
theorem d_Tx_isDigitsAndFile_48 : decode m_Tx_isDigitsAndFile.2.1 48 = .ok (.iload_n 2, 1) := by decide +kernel
theorem d_Tx_isDigitsAndFile_49 : decode m_Tx_isDigitsAndFile.2.1 49 = .ok (.invokevirtual 23, 3) := by decide +kernel
theorem d_Tx_isDigitsAndFile_52 : decode m_Tx_isDigitsAndFile.2.1 52 = .ok (.iconst (-1), 1) := by decide +kernel
theorem d_Tx_isDigitsAndFile_53 : decode m_Tx_isDigitsAndFile.2.1 53 = .ok (.if_icmp .eq 7, 3) := by decide +kernel
theorem d_Tx_isDigitsAndFile_56 : decode m_Tx_isDigitsAndFile.2.1 56 = .ok (.iconst 1, 1) := by decide +kernel
theorem d_Tx_isDigitsAndFile_57 : decode m_Tx_isDigitsAndFile.2.1 57 = .ok (.goto 4, 3) := by decide +kernel
theorem d_Tx_isDigitsAndFile_60 : decode m_Tx_isDigitsAndFile.2.1 60 = .ok (.iconst 0, 1) := by decide +kernel
theorem d_Tx_isDigitsAndFile_61 : decode m_Tx_isDigitsAndFile.2.1 61 = .ok (.ireturn, 1) := by decide +kernel
theorem d_Tx_clear_0 : decode m_Tx_clear.2.1 0 = .ok (.aload_n 0, 1) := by decide +kernel
theorem d_Tx_clear_1 : decode m_Tx_clear.2.1 1 = .ok (.iconst 0, 1) := by decide +kernel
theorem d_Tx_clear_2 : decode m_Tx_clear.2.1 2 = .ok (.putfield 15, 3) := by decide +kernel
theorem d_Tx_clear_5 : decode m_Tx_clear.2.1 5 = .ok (.return_, 1) := by decide +kernel
theorem d_Tx_become_0 : decode m_Tx_become.2.1 0 = .ok (.aload_n 0, 1) := by decide +kernel
theorem d_Tx_become_1 : decode m_Tx_become.2.1 1 = .ok (.aload_n 1, 1) := by decide +kernel
theorem d_Tx_become_2 : decode m_Tx_become.2.1 2 = .ok (.getfield 15, 3) := by decide +kernel
theorem d_Tx_become_5 : decode m_Tx_become.2.1 5 = .ok (.putfield 15, 3) := by decide +kernel
theorem d_Tx_become_8 : decode m_Tx_become.2.1 8 = .ok (.iconst 0, 1) := by decide +kernel
theorem d_Tx_become_9 : decode m_Tx_become.2.1 9 = .ok (.istore_n 2, 1) := by decide +kernel
theorem d_Tx_become_10 : decode m_Tx_become.2.1 10 = .ok (.iload_n 2, 1) := by decide +kernel
theorem d_Tx_become_11 : decode m_Tx_become.2.1 11 = .ok (.aload_n 0, 1) := by decide +kernel
theorem d_Tx_become_12 : decode m_Tx_become.2.1 12 = .ok (.getfield 15, 3) := by decide +kernel
theorem d_Tx_become_15 : decode m_Tx_become.2.1 15 = .ok (.if_icmp .ge 21, 3) := by decide +kernel
theorem d_Tx_become_18 : decode m_Tx_become.2.1 18 = .ok (.aload_n 0, 1) := by decide +kernel
theorem d_Tx_become_19 : decode m_Tx_become.2.1 19 = .ok (.getfield 9, 3) := by decide +kernel
theorem d_Tx_become_22 : decode m_Tx_become.2.1 22 = .ok (.iload_n 2, 1) := by decide +kernel
theorem d_Tx_become_23 : decode m_Tx_become.2.1 23 = .ok (.aload_n 1, 1) := by decide +kernel
theorem d_Tx_become_24 : decode m_Tx_become.2.1 24 = .ok (.getfield 9, 3) := by decide +kernel
theorem d_Tx_become_27 : decode m_Tx_become.2.1 27 = .ok (.iload_n 2, 1) := by decide +kernel
theorem d_Tx_become_28 : decode m_Tx_become.2.1 28 = .ok (.caload, 1) := by decide +kernel
theorem d_Tx_become_29 : decode m_Tx_become.2.1 29 = .ok (.castore, 1) := by decide +kernel
theorem d_Tx_become_30 : decode m_Tx_become.2.1 30 = .ok (.iinc 2 1, 3) := by decide +kernel
theorem d_Tx_become_33 : decode m_Tx_become.2.1 33 = .ok (.goto (-23), 3) := by decide +kernel
theorem d_Tx_become_36 : decode m_Tx_become.2.1 36 = .ok (.return_, 1) := by decide +kernel
theorem d_Tx_length_0 : decode m_Tx_length.2.1 0 = .ok (.aload_n 0, 1) := by decide +kernel
theorem d_Tx_length_1 : decode m_Tx_length.2.1 1 = .ok (.getfield 15, 3) := by decide +kernel
theorem d_Tx_length_4 : decode m_Tx_length.2.1 4 = .ok (.ireturn, 1) := by decide +kernel
theorem d_Tr_init_0 : decode m_Tr_init.2.1 0 = .ok (.aload_n 0, 1) := by decide +kernel
theorem d_Tr_init_1 : decode m_Tr_init.2.1 1 = .ok (.invokespecial 3, 3) := by decide +kernel
theorem d_Tr_init_4 : decode m_Tr_init.2.1 4 = .ok (.aload_n 0, 1) := by decide +kernel
theorem d_Tr_init_5 : decode m_Tr_init.2.1 5 = .ok (.new 9, 3) := by decide +kernel
theorem d_Tr_init_8 : decode m_Tr_init.2.1 8 = .ok (.dup, 1) := by decide +kernel
theorem d_Tr_init_9 : decode m_Tr_init.2.1 9 = .ok (.invokespecial 11, 3) := by decide +kernel
theorem d_Tr_init_12 : decode m_Tr_init.2.1 12 = .ok (.putfield 12, 3) := by decide +kernel
theorem d_Tr_init_15 : decode m_Tr_init.2.1 15 = .ok (.aload_n 0, 1) := by decide +kernel
theorem d_Tr_init_16 : decode m_Tr_init.2.1 16 = .ok (.new 18, 3) := by decide +kernel
theorem d_Tr_init_19 : decode m_Tr_init.2.1 19 = .ok (.dup, 1) := by decide +kernel
theorem d_Tr_init_20 : decode m_Tr_init.2.1 20 = .ok (.bipush 13, 2) := by decide +kernel
theorem d_Tr_init_22 : decode m_Tr_init.2.1 22 = .ok (.invokespecial 20, 3) := by decide +kernel
theorem d_Tr_init_25 : decode m_Tr_init.2.1 25 = .ok (.putfield 23, 3) := by decide +kernel
theorem d_Tr_init_28 : decode m_Tr_init.2.1 28 = .ok (.aload_n 0, 1) := by decide +kernel
theorem d_Tr_init_29 : decode m_Tr_init.2.1 29 = .ok (.iconst 0, 1) := by decide +kernel
theorem d_Tr_init_30 : decode m_Tr_init.2.1 30 = .ok (.putfield 27, 3) := by decide +kernel
theorem d_Tr_init_33 : decode m_Tr_init.2.1 33 = .ok (.aload_n 0, 1) := by decide +kernel
theorem d_Tr_init_34 : decode m_Tr_init.2.1 34 = .ok (.iconst 0, 1) := by decide +kernel
theorem d_Tr_init_35 : decode m_Tr_init.2.1 35 = .ok (.putfield 31, 3) := by decide +kernel
theorem d_Tr_init_38 : decode m_Tr_init.2.1 38 = .ok (.aload_n 0, 1) := by decide +kernel
theorem d_Tr_init_39 : decode m_Tr_init.2.1 39 = .ok (.iconst (-1), 1) := by decide +kernel
theorem d_Tr_init_40 : decode m_Tr_init.2.1 40 = .ok (.putfield 34, 3) := by decide +kernel
theorem d_Tr_init_43 : decode m_Tr_init.2.1 43 = .ok (.return_, 1) := by decide +kernel
theorem d_Tr_isOf_0 : decode m_Tr_isOf.2.1 0 = .ok (.aload_n 0, 1) := by decide +kernel
theorem d_Tr_isOf_1 : decode m_Tr_isOf.2.1 1 = .ok (.getfield 12, 3) := by decide +kernel
theorem d_Tr_isOf_4 : decode m_Tr_isOf.2.1 4 = .ok (.aload_n 1, 1) := by decide +kernel
theorem d_Tr_isOf_5 : decode m_Tr_isOf.2.1 5 = .ok (.invokevirtual 45, 3) := by decide +kernel
theorem d_Tr_isOf_8 : decode m_Tr_isOf.2.1 8 = .ok (.ireturn, 1) := by decide +kernel
theorem d_Tr_fits_0 : decode m_Tr_fits.2.1 0 = .ok (.aload_n 0, 1) := by decide +kernel
theorem d_Tr_fits_1 : decode m_Tr_fits.2.1 1 = .ok (.aload_n 1, 1) := by decide +kernel
theorem d_Tr_fits_2 : decode m_Tr_fits.2.1 2 = .ok (.invokevirtual 56, 3) := by decide +kernel
theorem d_Tr_fits_5 : decode m_Tr_fits.2.1 5 = .ok (.ifCond .ne 15, 3) := by decide +kernel
theorem d_Tr_fits_8 : decode m_Tr_fits.2.1 8 = .ok (.aload_n 0, 1) := by decide +kernel
theorem d_Tr_fits_9 : decode m_Tr_fits.2.1 9 = .ok (.aload_n 1, 1) := by decide +kernel
theorem d_Tr_fits_10 : decode m_Tr_fits.2.1 10 = .ok (.invokevirtual 60, 3) := by decide +kernel
theorem d_Tr_fits_13 : decode m_Tr_fits.2.1 13 = .ok (.ifCond .ne 7, 3) := by decide +kernel
theorem d_Tr_fits_16 : decode m_Tr_fits.2.1 16 = .ok (.iconst 1, 1) := by decide +kernel
theorem d_Tr_fits_17 : decode m_Tr_fits.2.1 17 = .ok (.goto 4, 3) := by decide +kernel
theorem d_Tr_fits_20 : decode m_Tr_fits.2.1 20 = .ok (.iconst 0, 1) := by decide +kernel
theorem d_Tr_fits_21 : decode m_Tr_fits.2.1 21 = .ok (.ireturn, 1) := by decide +kernel
theorem d_Tr_askedAndChanged_0 : decode m_Tr_askedAndChanged.2.1 0 = .ok (.aload_n 0, 1) := by decide +kernel
theorem d_Tr_askedAndChanged_1 : decode m_Tr_askedAndChanged.2.1 1 = .ok (.getfield 31, 3) := by decide +kernel
theorem d_Tr_askedAndChanged_4 : decode m_Tr_askedAndChanged.2.1 4 = .ok (.aload_n 0, 1) := by decide +kernel
theorem d_Tr_askedAndChanged_5 : decode m_Tr_askedAndChanged.2.1 5 = .ok (.getfield 23, 3) := by decide +kernel
theorem d_Tr_askedAndChanged_8 : decode m_Tr_askedAndChanged.2.1 8 = .ok (.invokevirtual 52, 3) := by decide +kernel
theorem d_Tr_askedAndChanged_11 : decode m_Tr_askedAndChanged.2.1 11 = .ok (.aload_n 1, 1) := by decide +kernel
theorem d_Tr_askedAndChanged_12 : decode m_Tr_askedAndChanged.2.1 12 = .ok (.invokevirtual 52, 3) := by decide +kernel
theorem d_Tr_askedAndChanged_15 : decode m_Tr_askedAndChanged.2.1 15 = .ok (.ixor, 1) := by decide +kernel
theorem d_Tr_askedAndChanged_16 : decode m_Tr_askedAndChanged.2.1 16 = .ok (.iand, 1) := by decide +kernel
theorem d_Tr_askedAndChanged_17 : decode m_Tr_askedAndChanged.2.1 17 = .ok (.ireturn, 1) := by decide +kernel
theorem d_Tr_readAndChanged_0 : decode m_Tr_readAndChanged.2.1 0 = .ok (.iconst 0, 1) := by decide +kernel
theorem d_Tr_readAndChanged_1 : decode m_Tr_readAndChanged.2.1 1 = .ok (.istore_n 2, 1) := by decide +kernel
theorem d_Tr_readAndChanged_2 : decode m_Tr_readAndChanged.2.1 2 = .ok (.iconst 0, 1) := by decide +kernel
theorem d_Tr_readAndChanged_3 : decode m_Tr_readAndChanged.2.1 3 = .ok (.istore_n 3, 1) := by decide +kernel
theorem d_Tr_readAndChanged_4 : decode m_Tr_readAndChanged.2.1 4 = .ok (.iload_n 3, 1) := by decide +kernel
theorem d_Tr_readAndChanged_5 : decode m_Tr_readAndChanged.2.1 5 = .ok (.bipush 12, 2) := by decide +kernel
theorem d_Tr_readAndChanged_7 : decode m_Tr_readAndChanged.2.1 7 = .ok (.if_icmp .ge 39, 3) := by decide +kernel
theorem d_Tr_readAndChanged_10 : decode m_Tr_readAndChanged.2.1 10 = .ok (.aload_n 0, 1) := by decide +kernel
theorem d_Tr_readAndChanged_11 : decode m_Tr_readAndChanged.2.1 11 = .ok (.getfield 27, 3) := by decide +kernel
theorem d_Tr_readAndChanged_14 : decode m_Tr_readAndChanged.2.1 14 = .ok (.iconst 1, 1) := by decide +kernel
theorem d_Tr_readAndChanged_15 : decode m_Tr_readAndChanged.2.1 15 = .ok (.iload_n 3, 1) := by decide +kernel
theorem d_Tr_readAndChanged_16 : decode m_Tr_readAndChanged.2.1 16 = .ok (.ishl, 1) := by decide +kernel
theorem d_Tr_readAndChanged_17 : decode m_Tr_readAndChanged.2.1 17 = .ok (.iand, 1) := by decide +kernel
theorem d_Tr_readAndChanged_18 : decode m_Tr_readAndChanged.2.1 18 = .ok (.ifCond .eq 22, 3) := by decide +kernel
theorem d_Tr_readAndChanged_21 : decode m_Tr_readAndChanged.2.1 21 = .ok (.aload_n 0, 1) := by decide +kernel
theorem d_Tr_readAndChanged_22 : decode m_Tr_readAndChanged.2.1 22 = .ok (.getfield 23, 3) := by decide +kernel
theorem d_Tr_readAndChanged_25 : decode m_Tr_readAndChanged.2.1 25 = .ok (.iload_n 3, 1) := by decide +kernel
theorem d_Tr_readAndChanged_26 : decode m_Tr_readAndChanged.2.1 26 = .ok (.aload_n 1, 1) := by decide +kernel
theorem d_Tr_readAndChanged_27 : decode m_Tr_readAndChanged.2.1 27 = .ok (.iload_n 3, 1) := by decide +kernel
theorem d_Tr_readAndChanged_28 : decode m_Tr_readAndChanged.2.1 28 = .ok (.invokevirtual 49, 3) := by decide +kernel
theorem d_Tr_readAndChanged_31 : decode m_Tr_readAndChanged.2.1 31 = .ok (.ifCond .ne 9, 3) := by decide +kernel
theorem d_Tr_readAndChanged_34 : decode m_Tr_readAndChanged.2.1 34 = .ok (.iload_n 2, 1) := by decide +kernel
theorem d_Tr_readAndChanged_35 : decode m_Tr_readAndChanged.2.1 35 = .ok (.iconst 1, 1) := by decide +kernel
theorem d_Tr_readAndChanged_36 : decode m_Tr_readAndChanged.2.1 36 = .ok (.iload_n 3, 1) := by decide +kernel
theorem d_Tr_readAndChanged_37 : decode m_Tr_readAndChanged.2.1 37 = .ok (.ishl, 1) := by decide +kernel
theorem d_Tr_readAndChanged_38 : decode m_Tr_readAndChanged.2.1 38 = .ok (.ior, 1) := by decide +kernel
theorem d_Tr_readAndChanged_39 : decode m_Tr_readAndChanged.2.1 39 = .ok (.istore_n 2, 1) := by decide +kernel
theorem d_Tr_readAndChanged_40 : decode m_Tr_readAndChanged.2.1 40 = .ok (.iinc 3 1, 3) := by decide +kernel
theorem d_Tr_readAndChanged_43 : decode m_Tr_readAndChanged.2.1 43 = .ok (.goto (-39), 3) := by decide +kernel
theorem d_Tr_readAndChanged_46 : decode m_Tr_readAndChanged.2.1 46 = .ok (.iload_n 2, 1) := by decide +kernel
theorem d_Tr_readAndChanged_47 : decode m_Tr_readAndChanged.2.1 47 = .ok (.ireturn, 1) := by decide +kernel
theorem d_Tr_begin_0 : decode m_Tr_begin.2.1 0 = .ok (.aload_n 0, 1) := by decide +kernel
theorem d_Tr_begin_1 : decode m_Tr_begin.2.1 1 = .ok (.getfield 12, 3) := by decide +kernel
theorem d_Tr_begin_4 : decode m_Tr_begin.2.1 4 = .ok (.aload_n 1, 1) := by decide +kernel
theorem d_Tr_begin_5 : decode m_Tr_begin.2.1 5 = .ok (.invokevirtual 37, 3) := by decide +kernel
theorem d_Tr_begin_8 : decode m_Tr_begin.2.1 8 = .ok (.aload_n 0, 1) := by decide +kernel
theorem d_Tr_begin_9 : decode m_Tr_begin.2.1 9 = .ok (.getfield 23, 3) := by decide +kernel
theorem d_Tr_begin_12 : decode m_Tr_begin.2.1 12 = .ok (.aload_n 2, 1) := by decide +kernel
theorem d_Tr_begin_13 : decode m_Tr_begin.2.1 13 = .ok (.invokevirtual 41, 3) := by decide +kernel
theorem d_Tr_begin_16 : decode m_Tr_begin.2.1 16 = .ok (.aload_n 0, 1) := by decide +kernel
theorem d_Tr_begin_17 : decode m_Tr_begin.2.1 17 = .ok (.iconst 0, 1) := by decide +kernel
theorem d_Tr_begin_18 : decode m_Tr_begin.2.1 18 = .ok (.putfield 27, 3) := by decide +kernel
theorem d_Tr_begin_21 : decode m_Tr_begin.2.1 21 = .ok (.aload_n 0, 1) := by decide +kernel
theorem d_Tr_begin_22 : decode m_Tr_begin.2.1 22 = .ok (.iconst 0, 1) := by decide +kernel
theorem d_Tr_begin_23 : decode m_Tr_begin.2.1 23 = .ok (.putfield 31, 3) := by decide +kernel
theorem d_Tr_begin_26 : decode m_Tr_begin.2.1 26 = .ok (.aload_n 0, 1) := by decide +kernel
theorem d_Tr_begin_27 : decode m_Tr_begin.2.1 27 = .ok (.iconst (-1), 1) := by decide +kernel
theorem d_Tr_begin_28 : decode m_Tr_begin.2.1 28 = .ok (.putfield 34, 3) := by decide +kernel
theorem d_Tr_begin_31 : decode m_Tr_begin.2.1 31 = .ok (.return_, 1) := by decide +kernel
theorem d_Tr_putBack_0 : decode m_Tr_putBack.2.1 0 = .ok (.aload_n 0, 1) := by decide +kernel
theorem d_Tr_putBack_1 : decode m_Tr_putBack.2.1 1 = .ok (.getfield 34, 3) := by decide +kernel
theorem d_Tr_putBack_4 : decode m_Tr_putBack.2.1 4 = .ok (.iconst (-1), 1) := by decide +kernel
theorem d_Tr_putBack_5 : decode m_Tr_putBack.2.1 5 = .ok (.if_icmp .eq 20, 3) := by decide +kernel
theorem d_Tr_putBack_8 : decode m_Tr_putBack.2.1 8 = .ok (.aload_n 1, 1) := by decide +kernel
theorem d_Tr_putBack_9 : decode m_Tr_putBack.2.1 9 = .ok (.aload_n 0, 1) := by decide +kernel
theorem d_Tr_putBack_10 : decode m_Tr_putBack.2.1 10 = .ok (.getfield 34, 3) := by decide +kernel
theorem d_Tr_putBack_13 : decode m_Tr_putBack.2.1 13 = .ok (.aload_n 0, 1) := by decide +kernel
theorem d_Tr_putBack_14 : decode m_Tr_putBack.2.1 14 = .ok (.getfield 23, 3) := by decide +kernel
theorem d_Tr_putBack_17 : decode m_Tr_putBack.2.1 17 = .ok (.bipush 12, 2) := by decide +kernel
theorem d_Tr_putBack_19 : decode m_Tr_putBack.2.1 19 = .ok (.invokevirtual 49, 3) := by decide +kernel
theorem d_Tr_putBack_22 : decode m_Tr_putBack.2.1 22 = .ok (.ifCond .eq 5, 3) := by decide +kernel
theorem d_Tr_putBack_25 : decode m_Tr_putBack.2.1 25 = .ok (.iconst 0, 1) := by decide +kernel
theorem d_Tr_putBack_26 : decode m_Tr_putBack.2.1 26 = .ok (.ireturn, 1) := by decide +kernel
theorem d_Tr_putBack_27 : decode m_Tr_putBack.2.1 27 = .ok (.aload_n 1, 1) := by decide +kernel
theorem d_Tr_putBack_28 : decode m_Tr_putBack.2.1 28 = .ok (.aload_n 0, 1) := by decide +kernel
theorem d_Tr_putBack_29 : decode m_Tr_putBack.2.1 29 = .ok (.getfield 34, 3) := by decide +kernel
theorem d_Tr_putBack_32 : decode m_Tr_putBack.2.1 32 = .ok (.aload_n 0, 1) := by decide +kernel
theorem d_Tr_putBack_33 : decode m_Tr_putBack.2.1 33 = .ok (.getfield 23, 3) := by decide +kernel
theorem d_Tr_putBack_36 : decode m_Tr_putBack.2.1 36 = .ok (.bipush 12, 2) := by decide +kernel
theorem d_Tr_putBack_38 : decode m_Tr_putBack.2.1 38 = .ok (.invokevirtual 63, 3) := by decide +kernel
theorem d_Tr_putBack_41 : decode m_Tr_putBack.2.1 41 = .ok (.iconst 1, 1) := by decide +kernel
theorem d_Tr_putBack_42 : decode m_Tr_putBack.2.1 42 = .ok (.ireturn, 1) := by decide +kernel
theorem d_Tr_written_0 : decode m_Tr_written.2.1 0 = .ok (.aload_n 0, 1) := by decide +kernel
theorem d_Tr_written_1 : decode m_Tr_written.2.1 1 = .ok (.getfield 34, 3) := by decide +kernel
theorem d_Tr_written_4 : decode m_Tr_written.2.1 4 = .ok (.iconst (-1), 1) := by decide +kernel
theorem d_Tr_written_5 : decode m_Tr_written.2.1 5 = .ok (.if_icmp .ne 7, 3) := by decide +kernel
theorem d_Tr_written_8 : decode m_Tr_written.2.1 8 = .ok (.iconst 0, 1) := by decide +kernel
theorem d_Tr_written_9 : decode m_Tr_written.2.1 9 = .ok (.goto 9, 3) := by decide +kernel
theorem d_Tr_written_12 : decode m_Tr_written.2.1 12 = .ok (.iconst 1, 1) := by decide +kernel
theorem d_Tr_written_13 : decode m_Tr_written.2.1 13 = .ok (.aload_n 0, 1) := by decide +kernel
theorem d_Tr_written_14 : decode m_Tr_written.2.1 14 = .ok (.getfield 34, 3) := by decide +kernel
theorem d_Tr_written_17 : decode m_Tr_written.2.1 17 = .ok (.ishl, 1) := by decide +kernel
theorem d_Tr_written_18 : decode m_Tr_written.2.1 18 = .ok (.ireturn, 1) := by decide +kernel
theorem d_Tr_isInTheWayOf_0 : decode m_Tr_isInTheWayOf.2.1 0 = .ok (.aload_n 0, 1) := by decide +kernel
theorem d_Tr_isInTheWayOf_1 : decode m_Tr_isInTheWayOf.2.1 1 = .ok (.invokevirtual 66, 3) := by decide +kernel
theorem d_Tr_isInTheWayOf_4 : decode m_Tr_isInTheWayOf.2.1 4 = .ok (.aload_n 1, 1) := by decide +kernel
theorem d_Tr_isInTheWayOf_5 : decode m_Tr_isInTheWayOf.2.1 5 = .ok (.invokevirtual 69, 3) := by decide +kernel
theorem d_Tr_isInTheWayOf_8 : decode m_Tr_isInTheWayOf.2.1 8 = .ok (.iand, 1) := by decide +kernel
theorem d_Tr_isInTheWayOf_9 : decode m_Tr_isInTheWayOf.2.1 9 = .ok (.ifCond .ne 15, 3) := by decide +kernel
theorem d_Tr_isInTheWayOf_12 : decode m_Tr_isInTheWayOf.2.1 12 = .ok (.aload_n 1, 1) := by decide +kernel
theorem d_Tr_isInTheWayOf_13 : decode m_Tr_isInTheWayOf.2.1 13 = .ok (.invokevirtual 66, 3) := by decide +kernel
theorem d_Tr_isInTheWayOf_16 : decode m_Tr_isInTheWayOf.2.1 16 = .ok (.aload_n 0, 1) := by decide +kernel
theorem d_Tr_isInTheWayOf_17 : decode m_Tr_isInTheWayOf.2.1 17 = .ok (.invokevirtual 69, 3) := by decide +kernel
theorem d_Tr_isInTheWayOf_20 : decode m_Tr_isInTheWayOf.2.1 20 = .ok (.iand, 1) := by decide +kernel
theorem d_Tr_isInTheWayOf_21 : decode m_Tr_isInTheWayOf.2.1 21 = .ok (.ifCond .eq 7, 3) := by decide +kernel
theorem d_Tr_isInTheWayOf_24 : decode m_Tr_isInTheWayOf.2.1 24 = .ok (.iconst 1, 1) := by decide +kernel
theorem d_Tr_isInTheWayOf_25 : decode m_Tr_isInTheWayOf.2.1 25 = .ok (.goto 4, 3) := by decide +kernel
theorem d_Tr_isInTheWayOf_28 : decode m_Tr_isInTheWayOf.2.1 28 = .ok (.iconst 0, 1) := by decide +kernel
theorem d_Tr_isInTheWayOf_29 : decode m_Tr_isInTheWayOf.2.1 29 = .ok (.ireturn, 1) := by decide +kernel
theorem d_Tr_touched_0 : decode m_Tr_touched.2.1 0 = .ok (.aload_n 0, 1) := by decide +kernel
theorem d_Tr_touched_1 : decode m_Tr_touched.2.1 1 = .ok (.getfield 27, 3) := by decide +kernel
theorem d_Tr_touched_4 : decode m_Tr_touched.2.1 4 = .ok (.aload_n 0, 1) := by decide +kernel
theorem d_Tr_touched_5 : decode m_Tr_touched.2.1 5 = .ok (.getfield 31, 3) := by decide +kernel
theorem d_Tr_touched_8 : decode m_Tr_touched.2.1 8 = .ok (.ior, 1) := by decide +kernel
theorem d_Tr_touched_9 : decode m_Tr_touched.2.1 9 = .ok (.aload_n 0, 1) := by decide +kernel
theorem d_Tr_touched_10 : decode m_Tr_touched.2.1 10 = .ok (.invokevirtual 66, 3) := by decide +kernel
theorem d_Tr_touched_13 : decode m_Tr_touched.2.1 13 = .ok (.ior, 1) := by decide +kernel
theorem d_Tr_touched_14 : decode m_Tr_touched.2.1 14 = .ok (.ireturn, 1) := by decide +kernel
theorem d_Tr_part_0 : decode m_Tr_part.2.1 0 = .ok (.iload_n 1, 1) := by decide +kernel
theorem d_Tr_part_1 : decode m_Tr_part.2.1 1 = .ok (.tableswitch 92 0 4 #[35, 43, 48, 53, 58], 35) := by decide +kernel
theorem d_Tr_part_36 : decode m_Tr_part.2.1 36 = .ok (.aload_n 0, 1) := by decide +kernel
theorem d_Tr_part_37 : decode m_Tr_part.2.1 37 = .ok (.getfield 12, 3) := by decide +kernel
theorem d_Tr_part_40 : decode m_Tr_part.2.1 40 = .ok (.invokevirtual 72, 3) := by decide +kernel
theorem d_Tr_part_43 : decode m_Tr_part.2.1 43 = .ok (.ireturn, 1) := by decide +kernel
theorem d_Tr_part_44 : decode m_Tr_part.2.1 44 = .ok (.aload_n 0, 1) := by decide +kernel
theorem d_Tr_part_45 : decode m_Tr_part.2.1 45 = .ok (.getfield 27, 3) := by decide +kernel
theorem d_Tr_part_48 : decode m_Tr_part.2.1 48 = .ok (.ireturn, 1) := by decide +kernel
theorem d_Tr_part_49 : decode m_Tr_part.2.1 49 = .ok (.aload_n 0, 1) := by decide +kernel
theorem d_Tr_part_50 : decode m_Tr_part.2.1 50 = .ok (.getfield 31, 3) := by decide +kernel
theorem d_Tr_part_53 : decode m_Tr_part.2.1 53 = .ok (.ireturn, 1) := by decide +kernel
theorem d_Tr_part_54 : decode m_Tr_part.2.1 54 = .ok (.aload_n 0, 1) := by decide +kernel
theorem d_Tr_part_55 : decode m_Tr_part.2.1 55 = .ok (.getfield 34, 3) := by decide +kernel
theorem d_Tr_part_58 : decode m_Tr_part.2.1 58 = .ok (.ireturn, 1) := by decide +kernel
theorem d_Tr_part_59 : decode m_Tr_part.2.1 59 = .ok (.aload_n 0, 1) := by decide +kernel
theorem d_Tr_part_60 : decode m_Tr_part.2.1 60 = .ok (.getfield 34, 3) := by decide +kernel
theorem d_Tr_part_63 : decode m_Tr_part.2.1 63 = .ok (.iconst (-1), 1) := by decide +kernel
theorem d_Tr_part_64 : decode m_Tr_part.2.1 64 = .ok (.if_icmp .eq 15, 3) := by decide +kernel
theorem d_Tr_part_67 : decode m_Tr_part.2.1 67 = .ok (.aload_n 0, 1) := by decide +kernel
theorem d_Tr_part_68 : decode m_Tr_part.2.1 68 = .ok (.getfield 23, 3) := by decide +kernel
theorem d_Tr_part_71 : decode m_Tr_part.2.1 71 = .ok (.bipush 12, 2) := by decide +kernel
theorem d_Tr_part_73 : decode m_Tr_part.2.1 73 = .ok (.invokevirtual 75, 3) := by decide +kernel
theorem d_Tr_part_76 : decode m_Tr_part.2.1 76 = .ok (.ifCond .ne 7, 3) := by decide +kernel
theorem d_Tr_part_79 : decode m_Tr_part.2.1 79 = .ok (.iconst (-1), 1) := by decide +kernel
theorem d_Tr_part_80 : decode m_Tr_part.2.1 80 = .ok (.goto 12, 3) := by decide +kernel
theorem d_Tr_part_83 : decode m_Tr_part.2.1 83 = .ok (.aload_n 0, 1) := by decide +kernel
theorem d_Tr_part_84 : decode m_Tr_part.2.1 84 = .ok (.getfield 23, 3) := by decide +kernel
theorem d_Tr_part_87 : decode m_Tr_part.2.1 87 = .ok (.bipush 12, 2) := by decide +kernel
theorem d_Tr_part_89 : decode m_Tr_part.2.1 89 = .ok (.invokevirtual 79, 3) := by decide +kernel
theorem d_Tr_part_92 : decode m_Tr_part.2.1 92 = .ok (.ireturn, 1) := by decide +kernel
theorem d_Tr_part_93 : decode m_Tr_part.2.1 93 = .ok (.iconst (-1), 1) := by decide +kernel
theorem d_Tr_part_94 : decode m_Tr_part.2.1 94 = .ok (.ireturn, 1) := by decide +kernel
