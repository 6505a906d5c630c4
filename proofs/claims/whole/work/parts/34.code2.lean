/-! Rows that decode: laid by program. -/
theorem d_TB_init_0 : decode m_TB_init.2.1 0 = .ok (.aload_n 0, 1) := by decide +kernel
theorem d_TB_init_1 : decode m_TB_init.2.1 1 = .ok (.invokespecial 1, 3) := by decide +kernel
theorem d_TB_init_4 : decode m_TB_init.2.1 4 = .ok (.aload_n 0, 1) := by decide +kernel
theorem d_TB_init_5 : decode m_TB_init.2.1 5 = .ok (.new 7, 3) := by decide +kernel
theorem d_TB_init_8 : decode m_TB_init.2.1 8 = .ok (.dup, 1) := by decide +kernel
theorem d_TB_init_9 : decode m_TB_init.2.1 9 = .ok (.invokespecial 9, 3) := by decide +kernel
theorem d_TB_init_12 : decode m_TB_init.2.1 12 = .ok (.putfield 10, 3) := by decide +kernel
theorem d_TB_init_15 : decode m_TB_init.2.1 15 = .ok (.aload_n 0, 1) := by decide +kernel
theorem d_TB_init_16 : decode m_TB_init.2.1 16 = .ok (.new 16, 3) := by decide +kernel
theorem d_TB_init_19 : decode m_TB_init.2.1 19 = .ok (.dup, 1) := by decide +kernel
theorem d_TB_init_20 : decode m_TB_init.2.1 20 = .ok (.invokespecial 18, 3) := by decide +kernel
theorem d_TB_init_23 : decode m_TB_init.2.1 23 = .ok (.putfield 19, 3) := by decide +kernel
theorem d_TB_init_26 : decode m_TB_init.2.1 26 = .ok (.aload_n 0, 1) := by decide +kernel
theorem d_TB_init_27 : decode m_TB_init.2.1 27 = .ok (.new 23, 3) := by decide +kernel
theorem d_TB_init_30 : decode m_TB_init.2.1 30 = .ok (.dup, 1) := by decide +kernel
theorem d_TB_init_31 : decode m_TB_init.2.1 31 = .ok (.bipush 12, 2) := by decide +kernel
theorem d_TB_init_33 : decode m_TB_init.2.1 33 = .ok (.invokespecial 25, 3) := by decide +kernel
theorem d_TB_init_36 : decode m_TB_init.2.1 36 = .ok (.putfield 28, 3) := by decide +kernel
theorem d_TB_init_39 : decode m_TB_init.2.1 39 = .ok (.aload_n 0, 1) := by decide +kernel
theorem d_TB_init_40 : decode m_TB_init.2.1 40 = .ok (.new 23, 3) := by decide +kernel
theorem d_TB_init_43 : decode m_TB_init.2.1 43 = .ok (.dup, 1) := by decide +kernel
theorem d_TB_init_44 : decode m_TB_init.2.1 44 = .ok (.bipush 12, 2) := by decide +kernel
theorem d_TB_init_46 : decode m_TB_init.2.1 46 = .ok (.invokespecial 25, 3) := by decide +kernel
theorem d_TB_init_49 : decode m_TB_init.2.1 49 = .ok (.putfield 32, 3) := by decide +kernel
theorem d_TB_init_52 : decode m_TB_init.2.1 52 = .ok (.aload_n 0, 1) := by decide +kernel
theorem d_TB_init_53 : decode m_TB_init.2.1 53 = .ok (.new 35, 3) := by decide +kernel
theorem d_TB_init_56 : decode m_TB_init.2.1 56 = .ok (.dup, 1) := by decide +kernel
theorem d_TB_init_57 : decode m_TB_init.2.1 57 = .ok (.invokespecial 37, 3) := by decide +kernel
theorem d_TB_init_60 : decode m_TB_init.2.1 60 = .ok (.putfield 38, 3) := by decide +kernel
theorem d_TB_init_63 : decode m_TB_init.2.1 63 = .ok (.aload_n 0, 1) := by decide +kernel
theorem d_TB_init_64 : decode m_TB_init.2.1 64 = .ok (.new 42, 3) := by decide +kernel
theorem d_TB_init_67 : decode m_TB_init.2.1 67 = .ok (.dup, 1) := by decide +kernel
theorem d_TB_init_68 : decode m_TB_init.2.1 68 = .ok (.invokespecial 44, 3) := by decide +kernel
theorem d_TB_init_71 : decode m_TB_init.2.1 71 = .ok (.putfield 45, 3) := by decide +kernel
theorem d_TB_init_74 : decode m_TB_init.2.1 74 = .ok (.aload_n 0, 1) := by decide +kernel
theorem d_TB_init_75 : decode m_TB_init.2.1 75 = .ok (.iconst 0, 1) := by decide +kernel
theorem d_TB_init_76 : decode m_TB_init.2.1 76 = .ok (.putfield 49, 3) := by decide +kernel
theorem d_TB_init_79 : decode m_TB_init.2.1 79 = .ok (.aload_n 0, 1) := by decide +kernel
theorem d_TB_init_80 : decode m_TB_init.2.1 80 = .ok (.iconst 0, 1) := by decide +kernel
theorem d_TB_init_81 : decode m_TB_init.2.1 81 = .ok (.putfield 53, 3) := by decide +kernel
theorem d_TB_init_84 : decode m_TB_init.2.1 84 = .ok (.return_, 1) := by decide +kernel
theorem d_TB_type_0 : decode m_TB_type.2.1 0 = .ok (.aload_n 0, 1) := by decide +kernel
theorem d_TB_type_1 : decode m_TB_type.2.1 1 = .ok (.getfield 10, 3) := by decide +kernel
theorem d_TB_type_4 : decode m_TB_type.2.1 4 = .ok (.iload_n 1, 1) := by decide +kernel
theorem d_TB_type_5 : decode m_TB_type.2.1 5 = .ok (.invokevirtual 57, 3) := by decide +kernel
theorem d_TB_type_8 : decode m_TB_type.2.1 8 = .ok (.ireturn, 1) := by decide +kernel
theorem d_TB_commands_0 : decode m_TB_commands.2.1 0 = .ok (.aload_n 0, 1) := by decide +kernel
theorem d_TB_commands_1 : decode m_TB_commands.2.1 1 = .ok (.getfield 19, 3) := by decide +kernel
theorem d_TB_commands_4 : decode m_TB_commands.2.1 4 = .ok (.invokevirtual 94, 3) := by decide +kernel
theorem d_TB_commands_7 : decode m_TB_commands.2.1 7 = .ok (.ireturn, 1) := by decide +kernel
theorem d_TB_put_0 : decode m_TB_put.2.1 0 = .ok (.iload_n 1, 1) := by decide +kernel
theorem d_TB_put_1 : decode m_TB_put.2.1 1 = .ok (.invokestatic 98, 3) := by decide +kernel
theorem d_TB_put_4 : decode m_TB_put.2.1 4 = .ok (.ifCond .eq 15, 3) := by decide +kernel
theorem d_TB_put_7 : decode m_TB_put.2.1 7 = .ok (.aload_n 0, 1) := by decide +kernel
theorem d_TB_put_8 : decode m_TB_put.2.1 8 = .ok (.getfield 28, 3) := by decide +kernel
theorem d_TB_put_11 : decode m_TB_put.2.1 11 = .ok (.iload_n 1, 1) := by decide +kernel
theorem d_TB_put_12 : decode m_TB_put.2.1 12 = .ok (.iload_n 2, 1) := by decide +kernel
theorem d_TB_put_13 : decode m_TB_put.2.1 13 = .ok (.invokevirtual 102, 3) := by decide +kernel
theorem d_TB_put_16 : decode m_TB_put.2.1 16 = .ok (.ifCond .ne 5, 3) := by decide +kernel
theorem d_TB_put_19 : decode m_TB_put.2.1 19 = .ok (.iconst (-1), 1) := by decide +kernel
theorem d_TB_put_20 : decode m_TB_put.2.1 20 = .ok (.ireturn, 1) := by decide +kernel
theorem d_TB_put_21 : decode m_TB_put.2.1 21 = .ok (.aload_n 0, 1) := by decide +kernel
theorem d_TB_put_22 : decode m_TB_put.2.1 22 = .ok (.getfield 28, 3) := by decide +kernel
theorem d_TB_put_25 : decode m_TB_put.2.1 25 = .ok (.iload_n 1, 1) := by decide +kernel
theorem d_TB_put_26 : decode m_TB_put.2.1 26 = .ok (.invokevirtual 105, 3) := by decide +kernel
theorem d_TB_put_29 : decode m_TB_put.2.1 29 = .ok (.ireturn, 1) := by decide +kernel
theorem d_TB_isFile_0 : decode m_TB_isFile.2.1 0 = .ok (.iload_n 0, 1) := by decide +kernel
theorem d_TB_isFile_1 : decode m_TB_isFile.2.1 1 = .ok (.ifCond .lt 13, 3) := by decide +kernel
theorem d_TB_isFile_4 : decode m_TB_isFile.2.1 4 = .ok (.iload_n 0, 1) := by decide +kernel
theorem d_TB_isFile_5 : decode m_TB_isFile.2.1 5 = .ok (.bipush 12, 2) := by decide +kernel
theorem d_TB_isFile_7 : decode m_TB_isFile.2.1 7 = .ok (.if_icmp .ge 7, 3) := by decide +kernel
theorem d_TB_isFile_10 : decode m_TB_isFile.2.1 10 = .ok (.iconst 1, 1) := by decide +kernel
theorem d_TB_isFile_11 : decode m_TB_isFile.2.1 11 = .ok (.goto 4, 3) := by decide +kernel
theorem d_TB_isFile_14 : decode m_TB_isFile.2.1 14 = .ok (.iconst 0, 1) := by decide +kernel
theorem d_TB_isFile_15 : decode m_TB_isFile.2.1 15 = .ok (.ireturn, 1) := by decide +kernel
theorem d_TB_remove_0 : decode m_TB_remove.2.1 0 = .ok (.iload_n 1, 1) := by decide +kernel
theorem d_TB_remove_1 : decode m_TB_remove.2.1 1 = .ok (.invokestatic 98, 3) := by decide +kernel
theorem d_TB_remove_4 : decode m_TB_remove.2.1 4 = .ok (.ifCond .eq 14, 3) := by decide +kernel
theorem d_TB_remove_7 : decode m_TB_remove.2.1 7 = .ok (.aload_n 0, 1) := by decide +kernel
theorem d_TB_remove_8 : decode m_TB_remove.2.1 8 = .ok (.getfield 28, 3) := by decide +kernel
theorem d_TB_remove_11 : decode m_TB_remove.2.1 11 = .ok (.iload_n 1, 1) := by decide +kernel
theorem d_TB_remove_12 : decode m_TB_remove.2.1 12 = .ok (.invokevirtual 108, 3) := by decide +kernel
theorem d_TB_remove_15 : decode m_TB_remove.2.1 15 = .ok (.ifCond .ne 5, 3) := by decide +kernel
theorem d_TB_remove_18 : decode m_TB_remove.2.1 18 = .ok (.iconst 0, 1) := by decide +kernel
theorem d_TB_remove_19 : decode m_TB_remove.2.1 19 = .ok (.ireturn, 1) := by decide +kernel
theorem d_TB_remove_20 : decode m_TB_remove.2.1 20 = .ok (.aload_n 0, 1) := by decide +kernel
theorem d_TB_remove_21 : decode m_TB_remove.2.1 21 = .ok (.getfield 28, 3) := by decide +kernel
theorem d_TB_remove_24 : decode m_TB_remove.2.1 24 = .ok (.iload_n 1, 1) := by decide +kernel
theorem d_TB_remove_25 : decode m_TB_remove.2.1 25 = .ok (.invokevirtual 111, 3) := by decide +kernel
theorem d_TB_remove_28 : decode m_TB_remove.2.1 28 = .ok (.iconst 1, 1) := by decide +kernel
theorem d_TB_remove_29 : decode m_TB_remove.2.1 29 = .ok (.ireturn, 1) := by decide +kernel
theorem d_TB_did_0 : decode m_TB_did.2.1 0 = .ok (.aload_n 0, 1) := by decide +kernel
theorem d_TB_did_1 : decode m_TB_did.2.1 1 = .ok (.iload_n 1, 1) := by decide +kernel
theorem d_TB_did_2 : decode m_TB_did.2.1 2 = .ok (.invokevirtual 130, 3) := by decide +kernel
theorem d_TB_did_5 : decode m_TB_did.2.1 5 = .ok (.ifCond .eq 17, 3) := by decide +kernel
theorem d_TB_did_8 : decode m_TB_did.2.1 8 = .ok (.aload_n 0, 1) := by decide +kernel
theorem d_TB_did_9 : decode m_TB_did.2.1 9 = .ok (.getfield 45, 3) := by decide +kernel
theorem d_TB_did_12 : decode m_TB_did.2.1 12 = .ok (.iload_n 1, 1) := by decide +kernel
theorem d_TB_did_13 : decode m_TB_did.2.1 13 = .ok (.invokevirtual 133, 3) := by decide +kernel
theorem d_TB_did_16 : decode m_TB_did.2.1 16 = .ok (.getfield 137, 3) := by decide +kernel
theorem d_TB_did_19 : decode m_TB_did.2.1 19 = .ok (.goto 4, 3) := by decide +kernel
theorem d_TB_did_22 : decode m_TB_did.2.1 22 = .ok (.iconst (-1), 1) := by decide +kernel
theorem d_TB_did_23 : decode m_TB_did.2.1 23 = .ok (.ireturn, 1) := by decide +kernel
theorem d_TB_isTold_0 : decode m_TB_isTold.2.1 0 = .ok (.aload_n 0, 1) := by decide +kernel
theorem d_TB_isTold_1 : decode m_TB_isTold.2.1 1 = .ok (.getfield 49, 3) := by decide +kernel
theorem d_TB_isTold_4 : decode m_TB_isTold.2.1 4 = .ok (.ifCond .eq 18, 3) := by decide +kernel
theorem d_TB_isTold_7 : decode m_TB_isTold.2.1 7 = .ok (.aload_n 0, 1) := by decide +kernel
theorem d_TB_isTold_8 : decode m_TB_isTold.2.1 8 = .ok (.getfield 19, 3) := by decide +kernel
theorem d_TB_isTold_11 : decode m_TB_isTold.2.1 11 = .ok (.iload_n 1, 1) := by decide +kernel
theorem d_TB_isTold_12 : decode m_TB_isTold.2.1 12 = .ok (.invokevirtual 172, 3) := by decide +kernel
theorem d_TB_isTold_15 : decode m_TB_isTold.2.1 15 = .ok (.ifCond .eq 7, 3) := by decide +kernel
theorem d_TB_isTold_18 : decode m_TB_isTold.2.1 18 = .ok (.iconst 1, 1) := by decide +kernel
theorem d_TB_isTold_19 : decode m_TB_isTold.2.1 19 = .ok (.goto 4, 3) := by decide +kernel
theorem d_TB_isTold_22 : decode m_TB_isTold.2.1 22 = .ok (.iconst 0, 1) := by decide +kernel
theorem d_TB_isTold_23 : decode m_TB_isTold.2.1 23 = .ok (.ireturn, 1) := by decide +kernel
theorem d_TB_why_0 : decode m_TB_why.2.1 0 = .ok (.aload_n 0, 1) := by decide +kernel
theorem d_TB_why_1 : decode m_TB_why.2.1 1 = .ok (.iload_n 1, 1) := by decide +kernel
theorem d_TB_why_2 : decode m_TB_why.2.1 2 = .ok (.invokevirtual 130, 3) := by decide +kernel
theorem d_TB_why_5 : decode m_TB_why.2.1 5 = .ok (.ifCond .eq 17, 3) := by decide +kernel
theorem d_TB_why_8 : decode m_TB_why.2.1 8 = .ok (.aload_n 0, 1) := by decide +kernel
theorem d_TB_why_9 : decode m_TB_why.2.1 9 = .ok (.getfield 45, 3) := by decide +kernel
theorem d_TB_why_12 : decode m_TB_why.2.1 12 = .ok (.iload_n 1, 1) := by decide +kernel
theorem d_TB_why_13 : decode m_TB_why.2.1 13 = .ok (.invokevirtual 133, 3) := by decide +kernel
theorem d_TB_why_16 : decode m_TB_why.2.1 16 = .ok (.getfield 142, 3) := by decide +kernel
theorem d_TB_why_19 : decode m_TB_why.2.1 19 = .ok (.goto 4, 3) := by decide +kernel
theorem d_TB_why_22 : decode m_TB_why.2.1 22 = .ok (.iconst (-1), 1) := by decide +kernel
theorem d_TB_why_23 : decode m_TB_why.2.1 23 = .ok (.ireturn, 1) := by decide +kernel
theorem d_TB_hazard_0 : decode m_TB_hazard.2.1 0 = .ok (.aload_n 0, 1) := by decide +kernel
theorem d_TB_hazard_1 : decode m_TB_hazard.2.1 1 = .ok (.getfield 49, 3) := by decide +kernel
theorem d_TB_hazard_4 : decode m_TB_hazard.2.1 4 = .ok (.ifCond .eq 14, 3) := by decide +kernel
theorem d_TB_hazard_7 : decode m_TB_hazard.2.1 7 = .ok (.aload_n 0, 1) := by decide +kernel
theorem d_TB_hazard_8 : decode m_TB_hazard.2.1 8 = .ok (.getfield 45, 3) := by decide +kernel
theorem d_TB_hazard_11 : decode m_TB_hazard.2.1 11 = .ok (.iload_n 1, 1) := by decide +kernel
theorem d_TB_hazard_12 : decode m_TB_hazard.2.1 12 = .ok (.invokevirtual 145, 3) := by decide +kernel
theorem d_TB_hazard_15 : decode m_TB_hazard.2.1 15 = .ok (.goto 4, 3) := by decide +kernel
theorem d_TB_hazard_18 : decode m_TB_hazard.2.1 18 = .ok (.iconst (-1), 1) := by decide +kernel
theorem d_TB_hazard_19 : decode m_TB_hazard.2.1 19 = .ok (.ireturn, 1) := by decide +kernel
theorem d_TB_again_0 : decode m_TB_again.2.1 0 = .ok (.aload_n 0, 1) := by decide +kernel
theorem d_TB_again_1 : decode m_TB_again.2.1 1 = .ok (.getfield 53, 3) := by decide +kernel
theorem d_TB_again_4 : decode m_TB_again.2.1 4 = .ok (.ireturn, 1) := by decide +kernel
theorem d_TB_traces_0 : decode m_TB_traces.2.1 0 = .ok (.aload_n 0, 1) := by decide +kernel
theorem d_TB_traces_1 : decode m_TB_traces.2.1 1 = .ok (.getfield 38, 3) := by decide +kernel
theorem d_TB_traces_4 : decode m_TB_traces.2.1 4 = .ok (.invokevirtual 148, 3) := by decide +kernel
theorem d_TB_traces_7 : decode m_TB_traces.2.1 7 = .ok (.ireturn, 1) := by decide +kernel
theorem d_TB_tear_0 : decode m_TB_tear.2.1 0 = .ok (.aload_n 0, 1) := by decide +kernel
theorem d_TB_tear_1 : decode m_TB_tear.2.1 1 = .ok (.getfield 38, 3) := by decide +kernel
theorem d_TB_tear_4 : decode m_TB_tear.2.1 4 = .ok (.iload_n 1, 1) := by decide +kernel
theorem d_TB_tear_5 : decode m_TB_tear.2.1 5 = .ok (.invokevirtual 160, 3) := by decide +kernel
theorem d_TB_tear_8 : decode m_TB_tear.2.1 8 = .ok (.ireturn, 1) := by decide +kernel
theorem d_TB_compact_0 : decode m_TB_compact.2.1 0 = .ok (.aload_n 0, 1) := by decide +kernel
theorem d_TB_compact_1 : decode m_TB_compact.2.1 1 = .ok (.getfield 38, 3) := by decide +kernel
theorem d_TB_compact_4 : decode m_TB_compact.2.1 4 = .ok (.invokevirtual 163, 3) := by decide +kernel
theorem d_TB_compact_7 : decode m_TB_compact.2.1 7 = .ok (.ireturn, 1) := by decide +kernel
theorem d_TB_size_0 : decode m_TB_size.2.1 0 = .ok (.iload_n 1, 1) := by decide +kernel
theorem d_TB_size_1 : decode m_TB_size.2.1 1 = .ok (.invokestatic 98, 3) := by decide +kernel
theorem d_TB_size_4 : decode m_TB_size.2.1 4 = .ok (.ifCond .eq 14, 3) := by decide +kernel
theorem d_TB_size_7 : decode m_TB_size.2.1 7 = .ok (.aload_n 0, 1) := by decide +kernel
theorem d_TB_size_8 : decode m_TB_size.2.1 8 = .ok (.getfield 28, 3) := by decide +kernel
theorem d_TB_size_11 : decode m_TB_size.2.1 11 = .ok (.iload_n 1, 1) := by decide +kernel
theorem d_TB_size_12 : decode m_TB_size.2.1 12 = .ok (.invokevirtual 108, 3) := by decide +kernel
theorem d_TB_size_15 : decode m_TB_size.2.1 15 = .ok (.ifCond .ne 5, 3) := by decide +kernel
theorem d_TB_size_18 : decode m_TB_size.2.1 18 = .ok (.iconst (-1), 1) := by decide +kernel
theorem d_TB_size_19 : decode m_TB_size.2.1 19 = .ok (.ireturn, 1) := by decide +kernel
theorem d_TB_size_20 : decode m_TB_size.2.1 20 = .ok (.aload_n 0, 1) := by decide +kernel
theorem d_TB_size_21 : decode m_TB_size.2.1 21 = .ok (.getfield 28, 3) := by decide +kernel
theorem d_TB_size_24 : decode m_TB_size.2.1 24 = .ok (.iload_n 1, 1) := by decide +kernel
theorem d_TB_size_25 : decode m_TB_size.2.1 25 = .ok (.invokevirtual 105, 3) := by decide +kernel
theorem d_TB_size_28 : decode m_TB_size.2.1 28 = .ok (.ireturn, 1) := by decide +kernel
theorem d_TB_command_0 : decode m_TB_command.2.1 0 = .ok (.aload_n 0, 1) := by decide +kernel
theorem d_TB_command_1 : decode m_TB_command.2.1 1 = .ok (.invokevirtual 61, 3) := by decide +kernel
theorem d_TB_command_4 : decode m_TB_command.2.1 4 = .ok (.aload_n 0, 1) := by decide +kernel
theorem d_TB_command_5 : decode m_TB_command.2.1 5 = .ok (.getfield 19, 3) := by decide +kernel
theorem d_TB_command_8 : decode m_TB_command.2.1 8 = .ok (.invokevirtual 64, 3) := by decide +kernel
theorem d_TB_command_11 : decode m_TB_command.2.1 11 = .ok (.ifCond .eq 11, 3) := by decide +kernel
theorem d_TB_command_14 : decode m_TB_command.2.1 14 = .ok (.new 68, 3) := by decide +kernel
theorem d_TB_command_17 : decode m_TB_command.2.1 17 = .ok (.dup, 1) := by decide +kernel
theorem d_TB_command_18 : decode m_TB_command.2.1 18 = .ok (.invokespecial 70, 3) := by decide +kernel
theorem d_TB_command_21 : decode m_TB_command.2.1 21 = .ok (.athrow, 1) := by decide +kernel
theorem d_TB_command_22 : decode m_TB_command.2.1 22 = .ok (.aload_n 0, 1) := by decide +kernel
theorem d_TB_command_23 : decode m_TB_command.2.1 23 = .ok (.getfield 19, 3) := by decide +kernel
theorem d_TB_command_26 : decode m_TB_command.2.1 26 = .ok (.aload_n 0, 1) := by decide +kernel
theorem d_TB_command_27 : decode m_TB_command.2.1 27 = .ok (.getfield 10, 3) := by decide +kernel
theorem d_TB_command_30 : decode m_TB_command.2.1 30 = .ok (.invokevirtual 71, 3) := by decide +kernel
theorem d_TB_command_33 : decode m_TB_command.2.1 33 = .ok (.istore_n 1, 1) := by decide +kernel
theorem d_TB_command_34 : decode m_TB_command.2.1 34 = .ok (.aload_n 0, 1) := by decide +kernel
theorem d_TB_command_35 : decode m_TB_command.2.1 35 = .ok (.invokevirtual 74, 3) := by decide +kernel
theorem d_TB_command_38 : decode m_TB_command.2.1 38 = .ok (.aload_n 0, 1) := by decide +kernel
theorem d_TB_command_39 : decode m_TB_command.2.1 39 = .ok (.getfield 10, 3) := by decide +kernel
theorem d_TB_command_42 : decode m_TB_command.2.1 42 = .ok (.invokevirtual 77, 3) := by decide +kernel
theorem d_TB_command_45 : decode m_TB_command.2.1 45 = .ok (.iload_n 1, 1) := by decide +kernel
theorem d_TB_command_46 : decode m_TB_command.2.1 46 = .ok (.ireturn, 1) := by decide +kernel
theorem d_TB_refuseNoCommand_0 : decode m_TB_refuseNoCommand.2.1 0 = .ok (.aload_n 0, 1) := by decide +kernel
theorem d_TB_refuseNoCommand_1 : decode m_TB_refuseNoCommand.2.1 1 = .ok (.getfield 10, 3) := by decide +kernel
theorem d_TB_refuseNoCommand_4 : decode m_TB_refuseNoCommand.2.1 4 = .ok (.invokevirtual 169, 3) := by decide +kernel
theorem d_TB_refuseNoCommand_7 : decode m_TB_refuseNoCommand.2.1 7 = .ok (.ifCond .ne 18, 3) := by decide +kernel
theorem d_TB_refuseNoCommand_10 : decode m_TB_refuseNoCommand.2.1 10 = .ok (.aload_n 0, 1) := by decide +kernel
theorem d_TB_refuseNoCommand_11 : decode m_TB_refuseNoCommand.2.1 11 = .ok (.getfield 10, 3) := by decide +kernel
theorem d_TB_refuseNoCommand_14 : decode m_TB_refuseNoCommand.2.1 14 = .ok (.invokevirtual 77, 3) := by decide +kernel
theorem d_TB_refuseNoCommand_17 : decode m_TB_refuseNoCommand.2.1 17 = .ok (.new 114, 3) := by decide +kernel
theorem d_TB_refuseNoCommand_20 : decode m_TB_refuseNoCommand.2.1 20 = .ok (.dup, 1) := by decide +kernel
theorem d_TB_refuseNoCommand_21 : decode m_TB_refuseNoCommand.2.1 21 = .ok (.invokespecial 116, 3) := by decide +kernel
theorem d_TB_refuseNoCommand_24 : decode m_TB_refuseNoCommand.2.1 24 = .ok (.athrow, 1) := by decide +kernel
theorem d_TB_refuseNoCommand_25 : decode m_TB_refuseNoCommand.2.1 25 = .ok (.return_, 1) := by decide +kernel
theorem d_TB_scriptChanged_0 : decode m_TB_scriptChanged.2.1 0 = .ok (.aload_n 0, 1) := by decide +kernel
theorem d_TB_scriptChanged_1 : decode m_TB_scriptChanged.2.1 1 = .ok (.iconst 0, 1) := by decide +kernel
theorem d_TB_scriptChanged_2 : decode m_TB_scriptChanged.2.1 2 = .ok (.putfield 49, 3) := by decide +kernel
theorem d_TB_scriptChanged_5 : decode m_TB_scriptChanged.2.1 5 = .ok (.return_, 1) := by decide +kernel
theorem d_TB_edit_0 : decode m_TB_edit.2.1 0 = .ok (.aload_n 0, 1) := by decide +kernel
theorem d_TB_edit_1 : decode m_TB_edit.2.1 1 = .ok (.iload_n 1, 1) := by decide +kernel
theorem d_TB_edit_2 : decode m_TB_edit.2.1 2 = .ok (.invokevirtual 80, 3) := by decide +kernel
theorem d_TB_edit_5 : decode m_TB_edit.2.1 5 = .ok (.aload_n 0, 1) := by decide +kernel
theorem d_TB_edit_6 : decode m_TB_edit.2.1 6 = .ok (.invokevirtual 61, 3) := by decide +kernel
theorem d_TB_edit_9 : decode m_TB_edit.2.1 9 = .ok (.aload_n 0, 1) := by decide +kernel
theorem d_TB_edit_10 : decode m_TB_edit.2.1 10 = .ok (.getfield 19, 3) := by decide +kernel
theorem d_TB_edit_13 : decode m_TB_edit.2.1 13 = .ok (.iload_n 1, 1) := by decide +kernel
theorem d_TB_edit_14 : decode m_TB_edit.2.1 14 = .ok (.invokevirtual 83, 3) := by decide +kernel
theorem d_TB_edit_17 : decode m_TB_edit.2.1 17 = .ok (.aload_n 0, 1) := by decide +kernel
theorem d_TB_edit_18 : decode m_TB_edit.2.1 18 = .ok (.getfield 10, 3) := by decide +kernel
theorem d_TB_edit_21 : decode m_TB_edit.2.1 21 = .ok (.invokevirtual 87, 3) := by decide +kernel
theorem d_TB_edit_24 : decode m_TB_edit.2.1 24 = .ok (.aload_n 0, 1) := by decide +kernel
theorem d_TB_edit_25 : decode m_TB_edit.2.1 25 = .ok (.invokevirtual 74, 3) := by decide +kernel
theorem d_TB_edit_28 : decode m_TB_edit.2.1 28 = .ok (.aload_n 0, 1) := by decide +kernel
theorem d_TB_edit_29 : decode m_TB_edit.2.1 29 = .ok (.getfield 10, 3) := by decide +kernel
theorem d_TB_edit_32 : decode m_TB_edit.2.1 32 = .ok (.invokevirtual 77, 3) := by decide +kernel
theorem d_TB_edit_35 : decode m_TB_edit.2.1 35 = .ok (.return_, 1) := by decide +kernel
theorem d_TB_refuseNoPlace_0 : decode m_TB_refuseNoPlace.2.1 0 = .ok (.aload_n 0, 1) := by decide +kernel
theorem d_TB_refuseNoPlace_1 : decode m_TB_refuseNoPlace.2.1 1 = .ok (.getfield 19, 3) := by decide +kernel
theorem d_TB_refuseNoPlace_4 : decode m_TB_refuseNoPlace.2.1 4 = .ok (.iload_n 1, 1) := by decide +kernel
theorem d_TB_refuseNoPlace_5 : decode m_TB_refuseNoPlace.2.1 5 = .ok (.invokevirtual 172, 3) := by decide +kernel
theorem d_TB_refuseNoPlace_8 : decode m_TB_refuseNoPlace.2.1 8 = .ok (.ifCond .ne 11, 3) := by decide +kernel
theorem d_TB_refuseNoPlace_11 : decode m_TB_refuseNoPlace.2.1 11 = .ok (.new 149, 3) := by decide +kernel
theorem d_TB_refuseNoPlace_14 : decode m_TB_refuseNoPlace.2.1 14 = .ok (.dup, 1) := by decide +kernel
theorem d_TB_refuseNoPlace_15 : decode m_TB_refuseNoPlace.2.1 15 = .ok (.invokespecial 151, 3) := by decide +kernel
theorem d_TB_refuseNoPlace_18 : decode m_TB_refuseNoPlace.2.1 18 = .ok (.athrow, 1) := by decide +kernel
theorem d_TB_refuseNoPlace_19 : decode m_TB_refuseNoPlace.2.1 19 = .ok (.return_, 1) := by decide +kernel
theorem d_TB_drop_0 : decode m_TB_drop.2.1 0 = .ok (.aload_n 0, 1) := by decide +kernel
theorem d_TB_drop_1 : decode m_TB_drop.2.1 1 = .ok (.iload_n 1, 1) := by decide +kernel
theorem d_TB_drop_2 : decode m_TB_drop.2.1 2 = .ok (.invokevirtual 80, 3) := by decide +kernel
theorem d_TB_drop_5 : decode m_TB_drop.2.1 5 = .ok (.aload_n 0, 1) := by decide +kernel
theorem d_TB_drop_6 : decode m_TB_drop.2.1 6 = .ok (.getfield 19, 3) := by decide +kernel
theorem d_TB_drop_9 : decode m_TB_drop.2.1 9 = .ok (.iload_n 1, 1) := by decide +kernel
theorem d_TB_drop_10 : decode m_TB_drop.2.1 10 = .ok (.invokevirtual 91, 3) := by decide +kernel
theorem d_TB_drop_13 : decode m_TB_drop.2.1 13 = .ok (.aload_n 0, 1) := by decide +kernel
theorem d_TB_drop_14 : decode m_TB_drop.2.1 14 = .ok (.invokevirtual 74, 3) := by decide +kernel
theorem d_TB_drop_17 : decode m_TB_drop.2.1 17 = .ok (.return_, 1) := by decide +kernel
theorem d_TB_run_0 : decode m_TB_run.2.1 0 = .ok (.iload_n 1, 1) := by decide +kernel
theorem d_TB_run_1 : decode m_TB_run.2.1 1 = .ok (.ifCond .lt 8, 3) := by decide +kernel
theorem d_TB_run_4 : decode m_TB_run.2.1 4 = .ok (.iload_n 1, 1) := by decide +kernel
theorem d_TB_run_5 : decode m_TB_run.2.1 5 = .ok (.iconst 4, 1) := by decide +kernel
theorem d_TB_run_6 : decode m_TB_run.2.1 6 = .ok (.if_icmp .le 11, 3) := by decide +kernel
theorem d_TB_run_9 : decode m_TB_run.2.1 9 = .ok (.new 114, 3) := by decide +kernel
theorem d_TB_run_12 : decode m_TB_run.2.1 12 = .ok (.dup, 1) := by decide +kernel
theorem d_TB_run_13 : decode m_TB_run.2.1 13 = .ok (.invokespecial 116, 3) := by decide +kernel
theorem d_TB_run_16 : decode m_TB_run.2.1 16 = .ok (.athrow, 1) := by decide +kernel
theorem d_TB_run_17 : decode m_TB_run.2.1 17 = .ok (.aload_n 0, 1) := by decide +kernel
theorem d_TB_run_18 : decode m_TB_run.2.1 18 = .ok (.getfield 19, 3) := by decide +kernel
theorem d_TB_run_21 : decode m_TB_run.2.1 21 = .ok (.invokevirtual 94, 3) := by decide +kernel
theorem d_TB_run_24 : decode m_TB_run.2.1 24 = .ok (.ifCond .ne 11, 3) := by decide +kernel
theorem d_TB_run_27 : decode m_TB_run.2.1 27 = .ok (.new 68, 3) := by decide +kernel
theorem d_TB_run_30 : decode m_TB_run.2.1 30 = .ok (.dup, 1) := by decide +kernel
theorem d_TB_run_31 : decode m_TB_run.2.1 31 = .ok (.invokespecial 70, 3) := by decide +kernel
theorem d_TB_run_34 : decode m_TB_run.2.1 34 = .ok (.athrow, 1) := by decide +kernel
theorem d_TB_run_35 : decode m_TB_run.2.1 35 = .ok (.aload_n 0, 1) := by decide +kernel
theorem d_TB_run_36 : decode m_TB_run.2.1 36 = .ok (.getfield 32, 3) := by decide +kernel
theorem d_TB_run_39 : decode m_TB_run.2.1 39 = .ok (.aload_n 0, 1) := by decide +kernel
theorem d_TB_run_40 : decode m_TB_run.2.1 40 = .ok (.getfield 28, 3) := by decide +kernel
theorem d_TB_run_43 : decode m_TB_run.2.1 43 = .ok (.invokevirtual 117, 3) := by decide +kernel
theorem d_TB_run_46 : decode m_TB_run.2.1 46 = .ok (.aload_n 0, 1) := by decide +kernel
theorem d_TB_run_47 : decode m_TB_run.2.1 47 = .ok (.iconst 1, 1) := by decide +kernel
theorem d_TB_run_48 : decode m_TB_run.2.1 48 = .ok (.putfield 49, 3) := by decide +kernel
theorem d_TB_run_51 : decode m_TB_run.2.1 51 = .ok (.aload_n 0, 1) := by decide +kernel
theorem d_TB_run_52 : decode m_TB_run.2.1 52 = .ok (.iload_n 1, 1) := by decide +kernel
theorem d_TB_run_53 : decode m_TB_run.2.1 53 = .ok (.invokevirtual 121, 3) := by decide +kernel
theorem d_TB_run_56 : decode m_TB_run.2.1 56 = .ok (.aload_n 0, 1) := by decide +kernel
theorem d_TB_run_57 : decode m_TB_run.2.1 57 = .ok (.getfield 45, 3) := by decide +kernel
theorem d_TB_run_60 : decode m_TB_run.2.1 60 = .ok (.invokevirtual 124, 3) := by decide +kernel
theorem d_TB_run_63 : decode m_TB_run.2.1 63 = .ok (.ifCond .eq 29, 3) := by decide +kernel
theorem d_TB_run_66 : decode m_TB_run.2.1 66 = .ok (.aload_n 0, 1) := by decide +kernel
theorem d_TB_run_67 : decode m_TB_run.2.1 67 = .ok (.getfield 28, 3) := by decide +kernel
theorem d_TB_run_70 : decode m_TB_run.2.1 70 = .ok (.aload_n 0, 1) := by decide +kernel
theorem d_TB_run_71 : decode m_TB_run.2.1 71 = .ok (.getfield 32, 3) := by decide +kernel
theorem d_TB_run_74 : decode m_TB_run.2.1 74 = .ok (.invokevirtual 117, 3) := by decide +kernel
theorem d_TB_run_77 : decode m_TB_run.2.1 77 = .ok (.aload_n 0, 1) := by decide +kernel
theorem d_TB_run_78 : decode m_TB_run.2.1 78 = .ok (.dup, 1) := by decide +kernel
theorem d_TB_run_79 : decode m_TB_run.2.1 79 = .ok (.getfield 53, 3) := by decide +kernel
theorem d_TB_run_82 : decode m_TB_run.2.1 82 = .ok (.iconst 1, 1) := by decide +kernel
theorem d_TB_run_83 : decode m_TB_run.2.1 83 = .ok (.iadd, 1) := by decide +kernel
theorem d_TB_run_84 : decode m_TB_run.2.1 84 = .ok (.putfield 53, 3) := by decide +kernel
theorem d_TB_run_87 : decode m_TB_run.2.1 87 = .ok (.aload_n 0, 1) := by decide +kernel
theorem d_TB_run_88 : decode m_TB_run.2.1 88 = .ok (.iconst 0, 1) := by decide +kernel
theorem d_TB_run_89 : decode m_TB_run.2.1 89 = .ok (.invokevirtual 121, 3) := by decide +kernel
theorem d_TB_run_92 : decode m_TB_run.2.1 92 = .ok (.aload_n 0, 1) := by decide +kernel
theorem d_TB_run_93 : decode m_TB_run.2.1 93 = .ok (.getfield 45, 3) := by decide +kernel
theorem d_TB_run_96 : decode m_TB_run.2.1 96 = .ok (.invokevirtual 127, 3) := by decide +kernel
theorem d_TB_run_99 : decode m_TB_run.2.1 99 = .ok (.ifCond .eq 7, 3) := by decide +kernel
theorem d_TB_run_102 : decode m_TB_run.2.1 102 = .ok (.iconst 1, 1) := by decide +kernel
theorem d_TB_run_103 : decode m_TB_run.2.1 103 = .ok (.goto 4, 3) := by decide +kernel
theorem d_TB_run_106 : decode m_TB_run.2.1 106 = .ok (.iconst 0, 1) := by decide +kernel
theorem d_TB_run_107 : decode m_TB_run.2.1 107 = .ok (.ireturn, 1) := by decide +kernel
theorem d_TB_goThrough_0 : decode m_TB_goThrough.2.1 0 = .ok (.aload_n 0, 1) := by decide +kernel
theorem d_TB_goThrough_1 : decode m_TB_goThrough.2.1 1 = .ok (.getfield 19, 3) := by decide +kernel
theorem d_TB_goThrough_4 : decode m_TB_goThrough.2.1 4 = .ok (.invokevirtual 94, 3) := by decide +kernel
theorem d_TB_goThrough_7 : decode m_TB_goThrough.2.1 7 = .ok (.istore_n 2, 1) := by decide +kernel
theorem d_TB_goThrough_8 : decode m_TB_goThrough.2.1 8 = .ok (.aload_n 0, 1) := by decide +kernel
theorem d_TB_goThrough_9 : decode m_TB_goThrough.2.1 9 = .ok (.getfield 45, 3) := by decide +kernel
theorem d_TB_goThrough_12 : decode m_TB_goThrough.2.1 12 = .ok (.iload_n 2, 1) := by decide +kernel
theorem d_TB_goThrough_13 : decode m_TB_goThrough.2.1 13 = .ok (.invokevirtual 175, 3) := by decide +kernel
theorem d_TB_goThrough_16 : decode m_TB_goThrough.2.1 16 = .ok (.iconst 0, 1) := by decide +kernel
theorem d_TB_goThrough_17 : decode m_TB_goThrough.2.1 17 = .ok (.istore_n 3, 1) := by decide +kernel
theorem d_TB_goThrough_18 : decode m_TB_goThrough.2.1 18 = .ok (.iload_n 3, 1) := by decide +kernel
theorem d_TB_goThrough_19 : decode m_TB_goThrough.2.1 19 = .ok (.iload_n 2, 1) := by decide +kernel
theorem d_TB_goThrough_20 : decode m_TB_goThrough.2.1 20 = .ok (.if_icmp .ge 87, 3) := by decide +kernel
theorem d_TB_goThrough_23 : decode m_TB_goThrough.2.1 23 = .ok (.aload_n 0, 1) := by decide +kernel
theorem d_TB_goThrough_24 : decode m_TB_goThrough.2.1 24 = .ok (.getfield 45, 3) := by decide +kernel
theorem d_TB_goThrough_27 : decode m_TB_goThrough.2.1 27 = .ok (.invokevirtual 127, 3) := by decide +kernel
theorem d_TB_goThrough_30 : decode m_TB_goThrough.2.1 30 = .ok (.ifCond .ne 77, 3) := by decide +kernel
theorem d_TB_goThrough_33 : decode m_TB_goThrough.2.1 33 = .ok (.aload_n 0, 1) := by decide +kernel
theorem d_TB_goThrough_34 : decode m_TB_goThrough.2.1 34 = .ok (.getfield 45, 3) := by decide +kernel
theorem d_TB_goThrough_37 : decode m_TB_goThrough.2.1 37 = .ok (.iload_n 3, 1) := by decide +kernel
theorem d_TB_goThrough_38 : decode m_TB_goThrough.2.1 38 = .ok (.invokevirtual 133, 3) := by decide +kernel
theorem d_TB_goThrough_41 : decode m_TB_goThrough.2.1 41 = .ok (.invokevirtual 178, 3) := by decide +kernel
theorem d_TB_goThrough_44 : decode m_TB_goThrough.2.1 44 = .ok (.ifCond .ne 9, 3) := by decide +kernel
theorem d_TB_goThrough_47 : decode m_TB_goThrough.2.1 47 = .ok (.aload_n 0, 1) := by decide +kernel
theorem d_TB_goThrough_48 : decode m_TB_goThrough.2.1 48 = .ok (.iload_n 3, 1) := by decide +kernel
theorem d_TB_goThrough_49 : decode m_TB_goThrough.2.1 49 = .ok (.iconst 0, 1) := by decide +kernel
theorem d_TB_goThrough_50 : decode m_TB_goThrough.2.1 50 = .ok (.invokevirtual 181, 3) := by decide +kernel
theorem d_TB_goThrough_53 : decode m_TB_goThrough.2.1 53 = .ok (.iconst 0, 1) := by decide +kernel
theorem d_TB_goThrough_54 : decode m_TB_goThrough.2.1 54 = .ok (.istore 4, 2) := by decide +kernel
theorem d_TB_goThrough_56 : decode m_TB_goThrough.2.1 56 = .ok (.iload 4, 2) := by decide +kernel
theorem d_TB_goThrough_58 : decode m_TB_goThrough.2.1 58 = .ok (.iload_n 1, 1) := by decide +kernel
theorem d_TB_goThrough_59 : decode m_TB_goThrough.2.1 59 = .ok (.if_icmp .ge 42, 3) := by decide +kernel
theorem d_TB_goThrough_62 : decode m_TB_goThrough.2.1 62 = .ok (.aload_n 0, 1) := by decide +kernel
theorem d_TB_goThrough_63 : decode m_TB_goThrough.2.1 63 = .ok (.getfield 45, 3) := by decide +kernel
theorem d_TB_goThrough_66 : decode m_TB_goThrough.2.1 66 = .ok (.invokevirtual 127, 3) := by decide +kernel
theorem d_TB_goThrough_69 : decode m_TB_goThrough.2.1 69 = .ok (.ifCond .ne 32, 3) := by decide +kernel
theorem d_TB_goThrough_72 : decode m_TB_goThrough.2.1 72 = .ok (.aload_n 0, 1) := by decide +kernel
theorem d_TB_goThrough_73 : decode m_TB_goThrough.2.1 73 = .ok (.iload_n 3, 1) := by decide +kernel
theorem d_TB_goThrough_74 : decode m_TB_goThrough.2.1 74 = .ok (.invokevirtual 185, 3) := by decide +kernel
theorem d_TB_goThrough_77 : decode m_TB_goThrough.2.1 77 = .ok (.istore 5, 2) := by decide +kernel
theorem d_TB_goThrough_79 : decode m_TB_goThrough.2.1 79 = .ok (.iload 5, 2) := by decide +kernel
theorem d_TB_goThrough_81 : decode m_TB_goThrough.2.1 81 = .ok (.iconst (-1), 1) := by decide +kernel
theorem d_TB_goThrough_82 : decode m_TB_goThrough.2.1 82 = .ok (.if_icmp .ne 6, 3) := by decide +kernel
theorem d_TB_goThrough_85 : decode m_TB_goThrough.2.1 85 = .ok (.goto 16, 3) := by decide +kernel
theorem d_TB_goThrough_88 : decode m_TB_goThrough.2.1 88 = .ok (.aload_n 0, 1) := by decide +kernel
theorem d_TB_goThrough_89 : decode m_TB_goThrough.2.1 89 = .ok (.iload 5, 2) := by decide +kernel
theorem d_TB_goThrough_91 : decode m_TB_goThrough.2.1 91 = .ok (.iconst 1, 1) := by decide +kernel
theorem d_TB_goThrough_92 : decode m_TB_goThrough.2.1 92 = .ok (.invokevirtual 181, 3) := by decide +kernel
theorem d_TB_goThrough_95 : decode m_TB_goThrough.2.1 95 = .ok (.iinc 4 1, 3) := by decide +kernel
theorem d_TB_goThrough_98 : decode m_TB_goThrough.2.1 98 = .ok (.goto (-42), 3) := by decide +kernel
theorem d_TB_goThrough_101 : decode m_TB_goThrough.2.1 101 = .ok (.iinc 3 1, 3) := by decide +kernel
theorem d_TB_goThrough_104 : decode m_TB_goThrough.2.1 104 = .ok (.goto (-86), 3) := by decide +kernel
theorem d_TB_goThrough_107 : decode m_TB_goThrough.2.1 107 = .ok (.return_, 1) := by decide +kernel
theorem d_TB_perform_0 : decode m_TB_perform.2.1 0 = .ok (.aload_n 0, 1) := by decide +kernel
theorem d_TB_perform_1 : decode m_TB_perform.2.1 1 = .ok (.getfield 19, 3) := by decide +kernel
theorem d_TB_perform_4 : decode m_TB_perform.2.1 4 = .ok (.iload_n 1, 1) := by decide +kernel
theorem d_TB_perform_5 : decode m_TB_perform.2.1 5 = .ok (.invokevirtual 83, 3) := by decide +kernel
theorem d_TB_perform_8 : decode m_TB_perform.2.1 8 = .ok (.astore_n 3, 1) := by decide +kernel
theorem d_TB_perform_9 : decode m_TB_perform.2.1 9 = .ok (.aload_n 0, 1) := by decide +kernel
theorem d_TB_perform_10 : decode m_TB_perform.2.1 10 = .ok (.getfield 28, 3) := by decide +kernel
theorem d_TB_perform_13 : decode m_TB_perform.2.1 13 = .ok (.invokevirtual 200, 3) := by decide +kernel
theorem d_TB_perform_16 : decode m_TB_perform.2.1 16 = .ok (.istore 4, 2) := by decide +kernel
theorem d_TB_perform_18 : decode m_TB_perform.2.1 18 = .ok (.iconst 1, 1) := by decide +kernel
theorem d_TB_perform_19 : decode m_TB_perform.2.1 19 = .ok (.istore 5, 2) := by decide +kernel
theorem d_TB_perform_21 : decode m_TB_perform.2.1 21 = .ok (.iconst (-1), 1) := by decide +kernel
theorem d_TB_perform_22 : decode m_TB_perform.2.1 22 = .ok (.istore 6, 2) := by decide +kernel
theorem d_TB_perform_24 : decode m_TB_perform.2.1 24 = .ok (.aload_n 0, 1) := by decide +kernel
theorem d_TB_perform_25 : decode m_TB_perform.2.1 25 = .ok (.getfield 38, 3) := by decide +kernel
theorem d_TB_perform_28 : decode m_TB_perform.2.1 28 = .ok (.aload_n 3, 1) := by decide +kernel
theorem d_TB_perform_29 : decode m_TB_perform.2.1 29 = .ok (.aload_n 0, 1) := by decide +kernel
theorem d_TB_perform_30 : decode m_TB_perform.2.1 30 = .ok (.getfield 28, 3) := by decide +kernel
theorem d_TB_perform_33 : decode m_TB_perform.2.1 33 = .ok (.invokevirtual 203, 3) := by decide +kernel
theorem d_TB_perform_36 : decode m_TB_perform.2.1 36 = .ok (.astore 7, 2) := by decide +kernel
theorem d_TB_perform_38 : decode m_TB_perform.2.1 38 = .ok (.aload 7, 2) := by decide +kernel
theorem d_TB_perform_40 : decode m_TB_perform.2.1 40 = .ok (.ifnonnull 49, 3) := by decide +kernel
theorem d_TB_perform_43 : decode m_TB_perform.2.1 43 = .ok (.aload_n 0, 1) := by decide +kernel
theorem d_TB_perform_44 : decode m_TB_perform.2.1 44 = .ok (.getfield 38, 3) := by decide +kernel
theorem d_TB_perform_47 : decode m_TB_perform.2.1 47 = .ok (.aload_n 3, 1) := by decide +kernel
theorem d_TB_perform_48 : decode m_TB_perform.2.1 48 = .ok (.aload_n 0, 1) := by decide +kernel
theorem d_TB_perform_49 : decode m_TB_perform.2.1 49 = .ok (.getfield 28, 3) := by decide +kernel
theorem d_TB_perform_52 : decode m_TB_perform.2.1 52 = .ok (.invokevirtual 207, 3) := by decide +kernel
theorem d_TB_perform_55 : decode m_TB_perform.2.1 55 = .ok (.istore 6, 2) := by decide +kernel
theorem d_TB_perform_57 : decode m_TB_perform.2.1 57 = .ok (.aload_n 0, 1) := by decide +kernel
theorem d_TB_perform_58 : decode m_TB_perform.2.1 58 = .ok (.getfield 38, 3) := by decide +kernel
theorem d_TB_perform_61 : decode m_TB_perform.2.1 61 = .ok (.invokevirtual 211, 3) := by decide +kernel
theorem d_TB_perform_64 : decode m_TB_perform.2.1 64 = .ok (.astore 7, 2) := by decide +kernel
theorem d_TB_perform_66 : decode m_TB_perform.2.1 66 = .ok (.aload 7, 2) := by decide +kernel
theorem d_TB_perform_68 : decode m_TB_perform.2.1 68 = .ok (.aload_n 3, 1) := by decide +kernel
theorem d_TB_perform_69 : decode m_TB_perform.2.1 69 = .ok (.aload_n 0, 1) := by decide +kernel
theorem d_TB_perform_70 : decode m_TB_perform.2.1 70 = .ok (.getfield 28, 3) := by decide +kernel
theorem d_TB_perform_73 : decode m_TB_perform.2.1 73 = .ok (.invokestatic 214, 3) := by decide +kernel
theorem d_TB_perform_76 : decode m_TB_perform.2.1 76 = .ok (.aload 7, 2) := by decide +kernel
theorem d_TB_perform_78 : decode m_TB_perform.2.1 78 = .ok (.aload_n 0, 1) := by decide +kernel
theorem d_TB_perform_79 : decode m_TB_perform.2.1 79 = .ok (.getfield 28, 3) := by decide +kernel
theorem d_TB_perform_82 : decode m_TB_perform.2.1 82 = .ok (.invokevirtual 220, 3) := by decide +kernel
theorem d_TB_perform_85 : decode m_TB_perform.2.1 85 = .ok (.pop, 1) := by decide +kernel
theorem d_TB_perform_86 : decode m_TB_perform.2.1 86 = .ok (.goto 22, 3) := by decide +kernel
theorem d_TB_perform_89 : decode m_TB_perform.2.1 89 = .ok (.aload 7, 2) := by decide +kernel
theorem d_TB_perform_91 : decode m_TB_perform.2.1 91 = .ok (.aload_n 0, 1) := by decide +kernel
theorem d_TB_perform_92 : decode m_TB_perform.2.1 92 = .ok (.getfield 28, 3) := by decide +kernel
theorem d_TB_perform_95 : decode m_TB_perform.2.1 95 = .ok (.invokevirtual 220, 3) := by decide +kernel
theorem d_TB_perform_98 : decode m_TB_perform.2.1 98 = .ok (.ifCond .eq 7, 3) := by decide +kernel
theorem d_TB_perform_101 : decode m_TB_perform.2.1 101 = .ok (.iconst 3, 1) := by decide +kernel
theorem d_TB_perform_102 : decode m_TB_perform.2.1 102 = .ok (.goto 4, 3) := by decide +kernel
theorem d_TB_perform_105 : decode m_TB_perform.2.1 105 = .ok (.iconst 2, 1) := by decide +kernel
theorem d_TB_perform_106 : decode m_TB_perform.2.1 106 = .ok (.istore 5, 2) := by decide +kernel
theorem d_TB_perform_108 : decode m_TB_perform.2.1 108 = .ok (.aload_n 0, 1) := by decide +kernel
theorem d_TB_perform_109 : decode m_TB_perform.2.1 109 = .ok (.getfield 45, 3) := by decide +kernel
theorem d_TB_perform_112 : decode m_TB_perform.2.1 112 = .ok (.iload_n 1, 1) := by decide +kernel
theorem d_TB_perform_113 : decode m_TB_perform.2.1 113 = .ok (.invokevirtual 133, 3) := by decide +kernel
theorem d_TB_perform_116 : decode m_TB_perform.2.1 116 = .ok (.astore 8, 2) := by decide +kernel
theorem d_TB_perform_118 : decode m_TB_perform.2.1 118 = .ok (.aload 8, 2) := by decide +kernel
theorem d_TB_perform_120 : decode m_TB_perform.2.1 120 = .ok (.iload 5, 2) := by decide +kernel
theorem d_TB_perform_122 : decode m_TB_perform.2.1 122 = .ok (.iload_n 2, 1) := by decide +kernel
theorem d_TB_perform_123 : decode m_TB_perform.2.1 123 = .ok (.iload 6, 2) := by decide +kernel
theorem d_TB_perform_125 : decode m_TB_perform.2.1 125 = .ok (.invokevirtual 224, 3) := by decide +kernel
theorem d_TB_perform_128 : decode m_TB_perform.2.1 128 = .ok (.aload 8, 2) := by decide +kernel
theorem d_TB_perform_130 : decode m_TB_perform.2.1 130 = .ok (.aload 7, 2) := by decide +kernel
theorem d_TB_perform_132 : decode m_TB_perform.2.1 132 = .ok (.iload 4, 2) := by decide +kernel
theorem d_TB_perform_134 : decode m_TB_perform.2.1 134 = .ok (.aload_n 0, 1) := by decide +kernel
theorem d_TB_perform_135 : decode m_TB_perform.2.1 135 = .ok (.getfield 28, 3) := by decide +kernel
theorem d_TB_perform_138 : decode m_TB_perform.2.1 138 = .ok (.invokevirtual 200, 3) := by decide +kernel
theorem d_TB_perform_141 : decode m_TB_perform.2.1 141 = .ok (.ixor, 1) := by decide +kernel
theorem d_TB_perform_142 : decode m_TB_perform.2.1 142 = .ok (.invokevirtual 228, 3) := by decide +kernel
theorem d_TB_perform_145 : decode m_TB_perform.2.1 145 = .ok (.aload_n 0, 1) := by decide +kernel
theorem d_TB_perform_146 : decode m_TB_perform.2.1 146 = .ok (.getfield 45, 3) := by decide +kernel
theorem d_TB_perform_149 : decode m_TB_perform.2.1 149 = .ok (.iload_n 1, 1) := by decide +kernel
theorem d_TB_perform_150 : decode m_TB_perform.2.1 150 = .ok (.invokevirtual 232, 3) := by decide +kernel
theorem d_TB_perform_153 : decode m_TB_perform.2.1 153 = .ok (.return_, 1) := by decide +kernel
theorem d_TB_firstOf_0 : decode m_TB_firstOf.2.1 0 = .ok (.iconst 0, 1) := by decide +kernel
theorem d_TB_firstOf_1 : decode m_TB_firstOf.2.1 1 = .ok (.istore_n 1, 1) := by decide +kernel
theorem d_TB_firstOf_2 : decode m_TB_firstOf.2.1 2 = .ok (.iload_n 1, 1) := by decide +kernel
theorem d_TB_firstOf_3 : decode m_TB_firstOf.2.1 3 = .ok (.bipush 12, 2) := by decide +kernel
theorem d_TB_firstOf_5 : decode m_TB_firstOf.2.1 5 = .ok (.if_icmp .ge 19, 3) := by decide +kernel
theorem d_TB_firstOf_8 : decode m_TB_firstOf.2.1 8 = .ok (.iload_n 0, 1) := by decide +kernel
theorem d_TB_firstOf_9 : decode m_TB_firstOf.2.1 9 = .ok (.iconst 1, 1) := by decide +kernel
theorem d_TB_firstOf_10 : decode m_TB_firstOf.2.1 10 = .ok (.iload_n 1, 1) := by decide +kernel
theorem d_TB_firstOf_11 : decode m_TB_firstOf.2.1 11 = .ok (.ishl, 1) := by decide +kernel
theorem d_TB_firstOf_12 : decode m_TB_firstOf.2.1 12 = .ok (.iand, 1) := by decide +kernel
theorem d_TB_firstOf_13 : decode m_TB_firstOf.2.1 13 = .ok (.ifCond .eq 5, 3) := by decide +kernel
theorem d_TB_firstOf_16 : decode m_TB_firstOf.2.1 16 = .ok (.iload_n 1, 1) := by decide +kernel
theorem d_TB_firstOf_17 : decode m_TB_firstOf.2.1 17 = .ok (.ireturn, 1) := by decide +kernel
theorem d_TB_firstOf_18 : decode m_TB_firstOf.2.1 18 = .ok (.iinc 1 1, 3) := by decide +kernel
theorem d_TB_firstOf_21 : decode m_TB_firstOf.2.1 21 = .ok (.goto (-19), 3) := by decide +kernel
theorem d_TB_firstOf_24 : decode m_TB_firstOf.2.1 24 = .ok (.iconst (-1), 1) := by decide +kernel
theorem d_TB_firstOf_25 : decode m_TB_firstOf.2.1 25 = .ok (.ireturn, 1) := by decide +kernel
theorem d_TB_firstToGoAhead_0 : decode m_TB_firstToGoAhead.2.1 0 = .ok (.iload_n 1, 1) := by decide +kernel
theorem d_TB_firstToGoAhead_1 : decode m_TB_firstToGoAhead.2.1 1 = .ok (.iconst 2, 1) := by decide +kernel
theorem d_TB_firstToGoAhead_2 : decode m_TB_firstToGoAhead.2.1 2 = .ok (.iadd, 1) := by decide +kernel
theorem d_TB_firstToGoAhead_3 : decode m_TB_firstToGoAhead.2.1 3 = .ok (.istore_n 2, 1) := by decide +kernel
theorem d_TB_firstToGoAhead_4 : decode m_TB_firstToGoAhead.2.1 4 = .ok (.iload_n 2, 1) := by decide +kernel
theorem d_TB_firstToGoAhead_5 : decode m_TB_firstToGoAhead.2.1 5 = .ok (.aload_n 0, 1) := by decide +kernel
theorem d_TB_firstToGoAhead_6 : decode m_TB_firstToGoAhead.2.1 6 = .ok (.getfield 19, 3) := by decide +kernel
theorem d_TB_firstToGoAhead_9 : decode m_TB_firstToGoAhead.2.1 9 = .ok (.invokevirtual 94, 3) := by decide +kernel
theorem d_TB_firstToGoAhead_12 : decode m_TB_firstToGoAhead.2.1 12 = .ok (.if_icmp .ge 34, 3) := by decide +kernel
theorem d_TB_firstToGoAhead_15 : decode m_TB_firstToGoAhead.2.1 15 = .ok (.aload_n 0, 1) := by decide +kernel
theorem d_TB_firstToGoAhead_16 : decode m_TB_firstToGoAhead.2.1 16 = .ok (.getfield 45, 3) := by decide +kernel
theorem d_TB_firstToGoAhead_19 : decode m_TB_firstToGoAhead.2.1 19 = .ok (.iload_n 2, 1) := by decide +kernel
theorem d_TB_firstToGoAhead_20 : decode m_TB_firstToGoAhead.2.1 20 = .ok (.invokevirtual 133, 3) := by decide +kernel
theorem d_TB_firstToGoAhead_23 : decode m_TB_firstToGoAhead.2.1 23 = .ok (.invokevirtual 178, 3) := by decide +kernel
theorem d_TB_firstToGoAhead_26 : decode m_TB_firstToGoAhead.2.1 26 = .ok (.ifCond .ne 14, 3) := by decide +kernel
theorem d_TB_firstToGoAhead_29 : decode m_TB_firstToGoAhead.2.1 29 = .ok (.aload_n 0, 1) := by decide +kernel
theorem d_TB_firstToGoAhead_30 : decode m_TB_firstToGoAhead.2.1 30 = .ok (.iload_n 1, 1) := by decide +kernel
theorem d_TB_firstToGoAhead_31 : decode m_TB_firstToGoAhead.2.1 31 = .ok (.iload_n 2, 1) := by decide +kernel
theorem d_TB_firstToGoAhead_32 : decode m_TB_firstToGoAhead.2.1 32 = .ok (.invokevirtual 188, 3) := by decide +kernel
theorem d_TB_firstToGoAhead_35 : decode m_TB_firstToGoAhead.2.1 35 = .ok (.ifCond .eq 5, 3) := by decide +kernel
theorem d_TB_firstToGoAhead_38 : decode m_TB_firstToGoAhead.2.1 38 = .ok (.iload_n 2, 1) := by decide +kernel
theorem d_TB_firstToGoAhead_39 : decode m_TB_firstToGoAhead.2.1 39 = .ok (.ireturn, 1) := by decide +kernel
theorem d_TB_firstToGoAhead_40 : decode m_TB_firstToGoAhead.2.1 40 = .ok (.iinc 2 1, 3) := by decide +kernel
theorem d_TB_firstToGoAhead_43 : decode m_TB_firstToGoAhead.2.1 43 = .ok (.goto (-39), 3) := by decide +kernel
theorem d_TB_firstToGoAhead_46 : decode m_TB_firstToGoAhead.2.1 46 = .ok (.iconst (-1), 1) := by decide +kernel
theorem d_TB_firstToGoAhead_47 : decode m_TB_firstToGoAhead.2.1 47 = .ok (.ireturn, 1) := by decide +kernel
theorem d_TB_seemsSafeAhead_0 : decode m_TB_seemsSafeAhead.2.1 0 = .ok (.aload_n 0, 1) := by decide +kernel
theorem d_TB_seemsSafeAhead_1 : decode m_TB_seemsSafeAhead.2.1 1 = .ok (.getfield 38, 3) := by decide +kernel
theorem d_TB_seemsSafeAhead_4 : decode m_TB_seemsSafeAhead.2.1 4 = .ok (.aload_n 0, 1) := by decide +kernel
theorem d_TB_seemsSafeAhead_5 : decode m_TB_seemsSafeAhead.2.1 5 = .ok (.getfield 19, 3) := by decide +kernel
theorem d_TB_seemsSafeAhead_8 : decode m_TB_seemsSafeAhead.2.1 8 = .ok (.iload_n 2, 1) := by decide +kernel
theorem d_TB_seemsSafeAhead_9 : decode m_TB_seemsSafeAhead.2.1 9 = .ok (.invokevirtual 83, 3) := by decide +kernel
theorem d_TB_seemsSafeAhead_12 : decode m_TB_seemsSafeAhead.2.1 12 = .ok (.invokevirtual 192, 3) := by decide +kernel
theorem d_TB_seemsSafeAhead_15 : decode m_TB_seemsSafeAhead.2.1 15 = .ok (.astore_n 3, 1) := by decide +kernel
theorem d_TB_seemsSafeAhead_16 : decode m_TB_seemsSafeAhead.2.1 16 = .ok (.aload_n 3, 1) := by decide +kernel
theorem d_TB_seemsSafeAhead_17 : decode m_TB_seemsSafeAhead.2.1 17 = .ok (.ifnonnull 5, 3) := by decide +kernel
theorem d_TB_seemsSafeAhead_20 : decode m_TB_seemsSafeAhead.2.1 20 = .ok (.iconst 0, 1) := by decide +kernel
theorem d_TB_seemsSafeAhead_21 : decode m_TB_seemsSafeAhead.2.1 21 = .ok (.ireturn, 1) := by decide +kernel
theorem d_TB_seemsSafeAhead_22 : decode m_TB_seemsSafeAhead.2.1 22 = .ok (.iload_n 1, 1) := by decide +kernel
theorem d_TB_seemsSafeAhead_23 : decode m_TB_seemsSafeAhead.2.1 23 = .ok (.iconst 1, 1) := by decide +kernel
theorem d_TB_seemsSafeAhead_24 : decode m_TB_seemsSafeAhead.2.1 24 = .ok (.iadd, 1) := by decide +kernel
theorem d_TB_seemsSafeAhead_25 : decode m_TB_seemsSafeAhead.2.1 25 = .ok (.istore 4, 2) := by decide +kernel
theorem d_TB_seemsSafeAhead_27 : decode m_TB_seemsSafeAhead.2.1 27 = .ok (.iload 4, 2) := by decide +kernel
theorem d_TB_seemsSafeAhead_29 : decode m_TB_seemsSafeAhead.2.1 29 = .ok (.iload_n 2, 1) := by decide +kernel
theorem d_TB_seemsSafeAhead_30 : decode m_TB_seemsSafeAhead.2.1 30 = .ok (.if_icmp .ge 58, 3) := by decide +kernel
theorem d_TB_seemsSafeAhead_33 : decode m_TB_seemsSafeAhead.2.1 33 = .ok (.aload_n 0, 1) := by decide +kernel
theorem d_TB_seemsSafeAhead_34 : decode m_TB_seemsSafeAhead.2.1 34 = .ok (.getfield 45, 3) := by decide +kernel
theorem d_TB_seemsSafeAhead_37 : decode m_TB_seemsSafeAhead.2.1 37 = .ok (.iload 4, 2) := by decide +kernel
theorem d_TB_seemsSafeAhead_39 : decode m_TB_seemsSafeAhead.2.1 39 = .ok (.invokevirtual 133, 3) := by decide +kernel
theorem d_TB_seemsSafeAhead_42 : decode m_TB_seemsSafeAhead.2.1 42 = .ok (.invokevirtual 178, 3) := by decide +kernel
theorem d_TB_seemsSafeAhead_45 : decode m_TB_seemsSafeAhead.2.1 45 = .ok (.ifCond .ne 37, 3) := by decide +kernel
theorem d_TB_seemsSafeAhead_48 : decode m_TB_seemsSafeAhead.2.1 48 = .ok (.aload_n 0, 1) := by decide +kernel
theorem d_TB_seemsSafeAhead_49 : decode m_TB_seemsSafeAhead.2.1 49 = .ok (.getfield 38, 3) := by decide +kernel
theorem d_TB_seemsSafeAhead_52 : decode m_TB_seemsSafeAhead.2.1 52 = .ok (.aload_n 0, 1) := by decide +kernel
theorem d_TB_seemsSafeAhead_53 : decode m_TB_seemsSafeAhead.2.1 53 = .ok (.getfield 19, 3) := by decide +kernel
theorem d_TB_seemsSafeAhead_56 : decode m_TB_seemsSafeAhead.2.1 56 = .ok (.iload 4, 2) := by decide +kernel
theorem d_TB_seemsSafeAhead_58 : decode m_TB_seemsSafeAhead.2.1 58 = .ok (.invokevirtual 83, 3) := by decide +kernel
theorem d_TB_seemsSafeAhead_61 : decode m_TB_seemsSafeAhead.2.1 61 = .ok (.invokevirtual 192, 3) := by decide +kernel
theorem d_TB_seemsSafeAhead_64 : decode m_TB_seemsSafeAhead.2.1 64 = .ok (.astore 5, 2) := by decide +kernel
theorem d_TB_seemsSafeAhead_66 : decode m_TB_seemsSafeAhead.2.1 66 = .ok (.aload 5, 2) := by decide +kernel
theorem d_TB_seemsSafeAhead_68 : decode m_TB_seemsSafeAhead.2.1 68 = .ok (.ifnull 12, 3) := by decide +kernel
theorem d_TB_seemsSafeAhead_71 : decode m_TB_seemsSafeAhead.2.1 71 = .ok (.aload 5, 2) := by decide +kernel
theorem d_TB_seemsSafeAhead_73 : decode m_TB_seemsSafeAhead.2.1 73 = .ok (.aload_n 3, 1) := by decide +kernel
theorem d_TB_seemsSafeAhead_74 : decode m_TB_seemsSafeAhead.2.1 74 = .ok (.invokevirtual 196, 3) := by decide +kernel
theorem d_TB_seemsSafeAhead_77 : decode m_TB_seemsSafeAhead.2.1 77 = .ok (.ifCond .eq 5, 3) := by decide +kernel
theorem d_TB_seemsSafeAhead_80 : decode m_TB_seemsSafeAhead.2.1 80 = .ok (.iconst 0, 1) := by decide +kernel
theorem d_TB_seemsSafeAhead_81 : decode m_TB_seemsSafeAhead.2.1 81 = .ok (.ireturn, 1) := by decide +kernel
theorem d_TB_seemsSafeAhead_82 : decode m_TB_seemsSafeAhead.2.1 82 = .ok (.iinc 4 1, 3) := by decide +kernel
theorem d_TB_seemsSafeAhead_85 : decode m_TB_seemsSafeAhead.2.1 85 = .ok (.goto (-58), 3) := by decide +kernel
theorem d_TB_seemsSafeAhead_88 : decode m_TB_seemsSafeAhead.2.1 88 = .ok (.iconst 1, 1) := by decide +kernel
theorem d_TB_seemsSafeAhead_89 : decode m_TB_seemsSafeAhead.2.1 89 = .ok (.ireturn, 1) := by decide +kernel
theorem d_TB_trace_0 : decode m_TB_trace.2.1 0 = .ok (.iload_n 1, 1) := by decide +kernel
theorem d_TB_trace_1 : decode m_TB_trace.2.1 1 = .ok (.ifCond .lt 14, 3) := by decide +kernel
theorem d_TB_trace_4 : decode m_TB_trace.2.1 4 = .ok (.iload_n 1, 1) := by decide +kernel
theorem d_TB_trace_5 : decode m_TB_trace.2.1 5 = .ok (.aload_n 0, 1) := by decide +kernel
theorem d_TB_trace_6 : decode m_TB_trace.2.1 6 = .ok (.getfield 38, 3) := by decide +kernel
theorem d_TB_trace_9 : decode m_TB_trace.2.1 9 = .ok (.invokevirtual 148, 3) := by decide +kernel
theorem d_TB_trace_12 : decode m_TB_trace.2.1 12 = .ok (.if_icmp .lt 11, 3) := by decide +kernel
theorem d_TB_trace_15 : decode m_TB_trace.2.1 15 = .ok (.new 149, 3) := by decide +kernel
theorem d_TB_trace_18 : decode m_TB_trace.2.1 18 = .ok (.dup, 1) := by decide +kernel
theorem d_TB_trace_19 : decode m_TB_trace.2.1 19 = .ok (.invokespecial 151, 3) := by decide +kernel
theorem d_TB_trace_22 : decode m_TB_trace.2.1 22 = .ok (.athrow, 1) := by decide +kernel
theorem d_TB_trace_23 : decode m_TB_trace.2.1 23 = .ok (.aload_n 0, 1) := by decide +kernel
theorem d_TB_trace_24 : decode m_TB_trace.2.1 24 = .ok (.getfield 38, 3) := by decide +kernel
theorem d_TB_trace_27 : decode m_TB_trace.2.1 27 = .ok (.iload_n 1, 1) := by decide +kernel
theorem d_TB_trace_28 : decode m_TB_trace.2.1 28 = .ok (.invokevirtual 152, 3) := by decide +kernel
theorem d_TB_trace_31 : decode m_TB_trace.2.1 31 = .ok (.iload_n 2, 1) := by decide +kernel
theorem d_TB_trace_32 : decode m_TB_trace.2.1 32 = .ok (.invokevirtual 155, 3) := by decide +kernel
theorem d_TB_trace_35 : decode m_TB_trace.2.1 35 = .ok (.ireturn, 1) := by decide +kernel
theorem d_TB_number_0 : decode m_TB_number.2.1 0 = .ok (.iload_n 1, 1) := by decide +kernel
theorem d_TB_number_1 : decode m_TB_number.2.1 1 = .ok (.invokestatic 98, 3) := by decide +kernel
theorem d_TB_number_4 : decode m_TB_number.2.1 4 = .ok (.ifCond .eq 19, 3) := by decide +kernel
theorem d_TB_number_7 : decode m_TB_number.2.1 7 = .ok (.iload_n 2, 1) := by decide +kernel
theorem d_TB_number_8 : decode m_TB_number.2.1 8 = .ok (.ifCond .lt 15, 3) := by decide +kernel
theorem d_TB_number_11 : decode m_TB_number.2.1 11 = .ok (.iload_n 2, 1) := by decide +kernel
theorem d_TB_number_12 : decode m_TB_number.2.1 12 = .ok (.aload_n 0, 1) := by decide +kernel
theorem d_TB_number_13 : decode m_TB_number.2.1 13 = .ok (.getfield 28, 3) := by decide +kernel
theorem d_TB_number_16 : decode m_TB_number.2.1 16 = .ok (.iload_n 1, 1) := by decide +kernel
theorem d_TB_number_17 : decode m_TB_number.2.1 17 = .ok (.invokevirtual 105, 3) := by decide +kernel
theorem d_TB_number_20 : decode m_TB_number.2.1 20 = .ok (.if_icmp .lt 11, 3) := by decide +kernel
theorem d_TB_number_23 : decode m_TB_number.2.1 23 = .ok (.new 149, 3) := by decide +kernel
theorem d_TB_number_26 : decode m_TB_number.2.1 26 = .ok (.dup, 1) := by decide +kernel
theorem d_TB_number_27 : decode m_TB_number.2.1 27 = .ok (.invokespecial 151, 3) := by decide +kernel
theorem d_TB_number_30 : decode m_TB_number.2.1 30 = .ok (.athrow, 1) := by decide +kernel
theorem d_TB_number_31 : decode m_TB_number.2.1 31 = .ok (.aload_n 0, 1) := by decide +kernel
theorem d_TB_number_32 : decode m_TB_number.2.1 32 = .ok (.getfield 28, 3) := by decide +kernel
theorem d_TB_number_35 : decode m_TB_number.2.1 35 = .ok (.iload_n 1, 1) := by decide +kernel
theorem d_TB_number_36 : decode m_TB_number.2.1 36 = .ok (.iload_n 2, 1) := by decide +kernel
theorem d_TB_number_37 : decode m_TB_number.2.1 37 = .ok (.invokevirtual 166, 3) := by decide +kernel
theorem d_TB_number_40 : decode m_TB_number.2.1 40 = .ok (.ireturn, 1) := by decide +kernel
theorem d_Cr_work_0 : decode m_Cr_work.2.1 0 = .ok (.aload_n 0, 1) := by decide +kernel
theorem d_Cr_work_1 : decode m_Cr_work.2.1 1 = .ok (.aload_n 1, 1) := by decide +kernel
theorem d_Cr_work_2 : decode m_Cr_work.2.1 2 = .ok (.aload_n 2, 1) := by decide +kernel
theorem d_Cr_work_3 : decode m_Cr_work.2.1 3 = .ok (.invokevirtual 9, 3) := by decide +kernel
theorem d_Cr_work_6 : decode m_Cr_work.2.1 6 = .ok (.iconst 0, 1) := by decide +kernel
theorem d_Cr_work_7 : decode m_Cr_work.2.1 7 = .ok (.istore_n 3, 1) := by decide +kernel
theorem d_Cr_work_8 : decode m_Cr_work.2.1 8 = .ok (.iload_n 3, 1) := by decide +kernel
theorem d_Cr_work_9 : decode m_Cr_work.2.1 9 = .ok (.aload_n 1, 1) := by decide +kernel
theorem d_Cr_work_10 : decode m_Cr_work.2.1 10 = .ok (.invokevirtual 15, 3) := by decide +kernel
theorem d_Cr_work_13 : decode m_Cr_work.2.1 13 = .ok (.if_icmp .ge 54, 3) := by decide +kernel
theorem d_Cr_work_16 : decode m_Cr_work.2.1 16 = .ok (.aload_n 1, 1) := by decide +kernel
theorem d_Cr_work_17 : decode m_Cr_work.2.1 17 = .ok (.iload_n 3, 1) := by decide +kernel
theorem d_Cr_work_18 : decode m_Cr_work.2.1 18 = .ok (.invokevirtual 21, 3) := by decide +kernel
theorem d_Cr_work_21 : decode m_Cr_work.2.1 21 = .ok (.bipush 63, 2) := by decide +kernel
theorem d_Cr_work_23 : decode m_Cr_work.2.1 23 = .ok (.if_icmp .ne 44, 3) := by decide +kernel
theorem d_Cr_work_26 : decode m_Cr_work.2.1 26 = .ok (.aload_n 0, 1) := by decide +kernel
theorem d_Cr_work_27 : decode m_Cr_work.2.1 27 = .ok (.iload_n 3, 1) := by decide +kernel
theorem d_Cr_work_28 : decode m_Cr_work.2.1 28 = .ok (.iconst 1, 1) := by decide +kernel
theorem d_Cr_work_29 : decode m_Cr_work.2.1 29 = .ok (.iadd, 1) := by decide +kernel
theorem d_Cr_work_30 : decode m_Cr_work.2.1 30 = .ok (.invokestatic 25, 3) := by decide +kernel
theorem d_Cr_work_33 : decode m_Cr_work.2.1 33 = .ok (.istore 4, 2) := by decide +kernel
theorem d_Cr_work_35 : decode m_Cr_work.2.1 35 = .ok (.aload_n 0, 1) := by decide +kernel
theorem d_Cr_work_36 : decode m_Cr_work.2.1 36 = .ok (.getfield 31, 3) := by decide +kernel
theorem d_Cr_work_39 : decode m_Cr_work.2.1 39 = .ok (.iload 4, 2) := by decide +kernel
theorem d_Cr_work_41 : decode m_Cr_work.2.1 41 = .ok (.invokevirtual 35, 3) := by decide +kernel
theorem d_Cr_work_44 : decode m_Cr_work.2.1 44 = .ok (.ifCond .eq 16, 3) := by decide +kernel
theorem d_Cr_work_47 : decode m_Cr_work.2.1 47 = .ok (.aload_n 0, 1) := by decide +kernel
theorem d_Cr_work_48 : decode m_Cr_work.2.1 48 = .ok (.getfield 31, 3) := by decide +kernel
theorem d_Cr_work_51 : decode m_Cr_work.2.1 51 = .ok (.iload 4, 2) := by decide +kernel
theorem d_Cr_work_53 : decode m_Cr_work.2.1 53 = .ok (.iconst 0, 1) := by decide +kernel
theorem d_Cr_work_54 : decode m_Cr_work.2.1 54 = .ok (.invokevirtual 40, 3) := by decide +kernel
theorem d_Cr_work_57 : decode m_Cr_work.2.1 57 = .ok (.ifCond .ne 4, 3) := by decide +kernel
theorem d_Cr_work_60 : decode m_Cr_work.2.1 60 = .ok (.return_, 1) := by decide +kernel
theorem d_Cr_work_61 : decode m_Cr_work.2.1 61 = .ok (.iinc 3 2, 3) := by decide +kernel
theorem d_Cr_work_64 : decode m_Cr_work.2.1 64 = .ok (.goto (-56), 3) := by decide +kernel
theorem d_Cr_work_67 : decode m_Cr_work.2.1 67 = .ok (.aload_n 0, 1) := by decide +kernel
theorem d_Cr_work_68 : decode m_Cr_work.2.1 68 = .ok (.iload_n 3, 1) := by decide +kernel
theorem d_Cr_work_69 : decode m_Cr_work.2.1 69 = .ok (.invokestatic 43, 3) := by decide +kernel
theorem d_Cr_work_72 : decode m_Cr_work.2.1 72 = .ok (.return_, 1) := by decide +kernel
theorem d_Cr_read_0 : decode m_Cr_read.2.1 0 = .ok (.aload_n 0, 1) := by decide +kernel
theorem d_Cr_read_1 : decode m_Cr_read.2.1 1 = .ok (.getfield 47, 3) := by decide +kernel
theorem d_Cr_read_4 : decode m_Cr_read.2.1 4 = .ok (.iload_n 1, 1) := by decide +kernel
theorem d_Cr_read_5 : decode m_Cr_read.2.1 5 = .ok (.invokevirtual 51, 3) := by decide +kernel
theorem d_Cr_read_8 : decode m_Cr_read.2.1 8 = .ok (.istore_n 2, 1) := by decide +kernel
theorem d_Cr_read_9 : decode m_Cr_read.2.1 9 = .ok (.aload_n 0, 1) := by decide +kernel
theorem d_Cr_read_10 : decode m_Cr_read.2.1 10 = .ok (.dup, 1) := by decide +kernel
theorem d_Cr_read_11 : decode m_Cr_read.2.1 11 = .ok (.getfield 91, 3) := by decide +kernel
theorem d_Cr_read_14 : decode m_Cr_read.2.1 14 = .ok (.iconst 1, 1) := by decide +kernel
theorem d_Cr_read_15 : decode m_Cr_read.2.1 15 = .ok (.iload_n 2, 1) := by decide +kernel
theorem d_Cr_read_16 : decode m_Cr_read.2.1 16 = .ok (.ishl, 1) := by decide +kernel
theorem d_Cr_read_17 : decode m_Cr_read.2.1 17 = .ok (.ior, 1) := by decide +kernel
theorem d_Cr_read_18 : decode m_Cr_read.2.1 18 = .ok (.putfield 91, 3) := by decide +kernel
theorem d_Cr_read_21 : decode m_Cr_read.2.1 21 = .ok (.iload_n 2, 1) := by decide +kernel
theorem d_Cr_read_22 : decode m_Cr_read.2.1 22 = .ok (.ireturn, 1) := by decide +kernel
theorem d_Cr_workPlain_0 : decode m_Cr_workPlain.2.1 0 = .ok (.aload_n 0, 1) := by decide +kernel
theorem d_Cr_workPlain_1 : decode m_Cr_workPlain.2.1 1 = .ok (.aload_n 0, 1) := by decide +kernel
theorem d_Cr_workPlain_2 : decode m_Cr_workPlain.2.1 2 = .ok (.getfield 47, 3) := by decide +kernel
theorem d_Cr_workPlain_5 : decode m_Cr_workPlain.2.1 5 = .ok (.aload_n 0, 1) := by decide +kernel
theorem d_Cr_workPlain_6 : decode m_Cr_workPlain.2.1 6 = .ok (.getfield 47, 3) := by decide +kernel
theorem d_Cr_workPlain_9 : decode m_Cr_workPlain.2.1 9 = .ok (.invokevirtual 15, 3) := by decide +kernel
theorem d_Cr_workPlain_12 : decode m_Cr_workPlain.2.1 12 = .ok (.iconst 1, 1) := by decide +kernel
theorem d_Cr_workPlain_13 : decode m_Cr_workPlain.2.1 13 = .ok (.isub, 1) := by decide +kernel
theorem d_Cr_workPlain_14 : decode m_Cr_workPlain.2.1 14 = .ok (.invokevirtual 51, 3) := by decide +kernel
theorem d_Cr_workPlain_17 : decode m_Cr_workPlain.2.1 17 = .ok (.putfield 54, 3) := by decide +kernel
theorem d_Cr_workPlain_20 : decode m_Cr_workPlain.2.1 20 = .ok (.aload_n 0, 1) := by decide +kernel
theorem d_Cr_workPlain_21 : decode m_Cr_workPlain.2.1 21 = .ok (.getfield 31, 3) := by decide +kernel
theorem d_Cr_workPlain_24 : decode m_Cr_workPlain.2.1 24 = .ok (.bipush 12, 2) := by decide +kernel
theorem d_Cr_workPlain_26 : decode m_Cr_workPlain.2.1 26 = .ok (.invokevirtual 58, 3) := by decide +kernel
theorem d_Cr_workPlain_29 : decode m_Cr_workPlain.2.1 29 = .ok (.aload_n 0, 1) := by decide +kernel
theorem d_Cr_workPlain_30 : decode m_Cr_workPlain.2.1 30 = .ok (.getfield 47, 3) := by decide +kernel
theorem d_Cr_workPlain_33 : decode m_Cr_workPlain.2.1 33 = .ok (.iload_n 1, 1) := by decide +kernel
theorem d_Cr_workPlain_34 : decode m_Cr_workPlain.2.1 34 = .ok (.invokevirtual 21, 3) := by decide +kernel
theorem d_Cr_workPlain_37 : decode m_Cr_workPlain.2.1 37 = .ok (.istore_n 2, 1) := by decide +kernel
theorem d_Cr_workPlain_38 : decode m_Cr_workPlain.2.1 38 = .ok (.iload_n 2, 1) := by decide +kernel
theorem d_Cr_workPlain_39 : decode m_Cr_workPlain.2.1 39 = .ok (.lookupswitch 214 #[(43, 112), (99, 73), (102, 156), (106, 87), (108, 207), (110, 180), (112, 190), (115, 133)], 73) := by decide +kernel
theorem d_Cr_workPlain_112 : decode m_Cr_workPlain.2.1 112 = .ok (.aload_n 0, 1) := by decide +kernel
theorem d_Cr_workPlain_113 : decode m_Cr_workPlain.2.1 113 = .ok (.aload_n 0, 1) := by decide +kernel
theorem d_Cr_workPlain_114 : decode m_Cr_workPlain.2.1 114 = .ok (.iload_n 1, 1) := by decide +kernel
theorem d_Cr_workPlain_115 : decode m_Cr_workPlain.2.1 115 = .ok (.iconst 1, 1) := by decide +kernel
theorem d_Cr_workPlain_116 : decode m_Cr_workPlain.2.1 116 = .ok (.iadd, 1) := by decide +kernel
theorem d_Cr_workPlain_117 : decode m_Cr_workPlain.2.1 117 = .ok (.invokestatic 25, 3) := by decide +kernel
theorem d_Cr_workPlain_120 : decode m_Cr_workPlain.2.1 120 = .ok (.invokestatic 62, 3) := by decide +kernel
theorem d_Cr_workPlain_123 : decode m_Cr_workPlain.2.1 123 = .ok (.goto 139, 3) := by decide +kernel
theorem d_Cr_workPlain_126 : decode m_Cr_workPlain.2.1 126 = .ok (.aload_n 0, 1) := by decide +kernel
theorem d_Cr_workPlain_127 : decode m_Cr_workPlain.2.1 127 = .ok (.aload_n 0, 1) := by decide +kernel
theorem d_Cr_workPlain_128 : decode m_Cr_workPlain.2.1 128 = .ok (.iload_n 1, 1) := by decide +kernel
theorem d_Cr_workPlain_129 : decode m_Cr_workPlain.2.1 129 = .ok (.iconst 1, 1) := by decide +kernel
theorem d_Cr_workPlain_130 : decode m_Cr_workPlain.2.1 130 = .ok (.iadd, 1) := by decide +kernel
theorem d_Cr_workPlain_131 : decode m_Cr_workPlain.2.1 131 = .ok (.invokestatic 25, 3) := by decide +kernel
theorem d_Cr_workPlain_134 : decode m_Cr_workPlain.2.1 134 = .ok (.invokestatic 62, 3) := by decide +kernel
theorem d_Cr_workPlain_137 : decode m_Cr_workPlain.2.1 137 = .ok (.aload_n 0, 1) := by decide +kernel
theorem d_Cr_workPlain_138 : decode m_Cr_workPlain.2.1 138 = .ok (.aload_n 0, 1) := by decide +kernel
theorem d_Cr_workPlain_139 : decode m_Cr_workPlain.2.1 139 = .ok (.iload_n 1, 1) := by decide +kernel
theorem d_Cr_workPlain_140 : decode m_Cr_workPlain.2.1 140 = .ok (.iconst 2, 1) := by decide +kernel
theorem d_Cr_workPlain_141 : decode m_Cr_workPlain.2.1 141 = .ok (.iadd, 1) := by decide +kernel
theorem d_Cr_workPlain_142 : decode m_Cr_workPlain.2.1 142 = .ok (.invokestatic 25, 3) := by decide +kernel
theorem d_Cr_workPlain_145 : decode m_Cr_workPlain.2.1 145 = .ok (.invokestatic 62, 3) := by decide +kernel
theorem d_Cr_workPlain_148 : decode m_Cr_workPlain.2.1 148 = .ok (.goto 114, 3) := by decide +kernel
theorem d_Cr_workPlain_151 : decode m_Cr_workPlain.2.1 151 = .ok (.aload_n 0, 1) := by decide +kernel
theorem d_Cr_workPlain_152 : decode m_Cr_workPlain.2.1 152 = .ok (.aload_n 0, 1) := by decide +kernel
theorem d_Cr_workPlain_153 : decode m_Cr_workPlain.2.1 153 = .ok (.iload_n 1, 1) := by decide +kernel
theorem d_Cr_workPlain_154 : decode m_Cr_workPlain.2.1 154 = .ok (.iconst 1, 1) := by decide +kernel
theorem d_Cr_workPlain_155 : decode m_Cr_workPlain.2.1 155 = .ok (.iadd, 1) := by decide +kernel
theorem d_Cr_workPlain_156 : decode m_Cr_workPlain.2.1 156 = .ok (.invokestatic 25, 3) := by decide +kernel
theorem d_Cr_workPlain_159 : decode m_Cr_workPlain.2.1 159 = .ok (.aload_n 0, 1) := by decide +kernel
theorem d_Cr_workPlain_160 : decode m_Cr_workPlain.2.1 160 = .ok (.iload_n 1, 1) := by decide +kernel
theorem d_Cr_workPlain_161 : decode m_Cr_workPlain.2.1 161 = .ok (.iconst 2, 1) := by decide +kernel
theorem d_Cr_workPlain_162 : decode m_Cr_workPlain.2.1 162 = .ok (.iadd, 1) := by decide +kernel
theorem d_Cr_workPlain_163 : decode m_Cr_workPlain.2.1 163 = .ok (.invokestatic 25, 3) := by decide +kernel
theorem d_Cr_workPlain_166 : decode m_Cr_workPlain.2.1 166 = .ok (.invokestatic 65, 3) := by decide +kernel
theorem d_Cr_workPlain_169 : decode m_Cr_workPlain.2.1 169 = .ok (.goto 93, 3) := by decide +kernel
theorem d_Cr_workPlain_172 : decode m_Cr_workPlain.2.1 172 = .ok (.aload_n 0, 1) := by decide +kernel
theorem d_Cr_workPlain_173 : decode m_Cr_workPlain.2.1 173 = .ok (.aload_n 0, 1) := by decide +kernel
theorem d_Cr_workPlain_174 : decode m_Cr_workPlain.2.1 174 = .ok (.iload_n 1, 1) := by decide +kernel
theorem d_Cr_workPlain_175 : decode m_Cr_workPlain.2.1 175 = .ok (.iconst 1, 1) := by decide +kernel
theorem d_Cr_workPlain_176 : decode m_Cr_workPlain.2.1 176 = .ok (.iadd, 1) := by decide +kernel
theorem d_Cr_workPlain_177 : decode m_Cr_workPlain.2.1 177 = .ok (.invokestatic 25, 3) := by decide +kernel
theorem d_Cr_workPlain_180 : decode m_Cr_workPlain.2.1 180 = .ok (.invokestatic 62, 3) := by decide +kernel
theorem d_Cr_workPlain_183 : decode m_Cr_workPlain.2.1 183 = .ok (.aload_n 0, 1) := by decide +kernel
theorem d_Cr_workPlain_184 : decode m_Cr_workPlain.2.1 184 = .ok (.getfield 31, 3) := by decide +kernel
theorem d_Cr_workPlain_187 : decode m_Cr_workPlain.2.1 187 = .ok (.bipush 12, 2) := by decide +kernel
theorem d_Cr_workPlain_189 : decode m_Cr_workPlain.2.1 189 = .ok (.invokevirtual 69, 3) := by decide +kernel
theorem d_Cr_workPlain_192 : decode m_Cr_workPlain.2.1 192 = .ok (.goto 70, 3) := by decide +kernel
theorem d_Cr_workPlain_195 : decode m_Cr_workPlain.2.1 195 = .ok (.aload_n 0, 1) := by decide +kernel
theorem d_Cr_workPlain_196 : decode m_Cr_workPlain.2.1 196 = .ok (.aload_n 0, 1) := by decide +kernel
theorem d_Cr_workPlain_197 : decode m_Cr_workPlain.2.1 197 = .ok (.getfield 47, 3) := by decide +kernel
theorem d_Cr_workPlain_200 : decode m_Cr_workPlain.2.1 200 = .ok (.iload_n 1, 1) := by decide +kernel
theorem d_Cr_workPlain_201 : decode m_Cr_workPlain.2.1 201 = .ok (.iconst 1, 1) := by decide +kernel
theorem d_Cr_workPlain_202 : decode m_Cr_workPlain.2.1 202 = .ok (.iadd, 1) := by decide +kernel
theorem d_Cr_workPlain_203 : decode m_Cr_workPlain.2.1 203 = .ok (.invokevirtual 72, 3) := by decide +kernel
theorem d_Cr_workPlain_206 : decode m_Cr_workPlain.2.1 206 = .ok (.aload_n 0, 1) := by decide +kernel
theorem d_Cr_workPlain_207 : decode m_Cr_workPlain.2.1 207 = .ok (.iload_n 1, 1) := by decide +kernel
theorem d_Cr_workPlain_208 : decode m_Cr_workPlain.2.1 208 = .ok (.iconst 2, 1) := by decide +kernel
theorem d_Cr_workPlain_209 : decode m_Cr_workPlain.2.1 209 = .ok (.iadd, 1) := by decide +kernel
theorem d_Cr_workPlain_210 : decode m_Cr_workPlain.2.1 210 = .ok (.invokestatic 25, 3) := by decide +kernel
theorem d_Cr_workPlain_213 : decode m_Cr_workPlain.2.1 213 = .ok (.invokestatic 75, 3) := by decide +kernel
theorem d_Cr_workPlain_216 : decode m_Cr_workPlain.2.1 216 = .ok (.goto 46, 3) := by decide +kernel
theorem d_Cr_workPlain_219 : decode m_Cr_workPlain.2.1 219 = .ok (.aload_n 0, 1) := by decide +kernel
theorem d_Cr_workPlain_220 : decode m_Cr_workPlain.2.1 220 = .ok (.iload_n 1, 1) := by decide +kernel
theorem d_Cr_workPlain_221 : decode m_Cr_workPlain.2.1 221 = .ok (.iconst 1, 1) := by decide +kernel
theorem d_Cr_workPlain_222 : decode m_Cr_workPlain.2.1 222 = .ok (.iadd, 1) := by decide +kernel
theorem d_Cr_workPlain_223 : decode m_Cr_workPlain.2.1 223 = .ok (.invokestatic 78, 3) := by decide +kernel
theorem d_Cr_workPlain_226 : decode m_Cr_workPlain.2.1 226 = .ok (.goto 36, 3) := by decide +kernel
theorem d_Cr_workPlain_229 : decode m_Cr_workPlain.2.1 229 = .ok (.aload_n 0, 1) := by decide +kernel
theorem d_Cr_workPlain_230 : decode m_Cr_workPlain.2.1 230 = .ok (.aload_n 0, 1) := by decide +kernel
theorem d_Cr_workPlain_231 : decode m_Cr_workPlain.2.1 231 = .ok (.getfield 47, 3) := by decide +kernel
theorem d_Cr_workPlain_234 : decode m_Cr_workPlain.2.1 234 = .ok (.iload_n 1, 1) := by decide +kernel
theorem d_Cr_workPlain_235 : decode m_Cr_workPlain.2.1 235 = .ok (.iconst 1, 1) := by decide +kernel
theorem d_Cr_workPlain_236 : decode m_Cr_workPlain.2.1 236 = .ok (.iadd, 1) := by decide +kernel
theorem d_Cr_workPlain_237 : decode m_Cr_workPlain.2.1 237 = .ok (.invokevirtual 51, 3) := by decide +kernel
theorem d_Cr_workPlain_240 : decode m_Cr_workPlain.2.1 240 = .ok (.invokestatic 81, 3) := by decide +kernel
theorem d_Cr_workPlain_243 : decode m_Cr_workPlain.2.1 243 = .ok (.goto 19, 3) := by decide +kernel
theorem d_Cr_workPlain_246 : decode m_Cr_workPlain.2.1 246 = .ok (.aload_n 0, 1) := by decide +kernel
theorem d_Cr_workPlain_247 : decode m_Cr_workPlain.2.1 247 = .ok (.invokestatic 84, 3) := by decide +kernel
theorem d_Cr_workPlain_250 : decode m_Cr_workPlain.2.1 250 = .ok (.goto 12, 3) := by decide +kernel
theorem d_Cr_workPlain_253 : decode m_Cr_workPlain.2.1 253 = .ok (.aload_n 0, 1) := by decide +kernel
theorem d_Cr_workPlain_254 : decode m_Cr_workPlain.2.1 254 = .ok (.getfield 31, 3) := by decide +kernel
theorem d_Cr_workPlain_257 : decode m_Cr_workPlain.2.1 257 = .ok (.bipush 12, 2) := by decide +kernel
theorem d_Cr_workPlain_259 : decode m_Cr_workPlain.2.1 259 = .ok (.invokevirtual 88, 3) := by decide +kernel
theorem d_Cr_workPlain_262 : decode m_Cr_workPlain.2.1 262 = .ok (.return_, 1) := by decide +kernel
theorem d_Cr_copy_0 : decode m_Cr_copy.2.1 0 = .ok (.iconst 0, 1) := by decide +kernel
theorem d_Cr_copy_1 : decode m_Cr_copy.2.1 1 = .ok (.istore_n 2, 1) := by decide +kernel
theorem d_Cr_copy_2 : decode m_Cr_copy.2.1 2 = .ok (.iload_n 2, 1) := by decide +kernel
theorem d_Cr_copy_3 : decode m_Cr_copy.2.1 3 = .ok (.aload_n 0, 1) := by decide +kernel
theorem d_Cr_copy_4 : decode m_Cr_copy.2.1 4 = .ok (.getfield 31, 3) := by decide +kernel
theorem d_Cr_copy_7 : decode m_Cr_copy.2.1 7 = .ok (.iload_n 1, 1) := by decide +kernel
theorem d_Cr_copy_8 : decode m_Cr_copy.2.1 8 = .ok (.invokevirtual 35, 3) := by decide +kernel
theorem d_Cr_copy_11 : decode m_Cr_copy.2.1 11 = .ok (.if_icmp .ge 28, 3) := by decide +kernel
theorem d_Cr_copy_14 : decode m_Cr_copy.2.1 14 = .ok (.aload_n 0, 1) := by decide +kernel
theorem d_Cr_copy_15 : decode m_Cr_copy.2.1 15 = .ok (.getfield 31, 3) := by decide +kernel
theorem d_Cr_copy_18 : decode m_Cr_copy.2.1 18 = .ok (.bipush 12, 2) := by decide +kernel
theorem d_Cr_copy_20 : decode m_Cr_copy.2.1 20 = .ok (.aload_n 0, 1) := by decide +kernel
theorem d_Cr_copy_21 : decode m_Cr_copy.2.1 21 = .ok (.getfield 31, 3) := by decide +kernel
theorem d_Cr_copy_24 : decode m_Cr_copy.2.1 24 = .ok (.iload_n 1, 1) := by decide +kernel
theorem d_Cr_copy_25 : decode m_Cr_copy.2.1 25 = .ok (.iload_n 2, 1) := by decide +kernel
theorem d_Cr_copy_26 : decode m_Cr_copy.2.1 26 = .ok (.invokevirtual 40, 3) := by decide +kernel
theorem d_Cr_copy_29 : decode m_Cr_copy.2.1 29 = .ok (.invokevirtual 93, 3) := by decide +kernel
theorem d_Cr_copy_32 : decode m_Cr_copy.2.1 32 = .ok (.pop, 1) := by decide +kernel
theorem d_Cr_copy_33 : decode m_Cr_copy.2.1 33 = .ok (.iinc 2 1, 3) := by decide +kernel
theorem d_Cr_copy_36 : decode m_Cr_copy.2.1 36 = .ok (.goto (-34), 3) := by decide +kernel
theorem d_Cr_copy_39 : decode m_Cr_copy.2.1 39 = .ok (.return_, 1) := by decide +kernel
theorem d_Cr_sum_0 : decode m_Cr_sum.2.1 0 = .ok (.aload_n 0, 1) := by decide +kernel
theorem d_Cr_sum_1 : decode m_Cr_sum.2.1 1 = .ok (.getfield 31, 3) := by decide +kernel
theorem d_Cr_sum_4 : decode m_Cr_sum.2.1 4 = .ok (.iload_n 1, 1) := by decide +kernel
theorem d_Cr_sum_5 : decode m_Cr_sum.2.1 5 = .ok (.invokevirtual 35, 3) := by decide +kernel
theorem d_Cr_sum_8 : decode m_Cr_sum.2.1 8 = .ok (.aload_n 0, 1) := by decide +kernel
theorem d_Cr_sum_9 : decode m_Cr_sum.2.1 9 = .ok (.getfield 31, 3) := by decide +kernel
theorem d_Cr_sum_12 : decode m_Cr_sum.2.1 12 = .ok (.iload_n 2, 1) := by decide +kernel
theorem d_Cr_sum_13 : decode m_Cr_sum.2.1 13 = .ok (.invokevirtual 35, 3) := by decide +kernel
theorem d_Cr_sum_16 : decode m_Cr_sum.2.1 16 = .ok (.invokestatic 97, 3) := by decide +kernel
theorem d_Cr_sum_19 : decode m_Cr_sum.2.1 19 = .ok (.istore_n 3, 1) := by decide +kernel
theorem d_Cr_sum_20 : decode m_Cr_sum.2.1 20 = .ok (.iconst 0, 1) := by decide +kernel
theorem d_Cr_sum_21 : decode m_Cr_sum.2.1 21 = .ok (.istore 4, 2) := by decide +kernel
theorem d_Cr_sum_23 : decode m_Cr_sum.2.1 23 = .ok (.iload 4, 2) := by decide +kernel
theorem d_Cr_sum_25 : decode m_Cr_sum.2.1 25 = .ok (.iload_n 3, 1) := by decide +kernel
theorem d_Cr_sum_26 : decode m_Cr_sum.2.1 26 = .ok (.if_icmp .ge 41, 3) := by decide +kernel
theorem d_Cr_sum_29 : decode m_Cr_sum.2.1 29 = .ok (.aload_n 0, 1) := by decide +kernel
theorem d_Cr_sum_30 : decode m_Cr_sum.2.1 30 = .ok (.getfield 31, 3) := by decide +kernel
theorem d_Cr_sum_33 : decode m_Cr_sum.2.1 33 = .ok (.bipush 12, 2) := by decide +kernel
theorem d_Cr_sum_35 : decode m_Cr_sum.2.1 35 = .ok (.aload_n 0, 1) := by decide +kernel
theorem d_Cr_sum_36 : decode m_Cr_sum.2.1 36 = .ok (.getfield 31, 3) := by decide +kernel
theorem d_Cr_sum_39 : decode m_Cr_sum.2.1 39 = .ok (.iload_n 1, 1) := by decide +kernel
theorem d_Cr_sum_40 : decode m_Cr_sum.2.1 40 = .ok (.iload 4, 2) := by decide +kernel
theorem d_Cr_sum_42 : decode m_Cr_sum.2.1 42 = .ok (.invokevirtual 40, 3) := by decide +kernel
theorem d_Cr_sum_45 : decode m_Cr_sum.2.1 45 = .ok (.aload_n 0, 1) := by decide +kernel
theorem d_Cr_sum_46 : decode m_Cr_sum.2.1 46 = .ok (.getfield 31, 3) := by decide +kernel
theorem d_Cr_sum_49 : decode m_Cr_sum.2.1 49 = .ok (.iload_n 2, 1) := by decide +kernel
theorem d_Cr_sum_50 : decode m_Cr_sum.2.1 50 = .ok (.iload 4, 2) := by decide +kernel
theorem d_Cr_sum_52 : decode m_Cr_sum.2.1 52 = .ok (.invokevirtual 40, 3) := by decide +kernel
theorem d_Cr_sum_55 : decode m_Cr_sum.2.1 55 = .ok (.iadd, 1) := by decide +kernel
theorem d_Cr_sum_56 : decode m_Cr_sum.2.1 56 = .ok (.i2s, 1) := by decide +kernel
theorem d_Cr_sum_57 : decode m_Cr_sum.2.1 57 = .ok (.invokevirtual 93, 3) := by decide +kernel
theorem d_Cr_sum_60 : decode m_Cr_sum.2.1 60 = .ok (.pop, 1) := by decide +kernel
theorem d_Cr_sum_61 : decode m_Cr_sum.2.1 61 = .ok (.iinc 4 1, 3) := by decide +kernel
theorem d_Cr_sum_64 : decode m_Cr_sum.2.1 64 = .ok (.goto (-41), 3) := by decide +kernel
theorem d_Cr_sum_67 : decode m_Cr_sum.2.1 67 = .ok (.return_, 1) := by decide +kernel
theorem d_Cr_copyDivided_0 : decode m_Cr_copyDivided.2.1 0 = .ok (.iconst 0, 1) := by decide +kernel
theorem d_Cr_copyDivided_1 : decode m_Cr_copyDivided.2.1 1 = .ok (.istore_n 3, 1) := by decide +kernel
theorem d_Cr_copyDivided_2 : decode m_Cr_copyDivided.2.1 2 = .ok (.iload_n 3, 1) := by decide +kernel
theorem d_Cr_copyDivided_3 : decode m_Cr_copyDivided.2.1 3 = .ok (.aload_n 0, 1) := by decide +kernel
theorem d_Cr_copyDivided_4 : decode m_Cr_copyDivided.2.1 4 = .ok (.getfield 31, 3) := by decide +kernel
theorem d_Cr_copyDivided_7 : decode m_Cr_copyDivided.2.1 7 = .ok (.iload_n 2, 1) := by decide +kernel
theorem d_Cr_copyDivided_8 : decode m_Cr_copyDivided.2.1 8 = .ok (.invokevirtual 35, 3) := by decide +kernel
theorem d_Cr_copyDivided_11 : decode m_Cr_copyDivided.2.1 11 = .ok (.if_icmp .ge 43, 3) := by decide +kernel
theorem d_Cr_copyDivided_14 : decode m_Cr_copyDivided.2.1 14 = .ok (.aload_n 0, 1) := by decide +kernel
theorem d_Cr_copyDivided_15 : decode m_Cr_copyDivided.2.1 15 = .ok (.getfield 31, 3) := by decide +kernel
theorem d_Cr_copyDivided_18 : decode m_Cr_copyDivided.2.1 18 = .ok (.iload_n 2, 1) := by decide +kernel
theorem d_Cr_copyDivided_19 : decode m_Cr_copyDivided.2.1 19 = .ok (.iload_n 3, 1) := by decide +kernel
theorem d_Cr_copyDivided_20 : decode m_Cr_copyDivided.2.1 20 = .ok (.invokevirtual 40, 3) := by decide +kernel
theorem d_Cr_copyDivided_23 : decode m_Cr_copyDivided.2.1 23 = .ok (.istore 4, 2) := by decide +kernel
theorem d_Cr_copyDivided_25 : decode m_Cr_copyDivided.2.1 25 = .ok (.iload_n 1, 1) := by decide +kernel
theorem d_Cr_copyDivided_26 : decode m_Cr_copyDivided.2.1 26 = .ok (.ifCond .le 22, 3) := by decide +kernel
theorem d_Cr_copyDivided_29 : decode m_Cr_copyDivided.2.1 29 = .ok (.iload 4, 2) := by decide +kernel
theorem d_Cr_copyDivided_31 : decode m_Cr_copyDivided.2.1 31 = .ok (.iload_n 1, 1) := by decide +kernel
theorem d_Cr_copyDivided_32 : decode m_Cr_copyDivided.2.1 32 = .ok (.irem, 1) := by decide +kernel
theorem d_Cr_copyDivided_33 : decode m_Cr_copyDivided.2.1 33 = .ok (.ifCond .ne 15, 3) := by decide +kernel
theorem d_Cr_copyDivided_36 : decode m_Cr_copyDivided.2.1 36 = .ok (.aload_n 0, 1) := by decide +kernel
theorem d_Cr_copyDivided_37 : decode m_Cr_copyDivided.2.1 37 = .ok (.getfield 31, 3) := by decide +kernel
theorem d_Cr_copyDivided_40 : decode m_Cr_copyDivided.2.1 40 = .ok (.bipush 12, 2) := by decide +kernel
theorem d_Cr_copyDivided_42 : decode m_Cr_copyDivided.2.1 42 = .ok (.iload 4, 2) := by decide +kernel
theorem d_Cr_copyDivided_44 : decode m_Cr_copyDivided.2.1 44 = .ok (.invokevirtual 93, 3) := by decide +kernel
theorem d_Cr_copyDivided_47 : decode m_Cr_copyDivided.2.1 47 = .ok (.pop, 1) := by decide +kernel
theorem d_Cr_copyDivided_48 : decode m_Cr_copyDivided.2.1 48 = .ok (.iinc 3 1, 3) := by decide +kernel
theorem d_Cr_copyDivided_51 : decode m_Cr_copyDivided.2.1 51 = .ok (.goto (-49), 3) := by decide +kernel
theorem d_Cr_copyDivided_54 : decode m_Cr_copyDivided.2.1 54 = .ok (.return_, 1) := by decide +kernel
theorem d_Cr_copyDigits_0 : decode m_Cr_copyDigits.2.1 0 = .ok (.iload_n 1, 1) := by decide +kernel
theorem d_Cr_copyDigits_1 : decode m_Cr_copyDigits.2.1 1 = .ok (.istore_n 2, 1) := by decide +kernel
theorem d_Cr_copyDigits_2 : decode m_Cr_copyDigits.2.1 2 = .ok (.iload_n 2, 1) := by decide +kernel
theorem d_Cr_copyDigits_3 : decode m_Cr_copyDigits.2.1 3 = .ok (.aload_n 0, 1) := by decide +kernel
theorem d_Cr_copyDigits_4 : decode m_Cr_copyDigits.2.1 4 = .ok (.getfield 47, 3) := by decide +kernel
theorem d_Cr_copyDigits_7 : decode m_Cr_copyDigits.2.1 7 = .ok (.invokevirtual 15, 3) := by decide +kernel
theorem d_Cr_copyDigits_10 : decode m_Cr_copyDigits.2.1 10 = .ok (.iconst 1, 1) := by decide +kernel
theorem d_Cr_copyDigits_11 : decode m_Cr_copyDigits.2.1 11 = .ok (.isub, 1) := by decide +kernel
theorem d_Cr_copyDigits_12 : decode m_Cr_copyDigits.2.1 12 = .ok (.if_icmp .ge 28, 3) := by decide +kernel
theorem d_Cr_copyDigits_15 : decode m_Cr_copyDigits.2.1 15 = .ok (.aload_n 0, 1) := by decide +kernel
theorem d_Cr_copyDigits_16 : decode m_Cr_copyDigits.2.1 16 = .ok (.getfield 31, 3) := by decide +kernel
theorem d_Cr_copyDigits_19 : decode m_Cr_copyDigits.2.1 19 = .ok (.bipush 12, 2) := by decide +kernel
theorem d_Cr_copyDigits_21 : decode m_Cr_copyDigits.2.1 21 = .ok (.aload_n 0, 1) := by decide +kernel
theorem d_Cr_copyDigits_22 : decode m_Cr_copyDigits.2.1 22 = .ok (.getfield 47, 3) := by decide +kernel
theorem d_Cr_copyDigits_25 : decode m_Cr_copyDigits.2.1 25 = .ok (.iload_n 2, 1) := by decide +kernel
theorem d_Cr_copyDigits_26 : decode m_Cr_copyDigits.2.1 26 = .ok (.invokevirtual 72, 3) := by decide +kernel
theorem d_Cr_copyDigits_29 : decode m_Cr_copyDigits.2.1 29 = .ok (.i2s, 1) := by decide +kernel
theorem d_Cr_copyDigits_30 : decode m_Cr_copyDigits.2.1 30 = .ok (.invokevirtual 93, 3) := by decide +kernel
theorem d_Cr_copyDigits_33 : decode m_Cr_copyDigits.2.1 33 = .ok (.pop, 1) := by decide +kernel
theorem d_Cr_copyDigits_34 : decode m_Cr_copyDigits.2.1 34 = .ok (.iinc 2 1, 3) := by decide +kernel
theorem d_Cr_copyDigits_37 : decode m_Cr_copyDigits.2.1 37 = .ok (.goto (-35), 3) := by decide +kernel
theorem d_Cr_copyDigits_40 : decode m_Cr_copyDigits.2.1 40 = .ok (.return_, 1) := by decide +kernel
theorem d_Cr_tellIfThere_0 : decode m_Cr_tellIfThere.2.1 0 = .ok (.aload_n 0, 1) := by decide +kernel
theorem d_Cr_tellIfThere_1 : decode m_Cr_tellIfThere.2.1 1 = .ok (.dup, 1) := by decide +kernel
theorem d_Cr_tellIfThere_2 : decode m_Cr_tellIfThere.2.1 2 = .ok (.getfield 103, 3) := by decide +kernel
theorem d_Cr_tellIfThere_5 : decode m_Cr_tellIfThere.2.1 5 = .ok (.iconst 1, 1) := by decide +kernel
theorem d_Cr_tellIfThere_6 : decode m_Cr_tellIfThere.2.1 6 = .ok (.iload_n 1, 1) := by decide +kernel
theorem d_Cr_tellIfThere_7 : decode m_Cr_tellIfThere.2.1 7 = .ok (.ishl, 1) := by decide +kernel
theorem d_Cr_tellIfThere_8 : decode m_Cr_tellIfThere.2.1 8 = .ok (.ior, 1) := by decide +kernel
theorem d_Cr_tellIfThere_9 : decode m_Cr_tellIfThere.2.1 9 = .ok (.putfield 103, 3) := by decide +kernel
theorem d_Cr_tellIfThere_12 : decode m_Cr_tellIfThere.2.1 12 = .ok (.aload_n 0, 1) := by decide +kernel
theorem d_Cr_tellIfThere_13 : decode m_Cr_tellIfThere.2.1 13 = .ok (.getfield 31, 3) := by decide +kernel
theorem d_Cr_tellIfThere_16 : decode m_Cr_tellIfThere.2.1 16 = .ok (.bipush 12, 2) := by decide +kernel
theorem d_Cr_tellIfThere_18 : decode m_Cr_tellIfThere.2.1 18 = .ok (.aload_n 0, 1) := by decide +kernel
theorem d_Cr_tellIfThere_19 : decode m_Cr_tellIfThere.2.1 19 = .ok (.getfield 31, 3) := by decide +kernel
theorem d_Cr_tellIfThere_22 : decode m_Cr_tellIfThere.2.1 22 = .ok (.iload_n 1, 1) := by decide +kernel
theorem d_Cr_tellIfThere_23 : decode m_Cr_tellIfThere.2.1 23 = .ok (.invokevirtual 106, 3) := by decide +kernel
theorem d_Cr_tellIfThere_26 : decode m_Cr_tellIfThere.2.1 26 = .ok (.ifCond .eq 7, 3) := by decide +kernel
theorem d_Cr_tellIfThere_29 : decode m_Cr_tellIfThere.2.1 29 = .ok (.iconst 1, 1) := by decide +kernel
theorem d_Cr_tellIfThere_30 : decode m_Cr_tellIfThere.2.1 30 = .ok (.goto 4, 3) := by decide +kernel
theorem d_Cr_tellIfThere_33 : decode m_Cr_tellIfThere.2.1 33 = .ok (.iconst 0, 1) := by decide +kernel
theorem d_Cr_tellIfThere_34 : decode m_Cr_tellIfThere.2.1 34 = .ok (.i2s, 1) := by decide +kernel
theorem d_Cr_tellIfThere_35 : decode m_Cr_tellIfThere.2.1 35 = .ok (.invokevirtual 93, 3) := by decide +kernel
theorem d_Cr_tellIfThere_38 : decode m_Cr_tellIfThere.2.1 38 = .ok (.pop, 1) := by decide +kernel
theorem d_Cr_tellIfThere_39 : decode m_Cr_tellIfThere.2.1 39 = .ok (.return_, 1) := by decide +kernel
theorem d_Cr_listFiles_0 : decode m_Cr_listFiles.2.1 0 = .ok (.iconst 0, 1) := by decide +kernel
theorem d_Cr_listFiles_1 : decode m_Cr_listFiles.2.1 1 = .ok (.istore_n 1, 1) := by decide +kernel
theorem d_Cr_listFiles_2 : decode m_Cr_listFiles.2.1 2 = .ok (.iload_n 1, 1) := by decide +kernel
theorem d_Cr_listFiles_3 : decode m_Cr_listFiles.2.1 3 = .ok (.bipush 12, 2) := by decide +kernel
theorem d_Cr_listFiles_5 : decode m_Cr_listFiles.2.1 5 = .ok (.if_icmp .ge 44, 3) := by decide +kernel
theorem d_Cr_listFiles_8 : decode m_Cr_listFiles.2.1 8 = .ok (.aload_n 0, 1) := by decide +kernel
theorem d_Cr_listFiles_9 : decode m_Cr_listFiles.2.1 9 = .ok (.dup, 1) := by decide +kernel
theorem d_Cr_listFiles_10 : decode m_Cr_listFiles.2.1 10 = .ok (.getfield 103, 3) := by decide +kernel
theorem d_Cr_listFiles_13 : decode m_Cr_listFiles.2.1 13 = .ok (.iconst 1, 1) := by decide +kernel
theorem d_Cr_listFiles_14 : decode m_Cr_listFiles.2.1 14 = .ok (.iload_n 1, 1) := by decide +kernel
theorem d_Cr_listFiles_15 : decode m_Cr_listFiles.2.1 15 = .ok (.ishl, 1) := by decide +kernel
theorem d_Cr_listFiles_16 : decode m_Cr_listFiles.2.1 16 = .ok (.ior, 1) := by decide +kernel
theorem d_Cr_listFiles_17 : decode m_Cr_listFiles.2.1 17 = .ok (.putfield 103, 3) := by decide +kernel
theorem d_Cr_listFiles_20 : decode m_Cr_listFiles.2.1 20 = .ok (.aload_n 0, 1) := by decide +kernel
theorem d_Cr_listFiles_21 : decode m_Cr_listFiles.2.1 21 = .ok (.getfield 31, 3) := by decide +kernel
theorem d_Cr_listFiles_24 : decode m_Cr_listFiles.2.1 24 = .ok (.iload_n 1, 1) := by decide +kernel
theorem d_Cr_listFiles_25 : decode m_Cr_listFiles.2.1 25 = .ok (.invokevirtual 106, 3) := by decide +kernel
theorem d_Cr_listFiles_28 : decode m_Cr_listFiles.2.1 28 = .ok (.ifCond .eq 15, 3) := by decide +kernel
theorem d_Cr_listFiles_31 : decode m_Cr_listFiles.2.1 31 = .ok (.aload_n 0, 1) := by decide +kernel
theorem d_Cr_listFiles_32 : decode m_Cr_listFiles.2.1 32 = .ok (.getfield 31, 3) := by decide +kernel
theorem d_Cr_listFiles_35 : decode m_Cr_listFiles.2.1 35 = .ok (.bipush 12, 2) := by decide +kernel
theorem d_Cr_listFiles_37 : decode m_Cr_listFiles.2.1 37 = .ok (.iload_n 1, 1) := by decide +kernel
theorem d_Cr_listFiles_38 : decode m_Cr_listFiles.2.1 38 = .ok (.i2s, 1) := by decide +kernel
theorem d_Cr_listFiles_39 : decode m_Cr_listFiles.2.1 39 = .ok (.invokevirtual 93, 3) := by decide +kernel
theorem d_Cr_listFiles_42 : decode m_Cr_listFiles.2.1 42 = .ok (.pop, 1) := by decide +kernel
theorem d_Cr_listFiles_43 : decode m_Cr_listFiles.2.1 43 = .ok (.iinc 1 1, 3) := by decide +kernel
theorem d_Cr_listFiles_46 : decode m_Cr_listFiles.2.1 46 = .ok (.goto (-44), 3) := by decide +kernel
theorem d_Cr_listFiles_49 : decode m_Cr_listFiles.2.1 49 = .ok (.return_, 1) := by decide +kernel
