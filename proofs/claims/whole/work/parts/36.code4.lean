/-! Rows that decode: laid by program. -/
theorem d_La_command_0 : decode m_La_command.2.1 0 = .ok (.aload_n 1, 1) := by decide +kernel
theorem d_La_command_1 : decode m_La_command.2.1 1 = .ok (.iconst 0, 1) := by decide +kernel
theorem d_La_command_2 : decode m_La_command.2.1 2 = .ok (.aload_n 0, 1) := by decide +kernel
theorem d_La_command_3 : decode m_La_command.2.1 3 = .ok (.invokevirtual 7, 3) := by decide +kernel
theorem d_La_command_6 : decode m_La_command.2.1 6 = .ok (.i2l, 1) := by decide +kernel
theorem d_La_command_7 : decode m_La_command.2.1 7 = .ok (.lastore, 1) := by decide +kernel
theorem d_La_command_8 : decode m_La_command.2.1 8 = .ok (.goto 9, 3) := by decide +kernel
theorem d_La_command_11 : decode m_La_command.2.1 11 = .ok (.astore_n 2, 1) := by decide +kernel
theorem d_La_command_12 : decode m_La_command.2.1 12 = .ok (.iconst 1, 1) := by decide +kernel
theorem d_La_command_13 : decode m_La_command.2.1 13 = .ok (.ireturn, 1) := by decide +kernel
theorem d_La_command_14 : decode m_La_command.2.1 14 = .ok (.astore_n 2, 1) := by decide +kernel
theorem d_La_command_15 : decode m_La_command.2.1 15 = .ok (.iconst 2, 1) := by decide +kernel
theorem d_La_command_16 : decode m_La_command.2.1 16 = .ok (.ireturn, 1) := by decide +kernel
theorem d_La_command_17 : decode m_La_command.2.1 17 = .ok (.iconst 0, 1) := by decide +kernel
theorem d_La_command_18 : decode m_La_command.2.1 18 = .ok (.ireturn, 1) := by decide +kernel
theorem d_La_edit_0 : decode m_La_edit.2.1 0 = .ok (.aload_n 0, 1) := by decide +kernel
theorem d_La_edit_1 : decode m_La_edit.2.1 1 = .ok (.iload_n 1, 1) := by decide +kernel
theorem d_La_edit_2 : decode m_La_edit.2.1 2 = .ok (.invokevirtual 17, 3) := by decide +kernel
theorem d_La_edit_5 : decode m_La_edit.2.1 5 = .ok (.goto 9, 3) := by decide +kernel
theorem d_La_edit_8 : decode m_La_edit.2.1 8 = .ok (.astore_n 2, 1) := by decide +kernel
theorem d_La_edit_9 : decode m_La_edit.2.1 9 = .ok (.iconst 1, 1) := by decide +kernel
theorem d_La_edit_10 : decode m_La_edit.2.1 10 = .ok (.ireturn, 1) := by decide +kernel
theorem d_La_edit_11 : decode m_La_edit.2.1 11 = .ok (.astore_n 2, 1) := by decide +kernel
theorem d_La_edit_12 : decode m_La_edit.2.1 12 = .ok (.iconst 2, 1) := by decide +kernel
theorem d_La_edit_13 : decode m_La_edit.2.1 13 = .ok (.ireturn, 1) := by decide +kernel
theorem d_La_edit_14 : decode m_La_edit.2.1 14 = .ok (.iconst 0, 1) := by decide +kernel
theorem d_La_edit_15 : decode m_La_edit.2.1 15 = .ok (.ireturn, 1) := by decide +kernel
theorem d_La_drop_0 : decode m_La_drop.2.1 0 = .ok (.aload_n 0, 1) := by decide +kernel
theorem d_La_drop_1 : decode m_La_drop.2.1 1 = .ok (.iload_n 1, 1) := by decide +kernel
theorem d_La_drop_2 : decode m_La_drop.2.1 2 = .ok (.invokevirtual 23, 3) := by decide +kernel
theorem d_La_drop_5 : decode m_La_drop.2.1 5 = .ok (.goto 6, 3) := by decide +kernel
theorem d_La_drop_8 : decode m_La_drop.2.1 8 = .ok (.astore_n 2, 1) := by decide +kernel
theorem d_La_drop_9 : decode m_La_drop.2.1 9 = .ok (.iconst 1, 1) := by decide +kernel
theorem d_La_drop_10 : decode m_La_drop.2.1 10 = .ok (.ireturn, 1) := by decide +kernel
theorem d_La_drop_11 : decode m_La_drop.2.1 11 = .ok (.iconst 0, 1) := by decide +kernel
theorem d_La_drop_12 : decode m_La_drop.2.1 12 = .ok (.ireturn, 1) := by decide +kernel
theorem d_La_run_0 : decode m_La_run.2.1 0 = .ok (.aload_n 2, 1) := by decide +kernel
theorem d_La_run_1 : decode m_La_run.2.1 1 = .ok (.iconst 0, 1) := by decide +kernel
theorem d_La_run_2 : decode m_La_run.2.1 2 = .ok (.aload_n 0, 1) := by decide +kernel
theorem d_La_run_3 : decode m_La_run.2.1 3 = .ok (.iload_n 1, 1) := by decide +kernel
theorem d_La_run_4 : decode m_La_run.2.1 4 = .ok (.invokevirtual 26, 3) := by decide +kernel
theorem d_La_run_7 : decode m_La_run.2.1 7 = .ok (.i2l, 1) := by decide +kernel
theorem d_La_run_8 : decode m_La_run.2.1 8 = .ok (.lastore, 1) := by decide +kernel
theorem d_La_run_9 : decode m_La_run.2.1 9 = .ok (.goto 9, 3) := by decide +kernel
theorem d_La_run_12 : decode m_La_run.2.1 12 = .ok (.astore_n 3, 1) := by decide +kernel
theorem d_La_run_13 : decode m_La_run.2.1 13 = .ok (.iconst 1, 1) := by decide +kernel
theorem d_La_run_14 : decode m_La_run.2.1 14 = .ok (.ireturn, 1) := by decide +kernel
theorem d_La_run_15 : decode m_La_run.2.1 15 = .ok (.astore_n 3, 1) := by decide +kernel
theorem d_La_run_16 : decode m_La_run.2.1 16 = .ok (.iconst 2, 1) := by decide +kernel
theorem d_La_run_17 : decode m_La_run.2.1 17 = .ok (.ireturn, 1) := by decide +kernel
theorem d_La_run_18 : decode m_La_run.2.1 18 = .ok (.iconst 0, 1) := by decide +kernel
theorem d_La_run_19 : decode m_La_run.2.1 19 = .ok (.ireturn, 1) := by decide +kernel
theorem d_La_trace_0 : decode m_La_trace.2.1 0 = .ok (.aload_n 3, 1) := by decide +kernel
theorem d_La_trace_1 : decode m_La_trace.2.1 1 = .ok (.iconst 0, 1) := by decide +kernel
theorem d_La_trace_2 : decode m_La_trace.2.1 2 = .ok (.aload_n 0, 1) := by decide +kernel
theorem d_La_trace_3 : decode m_La_trace.2.1 3 = .ok (.iload_n 1, 1) := by decide +kernel
theorem d_La_trace_4 : decode m_La_trace.2.1 4 = .ok (.iload_n 2, 1) := by decide +kernel
theorem d_La_trace_5 : decode m_La_trace.2.1 5 = .ok (.invokevirtual 30, 3) := by decide +kernel
theorem d_La_trace_8 : decode m_La_trace.2.1 8 = .ok (.i2l, 1) := by decide +kernel
theorem d_La_trace_9 : decode m_La_trace.2.1 9 = .ok (.lastore, 1) := by decide +kernel
theorem d_La_trace_10 : decode m_La_trace.2.1 10 = .ok (.goto 7, 3) := by decide +kernel
theorem d_La_trace_13 : decode m_La_trace.2.1 13 = .ok (.astore 4, 2) := by decide +kernel
theorem d_La_trace_15 : decode m_La_trace.2.1 15 = .ok (.iconst 1, 1) := by decide +kernel
theorem d_La_trace_16 : decode m_La_trace.2.1 16 = .ok (.ireturn, 1) := by decide +kernel
theorem d_La_trace_17 : decode m_La_trace.2.1 17 = .ok (.iconst 0, 1) := by decide +kernel
theorem d_La_trace_18 : decode m_La_trace.2.1 18 = .ok (.ireturn, 1) := by decide +kernel
theorem d_La_number_0 : decode m_La_number.2.1 0 = .ok (.aload_n 3, 1) := by decide +kernel
theorem d_La_number_1 : decode m_La_number.2.1 1 = .ok (.iconst 0, 1) := by decide +kernel
theorem d_La_number_2 : decode m_La_number.2.1 2 = .ok (.aload_n 0, 1) := by decide +kernel
theorem d_La_number_3 : decode m_La_number.2.1 3 = .ok (.iload_n 1, 1) := by decide +kernel
theorem d_La_number_4 : decode m_La_number.2.1 4 = .ok (.iload_n 2, 1) := by decide +kernel
theorem d_La_number_5 : decode m_La_number.2.1 5 = .ok (.invokevirtual 34, 3) := by decide +kernel
theorem d_La_number_8 : decode m_La_number.2.1 8 = .ok (.i2l, 1) := by decide +kernel
theorem d_La_number_9 : decode m_La_number.2.1 9 = .ok (.lastore, 1) := by decide +kernel
theorem d_La_number_10 : decode m_La_number.2.1 10 = .ok (.goto 7, 3) := by decide +kernel
theorem d_La_number_13 : decode m_La_number.2.1 13 = .ok (.astore 4, 2) := by decide +kernel
theorem d_La_number_15 : decode m_La_number.2.1 15 = .ok (.iconst 1, 1) := by decide +kernel
theorem d_La_number_16 : decode m_La_number.2.1 16 = .ok (.ireturn, 1) := by decide +kernel
theorem d_La_number_17 : decode m_La_number.2.1 17 = .ok (.iconst 0, 1) := by decide +kernel
theorem d_La_number_18 : decode m_La_number.2.1 18 = .ok (.ireturn, 1) := by decide +kernel
