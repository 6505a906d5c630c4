/-! Rows that decode: laid by program. -/
theorem d_Mo_init_0 : decode m_Mo_init.2.1 0 = .ok (.aload_n 0, 1) := by decide +kernel
theorem d_Mo_init_1 : decode m_Mo_init.2.1 1 = .ok (.invokespecial 1, 3) := by decide +kernel
theorem d_Mo_init_4 : decode m_Mo_init.2.1 4 = .ok (.aload_n 0, 1) := by decide +kernel
theorem d_Mo_init_5 : decode m_Mo_init.2.1 5 = .ok (.bipush 12, 2) := by decide +kernel
theorem d_Mo_init_7 : decode m_Mo_init.2.1 7 = .ok (.newarray .int, 2) := by decide +kernel
theorem d_Mo_init_9 : decode m_Mo_init.2.1 9 = .ok (.putfield 7, 3) := by decide +kernel
theorem d_Mo_init_12 : decode m_Mo_init.2.1 12 = .ok (.aload_n 0, 1) := by decide +kernel
theorem d_Mo_init_13 : decode m_Mo_init.2.1 13 = .ok (.bipush 72, 2) := by decide +kernel
theorem d_Mo_init_15 : decode m_Mo_init.2.1 15 = .ok (.newarray .int, 2) := by decide +kernel
theorem d_Mo_init_17 : decode m_Mo_init.2.1 17 = .ok (.putfield 13, 3) := by decide +kernel
theorem d_Mo_init_20 : decode m_Mo_init.2.1 20 = .ok (.aload_n 0, 1) := by decide +kernel
theorem d_Mo_init_21 : decode m_Mo_init.2.1 21 = .ok (.bipush 12, 2) := by decide +kernel
theorem d_Mo_init_23 : decode m_Mo_init.2.1 23 = .ok (.newarray .int, 2) := by decide +kernel
theorem d_Mo_init_25 : decode m_Mo_init.2.1 25 = .ok (.putfield 16, 3) := by decide +kernel
theorem d_Mo_init_28 : decode m_Mo_init.2.1 28 = .ok (.aload_n 0, 1) := by decide +kernel
theorem d_Mo_init_29 : decode m_Mo_init.2.1 29 = .ok (.bipush 72, 2) := by decide +kernel
theorem d_Mo_init_31 : decode m_Mo_init.2.1 31 = .ok (.newarray .int, 2) := by decide +kernel
theorem d_Mo_init_33 : decode m_Mo_init.2.1 33 = .ok (.putfield 19, 3) := by decide +kernel
theorem d_Mo_init_36 : decode m_Mo_init.2.1 36 = .ok (.aload_n 0, 1) := by decide +kernel
theorem d_Mo_init_37 : decode m_Mo_init.2.1 37 = .ok (.bipush 12, 2) := by decide +kernel
theorem d_Mo_init_39 : decode m_Mo_init.2.1 39 = .ok (.newarray .int, 2) := by decide +kernel
theorem d_Mo_init_41 : decode m_Mo_init.2.1 41 = .ok (.putfield 22, 3) := by decide +kernel
theorem d_Mo_init_44 : decode m_Mo_init.2.1 44 = .ok (.aload_n 0, 1) := by decide +kernel
theorem d_Mo_init_45 : decode m_Mo_init.2.1 45 = .ok (.bipush 10, 2) := by decide +kernel
theorem d_Mo_init_47 : decode m_Mo_init.2.1 47 = .ok (.newarray .int, 2) := by decide +kernel
theorem d_Mo_init_49 : decode m_Mo_init.2.1 49 = .ok (.putfield 25, 3) := by decide +kernel
theorem d_Mo_init_52 : decode m_Mo_init.2.1 52 = .ok (.aload_n 0, 1) := by decide +kernel
theorem d_Mo_init_53 : decode m_Mo_init.2.1 53 = .ok (.bipush 120, 2) := by decide +kernel
theorem d_Mo_init_55 : decode m_Mo_init.2.1 55 = .ok (.newarray .int, 2) := by decide +kernel
theorem d_Mo_init_57 : decode m_Mo_init.2.1 57 = .ok (.putfield 28, 3) := by decide +kernel
theorem d_Mo_init_60 : decode m_Mo_init.2.1 60 = .ok (.aload_n 0, 1) := by decide +kernel
theorem d_Mo_init_61 : decode m_Mo_init.2.1 61 = .ok (.bipush 25, 2) := by decide +kernel
theorem d_Mo_init_63 : decode m_Mo_init.2.1 63 = .ok (.newarray .int, 2) := by decide +kernel
theorem d_Mo_init_65 : decode m_Mo_init.2.1 65 = .ok (.putfield 31, 3) := by decide +kernel
theorem d_Mo_init_68 : decode m_Mo_init.2.1 68 = .ok (.aload_n 0, 1) := by decide +kernel
theorem d_Mo_init_69 : decode m_Mo_init.2.1 69 = .ok (.sipush 300, 3) := by decide +kernel
theorem d_Mo_init_72 : decode m_Mo_init.2.1 72 = .ok (.newarray .int, 2) := by decide +kernel
theorem d_Mo_init_74 : decode m_Mo_init.2.1 74 = .ok (.putfield 34, 3) := by decide +kernel
theorem d_Mo_init_77 : decode m_Mo_init.2.1 77 = .ok (.aload_n 0, 1) := by decide +kernel
theorem d_Mo_init_78 : decode m_Mo_init.2.1 78 = .ok (.bipush 25, 2) := by decide +kernel
theorem d_Mo_init_80 : decode m_Mo_init.2.1 80 = .ok (.newarray .int, 2) := by decide +kernel
theorem d_Mo_init_82 : decode m_Mo_init.2.1 82 = .ok (.putfield 37, 3) := by decide +kernel
theorem d_Mo_init_85 : decode m_Mo_init.2.1 85 = .ok (.aload_n 0, 1) := by decide +kernel
theorem d_Mo_init_86 : decode m_Mo_init.2.1 86 = .ok (.bipush 25, 2) := by decide +kernel
theorem d_Mo_init_88 : decode m_Mo_init.2.1 88 = .ok (.newarray .int, 2) := by decide +kernel
theorem d_Mo_init_90 : decode m_Mo_init.2.1 90 = .ok (.putfield 40, 3) := by decide +kernel
theorem d_Mo_init_93 : decode m_Mo_init.2.1 93 = .ok (.aload_n 0, 1) := by decide +kernel
theorem d_Mo_init_94 : decode m_Mo_init.2.1 94 = .ok (.bipush 25, 2) := by decide +kernel
theorem d_Mo_init_96 : decode m_Mo_init.2.1 96 = .ok (.newarray .int, 2) := by decide +kernel
theorem d_Mo_init_98 : decode m_Mo_init.2.1 98 = .ok (.putfield 43, 3) := by decide +kernel
theorem d_Mo_init_101 : decode m_Mo_init.2.1 101 = .ok (.aload_n 0, 1) := by decide +kernel
theorem d_Mo_init_102 : decode m_Mo_init.2.1 102 = .ok (.sipush 300, 3) := by decide +kernel
theorem d_Mo_init_105 : decode m_Mo_init.2.1 105 = .ok (.newarray .int, 2) := by decide +kernel
theorem d_Mo_init_107 : decode m_Mo_init.2.1 107 = .ok (.putfield 46, 3) := by decide +kernel
theorem d_Mo_init_110 : decode m_Mo_init.2.1 110 = .ok (.aload_n 0, 1) := by decide +kernel
theorem d_Mo_init_111 : decode m_Mo_init.2.1 111 = .ok (.sipush 1800, 3) := by decide +kernel
theorem d_Mo_init_114 : decode m_Mo_init.2.1 114 = .ok (.newarray .int, 2) := by decide +kernel
theorem d_Mo_init_116 : decode m_Mo_init.2.1 116 = .ok (.putfield 49, 3) := by decide +kernel
theorem d_Mo_init_119 : decode m_Mo_init.2.1 119 = .ok (.aload_n 0, 1) := by decide +kernel
theorem d_Mo_init_120 : decode m_Mo_init.2.1 120 = .ok (.bipush 25, 2) := by decide +kernel
theorem d_Mo_init_122 : decode m_Mo_init.2.1 122 = .ok (.newarray .int, 2) := by decide +kernel
theorem d_Mo_init_124 : decode m_Mo_init.2.1 124 = .ok (.putfield 52, 3) := by decide +kernel
theorem d_Mo_init_127 : decode m_Mo_init.2.1 127 = .ok (.aload_n 0, 1) := by decide +kernel
theorem d_Mo_init_128 : decode m_Mo_init.2.1 128 = .ok (.bipush 25, 2) := by decide +kernel
theorem d_Mo_init_130 : decode m_Mo_init.2.1 130 = .ok (.newarray .int, 2) := by decide +kernel
theorem d_Mo_init_132 : decode m_Mo_init.2.1 132 = .ok (.putfield 55, 3) := by decide +kernel
theorem d_Mo_init_135 : decode m_Mo_init.2.1 135 = .ok (.aload_n 0, 1) := by decide +kernel
theorem d_Mo_init_136 : decode m_Mo_init.2.1 136 = .ok (.sipush 150, 3) := by decide +kernel
theorem d_Mo_init_139 : decode m_Mo_init.2.1 139 = .ok (.newarray .int, 2) := by decide +kernel
theorem d_Mo_init_141 : decode m_Mo_init.2.1 141 = .ok (.putfield 58, 3) := by decide +kernel
theorem d_Mo_init_144 : decode m_Mo_init.2.1 144 = .ok (.aload_n 0, 1) := by decide +kernel
theorem d_Mo_init_145 : decode m_Mo_init.2.1 145 = .ok (.bipush 6, 2) := by decide +kernel
theorem d_Mo_init_147 : decode m_Mo_init.2.1 147 = .ok (.newarray .int, 2) := by decide +kernel
theorem d_Mo_init_149 : decode m_Mo_init.2.1 149 = .ok (.putfield 61, 3) := by decide +kernel
theorem d_Mo_init_152 : decode m_Mo_init.2.1 152 = .ok (.aload_n 0, 1) := by decide +kernel
theorem d_Mo_init_153 : decode m_Mo_init.2.1 153 = .ok (.bipush 10, 2) := by decide +kernel
theorem d_Mo_init_155 : decode m_Mo_init.2.1 155 = .ok (.newarray .boolean, 2) := by decide +kernel
theorem d_Mo_init_157 : decode m_Mo_init.2.1 157 = .ok (.putfield 64, 3) := by decide +kernel
theorem d_Mo_init_160 : decode m_Mo_init.2.1 160 = .ok (.aload_n 0, 1) := by decide +kernel
theorem d_Mo_init_161 : decode m_Mo_init.2.1 161 = .ok (.bipush 10, 2) := by decide +kernel
theorem d_Mo_init_163 : decode m_Mo_init.2.1 163 = .ok (.newarray .boolean, 2) := by decide +kernel
theorem d_Mo_init_165 : decode m_Mo_init.2.1 165 = .ok (.putfield 68, 3) := by decide +kernel
theorem d_Mo_init_168 : decode m_Mo_init.2.1 168 = .ok (.aload_n 0, 1) := by decide +kernel
theorem d_Mo_init_169 : decode m_Mo_init.2.1 169 = .ok (.bipush 10, 2) := by decide +kernel
theorem d_Mo_init_171 : decode m_Mo_init.2.1 171 = .ok (.newarray .int, 2) := by decide +kernel
theorem d_Mo_init_173 : decode m_Mo_init.2.1 173 = .ok (.putfield 71, 3) := by decide +kernel
theorem d_Mo_init_176 : decode m_Mo_init.2.1 176 = .ok (.aload_n 0, 1) := by decide +kernel
theorem d_Mo_init_177 : decode m_Mo_init.2.1 177 = .ok (.bipush 10, 2) := by decide +kernel
theorem d_Mo_init_179 : decode m_Mo_init.2.1 179 = .ok (.newarray .int, 2) := by decide +kernel
theorem d_Mo_init_181 : decode m_Mo_init.2.1 181 = .ok (.putfield 74, 3) := by decide +kernel
theorem d_Mo_init_184 : decode m_Mo_init.2.1 184 = .ok (.aload_n 0, 1) := by decide +kernel
theorem d_Mo_init_185 : decode m_Mo_init.2.1 185 = .ok (.bipush 10, 2) := by decide +kernel
theorem d_Mo_init_187 : decode m_Mo_init.2.1 187 = .ok (.newarray .int, 2) := by decide +kernel
theorem d_Mo_init_189 : decode m_Mo_init.2.1 189 = .ok (.putfield 77, 3) := by decide +kernel
theorem d_Mo_init_192 : decode m_Mo_init.2.1 192 = .ok (.aload_n 0, 1) := by decide +kernel
theorem d_Mo_init_193 : decode m_Mo_init.2.1 193 = .ok (.bipush 10, 2) := by decide +kernel
theorem d_Mo_init_195 : decode m_Mo_init.2.1 195 = .ok (.newarray .int, 2) := by decide +kernel
theorem d_Mo_init_197 : decode m_Mo_init.2.1 197 = .ok (.putfield 80, 3) := by decide +kernel
theorem d_Mo_init_200 : decode m_Mo_init.2.1 200 = .ok (.aload_n 0, 1) := by decide +kernel
theorem d_Mo_init_201 : decode m_Mo_init.2.1 201 = .ok (.bipush 10, 2) := by decide +kernel
theorem d_Mo_init_203 : decode m_Mo_init.2.1 203 = .ok (.newarray .int, 2) := by decide +kernel
theorem d_Mo_init_205 : decode m_Mo_init.2.1 205 = .ok (.putfield 83, 3) := by decide +kernel
theorem d_Mo_init_208 : decode m_Mo_init.2.1 208 = .ok (.aload_n 0, 1) := by decide +kernel
theorem d_Mo_init_209 : decode m_Mo_init.2.1 209 = .ok (.bipush 10, 2) := by decide +kernel
theorem d_Mo_init_211 : decode m_Mo_init.2.1 211 = .ok (.newarray .boolean, 2) := by decide +kernel
theorem d_Mo_init_213 : decode m_Mo_init.2.1 213 = .ok (.putfield 86, 3) := by decide +kernel
theorem d_Mo_init_216 : decode m_Mo_init.2.1 216 = .ok (.iconst 0, 1) := by decide +kernel
theorem d_Mo_init_217 : decode m_Mo_init.2.1 217 = .ok (.istore_n 1, 1) := by decide +kernel
theorem d_Mo_init_218 : decode m_Mo_init.2.1 218 = .ok (.iload_n 1, 1) := by decide +kernel
theorem d_Mo_init_219 : decode m_Mo_init.2.1 219 = .ok (.bipush 12, 2) := by decide +kernel
theorem d_Mo_init_221 : decode m_Mo_init.2.1 221 = .ok (.if_icmp .ge 16, 3) := by decide +kernel
theorem d_Mo_init_224 : decode m_Mo_init.2.1 224 = .ok (.aload_n 0, 1) := by decide +kernel
theorem d_Mo_init_225 : decode m_Mo_init.2.1 225 = .ok (.getfield 7, 3) := by decide +kernel
theorem d_Mo_init_228 : decode m_Mo_init.2.1 228 = .ok (.iload_n 1, 1) := by decide +kernel
theorem d_Mo_init_229 : decode m_Mo_init.2.1 229 = .ok (.iconst (-1), 1) := by decide +kernel
theorem d_Mo_init_230 : decode m_Mo_init.2.1 230 = .ok (.iastore, 1) := by decide +kernel
theorem d_Mo_init_231 : decode m_Mo_init.2.1 231 = .ok (.iinc 1 1, 3) := by decide +kernel
theorem d_Mo_init_234 : decode m_Mo_init.2.1 234 = .ok (.goto (-16), 3) := by decide +kernel
theorem d_Mo_init_237 : decode m_Mo_init.2.1 237 = .ok (.return_, 1) := by decide +kernel
theorem d_Mo_thrown_0 : decode m_Mo_thrown.2.1 0 = .ok (.aload_n 0, 1) := by decide +kernel
theorem d_Mo_thrown_1 : decode m_Mo_thrown.2.1 1 = .ok (.getfield 89, 3) := by decide +kernel
theorem d_Mo_thrown_4 : decode m_Mo_thrown.2.1 4 = .ok (.ireturn, 1) := by decide +kernel
theorem d_Mo_type_0 : decode m_Mo_type.2.1 0 = .ok (.aload_n 0, 1) := by decide +kernel
theorem d_Mo_type_1 : decode m_Mo_type.2.1 1 = .ok (.iconst 0, 1) := by decide +kernel
theorem d_Mo_type_2 : decode m_Mo_type.2.1 2 = .ok (.putfield 89, 3) := by decide +kernel
theorem d_Mo_type_5 : decode m_Mo_type.2.1 5 = .ok (.aload_n 0, 1) := by decide +kernel
theorem d_Mo_type_6 : decode m_Mo_type.2.1 6 = .ok (.getfield 93, 3) := by decide +kernel
theorem d_Mo_type_9 : decode m_Mo_type.2.1 9 = .ok (.bipush 12, 2) := by decide +kernel
theorem d_Mo_type_11 : decode m_Mo_type.2.1 11 = .ok (.if_icmp .ne 5, 3) := by decide +kernel
theorem d_Mo_type_14 : decode m_Mo_type.2.1 14 = .ok (.iconst 0, 1) := by decide +kernel
theorem d_Mo_type_15 : decode m_Mo_type.2.1 15 = .ok (.ireturn, 1) := by decide +kernel
theorem d_Mo_type_16 : decode m_Mo_type.2.1 16 = .ok (.aload_n 0, 1) := by decide +kernel
theorem d_Mo_type_17 : decode m_Mo_type.2.1 17 = .ok (.getfield 22, 3) := by decide +kernel
theorem d_Mo_type_20 : decode m_Mo_type.2.1 20 = .ok (.aload_n 0, 1) := by decide +kernel
theorem d_Mo_type_21 : decode m_Mo_type.2.1 21 = .ok (.getfield 93, 3) := by decide +kernel
theorem d_Mo_type_24 : decode m_Mo_type.2.1 24 = .ok (.iload_n 1, 1) := by decide +kernel
theorem d_Mo_type_25 : decode m_Mo_type.2.1 25 = .ok (.iastore, 1) := by decide +kernel
theorem d_Mo_type_26 : decode m_Mo_type.2.1 26 = .ok (.aload_n 0, 1) := by decide +kernel
theorem d_Mo_type_27 : decode m_Mo_type.2.1 27 = .ok (.dup, 1) := by decide +kernel
theorem d_Mo_type_28 : decode m_Mo_type.2.1 28 = .ok (.getfield 93, 3) := by decide +kernel
theorem d_Mo_type_31 : decode m_Mo_type.2.1 31 = .ok (.iconst 1, 1) := by decide +kernel
theorem d_Mo_type_32 : decode m_Mo_type.2.1 32 = .ok (.iadd, 1) := by decide +kernel
theorem d_Mo_type_33 : decode m_Mo_type.2.1 33 = .ok (.putfield 93, 3) := by decide +kernel
theorem d_Mo_type_36 : decode m_Mo_type.2.1 36 = .ok (.iconst 1, 1) := by decide +kernel
theorem d_Mo_type_37 : decode m_Mo_type.2.1 37 = .ok (.ireturn, 1) := by decide +kernel
theorem d_Mo_command_0 : decode m_Mo_command.2.1 0 = .ok (.aload_n 0, 1) := by decide +kernel
theorem d_Mo_command_1 : decode m_Mo_command.2.1 1 = .ok (.iconst 0, 1) := by decide +kernel
theorem d_Mo_command_2 : decode m_Mo_command.2.1 2 = .ok (.putfield 89, 3) := by decide +kernel
theorem d_Mo_command_5 : decode m_Mo_command.2.1 5 = .ok (.aload_n 0, 1) := by decide +kernel
theorem d_Mo_command_6 : decode m_Mo_command.2.1 6 = .ok (.invokevirtual 118, 3) := by decide +kernel
theorem d_Mo_command_9 : decode m_Mo_command.2.1 9 = .ok (.ifCond .ne 14, 3) := by decide +kernel
theorem d_Mo_command_12 : decode m_Mo_command.2.1 12 = .ok (.aload_n 0, 1) := by decide +kernel
theorem d_Mo_command_13 : decode m_Mo_command.2.1 13 = .ok (.iconst 0, 1) := by decide +kernel
theorem d_Mo_command_14 : decode m_Mo_command.2.1 14 = .ok (.putfield 93, 3) := by decide +kernel
theorem d_Mo_command_17 : decode m_Mo_command.2.1 17 = .ok (.aload_n 0, 1) := by decide +kernel
theorem d_Mo_command_18 : decode m_Mo_command.2.1 18 = .ok (.iconst 1, 1) := by decide +kernel
theorem d_Mo_command_19 : decode m_Mo_command.2.1 19 = .ok (.invokevirtual 122, 3) := by decide +kernel
theorem d_Mo_command_22 : decode m_Mo_command.2.1 22 = .ok (.ireturn, 1) := by decide +kernel
theorem d_Mo_command_23 : decode m_Mo_command.2.1 23 = .ok (.aload_n 0, 1) := by decide +kernel
theorem d_Mo_command_24 : decode m_Mo_command.2.1 24 = .ok (.getfield 125, 3) := by decide +kernel
theorem d_Mo_command_27 : decode m_Mo_command.2.1 27 = .ok (.bipush 10, 2) := by decide +kernel
theorem d_Mo_command_29 : decode m_Mo_command.2.1 29 = .ok (.if_icmp .ne 9, 3) := by decide +kernel
theorem d_Mo_command_32 : decode m_Mo_command.2.1 32 = .ok (.aload_n 0, 1) := by decide +kernel
theorem d_Mo_command_33 : decode m_Mo_command.2.1 33 = .ok (.iconst 2, 1) := by decide +kernel
theorem d_Mo_command_34 : decode m_Mo_command.2.1 34 = .ok (.invokevirtual 122, 3) := by decide +kernel
theorem d_Mo_command_37 : decode m_Mo_command.2.1 37 = .ok (.ireturn, 1) := by decide +kernel
theorem d_Mo_command_38 : decode m_Mo_command.2.1 38 = .ok (.aload_n 0, 1) := by decide +kernel
theorem d_Mo_command_39 : decode m_Mo_command.2.1 39 = .ok (.aload_n 0, 1) := by decide +kernel
theorem d_Mo_command_40 : decode m_Mo_command.2.1 40 = .ok (.getfield 125, 3) := by decide +kernel
theorem d_Mo_command_43 : decode m_Mo_command.2.1 43 = .ok (.invokevirtual 128, 3) := by decide +kernel
theorem d_Mo_command_46 : decode m_Mo_command.2.1 46 = .ok (.aload_n 0, 1) := by decide +kernel
theorem d_Mo_command_47 : decode m_Mo_command.2.1 47 = .ok (.dup, 1) := by decide +kernel
theorem d_Mo_command_48 : decode m_Mo_command.2.1 48 = .ok (.getfield 125, 3) := by decide +kernel
theorem d_Mo_command_51 : decode m_Mo_command.2.1 51 = .ok (.iconst 1, 1) := by decide +kernel
theorem d_Mo_command_52 : decode m_Mo_command.2.1 52 = .ok (.iadd, 1) := by decide +kernel
theorem d_Mo_command_53 : decode m_Mo_command.2.1 53 = .ok (.putfield 125, 3) := by decide +kernel
theorem d_Mo_command_56 : decode m_Mo_command.2.1 56 = .ok (.aload_n 0, 1) := by decide +kernel
theorem d_Mo_command_57 : decode m_Mo_command.2.1 57 = .ok (.getfield 125, 3) := by decide +kernel
theorem d_Mo_command_60 : decode m_Mo_command.2.1 60 = .ok (.iconst 1, 1) := by decide +kernel
theorem d_Mo_command_61 : decode m_Mo_command.2.1 61 = .ok (.isub, 1) := by decide +kernel
theorem d_Mo_command_62 : decode m_Mo_command.2.1 62 = .ok (.ireturn, 1) := by decide +kernel
theorem d_Mo_isCommand_0 : decode m_Mo_isCommand.2.1 0 = .ok (.iconst 0, 1) := by decide +kernel
theorem d_Mo_isCommand_1 : decode m_Mo_isCommand.2.1 1 = .ok (.istore_n 1, 1) := by decide +kernel
theorem d_Mo_isCommand_2 : decode m_Mo_isCommand.2.1 2 = .ok (.iload_n 1, 1) := by decide +kernel
theorem d_Mo_isCommand_3 : decode m_Mo_isCommand.2.1 3 = .ok (.aload_n 0, 1) := by decide +kernel
theorem d_Mo_isCommand_4 : decode m_Mo_isCommand.2.1 4 = .ok (.getfield 93, 3) := by decide +kernel
theorem d_Mo_isCommand_7 : decode m_Mo_isCommand.2.1 7 = .ok (.if_icmp .ge 32, 3) := by decide +kernel
theorem d_Mo_isCommand_10 : decode m_Mo_isCommand.2.1 10 = .ok (.aload_n 0, 1) := by decide +kernel
theorem d_Mo_isCommand_11 : decode m_Mo_isCommand.2.1 11 = .ok (.getfield 22, 3) := by decide +kernel
theorem d_Mo_isCommand_14 : decode m_Mo_isCommand.2.1 14 = .ok (.iload_n 1, 1) := by decide +kernel
theorem d_Mo_isCommand_15 : decode m_Mo_isCommand.2.1 15 = .ok (.iaload, 1) := by decide +kernel
theorem d_Mo_isCommand_16 : decode m_Mo_isCommand.2.1 16 = .ok (.bipush 63, 2) := by decide +kernel
theorem d_Mo_isCommand_18 : decode m_Mo_isCommand.2.1 18 = .ok (.if_icmp .ne 21, 3) := by decide +kernel
theorem d_Mo_isCommand_21 : decode m_Mo_isCommand.2.1 21 = .ok (.aload_n 0, 1) := by decide +kernel
theorem d_Mo_isCommand_22 : decode m_Mo_isCommand.2.1 22 = .ok (.iload_n 1, 1) := by decide +kernel
theorem d_Mo_isCommand_23 : decode m_Mo_isCommand.2.1 23 = .ok (.iconst 1, 1) := by decide +kernel
theorem d_Mo_isCommand_24 : decode m_Mo_isCommand.2.1 24 = .ok (.iadd, 1) := by decide +kernel
theorem d_Mo_isCommand_25 : decode m_Mo_isCommand.2.1 25 = .ok (.invokevirtual 100, 3) := by decide +kernel
theorem d_Mo_isCommand_28 : decode m_Mo_isCommand.2.1 28 = .ok (.ifCond .ge 5, 3) := by decide +kernel
theorem d_Mo_isCommand_31 : decode m_Mo_isCommand.2.1 31 = .ok (.iconst 0, 1) := by decide +kernel
theorem d_Mo_isCommand_32 : decode m_Mo_isCommand.2.1 32 = .ok (.ireturn, 1) := by decide +kernel
theorem d_Mo_isCommand_33 : decode m_Mo_isCommand.2.1 33 = .ok (.iinc 1 2, 3) := by decide +kernel
theorem d_Mo_isCommand_36 : decode m_Mo_isCommand.2.1 36 = .ok (.goto (-34), 3) := by decide +kernel
theorem d_Mo_isCommand_39 : decode m_Mo_isCommand.2.1 39 = .ok (.iload_n 1, 1) := by decide +kernel
theorem d_Mo_isCommand_40 : decode m_Mo_isCommand.2.1 40 = .ok (.aload_n 0, 1) := by decide +kernel
theorem d_Mo_isCommand_41 : decode m_Mo_isCommand.2.1 41 = .ok (.getfield 93, 3) := by decide +kernel
theorem d_Mo_isCommand_44 : decode m_Mo_isCommand.2.1 44 = .ok (.if_icmp .lt 5, 3) := by decide +kernel
theorem d_Mo_isCommand_47 : decode m_Mo_isCommand.2.1 47 = .ok (.iconst 0, 1) := by decide +kernel
theorem d_Mo_isCommand_48 : decode m_Mo_isCommand.2.1 48 = .ok (.ireturn, 1) := by decide +kernel
theorem d_Mo_isCommand_49 : decode m_Mo_isCommand.2.1 49 = .ok (.aload_n 0, 1) := by decide +kernel
theorem d_Mo_isCommand_50 : decode m_Mo_isCommand.2.1 50 = .ok (.getfield 22, 3) := by decide +kernel
theorem d_Mo_isCommand_53 : decode m_Mo_isCommand.2.1 53 = .ok (.iload_n 1, 1) := by decide +kernel
theorem d_Mo_isCommand_54 : decode m_Mo_isCommand.2.1 54 = .ok (.iaload, 1) := by decide +kernel
theorem d_Mo_isCommand_55 : decode m_Mo_isCommand.2.1 55 = .ok (.lookupswitch 143 #[(43, 90), (99, 81), (102, 99), (106, 90), (108, 126), (110, 135), (112, 81), (115, 81), (120, 126)], 81) := by decide +kernel
theorem d_Mo_isCommand_136 : decode m_Mo_isCommand.2.1 136 = .ok (.aload_n 0, 1) := by decide +kernel
theorem d_Mo_isCommand_137 : decode m_Mo_isCommand.2.1 137 = .ok (.iload_n 1, 1) := by decide +kernel
theorem d_Mo_isCommand_138 : decode m_Mo_isCommand.2.1 138 = .ok (.iconst 1, 1) := by decide +kernel
theorem d_Mo_isCommand_139 : decode m_Mo_isCommand.2.1 139 = .ok (.iadd, 1) := by decide +kernel
theorem d_Mo_isCommand_140 : decode m_Mo_isCommand.2.1 140 = .ok (.iconst 2, 1) := by decide +kernel
theorem d_Mo_isCommand_141 : decode m_Mo_isCommand.2.1 141 = .ok (.invokevirtual 104, 3) := by decide +kernel
theorem d_Mo_isCommand_144 : decode m_Mo_isCommand.2.1 144 = .ok (.ireturn, 1) := by decide +kernel
theorem d_Mo_isCommand_145 : decode m_Mo_isCommand.2.1 145 = .ok (.aload_n 0, 1) := by decide +kernel
theorem d_Mo_isCommand_146 : decode m_Mo_isCommand.2.1 146 = .ok (.iload_n 1, 1) := by decide +kernel
theorem d_Mo_isCommand_147 : decode m_Mo_isCommand.2.1 147 = .ok (.iconst 1, 1) := by decide +kernel
theorem d_Mo_isCommand_148 : decode m_Mo_isCommand.2.1 148 = .ok (.iadd, 1) := by decide +kernel
theorem d_Mo_isCommand_149 : decode m_Mo_isCommand.2.1 149 = .ok (.iconst 3, 1) := by decide +kernel
theorem d_Mo_isCommand_150 : decode m_Mo_isCommand.2.1 150 = .ok (.invokevirtual 104, 3) := by decide +kernel
theorem d_Mo_isCommand_153 : decode m_Mo_isCommand.2.1 153 = .ok (.ireturn, 1) := by decide +kernel
theorem d_Mo_isCommand_154 : decode m_Mo_isCommand.2.1 154 = .ok (.aload_n 0, 1) := by decide +kernel
theorem d_Mo_isCommand_155 : decode m_Mo_isCommand.2.1 155 = .ok (.iload_n 1, 1) := by decide +kernel
theorem d_Mo_isCommand_156 : decode m_Mo_isCommand.2.1 156 = .ok (.iconst 1, 1) := by decide +kernel
theorem d_Mo_isCommand_157 : decode m_Mo_isCommand.2.1 157 = .ok (.iadd, 1) := by decide +kernel
theorem d_Mo_isCommand_158 : decode m_Mo_isCommand.2.1 158 = .ok (.invokevirtual 108, 3) := by decide +kernel
theorem d_Mo_isCommand_161 : decode m_Mo_isCommand.2.1 161 = .ok (.ifCond .eq 18, 3) := by decide +kernel
theorem d_Mo_isCommand_164 : decode m_Mo_isCommand.2.1 164 = .ok (.aload_n 0, 1) := by decide +kernel
theorem d_Mo_isCommand_165 : decode m_Mo_isCommand.2.1 165 = .ok (.iload_n 1, 1) := by decide +kernel
theorem d_Mo_isCommand_166 : decode m_Mo_isCommand.2.1 166 = .ok (.iconst 2, 1) := by decide +kernel
theorem d_Mo_isCommand_167 : decode m_Mo_isCommand.2.1 167 = .ok (.iadd, 1) := by decide +kernel
theorem d_Mo_isCommand_168 : decode m_Mo_isCommand.2.1 168 = .ok (.iconst 2, 1) := by decide +kernel
theorem d_Mo_isCommand_169 : decode m_Mo_isCommand.2.1 169 = .ok (.invokevirtual 104, 3) := by decide +kernel
theorem d_Mo_isCommand_172 : decode m_Mo_isCommand.2.1 172 = .ok (.ifCond .eq 7, 3) := by decide +kernel
theorem d_Mo_isCommand_175 : decode m_Mo_isCommand.2.1 175 = .ok (.iconst 1, 1) := by decide +kernel
theorem d_Mo_isCommand_176 : decode m_Mo_isCommand.2.1 176 = .ok (.goto 4, 3) := by decide +kernel
theorem d_Mo_isCommand_179 : decode m_Mo_isCommand.2.1 179 = .ok (.iconst 0, 1) := by decide +kernel
theorem d_Mo_isCommand_180 : decode m_Mo_isCommand.2.1 180 = .ok (.ireturn, 1) := by decide +kernel
theorem d_Mo_isCommand_181 : decode m_Mo_isCommand.2.1 181 = .ok (.aload_n 0, 1) := by decide +kernel
theorem d_Mo_isCommand_182 : decode m_Mo_isCommand.2.1 182 = .ok (.iload_n 1, 1) := by decide +kernel
theorem d_Mo_isCommand_183 : decode m_Mo_isCommand.2.1 183 = .ok (.iconst 1, 1) := by decide +kernel
theorem d_Mo_isCommand_184 : decode m_Mo_isCommand.2.1 184 = .ok (.iadd, 1) := by decide +kernel
theorem d_Mo_isCommand_185 : decode m_Mo_isCommand.2.1 185 = .ok (.iconst 1, 1) := by decide +kernel
theorem d_Mo_isCommand_186 : decode m_Mo_isCommand.2.1 186 = .ok (.invokevirtual 104, 3) := by decide +kernel
theorem d_Mo_isCommand_189 : decode m_Mo_isCommand.2.1 189 = .ok (.ireturn, 1) := by decide +kernel
theorem d_Mo_isCommand_190 : decode m_Mo_isCommand.2.1 190 = .ok (.aload_n 0, 1) := by decide +kernel
theorem d_Mo_isCommand_191 : decode m_Mo_isCommand.2.1 191 = .ok (.iload_n 1, 1) := by decide +kernel
theorem d_Mo_isCommand_192 : decode m_Mo_isCommand.2.1 192 = .ok (.iconst 1, 1) := by decide +kernel
theorem d_Mo_isCommand_193 : decode m_Mo_isCommand.2.1 193 = .ok (.iadd, 1) := by decide +kernel
theorem d_Mo_isCommand_194 : decode m_Mo_isCommand.2.1 194 = .ok (.invokevirtual 111, 3) := by decide +kernel
theorem d_Mo_isCommand_197 : decode m_Mo_isCommand.2.1 197 = .ok (.ireturn, 1) := by decide +kernel
theorem d_Mo_isCommand_198 : decode m_Mo_isCommand.2.1 198 = .ok (.iconst 0, 1) := by decide +kernel
theorem d_Mo_isCommand_199 : decode m_Mo_isCommand.2.1 199 = .ok (.ireturn, 1) := by decide +kernel
theorem d_Mo_fileAt_0 : decode m_Mo_fileAt.2.1 0 = .ok (.iload_n 1, 1) := by decide +kernel
theorem d_Mo_fileAt_1 : decode m_Mo_fileAt.2.1 1 = .ok (.aload_n 0, 1) := by decide +kernel
theorem d_Mo_fileAt_2 : decode m_Mo_fileAt.2.1 2 = .ok (.getfield 93, 3) := by decide +kernel
theorem d_Mo_fileAt_5 : decode m_Mo_fileAt.2.1 5 = .ok (.if_icmp .ge 15, 3) := by decide +kernel
theorem d_Mo_fileAt_8 : decode m_Mo_fileAt.2.1 8 = .ok (.aload_n 0, 1) := by decide +kernel
theorem d_Mo_fileAt_9 : decode m_Mo_fileAt.2.1 9 = .ok (.getfield 22, 3) := by decide +kernel
theorem d_Mo_fileAt_12 : decode m_Mo_fileAt.2.1 12 = .ok (.iload_n 1, 1) := by decide +kernel
theorem d_Mo_fileAt_13 : decode m_Mo_fileAt.2.1 13 = .ok (.iaload, 1) := by decide +kernel
theorem d_Mo_fileAt_14 : decode m_Mo_fileAt.2.1 14 = .ok (.bipush 97, 2) := by decide +kernel
theorem d_Mo_fileAt_16 : decode m_Mo_fileAt.2.1 16 = .ok (.isub, 1) := by decide +kernel
theorem d_Mo_fileAt_17 : decode m_Mo_fileAt.2.1 17 = .ok (.goto 4, 3) := by decide +kernel
theorem d_Mo_fileAt_20 : decode m_Mo_fileAt.2.1 20 = .ok (.iconst (-1), 1) := by decide +kernel
theorem d_Mo_fileAt_21 : decode m_Mo_fileAt.2.1 21 = .ok (.istore_n 2, 1) := by decide +kernel
theorem d_Mo_fileAt_22 : decode m_Mo_fileAt.2.1 22 = .ok (.iload_n 2, 1) := by decide +kernel
theorem d_Mo_fileAt_23 : decode m_Mo_fileAt.2.1 23 = .ok (.invokestatic 96, 3) := by decide +kernel
theorem d_Mo_fileAt_26 : decode m_Mo_fileAt.2.1 26 = .ok (.ifCond .eq 7, 3) := by decide +kernel
theorem d_Mo_fileAt_29 : decode m_Mo_fileAt.2.1 29 = .ok (.iload_n 2, 1) := by decide +kernel
theorem d_Mo_fileAt_30 : decode m_Mo_fileAt.2.1 30 = .ok (.goto 4, 3) := by decide +kernel
theorem d_Mo_fileAt_33 : decode m_Mo_fileAt.2.1 33 = .ok (.iconst (-1), 1) := by decide +kernel
theorem d_Mo_fileAt_34 : decode m_Mo_fileAt.2.1 34 = .ok (.ireturn, 1) := by decide +kernel
theorem d_Mo_isFile_0 : decode m_Mo_isFile.2.1 0 = .ok (.iload_n 0, 1) := by decide +kernel
theorem d_Mo_isFile_1 : decode m_Mo_isFile.2.1 1 = .ok (.ifCond .lt 13, 3) := by decide +kernel
theorem d_Mo_isFile_4 : decode m_Mo_isFile.2.1 4 = .ok (.iload_n 0, 1) := by decide +kernel
theorem d_Mo_isFile_5 : decode m_Mo_isFile.2.1 5 = .ok (.bipush 12, 2) := by decide +kernel
theorem d_Mo_isFile_7 : decode m_Mo_isFile.2.1 7 = .ok (.if_icmp .ge 7, 3) := by decide +kernel
theorem d_Mo_isFile_10 : decode m_Mo_isFile.2.1 10 = .ok (.iconst 1, 1) := by decide +kernel
theorem d_Mo_isFile_11 : decode m_Mo_isFile.2.1 11 = .ok (.goto 4, 3) := by decide +kernel
theorem d_Mo_isFile_14 : decode m_Mo_isFile.2.1 14 = .ok (.iconst 0, 1) := by decide +kernel
theorem d_Mo_isFile_15 : decode m_Mo_isFile.2.1 15 = .ok (.ireturn, 1) := by decide +kernel
theorem d_Mo_files_0 : decode m_Mo_files.2.1 0 = .ok (.aload_n 0, 1) := by decide +kernel
theorem d_Mo_files_1 : decode m_Mo_files.2.1 1 = .ok (.getfield 93, 3) := by decide +kernel
theorem d_Mo_files_4 : decode m_Mo_files.2.1 4 = .ok (.iload_n 1, 1) := by decide +kernel
theorem d_Mo_files_5 : decode m_Mo_files.2.1 5 = .ok (.iload_n 2, 1) := by decide +kernel
theorem d_Mo_files_6 : decode m_Mo_files.2.1 6 = .ok (.iadd, 1) := by decide +kernel
theorem d_Mo_files_7 : decode m_Mo_files.2.1 7 = .ok (.if_icmp .ne 7, 3) := by decide +kernel
theorem d_Mo_files_10 : decode m_Mo_files.2.1 10 = .ok (.iconst 1, 1) := by decide +kernel
theorem d_Mo_files_11 : decode m_Mo_files.2.1 11 = .ok (.goto 4, 3) := by decide +kernel
theorem d_Mo_files_14 : decode m_Mo_files.2.1 14 = .ok (.iconst 0, 1) := by decide +kernel
theorem d_Mo_files_15 : decode m_Mo_files.2.1 15 = .ok (.istore_n 3, 1) := by decide +kernel
theorem d_Mo_files_16 : decode m_Mo_files.2.1 16 = .ok (.iload_n 1, 1) := by decide +kernel
theorem d_Mo_files_17 : decode m_Mo_files.2.1 17 = .ok (.istore 4, 2) := by decide +kernel
theorem d_Mo_files_19 : decode m_Mo_files.2.1 19 = .ok (.iload 4, 2) := by decide +kernel
theorem d_Mo_files_21 : decode m_Mo_files.2.1 21 = .ok (.iload_n 1, 1) := by decide +kernel
theorem d_Mo_files_22 : decode m_Mo_files.2.1 22 = .ok (.iload_n 2, 1) := by decide +kernel
theorem d_Mo_files_23 : decode m_Mo_files.2.1 23 = .ok (.iadd, 1) := by decide +kernel
theorem d_Mo_files_24 : decode m_Mo_files.2.1 24 = .ok (.if_icmp .ge 28, 3) := by decide +kernel
theorem d_Mo_files_27 : decode m_Mo_files.2.1 27 = .ok (.iload_n 3, 1) := by decide +kernel
theorem d_Mo_files_28 : decode m_Mo_files.2.1 28 = .ok (.ifCond .eq 16, 3) := by decide +kernel
theorem d_Mo_files_31 : decode m_Mo_files.2.1 31 = .ok (.aload_n 0, 1) := by decide +kernel
theorem d_Mo_files_32 : decode m_Mo_files.2.1 32 = .ok (.iload 4, 2) := by decide +kernel
theorem d_Mo_files_34 : decode m_Mo_files.2.1 34 = .ok (.invokevirtual 100, 3) := by decide +kernel
theorem d_Mo_files_37 : decode m_Mo_files.2.1 37 = .ok (.ifCond .lt 7, 3) := by decide +kernel
theorem d_Mo_files_40 : decode m_Mo_files.2.1 40 = .ok (.iconst 1, 1) := by decide +kernel
theorem d_Mo_files_41 : decode m_Mo_files.2.1 41 = .ok (.goto 4, 3) := by decide +kernel
theorem d_Mo_files_44 : decode m_Mo_files.2.1 44 = .ok (.iconst 0, 1) := by decide +kernel
theorem d_Mo_files_45 : decode m_Mo_files.2.1 45 = .ok (.istore_n 3, 1) := by decide +kernel
theorem d_Mo_files_46 : decode m_Mo_files.2.1 46 = .ok (.iinc 4 1, 3) := by decide +kernel
theorem d_Mo_files_49 : decode m_Mo_files.2.1 49 = .ok (.goto (-30), 3) := by decide +kernel
theorem d_Mo_files_52 : decode m_Mo_files.2.1 52 = .ok (.iload_n 3, 1) := by decide +kernel
theorem d_Mo_files_53 : decode m_Mo_files.2.1 53 = .ok (.ireturn, 1) := by decide +kernel
theorem d_Mo_isDigit_0 : decode m_Mo_isDigit.2.1 0 = .ok (.iload_n 1, 1) := by decide +kernel
theorem d_Mo_isDigit_1 : decode m_Mo_isDigit.2.1 1 = .ok (.aload_n 0, 1) := by decide +kernel
theorem d_Mo_isDigit_2 : decode m_Mo_isDigit.2.1 2 = .ok (.getfield 93, 3) := by decide +kernel
theorem d_Mo_isDigit_5 : decode m_Mo_isDigit.2.1 5 = .ok (.if_icmp .ge 29, 3) := by decide +kernel
theorem d_Mo_isDigit_8 : decode m_Mo_isDigit.2.1 8 = .ok (.aload_n 0, 1) := by decide +kernel
theorem d_Mo_isDigit_9 : decode m_Mo_isDigit.2.1 9 = .ok (.getfield 22, 3) := by decide +kernel
theorem d_Mo_isDigit_12 : decode m_Mo_isDigit.2.1 12 = .ok (.iload_n 1, 1) := by decide +kernel
theorem d_Mo_isDigit_13 : decode m_Mo_isDigit.2.1 13 = .ok (.iaload, 1) := by decide +kernel
theorem d_Mo_isDigit_14 : decode m_Mo_isDigit.2.1 14 = .ok (.bipush 49, 2) := by decide +kernel
theorem d_Mo_isDigit_16 : decode m_Mo_isDigit.2.1 16 = .ok (.if_icmp .lt 18, 3) := by decide +kernel
theorem d_Mo_isDigit_19 : decode m_Mo_isDigit.2.1 19 = .ok (.aload_n 0, 1) := by decide +kernel
theorem d_Mo_isDigit_20 : decode m_Mo_isDigit.2.1 20 = .ok (.getfield 22, 3) := by decide +kernel
theorem d_Mo_isDigit_23 : decode m_Mo_isDigit.2.1 23 = .ok (.iload_n 1, 1) := by decide +kernel
theorem d_Mo_isDigit_24 : decode m_Mo_isDigit.2.1 24 = .ok (.iaload, 1) := by decide +kernel
theorem d_Mo_isDigit_25 : decode m_Mo_isDigit.2.1 25 = .ok (.bipush 57, 2) := by decide +kernel
theorem d_Mo_isDigit_27 : decode m_Mo_isDigit.2.1 27 = .ok (.if_icmp .gt 7, 3) := by decide +kernel
theorem d_Mo_isDigit_30 : decode m_Mo_isDigit.2.1 30 = .ok (.iconst 1, 1) := by decide +kernel
theorem d_Mo_isDigit_31 : decode m_Mo_isDigit.2.1 31 = .ok (.goto 4, 3) := by decide +kernel
theorem d_Mo_isDigit_34 : decode m_Mo_isDigit.2.1 34 = .ok (.iconst 0, 1) := by decide +kernel
theorem d_Mo_isDigit_35 : decode m_Mo_isDigit.2.1 35 = .ok (.ireturn, 1) := by decide +kernel
theorem d_Mo_digitsAndFile_0 : decode m_Mo_digitsAndFile.2.1 0 = .ok (.iconst 0, 1) := by decide +kernel
theorem d_Mo_digitsAndFile_1 : decode m_Mo_digitsAndFile.2.1 1 = .ok (.istore_n 2, 1) := by decide +kernel
theorem d_Mo_digitsAndFile_2 : decode m_Mo_digitsAndFile.2.1 2 = .ok (.iload_n 2, 1) := by decide +kernel
theorem d_Mo_digitsAndFile_3 : decode m_Mo_digitsAndFile.2.1 3 = .ok (.iconst 5, 1) := by decide +kernel
theorem d_Mo_digitsAndFile_4 : decode m_Mo_digitsAndFile.2.1 4 = .ok (.if_icmp .ge 19, 3) := by decide +kernel
theorem d_Mo_digitsAndFile_7 : decode m_Mo_digitsAndFile.2.1 7 = .ok (.aload_n 0, 1) := by decide +kernel
theorem d_Mo_digitsAndFile_8 : decode m_Mo_digitsAndFile.2.1 8 = .ok (.iload_n 1, 1) := by decide +kernel
theorem d_Mo_digitsAndFile_9 : decode m_Mo_digitsAndFile.2.1 9 = .ok (.iload_n 2, 1) := by decide +kernel
theorem d_Mo_digitsAndFile_10 : decode m_Mo_digitsAndFile.2.1 10 = .ok (.iadd, 1) := by decide +kernel
theorem d_Mo_digitsAndFile_11 : decode m_Mo_digitsAndFile.2.1 11 = .ok (.invokevirtual 108, 3) := by decide +kernel
theorem d_Mo_digitsAndFile_14 : decode m_Mo_digitsAndFile.2.1 14 = .ok (.ifCond .eq 9, 3) := by decide +kernel
theorem d_Mo_digitsAndFile_17 : decode m_Mo_digitsAndFile.2.1 17 = .ok (.iinc 2 1, 3) := by decide +kernel
theorem d_Mo_digitsAndFile_20 : decode m_Mo_digitsAndFile.2.1 20 = .ok (.goto (-18), 3) := by decide +kernel
theorem d_Mo_digitsAndFile_23 : decode m_Mo_digitsAndFile.2.1 23 = .ok (.iload_n 2, 1) := by decide +kernel
theorem d_Mo_digitsAndFile_24 : decode m_Mo_digitsAndFile.2.1 24 = .ok (.iconst 1, 1) := by decide +kernel
theorem d_Mo_digitsAndFile_25 : decode m_Mo_digitsAndFile.2.1 25 = .ok (.if_icmp .lt 23, 3) := by decide +kernel
theorem d_Mo_digitsAndFile_28 : decode m_Mo_digitsAndFile.2.1 28 = .ok (.iload_n 2, 1) := by decide +kernel
theorem d_Mo_digitsAndFile_29 : decode m_Mo_digitsAndFile.2.1 29 = .ok (.iconst 4, 1) := by decide +kernel
theorem d_Mo_digitsAndFile_30 : decode m_Mo_digitsAndFile.2.1 30 = .ok (.if_icmp .gt 18, 3) := by decide +kernel
theorem d_Mo_digitsAndFile_33 : decode m_Mo_digitsAndFile.2.1 33 = .ok (.aload_n 0, 1) := by decide +kernel
theorem d_Mo_digitsAndFile_34 : decode m_Mo_digitsAndFile.2.1 34 = .ok (.iload_n 1, 1) := by decide +kernel
theorem d_Mo_digitsAndFile_35 : decode m_Mo_digitsAndFile.2.1 35 = .ok (.iload_n 2, 1) := by decide +kernel
theorem d_Mo_digitsAndFile_36 : decode m_Mo_digitsAndFile.2.1 36 = .ok (.iadd, 1) := by decide +kernel
theorem d_Mo_digitsAndFile_37 : decode m_Mo_digitsAndFile.2.1 37 = .ok (.iconst 1, 1) := by decide +kernel
theorem d_Mo_digitsAndFile_38 : decode m_Mo_digitsAndFile.2.1 38 = .ok (.invokevirtual 104, 3) := by decide +kernel
theorem d_Mo_digitsAndFile_41 : decode m_Mo_digitsAndFile.2.1 41 = .ok (.ifCond .eq 7, 3) := by decide +kernel
theorem d_Mo_digitsAndFile_44 : decode m_Mo_digitsAndFile.2.1 44 = .ok (.iconst 1, 1) := by decide +kernel
theorem d_Mo_digitsAndFile_45 : decode m_Mo_digitsAndFile.2.1 45 = .ok (.goto 4, 3) := by decide +kernel
theorem d_Mo_digitsAndFile_48 : decode m_Mo_digitsAndFile.2.1 48 = .ok (.iconst 0, 1) := by decide +kernel
theorem d_Mo_digitsAndFile_49 : decode m_Mo_digitsAndFile.2.1 49 = .ok (.ireturn, 1) := by decide +kernel
theorem d_Mo_fail_0 : decode m_Mo_fail.2.1 0 = .ok (.aload_n 0, 1) := by decide +kernel
theorem d_Mo_fail_1 : decode m_Mo_fail.2.1 1 = .ok (.iload_n 1, 1) := by decide +kernel
theorem d_Mo_fail_2 : decode m_Mo_fail.2.1 2 = .ok (.putfield 89, 3) := by decide +kernel
theorem d_Mo_fail_5 : decode m_Mo_fail.2.1 5 = .ok (.iconst 0, 1) := by decide +kernel
theorem d_Mo_fail_6 : decode m_Mo_fail.2.1 6 = .ok (.ireturn, 1) := by decide +kernel
theorem d_Mo_keep_0 : decode m_Mo_keep.2.1 0 = .ok (.aload_n 0, 1) := by decide +kernel
theorem d_Mo_keep_1 : decode m_Mo_keep.2.1 1 = .ok (.getfield 25, 3) := by decide +kernel
theorem d_Mo_keep_4 : decode m_Mo_keep.2.1 4 = .ok (.iload_n 1, 1) := by decide +kernel
theorem d_Mo_keep_5 : decode m_Mo_keep.2.1 5 = .ok (.aload_n 0, 1) := by decide +kernel
theorem d_Mo_keep_6 : decode m_Mo_keep.2.1 6 = .ok (.getfield 93, 3) := by decide +kernel
theorem d_Mo_keep_9 : decode m_Mo_keep.2.1 9 = .ok (.iastore, 1) := by decide +kernel
theorem d_Mo_keep_10 : decode m_Mo_keep.2.1 10 = .ok (.iconst 0, 1) := by decide +kernel
theorem d_Mo_keep_11 : decode m_Mo_keep.2.1 11 = .ok (.istore_n 2, 1) := by decide +kernel
theorem d_Mo_keep_12 : decode m_Mo_keep.2.1 12 = .ok (.iload_n 2, 1) := by decide +kernel
theorem d_Mo_keep_13 : decode m_Mo_keep.2.1 13 = .ok (.bipush 12, 2) := by decide +kernel
theorem d_Mo_keep_15 : decode m_Mo_keep.2.1 15 = .ok (.if_icmp .ge 26, 3) := by decide +kernel
theorem d_Mo_keep_18 : decode m_Mo_keep.2.1 18 = .ok (.aload_n 0, 1) := by decide +kernel
theorem d_Mo_keep_19 : decode m_Mo_keep.2.1 19 = .ok (.getfield 28, 3) := by decide +kernel
theorem d_Mo_keep_22 : decode m_Mo_keep.2.1 22 = .ok (.bipush 12, 2) := by decide +kernel
theorem d_Mo_keep_24 : decode m_Mo_keep.2.1 24 = .ok (.iload_n 1, 1) := by decide +kernel
theorem d_Mo_keep_25 : decode m_Mo_keep.2.1 25 = .ok (.imul, 1) := by decide +kernel
theorem d_Mo_keep_26 : decode m_Mo_keep.2.1 26 = .ok (.iload_n 2, 1) := by decide +kernel
theorem d_Mo_keep_27 : decode m_Mo_keep.2.1 27 = .ok (.iadd, 1) := by decide +kernel
theorem d_Mo_keep_28 : decode m_Mo_keep.2.1 28 = .ok (.aload_n 0, 1) := by decide +kernel
theorem d_Mo_keep_29 : decode m_Mo_keep.2.1 29 = .ok (.getfield 22, 3) := by decide +kernel
theorem d_Mo_keep_32 : decode m_Mo_keep.2.1 32 = .ok (.iload_n 2, 1) := by decide +kernel
theorem d_Mo_keep_33 : decode m_Mo_keep.2.1 33 = .ok (.iaload, 1) := by decide +kernel
theorem d_Mo_keep_34 : decode m_Mo_keep.2.1 34 = .ok (.iastore, 1) := by decide +kernel
theorem d_Mo_keep_35 : decode m_Mo_keep.2.1 35 = .ok (.iinc 2 1, 3) := by decide +kernel
theorem d_Mo_keep_38 : decode m_Mo_keep.2.1 38 = .ok (.goto (-26), 3) := by decide +kernel
theorem d_Mo_keep_41 : decode m_Mo_keep.2.1 41 = .ok (.aload_n 0, 1) := by decide +kernel
theorem d_Mo_keep_42 : decode m_Mo_keep.2.1 42 = .ok (.iconst 0, 1) := by decide +kernel
theorem d_Mo_keep_43 : decode m_Mo_keep.2.1 43 = .ok (.putfield 93, 3) := by decide +kernel
theorem d_Mo_keep_46 : decode m_Mo_keep.2.1 46 = .ok (.aload_n 0, 1) := by decide +kernel
theorem d_Mo_keep_47 : decode m_Mo_keep.2.1 47 = .ok (.iconst 0, 1) := by decide +kernel
theorem d_Mo_keep_48 : decode m_Mo_keep.2.1 48 = .ok (.putfield 114, 3) := by decide +kernel
theorem d_Mo_keep_51 : decode m_Mo_keep.2.1 51 = .ok (.return_, 1) := by decide +kernel
theorem d_Mo_edit_0 : decode m_Mo_edit.2.1 0 = .ok (.aload_n 0, 1) := by decide +kernel
theorem d_Mo_edit_1 : decode m_Mo_edit.2.1 1 = .ok (.iconst 0, 1) := by decide +kernel
theorem d_Mo_edit_2 : decode m_Mo_edit.2.1 2 = .ok (.putfield 89, 3) := by decide +kernel
theorem d_Mo_edit_5 : decode m_Mo_edit.2.1 5 = .ok (.iload_n 1, 1) := by decide +kernel
theorem d_Mo_edit_6 : decode m_Mo_edit.2.1 6 = .ok (.ifCond .lt 11, 3) := by decide +kernel
theorem d_Mo_edit_9 : decode m_Mo_edit.2.1 9 = .ok (.iload_n 1, 1) := by decide +kernel
theorem d_Mo_edit_10 : decode m_Mo_edit.2.1 10 = .ok (.aload_n 0, 1) := by decide +kernel
theorem d_Mo_edit_11 : decode m_Mo_edit.2.1 11 = .ok (.getfield 125, 3) := by decide +kernel
theorem d_Mo_edit_14 : decode m_Mo_edit.2.1 14 = .ok (.if_icmp .lt 9, 3) := by decide +kernel
theorem d_Mo_edit_17 : decode m_Mo_edit.2.1 17 = .ok (.aload_n 0, 1) := by decide +kernel
theorem d_Mo_edit_18 : decode m_Mo_edit.2.1 18 = .ok (.iconst 1, 1) := by decide +kernel
theorem d_Mo_edit_19 : decode m_Mo_edit.2.1 19 = .ok (.putfield 89, 3) := by decide +kernel
theorem d_Mo_edit_22 : decode m_Mo_edit.2.1 22 = .ok (.return_, 1) := by decide +kernel
theorem d_Mo_edit_23 : decode m_Mo_edit.2.1 23 = .ok (.aload_n 0, 1) := by decide +kernel
theorem d_Mo_edit_24 : decode m_Mo_edit.2.1 24 = .ok (.invokevirtual 118, 3) := by decide +kernel
theorem d_Mo_edit_27 : decode m_Mo_edit.2.1 27 = .ok (.ifCond .ne 14, 3) := by decide +kernel
theorem d_Mo_edit_30 : decode m_Mo_edit.2.1 30 = .ok (.aload_n 0, 1) := by decide +kernel
theorem d_Mo_edit_31 : decode m_Mo_edit.2.1 31 = .ok (.iconst 0, 1) := by decide +kernel
theorem d_Mo_edit_32 : decode m_Mo_edit.2.1 32 = .ok (.putfield 93, 3) := by decide +kernel
theorem d_Mo_edit_35 : decode m_Mo_edit.2.1 35 = .ok (.aload_n 0, 1) := by decide +kernel
theorem d_Mo_edit_36 : decode m_Mo_edit.2.1 36 = .ok (.iconst 2, 1) := by decide +kernel
theorem d_Mo_edit_37 : decode m_Mo_edit.2.1 37 = .ok (.putfield 89, 3) := by decide +kernel
theorem d_Mo_edit_40 : decode m_Mo_edit.2.1 40 = .ok (.return_, 1) := by decide +kernel
theorem d_Mo_edit_41 : decode m_Mo_edit.2.1 41 = .ok (.aload_n 0, 1) := by decide +kernel
theorem d_Mo_edit_42 : decode m_Mo_edit.2.1 42 = .ok (.iload_n 1, 1) := by decide +kernel
theorem d_Mo_edit_43 : decode m_Mo_edit.2.1 43 = .ok (.invokevirtual 128, 3) := by decide +kernel
theorem d_Mo_edit_46 : decode m_Mo_edit.2.1 46 = .ok (.return_, 1) := by decide +kernel
theorem d_Mo_drop_0 : decode m_Mo_drop.2.1 0 = .ok (.aload_n 0, 1) := by decide +kernel
theorem d_Mo_drop_1 : decode m_Mo_drop.2.1 1 = .ok (.iconst 0, 1) := by decide +kernel
theorem d_Mo_drop_2 : decode m_Mo_drop.2.1 2 = .ok (.putfield 89, 3) := by decide +kernel
theorem d_Mo_drop_5 : decode m_Mo_drop.2.1 5 = .ok (.iload_n 1, 1) := by decide +kernel
theorem d_Mo_drop_6 : decode m_Mo_drop.2.1 6 = .ok (.ifCond .lt 11, 3) := by decide +kernel
theorem d_Mo_drop_9 : decode m_Mo_drop.2.1 9 = .ok (.iload_n 1, 1) := by decide +kernel
theorem d_Mo_drop_10 : decode m_Mo_drop.2.1 10 = .ok (.aload_n 0, 1) := by decide +kernel
theorem d_Mo_drop_11 : decode m_Mo_drop.2.1 11 = .ok (.getfield 125, 3) := by decide +kernel
theorem d_Mo_drop_14 : decode m_Mo_drop.2.1 14 = .ok (.if_icmp .lt 9, 3) := by decide +kernel
theorem d_Mo_drop_17 : decode m_Mo_drop.2.1 17 = .ok (.aload_n 0, 1) := by decide +kernel
theorem d_Mo_drop_18 : decode m_Mo_drop.2.1 18 = .ok (.iconst 1, 1) := by decide +kernel
theorem d_Mo_drop_19 : decode m_Mo_drop.2.1 19 = .ok (.putfield 89, 3) := by decide +kernel
theorem d_Mo_drop_22 : decode m_Mo_drop.2.1 22 = .ok (.return_, 1) := by decide +kernel
theorem d_Mo_drop_23 : decode m_Mo_drop.2.1 23 = .ok (.iload_n 1, 1) := by decide +kernel
theorem d_Mo_drop_24 : decode m_Mo_drop.2.1 24 = .ok (.istore_n 2, 1) := by decide +kernel
theorem d_Mo_drop_25 : decode m_Mo_drop.2.1 25 = .ok (.iload_n 2, 1) := by decide +kernel
theorem d_Mo_drop_26 : decode m_Mo_drop.2.1 26 = .ok (.iconst 1, 1) := by decide +kernel
theorem d_Mo_drop_27 : decode m_Mo_drop.2.1 27 = .ok (.iadd, 1) := by decide +kernel
theorem d_Mo_drop_28 : decode m_Mo_drop.2.1 28 = .ok (.aload_n 0, 1) := by decide +kernel
theorem d_Mo_drop_29 : decode m_Mo_drop.2.1 29 = .ok (.getfield 125, 3) := by decide +kernel
theorem d_Mo_drop_32 : decode m_Mo_drop.2.1 32 = .ok (.if_icmp .ge 62, 3) := by decide +kernel
theorem d_Mo_drop_35 : decode m_Mo_drop.2.1 35 = .ok (.aload_n 0, 1) := by decide +kernel
theorem d_Mo_drop_36 : decode m_Mo_drop.2.1 36 = .ok (.getfield 25, 3) := by decide +kernel
theorem d_Mo_drop_39 : decode m_Mo_drop.2.1 39 = .ok (.iload_n 2, 1) := by decide +kernel
theorem d_Mo_drop_40 : decode m_Mo_drop.2.1 40 = .ok (.aload_n 0, 1) := by decide +kernel
theorem d_Mo_drop_41 : decode m_Mo_drop.2.1 41 = .ok (.getfield 25, 3) := by decide +kernel
theorem d_Mo_drop_44 : decode m_Mo_drop.2.1 44 = .ok (.iload_n 2, 1) := by decide +kernel
theorem d_Mo_drop_45 : decode m_Mo_drop.2.1 45 = .ok (.iconst 1, 1) := by decide +kernel
theorem d_Mo_drop_46 : decode m_Mo_drop.2.1 46 = .ok (.iadd, 1) := by decide +kernel
theorem d_Mo_drop_47 : decode m_Mo_drop.2.1 47 = .ok (.iaload, 1) := by decide +kernel
theorem d_Mo_drop_48 : decode m_Mo_drop.2.1 48 = .ok (.iastore, 1) := by decide +kernel
theorem d_Mo_drop_49 : decode m_Mo_drop.2.1 49 = .ok (.iconst 0, 1) := by decide +kernel
theorem d_Mo_drop_50 : decode m_Mo_drop.2.1 50 = .ok (.istore_n 3, 1) := by decide +kernel
theorem d_Mo_drop_51 : decode m_Mo_drop.2.1 51 = .ok (.iload_n 3, 1) := by decide +kernel
theorem d_Mo_drop_52 : decode m_Mo_drop.2.1 52 = .ok (.bipush 12, 2) := by decide +kernel
theorem d_Mo_drop_54 : decode m_Mo_drop.2.1 54 = .ok (.if_icmp .ge 34, 3) := by decide +kernel
theorem d_Mo_drop_57 : decode m_Mo_drop.2.1 57 = .ok (.aload_n 0, 1) := by decide +kernel
theorem d_Mo_drop_58 : decode m_Mo_drop.2.1 58 = .ok (.getfield 28, 3) := by decide +kernel
theorem d_Mo_drop_61 : decode m_Mo_drop.2.1 61 = .ok (.bipush 12, 2) := by decide +kernel
theorem d_Mo_drop_63 : decode m_Mo_drop.2.1 63 = .ok (.iload_n 2, 1) := by decide +kernel
theorem d_Mo_drop_64 : decode m_Mo_drop.2.1 64 = .ok (.imul, 1) := by decide +kernel
theorem d_Mo_drop_65 : decode m_Mo_drop.2.1 65 = .ok (.iload_n 3, 1) := by decide +kernel
theorem d_Mo_drop_66 : decode m_Mo_drop.2.1 66 = .ok (.iadd, 1) := by decide +kernel
theorem d_Mo_drop_67 : decode m_Mo_drop.2.1 67 = .ok (.aload_n 0, 1) := by decide +kernel
theorem d_Mo_drop_68 : decode m_Mo_drop.2.1 68 = .ok (.getfield 28, 3) := by decide +kernel
theorem d_Mo_drop_71 : decode m_Mo_drop.2.1 71 = .ok (.bipush 12, 2) := by decide +kernel
theorem d_Mo_drop_73 : decode m_Mo_drop.2.1 73 = .ok (.iload_n 2, 1) := by decide +kernel
theorem d_Mo_drop_74 : decode m_Mo_drop.2.1 74 = .ok (.imul, 1) := by decide +kernel
theorem d_Mo_drop_75 : decode m_Mo_drop.2.1 75 = .ok (.bipush 12, 2) := by decide +kernel
theorem d_Mo_drop_77 : decode m_Mo_drop.2.1 77 = .ok (.iadd, 1) := by decide +kernel
theorem d_Mo_drop_78 : decode m_Mo_drop.2.1 78 = .ok (.iload_n 3, 1) := by decide +kernel
theorem d_Mo_drop_79 : decode m_Mo_drop.2.1 79 = .ok (.iadd, 1) := by decide +kernel
theorem d_Mo_drop_80 : decode m_Mo_drop.2.1 80 = .ok (.iaload, 1) := by decide +kernel
theorem d_Mo_drop_81 : decode m_Mo_drop.2.1 81 = .ok (.iastore, 1) := by decide +kernel
theorem d_Mo_drop_82 : decode m_Mo_drop.2.1 82 = .ok (.iinc 3 1, 3) := by decide +kernel
theorem d_Mo_drop_85 : decode m_Mo_drop.2.1 85 = .ok (.goto (-34), 3) := by decide +kernel
theorem d_Mo_drop_88 : decode m_Mo_drop.2.1 88 = .ok (.iinc 2 1, 3) := by decide +kernel
theorem d_Mo_drop_91 : decode m_Mo_drop.2.1 91 = .ok (.goto (-66), 3) := by decide +kernel
theorem d_Mo_drop_94 : decode m_Mo_drop.2.1 94 = .ok (.aload_n 0, 1) := by decide +kernel
theorem d_Mo_drop_95 : decode m_Mo_drop.2.1 95 = .ok (.dup, 1) := by decide +kernel
theorem d_Mo_drop_96 : decode m_Mo_drop.2.1 96 = .ok (.getfield 125, 3) := by decide +kernel
theorem d_Mo_drop_99 : decode m_Mo_drop.2.1 99 = .ok (.iconst 1, 1) := by decide +kernel
theorem d_Mo_drop_100 : decode m_Mo_drop.2.1 100 = .ok (.isub, 1) := by decide +kernel
theorem d_Mo_drop_101 : decode m_Mo_drop.2.1 101 = .ok (.putfield 125, 3) := by decide +kernel
theorem d_Mo_drop_104 : decode m_Mo_drop.2.1 104 = .ok (.aload_n 0, 1) := by decide +kernel
theorem d_Mo_drop_105 : decode m_Mo_drop.2.1 105 = .ok (.iconst 0, 1) := by decide +kernel
theorem d_Mo_drop_106 : decode m_Mo_drop.2.1 106 = .ok (.putfield 114, 3) := by decide +kernel
theorem d_Mo_drop_109 : decode m_Mo_drop.2.1 109 = .ok (.return_, 1) := by decide +kernel
theorem d_Mo_commands_0 : decode m_Mo_commands.2.1 0 = .ok (.aload_n 0, 1) := by decide +kernel
theorem d_Mo_commands_1 : decode m_Mo_commands.2.1 1 = .ok (.iconst 0, 1) := by decide +kernel
theorem d_Mo_commands_2 : decode m_Mo_commands.2.1 2 = .ok (.putfield 89, 3) := by decide +kernel
theorem d_Mo_commands_5 : decode m_Mo_commands.2.1 5 = .ok (.aload_n 0, 1) := by decide +kernel
theorem d_Mo_commands_6 : decode m_Mo_commands.2.1 6 = .ok (.getfield 125, 3) := by decide +kernel
theorem d_Mo_commands_9 : decode m_Mo_commands.2.1 9 = .ok (.ireturn, 1) := by decide +kernel
theorem d_Mo_put_0 : decode m_Mo_put.2.1 0 = .ok (.aload_n 0, 1) := by decide +kernel
theorem d_Mo_put_1 : decode m_Mo_put.2.1 1 = .ok (.iconst 0, 1) := by decide +kernel
theorem d_Mo_put_2 : decode m_Mo_put.2.1 2 = .ok (.putfield 89, 3) := by decide +kernel
theorem d_Mo_put_5 : decode m_Mo_put.2.1 5 = .ok (.iload_n 1, 1) := by decide +kernel
theorem d_Mo_put_6 : decode m_Mo_put.2.1 6 = .ok (.invokestatic 96, 3) := by decide +kernel
theorem d_Mo_put_9 : decode m_Mo_put.2.1 9 = .ok (.ifCond .eq 14, 3) := by decide +kernel
theorem d_Mo_put_12 : decode m_Mo_put.2.1 12 = .ok (.aload_n 0, 1) := by decide +kernel
theorem d_Mo_put_13 : decode m_Mo_put.2.1 13 = .ok (.getfield 7, 3) := by decide +kernel
theorem d_Mo_put_16 : decode m_Mo_put.2.1 16 = .ok (.iload_n 1, 1) := by decide +kernel
theorem d_Mo_put_17 : decode m_Mo_put.2.1 17 = .ok (.iaload, 1) := by decide +kernel
theorem d_Mo_put_18 : decode m_Mo_put.2.1 18 = .ok (.bipush 6, 2) := by decide +kernel
theorem d_Mo_put_20 : decode m_Mo_put.2.1 20 = .ok (.if_icmp .ne 5, 3) := by decide +kernel
theorem d_Mo_put_23 : decode m_Mo_put.2.1 23 = .ok (.iconst (-1), 1) := by decide +kernel
theorem d_Mo_put_24 : decode m_Mo_put.2.1 24 = .ok (.ireturn, 1) := by decide +kernel
theorem d_Mo_put_25 : decode m_Mo_put.2.1 25 = .ok (.aload_n 0, 1) := by decide +kernel
theorem d_Mo_put_26 : decode m_Mo_put.2.1 26 = .ok (.getfield 7, 3) := by decide +kernel
theorem d_Mo_put_29 : decode m_Mo_put.2.1 29 = .ok (.iload_n 1, 1) := by decide +kernel
theorem d_Mo_put_30 : decode m_Mo_put.2.1 30 = .ok (.iaload, 1) := by decide +kernel
theorem d_Mo_put_31 : decode m_Mo_put.2.1 31 = .ok (.ifCond .ge 10, 3) := by decide +kernel
theorem d_Mo_put_34 : decode m_Mo_put.2.1 34 = .ok (.aload_n 0, 1) := by decide +kernel
theorem d_Mo_put_35 : decode m_Mo_put.2.1 35 = .ok (.getfield 7, 3) := by decide +kernel
theorem d_Mo_put_38 : decode m_Mo_put.2.1 38 = .ok (.iload_n 1, 1) := by decide +kernel
theorem d_Mo_put_39 : decode m_Mo_put.2.1 39 = .ok (.iconst 0, 1) := by decide +kernel
theorem d_Mo_put_40 : decode m_Mo_put.2.1 40 = .ok (.iastore, 1) := by decide +kernel
theorem d_Mo_put_41 : decode m_Mo_put.2.1 41 = .ok (.aload_n 0, 1) := by decide +kernel
theorem d_Mo_put_42 : decode m_Mo_put.2.1 42 = .ok (.getfield 13, 3) := by decide +kernel
theorem d_Mo_put_45 : decode m_Mo_put.2.1 45 = .ok (.bipush 6, 2) := by decide +kernel
theorem d_Mo_put_47 : decode m_Mo_put.2.1 47 = .ok (.iload_n 1, 1) := by decide +kernel
theorem d_Mo_put_48 : decode m_Mo_put.2.1 48 = .ok (.imul, 1) := by decide +kernel
theorem d_Mo_put_49 : decode m_Mo_put.2.1 49 = .ok (.aload_n 0, 1) := by decide +kernel
theorem d_Mo_put_50 : decode m_Mo_put.2.1 50 = .ok (.getfield 7, 3) := by decide +kernel
theorem d_Mo_put_53 : decode m_Mo_put.2.1 53 = .ok (.iload_n 1, 1) := by decide +kernel
theorem d_Mo_put_54 : decode m_Mo_put.2.1 54 = .ok (.iaload, 1) := by decide +kernel
theorem d_Mo_put_55 : decode m_Mo_put.2.1 55 = .ok (.iadd, 1) := by decide +kernel
theorem d_Mo_put_56 : decode m_Mo_put.2.1 56 = .ok (.iload_n 2, 1) := by decide +kernel
theorem d_Mo_put_57 : decode m_Mo_put.2.1 57 = .ok (.iastore, 1) := by decide +kernel
theorem d_Mo_put_58 : decode m_Mo_put.2.1 58 = .ok (.aload_n 0, 1) := by decide +kernel
theorem d_Mo_put_59 : decode m_Mo_put.2.1 59 = .ok (.getfield 7, 3) := by decide +kernel
theorem d_Mo_put_62 : decode m_Mo_put.2.1 62 = .ok (.iload_n 1, 1) := by decide +kernel
theorem d_Mo_put_63 : decode m_Mo_put.2.1 63 = .ok (.dup2, 1) := by decide +kernel
theorem d_Mo_put_64 : decode m_Mo_put.2.1 64 = .ok (.iaload, 1) := by decide +kernel
theorem d_Mo_put_65 : decode m_Mo_put.2.1 65 = .ok (.iconst 1, 1) := by decide +kernel
theorem d_Mo_put_66 : decode m_Mo_put.2.1 66 = .ok (.iadd, 1) := by decide +kernel
theorem d_Mo_put_67 : decode m_Mo_put.2.1 67 = .ok (.iastore, 1) := by decide +kernel
theorem d_Mo_put_68 : decode m_Mo_put.2.1 68 = .ok (.aload_n 0, 1) := by decide +kernel
theorem d_Mo_put_69 : decode m_Mo_put.2.1 69 = .ok (.getfield 7, 3) := by decide +kernel
theorem d_Mo_put_72 : decode m_Mo_put.2.1 72 = .ok (.iload_n 1, 1) := by decide +kernel
theorem d_Mo_put_73 : decode m_Mo_put.2.1 73 = .ok (.iaload, 1) := by decide +kernel
theorem d_Mo_put_74 : decode m_Mo_put.2.1 74 = .ok (.ireturn, 1) := by decide +kernel
theorem d_Mo_remove_0 : decode m_Mo_remove.2.1 0 = .ok (.aload_n 0, 1) := by decide +kernel
theorem d_Mo_remove_1 : decode m_Mo_remove.2.1 1 = .ok (.iconst 0, 1) := by decide +kernel
theorem d_Mo_remove_2 : decode m_Mo_remove.2.1 2 = .ok (.putfield 89, 3) := by decide +kernel
theorem d_Mo_remove_5 : decode m_Mo_remove.2.1 5 = .ok (.iload_n 1, 1) := by decide +kernel
theorem d_Mo_remove_6 : decode m_Mo_remove.2.1 6 = .ok (.invokestatic 96, 3) := by decide +kernel
theorem d_Mo_remove_9 : decode m_Mo_remove.2.1 9 = .ok (.ifCond .eq 12, 3) := by decide +kernel
theorem d_Mo_remove_12 : decode m_Mo_remove.2.1 12 = .ok (.aload_n 0, 1) := by decide +kernel
theorem d_Mo_remove_13 : decode m_Mo_remove.2.1 13 = .ok (.getfield 7, 3) := by decide +kernel
theorem d_Mo_remove_16 : decode m_Mo_remove.2.1 16 = .ok (.iload_n 1, 1) := by decide +kernel
theorem d_Mo_remove_17 : decode m_Mo_remove.2.1 17 = .ok (.iaload, 1) := by decide +kernel
theorem d_Mo_remove_18 : decode m_Mo_remove.2.1 18 = .ok (.ifCond .ge 5, 3) := by decide +kernel
theorem d_Mo_remove_21 : decode m_Mo_remove.2.1 21 = .ok (.iconst 0, 1) := by decide +kernel
theorem d_Mo_remove_22 : decode m_Mo_remove.2.1 22 = .ok (.ireturn, 1) := by decide +kernel
theorem d_Mo_remove_23 : decode m_Mo_remove.2.1 23 = .ok (.aload_n 0, 1) := by decide +kernel
theorem d_Mo_remove_24 : decode m_Mo_remove.2.1 24 = .ok (.getfield 7, 3) := by decide +kernel
theorem d_Mo_remove_27 : decode m_Mo_remove.2.1 27 = .ok (.iload_n 1, 1) := by decide +kernel
theorem d_Mo_remove_28 : decode m_Mo_remove.2.1 28 = .ok (.iconst (-1), 1) := by decide +kernel
theorem d_Mo_remove_29 : decode m_Mo_remove.2.1 29 = .ok (.iastore, 1) := by decide +kernel
theorem d_Mo_remove_30 : decode m_Mo_remove.2.1 30 = .ok (.iconst 1, 1) := by decide +kernel
theorem d_Mo_remove_31 : decode m_Mo_remove.2.1 31 = .ok (.ireturn, 1) := by decide +kernel
theorem d_Mo_run_0 : decode m_Mo_run.2.1 0 = .ok (.aload_n 0, 1) := by decide +kernel
theorem d_Mo_run_1 : decode m_Mo_run.2.1 1 = .ok (.iconst 0, 1) := by decide +kernel
theorem d_Mo_run_2 : decode m_Mo_run.2.1 2 = .ok (.putfield 89, 3) := by decide +kernel
theorem d_Mo_run_5 : decode m_Mo_run.2.1 5 = .ok (.iload_n 1, 1) := by decide +kernel
theorem d_Mo_run_6 : decode m_Mo_run.2.1 6 = .ok (.ifCond .lt 8, 3) := by decide +kernel
theorem d_Mo_run_9 : decode m_Mo_run.2.1 9 = .ok (.iload_n 1, 1) := by decide +kernel
theorem d_Mo_run_10 : decode m_Mo_run.2.1 10 = .ok (.iconst 4, 1) := by decide +kernel
theorem d_Mo_run_11 : decode m_Mo_run.2.1 11 = .ok (.if_icmp .le 9, 3) := by decide +kernel
theorem d_Mo_run_14 : decode m_Mo_run.2.1 14 = .ok (.aload_n 0, 1) := by decide +kernel
theorem d_Mo_run_15 : decode m_Mo_run.2.1 15 = .ok (.iconst 1, 1) := by decide +kernel
theorem d_Mo_run_16 : decode m_Mo_run.2.1 16 = .ok (.invokevirtual 122, 3) := by decide +kernel
theorem d_Mo_run_19 : decode m_Mo_run.2.1 19 = .ok (.ireturn, 1) := by decide +kernel
theorem d_Mo_run_20 : decode m_Mo_run.2.1 20 = .ok (.aload_n 0, 1) := by decide +kernel
theorem d_Mo_run_21 : decode m_Mo_run.2.1 21 = .ok (.getfield 125, 3) := by decide +kernel
theorem d_Mo_run_24 : decode m_Mo_run.2.1 24 = .ok (.ifCond .ne 9, 3) := by decide +kernel
theorem d_Mo_run_27 : decode m_Mo_run.2.1 27 = .ok (.aload_n 0, 1) := by decide +kernel
theorem d_Mo_run_28 : decode m_Mo_run.2.1 28 = .ok (.iconst 2, 1) := by decide +kernel
theorem d_Mo_run_29 : decode m_Mo_run.2.1 29 = .ok (.invokevirtual 122, 3) := by decide +kernel
theorem d_Mo_run_32 : decode m_Mo_run.2.1 32 = .ok (.ireturn, 1) := by decide +kernel
theorem d_Mo_run_33 : decode m_Mo_run.2.1 33 = .ok (.aload_n 0, 1) := by decide +kernel
theorem d_Mo_run_34 : decode m_Mo_run.2.1 34 = .ok (.iconst 1, 1) := by decide +kernel
theorem d_Mo_run_35 : decode m_Mo_run.2.1 35 = .ok (.putfield 114, 3) := by decide +kernel
theorem d_Mo_run_38 : decode m_Mo_run.2.1 38 = .ok (.aload_n 0, 1) := by decide +kernel
theorem d_Mo_run_39 : decode m_Mo_run.2.1 39 = .ok (.iconst 0, 1) := by decide +kernel
theorem d_Mo_run_40 : decode m_Mo_run.2.1 40 = .ok (.invokevirtual 247, 3) := by decide +kernel
theorem d_Mo_run_43 : decode m_Mo_run.2.1 43 = .ok (.aload_n 0, 1) := by decide +kernel
theorem d_Mo_run_44 : decode m_Mo_run.2.1 44 = .ok (.iload_n 1, 1) := by decide +kernel
theorem d_Mo_run_45 : decode m_Mo_run.2.1 45 = .ok (.invokevirtual 251, 3) := by decide +kernel
theorem d_Mo_run_48 : decode m_Mo_run.2.1 48 = .ok (.ifCond .eq 5, 3) := by decide +kernel
theorem d_Mo_run_51 : decode m_Mo_run.2.1 51 = .ok (.iconst 0, 1) := by decide +kernel
theorem d_Mo_run_52 : decode m_Mo_run.2.1 52 = .ok (.ireturn, 1) := by decide +kernel
theorem d_Mo_run_53 : decode m_Mo_run.2.1 53 = .ok (.aload_n 0, 1) := by decide +kernel
theorem d_Mo_run_54 : decode m_Mo_run.2.1 54 = .ok (.getfield 68, 3) := by decide +kernel
theorem d_Mo_run_57 : decode m_Mo_run.2.1 57 = .ok (.aload_n 0, 1) := by decide +kernel
theorem d_Mo_run_58 : decode m_Mo_run.2.1 58 = .ok (.getfield 222, 3) := by decide +kernel
theorem d_Mo_run_61 : decode m_Mo_run.2.1 61 = .ok (.baload, 1) := by decide +kernel
theorem d_Mo_run_62 : decode m_Mo_run.2.1 62 = .ok (.ifCond .ne 17, 3) := by decide +kernel
theorem d_Mo_run_65 : decode m_Mo_run.2.1 65 = .ok (.aload_n 0, 1) := by decide +kernel
theorem d_Mo_run_66 : decode m_Mo_run.2.1 66 = .ok (.getfield 68, 3) := by decide +kernel
theorem d_Mo_run_69 : decode m_Mo_run.2.1 69 = .ok (.aload_n 0, 1) := by decide +kernel
theorem d_Mo_run_70 : decode m_Mo_run.2.1 70 = .ok (.getfield 225, 3) := by decide +kernel
theorem d_Mo_run_73 : decode m_Mo_run.2.1 73 = .ok (.baload, 1) := by decide +kernel
theorem d_Mo_run_74 : decode m_Mo_run.2.1 74 = .ok (.ifCond .ne 5, 3) := by decide +kernel
theorem d_Mo_run_77 : decode m_Mo_run.2.1 77 = .ok (.iconst 1, 1) := by decide +kernel
theorem d_Mo_run_78 : decode m_Mo_run.2.1 78 = .ok (.ireturn, 1) := by decide +kernel
theorem d_Mo_run_79 : decode m_Mo_run.2.1 79 = .ok (.aload_n 0, 1) := by decide +kernel
theorem d_Mo_run_80 : decode m_Mo_run.2.1 80 = .ok (.iconst 1, 1) := by decide +kernel
theorem d_Mo_run_81 : decode m_Mo_run.2.1 81 = .ok (.invokevirtual 247, 3) := by decide +kernel
theorem d_Mo_run_84 : decode m_Mo_run.2.1 84 = .ok (.aload_n 0, 1) := by decide +kernel
theorem d_Mo_run_85 : decode m_Mo_run.2.1 85 = .ok (.dup, 1) := by decide +kernel
theorem d_Mo_run_86 : decode m_Mo_run.2.1 86 = .ok (.getfield 254, 3) := by decide +kernel
theorem d_Mo_run_89 : decode m_Mo_run.2.1 89 = .ok (.iconst 1, 1) := by decide +kernel
theorem d_Mo_run_90 : decode m_Mo_run.2.1 90 = .ok (.iadd, 1) := by decide +kernel
theorem d_Mo_run_91 : decode m_Mo_run.2.1 91 = .ok (.putfield 254, 3) := by decide +kernel
theorem d_Mo_run_94 : decode m_Mo_run.2.1 94 = .ok (.aload_n 0, 1) := by decide +kernel
theorem d_Mo_run_95 : decode m_Mo_run.2.1 95 = .ok (.iconst 0, 1) := by decide +kernel
theorem d_Mo_run_96 : decode m_Mo_run.2.1 96 = .ok (.invokevirtual 251, 3) := by decide +kernel
theorem d_Mo_run_99 : decode m_Mo_run.2.1 99 = .ok (.ifCond .eq 7, 3) := by decide +kernel
theorem d_Mo_run_102 : decode m_Mo_run.2.1 102 = .ok (.iconst 0, 1) := by decide +kernel
theorem d_Mo_run_103 : decode m_Mo_run.2.1 103 = .ok (.goto 4, 3) := by decide +kernel
theorem d_Mo_run_106 : decode m_Mo_run.2.1 106 = .ok (.iconst 1, 1) := by decide +kernel
theorem d_Mo_run_107 : decode m_Mo_run.2.1 107 = .ok (.ireturn, 1) := by decide +kernel
theorem d_Mo_save_0 : decode m_Mo_save.2.1 0 = .ok (.iconst 0, 1) := by decide +kernel
theorem d_Mo_save_1 : decode m_Mo_save.2.1 1 = .ok (.istore_n 2, 1) := by decide +kernel
theorem d_Mo_save_2 : decode m_Mo_save.2.1 2 = .ok (.iload_n 2, 1) := by decide +kernel
theorem d_Mo_save_3 : decode m_Mo_save.2.1 3 = .ok (.bipush 12, 2) := by decide +kernel
theorem d_Mo_save_5 : decode m_Mo_save.2.1 5 = .ok (.if_icmp .ge 40, 3) := by decide +kernel
theorem d_Mo_save_8 : decode m_Mo_save.2.1 8 = .ok (.iload_n 1, 1) := by decide +kernel
theorem d_Mo_save_9 : decode m_Mo_save.2.1 9 = .ok (.ifCond .eq 18, 3) := by decide +kernel
theorem d_Mo_save_12 : decode m_Mo_save.2.1 12 = .ok (.aload_n 0, 1) := by decide +kernel
theorem d_Mo_save_13 : decode m_Mo_save.2.1 13 = .ok (.getfield 7, 3) := by decide +kernel
theorem d_Mo_save_16 : decode m_Mo_save.2.1 16 = .ok (.iload_n 2, 1) := by decide +kernel
theorem d_Mo_save_17 : decode m_Mo_save.2.1 17 = .ok (.aload_n 0, 1) := by decide +kernel
theorem d_Mo_save_18 : decode m_Mo_save.2.1 18 = .ok (.getfield 16, 3) := by decide +kernel
theorem d_Mo_save_21 : decode m_Mo_save.2.1 21 = .ok (.iload_n 2, 1) := by decide +kernel
theorem d_Mo_save_22 : decode m_Mo_save.2.1 22 = .ok (.iaload, 1) := by decide +kernel
theorem d_Mo_save_23 : decode m_Mo_save.2.1 23 = .ok (.iastore, 1) := by decide +kernel
theorem d_Mo_save_24 : decode m_Mo_save.2.1 24 = .ok (.goto 15, 3) := by decide +kernel
theorem d_Mo_save_27 : decode m_Mo_save.2.1 27 = .ok (.aload_n 0, 1) := by decide +kernel
theorem d_Mo_save_28 : decode m_Mo_save.2.1 28 = .ok (.getfield 16, 3) := by decide +kernel
theorem d_Mo_save_31 : decode m_Mo_save.2.1 31 = .ok (.iload_n 2, 1) := by decide +kernel
theorem d_Mo_save_32 : decode m_Mo_save.2.1 32 = .ok (.aload_n 0, 1) := by decide +kernel
theorem d_Mo_save_33 : decode m_Mo_save.2.1 33 = .ok (.getfield 7, 3) := by decide +kernel
theorem d_Mo_save_36 : decode m_Mo_save.2.1 36 = .ok (.iload_n 2, 1) := by decide +kernel
theorem d_Mo_save_37 : decode m_Mo_save.2.1 37 = .ok (.iaload, 1) := by decide +kernel
theorem d_Mo_save_38 : decode m_Mo_save.2.1 38 = .ok (.iastore, 1) := by decide +kernel
theorem d_Mo_save_39 : decode m_Mo_save.2.1 39 = .ok (.iinc 2 1, 3) := by decide +kernel
theorem d_Mo_save_42 : decode m_Mo_save.2.1 42 = .ok (.goto (-40), 3) := by decide +kernel
theorem d_Mo_save_45 : decode m_Mo_save.2.1 45 = .ok (.iconst 0, 1) := by decide +kernel
theorem d_Mo_save_46 : decode m_Mo_save.2.1 46 = .ok (.istore_n 2, 1) := by decide +kernel
theorem d_Mo_save_47 : decode m_Mo_save.2.1 47 = .ok (.iload_n 2, 1) := by decide +kernel
theorem d_Mo_save_48 : decode m_Mo_save.2.1 48 = .ok (.bipush 72, 2) := by decide +kernel
theorem d_Mo_save_50 : decode m_Mo_save.2.1 50 = .ok (.if_icmp .ge 40, 3) := by decide +kernel
theorem d_Mo_save_53 : decode m_Mo_save.2.1 53 = .ok (.iload_n 1, 1) := by decide +kernel
theorem d_Mo_save_54 : decode m_Mo_save.2.1 54 = .ok (.ifCond .eq 18, 3) := by decide +kernel
theorem d_Mo_save_57 : decode m_Mo_save.2.1 57 = .ok (.aload_n 0, 1) := by decide +kernel
theorem d_Mo_save_58 : decode m_Mo_save.2.1 58 = .ok (.getfield 13, 3) := by decide +kernel
theorem d_Mo_save_61 : decode m_Mo_save.2.1 61 = .ok (.iload_n 2, 1) := by decide +kernel
theorem d_Mo_save_62 : decode m_Mo_save.2.1 62 = .ok (.aload_n 0, 1) := by decide +kernel
theorem d_Mo_save_63 : decode m_Mo_save.2.1 63 = .ok (.getfield 19, 3) := by decide +kernel
theorem d_Mo_save_66 : decode m_Mo_save.2.1 66 = .ok (.iload_n 2, 1) := by decide +kernel
theorem d_Mo_save_67 : decode m_Mo_save.2.1 67 = .ok (.iaload, 1) := by decide +kernel
theorem d_Mo_save_68 : decode m_Mo_save.2.1 68 = .ok (.iastore, 1) := by decide +kernel
theorem d_Mo_save_69 : decode m_Mo_save.2.1 69 = .ok (.goto 15, 3) := by decide +kernel
theorem d_Mo_save_72 : decode m_Mo_save.2.1 72 = .ok (.aload_n 0, 1) := by decide +kernel
theorem d_Mo_save_73 : decode m_Mo_save.2.1 73 = .ok (.getfield 19, 3) := by decide +kernel
theorem d_Mo_save_76 : decode m_Mo_save.2.1 76 = .ok (.iload_n 2, 1) := by decide +kernel
theorem d_Mo_save_77 : decode m_Mo_save.2.1 77 = .ok (.aload_n 0, 1) := by decide +kernel
theorem d_Mo_save_78 : decode m_Mo_save.2.1 78 = .ok (.getfield 13, 3) := by decide +kernel
theorem d_Mo_save_81 : decode m_Mo_save.2.1 81 = .ok (.iload_n 2, 1) := by decide +kernel
theorem d_Mo_save_82 : decode m_Mo_save.2.1 82 = .ok (.iaload, 1) := by decide +kernel
theorem d_Mo_save_83 : decode m_Mo_save.2.1 83 = .ok (.iastore, 1) := by decide +kernel
theorem d_Mo_save_84 : decode m_Mo_save.2.1 84 = .ok (.iinc 2 1, 3) := by decide +kernel
theorem d_Mo_save_87 : decode m_Mo_save.2.1 87 = .ok (.goto (-40), 3) := by decide +kernel
theorem d_Mo_save_90 : decode m_Mo_save.2.1 90 = .ok (.return_, 1) := by decide +kernel
theorem d_Mo_attempt_0 : decode m_Mo_attempt.2.1 0 = .ok (.aload_n 0, 1) := by decide +kernel
theorem d_Mo_attempt_1 : decode m_Mo_attempt.2.1 1 = .ok (.iconst 0, 1) := by decide +kernel
theorem d_Mo_attempt_2 : decode m_Mo_attempt.2.1 2 = .ok (.putfield 219, 3) := by decide +kernel
theorem d_Mo_attempt_5 : decode m_Mo_attempt.2.1 5 = .ok (.iconst 0, 1) := by decide +kernel
theorem d_Mo_attempt_6 : decode m_Mo_attempt.2.1 6 = .ok (.istore_n 2, 1) := by decide +kernel
theorem d_Mo_attempt_7 : decode m_Mo_attempt.2.1 7 = .ok (.iload_n 2, 1) := by decide +kernel
theorem d_Mo_attempt_8 : decode m_Mo_attempt.2.1 8 = .ok (.bipush 10, 2) := by decide +kernel
theorem d_Mo_attempt_10 : decode m_Mo_attempt.2.1 10 = .ok (.if_icmp .ge 30, 3) := by decide +kernel
theorem d_Mo_attempt_13 : decode m_Mo_attempt.2.1 13 = .ok (.aload_n 0, 1) := by decide +kernel
theorem d_Mo_attempt_14 : decode m_Mo_attempt.2.1 14 = .ok (.getfield 64, 3) := by decide +kernel
theorem d_Mo_attempt_17 : decode m_Mo_attempt.2.1 17 = .ok (.iload_n 2, 1) := by decide +kernel
theorem d_Mo_attempt_18 : decode m_Mo_attempt.2.1 18 = .ok (.iconst 0, 1) := by decide +kernel
theorem d_Mo_attempt_19 : decode m_Mo_attempt.2.1 19 = .ok (.bastore, 1) := by decide +kernel
theorem d_Mo_attempt_20 : decode m_Mo_attempt.2.1 20 = .ok (.aload_n 0, 1) := by decide +kernel
theorem d_Mo_attempt_21 : decode m_Mo_attempt.2.1 21 = .ok (.getfield 68, 3) := by decide +kernel
theorem d_Mo_attempt_24 : decode m_Mo_attempt.2.1 24 = .ok (.iload_n 2, 1) := by decide +kernel
theorem d_Mo_attempt_25 : decode m_Mo_attempt.2.1 25 = .ok (.iconst 0, 1) := by decide +kernel
theorem d_Mo_attempt_26 : decode m_Mo_attempt.2.1 26 = .ok (.bastore, 1) := by decide +kernel
theorem d_Mo_attempt_27 : decode m_Mo_attempt.2.1 27 = .ok (.aload_n 0, 1) := by decide +kernel
theorem d_Mo_attempt_28 : decode m_Mo_attempt.2.1 28 = .ok (.getfield 71, 3) := by decide +kernel
theorem d_Mo_attempt_31 : decode m_Mo_attempt.2.1 31 = .ok (.iload_n 2, 1) := by decide +kernel
theorem d_Mo_attempt_32 : decode m_Mo_attempt.2.1 32 = .ok (.iconst 0, 1) := by decide +kernel
theorem d_Mo_attempt_33 : decode m_Mo_attempt.2.1 33 = .ok (.iastore, 1) := by decide +kernel
theorem d_Mo_attempt_34 : decode m_Mo_attempt.2.1 34 = .ok (.iinc 2 1, 3) := by decide +kernel
theorem d_Mo_attempt_37 : decode m_Mo_attempt.2.1 37 = .ok (.goto (-30), 3) := by decide +kernel
theorem d_Mo_attempt_40 : decode m_Mo_attempt.2.1 40 = .ok (.iconst 0, 1) := by decide +kernel
theorem d_Mo_attempt_41 : decode m_Mo_attempt.2.1 41 = .ok (.istore_n 2, 1) := by decide +kernel
theorem d_Mo_attempt_42 : decode m_Mo_attempt.2.1 42 = .ok (.iload_n 2, 1) := by decide +kernel
theorem d_Mo_attempt_43 : decode m_Mo_attempt.2.1 43 = .ok (.aload_n 0, 1) := by decide +kernel
theorem d_Mo_attempt_44 : decode m_Mo_attempt.2.1 44 = .ok (.getfield 125, 3) := by decide +kernel
theorem d_Mo_attempt_47 : decode m_Mo_attempt.2.1 47 = .ok (.if_icmp .ge 45, 3) := by decide +kernel
theorem d_Mo_attempt_50 : decode m_Mo_attempt.2.1 50 = .ok (.aload_n 0, 1) := by decide +kernel
theorem d_Mo_attempt_51 : decode m_Mo_attempt.2.1 51 = .ok (.getfield 64, 3) := by decide +kernel
theorem d_Mo_attempt_54 : decode m_Mo_attempt.2.1 54 = .ok (.iload_n 2, 1) := by decide +kernel
theorem d_Mo_attempt_55 : decode m_Mo_attempt.2.1 55 = .ok (.baload, 1) := by decide +kernel
theorem d_Mo_attempt_56 : decode m_Mo_attempt.2.1 56 = .ok (.ifCond .ne 19, 3) := by decide +kernel
theorem d_Mo_attempt_59 : decode m_Mo_attempt.2.1 59 = .ok (.aload_n 0, 1) := by decide +kernel
theorem d_Mo_attempt_60 : decode m_Mo_attempt.2.1 60 = .ok (.iload_n 2, 1) := by decide +kernel
theorem d_Mo_attempt_61 : decode m_Mo_attempt.2.1 61 = .ok (.iconst 0, 1) := by decide +kernel
theorem d_Mo_attempt_62 : decode m_Mo_attempt.2.1 62 = .ok (.invokevirtual 234, 3) := by decide +kernel
theorem d_Mo_attempt_65 : decode m_Mo_attempt.2.1 65 = .ok (.aload_n 0, 1) := by decide +kernel
theorem d_Mo_attempt_66 : decode m_Mo_attempt.2.1 66 = .ok (.iload_n 2, 1) := by decide +kernel
theorem d_Mo_attempt_67 : decode m_Mo_attempt.2.1 67 = .ok (.invokevirtual 238, 3) := by decide +kernel
theorem d_Mo_attempt_70 : decode m_Mo_attempt.2.1 70 = .ok (.ifCond .eq 5, 3) := by decide +kernel
theorem d_Mo_attempt_73 : decode m_Mo_attempt.2.1 73 = .ok (.iconst 0, 1) := by decide +kernel
theorem d_Mo_attempt_74 : decode m_Mo_attempt.2.1 74 = .ok (.ireturn, 1) := by decide +kernel
theorem d_Mo_attempt_75 : decode m_Mo_attempt.2.1 75 = .ok (.aload_n 0, 1) := by decide +kernel
theorem d_Mo_attempt_76 : decode m_Mo_attempt.2.1 76 = .ok (.iload_n 2, 1) := by decide +kernel
theorem d_Mo_attempt_77 : decode m_Mo_attempt.2.1 77 = .ok (.iload_n 1, 1) := by decide +kernel
theorem d_Mo_attempt_78 : decode m_Mo_attempt.2.1 78 = .ok (.invokevirtual 241, 3) := by decide +kernel
theorem d_Mo_attempt_81 : decode m_Mo_attempt.2.1 81 = .ok (.ifCond .ne 5, 3) := by decide +kernel
theorem d_Mo_attempt_84 : decode m_Mo_attempt.2.1 84 = .ok (.iconst 0, 1) := by decide +kernel
theorem d_Mo_attempt_85 : decode m_Mo_attempt.2.1 85 = .ok (.ireturn, 1) := by decide +kernel
theorem d_Mo_attempt_86 : decode m_Mo_attempt.2.1 86 = .ok (.iinc 2 1, 3) := by decide +kernel
theorem d_Mo_attempt_89 : decode m_Mo_attempt.2.1 89 = .ok (.goto (-47), 3) := by decide +kernel
theorem d_Mo_attempt_92 : decode m_Mo_attempt.2.1 92 = .ok (.iconst 1, 1) := by decide +kernel
theorem d_Mo_attempt_93 : decode m_Mo_attempt.2.1 93 = .ok (.ireturn, 1) := by decide +kernel
theorem d_Mo_perform_0 : decode m_Mo_perform.2.1 0 = .ok (.aload_n 0, 1) := by decide +kernel
theorem d_Mo_perform_1 : decode m_Mo_perform.2.1 1 = .ok (.iload_n 1, 1) := by decide +kernel
theorem d_Mo_perform_2 : decode m_Mo_perform.2.1 2 = .ok (.invokevirtual 191, 3) := by decide +kernel
theorem d_Mo_perform_5 : decode m_Mo_perform.2.1 5 = .ok (.istore_n 3, 1) := by decide +kernel
theorem d_Mo_perform_6 : decode m_Mo_perform.2.1 6 = .ok (.aload_n 0, 1) := by decide +kernel
theorem d_Mo_perform_7 : decode m_Mo_perform.2.1 7 = .ok (.getfield 71, 3) := by decide +kernel
theorem d_Mo_perform_10 : decode m_Mo_perform.2.1 10 = .ok (.iload_n 1, 1) := by decide +kernel
theorem d_Mo_perform_11 : decode m_Mo_perform.2.1 11 = .ok (.iload_n 3, 1) := by decide +kernel
theorem d_Mo_perform_12 : decode m_Mo_perform.2.1 12 = .ok (.ifCond .ge 7, 3) := by decide +kernel
theorem d_Mo_perform_15 : decode m_Mo_perform.2.1 15 = .ok (.iconst 1, 1) := by decide +kernel
theorem d_Mo_perform_16 : decode m_Mo_perform.2.1 16 = .ok (.goto 16, 3) := by decide +kernel
theorem d_Mo_perform_19 : decode m_Mo_perform.2.1 19 = .ok (.aload_n 0, 1) := by decide +kernel
theorem d_Mo_perform_20 : decode m_Mo_perform.2.1 20 = .ok (.iload_n 3, 1) := by decide +kernel
theorem d_Mo_perform_21 : decode m_Mo_perform.2.1 21 = .ok (.invokevirtual 194, 3) := by decide +kernel
theorem d_Mo_perform_24 : decode m_Mo_perform.2.1 24 = .ok (.ifCond .eq 7, 3) := by decide +kernel
theorem d_Mo_perform_27 : decode m_Mo_perform.2.1 27 = .ok (.iconst 2, 1) := by decide +kernel
theorem d_Mo_perform_28 : decode m_Mo_perform.2.1 28 = .ok (.goto 4, 3) := by decide +kernel
theorem d_Mo_perform_31 : decode m_Mo_perform.2.1 31 = .ok (.iconst 3, 1) := by decide +kernel
theorem d_Mo_perform_32 : decode m_Mo_perform.2.1 32 = .ok (.iastore, 1) := by decide +kernel
theorem d_Mo_perform_33 : decode m_Mo_perform.2.1 33 = .ok (.iload_n 3, 1) := by decide +kernel
theorem d_Mo_perform_34 : decode m_Mo_perform.2.1 34 = .ok (.ifCond .ge 49, 3) := by decide +kernel
theorem d_Mo_perform_37 : decode m_Mo_perform.2.1 37 = .ok (.aload_n 0, 1) := by decide +kernel
theorem d_Mo_perform_38 : decode m_Mo_perform.2.1 38 = .ok (.iload_n 1, 1) := by decide +kernel
theorem d_Mo_perform_39 : decode m_Mo_perform.2.1 39 = .ok (.invokevirtual 197, 3) := by decide +kernel
theorem d_Mo_perform_42 : decode m_Mo_perform.2.1 42 = .ok (.istore 4, 2) := by decide +kernel
theorem d_Mo_perform_44 : decode m_Mo_perform.2.1 44 = .ok (.aload_n 0, 1) := by decide +kernel
theorem d_Mo_perform_45 : decode m_Mo_perform.2.1 45 = .ok (.getfield 74, 3) := by decide +kernel
theorem d_Mo_perform_48 : decode m_Mo_perform.2.1 48 = .ok (.iload_n 1, 1) := by decide +kernel
theorem d_Mo_perform_49 : decode m_Mo_perform.2.1 49 = .ok (.iload 4, 2) := by decide +kernel
theorem d_Mo_perform_51 : decode m_Mo_perform.2.1 51 = .ok (.ifCond .ge 8, 3) := by decide +kernel
theorem d_Mo_perform_54 : decode m_Mo_perform.2.1 54 = .ok (.bipush 12, 2) := by decide +kernel
theorem d_Mo_perform_56 : decode m_Mo_perform.2.1 56 = .ok (.goto 9, 3) := by decide +kernel
theorem d_Mo_perform_59 : decode m_Mo_perform.2.1 59 = .ok (.aload_n 0, 1) := by decide +kernel
theorem d_Mo_perform_60 : decode m_Mo_perform.2.1 60 = .ok (.iload 4, 2) := by decide +kernel
theorem d_Mo_perform_62 : decode m_Mo_perform.2.1 62 = .ok (.invokevirtual 185, 3) := by decide +kernel
theorem d_Mo_perform_65 : decode m_Mo_perform.2.1 65 = .ok (.iastore, 1) := by decide +kernel
theorem d_Mo_perform_66 : decode m_Mo_perform.2.1 66 = .ok (.aload_n 0, 1) := by decide +kernel
theorem d_Mo_perform_67 : decode m_Mo_perform.2.1 67 = .ok (.iload_n 1, 1) := by decide +kernel
theorem d_Mo_perform_68 : decode m_Mo_perform.2.1 68 = .ok (.invokevirtual 200, 3) := by decide +kernel
theorem d_Mo_perform_71 : decode m_Mo_perform.2.1 71 = .ok (.aload_n 0, 1) := by decide +kernel
theorem d_Mo_perform_72 : decode m_Mo_perform.2.1 72 = .ok (.iload_n 1, 1) := by decide +kernel
theorem d_Mo_perform_73 : decode m_Mo_perform.2.1 73 = .ok (.invokevirtual 203, 3) := by decide +kernel
theorem d_Mo_perform_76 : decode m_Mo_perform.2.1 76 = .ok (.aload_n 0, 1) := by decide +kernel
theorem d_Mo_perform_77 : decode m_Mo_perform.2.1 77 = .ok (.getfield 176, 3) := by decide +kernel
theorem d_Mo_perform_80 : decode m_Mo_perform.2.1 80 = .ok (.iconst 1, 1) := by decide +kernel
theorem d_Mo_perform_81 : decode m_Mo_perform.2.1 81 = .ok (.isub, 1) := by decide +kernel
theorem d_Mo_perform_82 : decode m_Mo_perform.2.1 82 = .ok (.istore_n 3, 1) := by decide +kernel
theorem d_Mo_perform_83 : decode m_Mo_perform.2.1 83 = .ok (.aload_n 0, 1) := by decide +kernel
theorem d_Mo_perform_84 : decode m_Mo_perform.2.1 84 = .ok (.getfield 77, 3) := by decide +kernel
theorem d_Mo_perform_87 : decode m_Mo_perform.2.1 87 = .ok (.iload_n 1, 1) := by decide +kernel
theorem d_Mo_perform_88 : decode m_Mo_perform.2.1 88 = .ok (.aload_n 0, 1) := by decide +kernel
theorem d_Mo_perform_89 : decode m_Mo_perform.2.1 89 = .ok (.getfield 37, 3) := by decide +kernel
theorem d_Mo_perform_92 : decode m_Mo_perform.2.1 92 = .ok (.iload_n 3, 1) := by decide +kernel
theorem d_Mo_perform_93 : decode m_Mo_perform.2.1 93 = .ok (.iaload, 1) := by decide +kernel
theorem d_Mo_perform_94 : decode m_Mo_perform.2.1 94 = .ok (.iastore, 1) := by decide +kernel
theorem d_Mo_perform_95 : decode m_Mo_perform.2.1 95 = .ok (.aload_n 0, 1) := by decide +kernel
theorem d_Mo_perform_96 : decode m_Mo_perform.2.1 96 = .ok (.getfield 80, 3) := by decide +kernel
theorem d_Mo_perform_99 : decode m_Mo_perform.2.1 99 = .ok (.iload_n 1, 1) := by decide +kernel
theorem d_Mo_perform_100 : decode m_Mo_perform.2.1 100 = .ok (.aload_n 0, 1) := by decide +kernel
theorem d_Mo_perform_101 : decode m_Mo_perform.2.1 101 = .ok (.getfield 40, 3) := by decide +kernel
theorem d_Mo_perform_104 : decode m_Mo_perform.2.1 104 = .ok (.iload_n 3, 1) := by decide +kernel
theorem d_Mo_perform_105 : decode m_Mo_perform.2.1 105 = .ok (.iaload, 1) := by decide +kernel
theorem d_Mo_perform_106 : decode m_Mo_perform.2.1 106 = .ok (.iastore, 1) := by decide +kernel
theorem d_Mo_perform_107 : decode m_Mo_perform.2.1 107 = .ok (.aload_n 0, 1) := by decide +kernel
theorem d_Mo_perform_108 : decode m_Mo_perform.2.1 108 = .ok (.getfield 83, 3) := by decide +kernel
theorem d_Mo_perform_111 : decode m_Mo_perform.2.1 111 = .ok (.iload_n 1, 1) := by decide +kernel
theorem d_Mo_perform_112 : decode m_Mo_perform.2.1 112 = .ok (.aload_n 0, 1) := by decide +kernel
theorem d_Mo_perform_113 : decode m_Mo_perform.2.1 113 = .ok (.getfield 52, 3) := by decide +kernel
theorem d_Mo_perform_116 : decode m_Mo_perform.2.1 116 = .ok (.iload_n 3, 1) := by decide +kernel
theorem d_Mo_perform_117 : decode m_Mo_perform.2.1 117 = .ok (.iaload, 1) := by decide +kernel
theorem d_Mo_perform_118 : decode m_Mo_perform.2.1 118 = .ok (.iastore, 1) := by decide +kernel
theorem d_Mo_perform_119 : decode m_Mo_perform.2.1 119 = .ok (.aload_n 0, 1) := by decide +kernel
theorem d_Mo_perform_120 : decode m_Mo_perform.2.1 120 = .ok (.getfield 83, 3) := by decide +kernel
theorem d_Mo_perform_123 : decode m_Mo_perform.2.1 123 = .ok (.iload_n 1, 1) := by decide +kernel
theorem d_Mo_perform_124 : decode m_Mo_perform.2.1 124 = .ok (.iaload, 1) := by decide +kernel
theorem d_Mo_perform_125 : decode m_Mo_perform.2.1 125 = .ok (.ifCond .lt 21, 3) := by decide +kernel
theorem d_Mo_perform_128 : decode m_Mo_perform.2.1 128 = .ok (.aload_n 0, 1) := by decide +kernel
theorem d_Mo_perform_129 : decode m_Mo_perform.2.1 129 = .ok (.getfield 7, 3) := by decide +kernel
theorem d_Mo_perform_132 : decode m_Mo_perform.2.1 132 = .ok (.aload_n 0, 1) := by decide +kernel
theorem d_Mo_perform_133 : decode m_Mo_perform.2.1 133 = .ok (.getfield 83, 3) := by decide +kernel
theorem d_Mo_perform_136 : decode m_Mo_perform.2.1 136 = .ok (.iload_n 1, 1) := by decide +kernel
theorem d_Mo_perform_137 : decode m_Mo_perform.2.1 137 = .ok (.iaload, 1) := by decide +kernel
theorem d_Mo_perform_138 : decode m_Mo_perform.2.1 138 = .ok (.iaload, 1) := by decide +kernel
theorem d_Mo_perform_139 : decode m_Mo_perform.2.1 139 = .ok (.ifCond .lt 7, 3) := by decide +kernel
theorem d_Mo_perform_142 : decode m_Mo_perform.2.1 142 = .ok (.iconst 1, 1) := by decide +kernel
theorem d_Mo_perform_143 : decode m_Mo_perform.2.1 143 = .ok (.goto 4, 3) := by decide +kernel
theorem d_Mo_perform_146 : decode m_Mo_perform.2.1 146 = .ok (.iconst 0, 1) := by decide +kernel
theorem d_Mo_perform_147 : decode m_Mo_perform.2.1 147 = .ok (.istore 4, 2) := by decide +kernel
theorem d_Mo_perform_149 : decode m_Mo_perform.2.1 149 = .ok (.aload_n 0, 1) := by decide +kernel
theorem d_Mo_perform_150 : decode m_Mo_perform.2.1 150 = .ok (.iload_n 3, 1) := by decide +kernel
theorem d_Mo_perform_151 : decode m_Mo_perform.2.1 151 = .ok (.invokevirtual 206, 3) := by decide +kernel
theorem d_Mo_perform_154 : decode m_Mo_perform.2.1 154 = .ok (.aload_n 0, 1) := by decide +kernel
theorem d_Mo_perform_155 : decode m_Mo_perform.2.1 155 = .ok (.getfield 86, 3) := by decide +kernel
theorem d_Mo_perform_158 : decode m_Mo_perform.2.1 158 = .ok (.iload_n 1, 1) := by decide +kernel
theorem d_Mo_perform_159 : decode m_Mo_perform.2.1 159 = .ok (.aload_n 0, 1) := by decide +kernel
theorem d_Mo_perform_160 : decode m_Mo_perform.2.1 160 = .ok (.getfield 83, 3) := by decide +kernel
theorem d_Mo_perform_163 : decode m_Mo_perform.2.1 163 = .ok (.iload_n 1, 1) := by decide +kernel
theorem d_Mo_perform_164 : decode m_Mo_perform.2.1 164 = .ok (.iaload, 1) := by decide +kernel
theorem d_Mo_perform_165 : decode m_Mo_perform.2.1 165 = .ok (.ifCond .lt 31, 3) := by decide +kernel
theorem d_Mo_perform_168 : decode m_Mo_perform.2.1 168 = .ok (.iload 4, 2) := by decide +kernel
theorem d_Mo_perform_170 : decode m_Mo_perform.2.1 170 = .ok (.aload_n 0, 1) := by decide +kernel
theorem d_Mo_perform_171 : decode m_Mo_perform.2.1 171 = .ok (.getfield 7, 3) := by decide +kernel
theorem d_Mo_perform_174 : decode m_Mo_perform.2.1 174 = .ok (.aload_n 0, 1) := by decide +kernel
theorem d_Mo_perform_175 : decode m_Mo_perform.2.1 175 = .ok (.getfield 83, 3) := by decide +kernel
theorem d_Mo_perform_178 : decode m_Mo_perform.2.1 178 = .ok (.iload_n 1, 1) := by decide +kernel
theorem d_Mo_perform_179 : decode m_Mo_perform.2.1 179 = .ok (.iaload, 1) := by decide +kernel
theorem d_Mo_perform_180 : decode m_Mo_perform.2.1 180 = .ok (.iaload, 1) := by decide +kernel
theorem d_Mo_perform_181 : decode m_Mo_perform.2.1 181 = .ok (.ifCond .lt 7, 3) := by decide +kernel
theorem d_Mo_perform_184 : decode m_Mo_perform.2.1 184 = .ok (.iconst 1, 1) := by decide +kernel
theorem d_Mo_perform_185 : decode m_Mo_perform.2.1 185 = .ok (.goto 4, 3) := by decide +kernel
theorem d_Mo_perform_188 : decode m_Mo_perform.2.1 188 = .ok (.iconst 0, 1) := by decide +kernel
theorem d_Mo_perform_189 : decode m_Mo_perform.2.1 189 = .ok (.if_icmp .eq 7, 3) := by decide +kernel
theorem d_Mo_perform_192 : decode m_Mo_perform.2.1 192 = .ok (.iconst 1, 1) := by decide +kernel
theorem d_Mo_perform_193 : decode m_Mo_perform.2.1 193 = .ok (.goto 4, 3) := by decide +kernel
theorem d_Mo_perform_196 : decode m_Mo_perform.2.1 196 = .ok (.iconst 0, 1) := by decide +kernel
theorem d_Mo_perform_197 : decode m_Mo_perform.2.1 197 = .ok (.bastore, 1) := by decide +kernel
theorem d_Mo_perform_198 : decode m_Mo_perform.2.1 198 = .ok (.aload_n 0, 1) := by decide +kernel
theorem d_Mo_perform_199 : decode m_Mo_perform.2.1 199 = .ok (.getfield 64, 3) := by decide +kernel
theorem d_Mo_perform_202 : decode m_Mo_perform.2.1 202 = .ok (.iload_n 1, 1) := by decide +kernel
theorem d_Mo_perform_203 : decode m_Mo_perform.2.1 203 = .ok (.iconst 1, 1) := by decide +kernel
theorem d_Mo_perform_204 : decode m_Mo_perform.2.1 204 = .ok (.bastore, 1) := by decide +kernel
theorem d_Mo_perform_205 : decode m_Mo_perform.2.1 205 = .ok (.aload_n 0, 1) := by decide +kernel
theorem d_Mo_perform_206 : decode m_Mo_perform.2.1 206 = .ok (.getfield 68, 3) := by decide +kernel
theorem d_Mo_perform_209 : decode m_Mo_perform.2.1 209 = .ok (.iload_n 1, 1) := by decide +kernel
theorem d_Mo_perform_210 : decode m_Mo_perform.2.1 210 = .ok (.iload_n 2, 1) := by decide +kernel
theorem d_Mo_perform_211 : decode m_Mo_perform.2.1 211 = .ok (.bastore, 1) := by decide +kernel
theorem d_Mo_perform_212 : decode m_Mo_perform.2.1 212 = .ok (.return_, 1) := by decide +kernel
theorem d_Mo_fitting_0 : decode m_Mo_fitting.2.1 0 = .ok (.aload_n 0, 1) := by decide +kernel
theorem d_Mo_fitting_1 : decode m_Mo_fitting.2.1 1 = .ok (.getfield 176, 3) := by decide +kernel
theorem d_Mo_fitting_4 : decode m_Mo_fitting.2.1 4 = .ok (.iconst 1, 1) := by decide +kernel
theorem d_Mo_fitting_5 : decode m_Mo_fitting.2.1 5 = .ok (.isub, 1) := by decide +kernel
theorem d_Mo_fitting_6 : decode m_Mo_fitting.2.1 6 = .ok (.istore_n 2, 1) := by decide +kernel
theorem d_Mo_fitting_7 : decode m_Mo_fitting.2.1 7 = .ok (.iload_n 2, 1) := by decide +kernel
theorem d_Mo_fitting_8 : decode m_Mo_fitting.2.1 8 = .ok (.ifCond .lt 26, 3) := by decide +kernel
theorem d_Mo_fitting_11 : decode m_Mo_fitting.2.1 11 = .ok (.aload_n 0, 1) := by decide +kernel
theorem d_Mo_fitting_12 : decode m_Mo_fitting.2.1 12 = .ok (.iload_n 2, 1) := by decide +kernel
theorem d_Mo_fitting_13 : decode m_Mo_fitting.2.1 13 = .ok (.iload_n 1, 1) := by decide +kernel
theorem d_Mo_fitting_14 : decode m_Mo_fitting.2.1 14 = .ok (.invokevirtual 179, 3) := by decide +kernel
theorem d_Mo_fitting_17 : decode m_Mo_fitting.2.1 17 = .ok (.ifCond .eq 11, 3) := by decide +kernel
theorem d_Mo_fitting_20 : decode m_Mo_fitting.2.1 20 = .ok (.aload_n 0, 1) := by decide +kernel
theorem d_Mo_fitting_21 : decode m_Mo_fitting.2.1 21 = .ok (.iload_n 2, 1) := by decide +kernel
theorem d_Mo_fitting_22 : decode m_Mo_fitting.2.1 22 = .ok (.invokevirtual 185, 3) := by decide +kernel
theorem d_Mo_fitting_25 : decode m_Mo_fitting.2.1 25 = .ok (.ifCond .lt 9, 3) := by decide +kernel
theorem d_Mo_fitting_28 : decode m_Mo_fitting.2.1 28 = .ok (.iinc 2 (-1), 3) := by decide +kernel
theorem d_Mo_fitting_31 : decode m_Mo_fitting.2.1 31 = .ok (.goto (-24), 3) := by decide +kernel
theorem d_Mo_fitting_34 : decode m_Mo_fitting.2.1 34 = .ok (.iload_n 2, 1) := by decide +kernel
theorem d_Mo_fitting_35 : decode m_Mo_fitting.2.1 35 = .ok (.ireturn, 1) := by decide +kernel
theorem d_Mo_isOf_0 : decode m_Mo_isOf.2.1 0 = .ok (.aload_n 0, 1) := by decide +kernel
theorem d_Mo_isOf_1 : decode m_Mo_isOf.2.1 1 = .ok (.getfield 31, 3) := by decide +kernel
theorem d_Mo_isOf_4 : decode m_Mo_isOf.2.1 4 = .ok (.iload_n 1, 1) := by decide +kernel
theorem d_Mo_isOf_5 : decode m_Mo_isOf.2.1 5 = .ok (.iaload, 1) := by decide +kernel
theorem d_Mo_isOf_6 : decode m_Mo_isOf.2.1 6 = .ok (.aload_n 0, 1) := by decide +kernel
theorem d_Mo_isOf_7 : decode m_Mo_isOf.2.1 7 = .ok (.getfield 25, 3) := by decide +kernel
theorem d_Mo_isOf_10 : decode m_Mo_isOf.2.1 10 = .ok (.iload_n 2, 1) := by decide +kernel
theorem d_Mo_isOf_11 : decode m_Mo_isOf.2.1 11 = .ok (.iaload, 1) := by decide +kernel
theorem d_Mo_isOf_12 : decode m_Mo_isOf.2.1 12 = .ok (.if_icmp .ne 7, 3) := by decide +kernel
theorem d_Mo_isOf_15 : decode m_Mo_isOf.2.1 15 = .ok (.iconst 1, 1) := by decide +kernel
theorem d_Mo_isOf_16 : decode m_Mo_isOf.2.1 16 = .ok (.goto 4, 3) := by decide +kernel
theorem d_Mo_isOf_19 : decode m_Mo_isOf.2.1 19 = .ok (.iconst 0, 1) := by decide +kernel
theorem d_Mo_isOf_20 : decode m_Mo_isOf.2.1 20 = .ok (.istore_n 3, 1) := by decide +kernel
theorem d_Mo_isOf_21 : decode m_Mo_isOf.2.1 21 = .ok (.iconst 0, 1) := by decide +kernel
theorem d_Mo_isOf_22 : decode m_Mo_isOf.2.1 22 = .ok (.istore 4, 2) := by decide +kernel
theorem d_Mo_isOf_24 : decode m_Mo_isOf.2.1 24 = .ok (.iload 4, 2) := by decide +kernel
theorem d_Mo_isOf_26 : decode m_Mo_isOf.2.1 26 = .ok (.aload_n 0, 1) := by decide +kernel
theorem d_Mo_isOf_27 : decode m_Mo_isOf.2.1 27 = .ok (.getfield 25, 3) := by decide +kernel
theorem d_Mo_isOf_30 : decode m_Mo_isOf.2.1 30 = .ok (.iload_n 2, 1) := by decide +kernel
theorem d_Mo_isOf_31 : decode m_Mo_isOf.2.1 31 = .ok (.iaload, 1) := by decide +kernel
theorem d_Mo_isOf_32 : decode m_Mo_isOf.2.1 32 = .ok (.if_icmp .ge 46, 3) := by decide +kernel
theorem d_Mo_isOf_35 : decode m_Mo_isOf.2.1 35 = .ok (.iload_n 3, 1) := by decide +kernel
theorem d_Mo_isOf_36 : decode m_Mo_isOf.2.1 36 = .ok (.ifCond .eq 42, 3) := by decide +kernel
theorem d_Mo_isOf_39 : decode m_Mo_isOf.2.1 39 = .ok (.aload_n 0, 1) := by decide +kernel
theorem d_Mo_isOf_40 : decode m_Mo_isOf.2.1 40 = .ok (.getfield 34, 3) := by decide +kernel
theorem d_Mo_isOf_43 : decode m_Mo_isOf.2.1 43 = .ok (.bipush 12, 2) := by decide +kernel
theorem d_Mo_isOf_45 : decode m_Mo_isOf.2.1 45 = .ok (.iload_n 1, 1) := by decide +kernel
theorem d_Mo_isOf_46 : decode m_Mo_isOf.2.1 46 = .ok (.imul, 1) := by decide +kernel
theorem d_Mo_isOf_47 : decode m_Mo_isOf.2.1 47 = .ok (.iload 4, 2) := by decide +kernel
theorem d_Mo_isOf_49 : decode m_Mo_isOf.2.1 49 = .ok (.iadd, 1) := by decide +kernel
theorem d_Mo_isOf_50 : decode m_Mo_isOf.2.1 50 = .ok (.iaload, 1) := by decide +kernel
theorem d_Mo_isOf_51 : decode m_Mo_isOf.2.1 51 = .ok (.aload_n 0, 1) := by decide +kernel
theorem d_Mo_isOf_52 : decode m_Mo_isOf.2.1 52 = .ok (.getfield 28, 3) := by decide +kernel
theorem d_Mo_isOf_55 : decode m_Mo_isOf.2.1 55 = .ok (.bipush 12, 2) := by decide +kernel
theorem d_Mo_isOf_57 : decode m_Mo_isOf.2.1 57 = .ok (.iload_n 2, 1) := by decide +kernel
theorem d_Mo_isOf_58 : decode m_Mo_isOf.2.1 58 = .ok (.imul, 1) := by decide +kernel
theorem d_Mo_isOf_59 : decode m_Mo_isOf.2.1 59 = .ok (.iload 4, 2) := by decide +kernel
theorem d_Mo_isOf_61 : decode m_Mo_isOf.2.1 61 = .ok (.iadd, 1) := by decide +kernel
theorem d_Mo_isOf_62 : decode m_Mo_isOf.2.1 62 = .ok (.iaload, 1) := by decide +kernel
theorem d_Mo_isOf_63 : decode m_Mo_isOf.2.1 63 = .ok (.if_icmp .ne 7, 3) := by decide +kernel
theorem d_Mo_isOf_66 : decode m_Mo_isOf.2.1 66 = .ok (.iconst 1, 1) := by decide +kernel
theorem d_Mo_isOf_67 : decode m_Mo_isOf.2.1 67 = .ok (.goto 4, 3) := by decide +kernel
theorem d_Mo_isOf_70 : decode m_Mo_isOf.2.1 70 = .ok (.iconst 0, 1) := by decide +kernel
theorem d_Mo_isOf_71 : decode m_Mo_isOf.2.1 71 = .ok (.istore_n 3, 1) := by decide +kernel
theorem d_Mo_isOf_72 : decode m_Mo_isOf.2.1 72 = .ok (.iinc 4 1, 3) := by decide +kernel
theorem d_Mo_isOf_75 : decode m_Mo_isOf.2.1 75 = .ok (.goto (-51), 3) := by decide +kernel
theorem d_Mo_isOf_78 : decode m_Mo_isOf.2.1 78 = .ok (.iload_n 3, 1) := by decide +kernel
theorem d_Mo_isOf_79 : decode m_Mo_isOf.2.1 79 = .ok (.ireturn, 1) := by decide +kernel
theorem d_Mo_changedFor_0 : decode m_Mo_changedFor.2.1 0 = .ok (.iconst 0, 1) := by decide +kernel
theorem d_Mo_changedFor_1 : decode m_Mo_changedFor.2.1 1 = .ok (.istore_n 2, 1) := by decide +kernel
theorem d_Mo_changedFor_2 : decode m_Mo_changedFor.2.1 2 = .ok (.iload_n 2, 1) := by decide +kernel
theorem d_Mo_changedFor_3 : decode m_Mo_changedFor.2.1 3 = .ok (.bipush 12, 2) := by decide +kernel
theorem d_Mo_changedFor_5 : decode m_Mo_changedFor.2.1 5 = .ok (.if_icmp .ge 34, 3) := by decide +kernel
theorem d_Mo_changedFor_8 : decode m_Mo_changedFor.2.1 8 = .ok (.aload_n 0, 1) := by decide +kernel
theorem d_Mo_changedFor_9 : decode m_Mo_changedFor.2.1 9 = .ok (.getfield 37, 3) := by decide +kernel
theorem d_Mo_changedFor_12 : decode m_Mo_changedFor.2.1 12 = .ok (.iload_n 1, 1) := by decide +kernel
theorem d_Mo_changedFor_13 : decode m_Mo_changedFor.2.1 13 = .ok (.iaload, 1) := by decide +kernel
theorem d_Mo_changedFor_14 : decode m_Mo_changedFor.2.1 14 = .ok (.iload_n 2, 1) := by decide +kernel
theorem d_Mo_changedFor_15 : decode m_Mo_changedFor.2.1 15 = .ok (.ishr, 1) := by decide +kernel
theorem d_Mo_changedFor_16 : decode m_Mo_changedFor.2.1 16 = .ok (.iconst 1, 1) := by decide +kernel
theorem d_Mo_changedFor_17 : decode m_Mo_changedFor.2.1 17 = .ok (.iand, 1) := by decide +kernel
theorem d_Mo_changedFor_18 : decode m_Mo_changedFor.2.1 18 = .ok (.iconst 1, 1) := by decide +kernel
theorem d_Mo_changedFor_19 : decode m_Mo_changedFor.2.1 19 = .ok (.if_icmp .ne 14, 3) := by decide +kernel
theorem d_Mo_changedFor_22 : decode m_Mo_changedFor.2.1 22 = .ok (.aload_n 0, 1) := by decide +kernel
theorem d_Mo_changedFor_23 : decode m_Mo_changedFor.2.1 23 = .ok (.iload_n 1, 1) := by decide +kernel
theorem d_Mo_changedFor_24 : decode m_Mo_changedFor.2.1 24 = .ok (.iload_n 2, 1) := by decide +kernel
theorem d_Mo_changedFor_25 : decode m_Mo_changedFor.2.1 25 = .ok (.invokevirtual 182, 3) := by decide +kernel
theorem d_Mo_changedFor_28 : decode m_Mo_changedFor.2.1 28 = .ok (.ifCond .ne 5, 3) := by decide +kernel
theorem d_Mo_changedFor_31 : decode m_Mo_changedFor.2.1 31 = .ok (.iload_n 2, 1) := by decide +kernel
theorem d_Mo_changedFor_32 : decode m_Mo_changedFor.2.1 32 = .ok (.ireturn, 1) := by decide +kernel
theorem d_Mo_changedFor_33 : decode m_Mo_changedFor.2.1 33 = .ok (.iinc 2 1, 3) := by decide +kernel
theorem d_Mo_changedFor_36 : decode m_Mo_changedFor.2.1 36 = .ok (.goto (-34), 3) := by decide +kernel
theorem d_Mo_changedFor_39 : decode m_Mo_changedFor.2.1 39 = .ok (.iconst 0, 1) := by decide +kernel
theorem d_Mo_changedFor_40 : decode m_Mo_changedFor.2.1 40 = .ok (.istore_n 2, 1) := by decide +kernel
theorem d_Mo_changedFor_41 : decode m_Mo_changedFor.2.1 41 = .ok (.iload_n 2, 1) := by decide +kernel
theorem d_Mo_changedFor_42 : decode m_Mo_changedFor.2.1 42 = .ok (.bipush 12, 2) := by decide +kernel
theorem d_Mo_changedFor_44 : decode m_Mo_changedFor.2.1 44 = .ok (.if_icmp .ge 63, 3) := by decide +kernel
theorem d_Mo_changedFor_47 : decode m_Mo_changedFor.2.1 47 = .ok (.aload_n 0, 1) := by decide +kernel
theorem d_Mo_changedFor_48 : decode m_Mo_changedFor.2.1 48 = .ok (.getfield 43, 3) := by decide +kernel
theorem d_Mo_changedFor_51 : decode m_Mo_changedFor.2.1 51 = .ok (.iload_n 1, 1) := by decide +kernel
theorem d_Mo_changedFor_52 : decode m_Mo_changedFor.2.1 52 = .ok (.iaload, 1) := by decide +kernel
theorem d_Mo_changedFor_53 : decode m_Mo_changedFor.2.1 53 = .ok (.iload_n 2, 1) := by decide +kernel
theorem d_Mo_changedFor_54 : decode m_Mo_changedFor.2.1 54 = .ok (.ishr, 1) := by decide +kernel
theorem d_Mo_changedFor_55 : decode m_Mo_changedFor.2.1 55 = .ok (.iconst 1, 1) := by decide +kernel
theorem d_Mo_changedFor_56 : decode m_Mo_changedFor.2.1 56 = .ok (.iand, 1) := by decide +kernel
theorem d_Mo_changedFor_57 : decode m_Mo_changedFor.2.1 57 = .ok (.iconst 1, 1) := by decide +kernel
theorem d_Mo_changedFor_58 : decode m_Mo_changedFor.2.1 58 = .ok (.if_icmp .ne 7, 3) := by decide +kernel
theorem d_Mo_changedFor_61 : decode m_Mo_changedFor.2.1 61 = .ok (.iconst 1, 1) := by decide +kernel
theorem d_Mo_changedFor_62 : decode m_Mo_changedFor.2.1 62 = .ok (.goto 4, 3) := by decide +kernel
theorem d_Mo_changedFor_65 : decode m_Mo_changedFor.2.1 65 = .ok (.iconst 0, 1) := by decide +kernel
theorem d_Mo_changedFor_66 : decode m_Mo_changedFor.2.1 66 = .ok (.istore_n 3, 1) := by decide +kernel
theorem d_Mo_changedFor_67 : decode m_Mo_changedFor.2.1 67 = .ok (.aload_n 0, 1) := by decide +kernel
theorem d_Mo_changedFor_68 : decode m_Mo_changedFor.2.1 68 = .ok (.getfield 40, 3) := by decide +kernel
theorem d_Mo_changedFor_71 : decode m_Mo_changedFor.2.1 71 = .ok (.iload_n 1, 1) := by decide +kernel
theorem d_Mo_changedFor_72 : decode m_Mo_changedFor.2.1 72 = .ok (.iaload, 1) := by decide +kernel
theorem d_Mo_changedFor_73 : decode m_Mo_changedFor.2.1 73 = .ok (.iload_n 2, 1) := by decide +kernel
theorem d_Mo_changedFor_74 : decode m_Mo_changedFor.2.1 74 = .ok (.ishr, 1) := by decide +kernel
theorem d_Mo_changedFor_75 : decode m_Mo_changedFor.2.1 75 = .ok (.iconst 1, 1) := by decide +kernel
theorem d_Mo_changedFor_76 : decode m_Mo_changedFor.2.1 76 = .ok (.iand, 1) := by decide +kernel
theorem d_Mo_changedFor_77 : decode m_Mo_changedFor.2.1 77 = .ok (.iconst 1, 1) := by decide +kernel
theorem d_Mo_changedFor_78 : decode m_Mo_changedFor.2.1 78 = .ok (.if_icmp .ne 23, 3) := by decide +kernel
theorem d_Mo_changedFor_81 : decode m_Mo_changedFor.2.1 81 = .ok (.iload_n 3, 1) := by decide +kernel
theorem d_Mo_changedFor_82 : decode m_Mo_changedFor.2.1 82 = .ok (.aload_n 0, 1) := by decide +kernel
theorem d_Mo_changedFor_83 : decode m_Mo_changedFor.2.1 83 = .ok (.getfield 7, 3) := by decide +kernel
theorem d_Mo_changedFor_86 : decode m_Mo_changedFor.2.1 86 = .ok (.iload_n 2, 1) := by decide +kernel
theorem d_Mo_changedFor_87 : decode m_Mo_changedFor.2.1 87 = .ok (.iaload, 1) := by decide +kernel
theorem d_Mo_changedFor_88 : decode m_Mo_changedFor.2.1 88 = .ok (.ifCond .lt 7, 3) := by decide +kernel
theorem d_Mo_changedFor_91 : decode m_Mo_changedFor.2.1 91 = .ok (.iconst 1, 1) := by decide +kernel
theorem d_Mo_changedFor_92 : decode m_Mo_changedFor.2.1 92 = .ok (.goto 4, 3) := by decide +kernel
theorem d_Mo_changedFor_95 : decode m_Mo_changedFor.2.1 95 = .ok (.iconst 0, 1) := by decide +kernel
theorem d_Mo_changedFor_96 : decode m_Mo_changedFor.2.1 96 = .ok (.if_icmp .eq 5, 3) := by decide +kernel
theorem d_Mo_changedFor_99 : decode m_Mo_changedFor.2.1 99 = .ok (.iload_n 2, 1) := by decide +kernel
theorem d_Mo_changedFor_100 : decode m_Mo_changedFor.2.1 100 = .ok (.ireturn, 1) := by decide +kernel
theorem d_Mo_changedFor_101 : decode m_Mo_changedFor.2.1 101 = .ok (.iinc 2 1, 3) := by decide +kernel
theorem d_Mo_changedFor_104 : decode m_Mo_changedFor.2.1 104 = .ok (.goto (-63), 3) := by decide +kernel
theorem d_Mo_changedFor_107 : decode m_Mo_changedFor.2.1 107 = .ok (.iconst (-1), 1) := by decide +kernel
theorem d_Mo_changedFor_108 : decode m_Mo_changedFor.2.1 108 = .ok (.ireturn, 1) := by decide +kernel
theorem d_Mo_isAsRead_0 : decode m_Mo_isAsRead.2.1 0 = .ok (.aload_n 0, 1) := by decide +kernel
theorem d_Mo_isAsRead_1 : decode m_Mo_isAsRead.2.1 1 = .ok (.getfield 46, 3) := by decide +kernel
theorem d_Mo_isAsRead_4 : decode m_Mo_isAsRead.2.1 4 = .ok (.bipush 12, 2) := by decide +kernel
theorem d_Mo_isAsRead_6 : decode m_Mo_isAsRead.2.1 6 = .ok (.iload_n 1, 1) := by decide +kernel
theorem d_Mo_isAsRead_7 : decode m_Mo_isAsRead.2.1 7 = .ok (.imul, 1) := by decide +kernel
theorem d_Mo_isAsRead_8 : decode m_Mo_isAsRead.2.1 8 = .ok (.iload_n 2, 1) := by decide +kernel
theorem d_Mo_isAsRead_9 : decode m_Mo_isAsRead.2.1 9 = .ok (.iadd, 1) := by decide +kernel
theorem d_Mo_isAsRead_10 : decode m_Mo_isAsRead.2.1 10 = .ok (.iaload, 1) := by decide +kernel
theorem d_Mo_isAsRead_11 : decode m_Mo_isAsRead.2.1 11 = .ok (.aload_n 0, 1) := by decide +kernel
theorem d_Mo_isAsRead_12 : decode m_Mo_isAsRead.2.1 12 = .ok (.getfield 7, 3) := by decide +kernel
theorem d_Mo_isAsRead_15 : decode m_Mo_isAsRead.2.1 15 = .ok (.iload_n 2, 1) := by decide +kernel
theorem d_Mo_isAsRead_16 : decode m_Mo_isAsRead.2.1 16 = .ok (.iaload, 1) := by decide +kernel
theorem d_Mo_isAsRead_17 : decode m_Mo_isAsRead.2.1 17 = .ok (.if_icmp .ne 7, 3) := by decide +kernel
theorem d_Mo_isAsRead_20 : decode m_Mo_isAsRead.2.1 20 = .ok (.iconst 1, 1) := by decide +kernel
theorem d_Mo_isAsRead_21 : decode m_Mo_isAsRead.2.1 21 = .ok (.goto 4, 3) := by decide +kernel
theorem d_Mo_isAsRead_24 : decode m_Mo_isAsRead.2.1 24 = .ok (.iconst 0, 1) := by decide +kernel
theorem d_Mo_isAsRead_25 : decode m_Mo_isAsRead.2.1 25 = .ok (.istore_n 3, 1) := by decide +kernel
theorem d_Mo_isAsRead_26 : decode m_Mo_isAsRead.2.1 26 = .ok (.iconst 0, 1) := by decide +kernel
theorem d_Mo_isAsRead_27 : decode m_Mo_isAsRead.2.1 27 = .ok (.istore 4, 2) := by decide +kernel
theorem d_Mo_isAsRead_29 : decode m_Mo_isAsRead.2.1 29 = .ok (.iload 4, 2) := by decide +kernel
theorem d_Mo_isAsRead_31 : decode m_Mo_isAsRead.2.1 31 = .ok (.aload_n 0, 1) := by decide +kernel
theorem d_Mo_isAsRead_32 : decode m_Mo_isAsRead.2.1 32 = .ok (.getfield 7, 3) := by decide +kernel
theorem d_Mo_isAsRead_35 : decode m_Mo_isAsRead.2.1 35 = .ok (.iload_n 2, 1) := by decide +kernel
theorem d_Mo_isAsRead_36 : decode m_Mo_isAsRead.2.1 36 = .ok (.iaload, 1) := by decide +kernel
theorem d_Mo_isAsRead_37 : decode m_Mo_isAsRead.2.1 37 = .ok (.if_icmp .ge 51, 3) := by decide +kernel
theorem d_Mo_isAsRead_40 : decode m_Mo_isAsRead.2.1 40 = .ok (.iload_n 3, 1) := by decide +kernel
theorem d_Mo_isAsRead_41 : decode m_Mo_isAsRead.2.1 41 = .ok (.ifCond .eq 47, 3) := by decide +kernel
theorem d_Mo_isAsRead_44 : decode m_Mo_isAsRead.2.1 44 = .ok (.aload_n 0, 1) := by decide +kernel
theorem d_Mo_isAsRead_45 : decode m_Mo_isAsRead.2.1 45 = .ok (.getfield 49, 3) := by decide +kernel
theorem d_Mo_isAsRead_48 : decode m_Mo_isAsRead.2.1 48 = .ok (.bipush 6, 2) := by decide +kernel
theorem d_Mo_isAsRead_50 : decode m_Mo_isAsRead.2.1 50 = .ok (.bipush 12, 2) := by decide +kernel
theorem d_Mo_isAsRead_52 : decode m_Mo_isAsRead.2.1 52 = .ok (.iload_n 1, 1) := by decide +kernel
theorem d_Mo_isAsRead_53 : decode m_Mo_isAsRead.2.1 53 = .ok (.imul, 1) := by decide +kernel
theorem d_Mo_isAsRead_54 : decode m_Mo_isAsRead.2.1 54 = .ok (.iload_n 2, 1) := by decide +kernel
theorem d_Mo_isAsRead_55 : decode m_Mo_isAsRead.2.1 55 = .ok (.iadd, 1) := by decide +kernel
theorem d_Mo_isAsRead_56 : decode m_Mo_isAsRead.2.1 56 = .ok (.imul, 1) := by decide +kernel
theorem d_Mo_isAsRead_57 : decode m_Mo_isAsRead.2.1 57 = .ok (.iload 4, 2) := by decide +kernel
theorem d_Mo_isAsRead_59 : decode m_Mo_isAsRead.2.1 59 = .ok (.iadd, 1) := by decide +kernel
theorem d_Mo_isAsRead_60 : decode m_Mo_isAsRead.2.1 60 = .ok (.iaload, 1) := by decide +kernel
theorem d_Mo_isAsRead_61 : decode m_Mo_isAsRead.2.1 61 = .ok (.aload_n 0, 1) := by decide +kernel
theorem d_Mo_isAsRead_62 : decode m_Mo_isAsRead.2.1 62 = .ok (.getfield 13, 3) := by decide +kernel
theorem d_Mo_isAsRead_65 : decode m_Mo_isAsRead.2.1 65 = .ok (.bipush 6, 2) := by decide +kernel
theorem d_Mo_isAsRead_67 : decode m_Mo_isAsRead.2.1 67 = .ok (.iload_n 2, 1) := by decide +kernel
theorem d_Mo_isAsRead_68 : decode m_Mo_isAsRead.2.1 68 = .ok (.imul, 1) := by decide +kernel
theorem d_Mo_isAsRead_69 : decode m_Mo_isAsRead.2.1 69 = .ok (.iload 4, 2) := by decide +kernel
theorem d_Mo_isAsRead_71 : decode m_Mo_isAsRead.2.1 71 = .ok (.iadd, 1) := by decide +kernel
theorem d_Mo_isAsRead_72 : decode m_Mo_isAsRead.2.1 72 = .ok (.iaload, 1) := by decide +kernel
theorem d_Mo_isAsRead_73 : decode m_Mo_isAsRead.2.1 73 = .ok (.if_icmp .ne 7, 3) := by decide +kernel
theorem d_Mo_isAsRead_76 : decode m_Mo_isAsRead.2.1 76 = .ok (.iconst 1, 1) := by decide +kernel
theorem d_Mo_isAsRead_77 : decode m_Mo_isAsRead.2.1 77 = .ok (.goto 4, 3) := by decide +kernel
theorem d_Mo_isAsRead_80 : decode m_Mo_isAsRead.2.1 80 = .ok (.iconst 0, 1) := by decide +kernel
theorem d_Mo_isAsRead_81 : decode m_Mo_isAsRead.2.1 81 = .ok (.istore_n 3, 1) := by decide +kernel
theorem d_Mo_isAsRead_82 : decode m_Mo_isAsRead.2.1 82 = .ok (.iinc 4 1, 3) := by decide +kernel
theorem d_Mo_isAsRead_85 : decode m_Mo_isAsRead.2.1 85 = .ok (.goto (-56), 3) := by decide +kernel
theorem d_Mo_isAsRead_88 : decode m_Mo_isAsRead.2.1 88 = .ok (.iload_n 3, 1) := by decide +kernel
theorem d_Mo_isAsRead_89 : decode m_Mo_isAsRead.2.1 89 = .ok (.ireturn, 1) := by decide +kernel
theorem d_Mo_isWritten_0 : decode m_Mo_isWritten.2.1 0 = .ok (.aload_n 0, 1) := by decide +kernel
theorem d_Mo_isWritten_1 : decode m_Mo_isWritten.2.1 1 = .ok (.getfield 52, 3) := by decide +kernel
theorem d_Mo_isWritten_4 : decode m_Mo_isWritten.2.1 4 = .ok (.iload_n 1, 1) := by decide +kernel
theorem d_Mo_isWritten_5 : decode m_Mo_isWritten.2.1 5 = .ok (.iaload, 1) := by decide +kernel
theorem d_Mo_isWritten_6 : decode m_Mo_isWritten.2.1 6 = .ok (.istore_n 2, 1) := by decide +kernel
theorem d_Mo_isWritten_7 : decode m_Mo_isWritten.2.1 7 = .ok (.iload_n 2, 1) := by decide +kernel
theorem d_Mo_isWritten_8 : decode m_Mo_isWritten.2.1 8 = .ok (.ifCond .ge 5, 3) := by decide +kernel
theorem d_Mo_isWritten_11 : decode m_Mo_isWritten.2.1 11 = .ok (.iconst 1, 1) := by decide +kernel
theorem d_Mo_isWritten_12 : decode m_Mo_isWritten.2.1 12 = .ok (.ireturn, 1) := by decide +kernel
theorem d_Mo_isWritten_13 : decode m_Mo_isWritten.2.1 13 = .ok (.aload_n 0, 1) := by decide +kernel
theorem d_Mo_isWritten_14 : decode m_Mo_isWritten.2.1 14 = .ok (.getfield 7, 3) := by decide +kernel
theorem d_Mo_isWritten_17 : decode m_Mo_isWritten.2.1 17 = .ok (.iload_n 2, 1) := by decide +kernel
theorem d_Mo_isWritten_18 : decode m_Mo_isWritten.2.1 18 = .ok (.iaload, 1) := by decide +kernel
theorem d_Mo_isWritten_19 : decode m_Mo_isWritten.2.1 19 = .ok (.aload_n 0, 1) := by decide +kernel
theorem d_Mo_isWritten_20 : decode m_Mo_isWritten.2.1 20 = .ok (.getfield 55, 3) := by decide +kernel
theorem d_Mo_isWritten_23 : decode m_Mo_isWritten.2.1 23 = .ok (.iload_n 1, 1) := by decide +kernel
theorem d_Mo_isWritten_24 : decode m_Mo_isWritten.2.1 24 = .ok (.iaload, 1) := by decide +kernel
theorem d_Mo_isWritten_25 : decode m_Mo_isWritten.2.1 25 = .ok (.if_icmp .ne 7, 3) := by decide +kernel
theorem d_Mo_isWritten_28 : decode m_Mo_isWritten.2.1 28 = .ok (.iconst 1, 1) := by decide +kernel
theorem d_Mo_isWritten_29 : decode m_Mo_isWritten.2.1 29 = .ok (.goto 4, 3) := by decide +kernel
theorem d_Mo_isWritten_32 : decode m_Mo_isWritten.2.1 32 = .ok (.iconst 0, 1) := by decide +kernel
theorem d_Mo_isWritten_33 : decode m_Mo_isWritten.2.1 33 = .ok (.istore_n 3, 1) := by decide +kernel
theorem d_Mo_isWritten_34 : decode m_Mo_isWritten.2.1 34 = .ok (.iconst 0, 1) := by decide +kernel
theorem d_Mo_isWritten_35 : decode m_Mo_isWritten.2.1 35 = .ok (.istore 4, 2) := by decide +kernel
theorem d_Mo_isWritten_37 : decode m_Mo_isWritten.2.1 37 = .ok (.iload 4, 2) := by decide +kernel
theorem d_Mo_isWritten_39 : decode m_Mo_isWritten.2.1 39 = .ok (.aload_n 0, 1) := by decide +kernel
theorem d_Mo_isWritten_40 : decode m_Mo_isWritten.2.1 40 = .ok (.getfield 55, 3) := by decide +kernel
theorem d_Mo_isWritten_43 : decode m_Mo_isWritten.2.1 43 = .ok (.iload_n 1, 1) := by decide +kernel
theorem d_Mo_isWritten_44 : decode m_Mo_isWritten.2.1 44 = .ok (.iaload, 1) := by decide +kernel
theorem d_Mo_isWritten_45 : decode m_Mo_isWritten.2.1 45 = .ok (.if_icmp .ge 46, 3) := by decide +kernel
theorem d_Mo_isWritten_48 : decode m_Mo_isWritten.2.1 48 = .ok (.iload_n 3, 1) := by decide +kernel
theorem d_Mo_isWritten_49 : decode m_Mo_isWritten.2.1 49 = .ok (.ifCond .eq 42, 3) := by decide +kernel
theorem d_Mo_isWritten_52 : decode m_Mo_isWritten.2.1 52 = .ok (.aload_n 0, 1) := by decide +kernel
theorem d_Mo_isWritten_53 : decode m_Mo_isWritten.2.1 53 = .ok (.getfield 13, 3) := by decide +kernel
theorem d_Mo_isWritten_56 : decode m_Mo_isWritten.2.1 56 = .ok (.bipush 6, 2) := by decide +kernel
theorem d_Mo_isWritten_58 : decode m_Mo_isWritten.2.1 58 = .ok (.iload_n 2, 1) := by decide +kernel
theorem d_Mo_isWritten_59 : decode m_Mo_isWritten.2.1 59 = .ok (.imul, 1) := by decide +kernel
theorem d_Mo_isWritten_60 : decode m_Mo_isWritten.2.1 60 = .ok (.iload 4, 2) := by decide +kernel
theorem d_Mo_isWritten_62 : decode m_Mo_isWritten.2.1 62 = .ok (.iadd, 1) := by decide +kernel
theorem d_Mo_isWritten_63 : decode m_Mo_isWritten.2.1 63 = .ok (.iaload, 1) := by decide +kernel
theorem d_Mo_isWritten_64 : decode m_Mo_isWritten.2.1 64 = .ok (.aload_n 0, 1) := by decide +kernel
theorem d_Mo_isWritten_65 : decode m_Mo_isWritten.2.1 65 = .ok (.getfield 58, 3) := by decide +kernel
theorem d_Mo_isWritten_68 : decode m_Mo_isWritten.2.1 68 = .ok (.bipush 6, 2) := by decide +kernel
theorem d_Mo_isWritten_70 : decode m_Mo_isWritten.2.1 70 = .ok (.iload_n 1, 1) := by decide +kernel
theorem d_Mo_isWritten_71 : decode m_Mo_isWritten.2.1 71 = .ok (.imul, 1) := by decide +kernel
theorem d_Mo_isWritten_72 : decode m_Mo_isWritten.2.1 72 = .ok (.iload 4, 2) := by decide +kernel
theorem d_Mo_isWritten_74 : decode m_Mo_isWritten.2.1 74 = .ok (.iadd, 1) := by decide +kernel
theorem d_Mo_isWritten_75 : decode m_Mo_isWritten.2.1 75 = .ok (.iaload, 1) := by decide +kernel
theorem d_Mo_isWritten_76 : decode m_Mo_isWritten.2.1 76 = .ok (.if_icmp .ne 7, 3) := by decide +kernel
theorem d_Mo_isWritten_79 : decode m_Mo_isWritten.2.1 79 = .ok (.iconst 1, 1) := by decide +kernel
theorem d_Mo_isWritten_80 : decode m_Mo_isWritten.2.1 80 = .ok (.goto 4, 3) := by decide +kernel
theorem d_Mo_isWritten_83 : decode m_Mo_isWritten.2.1 83 = .ok (.iconst 0, 1) := by decide +kernel
theorem d_Mo_isWritten_84 : decode m_Mo_isWritten.2.1 84 = .ok (.istore_n 3, 1) := by decide +kernel
theorem d_Mo_isWritten_85 : decode m_Mo_isWritten.2.1 85 = .ok (.iinc 4 1, 3) := by decide +kernel
theorem d_Mo_isWritten_88 : decode m_Mo_isWritten.2.1 88 = .ok (.goto (-51), 3) := by decide +kernel
theorem d_Mo_isWritten_91 : decode m_Mo_isWritten.2.1 91 = .ok (.iload_n 3, 1) := by decide +kernel
theorem d_Mo_isWritten_92 : decode m_Mo_isWritten.2.1 92 = .ok (.ireturn, 1) := by decide +kernel
theorem d_Mo_latestOf_0 : decode m_Mo_latestOf.2.1 0 = .ok (.aload_n 0, 1) := by decide +kernel
theorem d_Mo_latestOf_1 : decode m_Mo_latestOf.2.1 1 = .ok (.getfield 176, 3) := by decide +kernel
theorem d_Mo_latestOf_4 : decode m_Mo_latestOf.2.1 4 = .ok (.iconst 1, 1) := by decide +kernel
theorem d_Mo_latestOf_5 : decode m_Mo_latestOf.2.1 5 = .ok (.isub, 1) := by decide +kernel
theorem d_Mo_latestOf_6 : decode m_Mo_latestOf.2.1 6 = .ok (.istore_n 2, 1) := by decide +kernel
theorem d_Mo_latestOf_7 : decode m_Mo_latestOf.2.1 7 = .ok (.iload_n 2, 1) := by decide +kernel
theorem d_Mo_latestOf_8 : decode m_Mo_latestOf.2.1 8 = .ok (.ifCond .lt 18, 3) := by decide +kernel
theorem d_Mo_latestOf_11 : decode m_Mo_latestOf.2.1 11 = .ok (.aload_n 0, 1) := by decide +kernel
theorem d_Mo_latestOf_12 : decode m_Mo_latestOf.2.1 12 = .ok (.iload_n 2, 1) := by decide +kernel
theorem d_Mo_latestOf_13 : decode m_Mo_latestOf.2.1 13 = .ok (.iload_n 1, 1) := by decide +kernel
theorem d_Mo_latestOf_14 : decode m_Mo_latestOf.2.1 14 = .ok (.invokevirtual 179, 3) := by decide +kernel
theorem d_Mo_latestOf_17 : decode m_Mo_latestOf.2.1 17 = .ok (.ifCond .ne 9, 3) := by decide +kernel
theorem d_Mo_latestOf_20 : decode m_Mo_latestOf.2.1 20 = .ok (.iinc 2 (-1), 3) := by decide +kernel
theorem d_Mo_latestOf_23 : decode m_Mo_latestOf.2.1 23 = .ok (.goto (-16), 3) := by decide +kernel
theorem d_Mo_latestOf_26 : decode m_Mo_latestOf.2.1 26 = .ok (.iload_n 2, 1) := by decide +kernel
theorem d_Mo_latestOf_27 : decode m_Mo_latestOf.2.1 27 = .ok (.ireturn, 1) := by decide +kernel
theorem d_Mo_work_0 : decode m_Mo_work.2.1 0 = .ok (.aload_n 0, 1) := by decide +kernel
theorem d_Mo_work_1 : decode m_Mo_work.2.1 1 = .ok (.iconst 0, 1) := by decide +kernel
theorem d_Mo_work_2 : decode m_Mo_work.2.1 2 = .ok (.putfield 135, 3) := by decide +kernel
theorem d_Mo_work_5 : decode m_Mo_work.2.1 5 = .ok (.aload_n 0, 1) := by decide +kernel
theorem d_Mo_work_6 : decode m_Mo_work.2.1 6 = .ok (.iconst 0, 1) := by decide +kernel
theorem d_Mo_work_7 : decode m_Mo_work.2.1 7 = .ok (.putfield 144, 3) := by decide +kernel
theorem d_Mo_work_10 : decode m_Mo_work.2.1 10 = .ok (.aload_n 0, 1) := by decide +kernel
theorem d_Mo_work_11 : decode m_Mo_work.2.1 11 = .ok (.iconst (-1), 1) := by decide +kernel
theorem d_Mo_work_12 : decode m_Mo_work.2.1 12 = .ok (.putfield 147, 3) := by decide +kernel
theorem d_Mo_work_15 : decode m_Mo_work.2.1 15 = .ok (.aload_n 0, 1) := by decide +kernel
theorem d_Mo_work_16 : decode m_Mo_work.2.1 16 = .ok (.iconst 0, 1) := by decide +kernel
theorem d_Mo_work_17 : decode m_Mo_work.2.1 17 = .ok (.putfield 132, 3) := by decide +kernel
theorem d_Mo_work_20 : decode m_Mo_work.2.1 20 = .ok (.iconst 0, 1) := by decide +kernel
theorem d_Mo_work_21 : decode m_Mo_work.2.1 21 = .ok (.istore_n 2, 1) := by decide +kernel
theorem d_Mo_work_22 : decode m_Mo_work.2.1 22 = .ok (.aload_n 0, 1) := by decide +kernel
theorem d_Mo_work_23 : decode m_Mo_work.2.1 23 = .ok (.getfield 28, 3) := by decide +kernel
theorem d_Mo_work_26 : decode m_Mo_work.2.1 26 = .ok (.bipush 12, 2) := by decide +kernel
theorem d_Mo_work_28 : decode m_Mo_work.2.1 28 = .ok (.iload_n 1, 1) := by decide +kernel
theorem d_Mo_work_29 : decode m_Mo_work.2.1 29 = .ok (.imul, 1) := by decide +kernel
theorem d_Mo_work_30 : decode m_Mo_work.2.1 30 = .ok (.iload_n 2, 1) := by decide +kernel
theorem d_Mo_work_31 : decode m_Mo_work.2.1 31 = .ok (.iadd, 1) := by decide +kernel
theorem d_Mo_work_32 : decode m_Mo_work.2.1 32 = .ok (.iaload, 1) := by decide +kernel
theorem d_Mo_work_33 : decode m_Mo_work.2.1 33 = .ok (.bipush 63, 2) := by decide +kernel
theorem d_Mo_work_35 : decode m_Mo_work.2.1 35 = .ok (.if_icmp .ne 46, 3) := by decide +kernel
theorem d_Mo_work_38 : decode m_Mo_work.2.1 38 = .ok (.aload_n 0, 1) := by decide +kernel
theorem d_Mo_work_39 : decode m_Mo_work.2.1 39 = .ok (.iload_n 1, 1) := by decide +kernel
theorem d_Mo_work_40 : decode m_Mo_work.2.1 40 = .ok (.iload_n 2, 1) := by decide +kernel
theorem d_Mo_work_41 : decode m_Mo_work.2.1 41 = .ok (.iconst 1, 1) := by decide +kernel
theorem d_Mo_work_42 : decode m_Mo_work.2.1 42 = .ok (.iadd, 1) := by decide +kernel
theorem d_Mo_work_43 : decode m_Mo_work.2.1 43 = .ok (.invokevirtual 150, 3) := by decide +kernel
theorem d_Mo_work_46 : decode m_Mo_work.2.1 46 = .ok (.istore_n 3, 1) := by decide +kernel
theorem d_Mo_work_47 : decode m_Mo_work.2.1 47 = .ok (.aload_n 0, 1) := by decide +kernel
theorem d_Mo_work_48 : decode m_Mo_work.2.1 48 = .ok (.iload_n 3, 1) := by decide +kernel
theorem d_Mo_work_49 : decode m_Mo_work.2.1 49 = .ok (.invokevirtual 138, 3) := by decide +kernel
theorem d_Mo_work_52 : decode m_Mo_work.2.1 52 = .ok (.aload_n 0, 1) := by decide +kernel
theorem d_Mo_work_53 : decode m_Mo_work.2.1 53 = .ok (.getfield 7, 3) := by decide +kernel
theorem d_Mo_work_56 : decode m_Mo_work.2.1 56 = .ok (.iload_n 3, 1) := by decide +kernel
theorem d_Mo_work_57 : decode m_Mo_work.2.1 57 = .ok (.iaload, 1) := by decide +kernel
theorem d_Mo_work_58 : decode m_Mo_work.2.1 58 = .ok (.iconst 1, 1) := by decide +kernel
theorem d_Mo_work_59 : decode m_Mo_work.2.1 59 = .ok (.if_icmp .lt 15, 3) := by decide +kernel
theorem d_Mo_work_62 : decode m_Mo_work.2.1 62 = .ok (.aload_n 0, 1) := by decide +kernel
theorem d_Mo_work_63 : decode m_Mo_work.2.1 63 = .ok (.getfield 13, 3) := by decide +kernel
theorem d_Mo_work_66 : decode m_Mo_work.2.1 66 = .ok (.bipush 6, 2) := by decide +kernel
theorem d_Mo_work_68 : decode m_Mo_work.2.1 68 = .ok (.iload_n 3, 1) := by decide +kernel
theorem d_Mo_work_69 : decode m_Mo_work.2.1 69 = .ok (.imul, 1) := by decide +kernel
theorem d_Mo_work_70 : decode m_Mo_work.2.1 70 = .ok (.iaload, 1) := by decide +kernel
theorem d_Mo_work_71 : decode m_Mo_work.2.1 71 = .ok (.ifCond .ne 4, 3) := by decide +kernel
theorem d_Mo_work_74 : decode m_Mo_work.2.1 74 = .ok (.return_, 1) := by decide +kernel
theorem d_Mo_work_75 : decode m_Mo_work.2.1 75 = .ok (.iinc 2 2, 3) := by decide +kernel
theorem d_Mo_work_78 : decode m_Mo_work.2.1 78 = .ok (.goto (-56), 3) := by decide +kernel
theorem d_Mo_work_81 : decode m_Mo_work.2.1 81 = .ok (.aload_n 0, 1) := by decide +kernel
theorem d_Mo_work_82 : decode m_Mo_work.2.1 82 = .ok (.iload_n 1, 1) := by decide +kernel
theorem d_Mo_work_83 : decode m_Mo_work.2.1 83 = .ok (.iload_n 2, 1) := by decide +kernel
theorem d_Mo_work_84 : decode m_Mo_work.2.1 84 = .ok (.iconst 1, 1) := by decide +kernel
theorem d_Mo_work_85 : decode m_Mo_work.2.1 85 = .ok (.iadd, 1) := by decide +kernel
theorem d_Mo_work_86 : decode m_Mo_work.2.1 86 = .ok (.invokevirtual 150, 3) := by decide +kernel
theorem d_Mo_work_89 : decode m_Mo_work.2.1 89 = .ok (.istore_n 3, 1) := by decide +kernel
theorem d_Mo_work_90 : decode m_Mo_work.2.1 90 = .ok (.aload_n 0, 1) := by decide +kernel
theorem d_Mo_work_91 : decode m_Mo_work.2.1 91 = .ok (.iload_n 1, 1) := by decide +kernel
theorem d_Mo_work_92 : decode m_Mo_work.2.1 92 = .ok (.aload_n 0, 1) := by decide +kernel
theorem d_Mo_work_93 : decode m_Mo_work.2.1 93 = .ok (.getfield 25, 3) := by decide +kernel
theorem d_Mo_work_96 : decode m_Mo_work.2.1 96 = .ok (.iload_n 1, 1) := by decide +kernel
theorem d_Mo_work_97 : decode m_Mo_work.2.1 97 = .ok (.iaload, 1) := by decide +kernel
theorem d_Mo_work_98 : decode m_Mo_work.2.1 98 = .ok (.iconst 1, 1) := by decide +kernel
theorem d_Mo_work_99 : decode m_Mo_work.2.1 99 = .ok (.isub, 1) := by decide +kernel
theorem d_Mo_work_100 : decode m_Mo_work.2.1 100 = .ok (.invokevirtual 150, 3) := by decide +kernel
theorem d_Mo_work_103 : decode m_Mo_work.2.1 103 = .ok (.istore 4, 2) := by decide +kernel
theorem d_Mo_work_105 : decode m_Mo_work.2.1 105 = .ok (.aload_n 0, 1) := by decide +kernel
theorem d_Mo_work_106 : decode m_Mo_work.2.1 106 = .ok (.iload 4, 2) := by decide +kernel
theorem d_Mo_work_108 : decode m_Mo_work.2.1 108 = .ok (.putfield 147, 3) := by decide +kernel
theorem d_Mo_work_111 : decode m_Mo_work.2.1 111 = .ok (.aload_n 0, 1) := by decide +kernel
theorem d_Mo_work_112 : decode m_Mo_work.2.1 112 = .ok (.getfield 28, 3) := by decide +kernel
theorem d_Mo_work_115 : decode m_Mo_work.2.1 115 = .ok (.bipush 12, 2) := by decide +kernel
theorem d_Mo_work_117 : decode m_Mo_work.2.1 117 = .ok (.iload_n 1, 1) := by decide +kernel
theorem d_Mo_work_118 : decode m_Mo_work.2.1 118 = .ok (.imul, 1) := by decide +kernel
theorem d_Mo_work_119 : decode m_Mo_work.2.1 119 = .ok (.iload_n 2, 1) := by decide +kernel
theorem d_Mo_work_120 : decode m_Mo_work.2.1 120 = .ok (.iadd, 1) := by decide +kernel
theorem d_Mo_work_121 : decode m_Mo_work.2.1 121 = .ok (.iaload, 1) := by decide +kernel
theorem d_Mo_work_122 : decode m_Mo_work.2.1 122 = .ok (.lookupswitch 187 #[(43, 99), (99, 74), (102, 128), (106, 83), (108, 178), (110, 159), (112, 170), (115, 115)], 74) := by decide +kernel
theorem d_Mo_work_196 : decode m_Mo_work.2.1 196 = .ok (.aload_n 0, 1) := by decide +kernel
theorem d_Mo_work_197 : decode m_Mo_work.2.1 197 = .ok (.iload_n 3, 1) := by decide +kernel
theorem d_Mo_work_198 : decode m_Mo_work.2.1 198 = .ok (.iconst 1, 1) := by decide +kernel
theorem d_Mo_work_199 : decode m_Mo_work.2.1 199 = .ok (.invokevirtual 154, 3) := by decide +kernel
theorem d_Mo_work_202 : decode m_Mo_work.2.1 202 = .ok (.goto 112, 3) := by decide +kernel
theorem d_Mo_work_205 : decode m_Mo_work.2.1 205 = .ok (.aload_n 0, 1) := by decide +kernel
theorem d_Mo_work_206 : decode m_Mo_work.2.1 206 = .ok (.iload_n 3, 1) := by decide +kernel
theorem d_Mo_work_207 : decode m_Mo_work.2.1 207 = .ok (.aload_n 0, 1) := by decide +kernel
theorem d_Mo_work_208 : decode m_Mo_work.2.1 208 = .ok (.iload_n 1, 1) := by decide +kernel
theorem d_Mo_work_209 : decode m_Mo_work.2.1 209 = .ok (.iload_n 2, 1) := by decide +kernel
theorem d_Mo_work_210 : decode m_Mo_work.2.1 210 = .ok (.iconst 2, 1) := by decide +kernel
theorem d_Mo_work_211 : decode m_Mo_work.2.1 211 = .ok (.iadd, 1) := by decide +kernel
theorem d_Mo_work_212 : decode m_Mo_work.2.1 212 = .ok (.invokevirtual 150, 3) := by decide +kernel
theorem d_Mo_work_215 : decode m_Mo_work.2.1 215 = .ok (.invokevirtual 158, 3) := by decide +kernel
theorem d_Mo_work_218 : decode m_Mo_work.2.1 218 = .ok (.goto 96, 3) := by decide +kernel
theorem d_Mo_work_221 : decode m_Mo_work.2.1 221 = .ok (.aload_n 0, 1) := by decide +kernel
theorem d_Mo_work_222 : decode m_Mo_work.2.1 222 = .ok (.iload_n 3, 1) := by decide +kernel
theorem d_Mo_work_223 : decode m_Mo_work.2.1 223 = .ok (.aload_n 0, 1) := by decide +kernel
theorem d_Mo_work_224 : decode m_Mo_work.2.1 224 = .ok (.iload_n 1, 1) := by decide +kernel
theorem d_Mo_work_225 : decode m_Mo_work.2.1 225 = .ok (.iload_n 2, 1) := by decide +kernel
theorem d_Mo_work_226 : decode m_Mo_work.2.1 226 = .ok (.iconst 2, 1) := by decide +kernel
theorem d_Mo_work_227 : decode m_Mo_work.2.1 227 = .ok (.iadd, 1) := by decide +kernel
theorem d_Mo_work_228 : decode m_Mo_work.2.1 228 = .ok (.invokevirtual 150, 3) := by decide +kernel
theorem d_Mo_work_231 : decode m_Mo_work.2.1 231 = .ok (.invokevirtual 161, 3) := by decide +kernel
theorem d_Mo_work_234 : decode m_Mo_work.2.1 234 = .ok (.goto 80, 3) := by decide +kernel
theorem d_Mo_work_237 : decode m_Mo_work.2.1 237 = .ok (.aload_n 0, 1) := by decide +kernel
theorem d_Mo_work_238 : decode m_Mo_work.2.1 238 = .ok (.iload_n 3, 1) := by decide +kernel
theorem d_Mo_work_239 : decode m_Mo_work.2.1 239 = .ok (.iconst 1, 1) := by decide +kernel
theorem d_Mo_work_240 : decode m_Mo_work.2.1 240 = .ok (.invokevirtual 154, 3) := by decide +kernel
