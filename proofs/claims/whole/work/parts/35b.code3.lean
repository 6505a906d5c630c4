/-! Rows that decode: laid by program. -/
theorem d_Mo_work_243 : decode m_Mo_work.2.1 243 = .ok (.aload_n 0, 1) := by decide +kernel
theorem d_Mo_work_244 : decode m_Mo_work.2.1 244 = .ok (.invokevirtual 164, 3) := by decide +kernel
theorem d_Mo_work_247 : decode m_Mo_work.2.1 247 = .ok (.goto 67, 3) := by decide +kernel
theorem d_Mo_work_250 : decode m_Mo_work.2.1 250 = .ok (.aload_n 0, 1) := by decide +kernel
theorem d_Mo_work_251 : decode m_Mo_work.2.1 251 = .ok (.aload_n 0, 1) := by decide +kernel
theorem d_Mo_work_252 : decode m_Mo_work.2.1 252 = .ok (.iload_n 1, 1) := by decide +kernel
theorem d_Mo_work_253 : decode m_Mo_work.2.1 253 = .ok (.iload_n 2, 1) := by decide +kernel
theorem d_Mo_work_254 : decode m_Mo_work.2.1 254 = .ok (.iconst 2, 1) := by decide +kernel
theorem d_Mo_work_255 : decode m_Mo_work.2.1 255 = .ok (.iadd, 1) := by decide +kernel
theorem d_Mo_work_256 : decode m_Mo_work.2.1 256 = .ok (.invokevirtual 150, 3) := by decide +kernel
theorem d_Mo_work_259 : decode m_Mo_work.2.1 259 = .ok (.aload_n 0, 1) := by decide +kernel
theorem d_Mo_work_260 : decode m_Mo_work.2.1 260 = .ok (.getfield 28, 3) := by decide +kernel
theorem d_Mo_work_263 : decode m_Mo_work.2.1 263 = .ok (.bipush 12, 2) := by decide +kernel
theorem d_Mo_work_265 : decode m_Mo_work.2.1 265 = .ok (.iload_n 1, 1) := by decide +kernel
theorem d_Mo_work_266 : decode m_Mo_work.2.1 266 = .ok (.imul, 1) := by decide +kernel
theorem d_Mo_work_267 : decode m_Mo_work.2.1 267 = .ok (.iload_n 2, 1) := by decide +kernel
theorem d_Mo_work_268 : decode m_Mo_work.2.1 268 = .ok (.iadd, 1) := by decide +kernel
theorem d_Mo_work_269 : decode m_Mo_work.2.1 269 = .ok (.iconst 1, 1) := by decide +kernel
theorem d_Mo_work_270 : decode m_Mo_work.2.1 270 = .ok (.iadd, 1) := by decide +kernel
theorem d_Mo_work_271 : decode m_Mo_work.2.1 271 = .ok (.iaload, 1) := by decide +kernel
theorem d_Mo_work_272 : decode m_Mo_work.2.1 272 = .ok (.bipush 48, 2) := by decide +kernel
theorem d_Mo_work_274 : decode m_Mo_work.2.1 274 = .ok (.isub, 1) := by decide +kernel
theorem d_Mo_work_275 : decode m_Mo_work.2.1 275 = .ok (.invokevirtual 154, 3) := by decide +kernel
theorem d_Mo_work_278 : decode m_Mo_work.2.1 278 = .ok (.goto 36, 3) := by decide +kernel
theorem d_Mo_work_281 : decode m_Mo_work.2.1 281 = .ok (.aload_n 0, 1) := by decide +kernel
theorem d_Mo_work_282 : decode m_Mo_work.2.1 282 = .ok (.iload_n 1, 1) := by decide +kernel
theorem d_Mo_work_283 : decode m_Mo_work.2.1 283 = .ok (.iload_n 2, 1) := by decide +kernel
theorem d_Mo_work_284 : decode m_Mo_work.2.1 284 = .ok (.iconst 1, 1) := by decide +kernel
theorem d_Mo_work_285 : decode m_Mo_work.2.1 285 = .ok (.iadd, 1) := by decide +kernel
theorem d_Mo_work_286 : decode m_Mo_work.2.1 286 = .ok (.invokevirtual 167, 3) := by decide +kernel
theorem d_Mo_work_289 : decode m_Mo_work.2.1 289 = .ok (.goto 25, 3) := by decide +kernel
theorem d_Mo_work_292 : decode m_Mo_work.2.1 292 = .ok (.aload_n 0, 1) := by decide +kernel
theorem d_Mo_work_293 : decode m_Mo_work.2.1 293 = .ok (.iload_n 3, 1) := by decide +kernel
theorem d_Mo_work_294 : decode m_Mo_work.2.1 294 = .ok (.invokevirtual 170, 3) := by decide +kernel
theorem d_Mo_work_297 : decode m_Mo_work.2.1 297 = .ok (.goto 17, 3) := by decide +kernel
theorem d_Mo_work_300 : decode m_Mo_work.2.1 300 = .ok (.aload_n 0, 1) := by decide +kernel
theorem d_Mo_work_301 : decode m_Mo_work.2.1 301 = .ok (.iload 4, 2) := by decide +kernel
theorem d_Mo_work_303 : decode m_Mo_work.2.1 303 = .ok (.invokevirtual 173, 3) := by decide +kernel
theorem d_Mo_work_306 : decode m_Mo_work.2.1 306 = .ok (.goto 8, 3) := by decide +kernel
theorem d_Mo_work_309 : decode m_Mo_work.2.1 309 = .ok (.aload_n 0, 1) := by decide +kernel
theorem d_Mo_work_310 : decode m_Mo_work.2.1 310 = .ok (.iconst (-1), 1) := by decide +kernel
theorem d_Mo_work_311 : decode m_Mo_work.2.1 311 = .ok (.putfield 132, 3) := by decide +kernel
theorem d_Mo_work_314 : decode m_Mo_work.2.1 314 = .ok (.return_, 1) := by decide +kernel
theorem d_Mo_letter_0 : decode m_Mo_letter.2.1 0 = .ok (.aload_n 0, 1) := by decide +kernel
theorem d_Mo_letter_1 : decode m_Mo_letter.2.1 1 = .ok (.getfield 28, 3) := by decide +kernel
theorem d_Mo_letter_4 : decode m_Mo_letter.2.1 4 = .ok (.bipush 12, 2) := by decide +kernel
theorem d_Mo_letter_6 : decode m_Mo_letter.2.1 6 = .ok (.iload_n 1, 1) := by decide +kernel
theorem d_Mo_letter_7 : decode m_Mo_letter.2.1 7 = .ok (.imul, 1) := by decide +kernel
theorem d_Mo_letter_8 : decode m_Mo_letter.2.1 8 = .ok (.iload_n 2, 1) := by decide +kernel
theorem d_Mo_letter_9 : decode m_Mo_letter.2.1 9 = .ok (.iadd, 1) := by decide +kernel
theorem d_Mo_letter_10 : decode m_Mo_letter.2.1 10 = .ok (.iaload, 1) := by decide +kernel
theorem d_Mo_letter_11 : decode m_Mo_letter.2.1 11 = .ok (.bipush 97, 2) := by decide +kernel
theorem d_Mo_letter_13 : decode m_Mo_letter.2.1 13 = .ok (.isub, 1) := by decide +kernel
theorem d_Mo_letter_14 : decode m_Mo_letter.2.1 14 = .ok (.ireturn, 1) := by decide +kernel
theorem d_Mo_readFile_0 : decode m_Mo_readFile.2.1 0 = .ok (.aload_n 0, 1) := by decide +kernel
theorem d_Mo_readFile_1 : decode m_Mo_readFile.2.1 1 = .ok (.dup, 1) := by decide +kernel
theorem d_Mo_readFile_2 : decode m_Mo_readFile.2.1 2 = .ok (.getfield 135, 3) := by decide +kernel
theorem d_Mo_readFile_5 : decode m_Mo_readFile.2.1 5 = .ok (.iconst 1, 1) := by decide +kernel
theorem d_Mo_readFile_6 : decode m_Mo_readFile.2.1 6 = .ok (.iload_n 1, 1) := by decide +kernel
theorem d_Mo_readFile_7 : decode m_Mo_readFile.2.1 7 = .ok (.ishl, 1) := by decide +kernel
theorem d_Mo_readFile_8 : decode m_Mo_readFile.2.1 8 = .ok (.ior, 1) := by decide +kernel
theorem d_Mo_readFile_9 : decode m_Mo_readFile.2.1 9 = .ok (.putfield 135, 3) := by decide +kernel
theorem d_Mo_readFile_12 : decode m_Mo_readFile.2.1 12 = .ok (.return_, 1) := by decide +kernel
theorem d_Mo_addAll_0 : decode m_Mo_addAll.2.1 0 = .ok (.aload_n 0, 1) := by decide +kernel
theorem d_Mo_addAll_1 : decode m_Mo_addAll.2.1 1 = .ok (.iload_n 1, 1) := by decide +kernel
theorem d_Mo_addAll_2 : decode m_Mo_addAll.2.1 2 = .ok (.invokevirtual 138, 3) := by decide +kernel
theorem d_Mo_addAll_5 : decode m_Mo_addAll.2.1 5 = .ok (.iconst 0, 1) := by decide +kernel
theorem d_Mo_addAll_6 : decode m_Mo_addAll.2.1 6 = .ok (.istore_n 3, 1) := by decide +kernel
theorem d_Mo_addAll_7 : decode m_Mo_addAll.2.1 7 = .ok (.iload_n 3, 1) := by decide +kernel
theorem d_Mo_addAll_8 : decode m_Mo_addAll.2.1 8 = .ok (.aload_n 0, 1) := by decide +kernel
theorem d_Mo_addAll_9 : decode m_Mo_addAll.2.1 9 = .ok (.getfield 7, 3) := by decide +kernel
theorem d_Mo_addAll_12 : decode m_Mo_addAll.2.1 12 = .ok (.iload_n 1, 1) := by decide +kernel
theorem d_Mo_addAll_13 : decode m_Mo_addAll.2.1 13 = .ok (.iaload, 1) := by decide +kernel
theorem d_Mo_addAll_14 : decode m_Mo_addAll.2.1 14 = .ok (.if_icmp .ge 40, 3) := by decide +kernel
theorem d_Mo_addAll_17 : decode m_Mo_addAll.2.1 17 = .ok (.aload_n 0, 1) := by decide +kernel
theorem d_Mo_addAll_18 : decode m_Mo_addAll.2.1 18 = .ok (.getfield 13, 3) := by decide +kernel
theorem d_Mo_addAll_21 : decode m_Mo_addAll.2.1 21 = .ok (.bipush 6, 2) := by decide +kernel
theorem d_Mo_addAll_23 : decode m_Mo_addAll.2.1 23 = .ok (.iload_n 1, 1) := by decide +kernel
theorem d_Mo_addAll_24 : decode m_Mo_addAll.2.1 24 = .ok (.imul, 1) := by decide +kernel
theorem d_Mo_addAll_25 : decode m_Mo_addAll.2.1 25 = .ok (.iload_n 3, 1) := by decide +kernel
theorem d_Mo_addAll_26 : decode m_Mo_addAll.2.1 26 = .ok (.iadd, 1) := by decide +kernel
theorem d_Mo_addAll_27 : decode m_Mo_addAll.2.1 27 = .ok (.iaload, 1) := by decide +kernel
theorem d_Mo_addAll_28 : decode m_Mo_addAll.2.1 28 = .ok (.iload_n 2, 1) := by decide +kernel
theorem d_Mo_addAll_29 : decode m_Mo_addAll.2.1 29 = .ok (.irem, 1) := by decide +kernel
theorem d_Mo_addAll_30 : decode m_Mo_addAll.2.1 30 = .ok (.ifCond .ne 18, 3) := by decide +kernel
theorem d_Mo_addAll_33 : decode m_Mo_addAll.2.1 33 = .ok (.aload_n 0, 1) := by decide +kernel
theorem d_Mo_addAll_34 : decode m_Mo_addAll.2.1 34 = .ok (.aload_n 0, 1) := by decide +kernel
theorem d_Mo_addAll_35 : decode m_Mo_addAll.2.1 35 = .ok (.getfield 13, 3) := by decide +kernel
theorem d_Mo_addAll_38 : decode m_Mo_addAll.2.1 38 = .ok (.bipush 6, 2) := by decide +kernel
theorem d_Mo_addAll_40 : decode m_Mo_addAll.2.1 40 = .ok (.iload_n 1, 1) := by decide +kernel
theorem d_Mo_addAll_41 : decode m_Mo_addAll.2.1 41 = .ok (.imul, 1) := by decide +kernel
theorem d_Mo_addAll_42 : decode m_Mo_addAll.2.1 42 = .ok (.iload_n 3, 1) := by decide +kernel
theorem d_Mo_addAll_43 : decode m_Mo_addAll.2.1 43 = .ok (.iadd, 1) := by decide +kernel
theorem d_Mo_addAll_44 : decode m_Mo_addAll.2.1 44 = .ok (.iaload, 1) := by decide +kernel
theorem d_Mo_addAll_45 : decode m_Mo_addAll.2.1 45 = .ok (.invokevirtual 141, 3) := by decide +kernel
theorem d_Mo_addAll_48 : decode m_Mo_addAll.2.1 48 = .ok (.iinc 3 1, 3) := by decide +kernel
theorem d_Mo_addAll_51 : decode m_Mo_addAll.2.1 51 = .ok (.goto (-44), 3) := by decide +kernel
theorem d_Mo_addAll_54 : decode m_Mo_addAll.2.1 54 = .ok (.return_, 1) := by decide +kernel
theorem d_Mo_add_0 : decode m_Mo_add.2.1 0 = .ok (.aload_n 0, 1) := by decide +kernel
theorem d_Mo_add_1 : decode m_Mo_add.2.1 1 = .ok (.getfield 132, 3) := by decide +kernel
theorem d_Mo_add_4 : decode m_Mo_add.2.1 4 = .ok (.bipush 6, 2) := by decide +kernel
theorem d_Mo_add_6 : decode m_Mo_add.2.1 6 = .ok (.if_icmp .lt 4, 3) := by decide +kernel
theorem d_Mo_add_9 : decode m_Mo_add.2.1 9 = .ok (.return_, 1) := by decide +kernel
theorem d_Mo_add_10 : decode m_Mo_add.2.1 10 = .ok (.aload_n 0, 1) := by decide +kernel
theorem d_Mo_add_11 : decode m_Mo_add.2.1 11 = .ok (.getfield 61, 3) := by decide +kernel
theorem d_Mo_add_14 : decode m_Mo_add.2.1 14 = .ok (.aload_n 0, 1) := by decide +kernel
theorem d_Mo_add_15 : decode m_Mo_add.2.1 15 = .ok (.getfield 132, 3) := by decide +kernel
theorem d_Mo_add_18 : decode m_Mo_add.2.1 18 = .ok (.iload_n 1, 1) := by decide +kernel
theorem d_Mo_add_19 : decode m_Mo_add.2.1 19 = .ok (.iastore, 1) := by decide +kernel
theorem d_Mo_add_20 : decode m_Mo_add.2.1 20 = .ok (.aload_n 0, 1) := by decide +kernel
theorem d_Mo_add_21 : decode m_Mo_add.2.1 21 = .ok (.dup, 1) := by decide +kernel
theorem d_Mo_add_22 : decode m_Mo_add.2.1 22 = .ok (.getfield 132, 3) := by decide +kernel
theorem d_Mo_add_25 : decode m_Mo_add.2.1 25 = .ok (.iconst 1, 1) := by decide +kernel
theorem d_Mo_add_26 : decode m_Mo_add.2.1 26 = .ok (.iadd, 1) := by decide +kernel
theorem d_Mo_add_27 : decode m_Mo_add.2.1 27 = .ok (.putfield 132, 3) := by decide +kernel
theorem d_Mo_add_30 : decode m_Mo_add.2.1 30 = .ok (.return_, 1) := by decide +kernel
theorem d_Mo_join_0 : decode m_Mo_join.2.1 0 = .ok (.aload_n 0, 1) := by decide +kernel
theorem d_Mo_join_1 : decode m_Mo_join.2.1 1 = .ok (.iload_n 1, 1) := by decide +kernel
theorem d_Mo_join_2 : decode m_Mo_join.2.1 2 = .ok (.iconst 1, 1) := by decide +kernel
theorem d_Mo_join_3 : decode m_Mo_join.2.1 3 = .ok (.invokevirtual 154, 3) := by decide +kernel
theorem d_Mo_join_6 : decode m_Mo_join.2.1 6 = .ok (.aload_n 0, 1) := by decide +kernel
theorem d_Mo_join_7 : decode m_Mo_join.2.1 7 = .ok (.iload_n 2, 1) := by decide +kernel
theorem d_Mo_join_8 : decode m_Mo_join.2.1 8 = .ok (.iconst 1, 1) := by decide +kernel
theorem d_Mo_join_9 : decode m_Mo_join.2.1 9 = .ok (.invokevirtual 154, 3) := by decide +kernel
theorem d_Mo_join_12 : decode m_Mo_join.2.1 12 = .ok (.return_, 1) := by decide +kernel
theorem d_Mo_sums_0 : decode m_Mo_sums.2.1 0 = .ok (.aload_n 0, 1) := by decide +kernel
theorem d_Mo_sums_1 : decode m_Mo_sums.2.1 1 = .ok (.iload_n 1, 1) := by decide +kernel
theorem d_Mo_sums_2 : decode m_Mo_sums.2.1 2 = .ok (.invokevirtual 138, 3) := by decide +kernel
theorem d_Mo_sums_5 : decode m_Mo_sums.2.1 5 = .ok (.aload_n 0, 1) := by decide +kernel
theorem d_Mo_sums_6 : decode m_Mo_sums.2.1 6 = .ok (.iload_n 2, 1) := by decide +kernel
theorem d_Mo_sums_7 : decode m_Mo_sums.2.1 7 = .ok (.invokevirtual 138, 3) := by decide +kernel
theorem d_Mo_sums_10 : decode m_Mo_sums.2.1 10 = .ok (.iconst 0, 1) := by decide +kernel
theorem d_Mo_sums_11 : decode m_Mo_sums.2.1 11 = .ok (.istore_n 3, 1) := by decide +kernel
theorem d_Mo_sums_12 : decode m_Mo_sums.2.1 12 = .ok (.iload_n 3, 1) := by decide +kernel
theorem d_Mo_sums_13 : decode m_Mo_sums.2.1 13 = .ok (.aload_n 0, 1) := by decide +kernel
theorem d_Mo_sums_14 : decode m_Mo_sums.2.1 14 = .ok (.getfield 7, 3) := by decide +kernel
theorem d_Mo_sums_17 : decode m_Mo_sums.2.1 17 = .ok (.iload_n 1, 1) := by decide +kernel
theorem d_Mo_sums_18 : decode m_Mo_sums.2.1 18 = .ok (.iaload, 1) := by decide +kernel
theorem d_Mo_sums_19 : decode m_Mo_sums.2.1 19 = .ok (.if_icmp .ge 47, 3) := by decide +kernel
theorem d_Mo_sums_22 : decode m_Mo_sums.2.1 22 = .ok (.iload_n 3, 1) := by decide +kernel
theorem d_Mo_sums_23 : decode m_Mo_sums.2.1 23 = .ok (.aload_n 0, 1) := by decide +kernel
theorem d_Mo_sums_24 : decode m_Mo_sums.2.1 24 = .ok (.getfield 7, 3) := by decide +kernel
theorem d_Mo_sums_27 : decode m_Mo_sums.2.1 27 = .ok (.iload_n 2, 1) := by decide +kernel
theorem d_Mo_sums_28 : decode m_Mo_sums.2.1 28 = .ok (.iaload, 1) := by decide +kernel
theorem d_Mo_sums_29 : decode m_Mo_sums.2.1 29 = .ok (.if_icmp .ge 37, 3) := by decide +kernel
theorem d_Mo_sums_32 : decode m_Mo_sums.2.1 32 = .ok (.aload_n 0, 1) := by decide +kernel
theorem d_Mo_sums_33 : decode m_Mo_sums.2.1 33 = .ok (.aload_n 0, 1) := by decide +kernel
theorem d_Mo_sums_34 : decode m_Mo_sums.2.1 34 = .ok (.getfield 13, 3) := by decide +kernel
theorem d_Mo_sums_37 : decode m_Mo_sums.2.1 37 = .ok (.bipush 6, 2) := by decide +kernel
theorem d_Mo_sums_39 : decode m_Mo_sums.2.1 39 = .ok (.iload_n 1, 1) := by decide +kernel
theorem d_Mo_sums_40 : decode m_Mo_sums.2.1 40 = .ok (.imul, 1) := by decide +kernel
theorem d_Mo_sums_41 : decode m_Mo_sums.2.1 41 = .ok (.iload_n 3, 1) := by decide +kernel
theorem d_Mo_sums_42 : decode m_Mo_sums.2.1 42 = .ok (.iadd, 1) := by decide +kernel
theorem d_Mo_sums_43 : decode m_Mo_sums.2.1 43 = .ok (.iaload, 1) := by decide +kernel
theorem d_Mo_sums_44 : decode m_Mo_sums.2.1 44 = .ok (.aload_n 0, 1) := by decide +kernel
theorem d_Mo_sums_45 : decode m_Mo_sums.2.1 45 = .ok (.getfield 13, 3) := by decide +kernel
theorem d_Mo_sums_48 : decode m_Mo_sums.2.1 48 = .ok (.bipush 6, 2) := by decide +kernel
theorem d_Mo_sums_50 : decode m_Mo_sums.2.1 50 = .ok (.iload_n 2, 1) := by decide +kernel
theorem d_Mo_sums_51 : decode m_Mo_sums.2.1 51 = .ok (.imul, 1) := by decide +kernel
theorem d_Mo_sums_52 : decode m_Mo_sums.2.1 52 = .ok (.iload_n 3, 1) := by decide +kernel
theorem d_Mo_sums_53 : decode m_Mo_sums.2.1 53 = .ok (.iadd, 1) := by decide +kernel
theorem d_Mo_sums_54 : decode m_Mo_sums.2.1 54 = .ok (.iaload, 1) := by decide +kernel
theorem d_Mo_sums_55 : decode m_Mo_sums.2.1 55 = .ok (.iadd, 1) := by decide +kernel
theorem d_Mo_sums_56 : decode m_Mo_sums.2.1 56 = .ok (.i2s, 1) := by decide +kernel
theorem d_Mo_sums_57 : decode m_Mo_sums.2.1 57 = .ok (.invokevirtual 141, 3) := by decide +kernel
theorem d_Mo_sums_60 : decode m_Mo_sums.2.1 60 = .ok (.iinc 3 1, 3) := by decide +kernel
theorem d_Mo_sums_63 : decode m_Mo_sums.2.1 63 = .ok (.goto (-51), 3) := by decide +kernel
theorem d_Mo_sums_66 : decode m_Mo_sums.2.1 66 = .ok (.return_, 1) := by decide +kernel
theorem d_Mo_sort_0 : decode m_Mo_sort.2.1 0 = .ok (.iconst 1, 1) := by decide +kernel
theorem d_Mo_sort_1 : decode m_Mo_sort.2.1 1 = .ok (.istore_n 1, 1) := by decide +kernel
theorem d_Mo_sort_2 : decode m_Mo_sort.2.1 2 = .ok (.iload_n 1, 1) := by decide +kernel
theorem d_Mo_sort_3 : decode m_Mo_sort.2.1 3 = .ok (.aload_n 0, 1) := by decide +kernel
theorem d_Mo_sort_4 : decode m_Mo_sort.2.1 4 = .ok (.getfield 132, 3) := by decide +kernel
theorem d_Mo_sort_7 : decode m_Mo_sort.2.1 7 = .ok (.if_icmp .ge 68, 3) := by decide +kernel
theorem d_Mo_sort_10 : decode m_Mo_sort.2.1 10 = .ok (.iload_n 1, 1) := by decide +kernel
theorem d_Mo_sort_11 : decode m_Mo_sort.2.1 11 = .ok (.istore_n 2, 1) := by decide +kernel
theorem d_Mo_sort_12 : decode m_Mo_sort.2.1 12 = .ok (.iload_n 2, 1) := by decide +kernel
theorem d_Mo_sort_13 : decode m_Mo_sort.2.1 13 = .ok (.ifCond .le 56, 3) := by decide +kernel
theorem d_Mo_sort_16 : decode m_Mo_sort.2.1 16 = .ok (.aload_n 0, 1) := by decide +kernel
theorem d_Mo_sort_17 : decode m_Mo_sort.2.1 17 = .ok (.getfield 61, 3) := by decide +kernel
theorem d_Mo_sort_20 : decode m_Mo_sort.2.1 20 = .ok (.iload_n 2, 1) := by decide +kernel
theorem d_Mo_sort_21 : decode m_Mo_sort.2.1 21 = .ok (.iconst 1, 1) := by decide +kernel
theorem d_Mo_sort_22 : decode m_Mo_sort.2.1 22 = .ok (.isub, 1) := by decide +kernel
theorem d_Mo_sort_23 : decode m_Mo_sort.2.1 23 = .ok (.iaload, 1) := by decide +kernel
theorem d_Mo_sort_24 : decode m_Mo_sort.2.1 24 = .ok (.aload_n 0, 1) := by decide +kernel
theorem d_Mo_sort_25 : decode m_Mo_sort.2.1 25 = .ok (.getfield 61, 3) := by decide +kernel
theorem d_Mo_sort_28 : decode m_Mo_sort.2.1 28 = .ok (.iload_n 2, 1) := by decide +kernel
theorem d_Mo_sort_29 : decode m_Mo_sort.2.1 29 = .ok (.iaload, 1) := by decide +kernel
theorem d_Mo_sort_30 : decode m_Mo_sort.2.1 30 = .ok (.if_icmp .le 39, 3) := by decide +kernel
theorem d_Mo_sort_33 : decode m_Mo_sort.2.1 33 = .ok (.aload_n 0, 1) := by decide +kernel
theorem d_Mo_sort_34 : decode m_Mo_sort.2.1 34 = .ok (.getfield 61, 3) := by decide +kernel
theorem d_Mo_sort_37 : decode m_Mo_sort.2.1 37 = .ok (.iload_n 2, 1) := by decide +kernel
theorem d_Mo_sort_38 : decode m_Mo_sort.2.1 38 = .ok (.iaload, 1) := by decide +kernel
theorem d_Mo_sort_39 : decode m_Mo_sort.2.1 39 = .ok (.istore_n 3, 1) := by decide +kernel
theorem d_Mo_sort_40 : decode m_Mo_sort.2.1 40 = .ok (.aload_n 0, 1) := by decide +kernel
theorem d_Mo_sort_41 : decode m_Mo_sort.2.1 41 = .ok (.getfield 61, 3) := by decide +kernel
theorem d_Mo_sort_44 : decode m_Mo_sort.2.1 44 = .ok (.iload_n 2, 1) := by decide +kernel
theorem d_Mo_sort_45 : decode m_Mo_sort.2.1 45 = .ok (.aload_n 0, 1) := by decide +kernel
theorem d_Mo_sort_46 : decode m_Mo_sort.2.1 46 = .ok (.getfield 61, 3) := by decide +kernel
theorem d_Mo_sort_49 : decode m_Mo_sort.2.1 49 = .ok (.iload_n 2, 1) := by decide +kernel
theorem d_Mo_sort_50 : decode m_Mo_sort.2.1 50 = .ok (.iconst 1, 1) := by decide +kernel
theorem d_Mo_sort_51 : decode m_Mo_sort.2.1 51 = .ok (.isub, 1) := by decide +kernel
theorem d_Mo_sort_52 : decode m_Mo_sort.2.1 52 = .ok (.iaload, 1) := by decide +kernel
theorem d_Mo_sort_53 : decode m_Mo_sort.2.1 53 = .ok (.iastore, 1) := by decide +kernel
theorem d_Mo_sort_54 : decode m_Mo_sort.2.1 54 = .ok (.aload_n 0, 1) := by decide +kernel
theorem d_Mo_sort_55 : decode m_Mo_sort.2.1 55 = .ok (.getfield 61, 3) := by decide +kernel
theorem d_Mo_sort_58 : decode m_Mo_sort.2.1 58 = .ok (.iload_n 2, 1) := by decide +kernel
theorem d_Mo_sort_59 : decode m_Mo_sort.2.1 59 = .ok (.iconst 1, 1) := by decide +kernel
theorem d_Mo_sort_60 : decode m_Mo_sort.2.1 60 = .ok (.isub, 1) := by decide +kernel
theorem d_Mo_sort_61 : decode m_Mo_sort.2.1 61 = .ok (.iload_n 3, 1) := by decide +kernel
theorem d_Mo_sort_62 : decode m_Mo_sort.2.1 62 = .ok (.iastore, 1) := by decide +kernel
theorem d_Mo_sort_63 : decode m_Mo_sort.2.1 63 = .ok (.iinc 2 (-1), 3) := by decide +kernel
theorem d_Mo_sort_66 : decode m_Mo_sort.2.1 66 = .ok (.goto (-54), 3) := by decide +kernel
theorem d_Mo_sort_69 : decode m_Mo_sort.2.1 69 = .ok (.iinc 1 1, 3) := by decide +kernel
theorem d_Mo_sort_72 : decode m_Mo_sort.2.1 72 = .ok (.goto (-70), 3) := by decide +kernel
theorem d_Mo_sort_75 : decode m_Mo_sort.2.1 75 = .ok (.return_, 1) := by decide +kernel
theorem d_Mo_digits_0 : decode m_Mo_digits.2.1 0 = .ok (.iload_n 2, 1) := by decide +kernel
theorem d_Mo_digits_1 : decode m_Mo_digits.2.1 1 = .ok (.istore_n 3, 1) := by decide +kernel
theorem d_Mo_digits_2 : decode m_Mo_digits.2.1 2 = .ok (.iload_n 3, 1) := by decide +kernel
theorem d_Mo_digits_3 : decode m_Mo_digits.2.1 3 = .ok (.aload_n 0, 1) := by decide +kernel
theorem d_Mo_digits_4 : decode m_Mo_digits.2.1 4 = .ok (.getfield 25, 3) := by decide +kernel
theorem d_Mo_digits_7 : decode m_Mo_digits.2.1 7 = .ok (.iload_n 1, 1) := by decide +kernel
theorem d_Mo_digits_8 : decode m_Mo_digits.2.1 8 = .ok (.iaload, 1) := by decide +kernel
theorem d_Mo_digits_9 : decode m_Mo_digits.2.1 9 = .ok (.iconst 1, 1) := by decide +kernel
theorem d_Mo_digits_10 : decode m_Mo_digits.2.1 10 = .ok (.isub, 1) := by decide +kernel
theorem d_Mo_digits_11 : decode m_Mo_digits.2.1 11 = .ok (.if_icmp .ge 27, 3) := by decide +kernel
theorem d_Mo_digits_14 : decode m_Mo_digits.2.1 14 = .ok (.aload_n 0, 1) := by decide +kernel
theorem d_Mo_digits_15 : decode m_Mo_digits.2.1 15 = .ok (.aload_n 0, 1) := by decide +kernel
theorem d_Mo_digits_16 : decode m_Mo_digits.2.1 16 = .ok (.getfield 28, 3) := by decide +kernel
theorem d_Mo_digits_19 : decode m_Mo_digits.2.1 19 = .ok (.bipush 12, 2) := by decide +kernel
theorem d_Mo_digits_21 : decode m_Mo_digits.2.1 21 = .ok (.iload_n 1, 1) := by decide +kernel
theorem d_Mo_digits_22 : decode m_Mo_digits.2.1 22 = .ok (.imul, 1) := by decide +kernel
theorem d_Mo_digits_23 : decode m_Mo_digits.2.1 23 = .ok (.iload_n 3, 1) := by decide +kernel
theorem d_Mo_digits_24 : decode m_Mo_digits.2.1 24 = .ok (.iadd, 1) := by decide +kernel
theorem d_Mo_digits_25 : decode m_Mo_digits.2.1 25 = .ok (.iaload, 1) := by decide +kernel
theorem d_Mo_digits_26 : decode m_Mo_digits.2.1 26 = .ok (.bipush 48, 2) := by decide +kernel
theorem d_Mo_digits_28 : decode m_Mo_digits.2.1 28 = .ok (.isub, 1) := by decide +kernel
theorem d_Mo_digits_29 : decode m_Mo_digits.2.1 29 = .ok (.invokevirtual 141, 3) := by decide +kernel
theorem d_Mo_digits_32 : decode m_Mo_digits.2.1 32 = .ok (.iinc 3 1, 3) := by decide +kernel
theorem d_Mo_digits_35 : decode m_Mo_digits.2.1 35 = .ok (.goto (-33), 3) := by decide +kernel
theorem d_Mo_digits_38 : decode m_Mo_digits.2.1 38 = .ok (.return_, 1) := by decide +kernel
theorem d_Mo_ask_0 : decode m_Mo_ask.2.1 0 = .ok (.aload_n 0, 1) := by decide +kernel
theorem d_Mo_ask_1 : decode m_Mo_ask.2.1 1 = .ok (.iconst 1, 1) := by decide +kernel
theorem d_Mo_ask_2 : decode m_Mo_ask.2.1 2 = .ok (.iload_n 1, 1) := by decide +kernel
theorem d_Mo_ask_3 : decode m_Mo_ask.2.1 3 = .ok (.ishl, 1) := by decide +kernel
theorem d_Mo_ask_4 : decode m_Mo_ask.2.1 4 = .ok (.putfield 144, 3) := by decide +kernel
theorem d_Mo_ask_7 : decode m_Mo_ask.2.1 7 = .ok (.aload_n 0, 1) := by decide +kernel
theorem d_Mo_ask_8 : decode m_Mo_ask.2.1 8 = .ok (.aload_n 0, 1) := by decide +kernel
theorem d_Mo_ask_9 : decode m_Mo_ask.2.1 9 = .ok (.getfield 7, 3) := by decide +kernel
theorem d_Mo_ask_12 : decode m_Mo_ask.2.1 12 = .ok (.iload_n 1, 1) := by decide +kernel
theorem d_Mo_ask_13 : decode m_Mo_ask.2.1 13 = .ok (.iaload, 1) := by decide +kernel
theorem d_Mo_ask_14 : decode m_Mo_ask.2.1 14 = .ok (.ifCond .lt 7, 3) := by decide +kernel
theorem d_Mo_ask_17 : decode m_Mo_ask.2.1 17 = .ok (.iconst 1, 1) := by decide +kernel
theorem d_Mo_ask_18 : decode m_Mo_ask.2.1 18 = .ok (.goto 4, 3) := by decide +kernel
theorem d_Mo_ask_21 : decode m_Mo_ask.2.1 21 = .ok (.iconst 0, 1) := by decide +kernel
theorem d_Mo_ask_22 : decode m_Mo_ask.2.1 22 = .ok (.invokevirtual 141, 3) := by decide +kernel
theorem d_Mo_ask_25 : decode m_Mo_ask.2.1 25 = .ok (.return_, 1) := by decide +kernel
theorem d_Mo_there_0 : decode m_Mo_there.2.1 0 = .ok (.aload_n 0, 1) := by decide +kernel
theorem d_Mo_there_1 : decode m_Mo_there.2.1 1 = .ok (.sipush 4095, 3) := by decide +kernel
theorem d_Mo_there_4 : decode m_Mo_there.2.1 4 = .ok (.putfield 144, 3) := by decide +kernel
theorem d_Mo_there_7 : decode m_Mo_there.2.1 7 = .ok (.iconst 0, 1) := by decide +kernel
theorem d_Mo_there_8 : decode m_Mo_there.2.1 8 = .ok (.istore_n 2, 1) := by decide +kernel
theorem d_Mo_there_9 : decode m_Mo_there.2.1 9 = .ok (.iload_n 2, 1) := by decide +kernel
theorem d_Mo_there_10 : decode m_Mo_there.2.1 10 = .ok (.bipush 12, 2) := by decide +kernel
theorem d_Mo_there_12 : decode m_Mo_there.2.1 12 = .ok (.if_icmp .ge 23, 3) := by decide +kernel
theorem d_Mo_there_15 : decode m_Mo_there.2.1 15 = .ok (.aload_n 0, 1) := by decide +kernel
theorem d_Mo_there_16 : decode m_Mo_there.2.1 16 = .ok (.getfield 7, 3) := by decide +kernel
theorem d_Mo_there_19 : decode m_Mo_there.2.1 19 = .ok (.iload_n 2, 1) := by decide +kernel
theorem d_Mo_there_20 : decode m_Mo_there.2.1 20 = .ok (.iaload, 1) := by decide +kernel
theorem d_Mo_there_21 : decode m_Mo_there.2.1 21 = .ok (.ifCond .lt 8, 3) := by decide +kernel
theorem d_Mo_there_24 : decode m_Mo_there.2.1 24 = .ok (.aload_n 0, 1) := by decide +kernel
theorem d_Mo_there_25 : decode m_Mo_there.2.1 25 = .ok (.iload_n 2, 1) := by decide +kernel
theorem d_Mo_there_26 : decode m_Mo_there.2.1 26 = .ok (.invokevirtual 141, 3) := by decide +kernel
theorem d_Mo_there_29 : decode m_Mo_there.2.1 29 = .ok (.iinc 2 1, 3) := by decide +kernel
theorem d_Mo_there_32 : decode m_Mo_there.2.1 32 = .ok (.goto (-23), 3) := by decide +kernel
theorem d_Mo_there_35 : decode m_Mo_there.2.1 35 = .ok (.aload_n 0, 1) := by decide +kernel
theorem d_Mo_there_36 : decode m_Mo_there.2.1 36 = .ok (.iload_n 1, 1) := by decide +kernel
theorem d_Mo_there_37 : decode m_Mo_there.2.1 37 = .ok (.putfield 147, 3) := by decide +kernel
theorem d_Mo_there_40 : decode m_Mo_there.2.1 40 = .ok (.return_, 1) := by decide +kernel
theorem d_Mo_record_0 : decode m_Mo_record.2.1 0 = .ok (.aload_n 0, 1) := by decide +kernel
theorem d_Mo_record_1 : decode m_Mo_record.2.1 1 = .ok (.getfield 176, 3) := by decide +kernel
theorem d_Mo_record_4 : decode m_Mo_record.2.1 4 = .ok (.istore_n 2, 1) := by decide +kernel
theorem d_Mo_record_5 : decode m_Mo_record.2.1 5 = .ok (.aload_n 0, 1) := by decide +kernel
theorem d_Mo_record_6 : decode m_Mo_record.2.1 6 = .ok (.getfield 31, 3) := by decide +kernel
theorem d_Mo_record_9 : decode m_Mo_record.2.1 9 = .ok (.iload_n 2, 1) := by decide +kernel
theorem d_Mo_record_10 : decode m_Mo_record.2.1 10 = .ok (.aload_n 0, 1) := by decide +kernel
theorem d_Mo_record_11 : decode m_Mo_record.2.1 11 = .ok (.getfield 25, 3) := by decide +kernel
theorem d_Mo_record_14 : decode m_Mo_record.2.1 14 = .ok (.iload_n 1, 1) := by decide +kernel
theorem d_Mo_record_15 : decode m_Mo_record.2.1 15 = .ok (.iaload, 1) := by decide +kernel
theorem d_Mo_record_16 : decode m_Mo_record.2.1 16 = .ok (.iastore, 1) := by decide +kernel
theorem d_Mo_record_17 : decode m_Mo_record.2.1 17 = .ok (.iconst 0, 1) := by decide +kernel
theorem d_Mo_record_18 : decode m_Mo_record.2.1 18 = .ok (.istore_n 3, 1) := by decide +kernel
theorem d_Mo_record_19 : decode m_Mo_record.2.1 19 = .ok (.iload_n 3, 1) := by decide +kernel
theorem d_Mo_record_20 : decode m_Mo_record.2.1 20 = .ok (.bipush 12, 2) := by decide +kernel
theorem d_Mo_record_22 : decode m_Mo_record.2.1 22 = .ok (.if_icmp .ge 31, 3) := by decide +kernel
theorem d_Mo_record_25 : decode m_Mo_record.2.1 25 = .ok (.aload_n 0, 1) := by decide +kernel
theorem d_Mo_record_26 : decode m_Mo_record.2.1 26 = .ok (.getfield 34, 3) := by decide +kernel
theorem d_Mo_record_29 : decode m_Mo_record.2.1 29 = .ok (.bipush 12, 2) := by decide +kernel
theorem d_Mo_record_31 : decode m_Mo_record.2.1 31 = .ok (.iload_n 2, 1) := by decide +kernel
theorem d_Mo_record_32 : decode m_Mo_record.2.1 32 = .ok (.imul, 1) := by decide +kernel
theorem d_Mo_record_33 : decode m_Mo_record.2.1 33 = .ok (.iload_n 3, 1) := by decide +kernel
theorem d_Mo_record_34 : decode m_Mo_record.2.1 34 = .ok (.iadd, 1) := by decide +kernel
theorem d_Mo_record_35 : decode m_Mo_record.2.1 35 = .ok (.aload_n 0, 1) := by decide +kernel
theorem d_Mo_record_36 : decode m_Mo_record.2.1 36 = .ok (.getfield 28, 3) := by decide +kernel
theorem d_Mo_record_39 : decode m_Mo_record.2.1 39 = .ok (.bipush 12, 2) := by decide +kernel
theorem d_Mo_record_41 : decode m_Mo_record.2.1 41 = .ok (.iload_n 1, 1) := by decide +kernel
theorem d_Mo_record_42 : decode m_Mo_record.2.1 42 = .ok (.imul, 1) := by decide +kernel
theorem d_Mo_record_43 : decode m_Mo_record.2.1 43 = .ok (.iload_n 3, 1) := by decide +kernel
theorem d_Mo_record_44 : decode m_Mo_record.2.1 44 = .ok (.iadd, 1) := by decide +kernel
theorem d_Mo_record_45 : decode m_Mo_record.2.1 45 = .ok (.iaload, 1) := by decide +kernel
theorem d_Mo_record_46 : decode m_Mo_record.2.1 46 = .ok (.iastore, 1) := by decide +kernel
theorem d_Mo_record_47 : decode m_Mo_record.2.1 47 = .ok (.iinc 3 1, 3) := by decide +kernel
theorem d_Mo_record_50 : decode m_Mo_record.2.1 50 = .ok (.goto (-31), 3) := by decide +kernel
theorem d_Mo_record_53 : decode m_Mo_record.2.1 53 = .ok (.aload_n 0, 1) := by decide +kernel
theorem d_Mo_record_54 : decode m_Mo_record.2.1 54 = .ok (.getfield 37, 3) := by decide +kernel
theorem d_Mo_record_57 : decode m_Mo_record.2.1 57 = .ok (.iload_n 2, 1) := by decide +kernel
theorem d_Mo_record_58 : decode m_Mo_record.2.1 58 = .ok (.aload_n 0, 1) := by decide +kernel
theorem d_Mo_record_59 : decode m_Mo_record.2.1 59 = .ok (.getfield 135, 3) := by decide +kernel
theorem d_Mo_record_62 : decode m_Mo_record.2.1 62 = .ok (.iastore, 1) := by decide +kernel
theorem d_Mo_record_63 : decode m_Mo_record.2.1 63 = .ok (.aload_n 0, 1) := by decide +kernel
theorem d_Mo_record_64 : decode m_Mo_record.2.1 64 = .ok (.getfield 40, 3) := by decide +kernel
theorem d_Mo_record_67 : decode m_Mo_record.2.1 67 = .ok (.iload_n 2, 1) := by decide +kernel
theorem d_Mo_record_68 : decode m_Mo_record.2.1 68 = .ok (.aload_n 0, 1) := by decide +kernel
theorem d_Mo_record_69 : decode m_Mo_record.2.1 69 = .ok (.getfield 144, 3) := by decide +kernel
theorem d_Mo_record_72 : decode m_Mo_record.2.1 72 = .ok (.iastore, 1) := by decide +kernel
theorem d_Mo_record_73 : decode m_Mo_record.2.1 73 = .ok (.aload_n 0, 1) := by decide +kernel
theorem d_Mo_record_74 : decode m_Mo_record.2.1 74 = .ok (.getfield 43, 3) := by decide +kernel
theorem d_Mo_record_77 : decode m_Mo_record.2.1 77 = .ok (.iload_n 2, 1) := by decide +kernel
theorem d_Mo_record_78 : decode m_Mo_record.2.1 78 = .ok (.iconst 0, 1) := by decide +kernel
theorem d_Mo_record_79 : decode m_Mo_record.2.1 79 = .ok (.iastore, 1) := by decide +kernel
theorem d_Mo_record_80 : decode m_Mo_record.2.1 80 = .ok (.iconst 0, 1) := by decide +kernel
theorem d_Mo_record_81 : decode m_Mo_record.2.1 81 = .ok (.istore_n 3, 1) := by decide +kernel
theorem d_Mo_record_82 : decode m_Mo_record.2.1 82 = .ok (.iload_n 3, 1) := by decide +kernel
theorem d_Mo_record_83 : decode m_Mo_record.2.1 83 = .ok (.bipush 12, 2) := by decide +kernel
theorem d_Mo_record_85 : decode m_Mo_record.2.1 85 = .ok (.if_icmp .ge 51, 3) := by decide +kernel
theorem d_Mo_record_88 : decode m_Mo_record.2.1 88 = .ok (.aload_n 0, 1) := by decide +kernel
theorem d_Mo_record_89 : decode m_Mo_record.2.1 89 = .ok (.getfield 43, 3) := by decide +kernel
theorem d_Mo_record_92 : decode m_Mo_record.2.1 92 = .ok (.iload_n 2, 1) := by decide +kernel
theorem d_Mo_record_93 : decode m_Mo_record.2.1 93 = .ok (.dup2, 1) := by decide +kernel
theorem d_Mo_record_94 : decode m_Mo_record.2.1 94 = .ok (.iaload, 1) := by decide +kernel
theorem d_Mo_record_95 : decode m_Mo_record.2.1 95 = .ok (.aload_n 0, 1) := by decide +kernel
theorem d_Mo_record_96 : decode m_Mo_record.2.1 96 = .ok (.getfield 7, 3) := by decide +kernel
theorem d_Mo_record_99 : decode m_Mo_record.2.1 99 = .ok (.iload_n 3, 1) := by decide +kernel
theorem d_Mo_record_100 : decode m_Mo_record.2.1 100 = .ok (.iaload, 1) := by decide +kernel
theorem d_Mo_record_101 : decode m_Mo_record.2.1 101 = .ok (.ifCond .lt 9, 3) := by decide +kernel
theorem d_Mo_record_104 : decode m_Mo_record.2.1 104 = .ok (.iconst 1, 1) := by decide +kernel
theorem d_Mo_record_105 : decode m_Mo_record.2.1 105 = .ok (.iload_n 3, 1) := by decide +kernel
theorem d_Mo_record_106 : decode m_Mo_record.2.1 106 = .ok (.ishl, 1) := by decide +kernel
theorem d_Mo_record_107 : decode m_Mo_record.2.1 107 = .ok (.goto 4, 3) := by decide +kernel
theorem d_Mo_record_110 : decode m_Mo_record.2.1 110 = .ok (.iconst 0, 1) := by decide +kernel
theorem d_Mo_record_111 : decode m_Mo_record.2.1 111 = .ok (.ior, 1) := by decide +kernel
theorem d_Mo_record_112 : decode m_Mo_record.2.1 112 = .ok (.iastore, 1) := by decide +kernel
theorem d_Mo_record_113 : decode m_Mo_record.2.1 113 = .ok (.aload_n 0, 1) := by decide +kernel
theorem d_Mo_record_114 : decode m_Mo_record.2.1 114 = .ok (.getfield 46, 3) := by decide +kernel
theorem d_Mo_record_117 : decode m_Mo_record.2.1 117 = .ok (.bipush 12, 2) := by decide +kernel
theorem d_Mo_record_119 : decode m_Mo_record.2.1 119 = .ok (.iload_n 2, 1) := by decide +kernel
theorem d_Mo_record_120 : decode m_Mo_record.2.1 120 = .ok (.imul, 1) := by decide +kernel
theorem d_Mo_record_121 : decode m_Mo_record.2.1 121 = .ok (.iload_n 3, 1) := by decide +kernel
theorem d_Mo_record_122 : decode m_Mo_record.2.1 122 = .ok (.iadd, 1) := by decide +kernel
theorem d_Mo_record_123 : decode m_Mo_record.2.1 123 = .ok (.aload_n 0, 1) := by decide +kernel
theorem d_Mo_record_124 : decode m_Mo_record.2.1 124 = .ok (.getfield 7, 3) := by decide +kernel
theorem d_Mo_record_127 : decode m_Mo_record.2.1 127 = .ok (.iload_n 3, 1) := by decide +kernel
theorem d_Mo_record_128 : decode m_Mo_record.2.1 128 = .ok (.iaload, 1) := by decide +kernel
theorem d_Mo_record_129 : decode m_Mo_record.2.1 129 = .ok (.iastore, 1) := by decide +kernel
theorem d_Mo_record_130 : decode m_Mo_record.2.1 130 = .ok (.iinc 3 1, 3) := by decide +kernel
theorem d_Mo_record_133 : decode m_Mo_record.2.1 133 = .ok (.goto (-51), 3) := by decide +kernel
theorem d_Mo_record_136 : decode m_Mo_record.2.1 136 = .ok (.iconst 0, 1) := by decide +kernel
theorem d_Mo_record_137 : decode m_Mo_record.2.1 137 = .ok (.istore_n 3, 1) := by decide +kernel
theorem d_Mo_record_138 : decode m_Mo_record.2.1 138 = .ok (.iload_n 3, 1) := by decide +kernel
theorem d_Mo_record_139 : decode m_Mo_record.2.1 139 = .ok (.bipush 72, 2) := by decide +kernel
theorem d_Mo_record_141 : decode m_Mo_record.2.1 141 = .ok (.if_icmp .ge 26, 3) := by decide +kernel
theorem d_Mo_record_144 : decode m_Mo_record.2.1 144 = .ok (.aload_n 0, 1) := by decide +kernel
theorem d_Mo_record_145 : decode m_Mo_record.2.1 145 = .ok (.getfield 49, 3) := by decide +kernel
theorem d_Mo_record_148 : decode m_Mo_record.2.1 148 = .ok (.bipush 72, 2) := by decide +kernel
theorem d_Mo_record_150 : decode m_Mo_record.2.1 150 = .ok (.iload_n 2, 1) := by decide +kernel
theorem d_Mo_record_151 : decode m_Mo_record.2.1 151 = .ok (.imul, 1) := by decide +kernel
theorem d_Mo_record_152 : decode m_Mo_record.2.1 152 = .ok (.iload_n 3, 1) := by decide +kernel
theorem d_Mo_record_153 : decode m_Mo_record.2.1 153 = .ok (.iadd, 1) := by decide +kernel
theorem d_Mo_record_154 : decode m_Mo_record.2.1 154 = .ok (.aload_n 0, 1) := by decide +kernel
theorem d_Mo_record_155 : decode m_Mo_record.2.1 155 = .ok (.getfield 13, 3) := by decide +kernel
theorem d_Mo_record_158 : decode m_Mo_record.2.1 158 = .ok (.iload_n 3, 1) := by decide +kernel
theorem d_Mo_record_159 : decode m_Mo_record.2.1 159 = .ok (.iaload, 1) := by decide +kernel
theorem d_Mo_record_160 : decode m_Mo_record.2.1 160 = .ok (.iastore, 1) := by decide +kernel
theorem d_Mo_record_161 : decode m_Mo_record.2.1 161 = .ok (.iinc 3 1, 3) := by decide +kernel
theorem d_Mo_record_164 : decode m_Mo_record.2.1 164 = .ok (.goto (-26), 3) := by decide +kernel
theorem d_Mo_record_167 : decode m_Mo_record.2.1 167 = .ok (.aload_n 0, 1) := by decide +kernel
theorem d_Mo_record_168 : decode m_Mo_record.2.1 168 = .ok (.getfield 52, 3) := by decide +kernel
theorem d_Mo_record_171 : decode m_Mo_record.2.1 171 = .ok (.iload_n 2, 1) := by decide +kernel
theorem d_Mo_record_172 : decode m_Mo_record.2.1 172 = .ok (.aload_n 0, 1) := by decide +kernel
theorem d_Mo_record_173 : decode m_Mo_record.2.1 173 = .ok (.getfield 147, 3) := by decide +kernel
theorem d_Mo_record_176 : decode m_Mo_record.2.1 176 = .ok (.iastore, 1) := by decide +kernel
theorem d_Mo_record_177 : decode m_Mo_record.2.1 177 = .ok (.aload_n 0, 1) := by decide +kernel
theorem d_Mo_record_178 : decode m_Mo_record.2.1 178 = .ok (.getfield 55, 3) := by decide +kernel
theorem d_Mo_record_181 : decode m_Mo_record.2.1 181 = .ok (.iload_n 2, 1) := by decide +kernel
theorem d_Mo_record_182 : decode m_Mo_record.2.1 182 = .ok (.aload_n 0, 1) := by decide +kernel
theorem d_Mo_record_183 : decode m_Mo_record.2.1 183 = .ok (.getfield 132, 3) := by decide +kernel
theorem d_Mo_record_186 : decode m_Mo_record.2.1 186 = .ok (.iastore, 1) := by decide +kernel
theorem d_Mo_record_187 : decode m_Mo_record.2.1 187 = .ok (.iconst 0, 1) := by decide +kernel
theorem d_Mo_record_188 : decode m_Mo_record.2.1 188 = .ok (.istore_n 3, 1) := by decide +kernel
theorem d_Mo_record_189 : decode m_Mo_record.2.1 189 = .ok (.iload_n 3, 1) := by decide +kernel
theorem d_Mo_record_190 : decode m_Mo_record.2.1 190 = .ok (.bipush 6, 2) := by decide +kernel
theorem d_Mo_record_192 : decode m_Mo_record.2.1 192 = .ok (.if_icmp .ge 26, 3) := by decide +kernel
theorem d_Mo_record_195 : decode m_Mo_record.2.1 195 = .ok (.aload_n 0, 1) := by decide +kernel
theorem d_Mo_record_196 : decode m_Mo_record.2.1 196 = .ok (.getfield 58, 3) := by decide +kernel
theorem d_Mo_record_199 : decode m_Mo_record.2.1 199 = .ok (.bipush 6, 2) := by decide +kernel
theorem d_Mo_record_201 : decode m_Mo_record.2.1 201 = .ok (.iload_n 2, 1) := by decide +kernel
theorem d_Mo_record_202 : decode m_Mo_record.2.1 202 = .ok (.imul, 1) := by decide +kernel
theorem d_Mo_record_203 : decode m_Mo_record.2.1 203 = .ok (.iload_n 3, 1) := by decide +kernel
theorem d_Mo_record_204 : decode m_Mo_record.2.1 204 = .ok (.iadd, 1) := by decide +kernel
theorem d_Mo_record_205 : decode m_Mo_record.2.1 205 = .ok (.aload_n 0, 1) := by decide +kernel
theorem d_Mo_record_206 : decode m_Mo_record.2.1 206 = .ok (.getfield 61, 3) := by decide +kernel
theorem d_Mo_record_209 : decode m_Mo_record.2.1 209 = .ok (.iload_n 3, 1) := by decide +kernel
theorem d_Mo_record_210 : decode m_Mo_record.2.1 210 = .ok (.iaload, 1) := by decide +kernel
theorem d_Mo_record_211 : decode m_Mo_record.2.1 211 = .ok (.iastore, 1) := by decide +kernel
theorem d_Mo_record_212 : decode m_Mo_record.2.1 212 = .ok (.iinc 3 1, 3) := by decide +kernel
theorem d_Mo_record_215 : decode m_Mo_record.2.1 215 = .ok (.goto (-26), 3) := by decide +kernel
theorem d_Mo_record_218 : decode m_Mo_record.2.1 218 = .ok (.aload_n 0, 1) := by decide +kernel
theorem d_Mo_record_219 : decode m_Mo_record.2.1 219 = .ok (.dup, 1) := by decide +kernel
theorem d_Mo_record_220 : decode m_Mo_record.2.1 220 = .ok (.getfield 176, 3) := by decide +kernel
theorem d_Mo_record_223 : decode m_Mo_record.2.1 223 = .ok (.iconst 1, 1) := by decide +kernel
theorem d_Mo_record_224 : decode m_Mo_record.2.1 224 = .ok (.iadd, 1) := by decide +kernel
theorem d_Mo_record_225 : decode m_Mo_record.2.1 225 = .ok (.putfield 176, 3) := by decide +kernel
theorem d_Mo_record_228 : decode m_Mo_record.2.1 228 = .ok (.aload_n 0, 1) := by decide +kernel
theorem d_Mo_record_229 : decode m_Mo_record.2.1 229 = .ok (.getfield 176, 3) := by decide +kernel
theorem d_Mo_record_232 : decode m_Mo_record.2.1 232 = .ok (.bipush 24, 2) := by decide +kernel
theorem d_Mo_record_234 : decode m_Mo_record.2.1 234 = .ok (.if_icmp .gt 4, 3) := by decide +kernel
theorem d_Mo_record_237 : decode m_Mo_record.2.1 237 = .ok (.return_, 1) := by decide +kernel
theorem d_Mo_record_238 : decode m_Mo_record.2.1 238 = .ok (.iconst 0, 1) := by decide +kernel
theorem d_Mo_record_239 : decode m_Mo_record.2.1 239 = .ok (.istore_n 3, 1) := by decide +kernel
theorem d_Mo_record_240 : decode m_Mo_record.2.1 240 = .ok (.iload_n 3, 1) := by decide +kernel
theorem d_Mo_record_241 : decode m_Mo_record.2.1 241 = .ok (.bipush 24, 2) := by decide +kernel
theorem d_Mo_record_243 : decode m_Mo_record.2.1 243 = .ok (.if_icmp .ge 17, 3) := by decide +kernel
theorem d_Mo_record_246 : decode m_Mo_record.2.1 246 = .ok (.aload_n 0, 1) := by decide +kernel
theorem d_Mo_record_247 : decode m_Mo_record.2.1 247 = .ok (.iload_n 3, 1) := by decide +kernel
theorem d_Mo_record_248 : decode m_Mo_record.2.1 248 = .ok (.iconst 1, 1) := by decide +kernel
theorem d_Mo_record_249 : decode m_Mo_record.2.1 249 = .ok (.iadd, 1) := by decide +kernel
theorem d_Mo_record_250 : decode m_Mo_record.2.1 250 = .ok (.iload_n 3, 1) := by decide +kernel
theorem d_Mo_record_251 : decode m_Mo_record.2.1 251 = .ok (.invokevirtual 188, 3) := by decide +kernel
theorem d_Mo_record_254 : decode m_Mo_record.2.1 254 = .ok (.iinc 3 1, 3) := by decide +kernel
theorem d_Mo_record_257 : decode m_Mo_record.2.1 257 = .ok (.goto (-17), 3) := by decide +kernel
theorem d_Mo_record_260 : decode m_Mo_record.2.1 260 = .ok (.aload_n 0, 1) := by decide +kernel
theorem d_Mo_record_261 : decode m_Mo_record.2.1 261 = .ok (.bipush 24, 2) := by decide +kernel
theorem d_Mo_record_263 : decode m_Mo_record.2.1 263 = .ok (.putfield 176, 3) := by decide +kernel
theorem d_Mo_record_266 : decode m_Mo_record.2.1 266 = .ok (.return_, 1) := by decide +kernel
theorem d_Mo_copyTrace_0 : decode m_Mo_copyTrace.2.1 0 = .ok (.aload_n 0, 1) := by decide +kernel
theorem d_Mo_copyTrace_1 : decode m_Mo_copyTrace.2.1 1 = .ok (.getfield 31, 3) := by decide +kernel
theorem d_Mo_copyTrace_4 : decode m_Mo_copyTrace.2.1 4 = .ok (.iload_n 2, 1) := by decide +kernel
theorem d_Mo_copyTrace_5 : decode m_Mo_copyTrace.2.1 5 = .ok (.aload_n 0, 1) := by decide +kernel
theorem d_Mo_copyTrace_6 : decode m_Mo_copyTrace.2.1 6 = .ok (.getfield 31, 3) := by decide +kernel
theorem d_Mo_copyTrace_9 : decode m_Mo_copyTrace.2.1 9 = .ok (.iload_n 1, 1) := by decide +kernel
theorem d_Mo_copyTrace_10 : decode m_Mo_copyTrace.2.1 10 = .ok (.iaload, 1) := by decide +kernel
theorem d_Mo_copyTrace_11 : decode m_Mo_copyTrace.2.1 11 = .ok (.iastore, 1) := by decide +kernel
theorem d_Mo_copyTrace_12 : decode m_Mo_copyTrace.2.1 12 = .ok (.aload_n 0, 1) := by decide +kernel
theorem d_Mo_copyTrace_13 : decode m_Mo_copyTrace.2.1 13 = .ok (.getfield 37, 3) := by decide +kernel
theorem d_Mo_copyTrace_16 : decode m_Mo_copyTrace.2.1 16 = .ok (.iload_n 2, 1) := by decide +kernel
theorem d_Mo_copyTrace_17 : decode m_Mo_copyTrace.2.1 17 = .ok (.aload_n 0, 1) := by decide +kernel
theorem d_Mo_copyTrace_18 : decode m_Mo_copyTrace.2.1 18 = .ok (.getfield 37, 3) := by decide +kernel
theorem d_Mo_copyTrace_21 : decode m_Mo_copyTrace.2.1 21 = .ok (.iload_n 1, 1) := by decide +kernel
theorem d_Mo_copyTrace_22 : decode m_Mo_copyTrace.2.1 22 = .ok (.iaload, 1) := by decide +kernel
theorem d_Mo_copyTrace_23 : decode m_Mo_copyTrace.2.1 23 = .ok (.iastore, 1) := by decide +kernel
theorem d_Mo_copyTrace_24 : decode m_Mo_copyTrace.2.1 24 = .ok (.aload_n 0, 1) := by decide +kernel
theorem d_Mo_copyTrace_25 : decode m_Mo_copyTrace.2.1 25 = .ok (.getfield 40, 3) := by decide +kernel
theorem d_Mo_copyTrace_28 : decode m_Mo_copyTrace.2.1 28 = .ok (.iload_n 2, 1) := by decide +kernel
theorem d_Mo_copyTrace_29 : decode m_Mo_copyTrace.2.1 29 = .ok (.aload_n 0, 1) := by decide +kernel
theorem d_Mo_copyTrace_30 : decode m_Mo_copyTrace.2.1 30 = .ok (.getfield 40, 3) := by decide +kernel
theorem d_Mo_copyTrace_33 : decode m_Mo_copyTrace.2.1 33 = .ok (.iload_n 1, 1) := by decide +kernel
theorem d_Mo_copyTrace_34 : decode m_Mo_copyTrace.2.1 34 = .ok (.iaload, 1) := by decide +kernel
theorem d_Mo_copyTrace_35 : decode m_Mo_copyTrace.2.1 35 = .ok (.iastore, 1) := by decide +kernel
theorem d_Mo_copyTrace_36 : decode m_Mo_copyTrace.2.1 36 = .ok (.aload_n 0, 1) := by decide +kernel
theorem d_Mo_copyTrace_37 : decode m_Mo_copyTrace.2.1 37 = .ok (.getfield 43, 3) := by decide +kernel
theorem d_Mo_copyTrace_40 : decode m_Mo_copyTrace.2.1 40 = .ok (.iload_n 2, 1) := by decide +kernel
theorem d_Mo_copyTrace_41 : decode m_Mo_copyTrace.2.1 41 = .ok (.aload_n 0, 1) := by decide +kernel
theorem d_Mo_copyTrace_42 : decode m_Mo_copyTrace.2.1 42 = .ok (.getfield 43, 3) := by decide +kernel
theorem d_Mo_copyTrace_45 : decode m_Mo_copyTrace.2.1 45 = .ok (.iload_n 1, 1) := by decide +kernel
theorem d_Mo_copyTrace_46 : decode m_Mo_copyTrace.2.1 46 = .ok (.iaload, 1) := by decide +kernel
theorem d_Mo_copyTrace_47 : decode m_Mo_copyTrace.2.1 47 = .ok (.iastore, 1) := by decide +kernel
theorem d_Mo_copyTrace_48 : decode m_Mo_copyTrace.2.1 48 = .ok (.aload_n 0, 1) := by decide +kernel
theorem d_Mo_copyTrace_49 : decode m_Mo_copyTrace.2.1 49 = .ok (.getfield 52, 3) := by decide +kernel
theorem d_Mo_copyTrace_52 : decode m_Mo_copyTrace.2.1 52 = .ok (.iload_n 2, 1) := by decide +kernel
theorem d_Mo_copyTrace_53 : decode m_Mo_copyTrace.2.1 53 = .ok (.aload_n 0, 1) := by decide +kernel
theorem d_Mo_copyTrace_54 : decode m_Mo_copyTrace.2.1 54 = .ok (.getfield 52, 3) := by decide +kernel
theorem d_Mo_copyTrace_57 : decode m_Mo_copyTrace.2.1 57 = .ok (.iload_n 1, 1) := by decide +kernel
theorem d_Mo_copyTrace_58 : decode m_Mo_copyTrace.2.1 58 = .ok (.iaload, 1) := by decide +kernel
theorem d_Mo_copyTrace_59 : decode m_Mo_copyTrace.2.1 59 = .ok (.iastore, 1) := by decide +kernel
theorem d_Mo_copyTrace_60 : decode m_Mo_copyTrace.2.1 60 = .ok (.aload_n 0, 1) := by decide +kernel
theorem d_Mo_copyTrace_61 : decode m_Mo_copyTrace.2.1 61 = .ok (.getfield 55, 3) := by decide +kernel
theorem d_Mo_copyTrace_64 : decode m_Mo_copyTrace.2.1 64 = .ok (.iload_n 2, 1) := by decide +kernel
theorem d_Mo_copyTrace_65 : decode m_Mo_copyTrace.2.1 65 = .ok (.aload_n 0, 1) := by decide +kernel
theorem d_Mo_copyTrace_66 : decode m_Mo_copyTrace.2.1 66 = .ok (.getfield 55, 3) := by decide +kernel
theorem d_Mo_copyTrace_69 : decode m_Mo_copyTrace.2.1 69 = .ok (.iload_n 1, 1) := by decide +kernel
theorem d_Mo_copyTrace_70 : decode m_Mo_copyTrace.2.1 70 = .ok (.iaload, 1) := by decide +kernel
theorem d_Mo_copyTrace_71 : decode m_Mo_copyTrace.2.1 71 = .ok (.iastore, 1) := by decide +kernel
theorem d_Mo_copyTrace_72 : decode m_Mo_copyTrace.2.1 72 = .ok (.iconst 0, 1) := by decide +kernel
theorem d_Mo_copyTrace_73 : decode m_Mo_copyTrace.2.1 73 = .ok (.istore_n 3, 1) := by decide +kernel
theorem d_Mo_copyTrace_74 : decode m_Mo_copyTrace.2.1 74 = .ok (.iload_n 3, 1) := by decide +kernel
theorem d_Mo_copyTrace_75 : decode m_Mo_copyTrace.2.1 75 = .ok (.bipush 12, 2) := by decide +kernel
theorem d_Mo_copyTrace_77 : decode m_Mo_copyTrace.2.1 77 = .ok (.if_icmp .ge 31, 3) := by decide +kernel
theorem d_Mo_copyTrace_80 : decode m_Mo_copyTrace.2.1 80 = .ok (.aload_n 0, 1) := by decide +kernel
theorem d_Mo_copyTrace_81 : decode m_Mo_copyTrace.2.1 81 = .ok (.getfield 34, 3) := by decide +kernel
theorem d_Mo_copyTrace_84 : decode m_Mo_copyTrace.2.1 84 = .ok (.bipush 12, 2) := by decide +kernel
theorem d_Mo_copyTrace_86 : decode m_Mo_copyTrace.2.1 86 = .ok (.iload_n 2, 1) := by decide +kernel
theorem d_Mo_copyTrace_87 : decode m_Mo_copyTrace.2.1 87 = .ok (.imul, 1) := by decide +kernel
theorem d_Mo_copyTrace_88 : decode m_Mo_copyTrace.2.1 88 = .ok (.iload_n 3, 1) := by decide +kernel
theorem d_Mo_copyTrace_89 : decode m_Mo_copyTrace.2.1 89 = .ok (.iadd, 1) := by decide +kernel
theorem d_Mo_copyTrace_90 : decode m_Mo_copyTrace.2.1 90 = .ok (.aload_n 0, 1) := by decide +kernel
theorem d_Mo_copyTrace_91 : decode m_Mo_copyTrace.2.1 91 = .ok (.getfield 34, 3) := by decide +kernel
theorem d_Mo_copyTrace_94 : decode m_Mo_copyTrace.2.1 94 = .ok (.bipush 12, 2) := by decide +kernel
theorem d_Mo_copyTrace_96 : decode m_Mo_copyTrace.2.1 96 = .ok (.iload_n 1, 1) := by decide +kernel
theorem d_Mo_copyTrace_97 : decode m_Mo_copyTrace.2.1 97 = .ok (.imul, 1) := by decide +kernel
theorem d_Mo_copyTrace_98 : decode m_Mo_copyTrace.2.1 98 = .ok (.iload_n 3, 1) := by decide +kernel
theorem d_Mo_copyTrace_99 : decode m_Mo_copyTrace.2.1 99 = .ok (.iadd, 1) := by decide +kernel
theorem d_Mo_copyTrace_100 : decode m_Mo_copyTrace.2.1 100 = .ok (.iaload, 1) := by decide +kernel
theorem d_Mo_copyTrace_101 : decode m_Mo_copyTrace.2.1 101 = .ok (.iastore, 1) := by decide +kernel
theorem d_Mo_copyTrace_102 : decode m_Mo_copyTrace.2.1 102 = .ok (.iinc 3 1, 3) := by decide +kernel
theorem d_Mo_copyTrace_105 : decode m_Mo_copyTrace.2.1 105 = .ok (.goto (-31), 3) := by decide +kernel
theorem d_Mo_copyTrace_108 : decode m_Mo_copyTrace.2.1 108 = .ok (.iconst 0, 1) := by decide +kernel
theorem d_Mo_copyTrace_109 : decode m_Mo_copyTrace.2.1 109 = .ok (.istore_n 3, 1) := by decide +kernel
theorem d_Mo_copyTrace_110 : decode m_Mo_copyTrace.2.1 110 = .ok (.iload_n 3, 1) := by decide +kernel
theorem d_Mo_copyTrace_111 : decode m_Mo_copyTrace.2.1 111 = .ok (.bipush 12, 2) := by decide +kernel
theorem d_Mo_copyTrace_113 : decode m_Mo_copyTrace.2.1 113 = .ok (.if_icmp .ge 31, 3) := by decide +kernel
theorem d_Mo_copyTrace_116 : decode m_Mo_copyTrace.2.1 116 = .ok (.aload_n 0, 1) := by decide +kernel
theorem d_Mo_copyTrace_117 : decode m_Mo_copyTrace.2.1 117 = .ok (.getfield 46, 3) := by decide +kernel
theorem d_Mo_copyTrace_120 : decode m_Mo_copyTrace.2.1 120 = .ok (.bipush 12, 2) := by decide +kernel
theorem d_Mo_copyTrace_122 : decode m_Mo_copyTrace.2.1 122 = .ok (.iload_n 2, 1) := by decide +kernel
theorem d_Mo_copyTrace_123 : decode m_Mo_copyTrace.2.1 123 = .ok (.imul, 1) := by decide +kernel
theorem d_Mo_copyTrace_124 : decode m_Mo_copyTrace.2.1 124 = .ok (.iload_n 3, 1) := by decide +kernel
theorem d_Mo_copyTrace_125 : decode m_Mo_copyTrace.2.1 125 = .ok (.iadd, 1) := by decide +kernel
theorem d_Mo_copyTrace_126 : decode m_Mo_copyTrace.2.1 126 = .ok (.aload_n 0, 1) := by decide +kernel
theorem d_Mo_copyTrace_127 : decode m_Mo_copyTrace.2.1 127 = .ok (.getfield 46, 3) := by decide +kernel
theorem d_Mo_copyTrace_130 : decode m_Mo_copyTrace.2.1 130 = .ok (.bipush 12, 2) := by decide +kernel
theorem d_Mo_copyTrace_132 : decode m_Mo_copyTrace.2.1 132 = .ok (.iload_n 1, 1) := by decide +kernel
theorem d_Mo_copyTrace_133 : decode m_Mo_copyTrace.2.1 133 = .ok (.imul, 1) := by decide +kernel
theorem d_Mo_copyTrace_134 : decode m_Mo_copyTrace.2.1 134 = .ok (.iload_n 3, 1) := by decide +kernel
theorem d_Mo_copyTrace_135 : decode m_Mo_copyTrace.2.1 135 = .ok (.iadd, 1) := by decide +kernel
theorem d_Mo_copyTrace_136 : decode m_Mo_copyTrace.2.1 136 = .ok (.iaload, 1) := by decide +kernel
theorem d_Mo_copyTrace_137 : decode m_Mo_copyTrace.2.1 137 = .ok (.iastore, 1) := by decide +kernel
theorem d_Mo_copyTrace_138 : decode m_Mo_copyTrace.2.1 138 = .ok (.iinc 3 1, 3) := by decide +kernel
theorem d_Mo_copyTrace_141 : decode m_Mo_copyTrace.2.1 141 = .ok (.goto (-31), 3) := by decide +kernel
theorem d_Mo_copyTrace_144 : decode m_Mo_copyTrace.2.1 144 = .ok (.iconst 0, 1) := by decide +kernel
theorem d_Mo_copyTrace_145 : decode m_Mo_copyTrace.2.1 145 = .ok (.istore_n 3, 1) := by decide +kernel
theorem d_Mo_copyTrace_146 : decode m_Mo_copyTrace.2.1 146 = .ok (.iload_n 3, 1) := by decide +kernel
theorem d_Mo_copyTrace_147 : decode m_Mo_copyTrace.2.1 147 = .ok (.bipush 72, 2) := by decide +kernel
theorem d_Mo_copyTrace_149 : decode m_Mo_copyTrace.2.1 149 = .ok (.if_icmp .ge 31, 3) := by decide +kernel
theorem d_Mo_copyTrace_152 : decode m_Mo_copyTrace.2.1 152 = .ok (.aload_n 0, 1) := by decide +kernel
theorem d_Mo_copyTrace_153 : decode m_Mo_copyTrace.2.1 153 = .ok (.getfield 49, 3) := by decide +kernel
theorem d_Mo_copyTrace_156 : decode m_Mo_copyTrace.2.1 156 = .ok (.bipush 72, 2) := by decide +kernel
theorem d_Mo_copyTrace_158 : decode m_Mo_copyTrace.2.1 158 = .ok (.iload_n 2, 1) := by decide +kernel
theorem d_Mo_copyTrace_159 : decode m_Mo_copyTrace.2.1 159 = .ok (.imul, 1) := by decide +kernel
theorem d_Mo_copyTrace_160 : decode m_Mo_copyTrace.2.1 160 = .ok (.iload_n 3, 1) := by decide +kernel
theorem d_Mo_copyTrace_161 : decode m_Mo_copyTrace.2.1 161 = .ok (.iadd, 1) := by decide +kernel
theorem d_Mo_copyTrace_162 : decode m_Mo_copyTrace.2.1 162 = .ok (.aload_n 0, 1) := by decide +kernel
theorem d_Mo_copyTrace_163 : decode m_Mo_copyTrace.2.1 163 = .ok (.getfield 49, 3) := by decide +kernel
theorem d_Mo_copyTrace_166 : decode m_Mo_copyTrace.2.1 166 = .ok (.bipush 72, 2) := by decide +kernel
theorem d_Mo_copyTrace_168 : decode m_Mo_copyTrace.2.1 168 = .ok (.iload_n 1, 1) := by decide +kernel
theorem d_Mo_copyTrace_169 : decode m_Mo_copyTrace.2.1 169 = .ok (.imul, 1) := by decide +kernel
theorem d_Mo_copyTrace_170 : decode m_Mo_copyTrace.2.1 170 = .ok (.iload_n 3, 1) := by decide +kernel
theorem d_Mo_copyTrace_171 : decode m_Mo_copyTrace.2.1 171 = .ok (.iadd, 1) := by decide +kernel
theorem d_Mo_copyTrace_172 : decode m_Mo_copyTrace.2.1 172 = .ok (.iaload, 1) := by decide +kernel
theorem d_Mo_copyTrace_173 : decode m_Mo_copyTrace.2.1 173 = .ok (.iastore, 1) := by decide +kernel
theorem d_Mo_copyTrace_174 : decode m_Mo_copyTrace.2.1 174 = .ok (.iinc 3 1, 3) := by decide +kernel
theorem d_Mo_copyTrace_177 : decode m_Mo_copyTrace.2.1 177 = .ok (.goto (-31), 3) := by decide +kernel
theorem d_Mo_copyTrace_180 : decode m_Mo_copyTrace.2.1 180 = .ok (.iconst 0, 1) := by decide +kernel
theorem d_Mo_copyTrace_181 : decode m_Mo_copyTrace.2.1 181 = .ok (.istore_n 3, 1) := by decide +kernel
theorem d_Mo_copyTrace_182 : decode m_Mo_copyTrace.2.1 182 = .ok (.iload_n 3, 1) := by decide +kernel
theorem d_Mo_copyTrace_183 : decode m_Mo_copyTrace.2.1 183 = .ok (.bipush 6, 2) := by decide +kernel
theorem d_Mo_copyTrace_185 : decode m_Mo_copyTrace.2.1 185 = .ok (.if_icmp .ge 31, 3) := by decide +kernel
theorem d_Mo_copyTrace_188 : decode m_Mo_copyTrace.2.1 188 = .ok (.aload_n 0, 1) := by decide +kernel
theorem d_Mo_copyTrace_189 : decode m_Mo_copyTrace.2.1 189 = .ok (.getfield 58, 3) := by decide +kernel
theorem d_Mo_copyTrace_192 : decode m_Mo_copyTrace.2.1 192 = .ok (.bipush 6, 2) := by decide +kernel
theorem d_Mo_copyTrace_194 : decode m_Mo_copyTrace.2.1 194 = .ok (.iload_n 2, 1) := by decide +kernel
theorem d_Mo_copyTrace_195 : decode m_Mo_copyTrace.2.1 195 = .ok (.imul, 1) := by decide +kernel
theorem d_Mo_copyTrace_196 : decode m_Mo_copyTrace.2.1 196 = .ok (.iload_n 3, 1) := by decide +kernel
theorem d_Mo_copyTrace_197 : decode m_Mo_copyTrace.2.1 197 = .ok (.iadd, 1) := by decide +kernel
theorem d_Mo_copyTrace_198 : decode m_Mo_copyTrace.2.1 198 = .ok (.aload_n 0, 1) := by decide +kernel
theorem d_Mo_copyTrace_199 : decode m_Mo_copyTrace.2.1 199 = .ok (.getfield 58, 3) := by decide +kernel
theorem d_Mo_copyTrace_202 : decode m_Mo_copyTrace.2.1 202 = .ok (.bipush 6, 2) := by decide +kernel
theorem d_Mo_copyTrace_204 : decode m_Mo_copyTrace.2.1 204 = .ok (.iload_n 1, 1) := by decide +kernel
theorem d_Mo_copyTrace_205 : decode m_Mo_copyTrace.2.1 205 = .ok (.imul, 1) := by decide +kernel
theorem d_Mo_copyTrace_206 : decode m_Mo_copyTrace.2.1 206 = .ok (.iload_n 3, 1) := by decide +kernel
theorem d_Mo_copyTrace_207 : decode m_Mo_copyTrace.2.1 207 = .ok (.iadd, 1) := by decide +kernel
theorem d_Mo_copyTrace_208 : decode m_Mo_copyTrace.2.1 208 = .ok (.iaload, 1) := by decide +kernel
theorem d_Mo_copyTrace_209 : decode m_Mo_copyTrace.2.1 209 = .ok (.iastore, 1) := by decide +kernel
theorem d_Mo_copyTrace_210 : decode m_Mo_copyTrace.2.1 210 = .ok (.iinc 3 1, 3) := by decide +kernel
theorem d_Mo_copyTrace_213 : decode m_Mo_copyTrace.2.1 213 = .ok (.goto (-31), 3) := by decide +kernel
theorem d_Mo_copyTrace_216 : decode m_Mo_copyTrace.2.1 216 = .ok (.return_, 1) := by decide +kernel
theorem d_Mo_write_0 : decode m_Mo_write.2.1 0 = .ok (.aload_n 0, 1) := by decide +kernel
theorem d_Mo_write_1 : decode m_Mo_write.2.1 1 = .ok (.getfield 52, 3) := by decide +kernel
theorem d_Mo_write_4 : decode m_Mo_write.2.1 4 = .ok (.iload_n 1, 1) := by decide +kernel
theorem d_Mo_write_5 : decode m_Mo_write.2.1 5 = .ok (.iaload, 1) := by decide +kernel
theorem d_Mo_write_6 : decode m_Mo_write.2.1 6 = .ok (.istore_n 2, 1) := by decide +kernel
theorem d_Mo_write_7 : decode m_Mo_write.2.1 7 = .ok (.iload_n 2, 1) := by decide +kernel
theorem d_Mo_write_8 : decode m_Mo_write.2.1 8 = .ok (.ifCond .ge 4, 3) := by decide +kernel
theorem d_Mo_write_11 : decode m_Mo_write.2.1 11 = .ok (.return_, 1) := by decide +kernel
theorem d_Mo_write_12 : decode m_Mo_write.2.1 12 = .ok (.aload_n 0, 1) := by decide +kernel
theorem d_Mo_write_13 : decode m_Mo_write.2.1 13 = .ok (.getfield 7, 3) := by decide +kernel
theorem d_Mo_write_16 : decode m_Mo_write.2.1 16 = .ok (.iload_n 2, 1) := by decide +kernel
theorem d_Mo_write_17 : decode m_Mo_write.2.1 17 = .ok (.aload_n 0, 1) := by decide +kernel
theorem d_Mo_write_18 : decode m_Mo_write.2.1 18 = .ok (.getfield 55, 3) := by decide +kernel
theorem d_Mo_write_21 : decode m_Mo_write.2.1 21 = .ok (.iload_n 1, 1) := by decide +kernel
theorem d_Mo_write_22 : decode m_Mo_write.2.1 22 = .ok (.iaload, 1) := by decide +kernel
theorem d_Mo_write_23 : decode m_Mo_write.2.1 23 = .ok (.iastore, 1) := by decide +kernel
theorem d_Mo_write_24 : decode m_Mo_write.2.1 24 = .ok (.iconst 0, 1) := by decide +kernel
theorem d_Mo_write_25 : decode m_Mo_write.2.1 25 = .ok (.istore_n 3, 1) := by decide +kernel
theorem d_Mo_write_26 : decode m_Mo_write.2.1 26 = .ok (.iload_n 3, 1) := by decide +kernel
theorem d_Mo_write_27 : decode m_Mo_write.2.1 27 = .ok (.aload_n 0, 1) := by decide +kernel
theorem d_Mo_write_28 : decode m_Mo_write.2.1 28 = .ok (.getfield 55, 3) := by decide +kernel
theorem d_Mo_write_31 : decode m_Mo_write.2.1 31 = .ok (.iload_n 1, 1) := by decide +kernel
theorem d_Mo_write_32 : decode m_Mo_write.2.1 32 = .ok (.iaload, 1) := by decide +kernel
theorem d_Mo_write_33 : decode m_Mo_write.2.1 33 = .ok (.if_icmp .ge 31, 3) := by decide +kernel
theorem d_Mo_write_36 : decode m_Mo_write.2.1 36 = .ok (.aload_n 0, 1) := by decide +kernel
theorem d_Mo_write_37 : decode m_Mo_write.2.1 37 = .ok (.getfield 13, 3) := by decide +kernel
theorem d_Mo_write_40 : decode m_Mo_write.2.1 40 = .ok (.bipush 6, 2) := by decide +kernel
theorem d_Mo_write_42 : decode m_Mo_write.2.1 42 = .ok (.iload_n 2, 1) := by decide +kernel
theorem d_Mo_write_43 : decode m_Mo_write.2.1 43 = .ok (.imul, 1) := by decide +kernel
theorem d_Mo_write_44 : decode m_Mo_write.2.1 44 = .ok (.iload_n 3, 1) := by decide +kernel
theorem d_Mo_write_45 : decode m_Mo_write.2.1 45 = .ok (.iadd, 1) := by decide +kernel
theorem d_Mo_write_46 : decode m_Mo_write.2.1 46 = .ok (.aload_n 0, 1) := by decide +kernel
theorem d_Mo_write_47 : decode m_Mo_write.2.1 47 = .ok (.getfield 58, 3) := by decide +kernel
theorem d_Mo_write_50 : decode m_Mo_write.2.1 50 = .ok (.bipush 6, 2) := by decide +kernel
theorem d_Mo_write_52 : decode m_Mo_write.2.1 52 = .ok (.iload_n 1, 1) := by decide +kernel
theorem d_Mo_write_53 : decode m_Mo_write.2.1 53 = .ok (.imul, 1) := by decide +kernel
theorem d_Mo_write_54 : decode m_Mo_write.2.1 54 = .ok (.iload_n 3, 1) := by decide +kernel
theorem d_Mo_write_55 : decode m_Mo_write.2.1 55 = .ok (.iadd, 1) := by decide +kernel
theorem d_Mo_write_56 : decode m_Mo_write.2.1 56 = .ok (.iaload, 1) := by decide +kernel
theorem d_Mo_write_57 : decode m_Mo_write.2.1 57 = .ok (.iastore, 1) := by decide +kernel
theorem d_Mo_write_58 : decode m_Mo_write.2.1 58 = .ok (.iinc 3 1, 3) := by decide +kernel
theorem d_Mo_write_61 : decode m_Mo_write.2.1 61 = .ok (.goto (-35), 3) := by decide +kernel
theorem d_Mo_write_64 : decode m_Mo_write.2.1 64 = .ok (.return_, 1) := by decide +kernel
theorem d_Mo_isHazard_0 : decode m_Mo_isHazard.2.1 0 = .ok (.aload_n 0, 1) := by decide +kernel
theorem d_Mo_isHazard_1 : decode m_Mo_isHazard.2.1 1 = .ok (.iload_n 1, 1) := by decide +kernel
theorem d_Mo_isHazard_2 : decode m_Mo_isHazard.2.1 2 = .ok (.iconst 1, 1) := by decide +kernel
theorem d_Mo_isHazard_3 : decode m_Mo_isHazard.2.1 3 = .ok (.invokevirtual 212, 3) := by decide +kernel
theorem d_Mo_isHazard_6 : decode m_Mo_isHazard.2.1 6 = .ok (.ifCond .ne 12, 3) := by decide +kernel
theorem d_Mo_isHazard_9 : decode m_Mo_isHazard.2.1 9 = .ok (.aload_n 0, 1) := by decide +kernel
theorem d_Mo_isHazard_10 : decode m_Mo_isHazard.2.1 10 = .ok (.iload_n 1, 1) := by decide +kernel
theorem d_Mo_isHazard_11 : decode m_Mo_isHazard.2.1 11 = .ok (.iconst 0, 1) := by decide +kernel
theorem d_Mo_isHazard_12 : decode m_Mo_isHazard.2.1 12 = .ok (.invokevirtual 212, 3) := by decide +kernel
theorem d_Mo_isHazard_15 : decode m_Mo_isHazard.2.1 15 = .ok (.ifCond .eq 7, 3) := by decide +kernel
theorem d_Mo_isHazard_18 : decode m_Mo_isHazard.2.1 18 = .ok (.iconst 1, 1) := by decide +kernel
theorem d_Mo_isHazard_19 : decode m_Mo_isHazard.2.1 19 = .ok (.goto 4, 3) := by decide +kernel
theorem d_Mo_isHazard_22 : decode m_Mo_isHazard.2.1 22 = .ok (.iconst 0, 1) := by decide +kernel
theorem d_Mo_isHazard_23 : decode m_Mo_isHazard.2.1 23 = .ok (.ireturn, 1) := by decide +kernel
theorem d_Mo_isHazardOf_0 : decode m_Mo_isHazardOf.2.1 0 = .ok (.iconst 0, 1) := by decide +kernel
theorem d_Mo_isHazardOf_1 : decode m_Mo_isHazardOf.2.1 1 = .ok (.istore_n 3, 1) := by decide +kernel
theorem d_Mo_isHazardOf_2 : decode m_Mo_isHazardOf.2.1 2 = .ok (.iload_n 3, 1) := by decide +kernel
theorem d_Mo_isHazardOf_3 : decode m_Mo_isHazardOf.2.1 3 = .ok (.aload_n 0, 1) := by decide +kernel
theorem d_Mo_isHazardOf_4 : decode m_Mo_isHazardOf.2.1 4 = .ok (.getfield 125, 3) := by decide +kernel
theorem d_Mo_isHazardOf_7 : decode m_Mo_isHazardOf.2.1 7 = .ok (.if_icmp .ge 112, 3) := by decide +kernel
theorem d_Mo_isHazardOf_10 : decode m_Mo_isHazardOf.2.1 10 = .ok (.iload_n 3, 1) := by decide +kernel
theorem d_Mo_isHazardOf_11 : decode m_Mo_isHazardOf.2.1 11 = .ok (.iload_n 1, 1) := by decide +kernel
theorem d_Mo_isHazardOf_12 : decode m_Mo_isHazardOf.2.1 12 = .ok (.if_icmp .eq 101, 3) := by decide +kernel
theorem d_Mo_isHazardOf_15 : decode m_Mo_isHazardOf.2.1 15 = .ok (.aload_n 0, 1) := by decide +kernel
theorem d_Mo_isHazardOf_16 : decode m_Mo_isHazardOf.2.1 16 = .ok (.getfield 64, 3) := by decide +kernel
theorem d_Mo_isHazardOf_19 : decode m_Mo_isHazardOf.2.1 19 = .ok (.iload_n 3, 1) := by decide +kernel
theorem d_Mo_isHazardOf_20 : decode m_Mo_isHazardOf.2.1 20 = .ok (.baload, 1) := by decide +kernel
theorem d_Mo_isHazardOf_21 : decode m_Mo_isHazardOf.2.1 21 = .ok (.ifCond .eq 92, 3) := by decide +kernel
theorem d_Mo_isHazardOf_24 : decode m_Mo_isHazardOf.2.1 24 = .ok (.aload_n 0, 1) := by decide +kernel
theorem d_Mo_isHazardOf_25 : decode m_Mo_isHazardOf.2.1 25 = .ok (.getfield 68, 3) := by decide +kernel
theorem d_Mo_isHazardOf_28 : decode m_Mo_isHazardOf.2.1 28 = .ok (.iload_n 3, 1) := by decide +kernel
theorem d_Mo_isHazardOf_29 : decode m_Mo_isHazardOf.2.1 29 = .ok (.baload, 1) := by decide +kernel
theorem d_Mo_isHazardOf_30 : decode m_Mo_isHazardOf.2.1 30 = .ok (.ifCond .ne 12, 3) := by decide +kernel
theorem d_Mo_isHazardOf_33 : decode m_Mo_isHazardOf.2.1 33 = .ok (.aload_n 0, 1) := by decide +kernel
theorem d_Mo_isHazardOf_34 : decode m_Mo_isHazardOf.2.1 34 = .ok (.getfield 68, 3) := by decide +kernel
theorem d_Mo_isHazardOf_37 : decode m_Mo_isHazardOf.2.1 37 = .ok (.iload_n 1, 1) := by decide +kernel
theorem d_Mo_isHazardOf_38 : decode m_Mo_isHazardOf.2.1 38 = .ok (.baload, 1) := by decide +kernel
theorem d_Mo_isHazardOf_39 : decode m_Mo_isHazardOf.2.1 39 = .ok (.ifCond .eq 7, 3) := by decide +kernel
theorem d_Mo_isHazardOf_42 : decode m_Mo_isHazardOf.2.1 42 = .ok (.iconst 1, 1) := by decide +kernel
theorem d_Mo_isHazardOf_43 : decode m_Mo_isHazardOf.2.1 43 = .ok (.goto 4, 3) := by decide +kernel
theorem d_Mo_isHazardOf_46 : decode m_Mo_isHazardOf.2.1 46 = .ok (.iconst 0, 1) := by decide +kernel
theorem d_Mo_isHazardOf_47 : decode m_Mo_isHazardOf.2.1 47 = .ok (.iload_n 2, 1) := by decide +kernel
theorem d_Mo_isHazardOf_48 : decode m_Mo_isHazardOf.2.1 48 = .ok (.if_icmp .eq 6, 3) := by decide +kernel
theorem d_Mo_isHazardOf_51 : decode m_Mo_isHazardOf.2.1 51 = .ok (.goto 62, 3) := by decide +kernel
theorem d_Mo_isHazardOf_54 : decode m_Mo_isHazardOf.2.1 54 = .ok (.aload_n 0, 1) := by decide +kernel
theorem d_Mo_isHazardOf_55 : decode m_Mo_isHazardOf.2.1 55 = .ok (.iload_n 3, 1) := by decide +kernel
theorem d_Mo_isHazardOf_56 : decode m_Mo_isHazardOf.2.1 56 = .ok (.iload_n 1, 1) := by decide +kernel
theorem d_Mo_isHazardOf_57 : decode m_Mo_isHazardOf.2.1 57 = .ok (.invokevirtual 216, 3) := by decide +kernel
theorem d_Mo_isHazardOf_60 : decode m_Mo_isHazardOf.2.1 60 = .ok (.istore 4, 2) := by decide +kernel
theorem d_Mo_isHazardOf_62 : decode m_Mo_isHazardOf.2.1 62 = .ok (.iload 4, 2) := by decide +kernel
theorem d_Mo_isHazardOf_64 : decode m_Mo_isHazardOf.2.1 64 = .ok (.ifCond .ne 6, 3) := by decide +kernel
theorem d_Mo_isHazardOf_67 : decode m_Mo_isHazardOf.2.1 67 = .ok (.goto 46, 3) := by decide +kernel
theorem d_Mo_isHazardOf_70 : decode m_Mo_isHazardOf.2.1 70 = .ok (.aload_n 0, 1) := by decide +kernel
theorem d_Mo_isHazardOf_71 : decode m_Mo_isHazardOf.2.1 71 = .ok (.iload 4, 2) := by decide +kernel
theorem d_Mo_isHazardOf_73 : decode m_Mo_isHazardOf.2.1 73 = .ok (.putfield 219, 3) := by decide +kernel
theorem d_Mo_isHazardOf_76 : decode m_Mo_isHazardOf.2.1 76 = .ok (.aload_n 0, 1) := by decide +kernel
theorem d_Mo_isHazardOf_77 : decode m_Mo_isHazardOf.2.1 77 = .ok (.iload_n 3, 1) := by decide +kernel
theorem d_Mo_isHazardOf_78 : decode m_Mo_isHazardOf.2.1 78 = .ok (.putfield 222, 3) := by decide +kernel
theorem d_Mo_isHazardOf_81 : decode m_Mo_isHazardOf.2.1 81 = .ok (.aload_n 0, 1) := by decide +kernel
theorem d_Mo_isHazardOf_82 : decode m_Mo_isHazardOf.2.1 82 = .ok (.iload_n 1, 1) := by decide +kernel
theorem d_Mo_isHazardOf_83 : decode m_Mo_isHazardOf.2.1 83 = .ok (.putfield 225, 3) := by decide +kernel
theorem d_Mo_isHazardOf_86 : decode m_Mo_isHazardOf.2.1 86 = .ok (.aload_n 0, 1) := by decide +kernel
theorem d_Mo_isHazardOf_87 : decode m_Mo_isHazardOf.2.1 87 = .ok (.iload 4, 2) := by decide +kernel
theorem d_Mo_isHazardOf_89 : decode m_Mo_isHazardOf.2.1 89 = .ok (.iconst 3, 1) := by decide +kernel
theorem d_Mo_isHazardOf_90 : decode m_Mo_isHazardOf.2.1 90 = .ok (.if_icmp .ne 12, 3) := by decide +kernel
theorem d_Mo_isHazardOf_93 : decode m_Mo_isHazardOf.2.1 93 = .ok (.aload_n 0, 1) := by decide +kernel
theorem d_Mo_isHazardOf_94 : decode m_Mo_isHazardOf.2.1 94 = .ok (.getfield 83, 3) := by decide +kernel
theorem d_Mo_isHazardOf_97 : decode m_Mo_isHazardOf.2.1 97 = .ok (.iload_n 3, 1) := by decide +kernel
theorem d_Mo_isHazardOf_98 : decode m_Mo_isHazardOf.2.1 98 = .ok (.iaload, 1) := by decide +kernel
theorem d_Mo_isHazardOf_99 : decode m_Mo_isHazardOf.2.1 99 = .ok (.goto 9, 3) := by decide +kernel
theorem d_Mo_isHazardOf_102 : decode m_Mo_isHazardOf.2.1 102 = .ok (.aload_n 0, 1) := by decide +kernel
theorem d_Mo_isHazardOf_103 : decode m_Mo_isHazardOf.2.1 103 = .ok (.getfield 83, 3) := by decide +kernel
theorem d_Mo_isHazardOf_106 : decode m_Mo_isHazardOf.2.1 106 = .ok (.iload_n 1, 1) := by decide +kernel
theorem d_Mo_isHazardOf_107 : decode m_Mo_isHazardOf.2.1 107 = .ok (.iaload, 1) := by decide +kernel
theorem d_Mo_isHazardOf_108 : decode m_Mo_isHazardOf.2.1 108 = .ok (.putfield 228, 3) := by decide +kernel
theorem d_Mo_isHazardOf_111 : decode m_Mo_isHazardOf.2.1 111 = .ok (.iconst 1, 1) := by decide +kernel
theorem d_Mo_isHazardOf_112 : decode m_Mo_isHazardOf.2.1 112 = .ok (.ireturn, 1) := by decide +kernel
theorem d_Mo_isHazardOf_113 : decode m_Mo_isHazardOf.2.1 113 = .ok (.iinc 3 1, 3) := by decide +kernel
theorem d_Mo_isHazardOf_116 : decode m_Mo_isHazardOf.2.1 116 = .ok (.goto (-114), 3) := by decide +kernel
theorem d_Mo_isHazardOf_119 : decode m_Mo_isHazardOf.2.1 119 = .ok (.iconst 0, 1) := by decide +kernel
theorem d_Mo_isHazardOf_120 : decode m_Mo_isHazardOf.2.1 120 = .ok (.ireturn, 1) := by decide +kernel
theorem d_Mo_kindOf_0 : decode m_Mo_kindOf.2.1 0 = .ok (.aload_n 0, 1) := by decide +kernel
theorem d_Mo_kindOf_1 : decode m_Mo_kindOf.2.1 1 = .ok (.getfield 83, 3) := by decide +kernel
theorem d_Mo_kindOf_4 : decode m_Mo_kindOf.2.1 4 = .ok (.iload_n 1, 1) := by decide +kernel
theorem d_Mo_kindOf_5 : decode m_Mo_kindOf.2.1 5 = .ok (.iaload, 1) := by decide +kernel
theorem d_Mo_kindOf_6 : decode m_Mo_kindOf.2.1 6 = .ok (.ifCond .lt 20, 3) := by decide +kernel
theorem d_Mo_kindOf_9 : decode m_Mo_kindOf.2.1 9 = .ok (.aload_n 0, 1) := by decide +kernel
theorem d_Mo_kindOf_10 : decode m_Mo_kindOf.2.1 10 = .ok (.getfield 83, 3) := by decide +kernel
theorem d_Mo_kindOf_13 : decode m_Mo_kindOf.2.1 13 = .ok (.iload_n 1, 1) := by decide +kernel
theorem d_Mo_kindOf_14 : decode m_Mo_kindOf.2.1 14 = .ok (.iaload, 1) := by decide +kernel
theorem d_Mo_kindOf_15 : decode m_Mo_kindOf.2.1 15 = .ok (.aload_n 0, 1) := by decide +kernel
theorem d_Mo_kindOf_16 : decode m_Mo_kindOf.2.1 16 = .ok (.getfield 83, 3) := by decide +kernel
theorem d_Mo_kindOf_19 : decode m_Mo_kindOf.2.1 19 = .ok (.iload_n 2, 1) := by decide +kernel
theorem d_Mo_kindOf_20 : decode m_Mo_kindOf.2.1 20 = .ok (.iaload, 1) := by decide +kernel
theorem d_Mo_kindOf_21 : decode m_Mo_kindOf.2.1 21 = .ok (.if_icmp .ne 5, 3) := by decide +kernel
theorem d_Mo_kindOf_24 : decode m_Mo_kindOf.2.1 24 = .ok (.iconst 1, 1) := by decide +kernel
theorem d_Mo_kindOf_25 : decode m_Mo_kindOf.2.1 25 = .ok (.ireturn, 1) := by decide +kernel
theorem d_Mo_kindOf_26 : decode m_Mo_kindOf.2.1 26 = .ok (.aload_n 0, 1) := by decide +kernel
theorem d_Mo_kindOf_27 : decode m_Mo_kindOf.2.1 27 = .ok (.aload_n 0, 1) := by decide +kernel
theorem d_Mo_kindOf_28 : decode m_Mo_kindOf.2.1 28 = .ok (.getfield 77, 3) := by decide +kernel
theorem d_Mo_kindOf_31 : decode m_Mo_kindOf.2.1 31 = .ok (.iload_n 1, 1) := by decide +kernel
theorem d_Mo_kindOf_32 : decode m_Mo_kindOf.2.1 32 = .ok (.iaload, 1) := by decide +kernel
theorem d_Mo_kindOf_33 : decode m_Mo_kindOf.2.1 33 = .ok (.aload_n 0, 1) := by decide +kernel
theorem d_Mo_kindOf_34 : decode m_Mo_kindOf.2.1 34 = .ok (.getfield 83, 3) := by decide +kernel
theorem d_Mo_kindOf_37 : decode m_Mo_kindOf.2.1 37 = .ok (.iload_n 2, 1) := by decide +kernel
theorem d_Mo_kindOf_38 : decode m_Mo_kindOf.2.1 38 = .ok (.iaload, 1) := by decide +kernel
theorem d_Mo_kindOf_39 : decode m_Mo_kindOf.2.1 39 = .ok (.invokevirtual 209, 3) := by decide +kernel
theorem d_Mo_kindOf_42 : decode m_Mo_kindOf.2.1 42 = .ok (.ifCond .ne 31, 3) := by decide +kernel
theorem d_Mo_kindOf_45 : decode m_Mo_kindOf.2.1 45 = .ok (.aload_n 0, 1) := by decide +kernel
theorem d_Mo_kindOf_46 : decode m_Mo_kindOf.2.1 46 = .ok (.aload_n 0, 1) := by decide +kernel
theorem d_Mo_kindOf_47 : decode m_Mo_kindOf.2.1 47 = .ok (.getfield 80, 3) := by decide +kernel
theorem d_Mo_kindOf_50 : decode m_Mo_kindOf.2.1 50 = .ok (.iload_n 1, 1) := by decide +kernel
theorem d_Mo_kindOf_51 : decode m_Mo_kindOf.2.1 51 = .ok (.iaload, 1) := by decide +kernel
theorem d_Mo_kindOf_52 : decode m_Mo_kindOf.2.1 52 = .ok (.aload_n 0, 1) := by decide +kernel
theorem d_Mo_kindOf_53 : decode m_Mo_kindOf.2.1 53 = .ok (.getfield 83, 3) := by decide +kernel
theorem d_Mo_kindOf_56 : decode m_Mo_kindOf.2.1 56 = .ok (.iload_n 2, 1) := by decide +kernel
theorem d_Mo_kindOf_57 : decode m_Mo_kindOf.2.1 57 = .ok (.iaload, 1) := by decide +kernel
theorem d_Mo_kindOf_58 : decode m_Mo_kindOf.2.1 58 = .ok (.invokevirtual 209, 3) := by decide +kernel
theorem d_Mo_kindOf_61 : decode m_Mo_kindOf.2.1 61 = .ok (.ifCond .eq 14, 3) := by decide +kernel
theorem d_Mo_kindOf_64 : decode m_Mo_kindOf.2.1 64 = .ok (.aload_n 0, 1) := by decide +kernel
theorem d_Mo_kindOf_65 : decode m_Mo_kindOf.2.1 65 = .ok (.getfield 86, 3) := by decide +kernel
theorem d_Mo_kindOf_68 : decode m_Mo_kindOf.2.1 68 = .ok (.iload_n 2, 1) := by decide +kernel
theorem d_Mo_kindOf_69 : decode m_Mo_kindOf.2.1 69 = .ok (.baload, 1) := by decide +kernel
theorem d_Mo_kindOf_70 : decode m_Mo_kindOf.2.1 70 = .ok (.ifCond .eq 5, 3) := by decide +kernel
theorem d_Mo_kindOf_73 : decode m_Mo_kindOf.2.1 73 = .ok (.iconst 2, 1) := by decide +kernel
theorem d_Mo_kindOf_74 : decode m_Mo_kindOf.2.1 74 = .ok (.ireturn, 1) := by decide +kernel
theorem d_Mo_kindOf_75 : decode m_Mo_kindOf.2.1 75 = .ok (.iload_n 1, 1) := by decide +kernel
theorem d_Mo_kindOf_76 : decode m_Mo_kindOf.2.1 76 = .ok (.iload_n 2, 1) := by decide +kernel
theorem d_Mo_kindOf_77 : decode m_Mo_kindOf.2.1 77 = .ok (.if_icmp .le 54, 3) := by decide +kernel
theorem d_Mo_kindOf_80 : decode m_Mo_kindOf.2.1 80 = .ok (.aload_n 0, 1) := by decide +kernel
theorem d_Mo_kindOf_81 : decode m_Mo_kindOf.2.1 81 = .ok (.aload_n 0, 1) := by decide +kernel
theorem d_Mo_kindOf_82 : decode m_Mo_kindOf.2.1 82 = .ok (.getfield 77, 3) := by decide +kernel
theorem d_Mo_kindOf_85 : decode m_Mo_kindOf.2.1 85 = .ok (.iload_n 2, 1) := by decide +kernel
theorem d_Mo_kindOf_86 : decode m_Mo_kindOf.2.1 86 = .ok (.iaload, 1) := by decide +kernel
theorem d_Mo_kindOf_87 : decode m_Mo_kindOf.2.1 87 = .ok (.aload_n 0, 1) := by decide +kernel
theorem d_Mo_kindOf_88 : decode m_Mo_kindOf.2.1 88 = .ok (.getfield 83, 3) := by decide +kernel
theorem d_Mo_kindOf_91 : decode m_Mo_kindOf.2.1 91 = .ok (.iload_n 1, 1) := by decide +kernel
theorem d_Mo_kindOf_92 : decode m_Mo_kindOf.2.1 92 = .ok (.iaload, 1) := by decide +kernel
theorem d_Mo_kindOf_93 : decode m_Mo_kindOf.2.1 93 = .ok (.invokevirtual 209, 3) := by decide +kernel
theorem d_Mo_kindOf_96 : decode m_Mo_kindOf.2.1 96 = .ok (.ifCond .ne 31, 3) := by decide +kernel
theorem d_Mo_kindOf_99 : decode m_Mo_kindOf.2.1 99 = .ok (.aload_n 0, 1) := by decide +kernel
theorem d_Mo_kindOf_100 : decode m_Mo_kindOf.2.1 100 = .ok (.aload_n 0, 1) := by decide +kernel
theorem d_Mo_kindOf_101 : decode m_Mo_kindOf.2.1 101 = .ok (.getfield 80, 3) := by decide +kernel
theorem d_Mo_kindOf_104 : decode m_Mo_kindOf.2.1 104 = .ok (.iload_n 2, 1) := by decide +kernel
theorem d_Mo_kindOf_105 : decode m_Mo_kindOf.2.1 105 = .ok (.iaload, 1) := by decide +kernel
theorem d_Mo_kindOf_106 : decode m_Mo_kindOf.2.1 106 = .ok (.aload_n 0, 1) := by decide +kernel
theorem d_Mo_kindOf_107 : decode m_Mo_kindOf.2.1 107 = .ok (.getfield 83, 3) := by decide +kernel
theorem d_Mo_kindOf_110 : decode m_Mo_kindOf.2.1 110 = .ok (.iload_n 1, 1) := by decide +kernel
theorem d_Mo_kindOf_111 : decode m_Mo_kindOf.2.1 111 = .ok (.iaload, 1) := by decide +kernel
theorem d_Mo_kindOf_112 : decode m_Mo_kindOf.2.1 112 = .ok (.invokevirtual 209, 3) := by decide +kernel
theorem d_Mo_kindOf_115 : decode m_Mo_kindOf.2.1 115 = .ok (.ifCond .eq 16, 3) := by decide +kernel
theorem d_Mo_kindOf_118 : decode m_Mo_kindOf.2.1 118 = .ok (.aload_n 0, 1) := by decide +kernel
theorem d_Mo_kindOf_119 : decode m_Mo_kindOf.2.1 119 = .ok (.getfield 86, 3) := by decide +kernel
theorem d_Mo_kindOf_122 : decode m_Mo_kindOf.2.1 122 = .ok (.iload_n 1, 1) := by decide +kernel
theorem d_Mo_kindOf_123 : decode m_Mo_kindOf.2.1 123 = .ok (.baload, 1) := by decide +kernel
theorem d_Mo_kindOf_124 : decode m_Mo_kindOf.2.1 124 = .ok (.ifCond .eq 7, 3) := by decide +kernel
theorem d_Mo_kindOf_127 : decode m_Mo_kindOf.2.1 127 = .ok (.iconst 3, 1) := by decide +kernel
theorem d_Mo_kindOf_128 : decode m_Mo_kindOf.2.1 128 = .ok (.goto 4, 3) := by decide +kernel
theorem d_Mo_kindOf_131 : decode m_Mo_kindOf.2.1 131 = .ok (.iconst 0, 1) := by decide +kernel
theorem d_Mo_kindOf_132 : decode m_Mo_kindOf.2.1 132 = .ok (.ireturn, 1) := by decide +kernel
theorem d_Mo_meets_0 : decode m_Mo_meets.2.1 0 = .ok (.iload_n 2, 1) := by decide +kernel
theorem d_Mo_meets_1 : decode m_Mo_meets.2.1 1 = .ok (.ifCond .lt 16, 3) := by decide +kernel
theorem d_Mo_meets_4 : decode m_Mo_meets.2.1 4 = .ok (.iload_n 1, 1) := by decide +kernel
theorem d_Mo_meets_5 : decode m_Mo_meets.2.1 5 = .ok (.iload_n 2, 1) := by decide +kernel
theorem d_Mo_meets_6 : decode m_Mo_meets.2.1 6 = .ok (.ishr, 1) := by decide +kernel
theorem d_Mo_meets_7 : decode m_Mo_meets.2.1 7 = .ok (.iconst 1, 1) := by decide +kernel
theorem d_Mo_meets_8 : decode m_Mo_meets.2.1 8 = .ok (.iand, 1) := by decide +kernel
theorem d_Mo_meets_9 : decode m_Mo_meets.2.1 9 = .ok (.iconst 1, 1) := by decide +kernel
theorem d_Mo_meets_10 : decode m_Mo_meets.2.1 10 = .ok (.if_icmp .ne 7, 3) := by decide +kernel
theorem d_Mo_meets_13 : decode m_Mo_meets.2.1 13 = .ok (.iconst 1, 1) := by decide +kernel
theorem d_Mo_meets_14 : decode m_Mo_meets.2.1 14 = .ok (.goto 4, 3) := by decide +kernel
theorem d_Mo_meets_17 : decode m_Mo_meets.2.1 17 = .ok (.iconst 0, 1) := by decide +kernel
theorem d_Mo_meets_18 : decode m_Mo_meets.2.1 18 = .ok (.ireturn, 1) := by decide +kernel
theorem d_Mo_tryAhead_0 : decode m_Mo_tryAhead.2.1 0 = .ok (.iconst 0, 1) := by decide +kernel
theorem d_Mo_tryAhead_1 : decode m_Mo_tryAhead.2.1 1 = .ok (.istore_n 3, 1) := by decide +kernel
theorem d_Mo_tryAhead_2 : decode m_Mo_tryAhead.2.1 2 = .ok (.iload_n 3, 1) := by decide +kernel
theorem d_Mo_tryAhead_3 : decode m_Mo_tryAhead.2.1 3 = .ok (.iload_n 2, 1) := by decide +kernel
theorem d_Mo_tryAhead_4 : decode m_Mo_tryAhead.2.1 4 = .ok (.if_icmp .ge 68, 3) := by decide +kernel
theorem d_Mo_tryAhead_7 : decode m_Mo_tryAhead.2.1 7 = .ok (.iload_n 1, 1) := by decide +kernel
theorem d_Mo_tryAhead_8 : decode m_Mo_tryAhead.2.1 8 = .ok (.iconst 2, 1) := by decide +kernel
theorem d_Mo_tryAhead_9 : decode m_Mo_tryAhead.2.1 9 = .ok (.iadd, 1) := by decide +kernel
theorem d_Mo_tryAhead_10 : decode m_Mo_tryAhead.2.1 10 = .ok (.istore 4, 2) := by decide +kernel
theorem d_Mo_tryAhead_12 : decode m_Mo_tryAhead.2.1 12 = .ok (.iload 4, 2) := by decide +kernel
theorem d_Mo_tryAhead_14 : decode m_Mo_tryAhead.2.1 14 = .ok (.aload_n 0, 1) := by decide +kernel
theorem d_Mo_tryAhead_15 : decode m_Mo_tryAhead.2.1 15 = .ok (.getfield 125, 3) := by decide +kernel
theorem d_Mo_tryAhead_18 : decode m_Mo_tryAhead.2.1 18 = .ok (.if_icmp .ge 19, 3) := by decide +kernel
theorem d_Mo_tryAhead_21 : decode m_Mo_tryAhead.2.1 21 = .ok (.aload_n 0, 1) := by decide +kernel
theorem d_Mo_tryAhead_22 : decode m_Mo_tryAhead.2.1 22 = .ok (.iload_n 1, 1) := by decide +kernel
theorem d_Mo_tryAhead_23 : decode m_Mo_tryAhead.2.1 23 = .ok (.iload 4, 2) := by decide +kernel
theorem d_Mo_tryAhead_25 : decode m_Mo_tryAhead.2.1 25 = .ok (.invokevirtual 244, 3) := by decide +kernel
theorem d_Mo_tryAhead_28 : decode m_Mo_tryAhead.2.1 28 = .ok (.ifCond .ne 9, 3) := by decide +kernel
theorem d_Mo_tryAhead_31 : decode m_Mo_tryAhead.2.1 31 = .ok (.iinc 4 1, 3) := by decide +kernel
theorem d_Mo_tryAhead_34 : decode m_Mo_tryAhead.2.1 34 = .ok (.goto (-22), 3) := by decide +kernel
theorem d_Mo_tryAhead_37 : decode m_Mo_tryAhead.2.1 37 = .ok (.iload 4, 2) := by decide +kernel
theorem d_Mo_tryAhead_39 : decode m_Mo_tryAhead.2.1 39 = .ok (.aload_n 0, 1) := by decide +kernel
theorem d_Mo_tryAhead_40 : decode m_Mo_tryAhead.2.1 40 = .ok (.getfield 125, 3) := by decide +kernel
theorem d_Mo_tryAhead_43 : decode m_Mo_tryAhead.2.1 43 = .ok (.if_icmp .lt 5, 3) := by decide +kernel
theorem d_Mo_tryAhead_46 : decode m_Mo_tryAhead.2.1 46 = .ok (.iconst 1, 1) := by decide +kernel
theorem d_Mo_tryAhead_47 : decode m_Mo_tryAhead.2.1 47 = .ok (.ireturn, 1) := by decide +kernel
theorem d_Mo_tryAhead_48 : decode m_Mo_tryAhead.2.1 48 = .ok (.aload_n 0, 1) := by decide +kernel
theorem d_Mo_tryAhead_49 : decode m_Mo_tryAhead.2.1 49 = .ok (.iload 4, 2) := by decide +kernel
theorem d_Mo_tryAhead_51 : decode m_Mo_tryAhead.2.1 51 = .ok (.iconst 1, 1) := by decide +kernel
theorem d_Mo_tryAhead_52 : decode m_Mo_tryAhead.2.1 52 = .ok (.invokevirtual 234, 3) := by decide +kernel
theorem d_Mo_tryAhead_55 : decode m_Mo_tryAhead.2.1 55 = .ok (.aload_n 0, 1) := by decide +kernel
theorem d_Mo_tryAhead_56 : decode m_Mo_tryAhead.2.1 56 = .ok (.iload 4, 2) := by decide +kernel
theorem d_Mo_tryAhead_58 : decode m_Mo_tryAhead.2.1 58 = .ok (.invokevirtual 238, 3) := by decide +kernel
theorem d_Mo_tryAhead_61 : decode m_Mo_tryAhead.2.1 61 = .ok (.ifCond .eq 5, 3) := by decide +kernel
theorem d_Mo_tryAhead_64 : decode m_Mo_tryAhead.2.1 64 = .ok (.iconst 0, 1) := by decide +kernel
theorem d_Mo_tryAhead_65 : decode m_Mo_tryAhead.2.1 65 = .ok (.ireturn, 1) := by decide +kernel
theorem d_Mo_tryAhead_66 : decode m_Mo_tryAhead.2.1 66 = .ok (.iinc 3 1, 3) := by decide +kernel
theorem d_Mo_tryAhead_69 : decode m_Mo_tryAhead.2.1 69 = .ok (.goto (-67), 3) := by decide +kernel
theorem d_Mo_tryAhead_72 : decode m_Mo_tryAhead.2.1 72 = .ok (.iconst 1, 1) := by decide +kernel
theorem d_Mo_tryAhead_73 : decode m_Mo_tryAhead.2.1 73 = .ok (.ireturn, 1) := by decide +kernel
theorem d_Mo_isSafe_0 : decode m_Mo_isSafe.2.1 0 = .ok (.aload_n 0, 1) := by decide +kernel
theorem d_Mo_isSafe_1 : decode m_Mo_isSafe.2.1 1 = .ok (.iload_n 2, 1) := by decide +kernel
theorem d_Mo_isSafe_2 : decode m_Mo_isSafe.2.1 2 = .ok (.invokevirtual 197, 3) := by decide +kernel
theorem d_Mo_isSafe_5 : decode m_Mo_isSafe.2.1 5 = .ok (.istore_n 3, 1) := by decide +kernel
theorem d_Mo_isSafe_6 : decode m_Mo_isSafe.2.1 6 = .ok (.aload_n 0, 1) := by decide +kernel
theorem d_Mo_isSafe_7 : decode m_Mo_isSafe.2.1 7 = .ok (.getfield 64, 3) := by decide +kernel
theorem d_Mo_isSafe_10 : decode m_Mo_isSafe.2.1 10 = .ok (.iload_n 2, 1) := by decide +kernel
theorem d_Mo_isSafe_11 : decode m_Mo_isSafe.2.1 11 = .ok (.baload, 1) := by decide +kernel
theorem d_Mo_isSafe_12 : decode m_Mo_isSafe.2.1 12 = .ok (.ifCond .ne 7, 3) := by decide +kernel
theorem d_Mo_isSafe_15 : decode m_Mo_isSafe.2.1 15 = .ok (.iload_n 3, 1) := by decide +kernel
theorem d_Mo_isSafe_16 : decode m_Mo_isSafe.2.1 16 = .ok (.ifCond .ge 5, 3) := by decide +kernel
theorem d_Mo_isSafe_19 : decode m_Mo_isSafe.2.1 19 = .ok (.iconst 0, 1) := by decide +kernel
theorem d_Mo_isSafe_20 : decode m_Mo_isSafe.2.1 20 = .ok (.ireturn, 1) := by decide +kernel
theorem d_Mo_isSafe_21 : decode m_Mo_isSafe.2.1 21 = .ok (.iload_n 1, 1) := by decide +kernel
theorem d_Mo_isSafe_22 : decode m_Mo_isSafe.2.1 22 = .ok (.iconst 1, 1) := by decide +kernel
theorem d_Mo_isSafe_23 : decode m_Mo_isSafe.2.1 23 = .ok (.iadd, 1) := by decide +kernel
theorem d_Mo_isSafe_24 : decode m_Mo_isSafe.2.1 24 = .ok (.istore 4, 2) := by decide +kernel
theorem d_Mo_isSafe_26 : decode m_Mo_isSafe.2.1 26 = .ok (.iload 4, 2) := by decide +kernel
theorem d_Mo_isSafe_28 : decode m_Mo_isSafe.2.1 28 = .ok (.iload_n 2, 1) := by decide +kernel
theorem d_Mo_isSafe_29 : decode m_Mo_isSafe.2.1 29 = .ok (.if_icmp .ge 47, 3) := by decide +kernel
theorem d_Mo_isSafe_32 : decode m_Mo_isSafe.2.1 32 = .ok (.aload_n 0, 1) := by decide +kernel
theorem d_Mo_isSafe_33 : decode m_Mo_isSafe.2.1 33 = .ok (.getfield 64, 3) := by decide +kernel
theorem d_Mo_isSafe_36 : decode m_Mo_isSafe.2.1 36 = .ok (.iload 4, 2) := by decide +kernel
theorem d_Mo_isSafe_38 : decode m_Mo_isSafe.2.1 38 = .ok (.baload, 1) := by decide +kernel
theorem d_Mo_isSafe_39 : decode m_Mo_isSafe.2.1 39 = .ok (.ifCond .eq 6, 3) := by decide +kernel
theorem d_Mo_isSafe_42 : decode m_Mo_isSafe.2.1 42 = .ok (.goto 28, 3) := by decide +kernel
theorem d_Mo_isSafe_45 : decode m_Mo_isSafe.2.1 45 = .ok (.aload_n 0, 1) := by decide +kernel
theorem d_Mo_isSafe_46 : decode m_Mo_isSafe.2.1 46 = .ok (.iload 4, 2) := by decide +kernel
theorem d_Mo_isSafe_48 : decode m_Mo_isSafe.2.1 48 = .ok (.invokevirtual 197, 3) := by decide +kernel
theorem d_Mo_isSafe_51 : decode m_Mo_isSafe.2.1 51 = .ok (.istore 5, 2) := by decide +kernel
theorem d_Mo_isSafe_53 : decode m_Mo_isSafe.2.1 53 = .ok (.iload 5, 2) := by decide +kernel
theorem d_Mo_isSafe_55 : decode m_Mo_isSafe.2.1 55 = .ok (.ifCond .lt 13, 3) := by decide +kernel
theorem d_Mo_isSafe_58 : decode m_Mo_isSafe.2.1 58 = .ok (.aload_n 0, 1) := by decide +kernel
theorem d_Mo_isSafe_59 : decode m_Mo_isSafe.2.1 59 = .ok (.iload 5, 2) := by decide +kernel
theorem d_Mo_isSafe_61 : decode m_Mo_isSafe.2.1 61 = .ok (.iload_n 3, 1) := by decide +kernel
theorem d_Mo_isSafe_62 : decode m_Mo_isSafe.2.1 62 = .ok (.invokevirtual 231, 3) := by decide +kernel
theorem d_Mo_isSafe_65 : decode m_Mo_isSafe.2.1 65 = .ok (.ifCond .ne 5, 3) := by decide +kernel
theorem d_Mo_isSafe_68 : decode m_Mo_isSafe.2.1 68 = .ok (.iconst 0, 1) := by decide +kernel
theorem d_Mo_isSafe_69 : decode m_Mo_isSafe.2.1 69 = .ok (.ireturn, 1) := by decide +kernel
theorem d_Mo_isSafe_70 : decode m_Mo_isSafe.2.1 70 = .ok (.iinc 4 1, 3) := by decide +kernel
theorem d_Mo_isSafe_73 : decode m_Mo_isSafe.2.1 73 = .ok (.goto (-47), 3) := by decide +kernel
theorem d_Mo_isSafe_76 : decode m_Mo_isSafe.2.1 76 = .ok (.iconst 1, 1) := by decide +kernel
theorem d_Mo_isSafe_77 : decode m_Mo_isSafe.2.1 77 = .ok (.ireturn, 1) := by decide +kernel
theorem d_Mo_apart_0 : decode m_Mo_apart.2.1 0 = .ok (.aload_n 0, 1) := by decide +kernel
theorem d_Mo_apart_1 : decode m_Mo_apart.2.1 1 = .ok (.getfield 37, 3) := by decide +kernel
theorem d_Mo_apart_4 : decode m_Mo_apart.2.1 4 = .ok (.iload_n 1, 1) := by decide +kernel
theorem d_Mo_apart_5 : decode m_Mo_apart.2.1 5 = .ok (.iaload, 1) := by decide +kernel
theorem d_Mo_apart_6 : decode m_Mo_apart.2.1 6 = .ok (.aload_n 0, 1) := by decide +kernel
theorem d_Mo_apart_7 : decode m_Mo_apart.2.1 7 = .ok (.getfield 40, 3) := by decide +kernel
theorem d_Mo_apart_10 : decode m_Mo_apart.2.1 10 = .ok (.iload_n 1, 1) := by decide +kernel
theorem d_Mo_apart_11 : decode m_Mo_apart.2.1 11 = .ok (.iaload, 1) := by decide +kernel
theorem d_Mo_apart_12 : decode m_Mo_apart.2.1 12 = .ok (.ior, 1) := by decide +kernel
theorem d_Mo_apart_13 : decode m_Mo_apart.2.1 13 = .ok (.aload_n 0, 1) := by decide +kernel
theorem d_Mo_apart_14 : decode m_Mo_apart.2.1 14 = .ok (.getfield 52, 3) := by decide +kernel
theorem d_Mo_apart_17 : decode m_Mo_apart.2.1 17 = .ok (.iload_n 1, 1) := by decide +kernel
theorem d_Mo_apart_18 : decode m_Mo_apart.2.1 18 = .ok (.iaload, 1) := by decide +kernel
theorem d_Mo_apart_19 : decode m_Mo_apart.2.1 19 = .ok (.ifCond .ge 7, 3) := by decide +kernel
theorem d_Mo_apart_22 : decode m_Mo_apart.2.1 22 = .ok (.iconst 0, 1) := by decide +kernel
theorem d_Mo_apart_23 : decode m_Mo_apart.2.1 23 = .ok (.goto 11, 3) := by decide +kernel
theorem d_Mo_apart_26 : decode m_Mo_apart.2.1 26 = .ok (.iconst 1, 1) := by decide +kernel
theorem d_Mo_apart_27 : decode m_Mo_apart.2.1 27 = .ok (.aload_n 0, 1) := by decide +kernel
theorem d_Mo_apart_28 : decode m_Mo_apart.2.1 28 = .ok (.getfield 52, 3) := by decide +kernel
theorem d_Mo_apart_31 : decode m_Mo_apart.2.1 31 = .ok (.iload_n 1, 1) := by decide +kernel
theorem d_Mo_apart_32 : decode m_Mo_apart.2.1 32 = .ok (.iaload, 1) := by decide +kernel
theorem d_Mo_apart_33 : decode m_Mo_apart.2.1 33 = .ok (.ishl, 1) := by decide +kernel
theorem d_Mo_apart_34 : decode m_Mo_apart.2.1 34 = .ok (.ior, 1) := by decide +kernel
theorem d_Mo_apart_35 : decode m_Mo_apart.2.1 35 = .ok (.istore_n 3, 1) := by decide +kernel
theorem d_Mo_apart_36 : decode m_Mo_apart.2.1 36 = .ok (.aload_n 0, 1) := by decide +kernel
theorem d_Mo_apart_37 : decode m_Mo_apart.2.1 37 = .ok (.getfield 37, 3) := by decide +kernel
theorem d_Mo_apart_40 : decode m_Mo_apart.2.1 40 = .ok (.iload_n 2, 1) := by decide +kernel
theorem d_Mo_apart_41 : decode m_Mo_apart.2.1 41 = .ok (.iaload, 1) := by decide +kernel
theorem d_Mo_apart_42 : decode m_Mo_apart.2.1 42 = .ok (.aload_n 0, 1) := by decide +kernel
theorem d_Mo_apart_43 : decode m_Mo_apart.2.1 43 = .ok (.getfield 40, 3) := by decide +kernel
theorem d_Mo_apart_46 : decode m_Mo_apart.2.1 46 = .ok (.iload_n 2, 1) := by decide +kernel
theorem d_Mo_apart_47 : decode m_Mo_apart.2.1 47 = .ok (.iaload, 1) := by decide +kernel
theorem d_Mo_apart_48 : decode m_Mo_apart.2.1 48 = .ok (.ior, 1) := by decide +kernel
theorem d_Mo_apart_49 : decode m_Mo_apart.2.1 49 = .ok (.aload_n 0, 1) := by decide +kernel
theorem d_Mo_apart_50 : decode m_Mo_apart.2.1 50 = .ok (.getfield 52, 3) := by decide +kernel
theorem d_Mo_apart_53 : decode m_Mo_apart.2.1 53 = .ok (.iload_n 2, 1) := by decide +kernel
theorem d_Mo_apart_54 : decode m_Mo_apart.2.1 54 = .ok (.iaload, 1) := by decide +kernel
theorem d_Mo_apart_55 : decode m_Mo_apart.2.1 55 = .ok (.ifCond .ge 7, 3) := by decide +kernel
theorem d_Mo_apart_58 : decode m_Mo_apart.2.1 58 = .ok (.iconst 0, 1) := by decide +kernel
theorem d_Mo_apart_59 : decode m_Mo_apart.2.1 59 = .ok (.goto 11, 3) := by decide +kernel
theorem d_Mo_apart_62 : decode m_Mo_apart.2.1 62 = .ok (.iconst 1, 1) := by decide +kernel
theorem d_Mo_apart_63 : decode m_Mo_apart.2.1 63 = .ok (.aload_n 0, 1) := by decide +kernel
theorem d_Mo_apart_64 : decode m_Mo_apart.2.1 64 = .ok (.getfield 52, 3) := by decide +kernel
theorem d_Mo_apart_67 : decode m_Mo_apart.2.1 67 = .ok (.iload_n 2, 1) := by decide +kernel
theorem d_Mo_apart_68 : decode m_Mo_apart.2.1 68 = .ok (.iaload, 1) := by decide +kernel
theorem d_Mo_apart_69 : decode m_Mo_apart.2.1 69 = .ok (.ishl, 1) := by decide +kernel
theorem d_Mo_apart_70 : decode m_Mo_apart.2.1 70 = .ok (.ior, 1) := by decide +kernel
theorem d_Mo_apart_71 : decode m_Mo_apart.2.1 71 = .ok (.istore 4, 2) := by decide +kernel
theorem d_Mo_apart_73 : decode m_Mo_apart.2.1 73 = .ok (.aload_n 0, 1) := by decide +kernel
theorem d_Mo_apart_74 : decode m_Mo_apart.2.1 74 = .ok (.iload 4, 2) := by decide +kernel
theorem d_Mo_apart_76 : decode m_Mo_apart.2.1 76 = .ok (.aload_n 0, 1) := by decide +kernel
theorem d_Mo_apart_77 : decode m_Mo_apart.2.1 77 = .ok (.getfield 52, 3) := by decide +kernel
theorem d_Mo_apart_80 : decode m_Mo_apart.2.1 80 = .ok (.iload_n 1, 1) := by decide +kernel
theorem d_Mo_apart_81 : decode m_Mo_apart.2.1 81 = .ok (.iaload, 1) := by decide +kernel
theorem d_Mo_apart_82 : decode m_Mo_apart.2.1 82 = .ok (.invokevirtual 209, 3) := by decide +kernel
theorem d_Mo_apart_85 : decode m_Mo_apart.2.1 85 = .ok (.ifCond .ne 21, 3) := by decide +kernel
theorem d_Mo_apart_88 : decode m_Mo_apart.2.1 88 = .ok (.aload_n 0, 1) := by decide +kernel
theorem d_Mo_apart_89 : decode m_Mo_apart.2.1 89 = .ok (.iload_n 3, 1) := by decide +kernel
theorem d_Mo_apart_90 : decode m_Mo_apart.2.1 90 = .ok (.aload_n 0, 1) := by decide +kernel
theorem d_Mo_apart_91 : decode m_Mo_apart.2.1 91 = .ok (.getfield 52, 3) := by decide +kernel
theorem d_Mo_apart_94 : decode m_Mo_apart.2.1 94 = .ok (.iload_n 2, 1) := by decide +kernel
theorem d_Mo_apart_95 : decode m_Mo_apart.2.1 95 = .ok (.iaload, 1) := by decide +kernel
theorem d_Mo_apart_96 : decode m_Mo_apart.2.1 96 = .ok (.invokevirtual 209, 3) := by decide +kernel
theorem d_Mo_apart_99 : decode m_Mo_apart.2.1 99 = .ok (.ifCond .ne 7, 3) := by decide +kernel
theorem d_Mo_apart_102 : decode m_Mo_apart.2.1 102 = .ok (.iconst 1, 1) := by decide +kernel
theorem d_Mo_apart_103 : decode m_Mo_apart.2.1 103 = .ok (.goto 4, 3) := by decide +kernel
theorem d_Mo_apart_106 : decode m_Mo_apart.2.1 106 = .ok (.iconst 0, 1) := by decide +kernel
theorem d_Mo_apart_107 : decode m_Mo_apart.2.1 107 = .ok (.ireturn, 1) := by decide +kernel
theorem d_Mo_did_0 : decode m_Mo_did.2.1 0 = .ok (.aload_n 0, 1) := by decide +kernel
theorem d_Mo_did_1 : decode m_Mo_did.2.1 1 = .ok (.iload_n 1, 1) := by decide +kernel
theorem d_Mo_did_2 : decode m_Mo_did.2.1 2 = .ok (.invokevirtual 257, 3) := by decide +kernel
theorem d_Mo_did_5 : decode m_Mo_did.2.1 5 = .ok (.ifCond .eq 27, 3) := by decide +kernel
theorem d_Mo_did_8 : decode m_Mo_did.2.1 8 = .ok (.aload_n 0, 1) := by decide +kernel
theorem d_Mo_did_9 : decode m_Mo_did.2.1 9 = .ok (.getfield 71, 3) := by decide +kernel
theorem d_Mo_did_12 : decode m_Mo_did.2.1 12 = .ok (.iload_n 1, 1) := by decide +kernel
theorem d_Mo_did_13 : decode m_Mo_did.2.1 13 = .ok (.iaload, 1) := by decide +kernel
theorem d_Mo_did_14 : decode m_Mo_did.2.1 14 = .ok (.aload_n 0, 1) := by decide +kernel
theorem d_Mo_did_15 : decode m_Mo_did.2.1 15 = .ok (.getfield 68, 3) := by decide +kernel
theorem d_Mo_did_18 : decode m_Mo_did.2.1 18 = .ok (.iload_n 1, 1) := by decide +kernel
theorem d_Mo_did_19 : decode m_Mo_did.2.1 19 = .ok (.baload, 1) := by decide +kernel
theorem d_Mo_did_20 : decode m_Mo_did.2.1 20 = .ok (.ifCond .eq 7, 3) := by decide +kernel
theorem d_Mo_did_23 : decode m_Mo_did.2.1 23 = .ok (.iconst 4, 1) := by decide +kernel
theorem d_Mo_did_24 : decode m_Mo_did.2.1 24 = .ok (.goto 4, 3) := by decide +kernel
theorem d_Mo_did_27 : decode m_Mo_did.2.1 27 = .ok (.iconst 0, 1) := by decide +kernel
theorem d_Mo_did_28 : decode m_Mo_did.2.1 28 = .ok (.iadd, 1) := by decide +kernel
theorem d_Mo_did_29 : decode m_Mo_did.2.1 29 = .ok (.goto 4, 3) := by decide +kernel
theorem d_Mo_did_32 : decode m_Mo_did.2.1 32 = .ok (.iconst (-1), 1) := by decide +kernel
theorem d_Mo_did_33 : decode m_Mo_did.2.1 33 = .ok (.ireturn, 1) := by decide +kernel
theorem d_Mo_wasRun_0 : decode m_Mo_wasRun.2.1 0 = .ok (.aload_n 0, 1) := by decide +kernel
theorem d_Mo_wasRun_1 : decode m_Mo_wasRun.2.1 1 = .ok (.iconst 0, 1) := by decide +kernel
theorem d_Mo_wasRun_2 : decode m_Mo_wasRun.2.1 2 = .ok (.putfield 89, 3) := by decide +kernel
theorem d_Mo_wasRun_5 : decode m_Mo_wasRun.2.1 5 = .ok (.aload_n 0, 1) := by decide +kernel
theorem d_Mo_wasRun_6 : decode m_Mo_wasRun.2.1 6 = .ok (.getfield 114, 3) := by decide +kernel
theorem d_Mo_wasRun_9 : decode m_Mo_wasRun.2.1 9 = .ok (.ifCond .eq 19, 3) := by decide +kernel
theorem d_Mo_wasRun_12 : decode m_Mo_wasRun.2.1 12 = .ok (.iload_n 1, 1) := by decide +kernel
theorem d_Mo_wasRun_13 : decode m_Mo_wasRun.2.1 13 = .ok (.ifCond .lt 15, 3) := by decide +kernel
theorem d_Mo_wasRun_16 : decode m_Mo_wasRun.2.1 16 = .ok (.iload_n 1, 1) := by decide +kernel
theorem d_Mo_wasRun_17 : decode m_Mo_wasRun.2.1 17 = .ok (.aload_n 0, 1) := by decide +kernel
theorem d_Mo_wasRun_18 : decode m_Mo_wasRun.2.1 18 = .ok (.getfield 125, 3) := by decide +kernel
theorem d_Mo_wasRun_21 : decode m_Mo_wasRun.2.1 21 = .ok (.if_icmp .ge 7, 3) := by decide +kernel
theorem d_Mo_wasRun_24 : decode m_Mo_wasRun.2.1 24 = .ok (.iconst 1, 1) := by decide +kernel
theorem d_Mo_wasRun_25 : decode m_Mo_wasRun.2.1 25 = .ok (.goto 4, 3) := by decide +kernel
theorem d_Mo_wasRun_28 : decode m_Mo_wasRun.2.1 28 = .ok (.iconst 0, 1) := by decide +kernel
theorem d_Mo_wasRun_29 : decode m_Mo_wasRun.2.1 29 = .ok (.ireturn, 1) := by decide +kernel
theorem d_Mo_why_0 : decode m_Mo_why.2.1 0 = .ok (.aload_n 0, 1) := by decide +kernel
theorem d_Mo_why_1 : decode m_Mo_why.2.1 1 = .ok (.iload_n 1, 1) := by decide +kernel
theorem d_Mo_why_2 : decode m_Mo_why.2.1 2 = .ok (.invokevirtual 257, 3) := by decide +kernel
theorem d_Mo_why_5 : decode m_Mo_why.2.1 5 = .ok (.ifCond .eq 22, 3) := by decide +kernel
theorem d_Mo_why_8 : decode m_Mo_why.2.1 8 = .ok (.aload_n 0, 1) := by decide +kernel
theorem d_Mo_why_9 : decode m_Mo_why.2.1 9 = .ok (.getfield 71, 3) := by decide +kernel
theorem d_Mo_why_12 : decode m_Mo_why.2.1 12 = .ok (.iload_n 1, 1) := by decide +kernel
theorem d_Mo_why_13 : decode m_Mo_why.2.1 13 = .ok (.iaload, 1) := by decide +kernel
theorem d_Mo_why_14 : decode m_Mo_why.2.1 14 = .ok (.iconst 1, 1) := by decide +kernel
theorem d_Mo_why_15 : decode m_Mo_why.2.1 15 = .ok (.if_icmp .ne 12, 3) := by decide +kernel
theorem d_Mo_why_18 : decode m_Mo_why.2.1 18 = .ok (.aload_n 0, 1) := by decide +kernel
theorem d_Mo_why_19 : decode m_Mo_why.2.1 19 = .ok (.getfield 74, 3) := by decide +kernel
theorem d_Mo_why_22 : decode m_Mo_why.2.1 22 = .ok (.iload_n 1, 1) := by decide +kernel
theorem d_Mo_why_23 : decode m_Mo_why.2.1 23 = .ok (.iaload, 1) := by decide +kernel
theorem d_Mo_why_24 : decode m_Mo_why.2.1 24 = .ok (.goto 4, 3) := by decide +kernel
theorem d_Mo_why_27 : decode m_Mo_why.2.1 27 = .ok (.iconst (-1), 1) := by decide +kernel
theorem d_Mo_why_28 : decode m_Mo_why.2.1 28 = .ok (.ireturn, 1) := by decide +kernel
theorem d_Mo_hazard_0 : decode m_Mo_hazard.2.1 0 = .ok (.aload_n 0, 1) := by decide +kernel
theorem d_Mo_hazard_1 : decode m_Mo_hazard.2.1 1 = .ok (.iconst 0, 1) := by decide +kernel
theorem d_Mo_hazard_2 : decode m_Mo_hazard.2.1 2 = .ok (.putfield 89, 3) := by decide +kernel
theorem d_Mo_hazard_5 : decode m_Mo_hazard.2.1 5 = .ok (.aload_n 0, 1) := by decide +kernel
theorem d_Mo_hazard_6 : decode m_Mo_hazard.2.1 6 = .ok (.getfield 114, 3) := by decide +kernel
theorem d_Mo_hazard_9 : decode m_Mo_hazard.2.1 9 = .ok (.ifCond .eq 10, 3) := by decide +kernel
theorem d_Mo_hazard_12 : decode m_Mo_hazard.2.1 12 = .ok (.aload_n 0, 1) := by decide +kernel
theorem d_Mo_hazard_13 : decode m_Mo_hazard.2.1 13 = .ok (.getfield 219, 3) := by decide +kernel
theorem d_Mo_hazard_16 : decode m_Mo_hazard.2.1 16 = .ok (.ifCond .ne 5, 3) := by decide +kernel
theorem d_Mo_hazard_19 : decode m_Mo_hazard.2.1 19 = .ok (.iconst (-1), 1) := by decide +kernel
theorem d_Mo_hazard_20 : decode m_Mo_hazard.2.1 20 = .ok (.ireturn, 1) := by decide +kernel
theorem d_Mo_hazard_21 : decode m_Mo_hazard.2.1 21 = .ok (.iload_n 1, 1) := by decide +kernel
theorem d_Mo_hazard_22 : decode m_Mo_hazard.2.1 22 = .ok (.tableswitch 50 0 3 #[30, 35, 40, 45], 30) := by decide +kernel
theorem d_Mo_hazard_52 : decode m_Mo_hazard.2.1 52 = .ok (.aload_n 0, 1) := by decide +kernel
theorem d_Mo_hazard_53 : decode m_Mo_hazard.2.1 53 = .ok (.getfield 219, 3) := by decide +kernel
theorem d_Mo_hazard_56 : decode m_Mo_hazard.2.1 56 = .ok (.ireturn, 1) := by decide +kernel
theorem d_Mo_hazard_57 : decode m_Mo_hazard.2.1 57 = .ok (.aload_n 0, 1) := by decide +kernel
theorem d_Mo_hazard_58 : decode m_Mo_hazard.2.1 58 = .ok (.getfield 222, 3) := by decide +kernel
theorem d_Mo_hazard_61 : decode m_Mo_hazard.2.1 61 = .ok (.ireturn, 1) := by decide +kernel
theorem d_Mo_hazard_62 : decode m_Mo_hazard.2.1 62 = .ok (.aload_n 0, 1) := by decide +kernel
theorem d_Mo_hazard_63 : decode m_Mo_hazard.2.1 63 = .ok (.getfield 225, 3) := by decide +kernel
theorem d_Mo_hazard_66 : decode m_Mo_hazard.2.1 66 = .ok (.ireturn, 1) := by decide +kernel
theorem d_Mo_hazard_67 : decode m_Mo_hazard.2.1 67 = .ok (.aload_n 0, 1) := by decide +kernel
theorem d_Mo_hazard_68 : decode m_Mo_hazard.2.1 68 = .ok (.getfield 228, 3) := by decide +kernel
theorem d_Mo_hazard_71 : decode m_Mo_hazard.2.1 71 = .ok (.ireturn, 1) := by decide +kernel
theorem d_Mo_hazard_72 : decode m_Mo_hazard.2.1 72 = .ok (.iconst (-1), 1) := by decide +kernel
theorem d_Mo_hazard_73 : decode m_Mo_hazard.2.1 73 = .ok (.ireturn, 1) := by decide +kernel
theorem d_Mo_again_0 : decode m_Mo_again.2.1 0 = .ok (.aload_n 0, 1) := by decide +kernel
theorem d_Mo_again_1 : decode m_Mo_again.2.1 1 = .ok (.iconst 0, 1) := by decide +kernel
theorem d_Mo_again_2 : decode m_Mo_again.2.1 2 = .ok (.putfield 89, 3) := by decide +kernel
theorem d_Mo_again_5 : decode m_Mo_again.2.1 5 = .ok (.aload_n 0, 1) := by decide +kernel
theorem d_Mo_again_6 : decode m_Mo_again.2.1 6 = .ok (.getfield 254, 3) := by decide +kernel
theorem d_Mo_again_9 : decode m_Mo_again.2.1 9 = .ok (.ireturn, 1) := by decide +kernel
theorem d_Mo_traces_0 : decode m_Mo_traces.2.1 0 = .ok (.aload_n 0, 1) := by decide +kernel
theorem d_Mo_traces_1 : decode m_Mo_traces.2.1 1 = .ok (.iconst 0, 1) := by decide +kernel
theorem d_Mo_traces_2 : decode m_Mo_traces.2.1 2 = .ok (.putfield 89, 3) := by decide +kernel
theorem d_Mo_traces_5 : decode m_Mo_traces.2.1 5 = .ok (.aload_n 0, 1) := by decide +kernel
theorem d_Mo_traces_6 : decode m_Mo_traces.2.1 6 = .ok (.getfield 176, 3) := by decide +kernel
theorem d_Mo_traces_9 : decode m_Mo_traces.2.1 9 = .ok (.ireturn, 1) := by decide +kernel
theorem d_Mo_trace_0 : decode m_Mo_trace.2.1 0 = .ok (.aload_n 0, 1) := by decide +kernel
theorem d_Mo_trace_1 : decode m_Mo_trace.2.1 1 = .ok (.iconst 0, 1) := by decide +kernel
theorem d_Mo_trace_2 : decode m_Mo_trace.2.1 2 = .ok (.putfield 89, 3) := by decide +kernel
theorem d_Mo_trace_5 : decode m_Mo_trace.2.1 5 = .ok (.iload_n 1, 1) := by decide +kernel
theorem d_Mo_trace_6 : decode m_Mo_trace.2.1 6 = .ok (.ifCond .lt 11, 3) := by decide +kernel
theorem d_Mo_trace_9 : decode m_Mo_trace.2.1 9 = .ok (.iload_n 1, 1) := by decide +kernel
theorem d_Mo_trace_10 : decode m_Mo_trace.2.1 10 = .ok (.aload_n 0, 1) := by decide +kernel
theorem d_Mo_trace_11 : decode m_Mo_trace.2.1 11 = .ok (.getfield 176, 3) := by decide +kernel
theorem d_Mo_trace_14 : decode m_Mo_trace.2.1 14 = .ok (.if_icmp .lt 9, 3) := by decide +kernel
theorem d_Mo_trace_17 : decode m_Mo_trace.2.1 17 = .ok (.aload_n 0, 1) := by decide +kernel
theorem d_Mo_trace_18 : decode m_Mo_trace.2.1 18 = .ok (.iconst 1, 1) := by decide +kernel
theorem d_Mo_trace_19 : decode m_Mo_trace.2.1 19 = .ok (.invokevirtual 122, 3) := by decide +kernel
theorem d_Mo_trace_22 : decode m_Mo_trace.2.1 22 = .ok (.ireturn, 1) := by decide +kernel
theorem d_Mo_trace_23 : decode m_Mo_trace.2.1 23 = .ok (.iload_n 2, 1) := by decide +kernel
theorem d_Mo_trace_24 : decode m_Mo_trace.2.1 24 = .ok (.tableswitch 84 0 4 #[36, 43, 50, 57, 64], 36) := by decide +kernel
theorem d_Mo_trace_60 : decode m_Mo_trace.2.1 60 = .ok (.aload_n 0, 1) := by decide +kernel
theorem d_Mo_trace_61 : decode m_Mo_trace.2.1 61 = .ok (.getfield 31, 3) := by decide +kernel
theorem d_Mo_trace_64 : decode m_Mo_trace.2.1 64 = .ok (.iload_n 1, 1) := by decide +kernel
theorem d_Mo_trace_65 : decode m_Mo_trace.2.1 65 = .ok (.iaload, 1) := by decide +kernel
theorem d_Mo_trace_66 : decode m_Mo_trace.2.1 66 = .ok (.ireturn, 1) := by decide +kernel
theorem d_Mo_trace_67 : decode m_Mo_trace.2.1 67 = .ok (.aload_n 0, 1) := by decide +kernel
theorem d_Mo_trace_68 : decode m_Mo_trace.2.1 68 = .ok (.getfield 37, 3) := by decide +kernel
theorem d_Mo_trace_71 : decode m_Mo_trace.2.1 71 = .ok (.iload_n 1, 1) := by decide +kernel
theorem d_Mo_trace_72 : decode m_Mo_trace.2.1 72 = .ok (.iaload, 1) := by decide +kernel
theorem d_Mo_trace_73 : decode m_Mo_trace.2.1 73 = .ok (.ireturn, 1) := by decide +kernel
theorem d_Mo_trace_74 : decode m_Mo_trace.2.1 74 = .ok (.aload_n 0, 1) := by decide +kernel
theorem d_Mo_trace_75 : decode m_Mo_trace.2.1 75 = .ok (.getfield 40, 3) := by decide +kernel
theorem d_Mo_trace_78 : decode m_Mo_trace.2.1 78 = .ok (.iload_n 1, 1) := by decide +kernel
theorem d_Mo_trace_79 : decode m_Mo_trace.2.1 79 = .ok (.iaload, 1) := by decide +kernel
theorem d_Mo_trace_80 : decode m_Mo_trace.2.1 80 = .ok (.ireturn, 1) := by decide +kernel
theorem d_Mo_trace_81 : decode m_Mo_trace.2.1 81 = .ok (.aload_n 0, 1) := by decide +kernel
theorem d_Mo_trace_82 : decode m_Mo_trace.2.1 82 = .ok (.getfield 52, 3) := by decide +kernel
theorem d_Mo_trace_85 : decode m_Mo_trace.2.1 85 = .ok (.iload_n 1, 1) := by decide +kernel
theorem d_Mo_trace_86 : decode m_Mo_trace.2.1 86 = .ok (.iaload, 1) := by decide +kernel
theorem d_Mo_trace_87 : decode m_Mo_trace.2.1 87 = .ok (.ireturn, 1) := by decide +kernel
theorem d_Mo_trace_88 : decode m_Mo_trace.2.1 88 = .ok (.aload_n 0, 1) := by decide +kernel
theorem d_Mo_trace_89 : decode m_Mo_trace.2.1 89 = .ok (.getfield 52, 3) := by decide +kernel
theorem d_Mo_trace_92 : decode m_Mo_trace.2.1 92 = .ok (.iload_n 1, 1) := by decide +kernel
theorem d_Mo_trace_93 : decode m_Mo_trace.2.1 93 = .ok (.iaload, 1) := by decide +kernel
theorem d_Mo_trace_94 : decode m_Mo_trace.2.1 94 = .ok (.ifCond .ge 7, 3) := by decide +kernel
theorem d_Mo_trace_97 : decode m_Mo_trace.2.1 97 = .ok (.iconst (-1), 1) := by decide +kernel
theorem d_Mo_trace_98 : decode m_Mo_trace.2.1 98 = .ok (.goto 9, 3) := by decide +kernel
theorem d_Mo_trace_101 : decode m_Mo_trace.2.1 101 = .ok (.aload_n 0, 1) := by decide +kernel
theorem d_Mo_trace_102 : decode m_Mo_trace.2.1 102 = .ok (.getfield 55, 3) := by decide +kernel
theorem d_Mo_trace_105 : decode m_Mo_trace.2.1 105 = .ok (.iload_n 1, 1) := by decide +kernel
theorem d_Mo_trace_106 : decode m_Mo_trace.2.1 106 = .ok (.iaload, 1) := by decide +kernel
theorem d_Mo_trace_107 : decode m_Mo_trace.2.1 107 = .ok (.ireturn, 1) := by decide +kernel
theorem d_Mo_trace_108 : decode m_Mo_trace.2.1 108 = .ok (.iconst (-1), 1) := by decide +kernel
theorem d_Mo_trace_109 : decode m_Mo_trace.2.1 109 = .ok (.ireturn, 1) := by decide +kernel
theorem d_Mo_tear_0 : decode m_Mo_tear.2.1 0 = .ok (.aload_n 0, 1) := by decide +kernel
theorem d_Mo_tear_1 : decode m_Mo_tear.2.1 1 = .ok (.iconst 0, 1) := by decide +kernel
theorem d_Mo_tear_2 : decode m_Mo_tear.2.1 2 = .ok (.putfield 89, 3) := by decide +kernel
theorem d_Mo_tear_5 : decode m_Mo_tear.2.1 5 = .ok (.iload_n 1, 1) := by decide +kernel
theorem d_Mo_tear_6 : decode m_Mo_tear.2.1 6 = .ok (.ifCond .lt 11, 3) := by decide +kernel
theorem d_Mo_tear_9 : decode m_Mo_tear.2.1 9 = .ok (.iload_n 1, 1) := by decide +kernel
theorem d_Mo_tear_10 : decode m_Mo_tear.2.1 10 = .ok (.aload_n 0, 1) := by decide +kernel
theorem d_Mo_tear_11 : decode m_Mo_tear.2.1 11 = .ok (.getfield 176, 3) := by decide +kernel
theorem d_Mo_tear_14 : decode m_Mo_tear.2.1 14 = .ok (.if_icmp .lt 5, 3) := by decide +kernel
theorem d_Mo_tear_17 : decode m_Mo_tear.2.1 17 = .ok (.iconst 0, 1) := by decide +kernel
theorem d_Mo_tear_18 : decode m_Mo_tear.2.1 18 = .ok (.ireturn, 1) := by decide +kernel
theorem d_Mo_tear_19 : decode m_Mo_tear.2.1 19 = .ok (.aload_n 0, 1) := by decide +kernel
theorem d_Mo_tear_20 : decode m_Mo_tear.2.1 20 = .ok (.iload_n 1, 1) := by decide +kernel
theorem d_Mo_tear_21 : decode m_Mo_tear.2.1 21 = .ok (.putfield 176, 3) := by decide +kernel
theorem d_Mo_tear_24 : decode m_Mo_tear.2.1 24 = .ok (.iconst 1, 1) := by decide +kernel
theorem d_Mo_tear_25 : decode m_Mo_tear.2.1 25 = .ok (.ireturn, 1) := by decide +kernel
theorem d_Mo_compact_0 : decode m_Mo_compact.2.1 0 = .ok (.aload_n 0, 1) := by decide +kernel
theorem d_Mo_compact_1 : decode m_Mo_compact.2.1 1 = .ok (.iconst 0, 1) := by decide +kernel
theorem d_Mo_compact_2 : decode m_Mo_compact.2.1 2 = .ok (.putfield 89, 3) := by decide +kernel
theorem d_Mo_compact_5 : decode m_Mo_compact.2.1 5 = .ok (.iconst 0, 1) := by decide +kernel
theorem d_Mo_compact_6 : decode m_Mo_compact.2.1 6 = .ok (.istore_n 1, 1) := by decide +kernel
theorem d_Mo_compact_7 : decode m_Mo_compact.2.1 7 = .ok (.aload_n 0, 1) := by decide +kernel
theorem d_Mo_compact_8 : decode m_Mo_compact.2.1 8 = .ok (.getfield 176, 3) := by decide +kernel
theorem d_Mo_compact_11 : decode m_Mo_compact.2.1 11 = .ok (.istore_n 2, 1) := by decide +kernel
theorem d_Mo_compact_12 : decode m_Mo_compact.2.1 12 = .ok (.iconst 0, 1) := by decide +kernel
theorem d_Mo_compact_13 : decode m_Mo_compact.2.1 13 = .ok (.istore_n 3, 1) := by decide +kernel
theorem d_Mo_compact_14 : decode m_Mo_compact.2.1 14 = .ok (.iload_n 3, 1) := by decide +kernel
theorem d_Mo_compact_15 : decode m_Mo_compact.2.1 15 = .ok (.iload_n 2, 1) := by decide +kernel
theorem d_Mo_compact_16 : decode m_Mo_compact.2.1 16 = .ok (.if_icmp .ge 68, 3) := by decide +kernel
theorem d_Mo_compact_19 : decode m_Mo_compact.2.1 19 = .ok (.iconst 0, 1) := by decide +kernel
theorem d_Mo_compact_20 : decode m_Mo_compact.2.1 20 = .ok (.istore 4, 2) := by decide +kernel
theorem d_Mo_compact_22 : decode m_Mo_compact.2.1 22 = .ok (.iload_n 3, 1) := by decide +kernel
theorem d_Mo_compact_23 : decode m_Mo_compact.2.1 23 = .ok (.iconst 1, 1) := by decide +kernel
theorem d_Mo_compact_24 : decode m_Mo_compact.2.1 24 = .ok (.iadd, 1) := by decide +kernel
theorem d_Mo_compact_25 : decode m_Mo_compact.2.1 25 = .ok (.istore 5, 2) := by decide +kernel
theorem d_Mo_compact_27 : decode m_Mo_compact.2.1 27 = .ok (.iload 5, 2) := by decide +kernel
theorem d_Mo_compact_29 : decode m_Mo_compact.2.1 29 = .ok (.iload_n 2, 1) := by decide +kernel
theorem d_Mo_compact_30 : decode m_Mo_compact.2.1 30 = .ok (.if_icmp .ge 31, 3) := by decide +kernel
theorem d_Mo_compact_33 : decode m_Mo_compact.2.1 33 = .ok (.iload 4, 2) := by decide +kernel
theorem d_Mo_compact_35 : decode m_Mo_compact.2.1 35 = .ok (.ifCond .ne 13, 3) := by decide +kernel
theorem d_Mo_compact_38 : decode m_Mo_compact.2.1 38 = .ok (.aload_n 0, 1) := by decide +kernel
theorem d_Mo_compact_39 : decode m_Mo_compact.2.1 39 = .ok (.iload_n 3, 1) := by decide +kernel
theorem d_Mo_compact_40 : decode m_Mo_compact.2.1 40 = .ok (.iload 5, 2) := by decide +kernel
theorem d_Mo_compact_42 : decode m_Mo_compact.2.1 42 = .ok (.invokevirtual 260, 3) := by decide +kernel
theorem d_Mo_compact_45 : decode m_Mo_compact.2.1 45 = .ok (.ifCond .eq 7, 3) := by decide +kernel
theorem d_Mo_compact_48 : decode m_Mo_compact.2.1 48 = .ok (.iconst 1, 1) := by decide +kernel
theorem d_Mo_compact_49 : decode m_Mo_compact.2.1 49 = .ok (.goto 4, 3) := by decide +kernel
theorem d_Mo_compact_52 : decode m_Mo_compact.2.1 52 = .ok (.iconst 0, 1) := by decide +kernel
theorem d_Mo_compact_53 : decode m_Mo_compact.2.1 53 = .ok (.istore 4, 2) := by decide +kernel
theorem d_Mo_compact_55 : decode m_Mo_compact.2.1 55 = .ok (.iinc 5 1, 3) := by decide +kernel
theorem d_Mo_compact_58 : decode m_Mo_compact.2.1 58 = .ok (.goto (-31), 3) := by decide +kernel
theorem d_Mo_compact_61 : decode m_Mo_compact.2.1 61 = .ok (.iload 4, 2) := by decide +kernel
theorem d_Mo_compact_63 : decode m_Mo_compact.2.1 63 = .ok (.ifCond .eq 6, 3) := by decide +kernel
theorem d_Mo_compact_66 : decode m_Mo_compact.2.1 66 = .ok (.goto 12, 3) := by decide +kernel
theorem d_Mo_compact_69 : decode m_Mo_compact.2.1 69 = .ok (.aload_n 0, 1) := by decide +kernel
theorem d_Mo_compact_70 : decode m_Mo_compact.2.1 70 = .ok (.iload_n 3, 1) := by decide +kernel
theorem d_Mo_compact_71 : decode m_Mo_compact.2.1 71 = .ok (.iload_n 1, 1) := by decide +kernel
theorem d_Mo_compact_72 : decode m_Mo_compact.2.1 72 = .ok (.invokevirtual 188, 3) := by decide +kernel
theorem d_Mo_compact_75 : decode m_Mo_compact.2.1 75 = .ok (.iinc 1 1, 3) := by decide +kernel
theorem d_Mo_compact_78 : decode m_Mo_compact.2.1 78 = .ok (.iinc 3 1, 3) := by decide +kernel
theorem d_Mo_compact_81 : decode m_Mo_compact.2.1 81 = .ok (.goto (-67), 3) := by decide +kernel
theorem d_Mo_compact_84 : decode m_Mo_compact.2.1 84 = .ok (.aload_n 0, 1) := by decide +kernel
theorem d_Mo_compact_85 : decode m_Mo_compact.2.1 85 = .ok (.iload_n 1, 1) := by decide +kernel
theorem d_Mo_compact_86 : decode m_Mo_compact.2.1 86 = .ok (.putfield 176, 3) := by decide +kernel
theorem d_Mo_compact_89 : decode m_Mo_compact.2.1 89 = .ok (.iload_n 2, 1) := by decide +kernel
theorem d_Mo_compact_90 : decode m_Mo_compact.2.1 90 = .ok (.iload_n 1, 1) := by decide +kernel
theorem d_Mo_compact_91 : decode m_Mo_compact.2.1 91 = .ok (.isub, 1) := by decide +kernel
theorem d_Mo_compact_92 : decode m_Mo_compact.2.1 92 = .ok (.ireturn, 1) := by decide +kernel
theorem d_Mo_sameText_0 : decode m_Mo_sameText.2.1 0 = .ok (.aload_n 0, 1) := by decide +kernel
theorem d_Mo_sameText_1 : decode m_Mo_sameText.2.1 1 = .ok (.getfield 31, 3) := by decide +kernel
theorem d_Mo_sameText_4 : decode m_Mo_sameText.2.1 4 = .ok (.iload_n 1, 1) := by decide +kernel
theorem d_Mo_sameText_5 : decode m_Mo_sameText.2.1 5 = .ok (.iaload, 1) := by decide +kernel
theorem d_Mo_sameText_6 : decode m_Mo_sameText.2.1 6 = .ok (.aload_n 0, 1) := by decide +kernel
theorem d_Mo_sameText_7 : decode m_Mo_sameText.2.1 7 = .ok (.getfield 31, 3) := by decide +kernel
theorem d_Mo_sameText_10 : decode m_Mo_sameText.2.1 10 = .ok (.iload_n 2, 1) := by decide +kernel
theorem d_Mo_sameText_11 : decode m_Mo_sameText.2.1 11 = .ok (.iaload, 1) := by decide +kernel
theorem d_Mo_sameText_12 : decode m_Mo_sameText.2.1 12 = .ok (.if_icmp .ne 7, 3) := by decide +kernel
theorem d_Mo_sameText_15 : decode m_Mo_sameText.2.1 15 = .ok (.iconst 1, 1) := by decide +kernel
theorem d_Mo_sameText_16 : decode m_Mo_sameText.2.1 16 = .ok (.goto 4, 3) := by decide +kernel
theorem d_Mo_sameText_19 : decode m_Mo_sameText.2.1 19 = .ok (.iconst 0, 1) := by decide +kernel
theorem d_Mo_sameText_20 : decode m_Mo_sameText.2.1 20 = .ok (.istore_n 3, 1) := by decide +kernel
theorem d_Mo_sameText_21 : decode m_Mo_sameText.2.1 21 = .ok (.iconst 0, 1) := by decide +kernel
theorem d_Mo_sameText_22 : decode m_Mo_sameText.2.1 22 = .ok (.istore 4, 2) := by decide +kernel
theorem d_Mo_sameText_24 : decode m_Mo_sameText.2.1 24 = .ok (.iload 4, 2) := by decide +kernel
theorem d_Mo_sameText_26 : decode m_Mo_sameText.2.1 26 = .ok (.aload_n 0, 1) := by decide +kernel
theorem d_Mo_sameText_27 : decode m_Mo_sameText.2.1 27 = .ok (.getfield 31, 3) := by decide +kernel
theorem d_Mo_sameText_30 : decode m_Mo_sameText.2.1 30 = .ok (.iload_n 1, 1) := by decide +kernel
theorem d_Mo_sameText_31 : decode m_Mo_sameText.2.1 31 = .ok (.iaload, 1) := by decide +kernel
theorem d_Mo_sameText_32 : decode m_Mo_sameText.2.1 32 = .ok (.if_icmp .ge 46, 3) := by decide +kernel
theorem d_Mo_sameText_35 : decode m_Mo_sameText.2.1 35 = .ok (.iload_n 3, 1) := by decide +kernel
theorem d_Mo_sameText_36 : decode m_Mo_sameText.2.1 36 = .ok (.ifCond .eq 42, 3) := by decide +kernel
theorem d_Mo_sameText_39 : decode m_Mo_sameText.2.1 39 = .ok (.aload_n 0, 1) := by decide +kernel
theorem d_Mo_sameText_40 : decode m_Mo_sameText.2.1 40 = .ok (.getfield 34, 3) := by decide +kernel
theorem d_Mo_sameText_43 : decode m_Mo_sameText.2.1 43 = .ok (.bipush 12, 2) := by decide +kernel
theorem d_Mo_sameText_45 : decode m_Mo_sameText.2.1 45 = .ok (.iload_n 1, 1) := by decide +kernel
theorem d_Mo_sameText_46 : decode m_Mo_sameText.2.1 46 = .ok (.imul, 1) := by decide +kernel
theorem d_Mo_sameText_47 : decode m_Mo_sameText.2.1 47 = .ok (.iload 4, 2) := by decide +kernel
theorem d_Mo_sameText_49 : decode m_Mo_sameText.2.1 49 = .ok (.iadd, 1) := by decide +kernel
theorem d_Mo_sameText_50 : decode m_Mo_sameText.2.1 50 = .ok (.iaload, 1) := by decide +kernel
theorem d_Mo_sameText_51 : decode m_Mo_sameText.2.1 51 = .ok (.aload_n 0, 1) := by decide +kernel
theorem d_Mo_sameText_52 : decode m_Mo_sameText.2.1 52 = .ok (.getfield 34, 3) := by decide +kernel
theorem d_Mo_sameText_55 : decode m_Mo_sameText.2.1 55 = .ok (.bipush 12, 2) := by decide +kernel
theorem d_Mo_sameText_57 : decode m_Mo_sameText.2.1 57 = .ok (.iload_n 2, 1) := by decide +kernel
theorem d_Mo_sameText_58 : decode m_Mo_sameText.2.1 58 = .ok (.imul, 1) := by decide +kernel
theorem d_Mo_sameText_59 : decode m_Mo_sameText.2.1 59 = .ok (.iload 4, 2) := by decide +kernel
theorem d_Mo_sameText_61 : decode m_Mo_sameText.2.1 61 = .ok (.iadd, 1) := by decide +kernel
theorem d_Mo_sameText_62 : decode m_Mo_sameText.2.1 62 = .ok (.iaload, 1) := by decide +kernel
theorem d_Mo_sameText_63 : decode m_Mo_sameText.2.1 63 = .ok (.if_icmp .ne 7, 3) := by decide +kernel
theorem d_Mo_sameText_66 : decode m_Mo_sameText.2.1 66 = .ok (.iconst 1, 1) := by decide +kernel
theorem d_Mo_sameText_67 : decode m_Mo_sameText.2.1 67 = .ok (.goto 4, 3) := by decide +kernel
theorem d_Mo_sameText_70 : decode m_Mo_sameText.2.1 70 = .ok (.iconst 0, 1) := by decide +kernel
theorem d_Mo_sameText_71 : decode m_Mo_sameText.2.1 71 = .ok (.istore_n 3, 1) := by decide +kernel
theorem d_Mo_sameText_72 : decode m_Mo_sameText.2.1 72 = .ok (.iinc 4 1, 3) := by decide +kernel
theorem d_Mo_sameText_75 : decode m_Mo_sameText.2.1 75 = .ok (.goto (-51), 3) := by decide +kernel
theorem d_Mo_sameText_78 : decode m_Mo_sameText.2.1 78 = .ok (.iload_n 3, 1) := by decide +kernel
theorem d_Mo_sameText_79 : decode m_Mo_sameText.2.1 79 = .ok (.ireturn, 1) := by decide +kernel
theorem d_Mo_size_0 : decode m_Mo_size.2.1 0 = .ok (.aload_n 0, 1) := by decide +kernel
theorem d_Mo_size_1 : decode m_Mo_size.2.1 1 = .ok (.iconst 0, 1) := by decide +kernel
theorem d_Mo_size_2 : decode m_Mo_size.2.1 2 = .ok (.putfield 89, 3) := by decide +kernel
theorem d_Mo_size_5 : decode m_Mo_size.2.1 5 = .ok (.iload_n 1, 1) := by decide +kernel
theorem d_Mo_size_6 : decode m_Mo_size.2.1 6 = .ok (.invokestatic 96, 3) := by decide +kernel
theorem d_Mo_size_9 : decode m_Mo_size.2.1 9 = .ok (.ifCond .eq 12, 3) := by decide +kernel
theorem d_Mo_size_12 : decode m_Mo_size.2.1 12 = .ok (.aload_n 0, 1) := by decide +kernel
theorem d_Mo_size_13 : decode m_Mo_size.2.1 13 = .ok (.getfield 7, 3) := by decide +kernel
theorem d_Mo_size_16 : decode m_Mo_size.2.1 16 = .ok (.iload_n 1, 1) := by decide +kernel
theorem d_Mo_size_17 : decode m_Mo_size.2.1 17 = .ok (.iaload, 1) := by decide +kernel
theorem d_Mo_size_18 : decode m_Mo_size.2.1 18 = .ok (.goto 4, 3) := by decide +kernel
theorem d_Mo_size_21 : decode m_Mo_size.2.1 21 = .ok (.iconst (-1), 1) := by decide +kernel
theorem d_Mo_size_22 : decode m_Mo_size.2.1 22 = .ok (.ireturn, 1) := by decide +kernel
theorem d_Mo_number_0 : decode m_Mo_number.2.1 0 = .ok (.aload_n 0, 1) := by decide +kernel
theorem d_Mo_number_1 : decode m_Mo_number.2.1 1 = .ok (.iconst 0, 1) := by decide +kernel
theorem d_Mo_number_2 : decode m_Mo_number.2.1 2 = .ok (.putfield 89, 3) := by decide +kernel
theorem d_Mo_number_5 : decode m_Mo_number.2.1 5 = .ok (.iload_n 1, 1) := by decide +kernel
theorem d_Mo_number_6 : decode m_Mo_number.2.1 6 = .ok (.invokestatic 96, 3) := by decide +kernel
theorem d_Mo_number_9 : decode m_Mo_number.2.1 9 = .ok (.ifCond .eq 17, 3) := by decide +kernel
theorem d_Mo_number_12 : decode m_Mo_number.2.1 12 = .ok (.iload_n 2, 1) := by decide +kernel
theorem d_Mo_number_13 : decode m_Mo_number.2.1 13 = .ok (.ifCond .lt 13, 3) := by decide +kernel
theorem d_Mo_number_16 : decode m_Mo_number.2.1 16 = .ok (.iload_n 2, 1) := by decide +kernel
theorem d_Mo_number_17 : decode m_Mo_number.2.1 17 = .ok (.aload_n 0, 1) := by decide +kernel
theorem d_Mo_number_18 : decode m_Mo_number.2.1 18 = .ok (.getfield 7, 3) := by decide +kernel
theorem d_Mo_number_21 : decode m_Mo_number.2.1 21 = .ok (.iload_n 1, 1) := by decide +kernel
theorem d_Mo_number_22 : decode m_Mo_number.2.1 22 = .ok (.iaload, 1) := by decide +kernel
theorem d_Mo_number_23 : decode m_Mo_number.2.1 23 = .ok (.if_icmp .lt 10, 3) := by decide +kernel
theorem d_Mo_number_26 : decode m_Mo_number.2.1 26 = .ok (.aload_n 0, 1) := by decide +kernel
theorem d_Mo_number_27 : decode m_Mo_number.2.1 27 = .ok (.iconst 1, 1) := by decide +kernel
theorem d_Mo_number_28 : decode m_Mo_number.2.1 28 = .ok (.invokevirtual 122, 3) := by decide +kernel
theorem d_Mo_number_31 : decode m_Mo_number.2.1 31 = .ok (.i2s, 1) := by decide +kernel
theorem d_Mo_number_32 : decode m_Mo_number.2.1 32 = .ok (.ireturn, 1) := by decide +kernel
theorem d_Mo_number_33 : decode m_Mo_number.2.1 33 = .ok (.aload_n 0, 1) := by decide +kernel
theorem d_Mo_number_34 : decode m_Mo_number.2.1 34 = .ok (.getfield 13, 3) := by decide +kernel
theorem d_Mo_number_37 : decode m_Mo_number.2.1 37 = .ok (.bipush 6, 2) := by decide +kernel
theorem d_Mo_number_39 : decode m_Mo_number.2.1 39 = .ok (.iload_n 1, 1) := by decide +kernel
theorem d_Mo_number_40 : decode m_Mo_number.2.1 40 = .ok (.imul, 1) := by decide +kernel
theorem d_Mo_number_41 : decode m_Mo_number.2.1 41 = .ok (.iload_n 2, 1) := by decide +kernel
theorem d_Mo_number_42 : decode m_Mo_number.2.1 42 = .ok (.iadd, 1) := by decide +kernel
theorem d_Mo_number_43 : decode m_Mo_number.2.1 43 = .ok (.iaload, 1) := by decide +kernel
theorem d_Mo_number_44 : decode m_Mo_number.2.1 44 = .ok (.i2s, 1) := by decide +kernel
theorem d_Mo_number_45 : decode m_Mo_number.2.1 45 = .ok (.ireturn, 1) := by decide +kernel
