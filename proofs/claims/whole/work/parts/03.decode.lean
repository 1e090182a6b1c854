theorem dX0_init_0 : decode cX0_init 0 = .ok (.aload_n 0, 1) := by decide +kernel
theorem dX0_init_1 : decode cX0_init 1 = .ok (.invokespecial 3, 3) := by decide +kernel
theorem dX0_init_4 : decode cX0_init 4 = .ok (.aload_n 0, 1) := by decide +kernel
theorem dX0_init_5 : decode cX0_init 5 = .ok (.bipush 40, 2) := by decide +kernel
theorem dX0_init_7 : decode cX0_init 7 = .ok (.newarray .int, 2) := by decide +kernel
theorem dX0_init_9 : decode cX0_init 9 = .ok (.putfield 9, 3) := by decide +kernel
theorem dX0_init_12 : decode cX0_init 12 = .ok (.aload_n 0, 1) := by decide +kernel
theorem dX0_init_13 : decode cX0_init 13 = .ok (.bipush 40, 2) := by decide +kernel
theorem dX0_init_15 : decode cX0_init 15 = .ok (.newarray .int, 2) := by decide +kernel
theorem dX0_init_17 : decode cX0_init 17 = .ok (.putfield 15, 3) := by decide +kernel
theorem dX0_init_20 : decode cX0_init 20 = .ok (.return_, 1) := by decide +kernel
theorem dX0_runs_0 : decode cX0_runs 0 = .ok (.aload_n 0, 1) := by decide +kernel
theorem dX0_runs_1 : decode cX0_runs 1 = .ok (.getfield 18, 3) := by decide +kernel
theorem dX0_runs_4 : decode cX0_runs 4 = .ok (.ireturn, 1) := by decide +kernel
theorem dX0_rows_0 : decode cX0_rows 0 = .ok (.aload_n 0, 1) := by decide +kernel
theorem dX0_rows_1 : decode cX0_rows 1 = .ok (.getfield 22, 3) := by decide +kernel
theorem dX0_rows_4 : decode cX0_rows 4 = .ok (.ireturn, 1) := by decide +kernel
theorem dX0_isOverfull_0 : decode cX0_isOverfull 0 = .ok (.aload_n 0, 1) := by decide +kernel
theorem dX0_isOverfull_1 : decode cX0_isOverfull 1 = .ok (.getfield 25, 3) := by decide +kernel
theorem dX0_isOverfull_4 : decode cX0_isOverfull 4 = .ok (.ireturn, 1) := by decide +kernel
theorem dX0_valueOfRun_0 : decode cX0_valueOfRun 0 = .ok (.iload_n 1, 1) := by decide +kernel
theorem dX0_valueOfRun_1 : decode cX0_valueOfRun 1 = .ok (.ifCond .lt 20, 3) := by decide +kernel
theorem dX0_valueOfRun_4 : decode cX0_valueOfRun 4 = .ok (.iload_n 1, 1) := by decide +kernel
theorem dX0_valueOfRun_5 : decode cX0_valueOfRun 5 = .ok (.aload_n 0, 1) := by decide +kernel
theorem dX0_valueOfRun_6 : decode cX0_valueOfRun 6 = .ok (.getfield 18, 3) := by decide +kernel
theorem dX0_valueOfRun_9 : decode cX0_valueOfRun 9 = .ok (.if_icmp .ge 12, 3) := by decide +kernel
theorem dX0_valueOfRun_12 : decode cX0_valueOfRun 12 = .ok (.aload_n 0, 1) := by decide +kernel
theorem dX0_valueOfRun_13 : decode cX0_valueOfRun 13 = .ok (.getfield 9, 3) := by decide +kernel
theorem dX0_valueOfRun_16 : decode cX0_valueOfRun 16 = .ok (.iload_n 1, 1) := by decide +kernel
theorem dX0_valueOfRun_17 : decode cX0_valueOfRun 17 = .ok (.iaload, 1) := by decide +kernel
theorem dX0_valueOfRun_18 : decode cX0_valueOfRun 18 = .ok (.goto 5, 3) := by decide +kernel
theorem dX0_valueOfRun_21 : decode cX0_valueOfRun 21 = .ok (.bipush (-6), 2) := by decide +kernel
theorem dX0_valueOfRun_23 : decode cX0_valueOfRun 23 = .ok (.ireturn, 1) := by decide +kernel
theorem dX0_lengthOfRun_0 : decode cX0_lengthOfRun 0 = .ok (.iload_n 1, 1) := by decide +kernel
theorem dX0_lengthOfRun_1 : decode cX0_lengthOfRun 1 = .ok (.ifCond .lt 20, 3) := by decide +kernel
theorem dX0_lengthOfRun_4 : decode cX0_lengthOfRun 4 = .ok (.iload_n 1, 1) := by decide +kernel
theorem dX0_lengthOfRun_5 : decode cX0_lengthOfRun 5 = .ok (.aload_n 0, 1) := by decide +kernel
theorem dX0_lengthOfRun_6 : decode cX0_lengthOfRun 6 = .ok (.getfield 18, 3) := by decide +kernel
theorem dX0_lengthOfRun_9 : decode cX0_lengthOfRun 9 = .ok (.if_icmp .ge 12, 3) := by decide +kernel
theorem dX0_lengthOfRun_12 : decode cX0_lengthOfRun 12 = .ok (.aload_n 0, 1) := by decide +kernel
theorem dX0_lengthOfRun_13 : decode cX0_lengthOfRun 13 = .ok (.getfield 15, 3) := by decide +kernel
theorem dX0_lengthOfRun_16 : decode cX0_lengthOfRun 16 = .ok (.iload_n 1, 1) := by decide +kernel
theorem dX0_lengthOfRun_17 : decode cX0_lengthOfRun 17 = .ok (.iaload, 1) := by decide +kernel
theorem dX0_lengthOfRun_18 : decode cX0_lengthOfRun 18 = .ok (.goto 4, 3) := by decide +kernel
theorem dX0_lengthOfRun_21 : decode cX0_lengthOfRun 21 = .ok (.iconst 0, 1) := by decide +kernel
theorem dX0_lengthOfRun_22 : decode cX0_lengthOfRun 22 = .ok (.ireturn, 1) := by decide +kernel
theorem dX0_firstRowOfRun_0 : decode cX0_firstRowOfRun 0 = .ok (.iconst 0, 1) := by decide +kernel
theorem dX0_firstRowOfRun_1 : decode cX0_firstRowOfRun 1 = .ok (.istore_n 2, 1) := by decide +kernel
theorem dX0_firstRowOfRun_2 : decode cX0_firstRowOfRun 2 = .ok (.iconst 0, 1) := by decide +kernel
theorem dX0_firstRowOfRun_3 : decode cX0_firstRowOfRun 3 = .ok (.istore_n 3, 1) := by decide +kernel
theorem dX0_firstRowOfRun_4 : decode cX0_firstRowOfRun 4 = .ok (.iload_n 3, 1) := by decide +kernel
theorem dX0_firstRowOfRun_5 : decode cX0_firstRowOfRun 5 = .ok (.iload_n 1, 1) := by decide +kernel
theorem dX0_firstRowOfRun_6 : decode cX0_firstRowOfRun 6 = .ok (.if_icmp .ge 26, 3) := by decide +kernel
theorem dX0_firstRowOfRun_9 : decode cX0_firstRowOfRun 9 = .ok (.iload_n 3, 1) := by decide +kernel
theorem dX0_firstRowOfRun_10 : decode cX0_firstRowOfRun 10 = .ok (.aload_n 0, 1) := by decide +kernel
theorem dX0_firstRowOfRun_11 : decode cX0_firstRowOfRun 11 = .ok (.getfield 18, 3) := by decide +kernel
theorem dX0_firstRowOfRun_14 : decode cX0_firstRowOfRun 14 = .ok (.if_icmp .ge 18, 3) := by decide +kernel
theorem dX0_firstRowOfRun_17 : decode cX0_firstRowOfRun 17 = .ok (.iload_n 2, 1) := by decide +kernel
theorem dX0_firstRowOfRun_18 : decode cX0_firstRowOfRun 18 = .ok (.aload_n 0, 1) := by decide +kernel
theorem dX0_firstRowOfRun_19 : decode cX0_firstRowOfRun 19 = .ok (.getfield 15, 3) := by decide +kernel
theorem dX0_firstRowOfRun_22 : decode cX0_firstRowOfRun 22 = .ok (.iload_n 3, 1) := by decide +kernel
theorem dX0_firstRowOfRun_23 : decode cX0_firstRowOfRun 23 = .ok (.iaload, 1) := by decide +kernel
theorem dX0_firstRowOfRun_24 : decode cX0_firstRowOfRun 24 = .ok (.iadd, 1) := by decide +kernel
theorem dX0_firstRowOfRun_25 : decode cX0_firstRowOfRun 25 = .ok (.istore_n 2, 1) := by decide +kernel
theorem dX0_firstRowOfRun_26 : decode cX0_firstRowOfRun 26 = .ok (.iinc 3 1, 3) := by decide +kernel
theorem dX0_firstRowOfRun_29 : decode cX0_firstRowOfRun 29 = .ok (.goto (-25), 3) := by decide +kernel
theorem dX0_firstRowOfRun_32 : decode cX0_firstRowOfRun 32 = .ok (.iload_n 2, 1) := by decide +kernel
theorem dX0_firstRowOfRun_33 : decode cX0_firstRowOfRun 33 = .ok (.ireturn, 1) := by decide +kernel
theorem dX0_runOfRow_0 : decode cX0_runOfRow 0 = .ok (.iconst 0, 1) := by decide +kernel
theorem dX0_runOfRow_1 : decode cX0_runOfRow 1 = .ok (.istore_n 2, 1) := by decide +kernel
theorem dX0_runOfRow_2 : decode cX0_runOfRow 2 = .ok (.iconst 0, 1) := by decide +kernel
theorem dX0_runOfRow_3 : decode cX0_runOfRow 3 = .ok (.istore_n 3, 1) := by decide +kernel
theorem dX0_runOfRow_4 : decode cX0_runOfRow 4 = .ok (.iload_n 3, 1) := by decide +kernel
theorem dX0_runOfRow_5 : decode cX0_runOfRow 5 = .ok (.aload_n 0, 1) := by decide +kernel
theorem dX0_runOfRow_6 : decode cX0_runOfRow 6 = .ok (.getfield 18, 3) := by decide +kernel
theorem dX0_runOfRow_9 : decode cX0_runOfRow 9 = .ok (.if_icmp .ge 25, 3) := by decide +kernel
theorem dX0_runOfRow_12 : decode cX0_runOfRow 12 = .ok (.iload_n 2, 1) := by decide +kernel
theorem dX0_runOfRow_13 : decode cX0_runOfRow 13 = .ok (.aload_n 0, 1) := by decide +kernel
theorem dX0_runOfRow_14 : decode cX0_runOfRow 14 = .ok (.getfield 15, 3) := by decide +kernel
theorem dX0_runOfRow_17 : decode cX0_runOfRow 17 = .ok (.iload_n 3, 1) := by decide +kernel
theorem dX0_runOfRow_18 : decode cX0_runOfRow 18 = .ok (.iaload, 1) := by decide +kernel
theorem dX0_runOfRow_19 : decode cX0_runOfRow 19 = .ok (.iadd, 1) := by decide +kernel
theorem dX0_runOfRow_20 : decode cX0_runOfRow 20 = .ok (.istore_n 2, 1) := by decide +kernel
theorem dX0_runOfRow_21 : decode cX0_runOfRow 21 = .ok (.iload_n 1, 1) := by decide +kernel
theorem dX0_runOfRow_22 : decode cX0_runOfRow 22 = .ok (.iload_n 2, 1) := by decide +kernel
theorem dX0_runOfRow_23 : decode cX0_runOfRow 23 = .ok (.if_icmp .ge 5, 3) := by decide +kernel
theorem dX0_runOfRow_26 : decode cX0_runOfRow 26 = .ok (.iload_n 3, 1) := by decide +kernel
theorem dX0_runOfRow_27 : decode cX0_runOfRow 27 = .ok (.ireturn, 1) := by decide +kernel
theorem dX0_runOfRow_28 : decode cX0_runOfRow 28 = .ok (.iinc 3 1, 3) := by decide +kernel
theorem dX0_runOfRow_31 : decode cX0_runOfRow 31 = .ok (.goto (-27), 3) := by decide +kernel
theorem dX0_runOfRow_34 : decode cX0_runOfRow 34 = .ok (.aload_n 0, 1) := by decide +kernel
theorem dX0_runOfRow_35 : decode cX0_runOfRow 35 = .ok (.getfield 18, 3) := by decide +kernel
theorem dX0_runOfRow_38 : decode cX0_runOfRow 38 = .ok (.ireturn, 1) := by decide +kernel
theorem dX0_valueOfRow_0 : decode cX0_valueOfRow 0 = .ok (.aload_n 0, 1) := by decide +kernel
theorem dX0_valueOfRow_1 : decode cX0_valueOfRow 1 = .ok (.aload_n 0, 1) := by decide +kernel
theorem dX0_valueOfRow_2 : decode cX0_valueOfRow 2 = .ok (.iload_n 1, 1) := by decide +kernel
theorem dX0_valueOfRow_3 : decode cX0_valueOfRow 3 = .ok (.invokevirtual 29, 3) := by decide +kernel
theorem dX0_valueOfRow_6 : decode cX0_valueOfRow 6 = .ok (.invokevirtual 33, 3) := by decide +kernel
theorem dX0_valueOfRow_9 : decode cX0_valueOfRow 9 = .ok (.ireturn, 1) := by decide +kernel
theorem dX0_rowOfRank_0 : decode cX0_rowOfRank 0 = .ok (.iconst 0, 1) := by decide +kernel
theorem dX0_rowOfRank_1 : decode cX0_rowOfRank 1 = .ok (.istore_n 3, 1) := by decide +kernel
theorem dX0_rowOfRank_2 : decode cX0_rowOfRank 2 = .ok (.iload_n 2, 1) := by decide +kernel
theorem dX0_rowOfRank_3 : decode cX0_rowOfRank 3 = .ok (.istore 4, 2) := by decide +kernel
theorem dX0_rowOfRank_5 : decode cX0_rowOfRank 5 = .ok (.iconst 0, 1) := by decide +kernel
theorem dX0_rowOfRank_6 : decode cX0_rowOfRank 6 = .ok (.istore 5, 2) := by decide +kernel
theorem dX0_rowOfRank_8 : decode cX0_rowOfRank 8 = .ok (.iload 5, 2) := by decide +kernel
theorem dX0_rowOfRank_10 : decode cX0_rowOfRank 10 = .ok (.aload_n 0, 1) := by decide +kernel
theorem dX0_rowOfRank_11 : decode cX0_rowOfRank 11 = .ok (.getfield 18, 3) := by decide +kernel
theorem dX0_rowOfRank_14 : decode cX0_rowOfRank 14 = .ok (.if_icmp .ge 59, 3) := by decide +kernel
theorem dX0_rowOfRank_17 : decode cX0_rowOfRank 17 = .ok (.aload_n 0, 1) := by decide +kernel
theorem dX0_rowOfRank_18 : decode cX0_rowOfRank 18 = .ok (.getfield 9, 3) := by decide +kernel
theorem dX0_rowOfRank_21 : decode cX0_rowOfRank 21 = .ok (.iload 5, 2) := by decide +kernel
theorem dX0_rowOfRank_23 : decode cX0_rowOfRank 23 = .ok (.iaload, 1) := by decide +kernel
theorem dX0_rowOfRank_24 : decode cX0_rowOfRank 24 = .ok (.iload_n 1, 1) := by decide +kernel
theorem dX0_rowOfRank_25 : decode cX0_rowOfRank 25 = .ok (.if_icmp .ne 32, 3) := by decide +kernel
theorem dX0_rowOfRank_28 : decode cX0_rowOfRank 28 = .ok (.iload 4, 2) := by decide +kernel
theorem dX0_rowOfRank_30 : decode cX0_rowOfRank 30 = .ok (.aload_n 0, 1) := by decide +kernel
theorem dX0_rowOfRank_31 : decode cX0_rowOfRank 31 = .ok (.getfield 15, 3) := by decide +kernel
theorem dX0_rowOfRank_34 : decode cX0_rowOfRank 34 = .ok (.iload 5, 2) := by decide +kernel
theorem dX0_rowOfRank_36 : decode cX0_rowOfRank 36 = .ok (.iaload, 1) := by decide +kernel
theorem dX0_rowOfRank_37 : decode cX0_rowOfRank 37 = .ok (.if_icmp .ge 8, 3) := by decide +kernel
theorem dX0_rowOfRank_40 : decode cX0_rowOfRank 40 = .ok (.iload_n 3, 1) := by decide +kernel
theorem dX0_rowOfRank_41 : decode cX0_rowOfRank 41 = .ok (.iload 4, 2) := by decide +kernel
theorem dX0_rowOfRank_43 : decode cX0_rowOfRank 43 = .ok (.iadd, 1) := by decide +kernel
theorem dX0_rowOfRank_44 : decode cX0_rowOfRank 44 = .ok (.ireturn, 1) := by decide +kernel
theorem dX0_rowOfRank_45 : decode cX0_rowOfRank 45 = .ok (.iload 4, 2) := by decide +kernel
theorem dX0_rowOfRank_47 : decode cX0_rowOfRank 47 = .ok (.aload_n 0, 1) := by decide +kernel
theorem dX0_rowOfRank_48 : decode cX0_rowOfRank 48 = .ok (.getfield 15, 3) := by decide +kernel
theorem dX0_rowOfRank_51 : decode cX0_rowOfRank 51 = .ok (.iload 5, 2) := by decide +kernel
theorem dX0_rowOfRank_53 : decode cX0_rowOfRank 53 = .ok (.iaload, 1) := by decide +kernel
theorem dX0_rowOfRank_54 : decode cX0_rowOfRank 54 = .ok (.isub, 1) := by decide +kernel
theorem dX0_rowOfRank_55 : decode cX0_rowOfRank 55 = .ok (.istore 4, 2) := by decide +kernel
theorem dX0_rowOfRank_57 : decode cX0_rowOfRank 57 = .ok (.iload_n 3, 1) := by decide +kernel
theorem dX0_rowOfRank_58 : decode cX0_rowOfRank 58 = .ok (.aload_n 0, 1) := by decide +kernel
theorem dX0_rowOfRank_59 : decode cX0_rowOfRank 59 = .ok (.getfield 15, 3) := by decide +kernel
theorem dX0_rowOfRank_62 : decode cX0_rowOfRank 62 = .ok (.iload 5, 2) := by decide +kernel
theorem dX0_rowOfRank_64 : decode cX0_rowOfRank 64 = .ok (.iaload, 1) := by decide +kernel
theorem dX0_rowOfRank_65 : decode cX0_rowOfRank 65 = .ok (.iadd, 1) := by decide +kernel
theorem dX0_rowOfRank_66 : decode cX0_rowOfRank 66 = .ok (.istore_n 3, 1) := by decide +kernel
theorem dX0_rowOfRank_67 : decode cX0_rowOfRank 67 = .ok (.iinc 5 1, 3) := by decide +kernel
theorem dX0_rowOfRank_70 : decode cX0_rowOfRank 70 = .ok (.goto (-62), 3) := by decide +kernel
theorem dX0_rowOfRank_73 : decode cX0_rowOfRank 73 = .ok (.bipush (-6), 2) := by decide +kernel
theorem dX0_rowOfRank_75 : decode cX0_rowOfRank 75 = .ok (.ireturn, 1) := by decide +kernel
theorem dX0_sum_0 : decode cX0_sum 0 = .ok (.iconst 0, 1) := by decide +kernel
theorem dX0_sum_1 : decode cX0_sum 1 = .ok (.istore_n 1, 1) := by decide +kernel
theorem dX0_sum_2 : decode cX0_sum 2 = .ok (.iconst 0, 1) := by decide +kernel
theorem dX0_sum_3 : decode cX0_sum 3 = .ok (.istore_n 2, 1) := by decide +kernel
theorem dX0_sum_4 : decode cX0_sum 4 = .ok (.iload_n 2, 1) := by decide +kernel
theorem dX0_sum_5 : decode cX0_sum 5 = .ok (.aload_n 0, 1) := by decide +kernel
theorem dX0_sum_6 : decode cX0_sum 6 = .ok (.getfield 18, 3) := by decide +kernel
theorem dX0_sum_9 : decode cX0_sum 9 = .ok (.if_icmp .ge 25, 3) := by decide +kernel
theorem dX0_sum_12 : decode cX0_sum 12 = .ok (.iload_n 1, 1) := by decide +kernel
theorem dX0_sum_13 : decode cX0_sum 13 = .ok (.aload_n 0, 1) := by decide +kernel
theorem dX0_sum_14 : decode cX0_sum 14 = .ok (.getfield 9, 3) := by decide +kernel
theorem dX0_sum_17 : decode cX0_sum 17 = .ok (.iload_n 2, 1) := by decide +kernel
theorem dX0_sum_18 : decode cX0_sum 18 = .ok (.iaload, 1) := by decide +kernel
theorem dX0_sum_19 : decode cX0_sum 19 = .ok (.aload_n 0, 1) := by decide +kernel
theorem dX0_sum_20 : decode cX0_sum 20 = .ok (.getfield 15, 3) := by decide +kernel
theorem dX0_sum_23 : decode cX0_sum 23 = .ok (.iload_n 2, 1) := by decide +kernel
theorem dX0_sum_24 : decode cX0_sum 24 = .ok (.iaload, 1) := by decide +kernel
theorem dX0_sum_25 : decode cX0_sum 25 = .ok (.imul, 1) := by decide +kernel
theorem dX0_sum_26 : decode cX0_sum 26 = .ok (.iadd, 1) := by decide +kernel
theorem dX0_sum_27 : decode cX0_sum 27 = .ok (.istore_n 1, 1) := by decide +kernel
theorem dX0_sum_28 : decode cX0_sum 28 = .ok (.iinc 2 1, 3) := by decide +kernel
theorem dX0_sum_31 : decode cX0_sum 31 = .ok (.goto (-27), 3) := by decide +kernel
theorem dX0_sum_34 : decode cX0_sum 34 = .ok (.iload_n 1, 1) := by decide +kernel
theorem dX0_sum_35 : decode cX0_sum 35 = .ok (.ireturn, 1) := by decide +kernel
theorem dX0_longest_0 : decode cX0_longest 0 = .ok (.iconst 0, 1) := by decide +kernel
theorem dX0_longest_1 : decode cX0_longest 1 = .ok (.istore_n 1, 1) := by decide +kernel
theorem dX0_longest_2 : decode cX0_longest 2 = .ok (.iconst 0, 1) := by decide +kernel
theorem dX0_longest_3 : decode cX0_longest 3 = .ok (.istore_n 2, 1) := by decide +kernel
theorem dX0_longest_4 : decode cX0_longest 4 = .ok (.iload_n 2, 1) := by decide +kernel
theorem dX0_longest_5 : decode cX0_longest 5 = .ok (.aload_n 0, 1) := by decide +kernel
theorem dX0_longest_6 : decode cX0_longest 6 = .ok (.getfield 18, 3) := by decide +kernel
theorem dX0_longest_9 : decode cX0_longest 9 = .ok (.if_icmp .ge 20, 3) := by decide +kernel
theorem dX0_longest_12 : decode cX0_longest 12 = .ok (.iload_n 1, 1) := by decide +kernel
theorem dX0_longest_13 : decode cX0_longest 13 = .ok (.aload_n 0, 1) := by decide +kernel
theorem dX0_longest_14 : decode cX0_longest 14 = .ok (.getfield 15, 3) := by decide +kernel
theorem dX0_longest_17 : decode cX0_longest 17 = .ok (.iload_n 2, 1) := by decide +kernel
theorem dX0_longest_18 : decode cX0_longest 18 = .ok (.iaload, 1) := by decide +kernel
theorem dX0_longest_19 : decode cX0_longest 19 = .ok (.invokestatic 36, 3) := by decide +kernel
theorem dX0_longest_22 : decode cX0_longest 22 = .ok (.istore_n 1, 1) := by decide +kernel
theorem dX0_longest_23 : decode cX0_longest 23 = .ok (.iinc 2 1, 3) := by decide +kernel
theorem dX0_longest_26 : decode cX0_longest 26 = .ok (.goto (-22), 3) := by decide +kernel
theorem dX0_longest_29 : decode cX0_longest 29 = .ok (.iload_n 1, 1) := by decide +kernel
theorem dX0_longest_30 : decode cX0_longest 30 = .ok (.ireturn, 1) := by decide +kernel
theorem dX0_valueSet_0 : decode cX0_valueSet 0 = .ok (.iconst 0, 1) := by decide +kernel
theorem dX0_valueSet_1 : decode cX0_valueSet 1 = .ok (.istore_n 1, 1) := by decide +kernel
theorem dX0_valueSet_2 : decode cX0_valueSet 2 = .ok (.iconst 0, 1) := by decide +kernel
theorem dX0_valueSet_3 : decode cX0_valueSet 3 = .ok (.istore_n 2, 1) := by decide +kernel
theorem dX0_valueSet_4 : decode cX0_valueSet 4 = .ok (.iload_n 2, 1) := by decide +kernel
theorem dX0_valueSet_5 : decode cX0_valueSet 5 = .ok (.aload_n 0, 1) := by decide +kernel
theorem dX0_valueSet_6 : decode cX0_valueSet 6 = .ok (.getfield 18, 3) := by decide +kernel
theorem dX0_valueSet_9 : decode cX0_valueSet 9 = .ok (.if_icmp .ge 20, 3) := by decide +kernel
theorem dX0_valueSet_12 : decode cX0_valueSet 12 = .ok (.iload_n 1, 1) := by decide +kernel
theorem dX0_valueSet_13 : decode cX0_valueSet 13 = .ok (.iconst 1, 1) := by decide +kernel
theorem dX0_valueSet_14 : decode cX0_valueSet 14 = .ok (.aload_n 0, 1) := by decide +kernel
theorem dX0_valueSet_15 : decode cX0_valueSet 15 = .ok (.getfield 9, 3) := by decide +kernel
theorem dX0_valueSet_18 : decode cX0_valueSet 18 = .ok (.iload_n 2, 1) := by decide +kernel
theorem dX0_valueSet_19 : decode cX0_valueSet 19 = .ok (.iaload, 1) := by decide +kernel
theorem dX0_valueSet_20 : decode cX0_valueSet 20 = .ok (.ishl, 1) := by decide +kernel
theorem dX0_valueSet_21 : decode cX0_valueSet 21 = .ok (.ior, 1) := by decide +kernel
theorem dX0_valueSet_22 : decode cX0_valueSet 22 = .ok (.istore_n 1, 1) := by decide +kernel
theorem dX0_valueSet_23 : decode cX0_valueSet 23 = .ok (.iinc 2 1, 3) := by decide +kernel
theorem dX0_valueSet_26 : decode cX0_valueSet 26 = .ok (.goto (-22), 3) := by decide +kernel
theorem dX0_valueSet_29 : decode cX0_valueSet 29 = .ok (.iload_n 1, 1) := by decide +kernel
theorem dX0_valueSet_30 : decode cX0_valueSet 30 = .ok (.ireturn, 1) := by decide +kernel
theorem dX0_neverFalls_0 : decode cX0_neverFalls 0 = .ok (.iconst 1, 1) := by decide +kernel
theorem dX0_neverFalls_1 : decode cX0_neverFalls 1 = .ok (.istore_n 1, 1) := by decide +kernel
theorem dX0_neverFalls_2 : decode cX0_neverFalls 2 = .ok (.iload_n 1, 1) := by decide +kernel
theorem dX0_neverFalls_3 : decode cX0_neverFalls 3 = .ok (.aload_n 0, 1) := by decide +kernel
theorem dX0_neverFalls_4 : decode cX0_neverFalls 4 = .ok (.getfield 18, 3) := by decide +kernel
theorem dX0_neverFalls_7 : decode cX0_neverFalls 7 = .ok (.if_icmp .ge 28, 3) := by decide +kernel
theorem dX0_neverFalls_10 : decode cX0_neverFalls 10 = .ok (.aload_n 0, 1) := by decide +kernel
theorem dX0_neverFalls_11 : decode cX0_neverFalls 11 = .ok (.getfield 9, 3) := by decide +kernel
theorem dX0_neverFalls_14 : decode cX0_neverFalls 14 = .ok (.iload_n 1, 1) := by decide +kernel
theorem dX0_neverFalls_15 : decode cX0_neverFalls 15 = .ok (.iaload, 1) := by decide +kernel
theorem dX0_neverFalls_16 : decode cX0_neverFalls 16 = .ok (.aload_n 0, 1) := by decide +kernel
theorem dX0_neverFalls_17 : decode cX0_neverFalls 17 = .ok (.getfield 9, 3) := by decide +kernel
theorem dX0_neverFalls_20 : decode cX0_neverFalls 20 = .ok (.iload_n 1, 1) := by decide +kernel
theorem dX0_neverFalls_21 : decode cX0_neverFalls 21 = .ok (.iconst 1, 1) := by decide +kernel
theorem dX0_neverFalls_22 : decode cX0_neverFalls 22 = .ok (.isub, 1) := by decide +kernel
theorem dX0_neverFalls_23 : decode cX0_neverFalls 23 = .ok (.iaload, 1) := by decide +kernel
theorem dX0_neverFalls_24 : decode cX0_neverFalls 24 = .ok (.if_icmp .ge 5, 3) := by decide +kernel
theorem dX0_neverFalls_27 : decode cX0_neverFalls 27 = .ok (.iconst 0, 1) := by decide +kernel
theorem dX0_neverFalls_28 : decode cX0_neverFalls 28 = .ok (.ireturn, 1) := by decide +kernel
theorem dX0_neverFalls_29 : decode cX0_neverFalls 29 = .ok (.iinc 1 1, 3) := by decide +kernel
theorem dX0_neverFalls_32 : decode cX0_neverFalls 32 = .ok (.goto (-30), 3) := by decide +kernel
theorem dX0_neverFalls_35 : decode cX0_neverFalls 35 = .ok (.iconst 1, 1) := by decide +kernel
theorem dX0_neverFalls_36 : decode cX0_neverFalls 36 = .ok (.ireturn, 1) := by decide +kernel
theorem dX0_neverRises_0 : decode cX0_neverRises 0 = .ok (.iconst 1, 1) := by decide +kernel
theorem dX0_neverRises_1 : decode cX0_neverRises 1 = .ok (.istore_n 1, 1) := by decide +kernel
theorem dX0_neverRises_2 : decode cX0_neverRises 2 = .ok (.iload_n 1, 1) := by decide +kernel
theorem dX0_neverRises_3 : decode cX0_neverRises 3 = .ok (.aload_n 0, 1) := by decide +kernel
theorem dX0_neverRises_4 : decode cX0_neverRises 4 = .ok (.getfield 18, 3) := by decide +kernel
theorem dX0_neverRises_7 : decode cX0_neverRises 7 = .ok (.if_icmp .ge 28, 3) := by decide +kernel
theorem dX0_neverRises_10 : decode cX0_neverRises 10 = .ok (.aload_n 0, 1) := by decide +kernel
theorem dX0_neverRises_11 : decode cX0_neverRises 11 = .ok (.getfield 9, 3) := by decide +kernel
theorem dX0_neverRises_14 : decode cX0_neverRises 14 = .ok (.iload_n 1, 1) := by decide +kernel
theorem dX0_neverRises_15 : decode cX0_neverRises 15 = .ok (.iaload, 1) := by decide +kernel
theorem dX0_neverRises_16 : decode cX0_neverRises 16 = .ok (.aload_n 0, 1) := by decide +kernel
theorem dX0_neverRises_17 : decode cX0_neverRises 17 = .ok (.getfield 9, 3) := by decide +kernel
theorem dX0_neverRises_20 : decode cX0_neverRises 20 = .ok (.iload_n 1, 1) := by decide +kernel
theorem dX0_neverRises_21 : decode cX0_neverRises 21 = .ok (.iconst 1, 1) := by decide +kernel
theorem dX0_neverRises_22 : decode cX0_neverRises 22 = .ok (.isub, 1) := by decide +kernel
theorem dX0_neverRises_23 : decode cX0_neverRises 23 = .ok (.iaload, 1) := by decide +kernel
theorem dX0_neverRises_24 : decode cX0_neverRises 24 = .ok (.if_icmp .le 5, 3) := by decide +kernel
theorem dX0_neverRises_27 : decode cX0_neverRises 27 = .ok (.iconst 0, 1) := by decide +kernel
theorem dX0_neverRises_28 : decode cX0_neverRises 28 = .ok (.ireturn, 1) := by decide +kernel
theorem dX0_neverRises_29 : decode cX0_neverRises 29 = .ok (.iinc 1 1, 3) := by decide +kernel
theorem dX0_neverRises_32 : decode cX0_neverRises 32 = .ok (.goto (-30), 3) := by decide +kernel
theorem dX0_neverRises_35 : decode cX0_neverRises 35 = .ok (.iconst 1, 1) := by decide +kernel
theorem dX0_neverRises_36 : decode cX0_neverRises 36 = .ok (.ireturn, 1) := by decide +kernel
theorem dX0_rowsOf_0 : decode cX0_rowsOf 0 = .ok (.iconst 0, 1) := by decide +kernel
theorem dX0_rowsOf_1 : decode cX0_rowsOf 1 = .ok (.istore_n 2, 1) := by decide +kernel
theorem dX0_rowsOf_2 : decode cX0_rowsOf 2 = .ok (.iconst 0, 1) := by decide +kernel
theorem dX0_rowsOf_3 : decode cX0_rowsOf 3 = .ok (.istore_n 3, 1) := by decide +kernel
theorem dX0_rowsOf_4 : decode cX0_rowsOf 4 = .ok (.iload_n 3, 1) := by decide +kernel
theorem dX0_rowsOf_5 : decode cX0_rowsOf 5 = .ok (.aload_n 0, 1) := by decide +kernel
theorem dX0_rowsOf_6 : decode cX0_rowsOf 6 = .ok (.getfield 18, 3) := by decide +kernel
theorem dX0_rowsOf_9 : decode cX0_rowsOf 9 = .ok (.if_icmp .ge 28, 3) := by decide +kernel
theorem dX0_rowsOf_12 : decode cX0_rowsOf 12 = .ok (.aload_n 0, 1) := by decide +kernel
theorem dX0_rowsOf_13 : decode cX0_rowsOf 13 = .ok (.getfield 9, 3) := by decide +kernel
theorem dX0_rowsOf_16 : decode cX0_rowsOf 16 = .ok (.iload_n 3, 1) := by decide +kernel
theorem dX0_rowsOf_17 : decode cX0_rowsOf 17 = .ok (.iaload, 1) := by decide +kernel
theorem dX0_rowsOf_18 : decode cX0_rowsOf 18 = .ok (.iload_n 1, 1) := by decide +kernel
theorem dX0_rowsOf_19 : decode cX0_rowsOf 19 = .ok (.if_icmp .ne 12, 3) := by decide +kernel
theorem dX0_rowsOf_22 : decode cX0_rowsOf 22 = .ok (.iload_n 2, 1) := by decide +kernel
theorem dX0_rowsOf_23 : decode cX0_rowsOf 23 = .ok (.aload_n 0, 1) := by decide +kernel
theorem dX0_rowsOf_24 : decode cX0_rowsOf 24 = .ok (.getfield 15, 3) := by decide +kernel
theorem dX0_rowsOf_27 : decode cX0_rowsOf 27 = .ok (.iload_n 3, 1) := by decide +kernel
theorem dX0_rowsOf_28 : decode cX0_rowsOf 28 = .ok (.iaload, 1) := by decide +kernel
theorem dX0_rowsOf_29 : decode cX0_rowsOf 29 = .ok (.iadd, 1) := by decide +kernel
theorem dX0_rowsOf_30 : decode cX0_rowsOf 30 = .ok (.istore_n 2, 1) := by decide +kernel
theorem dX0_rowsOf_31 : decode cX0_rowsOf 31 = .ok (.iinc 3 1, 3) := by decide +kernel
theorem dX0_rowsOf_34 : decode cX0_rowsOf 34 = .ok (.goto (-30), 3) := by decide +kernel
theorem dX0_rowsOf_37 : decode cX0_rowsOf 37 = .ok (.iload_n 2, 1) := by decide +kernel
theorem dX0_rowsOf_38 : decode cX0_rowsOf 38 = .ok (.ireturn, 1) := by decide +kernel
theorem dX0_runsOf_0 : decode cX0_runsOf 0 = .ok (.iconst 0, 1) := by decide +kernel
theorem dX0_runsOf_1 : decode cX0_runsOf 1 = .ok (.istore_n 2, 1) := by decide +kernel
theorem dX0_runsOf_2 : decode cX0_runsOf 2 = .ok (.iconst 0, 1) := by decide +kernel
theorem dX0_runsOf_3 : decode cX0_runsOf 3 = .ok (.istore_n 3, 1) := by decide +kernel
theorem dX0_runsOf_4 : decode cX0_runsOf 4 = .ok (.iload_n 3, 1) := by decide +kernel
theorem dX0_runsOf_5 : decode cX0_runsOf 5 = .ok (.aload_n 0, 1) := by decide +kernel
theorem dX0_runsOf_6 : decode cX0_runsOf 6 = .ok (.getfield 18, 3) := by decide +kernel
theorem dX0_runsOf_9 : decode cX0_runsOf 9 = .ok (.if_icmp .ge 22, 3) := by decide +kernel
theorem dX0_runsOf_12 : decode cX0_runsOf 12 = .ok (.aload_n 0, 1) := by decide +kernel
theorem dX0_runsOf_13 : decode cX0_runsOf 13 = .ok (.getfield 9, 3) := by decide +kernel
theorem dX0_runsOf_16 : decode cX0_runsOf 16 = .ok (.iload_n 3, 1) := by decide +kernel
theorem dX0_runsOf_17 : decode cX0_runsOf 17 = .ok (.iaload, 1) := by decide +kernel
theorem dX0_runsOf_18 : decode cX0_runsOf 18 = .ok (.iload_n 1, 1) := by decide +kernel
theorem dX0_runsOf_19 : decode cX0_runsOf 19 = .ok (.if_icmp .ne 6, 3) := by decide +kernel
theorem dX0_runsOf_22 : decode cX0_runsOf 22 = .ok (.iinc 2 1, 3) := by decide +kernel
theorem dX0_runsOf_25 : decode cX0_runsOf 25 = .ok (.iinc 3 1, 3) := by decide +kernel
theorem dX0_runsOf_28 : decode cX0_runsOf 28 = .ok (.goto (-24), 3) := by decide +kernel
theorem dX0_runsOf_31 : decode cX0_runsOf 31 = .ok (.iload_n 2, 1) := by decide +kernel
theorem dX0_runsOf_32 : decode cX0_runsOf 32 = .ok (.ireturn, 1) := by decide +kernel
theorem dX0_longestOf_0 : decode cX0_longestOf 0 = .ok (.iconst 0, 1) := by decide +kernel
theorem dX0_longestOf_1 : decode cX0_longestOf 1 = .ok (.istore_n 2, 1) := by decide +kernel
theorem dX0_longestOf_2 : decode cX0_longestOf 2 = .ok (.iconst 0, 1) := by decide +kernel
theorem dX0_longestOf_3 : decode cX0_longestOf 3 = .ok (.istore_n 3, 1) := by decide +kernel
theorem dX0_longestOf_4 : decode cX0_longestOf 4 = .ok (.iload_n 3, 1) := by decide +kernel
theorem dX0_longestOf_5 : decode cX0_longestOf 5 = .ok (.aload_n 0, 1) := by decide +kernel
theorem dX0_longestOf_6 : decode cX0_longestOf 6 = .ok (.getfield 18, 3) := by decide +kernel
theorem dX0_longestOf_9 : decode cX0_longestOf 9 = .ok (.if_icmp .ge 30, 3) := by decide +kernel
theorem dX0_longestOf_12 : decode cX0_longestOf 12 = .ok (.aload_n 0, 1) := by decide +kernel
theorem dX0_longestOf_13 : decode cX0_longestOf 13 = .ok (.getfield 9, 3) := by decide +kernel
theorem dX0_longestOf_16 : decode cX0_longestOf 16 = .ok (.iload_n 3, 1) := by decide +kernel
theorem dX0_longestOf_17 : decode cX0_longestOf 17 = .ok (.iaload, 1) := by decide +kernel
theorem dX0_longestOf_18 : decode cX0_longestOf 18 = .ok (.iload_n 1, 1) := by decide +kernel
theorem dX0_longestOf_19 : decode cX0_longestOf 19 = .ok (.if_icmp .ne 14, 3) := by decide +kernel
theorem dX0_longestOf_22 : decode cX0_longestOf 22 = .ok (.iload_n 2, 1) := by decide +kernel
theorem dX0_longestOf_23 : decode cX0_longestOf 23 = .ok (.aload_n 0, 1) := by decide +kernel
theorem dX0_longestOf_24 : decode cX0_longestOf 24 = .ok (.getfield 15, 3) := by decide +kernel
theorem dX0_longestOf_27 : decode cX0_longestOf 27 = .ok (.iload_n 3, 1) := by decide +kernel
theorem dX0_longestOf_28 : decode cX0_longestOf 28 = .ok (.iaload, 1) := by decide +kernel
theorem dX0_longestOf_29 : decode cX0_longestOf 29 = .ok (.invokestatic 36, 3) := by decide +kernel
theorem dX0_longestOf_32 : decode cX0_longestOf 32 = .ok (.istore_n 2, 1) := by decide +kernel
theorem dX0_longestOf_33 : decode cX0_longestOf 33 = .ok (.iinc 3 1, 3) := by decide +kernel
theorem dX0_longestOf_36 : decode cX0_longestOf 36 = .ok (.goto (-32), 3) := by decide +kernel
theorem dX0_longestOf_39 : decode cX0_longestOf 39 = .ok (.iload_n 2, 1) := by decide +kernel
theorem dX0_longestOf_40 : decode cX0_longestOf 40 = .ok (.ireturn, 1) := by decide +kernel
theorem dX0_runsAfterSet_0 : decode cX0_runsAfterSet 0 = .ok (.aload_n 0, 1) := by decide +kernel
theorem dX0_runsAfterSet_1 : decode cX0_runsAfterSet 1 = .ok (.iload_n 1, 1) := by decide +kernel
theorem dX0_runsAfterSet_2 : decode cX0_runsAfterSet 2 = .ok (.invokevirtual 29, 3) := by decide +kernel
theorem dX0_runsAfterSet_5 : decode cX0_runsAfterSet 5 = .ok (.istore_n 3, 1) := by decide +kernel
theorem dX0_runsAfterSet_6 : decode cX0_runsAfterSet 6 = .ok (.aload_n 0, 1) := by decide +kernel
theorem dX0_runsAfterSet_7 : decode cX0_runsAfterSet 7 = .ok (.iload_n 3, 1) := by decide +kernel
theorem dX0_runsAfterSet_8 : decode cX0_runsAfterSet 8 = .ok (.invokevirtual 33, 3) := by decide +kernel
theorem dX0_runsAfterSet_11 : decode cX0_runsAfterSet 11 = .ok (.iload_n 2, 1) := by decide +kernel
theorem dX0_runsAfterSet_12 : decode cX0_runsAfterSet 12 = .ok (.if_icmp .ne 8, 3) := by decide +kernel
theorem dX0_runsAfterSet_15 : decode cX0_runsAfterSet 15 = .ok (.aload_n 0, 1) := by decide +kernel
theorem dX0_runsAfterSet_16 : decode cX0_runsAfterSet 16 = .ok (.getfield 18, 3) := by decide +kernel
theorem dX0_runsAfterSet_19 : decode cX0_runsAfterSet 19 = .ok (.ireturn, 1) := by decide +kernel
theorem dX0_runsAfterSet_20 : decode cX0_runsAfterSet 20 = .ok (.aload_n 0, 1) := by decide +kernel
theorem dX0_runsAfterSet_21 : decode cX0_runsAfterSet 21 = .ok (.iload_n 3, 1) := by decide +kernel
theorem dX0_runsAfterSet_22 : decode cX0_runsAfterSet 22 = .ok (.invokevirtual 42, 3) := by decide +kernel
theorem dX0_runsAfterSet_25 : decode cX0_runsAfterSet 25 = .ok (.istore 4, 2) := by decide +kernel
theorem dX0_runsAfterSet_27 : decode cX0_runsAfterSet 27 = .ok (.iload_n 1, 1) := by decide +kernel
theorem dX0_runsAfterSet_28 : decode cX0_runsAfterSet 28 = .ok (.iload 4, 2) := by decide +kernel
theorem dX0_runsAfterSet_30 : decode cX0_runsAfterSet 30 = .ok (.if_icmp .ne 7, 3) := by decide +kernel
theorem dX0_runsAfterSet_33 : decode cX0_runsAfterSet 33 = .ok (.iconst 1, 1) := by decide +kernel
theorem dX0_runsAfterSet_34 : decode cX0_runsAfterSet 34 = .ok (.goto 4, 3) := by decide +kernel
theorem dX0_runsAfterSet_37 : decode cX0_runsAfterSet 37 = .ok (.iconst 0, 1) := by decide +kernel
theorem dX0_runsAfterSet_38 : decode cX0_runsAfterSet 38 = .ok (.istore 5, 2) := by decide +kernel
theorem dX0_runsAfterSet_40 : decode cX0_runsAfterSet 40 = .ok (.iload_n 1, 1) := by decide +kernel
theorem dX0_runsAfterSet_41 : decode cX0_runsAfterSet 41 = .ok (.iload 4, 2) := by decide +kernel
theorem dX0_runsAfterSet_43 : decode cX0_runsAfterSet 43 = .ok (.aload_n 0, 1) := by decide +kernel
theorem dX0_runsAfterSet_44 : decode cX0_runsAfterSet 44 = .ok (.iload_n 3, 1) := by decide +kernel
theorem dX0_runsAfterSet_45 : decode cX0_runsAfterSet 45 = .ok (.invokevirtual 45, 3) := by decide +kernel
theorem dX0_runsAfterSet_48 : decode cX0_runsAfterSet 48 = .ok (.iadd, 1) := by decide +kernel
theorem dX0_runsAfterSet_49 : decode cX0_runsAfterSet 49 = .ok (.iconst 1, 1) := by decide +kernel
theorem dX0_runsAfterSet_50 : decode cX0_runsAfterSet 50 = .ok (.isub, 1) := by decide +kernel
theorem dX0_runsAfterSet_51 : decode cX0_runsAfterSet 51 = .ok (.if_icmp .ne 7, 3) := by decide +kernel
theorem dX0_runsAfterSet_54 : decode cX0_runsAfterSet 54 = .ok (.iconst 1, 1) := by decide +kernel
theorem dX0_runsAfterSet_55 : decode cX0_runsAfterSet 55 = .ok (.goto 4, 3) := by decide +kernel
theorem dX0_runsAfterSet_58 : decode cX0_runsAfterSet 58 = .ok (.iconst 0, 1) := by decide +kernel
theorem dX0_runsAfterSet_59 : decode cX0_runsAfterSet 59 = .ok (.istore 6, 2) := by decide +kernel
theorem dX0_runsAfterSet_61 : decode cX0_runsAfterSet 61 = .ok (.aload_n 0, 1) := by decide +kernel
theorem dX0_runsAfterSet_62 : decode cX0_runsAfterSet 62 = .ok (.getfield 18, 3) := by decide +kernel
theorem dX0_runsAfterSet_65 : decode cX0_runsAfterSet 65 = .ok (.istore 7, 2) := by decide +kernel
theorem dX0_runsAfterSet_67 : decode cX0_runsAfterSet 67 = .ok (.iload 5, 2) := by decide +kernel
theorem dX0_runsAfterSet_69 : decode cX0_runsAfterSet 69 = .ok (.ifCond .ne 9, 3) := by decide +kernel
theorem dX0_runsAfterSet_72 : decode cX0_runsAfterSet 72 = .ok (.iinc 7 1, 3) := by decide +kernel
theorem dX0_runsAfterSet_75 : decode cX0_runsAfterSet 75 = .ok (.goto 17, 3) := by decide +kernel
theorem dX0_runsAfterSet_78 : decode cX0_runsAfterSet 78 = .ok (.aload_n 0, 1) := by decide +kernel
theorem dX0_runsAfterSet_79 : decode cX0_runsAfterSet 79 = .ok (.iload_n 3, 1) := by decide +kernel
theorem dX0_runsAfterSet_80 : decode cX0_runsAfterSet 80 = .ok (.iconst 1, 1) := by decide +kernel
theorem dX0_runsAfterSet_81 : decode cX0_runsAfterSet 81 = .ok (.isub, 1) := by decide +kernel
theorem dX0_runsAfterSet_82 : decode cX0_runsAfterSet 82 = .ok (.invokevirtual 33, 3) := by decide +kernel
theorem dX0_runsAfterSet_85 : decode cX0_runsAfterSet 85 = .ok (.iload_n 2, 1) := by decide +kernel
theorem dX0_runsAfterSet_86 : decode cX0_runsAfterSet 86 = .ok (.if_icmp .ne 6, 3) := by decide +kernel
theorem dX0_runsAfterSet_89 : decode cX0_runsAfterSet 89 = .ok (.iinc 7 (-1), 3) := by decide +kernel
theorem dX0_runsAfterSet_92 : decode cX0_runsAfterSet 92 = .ok (.iload 6, 2) := by decide +kernel
theorem dX0_runsAfterSet_94 : decode cX0_runsAfterSet 94 = .ok (.ifCond .ne 9, 3) := by decide +kernel
theorem dX0_runsAfterSet_97 : decode cX0_runsAfterSet 97 = .ok (.iinc 7 1, 3) := by decide +kernel
theorem dX0_runsAfterSet_100 : decode cX0_runsAfterSet 100 = .ok (.goto 17, 3) := by decide +kernel
theorem dX0_runsAfterSet_103 : decode cX0_runsAfterSet 103 = .ok (.aload_n 0, 1) := by decide +kernel
theorem dX0_runsAfterSet_104 : decode cX0_runsAfterSet 104 = .ok (.iload_n 3, 1) := by decide +kernel
theorem dX0_runsAfterSet_105 : decode cX0_runsAfterSet 105 = .ok (.iconst 1, 1) := by decide +kernel
theorem dX0_runsAfterSet_106 : decode cX0_runsAfterSet 106 = .ok (.iadd, 1) := by decide +kernel
theorem dX0_runsAfterSet_107 : decode cX0_runsAfterSet 107 = .ok (.invokevirtual 33, 3) := by decide +kernel
theorem dX0_runsAfterSet_110 : decode cX0_runsAfterSet 110 = .ok (.iload_n 2, 1) := by decide +kernel
theorem dX0_runsAfterSet_111 : decode cX0_runsAfterSet 111 = .ok (.if_icmp .ne 6, 3) := by decide +kernel
theorem dX0_runsAfterSet_114 : decode cX0_runsAfterSet 114 = .ok (.iinc 7 (-1), 3) := by decide +kernel
theorem dX0_runsAfterSet_117 : decode cX0_runsAfterSet 117 = .ok (.iload 7, 2) := by decide +kernel
theorem dX0_runsAfterSet_119 : decode cX0_runsAfterSet 119 = .ok (.ireturn, 1) := by decide +kernel
theorem dX0_bestRowToSet_0 : decode cX0_bestRowToSet 0 = .ok (.iconst 0, 1) := by decide +kernel
theorem dX0_bestRowToSet_1 : decode cX0_bestRowToSet 1 = .ok (.istore_n 2, 1) := by decide +kernel
theorem dX0_bestRowToSet_2 : decode cX0_bestRowToSet 2 = .ok (.aload_n 0, 1) := by decide +kernel
theorem dX0_bestRowToSet_3 : decode cX0_bestRowToSet 3 = .ok (.iconst 0, 1) := by decide +kernel
theorem dX0_bestRowToSet_4 : decode cX0_bestRowToSet 4 = .ok (.iload_n 1, 1) := by decide +kernel
theorem dX0_bestRowToSet_5 : decode cX0_bestRowToSet 5 = .ok (.invokevirtual 48, 3) := by decide +kernel
theorem dX0_bestRowToSet_8 : decode cX0_bestRowToSet 8 = .ok (.istore_n 3, 1) := by decide +kernel
theorem dX0_bestRowToSet_9 : decode cX0_bestRowToSet 9 = .ok (.iconst 0, 1) := by decide +kernel
theorem dX0_bestRowToSet_10 : decode cX0_bestRowToSet 10 = .ok (.istore 4, 2) := by decide +kernel
theorem dX0_bestRowToSet_12 : decode cX0_bestRowToSet 12 = .ok (.iconst 0, 1) := by decide +kernel
theorem dX0_bestRowToSet_13 : decode cX0_bestRowToSet 13 = .ok (.istore 5, 2) := by decide +kernel
theorem dX0_bestRowToSet_15 : decode cX0_bestRowToSet 15 = .ok (.iload 5, 2) := by decide +kernel
theorem dX0_bestRowToSet_17 : decode cX0_bestRowToSet 17 = .ok (.aload_n 0, 1) := by decide +kernel
theorem dX0_bestRowToSet_18 : decode cX0_bestRowToSet 18 = .ok (.getfield 18, 3) := by decide +kernel
theorem dX0_bestRowToSet_21 : decode cX0_bestRowToSet 21 = .ok (.if_icmp .ge 73, 3) := by decide +kernel
theorem dX0_bestRowToSet_24 : decode cX0_bestRowToSet 24 = .ok (.iload 4, 2) := by decide +kernel
theorem dX0_bestRowToSet_26 : decode cX0_bestRowToSet 26 = .ok (.aload_n 0, 1) := by decide +kernel
theorem dX0_bestRowToSet_27 : decode cX0_bestRowToSet 27 = .ok (.getfield 15, 3) := by decide +kernel
theorem dX0_bestRowToSet_30 : decode cX0_bestRowToSet 30 = .ok (.iload 5, 2) := by decide +kernel
theorem dX0_bestRowToSet_32 : decode cX0_bestRowToSet 32 = .ok (.iaload, 1) := by decide +kernel
theorem dX0_bestRowToSet_33 : decode cX0_bestRowToSet 33 = .ok (.iadd, 1) := by decide +kernel
theorem dX0_bestRowToSet_34 : decode cX0_bestRowToSet 34 = .ok (.iconst 1, 1) := by decide +kernel
theorem dX0_bestRowToSet_35 : decode cX0_bestRowToSet 35 = .ok (.isub, 1) := by decide +kernel
theorem dX0_bestRowToSet_36 : decode cX0_bestRowToSet 36 = .ok (.istore 6, 2) := by decide +kernel
theorem dX0_bestRowToSet_38 : decode cX0_bestRowToSet 38 = .ok (.aload_n 0, 1) := by decide +kernel
theorem dX0_bestRowToSet_39 : decode cX0_bestRowToSet 39 = .ok (.iload 4, 2) := by decide +kernel
theorem dX0_bestRowToSet_41 : decode cX0_bestRowToSet 41 = .ok (.iload_n 1, 1) := by decide +kernel
theorem dX0_bestRowToSet_42 : decode cX0_bestRowToSet 42 = .ok (.invokevirtual 48, 3) := by decide +kernel
theorem dX0_bestRowToSet_45 : decode cX0_bestRowToSet 45 = .ok (.iload_n 3, 1) := by decide +kernel
theorem dX0_bestRowToSet_46 : decode cX0_bestRowToSet 46 = .ok (.if_icmp .ge 14, 3) := by decide +kernel
theorem dX0_bestRowToSet_49 : decode cX0_bestRowToSet 49 = .ok (.iload 4, 2) := by decide +kernel
theorem dX0_bestRowToSet_51 : decode cX0_bestRowToSet 51 = .ok (.istore_n 2, 1) := by decide +kernel
theorem dX0_bestRowToSet_52 : decode cX0_bestRowToSet 52 = .ok (.aload_n 0, 1) := by decide +kernel
theorem dX0_bestRowToSet_53 : decode cX0_bestRowToSet 53 = .ok (.iload 4, 2) := by decide +kernel
theorem dX0_bestRowToSet_55 : decode cX0_bestRowToSet 55 = .ok (.iload_n 1, 1) := by decide +kernel
theorem dX0_bestRowToSet_56 : decode cX0_bestRowToSet 56 = .ok (.invokevirtual 48, 3) := by decide +kernel
theorem dX0_bestRowToSet_59 : decode cX0_bestRowToSet 59 = .ok (.istore_n 3, 1) := by decide +kernel
theorem dX0_bestRowToSet_60 : decode cX0_bestRowToSet 60 = .ok (.aload_n 0, 1) := by decide +kernel
theorem dX0_bestRowToSet_61 : decode cX0_bestRowToSet 61 = .ok (.iload 6, 2) := by decide +kernel
theorem dX0_bestRowToSet_63 : decode cX0_bestRowToSet 63 = .ok (.iload_n 1, 1) := by decide +kernel
theorem dX0_bestRowToSet_64 : decode cX0_bestRowToSet 64 = .ok (.invokevirtual 48, 3) := by decide +kernel
theorem dX0_bestRowToSet_67 : decode cX0_bestRowToSet 67 = .ok (.iload_n 3, 1) := by decide +kernel
theorem dX0_bestRowToSet_68 : decode cX0_bestRowToSet 68 = .ok (.if_icmp .ge 14, 3) := by decide +kernel
theorem dX0_bestRowToSet_71 : decode cX0_bestRowToSet 71 = .ok (.iload 6, 2) := by decide +kernel
theorem dX0_bestRowToSet_73 : decode cX0_bestRowToSet 73 = .ok (.istore_n 2, 1) := by decide +kernel
theorem dX0_bestRowToSet_74 : decode cX0_bestRowToSet 74 = .ok (.aload_n 0, 1) := by decide +kernel
theorem dX0_bestRowToSet_75 : decode cX0_bestRowToSet 75 = .ok (.iload 6, 2) := by decide +kernel
theorem dX0_bestRowToSet_77 : decode cX0_bestRowToSet 77 = .ok (.iload_n 1, 1) := by decide +kernel
theorem dX0_bestRowToSet_78 : decode cX0_bestRowToSet 78 = .ok (.invokevirtual 48, 3) := by decide +kernel
theorem dX0_bestRowToSet_81 : decode cX0_bestRowToSet 81 = .ok (.istore_n 3, 1) := by decide +kernel
theorem dX0_bestRowToSet_82 : decode cX0_bestRowToSet 82 = .ok (.iload 6, 2) := by decide +kernel
theorem dX0_bestRowToSet_84 : decode cX0_bestRowToSet 84 = .ok (.iconst 1, 1) := by decide +kernel
theorem dX0_bestRowToSet_85 : decode cX0_bestRowToSet 85 = .ok (.iadd, 1) := by decide +kernel
theorem dX0_bestRowToSet_86 : decode cX0_bestRowToSet 86 = .ok (.istore 4, 2) := by decide +kernel
theorem dX0_bestRowToSet_88 : decode cX0_bestRowToSet 88 = .ok (.iinc 5 1, 3) := by decide +kernel
theorem dX0_bestRowToSet_91 : decode cX0_bestRowToSet 91 = .ok (.goto (-76), 3) := by decide +kernel
theorem dX0_bestRowToSet_94 : decode cX0_bestRowToSet 94 = .ok (.iload_n 2, 1) := by decide +kernel
theorem dX0_bestRowToSet_95 : decode cX0_bestRowToSet 95 = .ok (.ireturn, 1) := by decide +kernel
theorem dX0_clear_0 : decode cX0_clear 0 = .ok (.aload_n 0, 1) := by decide +kernel
theorem dX0_clear_1 : decode cX0_clear 1 = .ok (.iconst 0, 1) := by decide +kernel
theorem dX0_clear_2 : decode cX0_clear 2 = .ok (.putfield 18, 3) := by decide +kernel
theorem dX0_clear_5 : decode cX0_clear 5 = .ok (.aload_n 0, 1) := by decide +kernel
theorem dX0_clear_6 : decode cX0_clear 6 = .ok (.iconst 0, 1) := by decide +kernel
theorem dX0_clear_7 : decode cX0_clear 7 = .ok (.putfield 22, 3) := by decide +kernel
theorem dX0_clear_10 : decode cX0_clear 10 = .ok (.aload_n 0, 1) := by decide +kernel
theorem dX0_clear_11 : decode cX0_clear 11 = .ok (.iconst 0, 1) := by decide +kernel
theorem dX0_clear_12 : decode cX0_clear 12 = .ok (.putfield 25, 3) := by decide +kernel
theorem dX0_clear_15 : decode cX0_clear 15 = .ok (.return_, 1) := by decide +kernel
theorem dX0_copyFrom_0 : decode cX0_copyFrom 0 = .ok (.aload_n 1, 1) := by decide +kernel
theorem dX0_copyFrom_1 : decode cX0_copyFrom 1 = .ok (.getfield 9, 3) := by decide +kernel
theorem dX0_copyFrom_4 : decode cX0_copyFrom 4 = .ok (.iconst 0, 1) := by decide +kernel
theorem dX0_copyFrom_5 : decode cX0_copyFrom 5 = .ok (.aload_n 0, 1) := by decide +kernel
theorem dX0_copyFrom_6 : decode cX0_copyFrom 6 = .ok (.getfield 9, 3) := by decide +kernel
theorem dX0_copyFrom_9 : decode cX0_copyFrom 9 = .ok (.iconst 0, 1) := by decide +kernel
theorem dX0_copyFrom_10 : decode cX0_copyFrom 10 = .ok (.bipush 40, 2) := by decide +kernel
theorem dX0_copyFrom_12 : decode cX0_copyFrom 12 = .ok (.invokestatic 51, 3) := by decide +kernel
theorem dX0_copyFrom_15 : decode cX0_copyFrom 15 = .ok (.aload_n 1, 1) := by decide +kernel
theorem dX0_copyFrom_16 : decode cX0_copyFrom 16 = .ok (.getfield 15, 3) := by decide +kernel
theorem dX0_copyFrom_19 : decode cX0_copyFrom 19 = .ok (.iconst 0, 1) := by decide +kernel
theorem dX0_copyFrom_20 : decode cX0_copyFrom 20 = .ok (.aload_n 0, 1) := by decide +kernel
theorem dX0_copyFrom_21 : decode cX0_copyFrom 21 = .ok (.getfield 15, 3) := by decide +kernel
theorem dX0_copyFrom_24 : decode cX0_copyFrom 24 = .ok (.iconst 0, 1) := by decide +kernel
theorem dX0_copyFrom_25 : decode cX0_copyFrom 25 = .ok (.bipush 40, 2) := by decide +kernel
theorem dX0_copyFrom_27 : decode cX0_copyFrom 27 = .ok (.invokestatic 51, 3) := by decide +kernel
theorem dX0_copyFrom_30 : decode cX0_copyFrom 30 = .ok (.aload_n 0, 1) := by decide +kernel
theorem dX0_copyFrom_31 : decode cX0_copyFrom 31 = .ok (.aload_n 1, 1) := by decide +kernel
theorem dX0_copyFrom_32 : decode cX0_copyFrom 32 = .ok (.getfield 18, 3) := by decide +kernel
theorem dX0_copyFrom_35 : decode cX0_copyFrom 35 = .ok (.putfield 18, 3) := by decide +kernel
theorem dX0_copyFrom_38 : decode cX0_copyFrom 38 = .ok (.aload_n 0, 1) := by decide +kernel
theorem dX0_copyFrom_39 : decode cX0_copyFrom 39 = .ok (.aload_n 1, 1) := by decide +kernel
theorem dX0_copyFrom_40 : decode cX0_copyFrom 40 = .ok (.getfield 22, 3) := by decide +kernel
theorem dX0_copyFrom_43 : decode cX0_copyFrom 43 = .ok (.putfield 22, 3) := by decide +kernel
theorem dX0_copyFrom_46 : decode cX0_copyFrom 46 = .ok (.aload_n 0, 1) := by decide +kernel
theorem dX0_copyFrom_47 : decode cX0_copyFrom 47 = .ok (.aload_n 1, 1) := by decide +kernel
theorem dX0_copyFrom_48 : decode cX0_copyFrom 48 = .ok (.getfield 25, 3) := by decide +kernel
theorem dX0_copyFrom_51 : decode cX0_copyFrom 51 = .ok (.putfield 25, 3) := by decide +kernel
theorem dX0_copyFrom_54 : decode cX0_copyFrom 54 = .ok (.return_, 1) := by decide +kernel
theorem dX0_addRun_0 : decode cX0_addRun 0 = .ok (.iload_n 2, 1) := by decide +kernel
theorem dX0_addRun_1 : decode cX0_addRun 1 = .ok (.iconst 1, 1) := by decide +kernel
theorem dX0_addRun_2 : decode cX0_addRun 2 = .ok (.if_icmp .lt 10, 3) := by decide +kernel
theorem dX0_addRun_5 : decode cX0_addRun 5 = .ok (.aload_n 0, 1) := by decide +kernel
theorem dX0_addRun_6 : decode cX0_addRun 6 = .ok (.getfield 25, 3) := by decide +kernel
theorem dX0_addRun_9 : decode cX0_addRun 9 = .ok (.ifCond .eq 4, 3) := by decide +kernel
theorem dX0_addRun_12 : decode cX0_addRun 12 = .ok (.return_, 1) := by decide +kernel
theorem dX0_addRun_13 : decode cX0_addRun 13 = .ok (.iload_n 2, 1) := by decide +kernel
theorem dX0_addRun_14 : decode cX0_addRun 14 = .ok (.sipush 999, 3) := by decide +kernel
theorem dX0_addRun_17 : decode cX0_addRun 17 = .ok (.aload_n 0, 1) := by decide +kernel
theorem dX0_addRun_18 : decode cX0_addRun 18 = .ok (.getfield 22, 3) := by decide +kernel
theorem dX0_addRun_21 : decode cX0_addRun 21 = .ok (.isub, 1) := by decide +kernel
theorem dX0_addRun_22 : decode cX0_addRun 22 = .ok (.if_icmp .le 11, 3) := by decide +kernel
theorem dX0_addRun_25 : decode cX0_addRun 25 = .ok (.aload_n 0, 1) := by decide +kernel
theorem dX0_addRun_26 : decode cX0_addRun 26 = .ok (.iconst 1, 1) := by decide +kernel
theorem dX0_addRun_27 : decode cX0_addRun 27 = .ok (.putfield 25, 3) := by decide +kernel
theorem dX0_addRun_30 : decode cX0_addRun 30 = .ok (.goto 119, 3) := by decide +kernel
theorem dX0_addRun_33 : decode cX0_addRun 33 = .ok (.aload_n 0, 1) := by decide +kernel
theorem dX0_addRun_34 : decode cX0_addRun 34 = .ok (.getfield 18, 3) := by decide +kernel
theorem dX0_addRun_37 : decode cX0_addRun 37 = .ok (.ifCond .le 55, 3) := by decide +kernel
theorem dX0_addRun_40 : decode cX0_addRun 40 = .ok (.aload_n 0, 1) := by decide +kernel
theorem dX0_addRun_41 : decode cX0_addRun 41 = .ok (.getfield 18, 3) := by decide +kernel
theorem dX0_addRun_44 : decode cX0_addRun 44 = .ok (.bipush 40, 2) := by decide +kernel
theorem dX0_addRun_46 : decode cX0_addRun 46 = .ok (.if_icmp .gt 46, 3) := by decide +kernel
theorem dX0_addRun_49 : decode cX0_addRun 49 = .ok (.aload_n 0, 1) := by decide +kernel
theorem dX0_addRun_50 : decode cX0_addRun 50 = .ok (.getfield 9, 3) := by decide +kernel
theorem dX0_addRun_53 : decode cX0_addRun 53 = .ok (.aload_n 0, 1) := by decide +kernel
theorem dX0_addRun_54 : decode cX0_addRun 54 = .ok (.getfield 18, 3) := by decide +kernel
theorem dX0_addRun_57 : decode cX0_addRun 57 = .ok (.iconst 1, 1) := by decide +kernel
theorem dX0_addRun_58 : decode cX0_addRun 58 = .ok (.isub, 1) := by decide +kernel
theorem dX0_addRun_59 : decode cX0_addRun 59 = .ok (.iaload, 1) := by decide +kernel
theorem dX0_addRun_60 : decode cX0_addRun 60 = .ok (.iload_n 1, 1) := by decide +kernel
theorem dX0_addRun_61 : decode cX0_addRun 61 = .ok (.if_icmp .ne 31, 3) := by decide +kernel
theorem dX0_addRun_64 : decode cX0_addRun 64 = .ok (.aload_n 0, 1) := by decide +kernel
theorem dX0_addRun_65 : decode cX0_addRun 65 = .ok (.getfield 15, 3) := by decide +kernel
theorem dX0_addRun_68 : decode cX0_addRun 68 = .ok (.aload_n 0, 1) := by decide +kernel
theorem dX0_addRun_69 : decode cX0_addRun 69 = .ok (.getfield 18, 3) := by decide +kernel
theorem dX0_addRun_72 : decode cX0_addRun 72 = .ok (.iconst 1, 1) := by decide +kernel
theorem dX0_addRun_73 : decode cX0_addRun 73 = .ok (.isub, 1) := by decide +kernel
theorem dX0_addRun_74 : decode cX0_addRun 74 = .ok (.dup2, 1) := by decide +kernel
theorem dX0_addRun_75 : decode cX0_addRun 75 = .ok (.iaload, 1) := by decide +kernel
theorem dX0_addRun_76 : decode cX0_addRun 76 = .ok (.iload_n 2, 1) := by decide +kernel
theorem dX0_addRun_77 : decode cX0_addRun 77 = .ok (.iadd, 1) := by decide +kernel
theorem dX0_addRun_78 : decode cX0_addRun 78 = .ok (.iastore, 1) := by decide +kernel
theorem dX0_addRun_79 : decode cX0_addRun 79 = .ok (.aload_n 0, 1) := by decide +kernel
theorem dX0_addRun_80 : decode cX0_addRun 80 = .ok (.dup, 1) := by decide +kernel
theorem dX0_addRun_81 : decode cX0_addRun 81 = .ok (.getfield 22, 3) := by decide +kernel
theorem dX0_addRun_84 : decode cX0_addRun 84 = .ok (.iload_n 2, 1) := by decide +kernel
theorem dX0_addRun_85 : decode cX0_addRun 85 = .ok (.iadd, 1) := by decide +kernel
theorem dX0_addRun_86 : decode cX0_addRun 86 = .ok (.putfield 22, 3) := by decide +kernel
theorem dX0_addRun_89 : decode cX0_addRun 89 = .ok (.goto 60, 3) := by decide +kernel
theorem dX0_addRun_92 : decode cX0_addRun 92 = .ok (.aload_n 0, 1) := by decide +kernel
theorem dX0_addRun_93 : decode cX0_addRun 93 = .ok (.getfield 18, 3) := by decide +kernel
theorem dX0_addRun_96 : decode cX0_addRun 96 = .ok (.bipush 40, 2) := by decide +kernel
theorem dX0_addRun_98 : decode cX0_addRun 98 = .ok (.if_icmp .ge 46, 3) := by decide +kernel
theorem dX0_addRun_101 : decode cX0_addRun 101 = .ok (.aload_n 0, 1) := by decide +kernel
theorem dX0_addRun_102 : decode cX0_addRun 102 = .ok (.getfield 9, 3) := by decide +kernel
theorem dX0_addRun_105 : decode cX0_addRun 105 = .ok (.aload_n 0, 1) := by decide +kernel
theorem dX0_addRun_106 : decode cX0_addRun 106 = .ok (.getfield 18, 3) := by decide +kernel
theorem dX0_addRun_109 : decode cX0_addRun 109 = .ok (.iload_n 1, 1) := by decide +kernel
theorem dX0_addRun_110 : decode cX0_addRun 110 = .ok (.iastore, 1) := by decide +kernel
theorem dX0_addRun_111 : decode cX0_addRun 111 = .ok (.aload_n 0, 1) := by decide +kernel
theorem dX0_addRun_112 : decode cX0_addRun 112 = .ok (.getfield 15, 3) := by decide +kernel
theorem dX0_addRun_115 : decode cX0_addRun 115 = .ok (.aload_n 0, 1) := by decide +kernel
theorem dX0_addRun_116 : decode cX0_addRun 116 = .ok (.getfield 18, 3) := by decide +kernel
theorem dX0_addRun_119 : decode cX0_addRun 119 = .ok (.iload_n 2, 1) := by decide +kernel
theorem dX0_addRun_120 : decode cX0_addRun 120 = .ok (.iastore, 1) := by decide +kernel
theorem dX0_addRun_121 : decode cX0_addRun 121 = .ok (.aload_n 0, 1) := by decide +kernel
theorem dX0_addRun_122 : decode cX0_addRun 122 = .ok (.dup, 1) := by decide +kernel
theorem dX0_addRun_123 : decode cX0_addRun 123 = .ok (.getfield 18, 3) := by decide +kernel
theorem dX0_addRun_126 : decode cX0_addRun 126 = .ok (.iconst 1, 1) := by decide +kernel
theorem dX0_addRun_127 : decode cX0_addRun 127 = .ok (.iadd, 1) := by decide +kernel
theorem dX0_addRun_128 : decode cX0_addRun 128 = .ok (.putfield 18, 3) := by decide +kernel
theorem dX0_addRun_131 : decode cX0_addRun 131 = .ok (.aload_n 0, 1) := by decide +kernel
theorem dX0_addRun_132 : decode cX0_addRun 132 = .ok (.dup, 1) := by decide +kernel
theorem dX0_addRun_133 : decode cX0_addRun 133 = .ok (.getfield 22, 3) := by decide +kernel
theorem dX0_addRun_136 : decode cX0_addRun 136 = .ok (.iload_n 2, 1) := by decide +kernel
theorem dX0_addRun_137 : decode cX0_addRun 137 = .ok (.iadd, 1) := by decide +kernel
theorem dX0_addRun_138 : decode cX0_addRun 138 = .ok (.putfield 22, 3) := by decide +kernel
theorem dX0_addRun_141 : decode cX0_addRun 141 = .ok (.goto 8, 3) := by decide +kernel
theorem dX0_addRun_144 : decode cX0_addRun 144 = .ok (.aload_n 0, 1) := by decide +kernel
theorem dX0_addRun_145 : decode cX0_addRun 145 = .ok (.iconst 1, 1) := by decide +kernel
theorem dX0_addRun_146 : decode cX0_addRun 146 = .ok (.putfield 25, 3) := by decide +kernel
theorem dX0_addRun_149 : decode cX0_addRun 149 = .ok (.return_, 1) := by decide +kernel
theorem dX0_addRows_0 : decode cX0_addRows 0 = .ok (.iconst 0, 1) := by decide +kernel
theorem dX0_addRows_1 : decode cX0_addRows 1 = .ok (.istore 4, 2) := by decide +kernel
theorem dX0_addRows_3 : decode cX0_addRows 3 = .ok (.iconst 0, 1) := by decide +kernel
theorem dX0_addRows_4 : decode cX0_addRows 4 = .ok (.istore 5, 2) := by decide +kernel
theorem dX0_addRows_6 : decode cX0_addRows 6 = .ok (.iload 5, 2) := by decide +kernel
theorem dX0_addRows_8 : decode cX0_addRows 8 = .ok (.aload_n 1, 1) := by decide +kernel
theorem dX0_addRows_9 : decode cX0_addRows 9 = .ok (.getfield 18, 3) := by decide +kernel
theorem dX0_addRows_12 : decode cX0_addRows 12 = .ok (.if_icmp .ge 49, 3) := by decide +kernel
theorem dX0_addRows_15 : decode cX0_addRows 15 = .ok (.iload 4, 2) := by decide +kernel
theorem dX0_addRows_17 : decode cX0_addRows 17 = .ok (.aload_n 1, 1) := by decide +kernel
theorem dX0_addRows_18 : decode cX0_addRows 18 = .ok (.getfield 15, 3) := by decide +kernel
theorem dX0_addRows_21 : decode cX0_addRows 21 = .ok (.iload 5, 2) := by decide +kernel
theorem dX0_addRows_23 : decode cX0_addRows 23 = .ok (.iaload, 1) := by decide +kernel
theorem dX0_addRows_24 : decode cX0_addRows 24 = .ok (.iadd, 1) := by decide +kernel
theorem dX0_addRows_25 : decode cX0_addRows 25 = .ok (.istore 6, 2) := by decide +kernel
theorem dX0_addRows_27 : decode cX0_addRows 27 = .ok (.aload_n 0, 1) := by decide +kernel
theorem dX0_addRows_28 : decode cX0_addRows 28 = .ok (.aload_n 1, 1) := by decide +kernel
theorem dX0_addRows_29 : decode cX0_addRows 29 = .ok (.getfield 9, 3) := by decide +kernel
theorem dX0_addRows_32 : decode cX0_addRows 32 = .ok (.iload 5, 2) := by decide +kernel
theorem dX0_addRows_34 : decode cX0_addRows 34 = .ok (.iaload, 1) := by decide +kernel
theorem dX0_addRows_35 : decode cX0_addRows 35 = .ok (.iload 6, 2) := by decide +kernel
theorem dX0_addRows_37 : decode cX0_addRows 37 = .ok (.iload_n 3, 1) := by decide +kernel
theorem dX0_addRows_38 : decode cX0_addRows 38 = .ok (.invokestatic 57, 3) := by decide +kernel
theorem dX0_addRows_41 : decode cX0_addRows 41 = .ok (.iload 4, 2) := by decide +kernel
theorem dX0_addRows_43 : decode cX0_addRows 43 = .ok (.iload_n 2, 1) := by decide +kernel
theorem dX0_addRows_44 : decode cX0_addRows 44 = .ok (.invokestatic 36, 3) := by decide +kernel
theorem dX0_addRows_47 : decode cX0_addRows 47 = .ok (.isub, 1) := by decide +kernel
theorem dX0_addRows_48 : decode cX0_addRows 48 = .ok (.invokevirtual 60, 3) := by decide +kernel
theorem dX0_addRows_51 : decode cX0_addRows 51 = .ok (.iload 6, 2) := by decide +kernel
theorem dX0_addRows_53 : decode cX0_addRows 53 = .ok (.istore 4, 2) := by decide +kernel
theorem dX0_addRows_55 : decode cX0_addRows 55 = .ok (.iinc 5 1, 3) := by decide +kernel
theorem dX0_addRows_58 : decode cX0_addRows 58 = .ok (.goto (-52), 3) := by decide +kernel
theorem dX0_addRows_61 : decode cX0_addRows 61 = .ok (.return_, 1) := by decide +kernel
theorem dX0_addTurned_0 : decode cX0_addTurned 0 = .ok (.aload_n 1, 1) := by decide +kernel
theorem dX0_addTurned_1 : decode cX0_addTurned 1 = .ok (.getfield 18, 3) := by decide +kernel
theorem dX0_addTurned_4 : decode cX0_addTurned 4 = .ok (.iconst 1, 1) := by decide +kernel
theorem dX0_addTurned_5 : decode cX0_addTurned 5 = .ok (.isub, 1) := by decide +kernel
theorem dX0_addTurned_6 : decode cX0_addTurned 6 = .ok (.istore_n 2, 1) := by decide +kernel
theorem dX0_addTurned_7 : decode cX0_addTurned 7 = .ok (.iload_n 2, 1) := by decide +kernel
theorem dX0_addTurned_8 : decode cX0_addTurned 8 = .ok (.ifCond .lt 25, 3) := by decide +kernel
theorem dX0_addTurned_11 : decode cX0_addTurned 11 = .ok (.aload_n 0, 1) := by decide +kernel
theorem dX0_addTurned_12 : decode cX0_addTurned 12 = .ok (.aload_n 1, 1) := by decide +kernel
theorem dX0_addTurned_13 : decode cX0_addTurned 13 = .ok (.getfield 9, 3) := by decide +kernel
theorem dX0_addTurned_16 : decode cX0_addTurned 16 = .ok (.iload_n 2, 1) := by decide +kernel
theorem dX0_addTurned_17 : decode cX0_addTurned 17 = .ok (.iaload, 1) := by decide +kernel
theorem dX0_addTurned_18 : decode cX0_addTurned 18 = .ok (.aload_n 1, 1) := by decide +kernel
theorem dX0_addTurned_19 : decode cX0_addTurned 19 = .ok (.getfield 15, 3) := by decide +kernel
theorem dX0_addTurned_22 : decode cX0_addTurned 22 = .ok (.iload_n 2, 1) := by decide +kernel
theorem dX0_addTurned_23 : decode cX0_addTurned 23 = .ok (.iaload, 1) := by decide +kernel
theorem dX0_addTurned_24 : decode cX0_addTurned 24 = .ok (.invokevirtual 60, 3) := by decide +kernel
theorem dX0_addTurned_27 : decode cX0_addTurned 27 = .ok (.iinc 2 (-1), 3) := by decide +kernel
theorem dX0_addTurned_30 : decode cX0_addTurned 30 = .ok (.goto (-23), 3) := by decide +kernel
theorem dX0_addTurned_33 : decode cX0_addTurned 33 = .ok (.return_, 1) := by decide +kernel
theorem dX1_init_0 : decode cX1_init 0 = .ok (.aload_n 0, 1) := by decide +kernel
theorem dX1_init_1 : decode cX1_init 1 = .ok (.invokespecial 3, 3) := by decide +kernel
theorem dX1_init_4 : decode cX1_init 4 = .ok (.aload_n 0, 1) := by decide +kernel
theorem dX1_init_5 : decode cX1_init 5 = .ok (.bipush 6, 2) := by decide +kernel
theorem dX1_init_7 : decode cX1_init 7 = .ok (.anewarray 9, 3) := by decide +kernel
theorem dX1_init_10 : decode cX1_init 10 = .ok (.putfield 11, 3) := by decide +kernel
theorem dX1_init_13 : decode cX1_init 13 = .ok (.iconst 0, 1) := by decide +kernel
theorem dX1_init_14 : decode cX1_init 14 = .ok (.istore_n 1, 1) := by decide +kernel
theorem dX1_init_15 : decode cX1_init 15 = .ok (.iload_n 1, 1) := by decide +kernel
theorem dX1_init_16 : decode cX1_init 16 = .ok (.bipush 6, 2) := by decide +kernel
theorem dX1_init_18 : decode cX1_init 18 = .ok (.if_icmp .ge 22, 3) := by decide +kernel
theorem dX1_init_21 : decode cX1_init 21 = .ok (.aload_n 0, 1) := by decide +kernel
theorem dX1_init_22 : decode cX1_init 22 = .ok (.getfield 11, 3) := by decide +kernel
theorem dX1_init_25 : decode cX1_init 25 = .ok (.iload_n 1, 1) := by decide +kernel
theorem dX1_init_26 : decode cX1_init 26 = .ok (.new 9, 3) := by decide +kernel
theorem dX1_init_29 : decode cX1_init 29 = .ok (.dup, 1) := by decide +kernel
theorem dX1_init_30 : decode cX1_init 30 = .ok (.invokespecial 17, 3) := by decide +kernel
theorem dX1_init_33 : decode cX1_init 33 = .ok (.aastore, 1) := by decide +kernel
theorem dX1_init_34 : decode cX1_init 34 = .ok (.iinc 1 1, 3) := by decide +kernel
theorem dX1_init_37 : decode cX1_init 37 = .ok (.goto (-22), 3) := by decide +kernel
theorem dX1_init_40 : decode cX1_init 40 = .ok (.return_, 1) := by decide +kernel
theorem dX1_kept_0 : decode cX1_kept 0 = .ok (.aload_n 0, 1) := by decide +kernel
theorem dX1_kept_1 : decode cX1_kept 1 = .ok (.getfield 18, 3) := by decide +kernel
theorem dX1_kept_4 : decode cX1_kept 4 = .ok (.ireturn, 1) := by decide +kernel
theorem dX1_record_0 : decode cX1_record 0 = .ok (.aload_n 0, 1) := by decide +kernel
theorem dX1_record_1 : decode cX1_record 1 = .ok (.getfield 11, 3) := by decide +kernel
theorem dX1_record_4 : decode cX1_record 4 = .ok (.aload_n 0, 1) := by decide +kernel
theorem dX1_record_5 : decode cX1_record 5 = .ok (.getfield 22, 3) := by decide +kernel
theorem dX1_record_8 : decode cX1_record 8 = .ok (.aload_n 0, 1) := by decide +kernel
theorem dX1_record_9 : decode cX1_record 9 = .ok (.getfield 18, 3) := by decide +kernel
theorem dX1_record_12 : decode cX1_record 12 = .ok (.iadd, 1) := by decide +kernel
theorem dX1_record_13 : decode cX1_record 13 = .ok (.bipush 6, 2) := by decide +kernel
theorem dX1_record_15 : decode cX1_record 15 = .ok (.irem, 1) := by decide +kernel
theorem dX1_record_16 : decode cX1_record 16 = .ok (.aaload, 1) := by decide +kernel
theorem dX1_record_17 : decode cX1_record 17 = .ok (.aload_n 1, 1) := by decide +kernel
theorem dX1_record_18 : decode cX1_record 18 = .ok (.invokevirtual 25, 3) := by decide +kernel
theorem dX1_record_21 : decode cX1_record 21 = .ok (.aload_n 0, 1) := by decide +kernel
theorem dX1_record_22 : decode cX1_record 22 = .ok (.getfield 18, 3) := by decide +kernel
theorem dX1_record_25 : decode cX1_record 25 = .ok (.bipush 6, 2) := by decide +kernel
theorem dX1_record_27 : decode cX1_record 27 = .ok (.if_icmp .ge 16, 3) := by decide +kernel
theorem dX1_record_30 : decode cX1_record 30 = .ok (.aload_n 0, 1) := by decide +kernel
theorem dX1_record_31 : decode cX1_record 31 = .ok (.dup, 1) := by decide +kernel
theorem dX1_record_32 : decode cX1_record 32 = .ok (.getfield 18, 3) := by decide +kernel
theorem dX1_record_35 : decode cX1_record 35 = .ok (.iconst 1, 1) := by decide +kernel
theorem dX1_record_36 : decode cX1_record 36 = .ok (.iadd, 1) := by decide +kernel
theorem dX1_record_37 : decode cX1_record 37 = .ok (.putfield 18, 3) := by decide +kernel
theorem dX1_record_40 : decode cX1_record 40 = .ok (.goto 16, 3) := by decide +kernel
theorem dX1_record_43 : decode cX1_record 43 = .ok (.aload_n 0, 1) := by decide +kernel
theorem dX1_record_44 : decode cX1_record 44 = .ok (.aload_n 0, 1) := by decide +kernel
theorem dX1_record_45 : decode cX1_record 45 = .ok (.getfield 22, 3) := by decide +kernel
theorem dX1_record_48 : decode cX1_record 48 = .ok (.iconst 1, 1) := by decide +kernel
theorem dX1_record_49 : decode cX1_record 49 = .ok (.iadd, 1) := by decide +kernel
theorem dX1_record_50 : decode cX1_record 50 = .ok (.bipush 6, 2) := by decide +kernel
theorem dX1_record_52 : decode cX1_record 52 = .ok (.irem, 1) := by decide +kernel
theorem dX1_record_53 : decode cX1_record 53 = .ok (.putfield 22, 3) := by decide +kernel
theorem dX1_record_56 : decode cX1_record 56 = .ok (.return_, 1) := by decide +kernel
theorem dX1_takeBack_0 : decode cX1_takeBack 0 = .ok (.aload_n 0, 1) := by decide +kernel
theorem dX1_takeBack_1 : decode cX1_takeBack 1 = .ok (.getfield 18, 3) := by decide +kernel
theorem dX1_takeBack_4 : decode cX1_takeBack 4 = .ok (.ifCond .le 34, 3) := by decide +kernel
theorem dX1_takeBack_7 : decode cX1_takeBack 7 = .ok (.aload_n 0, 1) := by decide +kernel
theorem dX1_takeBack_8 : decode cX1_takeBack 8 = .ok (.dup, 1) := by decide +kernel
theorem dX1_takeBack_9 : decode cX1_takeBack 9 = .ok (.getfield 18, 3) := by decide +kernel
theorem dX1_takeBack_12 : decode cX1_takeBack 12 = .ok (.iconst 1, 1) := by decide +kernel
theorem dX1_takeBack_13 : decode cX1_takeBack 13 = .ok (.isub, 1) := by decide +kernel
theorem dX1_takeBack_14 : decode cX1_takeBack 14 = .ok (.putfield 18, 3) := by decide +kernel
theorem dX1_takeBack_17 : decode cX1_takeBack 17 = .ok (.aload_n 1, 1) := by decide +kernel
theorem dX1_takeBack_18 : decode cX1_takeBack 18 = .ok (.aload_n 0, 1) := by decide +kernel
theorem dX1_takeBack_19 : decode cX1_takeBack 19 = .ok (.getfield 11, 3) := by decide +kernel
theorem dX1_takeBack_22 : decode cX1_takeBack 22 = .ok (.aload_n 0, 1) := by decide +kernel
theorem dX1_takeBack_23 : decode cX1_takeBack 23 = .ok (.getfield 22, 3) := by decide +kernel
theorem dX1_takeBack_26 : decode cX1_takeBack 26 = .ok (.aload_n 0, 1) := by decide +kernel
theorem dX1_takeBack_27 : decode cX1_takeBack 27 = .ok (.getfield 18, 3) := by decide +kernel
theorem dX1_takeBack_30 : decode cX1_takeBack 30 = .ok (.iadd, 1) := by decide +kernel
theorem dX1_takeBack_31 : decode cX1_takeBack 31 = .ok (.bipush 6, 2) := by decide +kernel
theorem dX1_takeBack_33 : decode cX1_takeBack 33 = .ok (.irem, 1) := by decide +kernel
theorem dX1_takeBack_34 : decode cX1_takeBack 34 = .ok (.aaload, 1) := by decide +kernel
theorem dX1_takeBack_35 : decode cX1_takeBack 35 = .ok (.invokevirtual 25, 3) := by decide +kernel
theorem dX1_takeBack_38 : decode cX1_takeBack 38 = .ok (.return_, 1) := by decide +kernel
theorem dX2_init_0 : decode cX2_init 0 = .ok (.aload_n 0, 1) := by decide +kernel
theorem dX2_init_1 : decode cX2_init 1 = .ok (.invokespecial 3, 3) := by decide +kernel
theorem dX2_init_4 : decode cX2_init 4 = .ok (.aload_n 0, 1) := by decide +kernel
theorem dX2_init_5 : decode cX2_init 5 = .ok (.new 9, 3) := by decide +kernel
theorem dX2_init_8 : decode cX2_init 8 = .ok (.dup, 1) := by decide +kernel
theorem dX2_init_9 : decode cX2_init 9 = .ok (.invokespecial 11, 3) := by decide +kernel
theorem dX2_init_12 : decode cX2_init 12 = .ok (.putfield 12, 3) := by decide +kernel
theorem dX2_init_15 : decode cX2_init 15 = .ok (.aload_n 0, 1) := by decide +kernel
theorem dX2_init_16 : decode cX2_init 16 = .ok (.bipush 40, 2) := by decide +kernel
theorem dX2_init_18 : decode cX2_init 18 = .ok (.newarray .int, 2) := by decide +kernel
theorem dX2_init_20 : decode cX2_init 20 = .ok (.putfield 18, 3) := by decide +kernel
theorem dX2_init_23 : decode cX2_init 23 = .ok (.aload_n 0, 1) := by decide +kernel
theorem dX2_init_24 : decode cX2_init 24 = .ok (.bipush 40, 2) := by decide +kernel
theorem dX2_init_26 : decode cX2_init 26 = .ok (.newarray .int, 2) := by decide +kernel
theorem dX2_init_28 : decode cX2_init 28 = .ok (.putfield 22, 3) := by decide +kernel
theorem dX2_init_31 : decode cX2_init 31 = .ok (.return_, 1) := by decide +kernel
theorem dX2_pad_0 : decode cX2_pad 0 = .ok (.aload_n 0, 1) := by decide +kernel
theorem dX2_pad_1 : decode cX2_pad 1 = .ok (.getfield 12, 3) := by decide +kernel
theorem dX2_pad_4 : decode cX2_pad 4 = .ok (.areturn, 1) := by decide +kernel
theorem dX2_column_0 : decode cX2_column 0 = .ok (.aload_n 0, 1) := by decide +kernel
theorem dX2_column_1 : decode cX2_column 1 = .ok (.getfield 25, 3) := by decide +kernel
theorem dX2_column_4 : decode cX2_column 4 = .ok (.ireturn, 1) := by decide +kernel
theorem dX2_kind_0 : decode cX2_kind 0 = .ok (.aload_n 0, 1) := by decide +kernel
theorem dX2_kind_1 : decode cX2_kind 1 = .ok (.getfield 29, 3) := by decide +kernel
theorem dX2_kind_4 : decode cX2_kind 4 = .ok (.ireturn, 1) := by decide +kernel
theorem dX2_row_0 : decode cX2_row 0 = .ok (.aload_n 0, 1) := by decide +kernel
theorem dX2_row_1 : decode cX2_row 1 = .ok (.getfield 33, 3) := by decide +kernel
theorem dX2_row_4 : decode cX2_row 4 = .ok (.ireturn, 1) := by decide +kernel
theorem dX2_operand_0 : decode cX2_operand 0 = .ok (.aload_n 0, 1) := by decide +kernel
theorem dX2_operand_1 : decode cX2_operand 1 = .ok (.getfield 36, 3) := by decide +kernel
theorem dX2_operand_4 : decode cX2_operand 4 = .ok (.ireturn, 1) := by decide +kernel
theorem dX2_runs_0 : decode cX2_runs 0 = .ok (.aload_n 0, 1) := by decide +kernel
theorem dX2_runs_1 : decode cX2_runs 1 = .ok (.getfield 39, 3) := by decide +kernel
theorem dX2_runs_4 : decode cX2_runs 4 = .ok (.ireturn, 1) := by decide +kernel
theorem dX2_valueOfRun_0 : decode cX2_valueOfRun 0 = .ok (.iload_n 1, 1) := by decide +kernel
theorem dX2_valueOfRun_1 : decode cX2_valueOfRun 1 = .ok (.ifCond .lt 20, 3) := by decide +kernel
theorem dX2_valueOfRun_4 : decode cX2_valueOfRun 4 = .ok (.iload_n 1, 1) := by decide +kernel
theorem dX2_valueOfRun_5 : decode cX2_valueOfRun 5 = .ok (.aload_n 0, 1) := by decide +kernel
theorem dX2_valueOfRun_6 : decode cX2_valueOfRun 6 = .ok (.getfield 39, 3) := by decide +kernel
theorem dX2_valueOfRun_9 : decode cX2_valueOfRun 9 = .ok (.if_icmp .ge 12, 3) := by decide +kernel
theorem dX2_valueOfRun_12 : decode cX2_valueOfRun 12 = .ok (.aload_n 0, 1) := by decide +kernel
theorem dX2_valueOfRun_13 : decode cX2_valueOfRun 13 = .ok (.getfield 18, 3) := by decide +kernel
theorem dX2_valueOfRun_16 : decode cX2_valueOfRun 16 = .ok (.iload_n 1, 1) := by decide +kernel
theorem dX2_valueOfRun_17 : decode cX2_valueOfRun 17 = .ok (.iaload, 1) := by decide +kernel
theorem dX2_valueOfRun_18 : decode cX2_valueOfRun 18 = .ok (.goto 5, 3) := by decide +kernel
theorem dX2_valueOfRun_21 : decode cX2_valueOfRun 21 = .ok (.bipush (-6), 2) := by decide +kernel
theorem dX2_valueOfRun_23 : decode cX2_valueOfRun 23 = .ok (.ireturn, 1) := by decide +kernel
theorem dX2_lengthOfRun_0 : decode cX2_lengthOfRun 0 = .ok (.iload_n 1, 1) := by decide +kernel
theorem dX2_lengthOfRun_1 : decode cX2_lengthOfRun 1 = .ok (.ifCond .lt 20, 3) := by decide +kernel
theorem dX2_lengthOfRun_4 : decode cX2_lengthOfRun 4 = .ok (.iload_n 1, 1) := by decide +kernel
theorem dX2_lengthOfRun_5 : decode cX2_lengthOfRun 5 = .ok (.aload_n 0, 1) := by decide +kernel
theorem dX2_lengthOfRun_6 : decode cX2_lengthOfRun 6 = .ok (.getfield 39, 3) := by decide +kernel
theorem dX2_lengthOfRun_9 : decode cX2_lengthOfRun 9 = .ok (.if_icmp .ge 12, 3) := by decide +kernel
theorem dX2_lengthOfRun_12 : decode cX2_lengthOfRun 12 = .ok (.aload_n 0, 1) := by decide +kernel
theorem dX2_lengthOfRun_13 : decode cX2_lengthOfRun 13 = .ok (.getfield 22, 3) := by decide +kernel
theorem dX2_lengthOfRun_16 : decode cX2_lengthOfRun 16 = .ok (.iload_n 1, 1) := by decide +kernel
theorem dX2_lengthOfRun_17 : decode cX2_lengthOfRun 17 = .ok (.iaload, 1) := by decide +kernel
theorem dX2_lengthOfRun_18 : decode cX2_lengthOfRun 18 = .ok (.goto 4, 3) := by decide +kernel
theorem dX2_lengthOfRun_21 : decode cX2_lengthOfRun 21 = .ok (.iconst 0, 1) := by decide +kernel
theorem dX2_lengthOfRun_22 : decode cX2_lengthOfRun 22 = .ok (.ireturn, 1) := by decide +kernel
theorem dX2_start_0 : decode cX2_start 0 = .ok (.aload_n 0, 1) := by decide +kernel
theorem dX2_start_1 : decode cX2_start 1 = .ok (.iconst 0, 1) := by decide +kernel
theorem dX2_start_2 : decode cX2_start 2 = .ok (.putfield 42, 3) := by decide +kernel
theorem dX2_start_5 : decode cX2_start 5 = .ok (.return_, 1) := by decide +kernel
theorem dX2_firstFault_0 : decode cX2_firstFault 0 = .ok (.aload_n 0, 1) := by decide +kernel
theorem dX2_firstFault_1 : decode cX2_firstFault 1 = .ok (.invokevirtual 45, 3) := by decide +kernel
theorem dX2_firstFault_4 : decode cX2_firstFault 4 = .ok (.iconst 0, 1) := by decide +kernel
theorem dX2_firstFault_5 : decode cX2_firstFault 5 = .ok (.istore_n 1, 1) := by decide +kernel
theorem dX2_firstFault_6 : decode cX2_firstFault 6 = .ok (.iload_n 1, 1) := by decide +kernel
theorem dX2_firstFault_7 : decode cX2_firstFault 7 = .ok (.bipush 80, 2) := by decide +kernel
theorem dX2_firstFault_9 : decode cX2_firstFault 9 = .ok (.if_icmp .ge 54, 3) := by decide +kernel
theorem dX2_firstFault_12 : decode cX2_firstFault 12 = .ok (.aload_n 0, 1) := by decide +kernel
theorem dX2_firstFault_13 : decode cX2_firstFault 13 = .ok (.invokevirtual 48, 3) := by decide +kernel
theorem dX2_firstFault_16 : decode cX2_firstFault 16 = .ok (.ifCond .ne 8, 3) := by decide +kernel
theorem dX2_firstFault_19 : decode cX2_firstFault 19 = .ok (.aload_n 0, 1) := by decide +kernel
theorem dX2_firstFault_20 : decode cX2_firstFault 20 = .ok (.getfield 42, 3) := by decide +kernel
theorem dX2_firstFault_23 : decode cX2_firstFault 23 = .ok (.ireturn, 1) := by decide +kernel
theorem dX2_firstFault_24 : decode cX2_firstFault 24 = .ok (.aload_n 0, 1) := by decide +kernel
theorem dX2_firstFault_25 : decode cX2_firstFault 25 = .ok (.bipush 59, 2) := by decide +kernel
theorem dX2_firstFault_27 : decode cX2_firstFault 27 = .ok (.invokevirtual 52, 3) := by decide +kernel
theorem dX2_firstFault_30 : decode cX2_firstFault 30 = .ok (.ifCond .ne 27, 3) := by decide +kernel
theorem dX2_firstFault_33 : decode cX2_firstFault 33 = .ok (.aload_n 0, 1) := by decide +kernel
theorem dX2_firstFault_34 : decode cX2_firstFault 34 = .ok (.getfield 42, 3) := by decide +kernel
theorem dX2_firstFault_37 : decode cX2_firstFault 37 = .ok (.aload_n 0, 1) := by decide +kernel
theorem dX2_firstFault_38 : decode cX2_firstFault 38 = .ok (.getfield 12, 3) := by decide +kernel
theorem dX2_firstFault_41 : decode cX2_firstFault 41 = .ok (.invokevirtual 56, 3) := by decide +kernel
theorem dX2_firstFault_44 : decode cX2_firstFault 44 = .ok (.if_icmp .ne 8, 3) := by decide +kernel
theorem dX2_firstFault_47 : decode cX2_firstFault 47 = .ok (.bipush (-6), 2) := by decide +kernel
theorem dX2_firstFault_49 : decode cX2_firstFault 49 = .ok (.goto 7, 3) := by decide +kernel
theorem dX2_firstFault_52 : decode cX2_firstFault 52 = .ok (.aload_n 0, 1) := by decide +kernel
theorem dX2_firstFault_53 : decode cX2_firstFault 53 = .ok (.getfield 42, 3) := by decide +kernel
theorem dX2_firstFault_56 : decode cX2_firstFault 56 = .ok (.ireturn, 1) := by decide +kernel
theorem dX2_firstFault_57 : decode cX2_firstFault 57 = .ok (.iinc 1 1, 3) := by decide +kernel
theorem dX2_firstFault_60 : decode cX2_firstFault 60 = .ok (.goto (-54), 3) := by decide +kernel
theorem dX2_firstFault_63 : decode cX2_firstFault 63 = .ok (.aload_n 0, 1) := by decide +kernel
theorem dX2_firstFault_64 : decode cX2_firstFault 64 = .ok (.getfield 42, 3) := by decide +kernel
theorem dX2_firstFault_67 : decode cX2_firstFault 67 = .ok (.ireturn, 1) := by decide +kernel
theorem dX2_readOrder_0 : decode cX2_readOrder 0 = .ok (.aload_n 0, 1) := by decide +kernel
theorem dX2_readOrder_1 : decode cX2_readOrder 1 = .ok (.iconst 3, 1) := by decide +kernel
theorem dX2_readOrder_2 : decode cX2_readOrder 2 = .ok (.invokevirtual 60, 3) := by decide +kernel
theorem dX2_readOrder_5 : decode cX2_readOrder 5 = .ok (.ifCond .ne 5, 3) := by decide +kernel
theorem dX2_readOrder_8 : decode cX2_readOrder 8 = .ok (.iconst 0, 1) := by decide +kernel
theorem dX2_readOrder_9 : decode cX2_readOrder 9 = .ok (.ireturn, 1) := by decide +kernel
theorem dX2_readOrder_10 : decode cX2_readOrder 10 = .ok (.aload_n 0, 1) := by decide +kernel
theorem dX2_readOrder_11 : decode cX2_readOrder 11 = .ok (.aload_n 0, 1) := by decide +kernel
theorem dX2_readOrder_12 : decode cX2_readOrder 12 = .ok (.getfield 64, 3) := by decide +kernel
theorem dX2_readOrder_15 : decode cX2_readOrder 15 = .ok (.putfield 25, 3) := by decide +kernel
theorem dX2_readOrder_18 : decode cX2_readOrder 18 = .ok (.aload_n 0, 1) := by decide +kernel
theorem dX2_readOrder_19 : decode cX2_readOrder 19 = .ok (.aload_n 0, 1) := by decide +kernel
theorem dX2_readOrder_20 : decode cX2_readOrder 20 = .ok (.getfield 12, 3) := by decide +kernel
theorem dX2_readOrder_23 : decode cX2_readOrder 23 = .ok (.aload_n 0, 1) := by decide +kernel
theorem dX2_readOrder_24 : decode cX2_readOrder 24 = .ok (.getfield 42, 3) := by decide +kernel
theorem dX2_readOrder_27 : decode cX2_readOrder 27 = .ok (.invokevirtual 67, 3) := by decide +kernel
theorem dX2_readOrder_30 : decode cX2_readOrder 30 = .ok (.putfield 29, 3) := by decide +kernel
theorem dX2_readOrder_33 : decode cX2_readOrder 33 = .ok (.aload_n 0, 1) := by decide +kernel
theorem dX2_readOrder_34 : decode cX2_readOrder 34 = .ok (.bipush 61, 2) := by decide +kernel
theorem dX2_readOrder_36 : decode cX2_readOrder 36 = .ok (.invokevirtual 52, 3) := by decide +kernel
theorem dX2_readOrder_39 : decode cX2_readOrder 39 = .ok (.ifCond .ne 12, 3) := by decide +kernel
theorem dX2_readOrder_42 : decode cX2_readOrder 42 = .ok (.aload_n 0, 1) := by decide +kernel
theorem dX2_readOrder_43 : decode cX2_readOrder 43 = .ok (.bipush 43, 2) := by decide +kernel
theorem dX2_readOrder_45 : decode cX2_readOrder 45 = .ok (.invokevirtual 52, 3) := by decide +kernel
theorem dX2_readOrder_48 : decode cX2_readOrder 48 = .ok (.ifCond .eq 8, 3) := by decide +kernel
theorem dX2_readOrder_51 : decode cX2_readOrder 51 = .ok (.aload_n 0, 1) := by decide +kernel
theorem dX2_readOrder_52 : decode cX2_readOrder 52 = .ok (.invokevirtual 71, 3) := by decide +kernel
theorem dX2_readOrder_55 : decode cX2_readOrder 55 = .ok (.ireturn, 1) := by decide +kernel
theorem dX2_readOrder_56 : decode cX2_readOrder 56 = .ok (.aload_n 0, 1) := by decide +kernel
theorem dX2_readOrder_57 : decode cX2_readOrder 57 = .ok (.bipush 45, 2) := by decide +kernel
theorem dX2_readOrder_59 : decode cX2_readOrder 59 = .ok (.invokevirtual 52, 3) := by decide +kernel
theorem dX2_readOrder_62 : decode cX2_readOrder 62 = .ok (.ifCond .eq 39, 3) := by decide +kernel
theorem dX2_readOrder_65 : decode cX2_readOrder 65 = .ok (.aload_n 0, 1) := by decide +kernel
theorem dX2_readOrder_66 : decode cX2_readOrder 66 = .ok (.invokevirtual 74, 3) := by decide +kernel
theorem dX2_readOrder_69 : decode cX2_readOrder 69 = .ok (.ifCond .eq 30, 3) := by decide +kernel
theorem dX2_readOrder_72 : decode cX2_readOrder 72 = .ok (.aload_n 0, 1) := by decide +kernel
theorem dX2_readOrder_73 : decode cX2_readOrder 73 = .ok (.bipush 42, 2) := by decide +kernel
theorem dX2_readOrder_75 : decode cX2_readOrder 75 = .ok (.invokevirtual 52, 3) := by decide +kernel
theorem dX2_readOrder_78 : decode cX2_readOrder 78 = .ok (.ifCond .eq 21, 3) := by decide +kernel
theorem dX2_readOrder_81 : decode cX2_readOrder 81 = .ok (.aload_n 0, 1) := by decide +kernel
theorem dX2_readOrder_82 : decode cX2_readOrder 82 = .ok (.invokevirtual 77, 3) := by decide +kernel
theorem dX2_readOrder_85 : decode cX2_readOrder 85 = .ok (.ifCond .eq 14, 3) := by decide +kernel
theorem dX2_readOrder_88 : decode cX2_readOrder 88 = .ok (.aload_n 0, 1) := by decide +kernel
theorem dX2_readOrder_89 : decode cX2_readOrder 89 = .ok (.invokevirtual 80, 3) := by decide +kernel
theorem dX2_readOrder_92 : decode cX2_readOrder 92 = .ok (.ifCond .eq 7, 3) := by decide +kernel
theorem dX2_readOrder_95 : decode cX2_readOrder 95 = .ok (.iconst 1, 1) := by decide +kernel
theorem dX2_readOrder_96 : decode cX2_readOrder 96 = .ok (.goto 4, 3) := by decide +kernel
theorem dX2_readOrder_99 : decode cX2_readOrder 99 = .ok (.iconst 0, 1) := by decide +kernel
theorem dX2_readOrder_100 : decode cX2_readOrder 100 = .ok (.ireturn, 1) := by decide +kernel
theorem dX2_readOrder_101 : decode cX2_readOrder 101 = .ok (.aload_n 0, 1) := by decide +kernel
theorem dX2_readOrder_102 : decode cX2_readOrder 102 = .ok (.bipush 64, 2) := by decide +kernel
theorem dX2_readOrder_104 : decode cX2_readOrder 104 = .ok (.invokevirtual 52, 3) := by decide +kernel
theorem dX2_readOrder_107 : decode cX2_readOrder 107 = .ok (.ifCond .eq 41, 3) := by decide +kernel
theorem dX2_readOrder_110 : decode cX2_readOrder 110 = .ok (.aload_n 0, 1) := by decide +kernel
theorem dX2_readOrder_111 : decode cX2_readOrder 111 = .ok (.invokevirtual 74, 3) := by decide +kernel
theorem dX2_readOrder_114 : decode cX2_readOrder 114 = .ok (.ifCond .eq 32, 3) := by decide +kernel
theorem dX2_readOrder_117 : decode cX2_readOrder 117 = .ok (.aload_n 0, 1) := by decide +kernel
theorem dX2_readOrder_118 : decode cX2_readOrder 118 = .ok (.bipush 61, 2) := by decide +kernel
theorem dX2_readOrder_120 : decode cX2_readOrder 120 = .ok (.invokevirtual 52, 3) := by decide +kernel
theorem dX2_readOrder_123 : decode cX2_readOrder 123 = .ok (.ifCond .eq 23, 3) := by decide +kernel
theorem dX2_readOrder_126 : decode cX2_readOrder 126 = .ok (.aload_n 0, 1) := by decide +kernel
theorem dX2_readOrder_127 : decode cX2_readOrder 127 = .ok (.bipush 9, 2) := by decide +kernel
theorem dX2_readOrder_129 : decode cX2_readOrder 129 = .ok (.invokevirtual 60, 3) := by decide +kernel
theorem dX2_readOrder_132 : decode cX2_readOrder 132 = .ok (.ifCond .eq 14, 3) := by decide +kernel
theorem dX2_readOrder_135 : decode cX2_readOrder 135 = .ok (.aload_n 0, 1) := by decide +kernel
theorem dX2_readOrder_136 : decode cX2_readOrder 136 = .ok (.invokevirtual 80, 3) := by decide +kernel
theorem dX2_readOrder_139 : decode cX2_readOrder 139 = .ok (.ifCond .eq 7, 3) := by decide +kernel
theorem dX2_readOrder_142 : decode cX2_readOrder 142 = .ok (.iconst 1, 1) := by decide +kernel
theorem dX2_readOrder_143 : decode cX2_readOrder 143 = .ok (.goto 4, 3) := by decide +kernel
theorem dX2_readOrder_146 : decode cX2_readOrder 146 = .ok (.iconst 0, 1) := by decide +kernel
theorem dX2_readOrder_147 : decode cX2_readOrder 147 = .ok (.ireturn, 1) := by decide +kernel
theorem dX2_readOrder_148 : decode cX2_readOrder 148 = .ok (.aload_n 0, 1) := by decide +kernel
theorem dX2_readOrder_149 : decode cX2_readOrder 149 = .ok (.bipush 33, 2) := by decide +kernel
theorem dX2_readOrder_151 : decode cX2_readOrder 151 = .ok (.invokevirtual 52, 3) := by decide +kernel
theorem dX2_readOrder_154 : decode cX2_readOrder 154 = .ok (.ireturn, 1) := by decide +kernel
theorem dX2_passes_0 : decode cX2_passes 0 = .ok (.aload_n 0, 1) := by decide +kernel
theorem dX2_passes_1 : decode cX2_passes 1 = .ok (.getfield 12, 3) := by decide +kernel
theorem dX2_passes_4 : decode cX2_passes 4 = .ok (.aload_n 0, 1) := by decide +kernel
theorem dX2_passes_5 : decode cX2_passes 5 = .ok (.getfield 42, 3) := by decide +kernel
theorem dX2_passes_8 : decode cX2_passes 8 = .ok (.invokevirtual 67, 3) := by decide +kernel
theorem dX2_passes_11 : decode cX2_passes 11 = .ok (.iload_n 1, 1) := by decide +kernel
theorem dX2_passes_12 : decode cX2_passes 12 = .ok (.if_icmp .eq 5, 3) := by decide +kernel
theorem dX2_passes_15 : decode cX2_passes 15 = .ok (.iconst 0, 1) := by decide +kernel
theorem dX2_passes_16 : decode cX2_passes 16 = .ok (.ireturn, 1) := by decide +kernel
theorem dX2_passes_17 : decode cX2_passes 17 = .ok (.aload_n 0, 1) := by decide +kernel
theorem dX2_passes_18 : decode cX2_passes 18 = .ok (.dup, 1) := by decide +kernel
theorem dX2_passes_19 : decode cX2_passes 19 = .ok (.getfield 42, 3) := by decide +kernel
theorem dX2_passes_22 : decode cX2_passes 22 = .ok (.iconst 1, 1) := by decide +kernel
theorem dX2_passes_23 : decode cX2_passes 23 = .ok (.iadd, 1) := by decide +kernel
theorem dX2_passes_24 : decode cX2_passes 24 = .ok (.putfield 42, 3) := by decide +kernel
theorem dX2_passes_27 : decode cX2_passes 27 = .ok (.iconst 1, 1) := by decide +kernel
theorem dX2_passes_28 : decode cX2_passes 28 = .ok (.ireturn, 1) := by decide +kernel
theorem dX2_readRow_0 : decode cX2_readRow 0 = .ok (.aload_n 0, 1) := by decide +kernel
theorem dX2_readRow_1 : decode cX2_readRow 1 = .ok (.invokevirtual 77, 3) := by decide +kernel
theorem dX2_readRow_4 : decode cX2_readRow 4 = .ok (.ifCond .ne 5, 3) := by decide +kernel
theorem dX2_readRow_7 : decode cX2_readRow 7 = .ok (.iconst 0, 1) := by decide +kernel
theorem dX2_readRow_8 : decode cX2_readRow 8 = .ok (.ireturn, 1) := by decide +kernel
theorem dX2_readRow_9 : decode cX2_readRow 9 = .ok (.aload_n 0, 1) := by decide +kernel
theorem dX2_readRow_10 : decode cX2_readRow 10 = .ok (.aload_n 0, 1) := by decide +kernel
theorem dX2_readRow_11 : decode cX2_readRow 11 = .ok (.getfield 64, 3) := by decide +kernel
theorem dX2_readRow_14 : decode cX2_readRow 14 = .ok (.putfield 33, 3) := by decide +kernel
theorem dX2_readRow_17 : decode cX2_readRow 17 = .ok (.iconst 1, 1) := by decide +kernel
theorem dX2_readRow_18 : decode cX2_readRow 18 = .ok (.ireturn, 1) := by decide +kernel
theorem dX2_keepOperand_0 : decode cX2_keepOperand 0 = .ok (.aload_n 0, 1) := by decide +kernel
theorem dX2_keepOperand_1 : decode cX2_keepOperand 1 = .ok (.aload_n 0, 1) := by decide +kernel
theorem dX2_keepOperand_2 : decode cX2_keepOperand 2 = .ok (.getfield 64, 3) := by decide +kernel
theorem dX2_keepOperand_5 : decode cX2_keepOperand 5 = .ok (.putfield 36, 3) := by decide +kernel
theorem dX2_keepOperand_8 : decode cX2_keepOperand 8 = .ok (.iconst 1, 1) := by decide +kernel
theorem dX2_keepOperand_9 : decode cX2_keepOperand 9 = .ok (.ireturn, 1) := by decide +kernel
theorem dX2_readRuns_0 : decode cX2_readRuns 0 = .ok (.aload_n 0, 1) := by decide +kernel
theorem dX2_readRuns_1 : decode cX2_readRuns 1 = .ok (.iconst 0, 1) := by decide +kernel
theorem dX2_readRuns_2 : decode cX2_readRuns 2 = .ok (.putfield 39, 3) := by decide +kernel
theorem dX2_readRuns_5 : decode cX2_readRuns 5 = .ok (.iconst 0, 1) := by decide +kernel
theorem dX2_readRuns_6 : decode cX2_readRuns 6 = .ok (.istore_n 1, 1) := by decide +kernel
theorem dX2_readRuns_7 : decode cX2_readRuns 7 = .ok (.iload_n 1, 1) := by decide +kernel
theorem dX2_readRuns_8 : decode cX2_readRuns 8 = .ok (.bipush 40, 2) := by decide +kernel
theorem dX2_readRuns_10 : decode cX2_readRuns 10 = .ok (.if_icmp .ge 83, 3) := by decide +kernel
theorem dX2_readRuns_13 : decode cX2_readRuns 13 = .ok (.aload_n 0, 1) := by decide +kernel
theorem dX2_readRuns_14 : decode cX2_readRuns 14 = .ok (.bipush 9, 2) := by decide +kernel
theorem dX2_readRuns_16 : decode cX2_readRuns 16 = .ok (.invokevirtual 60, 3) := by decide +kernel
theorem dX2_readRuns_19 : decode cX2_readRuns 19 = .ok (.ifCond .ne 5, 3) := by decide +kernel
theorem dX2_readRuns_22 : decode cX2_readRuns 22 = .ok (.iconst 0, 1) := by decide +kernel
theorem dX2_readRuns_23 : decode cX2_readRuns 23 = .ok (.ireturn, 1) := by decide +kernel
theorem dX2_readRuns_24 : decode cX2_readRuns 24 = .ok (.aload_n 0, 1) := by decide +kernel
theorem dX2_readRuns_25 : decode cX2_readRuns 25 = .ok (.getfield 18, 3) := by decide +kernel
theorem dX2_readRuns_28 : decode cX2_readRuns 28 = .ok (.iload_n 1, 1) := by decide +kernel
theorem dX2_readRuns_29 : decode cX2_readRuns 29 = .ok (.aload_n 0, 1) := by decide +kernel
theorem dX2_readRuns_30 : decode cX2_readRuns 30 = .ok (.getfield 64, 3) := by decide +kernel
theorem dX2_readRuns_33 : decode cX2_readRuns 33 = .ok (.iastore, 1) := by decide +kernel
theorem dX2_readRuns_34 : decode cX2_readRuns 34 = .ok (.aload_n 0, 1) := by decide +kernel
theorem dX2_readRuns_35 : decode cX2_readRuns 35 = .ok (.getfield 22, 3) := by decide +kernel
theorem dX2_readRuns_38 : decode cX2_readRuns 38 = .ok (.iload_n 1, 1) := by decide +kernel
theorem dX2_readRuns_39 : decode cX2_readRuns 39 = .ok (.iconst 1, 1) := by decide +kernel
theorem dX2_readRuns_40 : decode cX2_readRuns 40 = .ok (.iastore, 1) := by decide +kernel
theorem dX2_readRuns_41 : decode cX2_readRuns 41 = .ok (.aload_n 0, 1) := by decide +kernel
theorem dX2_readRuns_42 : decode cX2_readRuns 42 = .ok (.bipush 42, 2) := by decide +kernel
theorem dX2_readRuns_44 : decode cX2_readRuns 44 = .ok (.invokevirtual 52, 3) := by decide +kernel
theorem dX2_readRuns_47 : decode cX2_readRuns 47 = .ok (.ifCond .eq 22, 3) := by decide +kernel
theorem dX2_readRuns_50 : decode cX2_readRuns 50 = .ok (.aload_n 0, 1) := by decide +kernel
theorem dX2_readRuns_51 : decode cX2_readRuns 51 = .ok (.invokevirtual 77, 3) := by decide +kernel
theorem dX2_readRuns_54 : decode cX2_readRuns 54 = .ok (.ifCond .ne 5, 3) := by decide +kernel
theorem dX2_readRuns_57 : decode cX2_readRuns 57 = .ok (.iconst 0, 1) := by decide +kernel
theorem dX2_readRuns_58 : decode cX2_readRuns 58 = .ok (.ireturn, 1) := by decide +kernel
theorem dX2_readRuns_59 : decode cX2_readRuns 59 = .ok (.aload_n 0, 1) := by decide +kernel
theorem dX2_readRuns_60 : decode cX2_readRuns 60 = .ok (.getfield 22, 3) := by decide +kernel
theorem dX2_readRuns_63 : decode cX2_readRuns 63 = .ok (.iload_n 1, 1) := by decide +kernel
theorem dX2_readRuns_64 : decode cX2_readRuns 64 = .ok (.aload_n 0, 1) := by decide +kernel
theorem dX2_readRuns_65 : decode cX2_readRuns 65 = .ok (.getfield 64, 3) := by decide +kernel
theorem dX2_readRuns_68 : decode cX2_readRuns 68 = .ok (.iastore, 1) := by decide +kernel
theorem dX2_readRuns_69 : decode cX2_readRuns 69 = .ok (.aload_n 0, 1) := by decide +kernel
theorem dX2_readRuns_70 : decode cX2_readRuns 70 = .ok (.iload_n 1, 1) := by decide +kernel
theorem dX2_readRuns_71 : decode cX2_readRuns 71 = .ok (.iconst 1, 1) := by decide +kernel
theorem dX2_readRuns_72 : decode cX2_readRuns 72 = .ok (.iadd, 1) := by decide +kernel
theorem dX2_readRuns_73 : decode cX2_readRuns 73 = .ok (.putfield 39, 3) := by decide +kernel
theorem dX2_readRuns_76 : decode cX2_readRuns 76 = .ok (.aload_n 0, 1) := by decide +kernel
theorem dX2_readRuns_77 : decode cX2_readRuns 77 = .ok (.bipush 44, 2) := by decide +kernel
theorem dX2_readRuns_79 : decode cX2_readRuns 79 = .ok (.invokevirtual 52, 3) := by decide +kernel
theorem dX2_readRuns_82 : decode cX2_readRuns 82 = .ok (.ifCond .ne 5, 3) := by decide +kernel
theorem dX2_readRuns_85 : decode cX2_readRuns 85 = .ok (.iconst 1, 1) := by decide +kernel
theorem dX2_readRuns_86 : decode cX2_readRuns 86 = .ok (.ireturn, 1) := by decide +kernel
theorem dX2_readRuns_87 : decode cX2_readRuns 87 = .ok (.iinc 1 1, 3) := by decide +kernel
theorem dX2_readRuns_90 : decode cX2_readRuns 90 = .ok (.goto (-83), 3) := by decide +kernel
theorem dX2_readRuns_93 : decode cX2_readRuns 93 = .ok (.iconst 0, 1) := by decide +kernel
theorem dX2_readRuns_94 : decode cX2_readRuns 94 = .ok (.ireturn, 1) := by decide +kernel
theorem dX2_readNumber_0 : decode cX2_readNumber 0 = .ok (.aload_n 0, 1) := by decide +kernel
theorem dX2_readNumber_1 : decode cX2_readNumber 1 = .ok (.bipush 9, 2) := by decide +kernel
theorem dX2_readNumber_3 : decode cX2_readNumber 3 = .ok (.invokevirtual 60, 3) := by decide +kernel
theorem dX2_readNumber_6 : decode cX2_readNumber 6 = .ok (.ifCond .ne 5, 3) := by decide +kernel
theorem dX2_readNumber_9 : decode cX2_readNumber 9 = .ok (.iconst 0, 1) := by decide +kernel
theorem dX2_readNumber_10 : decode cX2_readNumber 10 = .ok (.ireturn, 1) := by decide +kernel
theorem dX2_readNumber_11 : decode cX2_readNumber 11 = .ok (.aload_n 0, 1) := by decide +kernel
theorem dX2_readNumber_12 : decode cX2_readNumber 12 = .ok (.getfield 64, 3) := by decide +kernel
theorem dX2_readNumber_15 : decode cX2_readNumber 15 = .ok (.istore_n 1, 1) := by decide +kernel
theorem dX2_readNumber_16 : decode cX2_readNumber 16 = .ok (.iconst 0, 1) := by decide +kernel
theorem dX2_readNumber_17 : decode cX2_readNumber 17 = .ok (.istore_n 2, 1) := by decide +kernel
theorem dX2_readNumber_18 : decode cX2_readNumber 18 = .ok (.iload_n 2, 1) := by decide +kernel
theorem dX2_readNumber_19 : decode cX2_readNumber 19 = .ok (.iconst 2, 1) := by decide +kernel
theorem dX2_readNumber_20 : decode cX2_readNumber 20 = .ok (.if_icmp .ge 32, 3) := by decide +kernel
theorem dX2_readNumber_23 : decode cX2_readNumber 23 = .ok (.iload_n 1, 1) := by decide +kernel
theorem dX2_readNumber_24 : decode cX2_readNumber 24 = .ok (.ifCond .le 28, 3) := by decide +kernel
theorem dX2_readNumber_27 : decode cX2_readNumber 27 = .ok (.aload_n 0, 1) := by decide +kernel
theorem dX2_readNumber_28 : decode cX2_readNumber 28 = .ok (.bipush 9, 2) := by decide +kernel
theorem dX2_readNumber_30 : decode cX2_readNumber 30 = .ok (.invokevirtual 60, 3) := by decide +kernel
theorem dX2_readNumber_33 : decode cX2_readNumber 33 = .ok (.ifCond .eq 19, 3) := by decide +kernel
theorem dX2_readNumber_36 : decode cX2_readNumber 36 = .ok (.bipush 10, 2) := by decide +kernel
theorem dX2_readNumber_38 : decode cX2_readNumber 38 = .ok (.iload_n 1, 1) := by decide +kernel
theorem dX2_readNumber_39 : decode cX2_readNumber 39 = .ok (.imul, 1) := by decide +kernel
theorem dX2_readNumber_40 : decode cX2_readNumber 40 = .ok (.aload_n 0, 1) := by decide +kernel
theorem dX2_readNumber_41 : decode cX2_readNumber 41 = .ok (.getfield 64, 3) := by decide +kernel
theorem dX2_readNumber_44 : decode cX2_readNumber 44 = .ok (.iadd, 1) := by decide +kernel
theorem dX2_readNumber_45 : decode cX2_readNumber 45 = .ok (.istore_n 1, 1) := by decide +kernel
theorem dX2_readNumber_46 : decode cX2_readNumber 46 = .ok (.iinc 2 1, 3) := by decide +kernel
theorem dX2_readNumber_49 : decode cX2_readNumber 49 = .ok (.goto (-31), 3) := by decide +kernel
theorem dX2_readNumber_52 : decode cX2_readNumber 52 = .ok (.aload_n 0, 1) := by decide +kernel
theorem dX2_readNumber_53 : decode cX2_readNumber 53 = .ok (.iload_n 1, 1) := by decide +kernel
theorem dX2_readNumber_54 : decode cX2_readNumber 54 = .ok (.putfield 64, 3) := by decide +kernel
theorem dX2_readNumber_57 : decode cX2_readNumber 57 = .ok (.iconst 1, 1) := by decide +kernel
theorem dX2_readNumber_58 : decode cX2_readNumber 58 = .ok (.ireturn, 1) := by decide +kernel
theorem dX2_readDigit_0 : decode cX2_readDigit 0 = .ok (.aload_n 0, 1) := by decide +kernel
theorem dX2_readDigit_1 : decode cX2_readDigit 1 = .ok (.getfield 12, 3) := by decide +kernel
theorem dX2_readDigit_4 : decode cX2_readDigit 4 = .ok (.aload_n 0, 1) := by decide +kernel
theorem dX2_readDigit_5 : decode cX2_readDigit 5 = .ok (.getfield 42, 3) := by decide +kernel
theorem dX2_readDigit_8 : decode cX2_readDigit 8 = .ok (.invokevirtual 67, 3) := by decide +kernel
theorem dX2_readDigit_11 : decode cX2_readDigit 11 = .ok (.bipush 48, 2) := by decide +kernel
theorem dX2_readDigit_13 : decode cX2_readDigit 13 = .ok (.isub, 1) := by decide +kernel
theorem dX2_readDigit_14 : decode cX2_readDigit 14 = .ok (.istore_n 2, 1) := by decide +kernel
theorem dX2_readDigit_15 : decode cX2_readDigit 15 = .ok (.iload_n 2, 1) := by decide +kernel
theorem dX2_readDigit_16 : decode cX2_readDigit 16 = .ok (.ifCond .lt 8, 3) := by decide +kernel
theorem dX2_readDigit_19 : decode cX2_readDigit 19 = .ok (.iload_n 2, 1) := by decide +kernel
theorem dX2_readDigit_20 : decode cX2_readDigit 20 = .ok (.iload_n 1, 1) := by decide +kernel
theorem dX2_readDigit_21 : decode cX2_readDigit 21 = .ok (.if_icmp .le 5, 3) := by decide +kernel
theorem dX2_readDigit_24 : decode cX2_readDigit 24 = .ok (.iconst 0, 1) := by decide +kernel
theorem dX2_readDigit_25 : decode cX2_readDigit 25 = .ok (.ireturn, 1) := by decide +kernel
theorem dX2_readDigit_26 : decode cX2_readDigit 26 = .ok (.aload_n 0, 1) := by decide +kernel
theorem dX2_readDigit_27 : decode cX2_readDigit 27 = .ok (.iload_n 2, 1) := by decide +kernel
theorem dX2_readDigit_28 : decode cX2_readDigit 28 = .ok (.putfield 64, 3) := by decide +kernel
theorem dX2_readDigit_31 : decode cX2_readDigit 31 = .ok (.aload_n 0, 1) := by decide +kernel
theorem dX2_readDigit_32 : decode cX2_readDigit 32 = .ok (.dup, 1) := by decide +kernel
theorem dX2_readDigit_33 : decode cX2_readDigit 33 = .ok (.getfield 42, 3) := by decide +kernel
theorem dX2_readDigit_36 : decode cX2_readDigit 36 = .ok (.iconst 1, 1) := by decide +kernel
theorem dX2_readDigit_37 : decode cX2_readDigit 37 = .ok (.iadd, 1) := by decide +kernel
theorem dX2_readDigit_38 : decode cX2_readDigit 38 = .ok (.putfield 42, 3) := by decide +kernel
theorem dX2_readDigit_41 : decode cX2_readDigit 41 = .ok (.iconst 1, 1) := by decide +kernel
theorem dX2_readDigit_42 : decode cX2_readDigit 42 = .ok (.ireturn, 1) := by decide +kernel
theorem dX3_init_0 : decode cX3_init 0 = .ok (.aload_n 0, 1) := by decide +kernel
theorem dX3_init_1 : decode cX3_init 1 = .ok (.invokespecial 3, 3) := by decide +kernel
theorem dX3_init_4 : decode cX3_init 4 = .ok (.aload_n 0, 1) := by decide +kernel
theorem dX3_init_5 : decode cX3_init 5 = .ok (.bipush 80, 2) := by decide +kernel
theorem dX3_init_7 : decode cX3_init 7 = .ok (.newarray .char, 2) := by decide +kernel
theorem dX3_init_9 : decode cX3_init 9 = .ok (.putfield 9, 3) := by decide +kernel
theorem dX3_init_12 : decode cX3_init 12 = .ok (.return_, 1) := by decide +kernel
theorem dX3_length_0 : decode cX3_length 0 = .ok (.aload_n 0, 1) := by decide +kernel
theorem dX3_length_1 : decode cX3_length 1 = .ok (.getfield 15, 3) := by decide +kernel
theorem dX3_length_4 : decode cX3_length 4 = .ok (.ireturn, 1) := by decide +kernel
theorem dX3_signAt_0 : decode cX3_signAt 0 = .ok (.iload_n 1, 1) := by decide +kernel
theorem dX3_signAt_1 : decode cX3_signAt 1 = .ok (.ifCond .lt 20, 3) := by decide +kernel
theorem dX3_signAt_4 : decode cX3_signAt 4 = .ok (.iload_n 1, 1) := by decide +kernel
theorem dX3_signAt_5 : decode cX3_signAt 5 = .ok (.aload_n 0, 1) := by decide +kernel
theorem dX3_signAt_6 : decode cX3_signAt 6 = .ok (.getfield 15, 3) := by decide +kernel
theorem dX3_signAt_9 : decode cX3_signAt 9 = .ok (.if_icmp .ge 12, 3) := by decide +kernel
theorem dX3_signAt_12 : decode cX3_signAt 12 = .ok (.aload_n 0, 1) := by decide +kernel
theorem dX3_signAt_13 : decode cX3_signAt 13 = .ok (.getfield 9, 3) := by decide +kernel
theorem dX3_signAt_16 : decode cX3_signAt 16 = .ok (.iload_n 1, 1) := by decide +kernel
theorem dX3_signAt_17 : decode cX3_signAt 17 = .ok (.caload, 1) := by decide +kernel
theorem dX3_signAt_18 : decode cX3_signAt 18 = .ok (.goto 4, 3) := by decide +kernel
theorem dX3_signAt_21 : decode cX3_signAt 21 = .ok (.iconst 0, 1) := by decide +kernel
theorem dX3_signAt_22 : decode cX3_signAt 22 = .ok (.ireturn, 1) := by decide +kernel
theorem dX3_add_0 : decode cX3_add 0 = .ok (.aload_n 0, 1) := by decide +kernel
theorem dX3_add_1 : decode cX3_add 1 = .ok (.getfield 15, 3) := by decide +kernel
theorem dX3_add_4 : decode cX3_add 4 = .ok (.bipush 80, 2) := by decide +kernel
theorem dX3_add_6 : decode cX3_add 6 = .ok (.if_icmp .ge 23, 3) := by decide +kernel
theorem dX3_add_9 : decode cX3_add 9 = .ok (.aload_n 0, 1) := by decide +kernel
theorem dX3_add_10 : decode cX3_add 10 = .ok (.getfield 9, 3) := by decide +kernel
theorem dX3_add_13 : decode cX3_add 13 = .ok (.aload_n 0, 1) := by decide +kernel
theorem dX3_add_14 : decode cX3_add 14 = .ok (.getfield 15, 3) := by decide +kernel
theorem dX3_add_17 : decode cX3_add 17 = .ok (.iload_n 1, 1) := by decide +kernel
theorem dX3_add_18 : decode cX3_add 18 = .ok (.castore, 1) := by decide +kernel
theorem dX3_add_19 : decode cX3_add 19 = .ok (.aload_n 0, 1) := by decide +kernel
theorem dX3_add_20 : decode cX3_add 20 = .ok (.dup, 1) := by decide +kernel
theorem dX3_add_21 : decode cX3_add 21 = .ok (.getfield 15, 3) := by decide +kernel
theorem dX3_add_24 : decode cX3_add 24 = .ok (.iconst 1, 1) := by decide +kernel
theorem dX3_add_25 : decode cX3_add 25 = .ok (.iadd, 1) := by decide +kernel
theorem dX3_add_26 : decode cX3_add 26 = .ok (.putfield 15, 3) := by decide +kernel
theorem dX3_add_29 : decode cX3_add 29 = .ok (.return_, 1) := by decide +kernel
theorem dX3_clear_0 : decode cX3_clear 0 = .ok (.aload_n 0, 1) := by decide +kernel
theorem dX3_clear_1 : decode cX3_clear 1 = .ok (.iconst 0, 1) := by decide +kernel
theorem dX3_clear_2 : decode cX3_clear 2 = .ok (.putfield 15, 3) := by decide +kernel
theorem dX3_clear_5 : decode cX3_clear 5 = .ok (.return_, 1) := by decide +kernel
theorem dX4_init_0 : decode cX4_init 0 = .ok (.aload_n 0, 1) := by decide +kernel
theorem dX4_init_1 : decode cX4_init 1 = .ok (.invokespecial 1, 3) := by decide +kernel
theorem dX4_init_4 : decode cX4_init 4 = .ok (.aload_n 0, 1) := by decide +kernel
theorem dX4_init_5 : decode cX4_init 5 = .ok (.aload_n 1, 1) := by decide +kernel
theorem dX4_init_6 : decode cX4_init 6 = .ok (.putfield 7, 3) := by decide +kernel
theorem dX4_init_9 : decode cX4_init 9 = .ok (.aload_n 0, 1) := by decide +kernel
theorem dX4_init_10 : decode cX4_init 10 = .ok (.aload_n 2, 1) := by decide +kernel
theorem dX4_init_11 : decode cX4_init 11 = .ok (.putfield 13, 3) := by decide +kernel
theorem dX4_init_14 : decode cX4_init 14 = .ok (.return_, 1) := by decide +kernel
theorem dX4_valueOfOne_0 : decode cX4_valueOfOne 0 = .ok (.aload_n 0, 1) := by decide +kernel
theorem dX4_valueOfOne_1 : decode cX4_valueOfOne 1 = .ok (.getfield 16, 3) := by decide +kernel
theorem dX4_valueOfOne_4 : decode cX4_valueOfOne 4 = .ok (.ireturn, 1) := by decide +kernel
theorem dX4_valueOfOther_0 : decode cX4_valueOfOther 0 = .ok (.aload_n 0, 1) := by decide +kernel
theorem dX4_valueOfOther_1 : decode cX4_valueOfOther 1 = .ok (.getfield 20, 3) := by decide +kernel
theorem dX4_valueOfOther_4 : decode cX4_valueOfOther 4 = .ok (.ireturn, 1) := by decide +kernel
theorem dX4_length_0 : decode cX4_length 0 = .ok (.aload_n 0, 1) := by decide +kernel
theorem dX4_length_1 : decode cX4_length 1 = .ok (.getfield 23, 3) := by decide +kernel
theorem dX4_length_4 : decode cX4_length 4 = .ok (.ireturn, 1) := by decide +kernel
theorem dX4_firstRow_0 : decode cX4_firstRow 0 = .ok (.aload_n 0, 1) := by decide +kernel
theorem dX4_firstRow_1 : decode cX4_firstRow 1 = .ok (.getfield 26, 3) := by decide +kernel
theorem dX4_firstRow_4 : decode cX4_firstRow 4 = .ok (.ireturn, 1) := by decide +kernel
theorem dX4_isAlike_0 : decode cX4_isAlike 0 = .ok (.aload_n 0, 1) := by decide +kernel
theorem dX4_isAlike_1 : decode cX4_isAlike 1 = .ok (.getfield 16, 3) := by decide +kernel
theorem dX4_isAlike_4 : decode cX4_isAlike 4 = .ok (.aload_n 0, 1) := by decide +kernel
theorem dX4_isAlike_5 : decode cX4_isAlike 5 = .ok (.getfield 20, 3) := by decide +kernel
theorem dX4_isAlike_8 : decode cX4_isAlike 8 = .ok (.if_icmp .ne 7, 3) := by decide +kernel
theorem dX4_isAlike_11 : decode cX4_isAlike 11 = .ok (.iconst 1, 1) := by decide +kernel
theorem dX4_isAlike_12 : decode cX4_isAlike 12 = .ok (.goto 4, 3) := by decide +kernel
theorem dX4_isAlike_15 : decode cX4_isAlike 15 = .ok (.iconst 0, 1) := by decide +kernel
theorem dX4_isAlike_16 : decode cX4_isAlike 16 = .ok (.ireturn, 1) := by decide +kernel
theorem dX4_advance_0 : decode cX4_advance 0 = .ok (.aload_n 0, 1) := by decide +kernel
theorem dX4_advance_1 : decode cX4_advance 1 = .ok (.getfield 29, 3) := by decide +kernel
theorem dX4_advance_4 : decode cX4_advance 4 = .ok (.aload_n 0, 1) := by decide +kernel
theorem dX4_advance_5 : decode cX4_advance 5 = .ok (.getfield 7, 3) := by decide +kernel
theorem dX4_advance_8 : decode cX4_advance 8 = .ok (.invokevirtual 32, 3) := by decide +kernel
theorem dX4_advance_11 : decode cX4_advance 11 = .ok (.if_icmp .ge 17, 3) := by decide +kernel
theorem dX4_advance_14 : decode cX4_advance 14 = .ok (.aload_n 0, 1) := by decide +kernel
theorem dX4_advance_15 : decode cX4_advance 15 = .ok (.getfield 38, 3) := by decide +kernel
theorem dX4_advance_18 : decode cX4_advance 18 = .ok (.aload_n 0, 1) := by decide +kernel
theorem dX4_advance_19 : decode cX4_advance 19 = .ok (.getfield 13, 3) := by decide +kernel
theorem dX4_advance_22 : decode cX4_advance 22 = .ok (.invokevirtual 32, 3) := by decide +kernel
theorem dX4_advance_25 : decode cX4_advance 25 = .ok (.if_icmp .lt 5, 3) := by decide +kernel
theorem dX4_advance_28 : decode cX4_advance 28 = .ok (.iconst 0, 1) := by decide +kernel
theorem dX4_advance_29 : decode cX4_advance 29 = .ok (.ireturn, 1) := by decide +kernel
theorem dX4_advance_30 : decode cX4_advance 30 = .ok (.aload_n 0, 1) := by decide +kernel
theorem dX4_advance_31 : decode cX4_advance 31 = .ok (.dup, 1) := by decide +kernel
theorem dX4_advance_32 : decode cX4_advance 32 = .ok (.getfield 26, 3) := by decide +kernel
theorem dX4_advance_35 : decode cX4_advance 35 = .ok (.aload_n 0, 1) := by decide +kernel
theorem dX4_advance_36 : decode cX4_advance 36 = .ok (.getfield 23, 3) := by decide +kernel
theorem dX4_advance_39 : decode cX4_advance 39 = .ok (.iadd, 1) := by decide +kernel
theorem dX4_advance_40 : decode cX4_advance 40 = .ok (.putfield 26, 3) := by decide +kernel
theorem dX4_advance_43 : decode cX4_advance 43 = .ok (.aload_n 0, 1) := by decide +kernel
theorem dX4_advance_44 : decode cX4_advance 44 = .ok (.aload_n 0, 1) := by decide +kernel
theorem dX4_advance_45 : decode cX4_advance 45 = .ok (.getfield 7, 3) := by decide +kernel
theorem dX4_advance_48 : decode cX4_advance 48 = .ok (.aload_n 0, 1) := by decide +kernel
theorem dX4_advance_49 : decode cX4_advance 49 = .ok (.getfield 29, 3) := by decide +kernel
theorem dX4_advance_52 : decode cX4_advance 52 = .ok (.invokevirtual 41, 3) := by decide +kernel
theorem dX4_advance_55 : decode cX4_advance 55 = .ok (.putfield 16, 3) := by decide +kernel
theorem dX4_advance_58 : decode cX4_advance 58 = .ok (.aload_n 0, 1) := by decide +kernel
theorem dX4_advance_59 : decode cX4_advance 59 = .ok (.aload_n 0, 1) := by decide +kernel
theorem dX4_advance_60 : decode cX4_advance 60 = .ok (.getfield 13, 3) := by decide +kernel
theorem dX4_advance_63 : decode cX4_advance 63 = .ok (.aload_n 0, 1) := by decide +kernel
theorem dX4_advance_64 : decode cX4_advance 64 = .ok (.getfield 38, 3) := by decide +kernel
theorem dX4_advance_67 : decode cX4_advance 67 = .ok (.invokevirtual 41, 3) := by decide +kernel
theorem dX4_advance_70 : decode cX4_advance 70 = .ok (.putfield 20, 3) := by decide +kernel
theorem dX4_advance_73 : decode cX4_advance 73 = .ok (.aload_n 0, 1) := by decide +kernel
theorem dX4_advance_74 : decode cX4_advance 74 = .ok (.getfield 7, 3) := by decide +kernel
theorem dX4_advance_77 : decode cX4_advance 77 = .ok (.aload_n 0, 1) := by decide +kernel
theorem dX4_advance_78 : decode cX4_advance 78 = .ok (.getfield 29, 3) := by decide +kernel
theorem dX4_advance_81 : decode cX4_advance 81 = .ok (.invokevirtual 45, 3) := by decide +kernel
theorem dX4_advance_84 : decode cX4_advance 84 = .ok (.aload_n 0, 1) := by decide +kernel
theorem dX4_advance_85 : decode cX4_advance 85 = .ok (.getfield 48, 3) := by decide +kernel
theorem dX4_advance_88 : decode cX4_advance 88 = .ok (.isub, 1) := by decide +kernel
theorem dX4_advance_89 : decode cX4_advance 89 = .ok (.istore_n 1, 1) := by decide +kernel
theorem dX4_advance_90 : decode cX4_advance 90 = .ok (.aload_n 0, 1) := by decide +kernel
theorem dX4_advance_91 : decode cX4_advance 91 = .ok (.getfield 13, 3) := by decide +kernel
theorem dX4_advance_94 : decode cX4_advance 94 = .ok (.aload_n 0, 1) := by decide +kernel
theorem dX4_advance_95 : decode cX4_advance 95 = .ok (.getfield 38, 3) := by decide +kernel
theorem dX4_advance_98 : decode cX4_advance 98 = .ok (.invokevirtual 45, 3) := by decide +kernel
theorem dX4_advance_101 : decode cX4_advance 101 = .ok (.aload_n 0, 1) := by decide +kernel
theorem dX4_advance_102 : decode cX4_advance 102 = .ok (.getfield 51, 3) := by decide +kernel
theorem dX4_advance_105 : decode cX4_advance 105 = .ok (.isub, 1) := by decide +kernel
theorem dX4_advance_106 : decode cX4_advance 106 = .ok (.istore_n 2, 1) := by decide +kernel
theorem dX4_advance_107 : decode cX4_advance 107 = .ok (.aload_n 0, 1) := by decide +kernel
theorem dX4_advance_108 : decode cX4_advance 108 = .ok (.iload_n 1, 1) := by decide +kernel
theorem dX4_advance_109 : decode cX4_advance 109 = .ok (.iload_n 2, 1) := by decide +kernel
theorem dX4_advance_110 : decode cX4_advance 110 = .ok (.invokestatic 54, 3) := by decide +kernel
theorem dX4_advance_113 : decode cX4_advance 113 = .ok (.putfield 23, 3) := by decide +kernel
theorem dX4_advance_116 : decode cX4_advance 116 = .ok (.aload_n 0, 1) := by decide +kernel
theorem dX4_advance_117 : decode cX4_advance 117 = .ok (.dup, 1) := by decide +kernel
theorem dX4_advance_118 : decode cX4_advance 118 = .ok (.getfield 48, 3) := by decide +kernel
theorem dX4_advance_121 : decode cX4_advance 121 = .ok (.aload_n 0, 1) := by decide +kernel
theorem dX4_advance_122 : decode cX4_advance 122 = .ok (.getfield 23, 3) := by decide +kernel
theorem dX4_advance_125 : decode cX4_advance 125 = .ok (.iadd, 1) := by decide +kernel
theorem dX4_advance_126 : decode cX4_advance 126 = .ok (.putfield 48, 3) := by decide +kernel
theorem dX4_advance_129 : decode cX4_advance 129 = .ok (.aload_n 0, 1) := by decide +kernel
theorem dX4_advance_130 : decode cX4_advance 130 = .ok (.dup, 1) := by decide +kernel
theorem dX4_advance_131 : decode cX4_advance 131 = .ok (.getfield 51, 3) := by decide +kernel
theorem dX4_advance_134 : decode cX4_advance 134 = .ok (.aload_n 0, 1) := by decide +kernel
theorem dX4_advance_135 : decode cX4_advance 135 = .ok (.getfield 23, 3) := by decide +kernel
theorem dX4_advance_138 : decode cX4_advance 138 = .ok (.iadd, 1) := by decide +kernel
theorem dX4_advance_139 : decode cX4_advance 139 = .ok (.putfield 51, 3) := by decide +kernel
theorem dX4_advance_142 : decode cX4_advance 142 = .ok (.aload_n 0, 1) := by decide +kernel
theorem dX4_advance_143 : decode cX4_advance 143 = .ok (.getfield 23, 3) := by decide +kernel
theorem dX4_advance_146 : decode cX4_advance 146 = .ok (.iload_n 1, 1) := by decide +kernel
theorem dX4_advance_147 : decode cX4_advance 147 = .ok (.if_icmp .ne 18, 3) := by decide +kernel
theorem dX4_advance_150 : decode cX4_advance 150 = .ok (.aload_n 0, 1) := by decide +kernel
theorem dX4_advance_151 : decode cX4_advance 151 = .ok (.dup, 1) := by decide +kernel
theorem dX4_advance_152 : decode cX4_advance 152 = .ok (.getfield 29, 3) := by decide +kernel
theorem dX4_advance_155 : decode cX4_advance 155 = .ok (.iconst 1, 1) := by decide +kernel
theorem dX4_advance_156 : decode cX4_advance 156 = .ok (.iadd, 1) := by decide +kernel
theorem dX4_advance_157 : decode cX4_advance 157 = .ok (.putfield 29, 3) := by decide +kernel
theorem dX4_advance_160 : decode cX4_advance 160 = .ok (.aload_n 0, 1) := by decide +kernel
theorem dX4_advance_161 : decode cX4_advance 161 = .ok (.iconst 0, 1) := by decide +kernel
theorem dX4_advance_162 : decode cX4_advance 162 = .ok (.putfield 48, 3) := by decide +kernel
theorem dX4_advance_165 : decode cX4_advance 165 = .ok (.aload_n 0, 1) := by decide +kernel
theorem dX4_advance_166 : decode cX4_advance 166 = .ok (.getfield 23, 3) := by decide +kernel
theorem dX4_advance_169 : decode cX4_advance 169 = .ok (.iload_n 2, 1) := by decide +kernel
theorem dX4_advance_170 : decode cX4_advance 170 = .ok (.if_icmp .ne 18, 3) := by decide +kernel
theorem dX4_advance_173 : decode cX4_advance 173 = .ok (.aload_n 0, 1) := by decide +kernel
theorem dX4_advance_174 : decode cX4_advance 174 = .ok (.dup, 1) := by decide +kernel
theorem dX4_advance_175 : decode cX4_advance 175 = .ok (.getfield 38, 3) := by decide +kernel
theorem dX4_advance_178 : decode cX4_advance 178 = .ok (.iconst 1, 1) := by decide +kernel
theorem dX4_advance_179 : decode cX4_advance 179 = .ok (.iadd, 1) := by decide +kernel
theorem dX4_advance_180 : decode cX4_advance 180 = .ok (.putfield 38, 3) := by decide +kernel
theorem dX4_advance_183 : decode cX4_advance 183 = .ok (.aload_n 0, 1) := by decide +kernel
theorem dX4_advance_184 : decode cX4_advance 184 = .ok (.iconst 0, 1) := by decide +kernel
theorem dX4_advance_185 : decode cX4_advance 185 = .ok (.putfield 51, 3) := by decide +kernel
theorem dX4_advance_188 : decode cX4_advance 188 = .ok (.iconst 1, 1) := by decide +kernel
theorem dX4_advance_189 : decode cX4_advance 189 = .ok (.ireturn, 1) := by decide +kernel
theorem dX5_init_0 : decode cX5_init 0 = .ok (.aload_n 0, 1) := by decide +kernel
theorem dX5_init_1 : decode cX5_init 1 = .ok (.invokespecial 3, 3) := by decide +kernel
theorem dX5_init_4 : decode cX5_init 4 = .ok (.aload_n 0, 1) := by decide +kernel
theorem dX5_init_5 : decode cX5_init 5 = .ok (.iconst 4, 1) := by decide +kernel
theorem dX5_init_6 : decode cX5_init 6 = .ok (.anewarray 9, 3) := by decide +kernel
theorem dX5_init_9 : decode cX5_init 9 = .ok (.putfield 11, 3) := by decide +kernel
theorem dX5_init_12 : decode cX5_init 12 = .ok (.iconst 0, 1) := by decide +kernel
theorem dX5_init_13 : decode cX5_init 13 = .ok (.istore_n 1, 1) := by decide +kernel
theorem dX5_init_14 : decode cX5_init 14 = .ok (.iload_n 1, 1) := by decide +kernel
theorem dX5_init_15 : decode cX5_init 15 = .ok (.iconst 4, 1) := by decide +kernel
theorem dX5_init_16 : decode cX5_init 16 = .ok (.if_icmp .ge 22, 3) := by decide +kernel
theorem dX5_init_19 : decode cX5_init 19 = .ok (.aload_n 0, 1) := by decide +kernel
theorem dX5_init_20 : decode cX5_init 20 = .ok (.getfield 11, 3) := by decide +kernel
theorem dX5_init_23 : decode cX5_init 23 = .ok (.iload_n 1, 1) := by decide +kernel
theorem dX5_init_24 : decode cX5_init 24 = .ok (.new 9, 3) := by decide +kernel
theorem dX5_init_27 : decode cX5_init 27 = .ok (.dup, 1) := by decide +kernel
theorem dX5_init_28 : decode cX5_init 28 = .ok (.invokespecial 17, 3) := by decide +kernel
theorem dX5_init_31 : decode cX5_init 31 = .ok (.aastore, 1) := by decide +kernel
theorem dX5_init_32 : decode cX5_init 32 = .ok (.iinc 1 1, 3) := by decide +kernel
theorem dX5_init_35 : decode cX5_init 35 = .ok (.goto (-21), 3) := by decide +kernel
theorem dX5_init_38 : decode cX5_init 38 = .ok (.return_, 1) := by decide +kernel
theorem dX5_column_0 : decode cX5_column 0 = .ok (.aload_n 0, 1) := by decide +kernel
theorem dX5_column_1 : decode cX5_column 1 = .ok (.getfield 11, 3) := by decide +kernel
theorem dX5_column_4 : decode cX5_column 4 = .ok (.iload_n 1, 1) := by decide +kernel
theorem dX5_column_5 : decode cX5_column 5 = .ok (.ifCond .lt 12, 3) := by decide +kernel
theorem dX5_column_8 : decode cX5_column 8 = .ok (.iload_n 1, 1) := by decide +kernel
theorem dX5_column_9 : decode cX5_column 9 = .ok (.iconst 4, 1) := by decide +kernel
theorem dX5_column_10 : decode cX5_column 10 = .ok (.if_icmp .ge 7, 3) := by decide +kernel
theorem dX5_column_13 : decode cX5_column 13 = .ok (.iload_n 1, 1) := by decide +kernel
theorem dX5_column_14 : decode cX5_column 14 = .ok (.goto 4, 3) := by decide +kernel
theorem dX5_column_17 : decode cX5_column 17 = .ok (.iconst 0, 1) := by decide +kernel
theorem dX5_column_18 : decode cX5_column 18 = .ok (.aaload, 1) := by decide +kernel
theorem dX5_column_19 : decode cX5_column 19 = .ok (.areturn, 1) := by decide +kernel
theorem dX5_allRows_0 : decode cX5_allRows 0 = .ok (.iconst 0, 1) := by decide +kernel
theorem dX5_allRows_1 : decode cX5_allRows 1 = .ok (.istore_n 1, 1) := by decide +kernel
theorem dX5_allRows_2 : decode cX5_allRows 2 = .ok (.iconst 0, 1) := by decide +kernel
theorem dX5_allRows_3 : decode cX5_allRows 3 = .ok (.istore_n 2, 1) := by decide +kernel
theorem dX5_allRows_4 : decode cX5_allRows 4 = .ok (.iload_n 2, 1) := by decide +kernel
theorem dX5_allRows_5 : decode cX5_allRows 5 = .ok (.iconst 4, 1) := by decide +kernel
theorem dX5_allRows_6 : decode cX5_allRows 6 = .ok (.if_icmp .ge 21, 3) := by decide +kernel
theorem dX5_allRows_9 : decode cX5_allRows 9 = .ok (.iload_n 1, 1) := by decide +kernel
theorem dX5_allRows_10 : decode cX5_allRows 10 = .ok (.aload_n 0, 1) := by decide +kernel
theorem dX5_allRows_11 : decode cX5_allRows 11 = .ok (.getfield 11, 3) := by decide +kernel
theorem dX5_allRows_14 : decode cX5_allRows 14 = .ok (.iload_n 2, 1) := by decide +kernel
theorem dX5_allRows_15 : decode cX5_allRows 15 = .ok (.aaload, 1) := by decide +kernel
theorem dX5_allRows_16 : decode cX5_allRows 16 = .ok (.invokevirtual 18, 3) := by decide +kernel
theorem dX5_allRows_19 : decode cX5_allRows 19 = .ok (.iadd, 1) := by decide +kernel
theorem dX5_allRows_20 : decode cX5_allRows 20 = .ok (.istore_n 1, 1) := by decide +kernel
theorem dX5_allRows_21 : decode cX5_allRows 21 = .ok (.iinc 2 1, 3) := by decide +kernel
theorem dX5_allRows_24 : decode cX5_allRows 24 = .ok (.goto (-20), 3) := by decide +kernel
theorem dX5_allRows_27 : decode cX5_allRows 27 = .ok (.iload_n 1, 1) := by decide +kernel
theorem dX5_allRows_28 : decode cX5_allRows 28 = .ok (.ireturn, 1) := by decide +kernel
theorem dX5_allRuns_0 : decode cX5_allRuns 0 = .ok (.iconst 0, 1) := by decide +kernel
theorem dX5_allRuns_1 : decode cX5_allRuns 1 = .ok (.istore_n 1, 1) := by decide +kernel
theorem dX5_allRuns_2 : decode cX5_allRuns 2 = .ok (.iconst 0, 1) := by decide +kernel
theorem dX5_allRuns_3 : decode cX5_allRuns 3 = .ok (.istore_n 2, 1) := by decide +kernel
theorem dX5_allRuns_4 : decode cX5_allRuns 4 = .ok (.iload_n 2, 1) := by decide +kernel
theorem dX5_allRuns_5 : decode cX5_allRuns 5 = .ok (.iconst 4, 1) := by decide +kernel
theorem dX5_allRuns_6 : decode cX5_allRuns 6 = .ok (.if_icmp .ge 21, 3) := by decide +kernel
theorem dX5_allRuns_9 : decode cX5_allRuns 9 = .ok (.iload_n 1, 1) := by decide +kernel
theorem dX5_allRuns_10 : decode cX5_allRuns 10 = .ok (.aload_n 0, 1) := by decide +kernel
theorem dX5_allRuns_11 : decode cX5_allRuns 11 = .ok (.getfield 11, 3) := by decide +kernel
theorem dX5_allRuns_14 : decode cX5_allRuns 14 = .ok (.iload_n 2, 1) := by decide +kernel
theorem dX5_allRuns_15 : decode cX5_allRuns 15 = .ok (.aaload, 1) := by decide +kernel
theorem dX5_allRuns_16 : decode cX5_allRuns 16 = .ok (.invokevirtual 22, 3) := by decide +kernel
theorem dX5_allRuns_19 : decode cX5_allRuns 19 = .ok (.iadd, 1) := by decide +kernel
theorem dX5_allRuns_20 : decode cX5_allRuns 20 = .ok (.istore_n 1, 1) := by decide +kernel
theorem dX5_allRuns_21 : decode cX5_allRuns 21 = .ok (.iinc 2 1, 3) := by decide +kernel
theorem dX5_allRuns_24 : decode cX5_allRuns 24 = .ok (.goto (-20), 3) := by decide +kernel
theorem dX5_allRuns_27 : decode cX5_allRuns 27 = .ok (.iload_n 1, 1) := by decide +kernel
theorem dX5_allRuns_28 : decode cX5_allRuns 28 = .ok (.ireturn, 1) := by decide +kernel
theorem dX5_copyFrom_0 : decode cX5_copyFrom 0 = .ok (.iconst 0, 1) := by decide +kernel
theorem dX5_copyFrom_1 : decode cX5_copyFrom 1 = .ok (.istore_n 2, 1) := by decide +kernel
theorem dX5_copyFrom_2 : decode cX5_copyFrom 2 = .ok (.iload_n 2, 1) := by decide +kernel
theorem dX5_copyFrom_3 : decode cX5_copyFrom 3 = .ok (.iconst 4, 1) := by decide +kernel
theorem dX5_copyFrom_4 : decode cX5_copyFrom 4 = .ok (.if_icmp .ge 24, 3) := by decide +kernel
theorem dX5_copyFrom_7 : decode cX5_copyFrom 7 = .ok (.aload_n 0, 1) := by decide +kernel
theorem dX5_copyFrom_8 : decode cX5_copyFrom 8 = .ok (.getfield 11, 3) := by decide +kernel
theorem dX5_copyFrom_11 : decode cX5_copyFrom 11 = .ok (.iload_n 2, 1) := by decide +kernel
theorem dX5_copyFrom_12 : decode cX5_copyFrom 12 = .ok (.aaload, 1) := by decide +kernel
theorem dX5_copyFrom_13 : decode cX5_copyFrom 13 = .ok (.aload_n 1, 1) := by decide +kernel
theorem dX5_copyFrom_14 : decode cX5_copyFrom 14 = .ok (.getfield 11, 3) := by decide +kernel
theorem dX5_copyFrom_17 : decode cX5_copyFrom 17 = .ok (.iload_n 2, 1) := by decide +kernel
theorem dX5_copyFrom_18 : decode cX5_copyFrom 18 = .ok (.aaload, 1) := by decide +kernel
theorem dX5_copyFrom_19 : decode cX5_copyFrom 19 = .ok (.invokevirtual 25, 3) := by decide +kernel
theorem dX5_copyFrom_22 : decode cX5_copyFrom 22 = .ok (.iinc 2 1, 3) := by decide +kernel
theorem dX5_copyFrom_25 : decode cX5_copyFrom 25 = .ok (.goto (-23), 3) := by decide +kernel
theorem dX5_copyFrom_28 : decode cX5_copyFrom 28 = .ok (.return_, 1) := by decide +kernel
theorem dX6_init_0 : decode cX6_init 0 = .ok (.aload_n 0, 1) := by decide +kernel
theorem dX6_init_1 : decode cX6_init 1 = .ok (.invokespecial 3, 3) := by decide +kernel
theorem dX6_init_4 : decode cX6_init 4 = .ok (.aload_n 0, 1) := by decide +kernel
theorem dX6_init_5 : decode cX6_init 5 = .ok (.new 9, 3) := by decide +kernel
theorem dX6_init_8 : decode cX6_init 8 = .ok (.dup, 1) := by decide +kernel
theorem dX6_init_9 : decode cX6_init 9 = .ok (.invokespecial 11, 3) := by decide +kernel
theorem dX6_init_12 : decode cX6_init 12 = .ok (.putfield 12, 3) := by decide +kernel
theorem dX6_init_15 : decode cX6_init 15 = .ok (.aload_n 0, 1) := by decide +kernel
theorem dX6_init_16 : decode cX6_init 16 = .ok (.new 16, 3) := by decide +kernel
theorem dX6_init_19 : decode cX6_init 19 = .ok (.dup, 1) := by decide +kernel
theorem dX6_init_20 : decode cX6_init 20 = .ok (.invokespecial 18, 3) := by decide +kernel
theorem dX6_init_23 : decode cX6_init 23 = .ok (.putfield 19, 3) := by decide +kernel
theorem dX6_init_26 : decode cX6_init 26 = .ok (.aload_n 0, 1) := by decide +kernel
theorem dX6_init_27 : decode cX6_init 27 = .ok (.iconst 2, 1) := by decide +kernel
theorem dX6_init_28 : decode cX6_init 28 = .ok (.anewarray 9, 3) := by decide +kernel
theorem dX6_init_31 : decode cX6_init 31 = .ok (.putfield 23, 3) := by decide +kernel
theorem dX6_init_34 : decode cX6_init 34 = .ok (.aload_n 0, 1) := by decide +kernel
theorem dX6_init_35 : decode cX6_init 35 = .ok (.iconst 2, 1) := by decide +kernel
theorem dX6_init_36 : decode cX6_init 36 = .ok (.newarray .boolean, 2) := by decide +kernel
theorem dX6_init_38 : decode cX6_init 38 = .ok (.putfield 27, 3) := by decide +kernel
theorem dX6_init_41 : decode cX6_init 41 = .ok (.aload_n 0, 1) := by decide +kernel
theorem dX6_init_42 : decode cX6_init 42 = .ok (.new 31, 3) := by decide +kernel
theorem dX6_init_45 : decode cX6_init 45 = .ok (.dup, 1) := by decide +kernel
theorem dX6_init_46 : decode cX6_init 46 = .ok (.invokespecial 33, 3) := by decide +kernel
theorem dX6_init_49 : decode cX6_init 49 = .ok (.putfield 34, 3) := by decide +kernel
theorem dX6_init_52 : decode cX6_init 52 = .ok (.aload_n 0, 1) := by decide +kernel
theorem dX6_init_53 : decode cX6_init 53 = .ok (.new 38, 3) := by decide +kernel
theorem dX6_init_56 : decode cX6_init 56 = .ok (.dup, 1) := by decide +kernel
theorem dX6_init_57 : decode cX6_init 57 = .ok (.invokespecial 40, 3) := by decide +kernel
theorem dX6_init_60 : decode cX6_init 60 = .ok (.putfield 41, 3) := by decide +kernel
theorem dX6_init_63 : decode cX6_init 63 = .ok (.aload_n 0, 1) := by decide +kernel
theorem dX6_init_64 : decode cX6_init 64 = .ok (.aload_n 0, 1) := by decide +kernel
theorem dX6_init_65 : decode cX6_init 65 = .ok (.getfield 41, 3) := by decide +kernel
theorem dX6_init_68 : decode cX6_init 68 = .ok (.invokevirtual 45, 3) := by decide +kernel
theorem dX6_init_71 : decode cX6_init 71 = .ok (.putfield 49, 3) := by decide +kernel
theorem dX6_init_74 : decode cX6_init 74 = .ok (.aload_n 0, 1) := by decide +kernel
theorem dX6_init_75 : decode cX6_init 75 = .ok (.bipush 10, 2) := by decide +kernel
theorem dX6_init_77 : decode cX6_init 77 = .ok (.newarray .int, 2) := by decide +kernel
theorem dX6_init_79 : decode cX6_init 79 = .ok (.putfield 52, 3) := by decide +kernel
theorem dX6_init_82 : decode cX6_init 82 = .ok (.iconst 0, 1) := by decide +kernel
theorem dX6_init_83 : decode cX6_init 83 = .ok (.istore_n 1, 1) := by decide +kernel
theorem dX6_init_84 : decode cX6_init 84 = .ok (.iload_n 1, 1) := by decide +kernel
theorem dX6_init_85 : decode cX6_init 85 = .ok (.iconst 2, 1) := by decide +kernel
theorem dX6_init_86 : decode cX6_init 86 = .ok (.if_icmp .ge 22, 3) := by decide +kernel
theorem dX6_init_89 : decode cX6_init 89 = .ok (.aload_n 0, 1) := by decide +kernel
theorem dX6_init_90 : decode cX6_init 90 = .ok (.getfield 23, 3) := by decide +kernel
theorem dX6_init_93 : decode cX6_init 93 = .ok (.iload_n 1, 1) := by decide +kernel
theorem dX6_init_94 : decode cX6_init 94 = .ok (.new 9, 3) := by decide +kernel
theorem dX6_init_97 : decode cX6_init 97 = .ok (.dup, 1) := by decide +kernel
theorem dX6_init_98 : decode cX6_init 98 = .ok (.invokespecial 11, 3) := by decide +kernel
theorem dX6_init_101 : decode cX6_init 101 = .ok (.aastore, 1) := by decide +kernel
theorem dX6_init_102 : decode cX6_init 102 = .ok (.iinc 1 1, 3) := by decide +kernel
theorem dX6_init_105 : decode cX6_init 105 = .ok (.goto (-21), 3) := by decide +kernel
theorem dX6_init_108 : decode cX6_init 108 = .ok (.return_, 1) := by decide +kernel
theorem dX6_append_0 : decode cX6_append 0 = .ok (.aload_n 0, 1) := by decide +kernel
theorem dX6_append_1 : decode cX6_append 1 = .ok (.iload_n 1, 1) := by decide +kernel
theorem dX6_append_2 : decode cX6_append 2 = .ok (.iload_n 2, 1) := by decide +kernel
theorem dX6_append_3 : decode cX6_append 3 = .ok (.iload_n 3, 1) := by decide +kernel
theorem dX6_append_4 : decode cX6_append 4 = .ok (.invokevirtual 56, 3) := by decide +kernel
theorem dX6_append_7 : decode cX6_append 7 = .ok (.istore 4, 2) := by decide +kernel
theorem dX6_append_9 : decode cX6_append 9 = .ok (.iload 4, 2) := by decide +kernel
theorem dX6_append_11 : decode cX6_append 11 = .ok (.ifCond .eq 6, 3) := by decide +kernel
theorem dX6_append_14 : decode cX6_append 14 = .ok (.iload 4, 2) := by decide +kernel
theorem dX6_append_16 : decode cX6_append 16 = .ok (.ireturn, 1) := by decide +kernel
theorem dX6_append_17 : decode cX6_append 17 = .ok (.aload_n 0, 1) := by decide +kernel
theorem dX6_append_18 : decode cX6_append 18 = .ok (.iload_n 1, 1) := by decide +kernel
theorem dX6_append_19 : decode cX6_append 19 = .ok (.invokevirtual 60, 3) := by decide +kernel
theorem dX6_append_22 : decode cX6_append 22 = .ok (.aload_n 0, 1) := by decide +kernel
theorem dX6_append_23 : decode cX6_append 23 = .ok (.getfield 12, 3) := by decide +kernel
theorem dX6_append_26 : decode cX6_append 26 = .ok (.iload_n 1, 1) := by decide +kernel
theorem dX6_append_27 : decode cX6_append 27 = .ok (.invokevirtual 64, 3) := by decide +kernel
theorem dX6_append_30 : decode cX6_append 30 = .ok (.invokevirtual 68, 3) := by decide +kernel
theorem dX6_append_33 : decode cX6_append 33 = .ok (.ireturn, 1) := by decide +kernel
theorem dX6_insert_0 : decode cX6_insert 0 = .ok (.aload_n 0, 1) := by decide +kernel
theorem dX6_insert_1 : decode cX6_insert 1 = .ok (.iload_n 1, 1) := by decide +kernel
theorem dX6_insert_2 : decode cX6_insert 2 = .ok (.iload_n 2, 1) := by decide +kernel
theorem dX6_insert_3 : decode cX6_insert 3 = .ok (.iload_n 3, 1) := by decide +kernel
theorem dX6_insert_4 : decode cX6_insert 4 = .ok (.iload 4, 2) := by decide +kernel
theorem dX6_insert_6 : decode cX6_insert 6 = .ok (.invokevirtual 72, 3) := by decide +kernel
theorem dX6_insert_9 : decode cX6_insert 9 = .ok (.istore 5, 2) := by decide +kernel
theorem dX6_insert_11 : decode cX6_insert 11 = .ok (.iload 5, 2) := by decide +kernel
theorem dX6_insert_13 : decode cX6_insert 13 = .ok (.ifCond .eq 6, 3) := by decide +kernel
theorem dX6_insert_16 : decode cX6_insert 16 = .ok (.iload 5, 2) := by decide +kernel
theorem dX6_insert_18 : decode cX6_insert 18 = .ok (.ireturn, 1) := by decide +kernel
theorem dX6_insert_19 : decode cX6_insert 19 = .ok (.aload_n 0, 1) := by decide +kernel
theorem dX6_insert_20 : decode cX6_insert 20 = .ok (.iload_n 1, 1) := by decide +kernel
theorem dX6_insert_21 : decode cX6_insert 21 = .ok (.invokevirtual 60, 3) := by decide +kernel
theorem dX6_insert_24 : decode cX6_insert 24 = .ok (.aload_n 0, 1) := by decide +kernel
theorem dX6_insert_25 : decode cX6_insert 25 = .ok (.getfield 12, 3) := by decide +kernel
theorem dX6_insert_28 : decode cX6_insert 28 = .ok (.iload_n 1, 1) := by decide +kernel
theorem dX6_insert_29 : decode cX6_insert 29 = .ok (.invokevirtual 64, 3) := by decide +kernel
theorem dX6_insert_32 : decode cX6_insert 32 = .ok (.invokevirtual 76, 3) := by decide +kernel
theorem dX6_insert_35 : decode cX6_insert 35 = .ok (.ireturn, 1) := by decide +kernel
theorem dX6_remove_0 : decode cX6_remove 0 = .ok (.aload_n 0, 1) := by decide +kernel
theorem dX6_remove_1 : decode cX6_remove 1 = .ok (.iload_n 1, 1) := by decide +kernel
theorem dX6_remove_2 : decode cX6_remove 2 = .ok (.iload_n 2, 1) := by decide +kernel
theorem dX6_remove_3 : decode cX6_remove 3 = .ok (.iload_n 3, 1) := by decide +kernel
theorem dX6_remove_4 : decode cX6_remove 4 = .ok (.invokevirtual 79, 3) := by decide +kernel
theorem dX6_remove_7 : decode cX6_remove 7 = .ok (.istore 4, 2) := by decide +kernel
theorem dX6_remove_9 : decode cX6_remove 9 = .ok (.iload 4, 2) := by decide +kernel
theorem dX6_remove_11 : decode cX6_remove 11 = .ok (.ifCond .eq 6, 3) := by decide +kernel
theorem dX6_remove_14 : decode cX6_remove 14 = .ok (.iload 4, 2) := by decide +kernel
theorem dX6_remove_16 : decode cX6_remove 16 = .ok (.ireturn, 1) := by decide +kernel
theorem dX6_remove_17 : decode cX6_remove 17 = .ok (.aload_n 0, 1) := by decide +kernel
theorem dX6_remove_18 : decode cX6_remove 18 = .ok (.iload_n 1, 1) := by decide +kernel
theorem dX6_remove_19 : decode cX6_remove 19 = .ok (.invokevirtual 60, 3) := by decide +kernel
theorem dX6_remove_22 : decode cX6_remove 22 = .ok (.aload_n 0, 1) := by decide +kernel
theorem dX6_remove_23 : decode cX6_remove 23 = .ok (.getfield 12, 3) := by decide +kernel
theorem dX6_remove_26 : decode cX6_remove 26 = .ok (.iload_n 1, 1) := by decide +kernel
theorem dX6_remove_27 : decode cX6_remove 27 = .ok (.invokevirtual 64, 3) := by decide +kernel
theorem dX6_remove_30 : decode cX6_remove 30 = .ok (.invokevirtual 76, 3) := by decide +kernel
theorem dX6_remove_33 : decode cX6_remove 33 = .ok (.ireturn, 1) := by decide +kernel
theorem dX6_set_0 : decode cX6_set 0 = .ok (.aload_n 0, 1) := by decide +kernel
theorem dX6_set_1 : decode cX6_set 1 = .ok (.iload_n 1, 1) := by decide +kernel
theorem dX6_set_2 : decode cX6_set 2 = .ok (.iload_n 2, 1) := by decide +kernel
theorem dX6_set_3 : decode cX6_set 3 = .ok (.iload_n 3, 1) := by decide +kernel
theorem dX6_set_4 : decode cX6_set 4 = .ok (.invokevirtual 82, 3) := by decide +kernel
theorem dX6_set_7 : decode cX6_set 7 = .ok (.istore 4, 2) := by decide +kernel
theorem dX6_set_9 : decode cX6_set 9 = .ok (.iload 4, 2) := by decide +kernel
theorem dX6_set_11 : decode cX6_set 11 = .ok (.ifCond .eq 6, 3) := by decide +kernel
theorem dX6_set_14 : decode cX6_set 14 = .ok (.iload 4, 2) := by decide +kernel
theorem dX6_set_16 : decode cX6_set 16 = .ok (.ireturn, 1) := by decide +kernel
theorem dX6_set_17 : decode cX6_set 17 = .ok (.aload_n 0, 1) := by decide +kernel
theorem dX6_set_18 : decode cX6_set 18 = .ok (.getfield 12, 3) := by decide +kernel
theorem dX6_set_21 : decode cX6_set 21 = .ok (.iload_n 1, 1) := by decide +kernel
theorem dX6_set_22 : decode cX6_set 22 = .ok (.invokevirtual 64, 3) := by decide +kernel
theorem dX6_set_25 : decode cX6_set 25 = .ok (.iload_n 2, 1) := by decide +kernel
theorem dX6_set_26 : decode cX6_set 26 = .ok (.invokevirtual 85, 3) := by decide +kernel
theorem dX6_set_29 : decode cX6_set 29 = .ok (.istore 5, 2) := by decide +kernel
theorem dX6_set_31 : decode cX6_set 31 = .ok (.aload_n 0, 1) := by decide +kernel
theorem dX6_set_32 : decode cX6_set 32 = .ok (.iload_n 1, 1) := by decide +kernel
theorem dX6_set_33 : decode cX6_set 33 = .ok (.invokevirtual 60, 3) := by decide +kernel
theorem dX6_set_36 : decode cX6_set 36 = .ok (.iload 5, 2) := by decide +kernel
theorem dX6_set_38 : decode cX6_set 38 = .ok (.ireturn, 1) := by decide +kernel
theorem dX6_sort_0 : decode cX6_sort 0 = .ok (.aload_n 0, 1) := by decide +kernel
theorem dX6_sort_1 : decode cX6_sort 1 = .ok (.iload_n 1, 1) := by decide +kernel
theorem dX6_sort_2 : decode cX6_sort 2 = .ok (.invokevirtual 89, 3) := by decide +kernel
theorem dX6_sort_5 : decode cX6_sort 5 = .ok (.istore_n 2, 1) := by decide +kernel
theorem dX6_sort_6 : decode cX6_sort 6 = .ok (.iload_n 2, 1) := by decide +kernel
theorem dX6_sort_7 : decode cX6_sort 7 = .ok (.ifCond .eq 5, 3) := by decide +kernel
theorem dX6_sort_10 : decode cX6_sort 10 = .ok (.iload_n 2, 1) := by decide +kernel
theorem dX6_sort_11 : decode cX6_sort 11 = .ok (.ireturn, 1) := by decide +kernel
theorem dX6_sort_12 : decode cX6_sort 12 = .ok (.aload_n 0, 1) := by decide +kernel
theorem dX6_sort_13 : decode cX6_sort 13 = .ok (.iload_n 1, 1) := by decide +kernel
theorem dX6_sort_14 : decode cX6_sort 14 = .ok (.invokevirtual 60, 3) := by decide +kernel
theorem dX6_sort_17 : decode cX6_sort 17 = .ok (.aload_n 0, 1) := by decide +kernel
theorem dX6_sort_18 : decode cX6_sort 18 = .ok (.getfield 12, 3) := by decide +kernel
theorem dX6_sort_21 : decode cX6_sort 21 = .ok (.iload_n 1, 1) := by decide +kernel
theorem dX6_sort_22 : decode cX6_sort 22 = .ok (.invokevirtual 64, 3) := by decide +kernel
theorem dX6_sort_25 : decode cX6_sort 25 = .ok (.invokevirtual 76, 3) := by decide +kernel
theorem dX6_sort_28 : decode cX6_sort 28 = .ok (.ireturn, 1) := by decide +kernel
theorem dX6_turn_0 : decode cX6_turn 0 = .ok (.iload_n 1, 1) := by decide +kernel
theorem dX6_turn_1 : decode cX6_turn 1 = .ok (.invokestatic 92, 3) := by decide +kernel
theorem dX6_turn_4 : decode cX6_turn 4 = .ok (.ifCond .eq 10, 3) := by decide +kernel
theorem dX6_turn_7 : decode cX6_turn 7 = .ok (.iload_n 2, 1) := by decide +kernel
theorem dX6_turn_8 : decode cX6_turn 8 = .ok (.invokestatic 92, 3) := by decide +kernel
theorem dX6_turn_11 : decode cX6_turn 11 = .ok (.ifCond .ne 5, 3) := by decide +kernel
theorem dX6_turn_14 : decode cX6_turn 14 = .ok (.iconst (-1), 1) := by decide +kernel
theorem dX6_turn_15 : decode cX6_turn 15 = .ok (.ireturn, 1) := by decide +kernel
theorem dX6_turn_16 : decode cX6_turn 16 = .ok (.aload_n 0, 1) := by decide +kernel
theorem dX6_turn_17 : decode cX6_turn 17 = .ok (.getfield 34, 3) := by decide +kernel
theorem dX6_turn_20 : decode cX6_turn 20 = .ok (.invokevirtual 96, 3) := by decide +kernel
theorem dX6_turn_23 : decode cX6_turn 23 = .ok (.aload_n 0, 1) := by decide +kernel
theorem dX6_turn_24 : decode cX6_turn 24 = .ok (.getfield 34, 3) := by decide +kernel
theorem dX6_turn_27 : decode cX6_turn 27 = .ok (.aload_n 0, 1) := by decide +kernel
theorem dX6_turn_28 : decode cX6_turn 28 = .ok (.getfield 12, 3) := by decide +kernel
theorem dX6_turn_31 : decode cX6_turn 31 = .ok (.iload_n 2, 1) := by decide +kernel
theorem dX6_turn_32 : decode cX6_turn 32 = .ok (.invokevirtual 64, 3) := by decide +kernel
theorem dX6_turn_35 : decode cX6_turn 35 = .ok (.invokevirtual 99, 3) := by decide +kernel
theorem dX6_turn_38 : decode cX6_turn 38 = .ok (.aload_n 0, 1) := by decide +kernel
theorem dX6_turn_39 : decode cX6_turn 39 = .ok (.iload_n 1, 1) := by decide +kernel
theorem dX6_turn_40 : decode cX6_turn 40 = .ok (.invokevirtual 60, 3) := by decide +kernel
theorem dX6_turn_43 : decode cX6_turn 43 = .ok (.aload_n 0, 1) := by decide +kernel
theorem dX6_turn_44 : decode cX6_turn 44 = .ok (.getfield 12, 3) := by decide +kernel
theorem dX6_turn_47 : decode cX6_turn 47 = .ok (.iload_n 1, 1) := by decide +kernel
theorem dX6_turn_48 : decode cX6_turn 48 = .ok (.invokevirtual 64, 3) := by decide +kernel
theorem dX6_turn_51 : decode cX6_turn 51 = .ok (.invokevirtual 68, 3) := by decide +kernel
theorem dX6_turn_54 : decode cX6_turn 54 = .ok (.ireturn, 1) := by decide +kernel
theorem dX6_merge_0 : decode cX6_merge 0 = .ok (.aload_n 0, 1) := by decide +kernel
theorem dX6_merge_1 : decode cX6_merge 1 = .ok (.iload_n 1, 1) := by decide +kernel
theorem dX6_merge_2 : decode cX6_merge 2 = .ok (.iload_n 2, 1) := by decide +kernel
theorem dX6_merge_3 : decode cX6_merge 3 = .ok (.iload_n 3, 1) := by decide +kernel
theorem dX6_merge_4 : decode cX6_merge 4 = .ok (.iload 4, 2) := by decide +kernel
theorem dX6_merge_6 : decode cX6_merge 6 = .ok (.invokevirtual 103, 3) := by decide +kernel
theorem dX6_merge_9 : decode cX6_merge 9 = .ok (.istore 5, 2) := by decide +kernel
theorem dX6_merge_11 : decode cX6_merge 11 = .ok (.iload 5, 2) := by decide +kernel
theorem dX6_merge_13 : decode cX6_merge 13 = .ok (.ifCond .eq 6, 3) := by decide +kernel
theorem dX6_merge_16 : decode cX6_merge 16 = .ok (.iload 5, 2) := by decide +kernel
theorem dX6_merge_18 : decode cX6_merge 18 = .ok (.ireturn, 1) := by decide +kernel
theorem dX6_merge_19 : decode cX6_merge 19 = .ok (.aload_n 0, 1) := by decide +kernel
theorem dX6_merge_20 : decode cX6_merge 20 = .ok (.iload_n 1, 1) := by decide +kernel
theorem dX6_merge_21 : decode cX6_merge 21 = .ok (.invokevirtual 60, 3) := by decide +kernel
theorem dX6_merge_24 : decode cX6_merge 24 = .ok (.aload_n 0, 1) := by decide +kernel
theorem dX6_merge_25 : decode cX6_merge 25 = .ok (.getfield 12, 3) := by decide +kernel
theorem dX6_merge_28 : decode cX6_merge 28 = .ok (.iload_n 1, 1) := by decide +kernel
theorem dX6_merge_29 : decode cX6_merge 29 = .ok (.invokevirtual 64, 3) := by decide +kernel
theorem dX6_merge_32 : decode cX6_merge 32 = .ok (.invokevirtual 68, 3) := by decide +kernel
theorem dX6_merge_35 : decode cX6_merge 35 = .ok (.ireturn, 1) := by decide +kernel
theorem dX6_run_0 : decode cX6_run 0 = .ok (.iload_n 1, 1) := by decide +kernel
theorem dX6_run_1 : decode cX6_run 1 = .ok (.invokestatic 92, 3) := by decide +kernel
theorem dX6_run_4 : decode cX6_run 4 = .ok (.ifCond .ne 5, 3) := by decide +kernel
theorem dX6_run_7 : decode cX6_run 7 = .ok (.iconst (-1), 1) := by decide +kernel
theorem dX6_run_8 : decode cX6_run 8 = .ok (.ireturn, 1) := by decide +kernel
theorem dX6_run_9 : decode cX6_run 9 = .ok (.aload_n 0, 1) := by decide +kernel
theorem dX6_run_10 : decode cX6_run 10 = .ok (.getfield 12, 3) := by decide +kernel
theorem dX6_run_13 : decode cX6_run 13 = .ok (.iload_n 1, 1) := by decide +kernel
theorem dX6_run_14 : decode cX6_run 14 = .ok (.invokevirtual 64, 3) := by decide +kernel
theorem dX6_run_17 : decode cX6_run 17 = .ok (.astore 4, 2) := by decide +kernel
theorem dX6_run_19 : decode cX6_run 19 = .ok (.iload_n 2, 1) := by decide +kernel
theorem dX6_run_20 : decode cX6_run 20 = .ok (.ifCond .lt 12, 3) := by decide +kernel
theorem dX6_run_23 : decode cX6_run 23 = .ok (.iload_n 2, 1) := by decide +kernel
theorem dX6_run_24 : decode cX6_run 24 = .ok (.aload 4, 2) := by decide +kernel
theorem dX6_run_26 : decode cX6_run 26 = .ok (.invokevirtual 76, 3) := by decide +kernel
theorem dX6_run_29 : decode cX6_run 29 = .ok (.if_icmp .lt 5, 3) := by decide +kernel
theorem dX6_run_32 : decode cX6_run 32 = .ok (.iconst (-1), 1) := by decide +kernel
theorem dX6_run_33 : decode cX6_run 33 = .ok (.ireturn, 1) := by decide +kernel
theorem dX6_run_34 : decode cX6_run 34 = .ok (.iload_n 3, 1) := by decide +kernel
theorem dX6_run_35 : decode cX6_run 35 = .ok (.tableswitch 46 0 2 #[25, 32, 39], 25) := by decide +kernel
theorem dX6_run_60 : decode cX6_run 60 = .ok (.aload 4, 2) := by decide +kernel
theorem dX6_run_62 : decode cX6_run 62 = .ok (.iload_n 2, 1) := by decide +kernel
theorem dX6_run_63 : decode cX6_run 63 = .ok (.invokevirtual 106, 3) := by decide +kernel
theorem dX6_run_66 : decode cX6_run 66 = .ok (.ireturn, 1) := by decide +kernel
theorem dX6_run_67 : decode cX6_run 67 = .ok (.aload 4, 2) := by decide +kernel
theorem dX6_run_69 : decode cX6_run 69 = .ok (.iload_n 2, 1) := by decide +kernel
theorem dX6_run_70 : decode cX6_run 70 = .ok (.invokevirtual 109, 3) := by decide +kernel
theorem dX6_run_73 : decode cX6_run 73 = .ok (.ireturn, 1) := by decide +kernel
theorem dX6_run_74 : decode cX6_run 74 = .ok (.aload 4, 2) := by decide +kernel
theorem dX6_run_76 : decode cX6_run 76 = .ok (.iload_n 2, 1) := by decide +kernel
theorem dX6_run_77 : decode cX6_run 77 = .ok (.invokevirtual 112, 3) := by decide +kernel
theorem dX6_run_80 : decode cX6_run 80 = .ok (.ireturn, 1) := by decide +kernel
theorem dX6_run_81 : decode cX6_run 81 = .ok (.bipush (-2), 2) := by decide +kernel
theorem dX6_run_83 : decode cX6_run 83 = .ok (.ireturn, 1) := by decide +kernel
theorem dX6_value_0 : decode cX6_value 0 = .ok (.aload_n 0, 1) := by decide +kernel
theorem dX6_value_1 : decode cX6_value 1 = .ok (.iload_n 1, 1) := by decide +kernel
theorem dX6_value_2 : decode cX6_value 2 = .ok (.iload_n 2, 1) := by decide +kernel
theorem dX6_value_3 : decode cX6_value 3 = .ok (.invokevirtual 115, 3) := by decide +kernel
theorem dX6_value_6 : decode cX6_value 6 = .ok (.ifCond .ne 5, 3) := by decide +kernel
theorem dX6_value_9 : decode cX6_value 9 = .ok (.iconst (-1), 1) := by decide +kernel
theorem dX6_value_10 : decode cX6_value 10 = .ok (.ireturn, 1) := by decide +kernel
theorem dX6_value_11 : decode cX6_value 11 = .ok (.aload_n 0, 1) := by decide +kernel
theorem dX6_value_12 : decode cX6_value 12 = .ok (.getfield 12, 3) := by decide +kernel
theorem dX6_value_15 : decode cX6_value 15 = .ok (.iload_n 1, 1) := by decide +kernel
theorem dX6_value_16 : decode cX6_value 16 = .ok (.invokevirtual 64, 3) := by decide +kernel
theorem dX6_value_19 : decode cX6_value 19 = .ok (.iload_n 2, 1) := by decide +kernel
theorem dX6_value_20 : decode cX6_value 20 = .ok (.invokevirtual 85, 3) := by decide +kernel
theorem dX6_value_23 : decode cX6_value 23 = .ok (.ireturn, 1) := by decide +kernel
theorem dX6_find_0 : decode cX6_find 0 = .ok (.iload_n 1, 1) := by decide +kernel
theorem dX6_find_1 : decode cX6_find 1 = .ok (.invokestatic 92, 3) := by decide +kernel
theorem dX6_find_4 : decode cX6_find 4 = .ok (.ifCond .ne 5, 3) := by decide +kernel
theorem dX6_find_7 : decode cX6_find 7 = .ok (.iconst (-1), 1) := by decide +kernel
theorem dX6_find_8 : decode cX6_find 8 = .ok (.ireturn, 1) := by decide +kernel
theorem dX6_find_9 : decode cX6_find 9 = .ok (.iload_n 2, 1) := by decide +kernel
theorem dX6_find_10 : decode cX6_find 10 = .ok (.invokestatic 119, 3) := by decide +kernel
theorem dX6_find_13 : decode cX6_find 13 = .ok (.ifCond .eq 7, 3) := by decide +kernel
theorem dX6_find_16 : decode cX6_find 16 = .ok (.iload_n 3, 1) := by decide +kernel
theorem dX6_find_17 : decode cX6_find 17 = .ok (.ifCond .ge 6, 3) := by decide +kernel
theorem dX6_find_20 : decode cX6_find 20 = .ok (.bipush (-2), 2) := by decide +kernel
theorem dX6_find_22 : decode cX6_find 22 = .ok (.ireturn, 1) := by decide +kernel
theorem dX6_find_23 : decode cX6_find 23 = .ok (.aload_n 0, 1) := by decide +kernel
theorem dX6_find_24 : decode cX6_find 24 = .ok (.getfield 12, 3) := by decide +kernel
theorem dX6_find_27 : decode cX6_find 27 = .ok (.iload_n 1, 1) := by decide +kernel
theorem dX6_find_28 : decode cX6_find 28 = .ok (.invokevirtual 64, 3) := by decide +kernel
theorem dX6_find_31 : decode cX6_find 31 = .ok (.iload_n 2, 1) := by decide +kernel
theorem dX6_find_32 : decode cX6_find 32 = .ok (.iload_n 3, 1) := by decide +kernel
theorem dX6_find_33 : decode cX6_find 33 = .ok (.invokevirtual 122, 3) := by decide +kernel
theorem dX6_find_36 : decode cX6_find 36 = .ok (.ireturn, 1) := by decide +kernel
theorem dX6_ofColumn_0 : decode cX6_ofColumn 0 = .ok (.iload_n 1, 1) := by decide +kernel
theorem dX6_ofColumn_1 : decode cX6_ofColumn 1 = .ok (.invokestatic 92, 3) := by decide +kernel
theorem dX6_ofColumn_4 : decode cX6_ofColumn 4 = .ok (.ifCond .ne 5, 3) := by decide +kernel
theorem dX6_ofColumn_7 : decode cX6_ofColumn 7 = .ok (.iconst (-1), 1) := by decide +kernel
theorem dX6_ofColumn_8 : decode cX6_ofColumn 8 = .ok (.ireturn, 1) := by decide +kernel
theorem dX6_ofColumn_9 : decode cX6_ofColumn 9 = .ok (.aload_n 0, 1) := by decide +kernel
theorem dX6_ofColumn_10 : decode cX6_ofColumn 10 = .ok (.getfield 12, 3) := by decide +kernel
theorem dX6_ofColumn_13 : decode cX6_ofColumn 13 = .ok (.iload_n 1, 1) := by decide +kernel
theorem dX6_ofColumn_14 : decode cX6_ofColumn 14 = .ok (.invokevirtual 64, 3) := by decide +kernel
theorem dX6_ofColumn_17 : decode cX6_ofColumn 17 = .ok (.astore_n 3, 1) := by decide +kernel
theorem dX6_ofColumn_18 : decode cX6_ofColumn 18 = .ok (.iload_n 2, 1) := by decide +kernel
theorem dX6_ofColumn_19 : decode cX6_ofColumn 19 = .ok (.tableswitch 92 0 6 #[41, 46, 51, 56, 61, 66, 79], 41) := by decide +kernel
theorem dX6_ofColumn_60 : decode cX6_ofColumn 60 = .ok (.aload_n 3, 1) := by decide +kernel
theorem dX6_ofColumn_61 : decode cX6_ofColumn 61 = .ok (.invokevirtual 68, 3) := by decide +kernel
theorem dX6_ofColumn_64 : decode cX6_ofColumn 64 = .ok (.ireturn, 1) := by decide +kernel
theorem dX6_ofColumn_65 : decode cX6_ofColumn 65 = .ok (.aload_n 3, 1) := by decide +kernel
theorem dX6_ofColumn_66 : decode cX6_ofColumn 66 = .ok (.invokevirtual 76, 3) := by decide +kernel
theorem dX6_ofColumn_69 : decode cX6_ofColumn 69 = .ok (.ireturn, 1) := by decide +kernel
theorem dX6_ofColumn_70 : decode cX6_ofColumn 70 = .ok (.aload_n 3, 1) := by decide +kernel
theorem dX6_ofColumn_71 : decode cX6_ofColumn 71 = .ok (.invokevirtual 126, 3) := by decide +kernel
theorem dX6_ofColumn_74 : decode cX6_ofColumn 74 = .ok (.ireturn, 1) := by decide +kernel
theorem dX6_ofColumn_75 : decode cX6_ofColumn 75 = .ok (.aload_n 3, 1) := by decide +kernel
theorem dX6_ofColumn_76 : decode cX6_ofColumn 76 = .ok (.invokevirtual 129, 3) := by decide +kernel
theorem dX6_ofColumn_79 : decode cX6_ofColumn 79 = .ok (.ireturn, 1) := by decide +kernel
theorem dX6_ofColumn_80 : decode cX6_ofColumn 80 = .ok (.aload_n 3, 1) := by decide +kernel
theorem dX6_ofColumn_81 : decode cX6_ofColumn 81 = .ok (.invokevirtual 132, 3) := by decide +kernel
theorem dX6_ofColumn_84 : decode cX6_ofColumn 84 = .ok (.ireturn, 1) := by decide +kernel
theorem dX6_ofColumn_85 : decode cX6_ofColumn 85 = .ok (.aload_n 3, 1) := by decide +kernel
theorem dX6_ofColumn_86 : decode cX6_ofColumn 86 = .ok (.invokevirtual 135, 3) := by decide +kernel
theorem dX6_ofColumn_89 : decode cX6_ofColumn 89 = .ok (.ifCond .eq 7, 3) := by decide +kernel
theorem dX6_ofColumn_92 : decode cX6_ofColumn 92 = .ok (.iconst 1, 1) := by decide +kernel
theorem dX6_ofColumn_93 : decode cX6_ofColumn 93 = .ok (.goto 4, 3) := by decide +kernel
theorem dX6_ofColumn_96 : decode cX6_ofColumn 96 = .ok (.iconst 0, 1) := by decide +kernel
theorem dX6_ofColumn_97 : decode cX6_ofColumn 97 = .ok (.ireturn, 1) := by decide +kernel
theorem dX6_ofColumn_98 : decode cX6_ofColumn 98 = .ok (.aload_n 3, 1) := by decide +kernel
theorem dX6_ofColumn_99 : decode cX6_ofColumn 99 = .ok (.invokevirtual 139, 3) := by decide +kernel
theorem dX6_ofColumn_102 : decode cX6_ofColumn 102 = .ok (.ifCond .eq 7, 3) := by decide +kernel
theorem dX6_ofColumn_105 : decode cX6_ofColumn 105 = .ok (.iconst 1, 1) := by decide +kernel
theorem dX6_ofColumn_106 : decode cX6_ofColumn 106 = .ok (.goto 4, 3) := by decide +kernel
theorem dX6_ofColumn_109 : decode cX6_ofColumn 109 = .ok (.iconst 0, 1) := by decide +kernel
theorem dX6_ofColumn_110 : decode cX6_ofColumn 110 = .ok (.ireturn, 1) := by decide +kernel
theorem dX6_ofColumn_111 : decode cX6_ofColumn 111 = .ok (.bipush (-2), 2) := by decide +kernel
theorem dX6_ofColumn_113 : decode cX6_ofColumn 113 = .ok (.ireturn, 1) := by decide +kernel
theorem dX6_group_0 : decode cX6_group 0 = .ok (.iload_n 1, 1) := by decide +kernel
theorem dX6_group_1 : decode cX6_group 1 = .ok (.invokestatic 92, 3) := by decide +kernel
theorem dX6_group_4 : decode cX6_group 4 = .ok (.ifCond .ne 5, 3) := by decide +kernel
theorem dX6_group_7 : decode cX6_group 7 = .ok (.iconst (-1), 1) := by decide +kernel
theorem dX6_group_8 : decode cX6_group 8 = .ok (.ireturn, 1) := by decide +kernel
theorem dX6_group_9 : decode cX6_group 9 = .ok (.iload_n 2, 1) := by decide +kernel
theorem dX6_group_10 : decode cX6_group 10 = .ok (.invokestatic 119, 3) := by decide +kernel
theorem dX6_group_13 : decode cX6_group 13 = .ok (.ifCond .ne 6, 3) := by decide +kernel
theorem dX6_group_16 : decode cX6_group 16 = .ok (.bipush (-2), 2) := by decide +kernel
theorem dX6_group_18 : decode cX6_group 18 = .ok (.ireturn, 1) := by decide +kernel
theorem dX6_group_19 : decode cX6_group 19 = .ok (.aload_n 0, 1) := by decide +kernel
theorem dX6_group_20 : decode cX6_group 20 = .ok (.getfield 12, 3) := by decide +kernel
theorem dX6_group_23 : decode cX6_group 23 = .ok (.iload_n 1, 1) := by decide +kernel
theorem dX6_group_24 : decode cX6_group 24 = .ok (.invokevirtual 64, 3) := by decide +kernel
theorem dX6_group_27 : decode cX6_group 27 = .ok (.astore 4, 2) := by decide +kernel
theorem dX6_group_29 : decode cX6_group 29 = .ok (.iload_n 3, 1) := by decide +kernel
theorem dX6_group_30 : decode cX6_group 30 = .ok (.tableswitch 47 0 2 #[26, 33, 40], 26) := by decide +kernel
theorem dX6_group_56 : decode cX6_group 56 = .ok (.aload 4, 2) := by decide +kernel
theorem dX6_group_58 : decode cX6_group 58 = .ok (.iload_n 2, 1) := by decide +kernel
theorem dX6_group_59 : decode cX6_group 59 = .ok (.invokevirtual 142, 3) := by decide +kernel
theorem dX6_group_62 : decode cX6_group 62 = .ok (.ireturn, 1) := by decide +kernel
theorem dX6_group_63 : decode cX6_group 63 = .ok (.aload 4, 2) := by decide +kernel
theorem dX6_group_65 : decode cX6_group 65 = .ok (.iload_n 2, 1) := by decide +kernel
theorem dX6_group_66 : decode cX6_group 66 = .ok (.invokevirtual 145, 3) := by decide +kernel
theorem dX6_group_69 : decode cX6_group 69 = .ok (.ireturn, 1) := by decide +kernel
theorem dX6_group_70 : decode cX6_group 70 = .ok (.aload 4, 2) := by decide +kernel
theorem dX6_group_72 : decode cX6_group 72 = .ok (.iload_n 2, 1) := by decide +kernel
theorem dX6_group_73 : decode cX6_group 73 = .ok (.invokevirtual 148, 3) := by decide +kernel
theorem dX6_group_76 : decode cX6_group 76 = .ok (.ireturn, 1) := by decide +kernel
theorem dX6_group_77 : decode cX6_group 77 = .ok (.bipush (-2), 2) := by decide +kernel
theorem dX6_group_79 : decode cX6_group 79 = .ok (.ireturn, 1) := by decide +kernel
theorem dX6_count_0 : decode cX6_count 0 = .ok (.iload_n 1, 1) := by decide +kernel
theorem dX6_count_1 : decode cX6_count 1 = .ok (.tableswitch 63 0 3 #[31, 39, 47, 55], 31) := by decide +kernel
theorem dX6_count_32 : decode cX6_count 32 = .ok (.aload_n 0, 1) := by decide +kernel
theorem dX6_count_33 : decode cX6_count 33 = .ok (.getfield 12, 3) := by decide +kernel
theorem dX6_count_36 : decode cX6_count 36 = .ok (.invokevirtual 151, 3) := by decide +kernel
theorem dX6_count_39 : decode cX6_count 39 = .ok (.ireturn, 1) := by decide +kernel
theorem dX6_count_40 : decode cX6_count 40 = .ok (.aload_n 0, 1) := by decide +kernel
theorem dX6_count_41 : decode cX6_count 41 = .ok (.getfield 12, 3) := by decide +kernel
theorem dX6_count_44 : decode cX6_count 44 = .ok (.invokevirtual 154, 3) := by decide +kernel
theorem dX6_count_47 : decode cX6_count 47 = .ok (.ireturn, 1) := by decide +kernel
theorem dX6_count_48 : decode cX6_count 48 = .ok (.aload_n 0, 1) := by decide +kernel
theorem dX6_count_49 : decode cX6_count 49 = .ok (.getfield 49, 3) := by decide +kernel
theorem dX6_count_52 : decode cX6_count 52 = .ok (.invokevirtual 157, 3) := by decide +kernel
theorem dX6_count_55 : decode cX6_count 55 = .ok (.ireturn, 1) := by decide +kernel
theorem dX6_count_56 : decode cX6_count 56 = .ok (.aload_n 0, 1) := by decide +kernel
theorem dX6_count_57 : decode cX6_count 57 = .ok (.getfield 19, 3) := by decide +kernel
theorem dX6_count_60 : decode cX6_count 60 = .ok (.invokevirtual 162, 3) := by decide +kernel
theorem dX6_count_63 : decode cX6_count 63 = .ok (.ireturn, 1) := by decide +kernel
theorem dX6_count_64 : decode cX6_count 64 = .ok (.bipush (-2), 2) := by decide +kernel
theorem dX6_count_66 : decode cX6_count 66 = .ok (.ireturn, 1) := by decide +kernel
theorem dX6_pair_0 : decode cX6_pair 0 = .ok (.iload_n 1, 1) := by decide +kernel
theorem dX6_pair_1 : decode cX6_pair 1 = .ok (.invokestatic 92, 3) := by decide +kernel
theorem dX6_pair_4 : decode cX6_pair 4 = .ok (.ifCond .eq 20, 3) := by decide +kernel
theorem dX6_pair_7 : decode cX6_pair 7 = .ok (.iload_n 2, 1) := by decide +kernel
theorem dX6_pair_8 : decode cX6_pair 8 = .ok (.invokestatic 92, 3) := by decide +kernel
theorem dX6_pair_11 : decode cX6_pair 11 = .ok (.ifCond .eq 13, 3) := by decide +kernel
theorem dX6_pair_14 : decode cX6_pair 14 = .ok (.iload_n 3, 1) := by decide +kernel
theorem dX6_pair_15 : decode cX6_pair 15 = .ok (.ifCond .lt 9, 3) := by decide +kernel
theorem dX6_pair_18 : decode cX6_pair 18 = .ok (.iload_n 3, 1) := by decide +kernel
theorem dX6_pair_19 : decode cX6_pair 19 = .ok (.bipush 80, 2) := by decide +kernel
theorem dX6_pair_21 : decode cX6_pair 21 = .ok (.if_icmp .lt 5, 3) := by decide +kernel
theorem dX6_pair_24 : decode cX6_pair 24 = .ok (.iconst (-1), 1) := by decide +kernel
theorem dX6_pair_25 : decode cX6_pair 25 = .ok (.ireturn, 1) := by decide +kernel
theorem dX6_pair_26 : decode cX6_pair 26 = .ok (.aload_n 0, 1) := by decide +kernel
theorem dX6_pair_27 : decode cX6_pair 27 = .ok (.iload_n 1, 1) := by decide +kernel
theorem dX6_pair_28 : decode cX6_pair 28 = .ok (.iload_n 2, 1) := by decide +kernel
theorem dX6_pair_29 : decode cX6_pair 29 = .ok (.invokevirtual 165, 3) := by decide +kernel
theorem dX6_pair_32 : decode cX6_pair 32 = .ok (.astore 5, 2) := by decide +kernel
theorem dX6_pair_34 : decode cX6_pair 34 = .ok (.iconst 0, 1) := by decide +kernel
theorem dX6_pair_35 : decode cX6_pair 35 = .ok (.istore 6, 2) := by decide +kernel
theorem dX6_pair_37 : decode cX6_pair 37 = .ok (.iload 6, 2) := by decide +kernel
theorem dX6_pair_39 : decode cX6_pair 39 = .ok (.iload_n 3, 1) := by decide +kernel
theorem dX6_pair_40 : decode cX6_pair 40 = .ok (.if_icmp .gt 19, 3) := by decide +kernel
theorem dX6_pair_43 : decode cX6_pair 43 = .ok (.aload 5, 2) := by decide +kernel
theorem dX6_pair_45 : decode cX6_pair 45 = .ok (.invokevirtual 169, 3) := by decide +kernel
theorem dX6_pair_48 : decode cX6_pair 48 = .ok (.ifCond .ne 5, 3) := by decide +kernel
theorem dX6_pair_51 : decode cX6_pair 51 = .ok (.iconst (-1), 1) := by decide +kernel
theorem dX6_pair_52 : decode cX6_pair 52 = .ok (.ireturn, 1) := by decide +kernel
theorem dX6_pair_53 : decode cX6_pair 53 = .ok (.iinc 6 1, 3) := by decide +kernel
theorem dX6_pair_56 : decode cX6_pair 56 = .ok (.goto (-19), 3) := by decide +kernel
theorem dX6_pair_59 : decode cX6_pair 59 = .ok (.iload 4, 2) := by decide +kernel
theorem dX6_pair_61 : decode cX6_pair 61 = .ok (.tableswitch 55 0 3 #[31, 37, 43, 49], 31) := by decide +kernel
theorem dX6_pair_92 : decode cX6_pair 92 = .ok (.aload 5, 2) := by decide +kernel
theorem dX6_pair_94 : decode cX6_pair 94 = .ok (.invokevirtual 174, 3) := by decide +kernel
theorem dX6_pair_97 : decode cX6_pair 97 = .ok (.ireturn, 1) := by decide +kernel
theorem dX6_pair_98 : decode cX6_pair 98 = .ok (.aload 5, 2) := by decide +kernel
theorem dX6_pair_100 : decode cX6_pair 100 = .ok (.invokevirtual 177, 3) := by decide +kernel
theorem dX6_pair_103 : decode cX6_pair 103 = .ok (.ireturn, 1) := by decide +kernel
theorem dX6_pair_104 : decode cX6_pair 104 = .ok (.aload 5, 2) := by decide +kernel
theorem dX6_pair_106 : decode cX6_pair 106 = .ok (.invokevirtual 180, 3) := by decide +kernel
theorem dX6_pair_109 : decode cX6_pair 109 = .ok (.ireturn, 1) := by decide +kernel
theorem dX6_pair_110 : decode cX6_pair 110 = .ok (.aload 5, 2) := by decide +kernel
theorem dX6_pair_112 : decode cX6_pair 112 = .ok (.invokevirtual 181, 3) := by decide +kernel
theorem dX6_pair_115 : decode cX6_pair 115 = .ok (.ireturn, 1) := by decide +kernel
theorem dX6_pair_116 : decode cX6_pair 116 = .ok (.bipush (-2), 2) := by decide +kernel
theorem dX6_pair_118 : decode cX6_pair 118 = .ok (.ireturn, 1) := by decide +kernel
theorem dX6_joined_0 : decode cX6_joined 0 = .ok (.iload_n 1, 1) := by decide +kernel
theorem dX6_joined_1 : decode cX6_joined 1 = .ok (.invokestatic 92, 3) := by decide +kernel
theorem dX6_joined_4 : decode cX6_joined 4 = .ok (.ifCond .eq 10, 3) := by decide +kernel
theorem dX6_joined_7 : decode cX6_joined 7 = .ok (.iload_n 2, 1) := by decide +kernel
theorem dX6_joined_8 : decode cX6_joined 8 = .ok (.invokestatic 92, 3) := by decide +kernel
theorem dX6_joined_11 : decode cX6_joined 11 = .ok (.ifCond .ne 5, 3) := by decide +kernel
theorem dX6_joined_14 : decode cX6_joined 14 = .ok (.iconst (-1), 1) := by decide +kernel
theorem dX6_joined_15 : decode cX6_joined 15 = .ok (.ireturn, 1) := by decide +kernel
theorem dX6_joined_16 : decode cX6_joined 16 = .ok (.iload_n 3, 1) := by decide +kernel
theorem dX6_joined_17 : decode cX6_joined 17 = .ok (.tableswitch 102 0 4 #[35, 61, 71, 81, 91], 35) := by decide +kernel
theorem dX6_joined_52 : decode cX6_joined 52 = .ok (.aload_n 0, 1) := by decide +kernel
theorem dX6_joined_53 : decode cX6_joined 53 = .ok (.getfield 12, 3) := by decide +kernel
theorem dX6_joined_56 : decode cX6_joined 56 = .ok (.iload_n 1, 1) := by decide +kernel
theorem dX6_joined_57 : decode cX6_joined 57 = .ok (.invokevirtual 64, 3) := by decide +kernel
theorem dX6_joined_60 : decode cX6_joined 60 = .ok (.invokevirtual 68, 3) := by decide +kernel
theorem dX6_joined_63 : decode cX6_joined 63 = .ok (.aload_n 0, 1) := by decide +kernel
theorem dX6_joined_64 : decode cX6_joined 64 = .ok (.getfield 12, 3) := by decide +kernel
theorem dX6_joined_67 : decode cX6_joined 67 = .ok (.iload_n 2, 1) := by decide +kernel
theorem dX6_joined_68 : decode cX6_joined 68 = .ok (.invokevirtual 64, 3) := by decide +kernel
theorem dX6_joined_71 : decode cX6_joined 71 = .ok (.invokevirtual 68, 3) := by decide +kernel
theorem dX6_joined_74 : decode cX6_joined 74 = .ok (.invokestatic 184, 3) := by decide +kernel
theorem dX6_joined_77 : decode cX6_joined 77 = .ok (.ireturn, 1) := by decide +kernel
theorem dX6_joined_78 : decode cX6_joined 78 = .ok (.aload_n 0, 1) := by decide +kernel
theorem dX6_joined_79 : decode cX6_joined 79 = .ok (.iload_n 1, 1) := by decide +kernel
theorem dX6_joined_80 : decode cX6_joined 80 = .ok (.iload_n 2, 1) := by decide +kernel
theorem dX6_joined_81 : decode cX6_joined 81 = .ok (.invokevirtual 165, 3) := by decide +kernel
theorem dX6_joined_84 : decode cX6_joined 84 = .ok (.invokestatic 189, 3) := by decide +kernel
theorem dX6_joined_87 : decode cX6_joined 87 = .ok (.ireturn, 1) := by decide +kernel
theorem dX6_joined_88 : decode cX6_joined 88 = .ok (.aload_n 0, 1) := by decide +kernel
theorem dX6_joined_89 : decode cX6_joined 89 = .ok (.iload_n 1, 1) := by decide +kernel
theorem dX6_joined_90 : decode cX6_joined 90 = .ok (.iload_n 2, 1) := by decide +kernel
theorem dX6_joined_91 : decode cX6_joined 91 = .ok (.invokevirtual 165, 3) := by decide +kernel
theorem dX6_joined_94 : decode cX6_joined 94 = .ok (.invokestatic 193, 3) := by decide +kernel
theorem dX6_joined_97 : decode cX6_joined 97 = .ok (.ireturn, 1) := by decide +kernel
theorem dX6_joined_98 : decode cX6_joined 98 = .ok (.aload_n 0, 1) := by decide +kernel
theorem dX6_joined_99 : decode cX6_joined 99 = .ok (.iload_n 1, 1) := by decide +kernel
theorem dX6_joined_100 : decode cX6_joined 100 = .ok (.iload_n 2, 1) := by decide +kernel
theorem dX6_joined_101 : decode cX6_joined 101 = .ok (.invokevirtual 165, 3) := by decide +kernel
theorem dX6_joined_104 : decode cX6_joined 104 = .ok (.invokestatic 196, 3) := by decide +kernel
theorem dX6_joined_107 : decode cX6_joined 107 = .ok (.ireturn, 1) := by decide +kernel
theorem dX6_joined_108 : decode cX6_joined 108 = .ok (.aload_n 0, 1) := by decide +kernel
theorem dX6_joined_109 : decode cX6_joined 109 = .ok (.aload_n 0, 1) := by decide +kernel
theorem dX6_joined_110 : decode cX6_joined 110 = .ok (.iload_n 1, 1) := by decide +kernel
theorem dX6_joined_111 : decode cX6_joined 111 = .ok (.iload_n 2, 1) := by decide +kernel
theorem dX6_joined_112 : decode cX6_joined 112 = .ok (.invokevirtual 165, 3) := by decide +kernel
theorem dX6_joined_115 : decode cX6_joined 115 = .ok (.invokevirtual 199, 3) := by decide +kernel
theorem dX6_joined_118 : decode cX6_joined 118 = .ok (.ireturn, 1) := by decide +kernel
theorem dX6_joined_119 : decode cX6_joined 119 = .ok (.bipush (-2), 2) := by decide +kernel
theorem dX6_joined_121 : decode cX6_joined 121 = .ok (.ireturn, 1) := by decide +kernel
theorem dX6_alike_0 : decode cX6_alike 0 = .ok (.iload_n 1, 1) := by decide +kernel
theorem dX6_alike_1 : decode cX6_alike 1 = .ok (.invokestatic 92, 3) := by decide +kernel
theorem dX6_alike_4 : decode cX6_alike 4 = .ok (.ifCond .eq 10, 3) := by decide +kernel
theorem dX6_alike_7 : decode cX6_alike 7 = .ok (.iload_n 2, 1) := by decide +kernel
theorem dX6_alike_8 : decode cX6_alike 8 = .ok (.invokestatic 92, 3) := by decide +kernel
theorem dX6_alike_11 : decode cX6_alike 11 = .ok (.ifCond .ne 5, 3) := by decide +kernel
theorem dX6_alike_14 : decode cX6_alike 14 = .ok (.iconst (-1), 1) := by decide +kernel
theorem dX6_alike_15 : decode cX6_alike 15 = .ok (.ireturn, 1) := by decide +kernel
theorem dX6_alike_16 : decode cX6_alike 16 = .ok (.iconst 0, 1) := by decide +kernel
theorem dX6_alike_17 : decode cX6_alike 17 = .ok (.istore_n 3, 1) := by decide +kernel
theorem dX6_alike_18 : decode cX6_alike 18 = .ok (.iconst 0, 1) := by decide +kernel
theorem dX6_alike_19 : decode cX6_alike 19 = .ok (.istore 4, 2) := by decide +kernel
theorem dX6_alike_21 : decode cX6_alike 21 = .ok (.iload 4, 2) := by decide +kernel
theorem dX6_alike_23 : decode cX6_alike 23 = .ok (.bipush 10, 2) := by decide +kernel
theorem dX6_alike_25 : decode cX6_alike 25 = .ok (.if_icmp .ge 39, 3) := by decide +kernel
theorem dX6_alike_28 : decode cX6_alike 28 = .ok (.iload_n 3, 1) := by decide +kernel
theorem dX6_alike_29 : decode cX6_alike 29 = .ok (.aload_n 0, 1) := by decide +kernel
theorem dX6_alike_30 : decode cX6_alike 30 = .ok (.getfield 12, 3) := by decide +kernel
theorem dX6_alike_33 : decode cX6_alike 33 = .ok (.iload_n 1, 1) := by decide +kernel
theorem dX6_alike_34 : decode cX6_alike 34 = .ok (.invokevirtual 64, 3) := by decide +kernel
theorem dX6_alike_37 : decode cX6_alike 37 = .ok (.iload 4, 2) := by decide +kernel
theorem dX6_alike_39 : decode cX6_alike 39 = .ok (.invokevirtual 142, 3) := by decide +kernel
theorem dX6_alike_42 : decode cX6_alike 42 = .ok (.aload_n 0, 1) := by decide +kernel
theorem dX6_alike_43 : decode cX6_alike 43 = .ok (.getfield 12, 3) := by decide +kernel
theorem dX6_alike_46 : decode cX6_alike 46 = .ok (.iload_n 2, 1) := by decide +kernel
theorem dX6_alike_47 : decode cX6_alike 47 = .ok (.invokevirtual 64, 3) := by decide +kernel
theorem dX6_alike_50 : decode cX6_alike 50 = .ok (.iload 4, 2) := by decide +kernel
theorem dX6_alike_52 : decode cX6_alike 52 = .ok (.invokevirtual 142, 3) := by decide +kernel
theorem dX6_alike_55 : decode cX6_alike 55 = .ok (.imul, 1) := by decide +kernel
theorem dX6_alike_56 : decode cX6_alike 56 = .ok (.iadd, 1) := by decide +kernel
theorem dX6_alike_57 : decode cX6_alike 57 = .ok (.istore_n 3, 1) := by decide +kernel
theorem dX6_alike_58 : decode cX6_alike 58 = .ok (.iinc 4 1, 3) := by decide +kernel
theorem dX6_alike_61 : decode cX6_alike 61 = .ok (.goto (-40), 3) := by decide +kernel
theorem dX6_alike_64 : decode cX6_alike 64 = .ok (.iload_n 3, 1) := by decide +kernel
theorem dX6_alike_65 : decode cX6_alike 65 = .ok (.ireturn, 1) := by decide +kernel
theorem dX6_saves_0 : decode cX6_saves 0 = .ok (.iload_n 1, 1) := by decide +kernel
theorem dX6_saves_1 : decode cX6_saves 1 = .ok (.invokestatic 92, 3) := by decide +kernel
theorem dX6_saves_4 : decode cX6_saves 4 = .ok (.ifCond .ne 5, 3) := by decide +kernel
theorem dX6_saves_7 : decode cX6_saves 7 = .ok (.iconst (-1), 1) := by decide +kernel
theorem dX6_saves_8 : decode cX6_saves 8 = .ok (.ireturn, 1) := by decide +kernel
theorem dX6_saves_9 : decode cX6_saves 9 = .ok (.aload_n 0, 1) := by decide +kernel
theorem dX6_saves_10 : decode cX6_saves 10 = .ok (.getfield 12, 3) := by decide +kernel
theorem dX6_saves_13 : decode cX6_saves 13 = .ok (.iload_n 1, 1) := by decide +kernel
theorem dX6_saves_14 : decode cX6_saves 14 = .ok (.invokevirtual 64, 3) := by decide +kernel
theorem dX6_saves_17 : decode cX6_saves 17 = .ok (.astore_n 2, 1) := by decide +kernel
theorem dX6_saves_18 : decode cX6_saves 18 = .ok (.aload_n 2, 1) := by decide +kernel
theorem dX6_saves_19 : decode cX6_saves 19 = .ok (.invokevirtual 76, 3) := by decide +kernel
theorem dX6_saves_22 : decode cX6_saves 22 = .ok (.aload_n 2, 1) := by decide +kernel
theorem dX6_saves_23 : decode cX6_saves 23 = .ok (.invokevirtual 132, 3) := by decide +kernel
theorem dX6_saves_26 : decode cX6_saves 26 = .ok (.invokestatic 202, 3) := by decide +kernel
theorem dX6_saves_29 : decode cX6_saves 29 = .ok (.isub, 1) := by decide +kernel
theorem dX6_saves_30 : decode cX6_saves 30 = .ok (.ireturn, 1) := by decide +kernel
theorem dX6_bestSet_0 : decode cX6_bestSet 0 = .ok (.iload_n 1, 1) := by decide +kernel
theorem dX6_bestSet_1 : decode cX6_bestSet 1 = .ok (.invokestatic 92, 3) := by decide +kernel
theorem dX6_bestSet_4 : decode cX6_bestSet 4 = .ok (.ifCond .ne 5, 3) := by decide +kernel
theorem dX6_bestSet_7 : decode cX6_bestSet 7 = .ok (.iconst (-1), 1) := by decide +kernel
theorem dX6_bestSet_8 : decode cX6_bestSet 8 = .ok (.ireturn, 1) := by decide +kernel
theorem dX6_bestSet_9 : decode cX6_bestSet 9 = .ok (.iload_n 2, 1) := by decide +kernel
theorem dX6_bestSet_10 : decode cX6_bestSet 10 = .ok (.invokestatic 119, 3) := by decide +kernel
theorem dX6_bestSet_13 : decode cX6_bestSet 13 = .ok (.ifCond .eq 12, 3) := by decide +kernel
theorem dX6_bestSet_16 : decode cX6_bestSet 16 = .ok (.iload_n 3, 1) := by decide +kernel
theorem dX6_bestSet_17 : decode cX6_bestSet 17 = .ok (.ifCond .lt 8, 3) := by decide +kernel
theorem dX6_bestSet_20 : decode cX6_bestSet 20 = .ok (.iload_n 3, 1) := by decide +kernel
theorem dX6_bestSet_21 : decode cX6_bestSet 21 = .ok (.iconst 1, 1) := by decide +kernel
theorem dX6_bestSet_22 : decode cX6_bestSet 22 = .ok (.if_icmp .le 6, 3) := by decide +kernel
theorem dX6_bestSet_25 : decode cX6_bestSet 25 = .ok (.bipush (-2), 2) := by decide +kernel
theorem dX6_bestSet_27 : decode cX6_bestSet 27 = .ok (.ireturn, 1) := by decide +kernel
theorem dX6_bestSet_28 : decode cX6_bestSet 28 = .ok (.aload_n 0, 1) := by decide +kernel
theorem dX6_bestSet_29 : decode cX6_bestSet 29 = .ok (.getfield 12, 3) := by decide +kernel
theorem dX6_bestSet_32 : decode cX6_bestSet 32 = .ok (.iload_n 1, 1) := by decide +kernel
theorem dX6_bestSet_33 : decode cX6_bestSet 33 = .ok (.invokevirtual 64, 3) := by decide +kernel
theorem dX6_bestSet_36 : decode cX6_bestSet 36 = .ok (.astore 4, 2) := by decide +kernel
theorem dX6_bestSet_38 : decode cX6_bestSet 38 = .ok (.aload 4, 2) := by decide +kernel
theorem dX6_bestSet_40 : decode cX6_bestSet 40 = .ok (.invokevirtual 68, 3) := by decide +kernel
theorem dX6_bestSet_43 : decode cX6_bestSet 43 = .ok (.ifCond .ne 6, 3) := by decide +kernel
theorem dX6_bestSet_46 : decode cX6_bestSet 46 = .ok (.bipush (-6), 2) := by decide +kernel
theorem dX6_bestSet_48 : decode cX6_bestSet 48 = .ok (.ireturn, 1) := by decide +kernel
theorem dX6_bestSet_49 : decode cX6_bestSet 49 = .ok (.aload 4, 2) := by decide +kernel
theorem dX6_bestSet_51 : decode cX6_bestSet 51 = .ok (.iload_n 2, 1) := by decide +kernel
theorem dX6_bestSet_52 : decode cX6_bestSet 52 = .ok (.invokevirtual 207, 3) := by decide +kernel
theorem dX6_bestSet_55 : decode cX6_bestSet 55 = .ok (.istore 5, 2) := by decide +kernel
theorem dX6_bestSet_57 : decode cX6_bestSet 57 = .ok (.iload_n 3, 1) := by decide +kernel
theorem dX6_bestSet_58 : decode cX6_bestSet 58 = .ok (.ifCond .ne 8, 3) := by decide +kernel
theorem dX6_bestSet_61 : decode cX6_bestSet 61 = .ok (.iload 5, 2) := by decide +kernel
theorem dX6_bestSet_63 : decode cX6_bestSet 63 = .ok (.goto 11, 3) := by decide +kernel
theorem dX6_bestSet_66 : decode cX6_bestSet 66 = .ok (.aload 4, 2) := by decide +kernel
theorem dX6_bestSet_68 : decode cX6_bestSet 68 = .ok (.iload 5, 2) := by decide +kernel
theorem dX6_bestSet_70 : decode cX6_bestSet 70 = .ok (.iload_n 2, 1) := by decide +kernel
theorem dX6_bestSet_71 : decode cX6_bestSet 71 = .ok (.invokevirtual 210, 3) := by decide +kernel
theorem dX6_bestSet_74 : decode cX6_bestSet 74 = .ok (.ireturn, 1) := by decide +kernel
theorem dX6_put_0 : decode cX6_put 0 = .ok (.lload_n 1, 1) := by decide +kernel
theorem dX6_put_1 : decode cX6_put 1 = .ok (.invokestatic 213, 3) := by decide +kernel
theorem dX6_put_4 : decode cX6_put 4 = .ok (.istore_n 3, 1) := by decide +kernel
theorem dX6_put_5 : decode cX6_put 5 = .ok (.iload_n 3, 1) := by decide +kernel
theorem dX6_put_6 : decode cX6_put 6 = .ok (.iconst 1, 1) := by decide +kernel
theorem dX6_put_7 : decode cX6_put 7 = .ok (.if_icmp .ge 6, 3) := by decide +kernel
theorem dX6_put_10 : decode cX6_put 10 = .ok (.bipush (-2), 2) := by decide +kernel
theorem dX6_put_12 : decode cX6_put 12 = .ok (.ireturn, 1) := by decide +kernel
theorem dX6_put_13 : decode cX6_put 13 = .ok (.iload_n 3, 1) := by decide +kernel
theorem dX6_put_14 : decode cX6_put 14 = .ok (.bipush 80, 2) := by decide +kernel
theorem dX6_put_16 : decode cX6_put 16 = .ok (.aload_n 0, 1) := by decide +kernel
theorem dX6_put_17 : decode cX6_put 17 = .ok (.getfield 49, 3) := by decide +kernel
theorem dX6_put_20 : decode cX6_put 20 = .ok (.invokevirtual 157, 3) := by decide +kernel
theorem dX6_put_23 : decode cX6_put 23 = .ok (.isub, 1) := by decide +kernel
theorem dX6_put_24 : decode cX6_put 24 = .ok (.if_icmp .le 6, 3) := by decide +kernel
theorem dX6_put_27 : decode cX6_put 27 = .ok (.bipush (-4), 2) := by decide +kernel
theorem dX6_put_29 : decode cX6_put 29 = .ok (.ireturn, 1) := by decide +kernel
theorem dX6_put_30 : decode cX6_put 30 = .ok (.iload_n 3, 1) := by decide +kernel
theorem dX6_put_31 : decode cX6_put 31 = .ok (.iconst 1, 1) := by decide +kernel
theorem dX6_put_32 : decode cX6_put 32 = .ok (.isub, 1) := by decide +kernel
theorem dX6_put_33 : decode cX6_put 33 = .ok (.istore 4, 2) := by decide +kernel
theorem dX6_put_35 : decode cX6_put 35 = .ok (.iload 4, 2) := by decide +kernel
theorem dX6_put_37 : decode cX6_put 37 = .ok (.ifCond .lt 29, 3) := by decide +kernel
theorem dX6_put_40 : decode cX6_put 40 = .ok (.aload_n 0, 1) := by decide +kernel
theorem dX6_put_41 : decode cX6_put 41 = .ok (.getfield 49, 3) := by decide +kernel
theorem dX6_put_44 : decode cX6_put 44 = .ok (.lload_n 1, 1) := by decide +kernel
theorem dX6_put_45 : decode cX6_put 45 = .ok (.bipush 8, 2) := by decide +kernel
theorem dX6_put_47 : decode cX6_put 47 = .ok (.iload 4, 2) := by decide +kernel
theorem dX6_put_49 : decode cX6_put 49 = .ok (.imul, 1) := by decide +kernel
theorem dX6_put_50 : decode cX6_put 50 = .ok (.lushr, 1) := by decide +kernel
theorem dX6_put_51 : decode cX6_put 51 = .ok (.ldc2_w 217, 3) := by decide +kernel
theorem dX6_put_54 : decode cX6_put 54 = .ok (.land, 1) := by decide +kernel
theorem dX6_put_55 : decode cX6_put 55 = .ok (.l2i, 1) := by decide +kernel
theorem dX6_put_56 : decode cX6_put 56 = .ok (.i2c, 1) := by decide +kernel
theorem dX6_put_57 : decode cX6_put 57 = .ok (.invokevirtual 219, 3) := by decide +kernel
theorem dX6_put_60 : decode cX6_put 60 = .ok (.iinc 4 (-1), 3) := by decide +kernel
theorem dX6_put_63 : decode cX6_put 63 = .ok (.goto (-28), 3) := by decide +kernel
theorem dX6_put_66 : decode cX6_put 66 = .ok (.aload_n 0, 1) := by decide +kernel
theorem dX6_put_67 : decode cX6_put 67 = .ok (.getfield 49, 3) := by decide +kernel
theorem dX6_put_70 : decode cX6_put 70 = .ok (.invokevirtual 157, 3) := by decide +kernel
theorem dX6_put_73 : decode cX6_put 73 = .ok (.ireturn, 1) := by decide +kernel
theorem dX6_wipe_0 : decode cX6_wipe 0 = .ok (.aload_n 0, 1) := by decide +kernel
theorem dX6_wipe_1 : decode cX6_wipe 1 = .ok (.getfield 49, 3) := by decide +kernel
theorem dX6_wipe_4 : decode cX6_wipe 4 = .ok (.invokevirtual 157, 3) := by decide +kernel
theorem dX6_wipe_7 : decode cX6_wipe 7 = .ok (.istore_n 1, 1) := by decide +kernel
theorem dX6_wipe_8 : decode cX6_wipe 8 = .ok (.aload_n 0, 1) := by decide +kernel
theorem dX6_wipe_9 : decode cX6_wipe 9 = .ok (.getfield 49, 3) := by decide +kernel
theorem dX6_wipe_12 : decode cX6_wipe 12 = .ok (.invokevirtual 223, 3) := by decide +kernel
theorem dX6_wipe_15 : decode cX6_wipe 15 = .ok (.iload_n 1, 1) := by decide +kernel
theorem dX6_wipe_16 : decode cX6_wipe 16 = .ok (.ireturn, 1) := by decide +kernel
theorem dX6_fault_0 : decode cX6_fault 0 = .ok (.aload_n 0, 1) := by decide +kernel
theorem dX6_fault_1 : decode cX6_fault 1 = .ok (.getfield 41, 3) := by decide +kernel
theorem dX6_fault_4 : decode cX6_fault 4 = .ok (.invokevirtual 224, 3) := by decide +kernel
theorem dX6_fault_7 : decode cX6_fault 7 = .ok (.ireturn, 1) := by decide +kernel
theorem dX6_carryOut_0 : decode cX6_carryOut 0 = .ok (.aload_n 0, 1) := by decide +kernel
theorem dX6_carryOut_1 : decode cX6_carryOut 1 = .ok (.getfield 41, 3) := by decide +kernel
theorem dX6_carryOut_4 : decode cX6_carryOut 4 = .ok (.invokevirtual 224, 3) := by decide +kernel
theorem dX6_carryOut_7 : decode cX6_carryOut 7 = .ok (.bipush (-6), 2) := by decide +kernel
theorem dX6_carryOut_9 : decode cX6_carryOut 9 = .ok (.if_icmp .eq 6, 3) := by decide +kernel
theorem dX6_carryOut_12 : decode cX6_carryOut 12 = .ok (.bipush (-3), 2) := by decide +kernel
theorem dX6_carryOut_14 : decode cX6_carryOut 14 = .ok (.ireturn, 1) := by decide +kernel
theorem dX6_carryOut_15 : decode cX6_carryOut 15 = .ok (.aload_n 0, 1) := by decide +kernel
theorem dX6_carryOut_16 : decode cX6_carryOut 16 = .ok (.getfield 19, 3) := by decide +kernel
theorem dX6_carryOut_19 : decode cX6_carryOut 19 = .ok (.aload_n 0, 1) := by decide +kernel
theorem dX6_carryOut_20 : decode cX6_carryOut 20 = .ok (.getfield 12, 3) := by decide +kernel
theorem dX6_carryOut_23 : decode cX6_carryOut 23 = .ok (.invokevirtual 227, 3) := by decide +kernel
theorem dX6_carryOut_26 : decode cX6_carryOut 26 = .ok (.aload_n 0, 1) := by decide +kernel
theorem dX6_carryOut_27 : decode cX6_carryOut 27 = .ok (.invokevirtual 231, 3) := by decide +kernel
theorem dX6_carryOut_30 : decode cX6_carryOut 30 = .ok (.istore_n 1, 1) := by decide +kernel
theorem dX6_carryOut_31 : decode cX6_carryOut 31 = .ok (.aload_n 0, 1) := by decide +kernel
theorem dX6_carryOut_32 : decode cX6_carryOut 32 = .ok (.getfield 49, 3) := by decide +kernel
theorem dX6_carryOut_35 : decode cX6_carryOut 35 = .ok (.invokevirtual 223, 3) := by decide +kernel
theorem dX6_carryOut_38 : decode cX6_carryOut 38 = .ok (.iload_n 1, 1) := by decide +kernel
theorem dX6_carryOut_39 : decode cX6_carryOut 39 = .ok (.ireturn, 1) := by decide +kernel
theorem dX6_undo_0 : decode cX6_undo 0 = .ok (.aload_n 0, 1) := by decide +kernel
theorem dX6_undo_1 : decode cX6_undo 1 = .ok (.getfield 19, 3) := by decide +kernel
theorem dX6_undo_4 : decode cX6_undo 4 = .ok (.invokevirtual 162, 3) := by decide +kernel
theorem dX6_undo_7 : decode cX6_undo 7 = .ok (.ifCond .ne 6, 3) := by decide +kernel
theorem dX6_undo_10 : decode cX6_undo 10 = .ok (.bipush (-5), 2) := by decide +kernel
theorem dX6_undo_12 : decode cX6_undo 12 = .ok (.ireturn, 1) := by decide +kernel
theorem dX6_undo_13 : decode cX6_undo 13 = .ok (.aload_n 0, 1) := by decide +kernel
theorem dX6_undo_14 : decode cX6_undo 14 = .ok (.getfield 19, 3) := by decide +kernel
theorem dX6_undo_17 : decode cX6_undo 17 = .ok (.aload_n 0, 1) := by decide +kernel
theorem dX6_undo_18 : decode cX6_undo 18 = .ok (.getfield 12, 3) := by decide +kernel
theorem dX6_undo_21 : decode cX6_undo 21 = .ok (.invokevirtual 234, 3) := by decide +kernel
theorem dX6_undo_24 : decode cX6_undo 24 = .ok (.aload_n 0, 1) := by decide +kernel
theorem dX6_undo_25 : decode cX6_undo 25 = .ok (.getfield 19, 3) := by decide +kernel
theorem dX6_undo_28 : decode cX6_undo 28 = .ok (.invokevirtual 162, 3) := by decide +kernel
theorem dX6_undo_31 : decode cX6_undo 31 = .ok (.ireturn, 1) := by decide +kernel
theorem dX6_save_0 : decode cX6_save 0 = .ok (.iload_n 1, 1) := by decide +kernel
theorem dX6_save_1 : decode cX6_save 1 = .ok (.invokestatic 237, 3) := by decide +kernel
theorem dX6_save_4 : decode cX6_save 4 = .ok (.ifCond .ne 6, 3) := by decide +kernel
theorem dX6_save_7 : decode cX6_save 7 = .ok (.bipush (-2), 2) := by decide +kernel
theorem dX6_save_9 : decode cX6_save 9 = .ok (.ireturn, 1) := by decide +kernel
theorem dX6_save_10 : decode cX6_save 10 = .ok (.aload_n 0, 1) := by decide +kernel
theorem dX6_save_11 : decode cX6_save 11 = .ok (.getfield 23, 3) := by decide +kernel
theorem dX6_save_14 : decode cX6_save 14 = .ok (.iload_n 1, 1) := by decide +kernel
theorem dX6_save_15 : decode cX6_save 15 = .ok (.aaload, 1) := by decide +kernel
theorem dX6_save_16 : decode cX6_save 16 = .ok (.aload_n 0, 1) := by decide +kernel
theorem dX6_save_17 : decode cX6_save 17 = .ok (.getfield 12, 3) := by decide +kernel
theorem dX6_save_20 : decode cX6_save 20 = .ok (.invokevirtual 240, 3) := by decide +kernel
theorem dX6_save_23 : decode cX6_save 23 = .ok (.aload_n 0, 1) := by decide +kernel
theorem dX6_save_24 : decode cX6_save 24 = .ok (.getfield 27, 3) := by decide +kernel
theorem dX6_save_27 : decode cX6_save 27 = .ok (.iload_n 1, 1) := by decide +kernel
theorem dX6_save_28 : decode cX6_save 28 = .ok (.iconst 1, 1) := by decide +kernel
theorem dX6_save_29 : decode cX6_save 29 = .ok (.bastore, 1) := by decide +kernel
theorem dX6_save_30 : decode cX6_save 30 = .ok (.aload_n 0, 1) := by decide +kernel
theorem dX6_save_31 : decode cX6_save 31 = .ok (.getfield 12, 3) := by decide +kernel
theorem dX6_save_34 : decode cX6_save 34 = .ok (.invokevirtual 154, 3) := by decide +kernel
theorem dX6_save_37 : decode cX6_save 37 = .ok (.ireturn, 1) := by decide +kernel
theorem dX6_restore_0 : decode cX6_restore 0 = .ok (.iload_n 1, 1) := by decide +kernel
theorem dX6_restore_1 : decode cX6_restore 1 = .ok (.invokestatic 237, 3) := by decide +kernel
theorem dX6_restore_4 : decode cX6_restore 4 = .ok (.ifCond .ne 6, 3) := by decide +kernel
theorem dX6_restore_7 : decode cX6_restore 7 = .ok (.bipush (-2), 2) := by decide +kernel
theorem dX6_restore_9 : decode cX6_restore 9 = .ok (.ireturn, 1) := by decide +kernel
theorem dX6_restore_10 : decode cX6_restore 10 = .ok (.aload_n 0, 1) := by decide +kernel
theorem dX6_restore_11 : decode cX6_restore 11 = .ok (.getfield 27, 3) := by decide +kernel
theorem dX6_restore_14 : decode cX6_restore 14 = .ok (.iload_n 1, 1) := by decide +kernel
theorem dX6_restore_15 : decode cX6_restore 15 = .ok (.baload, 1) := by decide +kernel
theorem dX6_restore_16 : decode cX6_restore 16 = .ok (.ifCond .ne 6, 3) := by decide +kernel
theorem dX6_restore_19 : decode cX6_restore 19 = .ok (.bipush (-5), 2) := by decide +kernel
theorem dX6_restore_21 : decode cX6_restore 21 = .ok (.ireturn, 1) := by decide +kernel
theorem dX6_restore_22 : decode cX6_restore 22 = .ok (.aload_n 0, 1) := by decide +kernel
theorem dX6_restore_23 : decode cX6_restore 23 = .ok (.getfield 19, 3) := by decide +kernel
theorem dX6_restore_26 : decode cX6_restore 26 = .ok (.aload_n 0, 1) := by decide +kernel
theorem dX6_restore_27 : decode cX6_restore 27 = .ok (.getfield 12, 3) := by decide +kernel
theorem dX6_restore_30 : decode cX6_restore 30 = .ok (.invokevirtual 227, 3) := by decide +kernel
theorem dX6_restore_33 : decode cX6_restore 33 = .ok (.aload_n 0, 1) := by decide +kernel
theorem dX6_restore_34 : decode cX6_restore 34 = .ok (.getfield 12, 3) := by decide +kernel
theorem dX6_restore_37 : decode cX6_restore 37 = .ok (.aload_n 0, 1) := by decide +kernel
theorem dX6_restore_38 : decode cX6_restore 38 = .ok (.getfield 23, 3) := by decide +kernel
theorem dX6_restore_41 : decode cX6_restore 41 = .ok (.iload_n 1, 1) := by decide +kernel
theorem dX6_restore_42 : decode cX6_restore 42 = .ok (.aaload, 1) := by decide +kernel
theorem dX6_restore_43 : decode cX6_restore 43 = .ok (.invokevirtual 240, 3) := by decide +kernel
theorem dX6_restore_46 : decode cX6_restore 46 = .ok (.aload_n 0, 1) := by decide +kernel
theorem dX6_restore_47 : decode cX6_restore 47 = .ok (.getfield 12, 3) := by decide +kernel
theorem dX6_restore_50 : decode cX6_restore 50 = .ok (.invokevirtual 154, 3) := by decide +kernel
theorem dX6_restore_53 : decode cX6_restore 53 = .ok (.ireturn, 1) := by decide +kernel
theorem dX6_isColumn_0 : decode cX6_isColumn 0 = .ok (.iload_n 0, 1) := by decide +kernel
theorem dX6_isColumn_1 : decode cX6_isColumn 1 = .ok (.ifCond .lt 12, 3) := by decide +kernel
theorem dX6_isColumn_4 : decode cX6_isColumn 4 = .ok (.iload_n 0, 1) := by decide +kernel
theorem dX6_isColumn_5 : decode cX6_isColumn 5 = .ok (.iconst 4, 1) := by decide +kernel
theorem dX6_isColumn_6 : decode cX6_isColumn 6 = .ok (.if_icmp .ge 7, 3) := by decide +kernel
theorem dX6_isColumn_9 : decode cX6_isColumn 9 = .ok (.iconst 1, 1) := by decide +kernel
theorem dX6_isColumn_10 : decode cX6_isColumn 10 = .ok (.goto 4, 3) := by decide +kernel
theorem dX6_isColumn_13 : decode cX6_isColumn 13 = .ok (.iconst 0, 1) := by decide +kernel
theorem dX6_isColumn_14 : decode cX6_isColumn 14 = .ok (.ireturn, 1) := by decide +kernel
theorem dX6_isValue_0 : decode cX6_isValue 0 = .ok (.iload_n 0, 1) := by decide +kernel
theorem dX6_isValue_1 : decode cX6_isValue 1 = .ok (.ifCond .lt 13, 3) := by decide +kernel
theorem dX6_isValue_4 : decode cX6_isValue 4 = .ok (.iload_n 0, 1) := by decide +kernel
theorem dX6_isValue_5 : decode cX6_isValue 5 = .ok (.bipush 10, 2) := by decide +kernel
theorem dX6_isValue_7 : decode cX6_isValue 7 = .ok (.if_icmp .ge 7, 3) := by decide +kernel
theorem dX6_isValue_10 : decode cX6_isValue 10 = .ok (.iconst 1, 1) := by decide +kernel
theorem dX6_isValue_11 : decode cX6_isValue 11 = .ok (.goto 4, 3) := by decide +kernel
theorem dX6_isValue_14 : decode cX6_isValue 14 = .ok (.iconst 0, 1) := by decide +kernel
theorem dX6_isValue_15 : decode cX6_isValue 15 = .ok (.ireturn, 1) := by decide +kernel
theorem dX6_isLength_0 : decode cX6_isLength 0 = .ok (.iload_n 0, 1) := by decide +kernel
theorem dX6_isLength_1 : decode cX6_isLength 1 = .ok (.iconst 1, 1) := by decide +kernel
theorem dX6_isLength_2 : decode cX6_isLength 2 = .ok (.if_icmp .lt 14, 3) := by decide +kernel
theorem dX6_isLength_5 : decode cX6_isLength 5 = .ok (.iload_n 0, 1) := by decide +kernel
theorem dX6_isLength_6 : decode cX6_isLength 6 = .ok (.sipush 999, 3) := by decide +kernel
theorem dX6_isLength_9 : decode cX6_isLength 9 = .ok (.if_icmp .gt 7, 3) := by decide +kernel
theorem dX6_isLength_12 : decode cX6_isLength 12 = .ok (.iconst 1, 1) := by decide +kernel
theorem dX6_isLength_13 : decode cX6_isLength 13 = .ok (.goto 4, 3) := by decide +kernel
theorem dX6_isLength_16 : decode cX6_isLength 16 = .ok (.iconst 0, 1) := by decide +kernel
theorem dX6_isLength_17 : decode cX6_isLength 17 = .ok (.ireturn, 1) := by decide +kernel
theorem dX6_isSlot_0 : decode cX6_isSlot 0 = .ok (.iload_n 0, 1) := by decide +kernel
theorem dX6_isSlot_1 : decode cX6_isSlot 1 = .ok (.ifCond .lt 12, 3) := by decide +kernel
theorem dX6_isSlot_4 : decode cX6_isSlot 4 = .ok (.iload_n 0, 1) := by decide +kernel
theorem dX6_isSlot_5 : decode cX6_isSlot 5 = .ok (.iconst 2, 1) := by decide +kernel
theorem dX6_isSlot_6 : decode cX6_isSlot 6 = .ok (.if_icmp .ge 7, 3) := by decide +kernel
theorem dX6_isSlot_9 : decode cX6_isSlot 9 = .ok (.iconst 1, 1) := by decide +kernel
theorem dX6_isSlot_10 : decode cX6_isSlot 10 = .ok (.goto 4, 3) := by decide +kernel
theorem dX6_isSlot_13 : decode cX6_isSlot 13 = .ok (.iconst 0, 1) := by decide +kernel
theorem dX6_isSlot_14 : decode cX6_isSlot 14 = .ok (.ireturn, 1) := by decide +kernel
theorem dX6_isRow_0 : decode cX6_isRow 0 = .ok (.iload_n 1, 1) := by decide +kernel
theorem dX6_isRow_1 : decode cX6_isRow 1 = .ok (.invokestatic 92, 3) := by decide +kernel
theorem dX6_isRow_4 : decode cX6_isRow 4 = .ok (.ifCond .eq 26, 3) := by decide +kernel
theorem dX6_isRow_7 : decode cX6_isRow 7 = .ok (.iload_n 2, 1) := by decide +kernel
theorem dX6_isRow_8 : decode cX6_isRow 8 = .ok (.ifCond .lt 22, 3) := by decide +kernel
theorem dX6_isRow_11 : decode cX6_isRow 11 = .ok (.iload_n 2, 1) := by decide +kernel
theorem dX6_isRow_12 : decode cX6_isRow 12 = .ok (.aload_n 0, 1) := by decide +kernel
theorem dX6_isRow_13 : decode cX6_isRow 13 = .ok (.getfield 12, 3) := by decide +kernel
theorem dX6_isRow_16 : decode cX6_isRow 16 = .ok (.iload_n 1, 1) := by decide +kernel
theorem dX6_isRow_17 : decode cX6_isRow 17 = .ok (.invokevirtual 64, 3) := by decide +kernel
theorem dX6_isRow_20 : decode cX6_isRow 20 = .ok (.invokevirtual 68, 3) := by decide +kernel
theorem dX6_isRow_23 : decode cX6_isRow 23 = .ok (.if_icmp .ge 7, 3) := by decide +kernel
theorem dX6_isRow_26 : decode cX6_isRow 26 = .ok (.iconst 1, 1) := by decide +kernel
theorem dX6_isRow_27 : decode cX6_isRow 27 = .ok (.goto 4, 3) := by decide +kernel
theorem dX6_isRow_30 : decode cX6_isRow 30 = .ok (.iconst 0, 1) := by decide +kernel
theorem dX6_isRow_31 : decode cX6_isRow 31 = .ok (.ireturn, 1) := by decide +kernel
theorem dX6_draftAppend_0 : decode cX6_draftAppend 0 = .ok (.iload_n 1, 1) := by decide +kernel
theorem dX6_draftAppend_1 : decode cX6_draftAppend 1 = .ok (.invokestatic 92, 3) := by decide +kernel
theorem dX6_draftAppend_4 : decode cX6_draftAppend 4 = .ok (.ifCond .ne 5, 3) := by decide +kernel
theorem dX6_draftAppend_7 : decode cX6_draftAppend 7 = .ok (.iconst (-1), 1) := by decide +kernel
theorem dX6_draftAppend_8 : decode cX6_draftAppend 8 = .ok (.ireturn, 1) := by decide +kernel
theorem dX6_draftAppend_9 : decode cX6_draftAppend 9 = .ok (.iload_n 2, 1) := by decide +kernel
theorem dX6_draftAppend_10 : decode cX6_draftAppend 10 = .ok (.invokestatic 119, 3) := by decide +kernel
theorem dX6_draftAppend_13 : decode cX6_draftAppend 13 = .ok (.ifCond .eq 10, 3) := by decide +kernel
theorem dX6_draftAppend_16 : decode cX6_draftAppend 16 = .ok (.iload_n 3, 1) := by decide +kernel
theorem dX6_draftAppend_17 : decode cX6_draftAppend 17 = .ok (.invokestatic 243, 3) := by decide +kernel
theorem dX6_draftAppend_20 : decode cX6_draftAppend 20 = .ok (.ifCond .ne 6, 3) := by decide +kernel
theorem dX6_draftAppend_23 : decode cX6_draftAppend 23 = .ok (.bipush (-2), 2) := by decide +kernel
theorem dX6_draftAppend_25 : decode cX6_draftAppend 25 = .ok (.ireturn, 1) := by decide +kernel
theorem dX6_draftAppend_26 : decode cX6_draftAppend 26 = .ok (.aload_n 0, 1) := by decide +kernel
theorem dX6_draftAppend_27 : decode cX6_draftAppend 27 = .ok (.getfield 34, 3) := by decide +kernel
theorem dX6_draftAppend_30 : decode cX6_draftAppend 30 = .ok (.aload_n 0, 1) := by decide +kernel
theorem dX6_draftAppend_31 : decode cX6_draftAppend 31 = .ok (.getfield 12, 3) := by decide +kernel
theorem dX6_draftAppend_34 : decode cX6_draftAppend 34 = .ok (.iload_n 1, 1) := by decide +kernel
theorem dX6_draftAppend_35 : decode cX6_draftAppend 35 = .ok (.invokevirtual 64, 3) := by decide +kernel
theorem dX6_draftAppend_38 : decode cX6_draftAppend 38 = .ok (.invokevirtual 246, 3) := by decide +kernel
theorem dX6_draftAppend_41 : decode cX6_draftAppend 41 = .ok (.aload_n 0, 1) := by decide +kernel
theorem dX6_draftAppend_42 : decode cX6_draftAppend 42 = .ok (.getfield 34, 3) := by decide +kernel
theorem dX6_draftAppend_45 : decode cX6_draftAppend 45 = .ok (.iload_n 2, 1) := by decide +kernel
theorem dX6_draftAppend_46 : decode cX6_draftAppend 46 = .ok (.iload_n 3, 1) := by decide +kernel
theorem dX6_draftAppend_47 : decode cX6_draftAppend 47 = .ok (.invokevirtual 248, 3) := by decide +kernel
theorem dX6_draftAppend_50 : decode cX6_draftAppend 50 = .ok (.aload_n 0, 1) := by decide +kernel
theorem dX6_draftAppend_51 : decode cX6_draftAppend 51 = .ok (.invokevirtual 252, 3) := by decide +kernel
theorem dX6_draftAppend_54 : decode cX6_draftAppend 54 = .ok (.ireturn, 1) := by decide +kernel
theorem dX6_draftInsert_0 : decode cX6_draftInsert 0 = .ok (.iload_n 1, 1) := by decide +kernel
theorem dX6_draftInsert_1 : decode cX6_draftInsert 1 = .ok (.invokestatic 92, 3) := by decide +kernel
theorem dX6_draftInsert_4 : decode cX6_draftInsert 4 = .ok (.ifCond .ne 5, 3) := by decide +kernel
theorem dX6_draftInsert_7 : decode cX6_draftInsert 7 = .ok (.iconst (-1), 1) := by decide +kernel
theorem dX6_draftInsert_8 : decode cX6_draftInsert 8 = .ok (.ireturn, 1) := by decide +kernel
theorem dX6_draftInsert_9 : decode cX6_draftInsert 9 = .ok (.aload_n 0, 1) := by decide +kernel
theorem dX6_draftInsert_10 : decode cX6_draftInsert 10 = .ok (.getfield 12, 3) := by decide +kernel
theorem dX6_draftInsert_13 : decode cX6_draftInsert 13 = .ok (.iload_n 1, 1) := by decide +kernel
theorem dX6_draftInsert_14 : decode cX6_draftInsert 14 = .ok (.invokevirtual 64, 3) := by decide +kernel
theorem dX6_draftInsert_17 : decode cX6_draftInsert 17 = .ok (.astore 5, 2) := by decide +kernel
theorem dX6_draftInsert_19 : decode cX6_draftInsert 19 = .ok (.iload_n 2, 1) := by decide +kernel
theorem dX6_draftInsert_20 : decode cX6_draftInsert 20 = .ok (.ifCond .lt 27, 3) := by decide +kernel
theorem dX6_draftInsert_23 : decode cX6_draftInsert 23 = .ok (.iload_n 2, 1) := by decide +kernel
theorem dX6_draftInsert_24 : decode cX6_draftInsert 24 = .ok (.aload 5, 2) := by decide +kernel
theorem dX6_draftInsert_26 : decode cX6_draftInsert 26 = .ok (.invokevirtual 68, 3) := by decide +kernel
theorem dX6_draftInsert_29 : decode cX6_draftInsert 29 = .ok (.if_icmp .gt 18, 3) := by decide +kernel
theorem dX6_draftInsert_32 : decode cX6_draftInsert 32 = .ok (.iload_n 3, 1) := by decide +kernel
theorem dX6_draftInsert_33 : decode cX6_draftInsert 33 = .ok (.invokestatic 119, 3) := by decide +kernel
theorem dX6_draftInsert_36 : decode cX6_draftInsert 36 = .ok (.ifCond .eq 11, 3) := by decide +kernel
theorem dX6_draftInsert_39 : decode cX6_draftInsert 39 = .ok (.iload 4, 2) := by decide +kernel
theorem dX6_draftInsert_41 : decode cX6_draftInsert 41 = .ok (.invokestatic 243, 3) := by decide +kernel
theorem dX6_draftInsert_44 : decode cX6_draftInsert 44 = .ok (.ifCond .ne 6, 3) := by decide +kernel
theorem dX6_draftInsert_47 : decode cX6_draftInsert 47 = .ok (.bipush (-2), 2) := by decide +kernel
theorem dX6_draftInsert_49 : decode cX6_draftInsert 49 = .ok (.ireturn, 1) := by decide +kernel
theorem dX6_draftInsert_50 : decode cX6_draftInsert 50 = .ok (.aload_n 0, 1) := by decide +kernel
theorem dX6_draftInsert_51 : decode cX6_draftInsert 51 = .ok (.getfield 34, 3) := by decide +kernel
theorem dX6_draftInsert_54 : decode cX6_draftInsert 54 = .ok (.invokevirtual 96, 3) := by decide +kernel
theorem dX6_draftInsert_57 : decode cX6_draftInsert 57 = .ok (.aload_n 0, 1) := by decide +kernel
theorem dX6_draftInsert_58 : decode cX6_draftInsert 58 = .ok (.getfield 34, 3) := by decide +kernel
theorem dX6_draftInsert_61 : decode cX6_draftInsert 61 = .ok (.aload 5, 2) := by decide +kernel
theorem dX6_draftInsert_63 : decode cX6_draftInsert 63 = .ok (.iconst 0, 1) := by decide +kernel
theorem dX6_draftInsert_64 : decode cX6_draftInsert 64 = .ok (.iload_n 2, 1) := by decide +kernel
theorem dX6_draftInsert_65 : decode cX6_draftInsert 65 = .ok (.invokevirtual 255, 3) := by decide +kernel
theorem dX6_draftInsert_68 : decode cX6_draftInsert 68 = .ok (.aload_n 0, 1) := by decide +kernel
theorem dX6_draftInsert_69 : decode cX6_draftInsert 69 = .ok (.getfield 34, 3) := by decide +kernel
theorem dX6_draftInsert_72 : decode cX6_draftInsert 72 = .ok (.iload_n 3, 1) := by decide +kernel
theorem dX6_draftInsert_73 : decode cX6_draftInsert 73 = .ok (.iload 4, 2) := by decide +kernel
theorem dX6_draftInsert_75 : decode cX6_draftInsert 75 = .ok (.invokevirtual 248, 3) := by decide +kernel
theorem dX6_draftInsert_78 : decode cX6_draftInsert 78 = .ok (.aload_n 0, 1) := by decide +kernel
theorem dX6_draftInsert_79 : decode cX6_draftInsert 79 = .ok (.getfield 34, 3) := by decide +kernel
theorem dX6_draftInsert_82 : decode cX6_draftInsert 82 = .ok (.aload 5, 2) := by decide +kernel
theorem dX6_draftInsert_84 : decode cX6_draftInsert 84 = .ok (.iload_n 2, 1) := by decide +kernel
theorem dX6_draftInsert_85 : decode cX6_draftInsert 85 = .ok (.aload 5, 2) := by decide +kernel
theorem dX6_draftInsert_87 : decode cX6_draftInsert 87 = .ok (.invokevirtual 68, 3) := by decide +kernel
theorem dX6_draftInsert_90 : decode cX6_draftInsert 90 = .ok (.invokevirtual 255, 3) := by decide +kernel
theorem dX6_draftInsert_93 : decode cX6_draftInsert 93 = .ok (.aload_n 0, 1) := by decide +kernel
theorem dX6_draftInsert_94 : decode cX6_draftInsert 94 = .ok (.invokevirtual 252, 3) := by decide +kernel
theorem dX6_draftInsert_97 : decode cX6_draftInsert 97 = .ok (.ireturn, 1) := by decide +kernel
theorem dX6_draftRemove_0 : decode cX6_draftRemove 0 = .ok (.aload_n 0, 1) := by decide +kernel
theorem dX6_draftRemove_1 : decode cX6_draftRemove 1 = .ok (.iload_n 1, 1) := by decide +kernel
theorem dX6_draftRemove_2 : decode cX6_draftRemove 2 = .ok (.iload_n 2, 1) := by decide +kernel
theorem dX6_draftRemove_3 : decode cX6_draftRemove 3 = .ok (.invokevirtual 115, 3) := by decide +kernel
theorem dX6_draftRemove_6 : decode cX6_draftRemove 6 = .ok (.ifCond .ne 5, 3) := by decide +kernel
theorem dX6_draftRemove_9 : decode cX6_draftRemove 9 = .ok (.iconst (-1), 1) := by decide +kernel
theorem dX6_draftRemove_10 : decode cX6_draftRemove 10 = .ok (.ireturn, 1) := by decide +kernel
theorem dX6_draftRemove_11 : decode cX6_draftRemove 11 = .ok (.iload_n 3, 1) := by decide +kernel
theorem dX6_draftRemove_12 : decode cX6_draftRemove 12 = .ok (.iconst 1, 1) := by decide +kernel
theorem dX6_draftRemove_13 : decode cX6_draftRemove 13 = .ok (.if_icmp .ge 6, 3) := by decide +kernel
theorem dX6_draftRemove_16 : decode cX6_draftRemove 16 = .ok (.bipush (-2), 2) := by decide +kernel
theorem dX6_draftRemove_18 : decode cX6_draftRemove 18 = .ok (.ireturn, 1) := by decide +kernel
theorem dX6_draftRemove_19 : decode cX6_draftRemove 19 = .ok (.aload_n 0, 1) := by decide +kernel
theorem dX6_draftRemove_20 : decode cX6_draftRemove 20 = .ok (.getfield 12, 3) := by decide +kernel
theorem dX6_draftRemove_23 : decode cX6_draftRemove 23 = .ok (.iload_n 1, 1) := by decide +kernel
theorem dX6_draftRemove_24 : decode cX6_draftRemove 24 = .ok (.invokevirtual 64, 3) := by decide +kernel
theorem dX6_draftRemove_27 : decode cX6_draftRemove 27 = .ok (.astore 4, 2) := by decide +kernel
theorem dX6_draftRemove_29 : decode cX6_draftRemove 29 = .ok (.iload_n 3, 1) := by decide +kernel
theorem dX6_draftRemove_30 : decode cX6_draftRemove 30 = .ok (.aload 4, 2) := by decide +kernel
theorem dX6_draftRemove_32 : decode cX6_draftRemove 32 = .ok (.invokevirtual 68, 3) := by decide +kernel
theorem dX6_draftRemove_35 : decode cX6_draftRemove 35 = .ok (.iload_n 2, 1) := by decide +kernel
theorem dX6_draftRemove_36 : decode cX6_draftRemove 36 = .ok (.isub, 1) := by decide +kernel
theorem dX6_draftRemove_37 : decode cX6_draftRemove 37 = .ok (.if_icmp .le 6, 3) := by decide +kernel
theorem dX6_draftRemove_40 : decode cX6_draftRemove 40 = .ok (.bipush (-5), 2) := by decide +kernel
theorem dX6_draftRemove_42 : decode cX6_draftRemove 42 = .ok (.ireturn, 1) := by decide +kernel
theorem dX6_draftRemove_43 : decode cX6_draftRemove 43 = .ok (.aload_n 0, 1) := by decide +kernel
theorem dX6_draftRemove_44 : decode cX6_draftRemove 44 = .ok (.getfield 34, 3) := by decide +kernel
theorem dX6_draftRemove_47 : decode cX6_draftRemove 47 = .ok (.invokevirtual 96, 3) := by decide +kernel
theorem dX6_draftRemove_50 : decode cX6_draftRemove 50 = .ok (.aload_n 0, 1) := by decide +kernel
theorem dX6_draftRemove_51 : decode cX6_draftRemove 51 = .ok (.getfield 34, 3) := by decide +kernel
theorem dX6_draftRemove_54 : decode cX6_draftRemove 54 = .ok (.aload 4, 2) := by decide +kernel
theorem dX6_draftRemove_56 : decode cX6_draftRemove 56 = .ok (.iconst 0, 1) := by decide +kernel
theorem dX6_draftRemove_57 : decode cX6_draftRemove 57 = .ok (.iload_n 2, 1) := by decide +kernel
theorem dX6_draftRemove_58 : decode cX6_draftRemove 58 = .ok (.invokevirtual 255, 3) := by decide +kernel
theorem dX6_draftRemove_61 : decode cX6_draftRemove 61 = .ok (.aload_n 0, 1) := by decide +kernel
theorem dX6_draftRemove_62 : decode cX6_draftRemove 62 = .ok (.getfield 34, 3) := by decide +kernel
theorem dX6_draftRemove_65 : decode cX6_draftRemove 65 = .ok (.aload 4, 2) := by decide +kernel
theorem dX6_draftRemove_67 : decode cX6_draftRemove 67 = .ok (.iload_n 2, 1) := by decide +kernel
theorem dX6_draftRemove_68 : decode cX6_draftRemove 68 = .ok (.iload_n 3, 1) := by decide +kernel
theorem dX6_draftRemove_69 : decode cX6_draftRemove 69 = .ok (.iadd, 1) := by decide +kernel
theorem dX6_draftRemove_70 : decode cX6_draftRemove 70 = .ok (.aload 4, 2) := by decide +kernel
theorem dX6_draftRemove_72 : decode cX6_draftRemove 72 = .ok (.invokevirtual 68, 3) := by decide +kernel
theorem dX6_draftRemove_75 : decode cX6_draftRemove 75 = .ok (.invokevirtual 255, 3) := by decide +kernel
theorem dX6_draftRemove_78 : decode cX6_draftRemove 78 = .ok (.aload_n 0, 1) := by decide +kernel
theorem dX6_draftRemove_79 : decode cX6_draftRemove 79 = .ok (.invokevirtual 252, 3) := by decide +kernel
theorem dX6_draftRemove_82 : decode cX6_draftRemove 82 = .ok (.ireturn, 1) := by decide +kernel
theorem dX6_draftSet_0 : decode cX6_draftSet 0 = .ok (.aload_n 0, 1) := by decide +kernel
theorem dX6_draftSet_1 : decode cX6_draftSet 1 = .ok (.iload_n 1, 1) := by decide +kernel
theorem dX6_draftSet_2 : decode cX6_draftSet 2 = .ok (.iload_n 2, 1) := by decide +kernel
theorem dX6_draftSet_3 : decode cX6_draftSet 3 = .ok (.invokevirtual 115, 3) := by decide +kernel
theorem dX6_draftSet_6 : decode cX6_draftSet 6 = .ok (.ifCond .ne 5, 3) := by decide +kernel
theorem dX6_draftSet_9 : decode cX6_draftSet 9 = .ok (.iconst (-1), 1) := by decide +kernel
theorem dX6_draftSet_10 : decode cX6_draftSet 10 = .ok (.ireturn, 1) := by decide +kernel
theorem dX6_draftSet_11 : decode cX6_draftSet 11 = .ok (.iload_n 3, 1) := by decide +kernel
theorem dX6_draftSet_12 : decode cX6_draftSet 12 = .ok (.invokestatic 119, 3) := by decide +kernel
theorem dX6_draftSet_15 : decode cX6_draftSet 15 = .ok (.ifCond .ne 6, 3) := by decide +kernel
theorem dX6_draftSet_18 : decode cX6_draftSet 18 = .ok (.bipush (-2), 2) := by decide +kernel
theorem dX6_draftSet_20 : decode cX6_draftSet 20 = .ok (.ireturn, 1) := by decide +kernel
theorem dX6_draftSet_21 : decode cX6_draftSet 21 = .ok (.aload_n 0, 1) := by decide +kernel
theorem dX6_draftSet_22 : decode cX6_draftSet 22 = .ok (.getfield 12, 3) := by decide +kernel
theorem dX6_draftSet_25 : decode cX6_draftSet 25 = .ok (.iload_n 1, 1) := by decide +kernel
theorem dX6_draftSet_26 : decode cX6_draftSet 26 = .ok (.invokevirtual 64, 3) := by decide +kernel
theorem dX6_draftSet_29 : decode cX6_draftSet 29 = .ok (.astore 4, 2) := by decide +kernel
theorem dX6_draftSet_31 : decode cX6_draftSet 31 = .ok (.aload_n 0, 1) := by decide +kernel
theorem dX6_draftSet_32 : decode cX6_draftSet 32 = .ok (.getfield 34, 3) := by decide +kernel
theorem dX6_draftSet_35 : decode cX6_draftSet 35 = .ok (.invokevirtual 96, 3) := by decide +kernel
theorem dX6_draftSet_38 : decode cX6_draftSet 38 = .ok (.aload_n 0, 1) := by decide +kernel
theorem dX6_draftSet_39 : decode cX6_draftSet 39 = .ok (.getfield 34, 3) := by decide +kernel
theorem dX6_draftSet_42 : decode cX6_draftSet 42 = .ok (.aload 4, 2) := by decide +kernel
theorem dX6_draftSet_44 : decode cX6_draftSet 44 = .ok (.iconst 0, 1) := by decide +kernel
theorem dX6_draftSet_45 : decode cX6_draftSet 45 = .ok (.iload_n 2, 1) := by decide +kernel
theorem dX6_draftSet_46 : decode cX6_draftSet 46 = .ok (.invokevirtual 255, 3) := by decide +kernel
theorem dX6_draftSet_49 : decode cX6_draftSet 49 = .ok (.aload_n 0, 1) := by decide +kernel
theorem dX6_draftSet_50 : decode cX6_draftSet 50 = .ok (.getfield 34, 3) := by decide +kernel
theorem dX6_draftSet_53 : decode cX6_draftSet 53 = .ok (.iload_n 3, 1) := by decide +kernel
theorem dX6_draftSet_54 : decode cX6_draftSet 54 = .ok (.iconst 1, 1) := by decide +kernel
theorem dX6_draftSet_55 : decode cX6_draftSet 55 = .ok (.invokevirtual 248, 3) := by decide +kernel
theorem dX6_draftSet_58 : decode cX6_draftSet 58 = .ok (.aload_n 0, 1) := by decide +kernel
theorem dX6_draftSet_59 : decode cX6_draftSet 59 = .ok (.getfield 34, 3) := by decide +kernel
theorem dX6_draftSet_62 : decode cX6_draftSet 62 = .ok (.aload 4, 2) := by decide +kernel
theorem dX6_draftSet_64 : decode cX6_draftSet 64 = .ok (.iload_n 2, 1) := by decide +kernel
theorem dX6_draftSet_65 : decode cX6_draftSet 65 = .ok (.iconst 1, 1) := by decide +kernel
theorem dX6_draftSet_66 : decode cX6_draftSet 66 = .ok (.iadd, 1) := by decide +kernel
theorem dX6_draftSet_67 : decode cX6_draftSet 67 = .ok (.aload 4, 2) := by decide +kernel
theorem dX6_draftSet_69 : decode cX6_draftSet 69 = .ok (.invokevirtual 68, 3) := by decide +kernel
theorem dX6_draftSet_72 : decode cX6_draftSet 72 = .ok (.invokevirtual 255, 3) := by decide +kernel
theorem dX6_draftSet_75 : decode cX6_draftSet 75 = .ok (.aload_n 0, 1) := by decide +kernel
theorem dX6_draftSet_76 : decode cX6_draftSet 76 = .ok (.invokevirtual 252, 3) := by decide +kernel
theorem dX6_draftSet_79 : decode cX6_draftSet 79 = .ok (.ireturn, 1) := by decide +kernel
theorem dX6_draftSort_0 : decode cX6_draftSort 0 = .ok (.iload_n 1, 1) := by decide +kernel
theorem dX6_draftSort_1 : decode cX6_draftSort 1 = .ok (.invokestatic 92, 3) := by decide +kernel
theorem dX6_draftSort_4 : decode cX6_draftSort 4 = .ok (.ifCond .ne 5, 3) := by decide +kernel
theorem dX6_draftSort_7 : decode cX6_draftSort 7 = .ok (.iconst (-1), 1) := by decide +kernel
theorem dX6_draftSort_8 : decode cX6_draftSort 8 = .ok (.ireturn, 1) := by decide +kernel
theorem dX6_draftSort_9 : decode cX6_draftSort 9 = .ok (.aload_n 0, 1) := by decide +kernel
theorem dX6_draftSort_10 : decode cX6_draftSort 10 = .ok (.getfield 12, 3) := by decide +kernel
theorem dX6_draftSort_13 : decode cX6_draftSort 13 = .ok (.iload_n 1, 1) := by decide +kernel
theorem dX6_draftSort_14 : decode cX6_draftSort 14 = .ok (.invokevirtual 64, 3) := by decide +kernel
theorem dX6_draftSort_17 : decode cX6_draftSort 17 = .ok (.astore_n 2, 1) := by decide +kernel
theorem dX6_draftSort_18 : decode cX6_draftSort 18 = .ok (.aload_n 0, 1) := by decide +kernel
theorem dX6_draftSort_19 : decode cX6_draftSort 19 = .ok (.getfield 34, 3) := by decide +kernel
theorem dX6_draftSort_22 : decode cX6_draftSort 22 = .ok (.invokevirtual 96, 3) := by decide +kernel
theorem dX6_draftSort_25 : decode cX6_draftSort 25 = .ok (.iconst 0, 1) := by decide +kernel
theorem dX6_draftSort_26 : decode cX6_draftSort 26 = .ok (.istore_n 3, 1) := by decide +kernel
theorem dX6_draftSort_27 : decode cX6_draftSort 27 = .ok (.iload_n 3, 1) := by decide +kernel
theorem dX6_draftSort_28 : decode cX6_draftSort 28 = .ok (.bipush 10, 2) := by decide +kernel
theorem dX6_draftSort_30 : decode cX6_draftSort 30 = .ok (.if_icmp .ge 22, 3) := by decide +kernel
theorem dX6_draftSort_33 : decode cX6_draftSort 33 = .ok (.aload_n 0, 1) := by decide +kernel
theorem dX6_draftSort_34 : decode cX6_draftSort 34 = .ok (.getfield 34, 3) := by decide +kernel
theorem dX6_draftSort_37 : decode cX6_draftSort 37 = .ok (.iload_n 3, 1) := by decide +kernel
theorem dX6_draftSort_38 : decode cX6_draftSort 38 = .ok (.aload_n 2, 1) := by decide +kernel
theorem dX6_draftSort_39 : decode cX6_draftSort 39 = .ok (.iload_n 3, 1) := by decide +kernel
theorem dX6_draftSort_40 : decode cX6_draftSort 40 = .ok (.invokevirtual 142, 3) := by decide +kernel
theorem dX6_draftSort_43 : decode cX6_draftSort 43 = .ok (.invokevirtual 248, 3) := by decide +kernel
theorem dX6_draftSort_46 : decode cX6_draftSort 46 = .ok (.iinc 3 1, 3) := by decide +kernel
theorem dX6_draftSort_49 : decode cX6_draftSort 49 = .ok (.goto (-22), 3) := by decide +kernel
theorem dX6_draftSort_52 : decode cX6_draftSort 52 = .ok (.aload_n 0, 1) := by decide +kernel
theorem dX6_draftSort_53 : decode cX6_draftSort 53 = .ok (.invokevirtual 252, 3) := by decide +kernel
theorem dX6_draftSort_56 : decode cX6_draftSort 56 = .ok (.ireturn, 1) := by decide +kernel
theorem dX6_draftMerge_0 : decode cX6_draftMerge 0 = .ok (.iload_n 1, 1) := by decide +kernel
theorem dX6_draftMerge_1 : decode cX6_draftMerge 1 = .ok (.invokestatic 92, 3) := by decide +kernel
theorem dX6_draftMerge_4 : decode cX6_draftMerge 4 = .ok (.ifCond .eq 17, 3) := by decide +kernel
theorem dX6_draftMerge_7 : decode cX6_draftMerge 7 = .ok (.iload_n 2, 1) := by decide +kernel
theorem dX6_draftMerge_8 : decode cX6_draftMerge 8 = .ok (.invokestatic 92, 3) := by decide +kernel
theorem dX6_draftMerge_11 : decode cX6_draftMerge 11 = .ok (.ifCond .eq 10, 3) := by decide +kernel
theorem dX6_draftMerge_14 : decode cX6_draftMerge 14 = .ok (.iload_n 3, 1) := by decide +kernel
theorem dX6_draftMerge_15 : decode cX6_draftMerge 15 = .ok (.invokestatic 92, 3) := by decide +kernel
theorem dX6_draftMerge_18 : decode cX6_draftMerge 18 = .ok (.ifCond .ne 5, 3) := by decide +kernel
theorem dX6_draftMerge_21 : decode cX6_draftMerge 21 = .ok (.iconst (-1), 1) := by decide +kernel
theorem dX6_draftMerge_22 : decode cX6_draftMerge 22 = .ok (.ireturn, 1) := by decide +kernel
theorem dX6_draftMerge_23 : decode cX6_draftMerge 23 = .ok (.iload 4, 2) := by decide +kernel
theorem dX6_draftMerge_25 : decode cX6_draftMerge 25 = .ok (.ifCond .lt 9, 3) := by decide +kernel
theorem dX6_draftMerge_28 : decode cX6_draftMerge 28 = .ok (.iload 4, 2) := by decide +kernel
theorem dX6_draftMerge_30 : decode cX6_draftMerge 30 = .ok (.iconst 2, 1) := by decide +kernel
theorem dX6_draftMerge_31 : decode cX6_draftMerge 31 = .ok (.if_icmp .le 6, 3) := by decide +kernel
theorem dX6_draftMerge_34 : decode cX6_draftMerge 34 = .ok (.bipush (-2), 2) := by decide +kernel
theorem dX6_draftMerge_36 : decode cX6_draftMerge 36 = .ok (.ireturn, 1) := by decide +kernel
theorem dX6_draftMerge_37 : decode cX6_draftMerge 37 = .ok (.aload_n 0, 1) := by decide +kernel
theorem dX6_draftMerge_38 : decode cX6_draftMerge 38 = .ok (.iload_n 2, 1) := by decide +kernel
theorem dX6_draftMerge_39 : decode cX6_draftMerge 39 = .ok (.iload_n 3, 1) := by decide +kernel
theorem dX6_draftMerge_40 : decode cX6_draftMerge 40 = .ok (.invokevirtual 165, 3) := by decide +kernel
theorem dX6_draftMerge_43 : decode cX6_draftMerge 43 = .ok (.astore 5, 2) := by decide +kernel
theorem dX6_draftMerge_45 : decode cX6_draftMerge 45 = .ok (.aload_n 0, 1) := by decide +kernel
theorem dX6_draftMerge_46 : decode cX6_draftMerge 46 = .ok (.getfield 34, 3) := by decide +kernel
theorem dX6_draftMerge_49 : decode cX6_draftMerge 49 = .ok (.invokevirtual 96, 3) := by decide +kernel
theorem dX6_draftMerge_52 : decode cX6_draftMerge 52 = .ok (.iconst 0, 1) := by decide +kernel
theorem dX6_draftMerge_53 : decode cX6_draftMerge 53 = .ok (.istore 6, 2) := by decide +kernel
theorem dX6_draftMerge_55 : decode cX6_draftMerge 55 = .ok (.iload 6, 2) := by decide +kernel
theorem dX6_draftMerge_57 : decode cX6_draftMerge 57 = .ok (.bipush 80, 2) := by decide +kernel
theorem dX6_draftMerge_59 : decode cX6_draftMerge 59 = .ok (.if_icmp .ge 109, 3) := by decide +kernel
theorem dX6_draftMerge_62 : decode cX6_draftMerge 62 = .ok (.aload 5, 2) := by decide +kernel
theorem dX6_draftMerge_64 : decode cX6_draftMerge 64 = .ok (.invokevirtual 169, 3) := by decide +kernel
theorem dX6_draftMerge_67 : decode cX6_draftMerge 67 = .ok (.ifCond .eq 101, 3) := by decide +kernel
theorem dX6_draftMerge_70 : decode cX6_draftMerge 70 = .ok (.iload 4, 2) := by decide +kernel
theorem dX6_draftMerge_72 : decode cX6_draftMerge 72 = .ok (.ifCond .ne 31, 3) := by decide +kernel
theorem dX6_draftMerge_75 : decode cX6_draftMerge 75 = .ok (.aload_n 0, 1) := by decide +kernel
theorem dX6_draftMerge_76 : decode cX6_draftMerge 76 = .ok (.getfield 34, 3) := by decide +kernel
theorem dX6_draftMerge_79 : decode cX6_draftMerge 79 = .ok (.aload 5, 2) := by decide +kernel
theorem dX6_draftMerge_81 : decode cX6_draftMerge 81 = .ok (.invokevirtual 174, 3) := by decide +kernel
theorem dX6_draftMerge_84 : decode cX6_draftMerge 84 = .ok (.aload 5, 2) := by decide +kernel
theorem dX6_draftMerge_86 : decode cX6_draftMerge 86 = .ok (.invokevirtual 177, 3) := by decide +kernel
theorem dX6_draftMerge_89 : decode cX6_draftMerge 89 = .ok (.invokestatic 184, 3) := by decide +kernel
theorem dX6_draftMerge_92 : decode cX6_draftMerge 92 = .ok (.aload 5, 2) := by decide +kernel
theorem dX6_draftMerge_94 : decode cX6_draftMerge 94 = .ok (.invokevirtual 180, 3) := by decide +kernel
theorem dX6_draftMerge_97 : decode cX6_draftMerge 97 = .ok (.invokevirtual 248, 3) := by decide +kernel
theorem dX6_draftMerge_100 : decode cX6_draftMerge 100 = .ok (.goto 62, 3) := by decide +kernel
theorem dX6_draftMerge_103 : decode cX6_draftMerge 103 = .ok (.iload 4, 2) := by decide +kernel
theorem dX6_draftMerge_105 : decode cX6_draftMerge 105 = .ok (.iconst 1, 1) := by decide +kernel
theorem dX6_draftMerge_106 : decode cX6_draftMerge 106 = .ok (.if_icmp .ne 31, 3) := by decide +kernel
theorem dX6_draftMerge_109 : decode cX6_draftMerge 109 = .ok (.aload_n 0, 1) := by decide +kernel
theorem dX6_draftMerge_110 : decode cX6_draftMerge 110 = .ok (.getfield 34, 3) := by decide +kernel
theorem dX6_draftMerge_113 : decode cX6_draftMerge 113 = .ok (.aload 5, 2) := by decide +kernel
theorem dX6_draftMerge_115 : decode cX6_draftMerge 115 = .ok (.invokevirtual 174, 3) := by decide +kernel
theorem dX6_draftMerge_118 : decode cX6_draftMerge 118 = .ok (.aload 5, 2) := by decide +kernel
theorem dX6_draftMerge_120 : decode cX6_draftMerge 120 = .ok (.invokevirtual 177, 3) := by decide +kernel
theorem dX6_draftMerge_123 : decode cX6_draftMerge 123 = .ok (.invokestatic 259, 3) := by decide +kernel
theorem dX6_draftMerge_126 : decode cX6_draftMerge 126 = .ok (.aload 5, 2) := by decide +kernel
theorem dX6_draftMerge_128 : decode cX6_draftMerge 128 = .ok (.invokevirtual 180, 3) := by decide +kernel
theorem dX6_draftMerge_131 : decode cX6_draftMerge 131 = .ok (.invokevirtual 248, 3) := by decide +kernel
theorem dX6_draftMerge_134 : decode cX6_draftMerge 134 = .ok (.goto 28, 3) := by decide +kernel
theorem dX6_draftMerge_137 : decode cX6_draftMerge 137 = .ok (.aload 5, 2) := by decide +kernel
theorem dX6_draftMerge_139 : decode cX6_draftMerge 139 = .ok (.invokevirtual 262, 3) := by decide +kernel
theorem dX6_draftMerge_142 : decode cX6_draftMerge 142 = .ok (.ifCond .eq 20, 3) := by decide +kernel
theorem dX6_draftMerge_145 : decode cX6_draftMerge 145 = .ok (.aload_n 0, 1) := by decide +kernel
theorem dX6_draftMerge_146 : decode cX6_draftMerge 146 = .ok (.getfield 34, 3) := by decide +kernel
theorem dX6_draftMerge_149 : decode cX6_draftMerge 149 = .ok (.aload 5, 2) := by decide +kernel
theorem dX6_draftMerge_151 : decode cX6_draftMerge 151 = .ok (.invokevirtual 174, 3) := by decide +kernel
theorem dX6_draftMerge_154 : decode cX6_draftMerge 154 = .ok (.aload 5, 2) := by decide +kernel
theorem dX6_draftMerge_156 : decode cX6_draftMerge 156 = .ok (.invokevirtual 180, 3) := by decide +kernel
theorem dX6_draftMerge_159 : decode cX6_draftMerge 159 = .ok (.invokevirtual 248, 3) := by decide +kernel
theorem dX6_draftMerge_162 : decode cX6_draftMerge 162 = .ok (.iinc 6 1, 3) := by decide +kernel
theorem dX6_draftMerge_165 : decode cX6_draftMerge 165 = .ok (.goto (-110), 3) := by decide +kernel
theorem dX6_draftMerge_168 : decode cX6_draftMerge 168 = .ok (.aload_n 0, 1) := by decide +kernel
theorem dX6_draftMerge_169 : decode cX6_draftMerge 169 = .ok (.invokevirtual 252, 3) := by decide +kernel
theorem dX6_draftMerge_172 : decode cX6_draftMerge 172 = .ok (.ireturn, 1) := by decide +kernel
theorem dX6_draftOrder_0 : decode cX6_draftOrder 0 = .ok (.aload_n 0, 1) := by decide +kernel
theorem dX6_draftOrder_1 : decode cX6_draftOrder 1 = .ok (.getfield 41, 3) := by decide +kernel
theorem dX6_draftOrder_4 : decode cX6_draftOrder 4 = .ok (.invokevirtual 265, 3) := by decide +kernel
theorem dX6_draftOrder_7 : decode cX6_draftOrder 7 = .ok (.istore_n 1, 1) := by decide +kernel
theorem dX6_draftOrder_8 : decode cX6_draftOrder 8 = .ok (.aload_n 0, 1) := by decide +kernel
theorem dX6_draftOrder_9 : decode cX6_draftOrder 9 = .ok (.getfield 41, 3) := by decide +kernel
theorem dX6_draftOrder_12 : decode cX6_draftOrder 12 = .ok (.invokevirtual 267, 3) := by decide +kernel
theorem dX6_draftOrder_15 : decode cX6_draftOrder 15 = .ok (.istore_n 2, 1) := by decide +kernel
theorem dX6_draftOrder_16 : decode cX6_draftOrder 16 = .ok (.iload_n 2, 1) := by decide +kernel
theorem dX6_draftOrder_17 : decode cX6_draftOrder 17 = .ok (.bipush 33, 2) := by decide +kernel
theorem dX6_draftOrder_19 : decode cX6_draftOrder 19 = .ok (.if_icmp .ne 9, 3) := by decide +kernel
theorem dX6_draftOrder_22 : decode cX6_draftOrder 22 = .ok (.aload_n 0, 1) := by decide +kernel
theorem dX6_draftOrder_23 : decode cX6_draftOrder 23 = .ok (.iload_n 1, 1) := by decide +kernel
theorem dX6_draftOrder_24 : decode cX6_draftOrder 24 = .ok (.invokevirtual 89, 3) := by decide +kernel
theorem dX6_draftOrder_27 : decode cX6_draftOrder 27 = .ok (.ireturn, 1) := by decide +kernel
theorem dX6_draftOrder_28 : decode cX6_draftOrder 28 = .ok (.iload_n 2, 1) := by decide +kernel
theorem dX6_draftOrder_29 : decode cX6_draftOrder 29 = .ok (.bipush 45, 2) := by decide +kernel
theorem dX6_draftOrder_31 : decode cX6_draftOrder 31 = .ok (.if_icmp .ne 23, 3) := by decide +kernel
theorem dX6_draftOrder_34 : decode cX6_draftOrder 34 = .ok (.aload_n 0, 1) := by decide +kernel
theorem dX6_draftOrder_35 : decode cX6_draftOrder 35 = .ok (.iload_n 1, 1) := by decide +kernel
theorem dX6_draftOrder_36 : decode cX6_draftOrder 36 = .ok (.aload_n 0, 1) := by decide +kernel
theorem dX6_draftOrder_37 : decode cX6_draftOrder 37 = .ok (.getfield 41, 3) := by decide +kernel
theorem dX6_draftOrder_40 : decode cX6_draftOrder 40 = .ok (.invokevirtual 271, 3) := by decide +kernel
theorem dX6_draftOrder_43 : decode cX6_draftOrder 43 = .ok (.aload_n 0, 1) := by decide +kernel
theorem dX6_draftOrder_44 : decode cX6_draftOrder 44 = .ok (.getfield 41, 3) := by decide +kernel
theorem dX6_draftOrder_47 : decode cX6_draftOrder 47 = .ok (.invokevirtual 274, 3) := by decide +kernel
theorem dX6_draftOrder_50 : decode cX6_draftOrder 50 = .ok (.invokevirtual 79, 3) := by decide +kernel
theorem dX6_draftOrder_53 : decode cX6_draftOrder 53 = .ok (.ireturn, 1) := by decide +kernel
theorem dX6_draftOrder_54 : decode cX6_draftOrder 54 = .ok (.iload_n 2, 1) := by decide +kernel
theorem dX6_draftOrder_55 : decode cX6_draftOrder 55 = .ok (.bipush 64, 2) := by decide +kernel
theorem dX6_draftOrder_57 : decode cX6_draftOrder 57 = .ok (.if_icmp .ne 23, 3) := by decide +kernel
theorem dX6_draftOrder_60 : decode cX6_draftOrder 60 = .ok (.aload_n 0, 1) := by decide +kernel
theorem dX6_draftOrder_61 : decode cX6_draftOrder 61 = .ok (.iload_n 1, 1) := by decide +kernel
theorem dX6_draftOrder_62 : decode cX6_draftOrder 62 = .ok (.aload_n 0, 1) := by decide +kernel
theorem dX6_draftOrder_63 : decode cX6_draftOrder 63 = .ok (.getfield 41, 3) := by decide +kernel
theorem dX6_draftOrder_66 : decode cX6_draftOrder 66 = .ok (.invokevirtual 271, 3) := by decide +kernel
theorem dX6_draftOrder_69 : decode cX6_draftOrder 69 = .ok (.aload_n 0, 1) := by decide +kernel
theorem dX6_draftOrder_70 : decode cX6_draftOrder 70 = .ok (.getfield 41, 3) := by decide +kernel
theorem dX6_draftOrder_73 : decode cX6_draftOrder 73 = .ok (.invokevirtual 274, 3) := by decide +kernel
theorem dX6_draftOrder_76 : decode cX6_draftOrder 76 = .ok (.invokevirtual 82, 3) := by decide +kernel
theorem dX6_draftOrder_79 : decode cX6_draftOrder 79 = .ok (.ireturn, 1) := by decide +kernel
theorem dX6_draftOrder_80 : decode cX6_draftOrder 80 = .ok (.aload_n 0, 1) := by decide +kernel
theorem dX6_draftOrder_81 : decode cX6_draftOrder 81 = .ok (.getfield 34, 3) := by decide +kernel
theorem dX6_draftOrder_84 : decode cX6_draftOrder 84 = .ok (.invokevirtual 96, 3) := by decide +kernel
theorem dX6_draftOrder_87 : decode cX6_draftOrder 87 = .ok (.iload_n 2, 1) := by decide +kernel
theorem dX6_draftOrder_88 : decode cX6_draftOrder 88 = .ok (.bipush 43, 2) := by decide +kernel
theorem dX6_draftOrder_90 : decode cX6_draftOrder 90 = .ok (.if_icmp .ne 18, 3) := by decide +kernel
theorem dX6_draftOrder_93 : decode cX6_draftOrder 93 = .ok (.aload_n 0, 1) := by decide +kernel
theorem dX6_draftOrder_94 : decode cX6_draftOrder 94 = .ok (.getfield 34, 3) := by decide +kernel
theorem dX6_draftOrder_97 : decode cX6_draftOrder 97 = .ok (.aload_n 0, 1) := by decide +kernel
theorem dX6_draftOrder_98 : decode cX6_draftOrder 98 = .ok (.getfield 12, 3) := by decide +kernel
theorem dX6_draftOrder_101 : decode cX6_draftOrder 101 = .ok (.iload_n 1, 1) := by decide +kernel
theorem dX6_draftOrder_102 : decode cX6_draftOrder 102 = .ok (.invokevirtual 64, 3) := by decide +kernel
theorem dX6_draftOrder_105 : decode cX6_draftOrder 105 = .ok (.invokevirtual 246, 3) := by decide +kernel
theorem dX6_draftOrder_108 : decode cX6_draftOrder 108 = .ok (.aload_n 0, 1) := by decide +kernel
theorem dX6_draftOrder_109 : decode cX6_draftOrder 109 = .ok (.invokevirtual 277, 3) := by decide +kernel
theorem dX6_draftOrder_112 : decode cX6_draftOrder 112 = .ok (.ireturn, 1) := by decide +kernel
theorem dX6_draftRunsOfOrder_0 : decode cX6_draftRunsOfOrder 0 = .ok (.iconst 0, 1) := by decide +kernel
theorem dX6_draftRunsOfOrder_1 : decode cX6_draftRunsOfOrder 1 = .ok (.istore_n 1, 1) := by decide +kernel
theorem dX6_draftRunsOfOrder_2 : decode cX6_draftRunsOfOrder 2 = .ok (.iload_n 1, 1) := by decide +kernel
theorem dX6_draftRunsOfOrder_3 : decode cX6_draftRunsOfOrder 3 = .ok (.aload_n 0, 1) := by decide +kernel
theorem dX6_draftRunsOfOrder_4 : decode cX6_draftRunsOfOrder 4 = .ok (.getfield 41, 3) := by decide +kernel
theorem dX6_draftRunsOfOrder_7 : decode cX6_draftRunsOfOrder 7 = .ok (.invokevirtual 280, 3) := by decide +kernel
theorem dX6_draftRunsOfOrder_10 : decode cX6_draftRunsOfOrder 10 = .ok (.if_icmp .ge 49, 3) := by decide +kernel
theorem dX6_draftRunsOfOrder_13 : decode cX6_draftRunsOfOrder 13 = .ok (.aload_n 0, 1) := by decide +kernel
theorem dX6_draftRunsOfOrder_14 : decode cX6_draftRunsOfOrder 14 = .ok (.getfield 41, 3) := by decide +kernel
theorem dX6_draftRunsOfOrder_17 : decode cX6_draftRunsOfOrder 17 = .ok (.iload_n 1, 1) := by decide +kernel
theorem dX6_draftRunsOfOrder_18 : decode cX6_draftRunsOfOrder 18 = .ok (.invokevirtual 281, 3) := by decide +kernel
theorem dX6_draftRunsOfOrder_21 : decode cX6_draftRunsOfOrder 21 = .ok (.invokestatic 243, 3) := by decide +kernel
theorem dX6_draftRunsOfOrder_24 : decode cX6_draftRunsOfOrder 24 = .ok (.ifCond .ne 6, 3) := by decide +kernel
theorem dX6_draftRunsOfOrder_27 : decode cX6_draftRunsOfOrder 27 = .ok (.bipush (-2), 2) := by decide +kernel
theorem dX6_draftRunsOfOrder_29 : decode cX6_draftRunsOfOrder 29 = .ok (.ireturn, 1) := by decide +kernel
theorem dX6_draftRunsOfOrder_30 : decode cX6_draftRunsOfOrder 30 = .ok (.aload_n 0, 1) := by decide +kernel
theorem dX6_draftRunsOfOrder_31 : decode cX6_draftRunsOfOrder 31 = .ok (.getfield 34, 3) := by decide +kernel
theorem dX6_draftRunsOfOrder_34 : decode cX6_draftRunsOfOrder 34 = .ok (.aload_n 0, 1) := by decide +kernel
theorem dX6_draftRunsOfOrder_35 : decode cX6_draftRunsOfOrder 35 = .ok (.getfield 41, 3) := by decide +kernel
theorem dX6_draftRunsOfOrder_38 : decode cX6_draftRunsOfOrder 38 = .ok (.iload_n 1, 1) := by decide +kernel
theorem dX6_draftRunsOfOrder_39 : decode cX6_draftRunsOfOrder 39 = .ok (.invokevirtual 282, 3) := by decide +kernel
theorem dX6_draftRunsOfOrder_42 : decode cX6_draftRunsOfOrder 42 = .ok (.aload_n 0, 1) := by decide +kernel
theorem dX6_draftRunsOfOrder_43 : decode cX6_draftRunsOfOrder 43 = .ok (.getfield 41, 3) := by decide +kernel
theorem dX6_draftRunsOfOrder_46 : decode cX6_draftRunsOfOrder 46 = .ok (.iload_n 1, 1) := by decide +kernel
theorem dX6_draftRunsOfOrder_47 : decode cX6_draftRunsOfOrder 47 = .ok (.invokevirtual 281, 3) := by decide +kernel
theorem dX6_draftRunsOfOrder_50 : decode cX6_draftRunsOfOrder 50 = .ok (.invokevirtual 248, 3) := by decide +kernel
theorem dX6_draftRunsOfOrder_53 : decode cX6_draftRunsOfOrder 53 = .ok (.iinc 1 1, 3) := by decide +kernel
theorem dX6_draftRunsOfOrder_56 : decode cX6_draftRunsOfOrder 56 = .ok (.goto (-54), 3) := by decide +kernel
theorem dX6_draftRunsOfOrder_59 : decode cX6_draftRunsOfOrder 59 = .ok (.aload_n 0, 1) := by decide +kernel
theorem dX6_draftRunsOfOrder_60 : decode cX6_draftRunsOfOrder 60 = .ok (.invokevirtual 252, 3) := by decide +kernel
theorem dX6_draftRunsOfOrder_63 : decode cX6_draftRunsOfOrder 63 = .ok (.ireturn, 1) := by decide +kernel
theorem dX6_errorOfDraft_0 : decode cX6_errorOfDraft 0 = .ok (.aload_n 0, 1) := by decide +kernel
theorem dX6_errorOfDraft_1 : decode cX6_errorOfDraft 1 = .ok (.getfield 34, 3) := by decide +kernel
theorem dX6_errorOfDraft_4 : decode cX6_errorOfDraft 4 = .ok (.invokevirtual 283, 3) := by decide +kernel
theorem dX6_errorOfDraft_7 : decode cX6_errorOfDraft 7 = .ok (.ifCond .eq 8, 3) := by decide +kernel
theorem dX6_errorOfDraft_10 : decode cX6_errorOfDraft 10 = .ok (.bipush (-4), 2) := by decide +kernel
theorem dX6_errorOfDraft_12 : decode cX6_errorOfDraft 12 = .ok (.goto 4, 3) := by decide +kernel
theorem dX6_errorOfDraft_15 : decode cX6_errorOfDraft 15 = .ok (.iconst 0, 1) := by decide +kernel
theorem dX6_errorOfDraft_16 : decode cX6_errorOfDraft 16 = .ok (.ireturn, 1) := by decide +kernel
theorem dX6_recordAndTakeDraft_0 : decode cX6_recordAndTakeDraft 0 = .ok (.aload_n 0, 1) := by decide +kernel
theorem dX6_recordAndTakeDraft_1 : decode cX6_recordAndTakeDraft 1 = .ok (.getfield 19, 3) := by decide +kernel
theorem dX6_recordAndTakeDraft_4 : decode cX6_recordAndTakeDraft 4 = .ok (.aload_n 0, 1) := by decide +kernel
theorem dX6_recordAndTakeDraft_5 : decode cX6_recordAndTakeDraft 5 = .ok (.getfield 12, 3) := by decide +kernel
theorem dX6_recordAndTakeDraft_8 : decode cX6_recordAndTakeDraft 8 = .ok (.invokevirtual 227, 3) := by decide +kernel
theorem dX6_recordAndTakeDraft_11 : decode cX6_recordAndTakeDraft 11 = .ok (.aload_n 0, 1) := by decide +kernel
theorem dX6_recordAndTakeDraft_12 : decode cX6_recordAndTakeDraft 12 = .ok (.getfield 12, 3) := by decide +kernel
theorem dX6_recordAndTakeDraft_15 : decode cX6_recordAndTakeDraft 15 = .ok (.iload_n 1, 1) := by decide +kernel
theorem dX6_recordAndTakeDraft_16 : decode cX6_recordAndTakeDraft 16 = .ok (.invokevirtual 64, 3) := by decide +kernel
theorem dX6_recordAndTakeDraft_19 : decode cX6_recordAndTakeDraft 19 = .ok (.aload_n 0, 1) := by decide +kernel
theorem dX6_recordAndTakeDraft_20 : decode cX6_recordAndTakeDraft 20 = .ok (.getfield 34, 3) := by decide +kernel
theorem dX6_recordAndTakeDraft_23 : decode cX6_recordAndTakeDraft 23 = .ok (.invokevirtual 246, 3) := by decide +kernel
theorem dX6_recordAndTakeDraft_26 : decode cX6_recordAndTakeDraft 26 = .ok (.return_, 1) := by decide +kernel
theorem dX6_obeyOrders_0 : decode cX6_obeyOrders 0 = .ok (.iconst 0, 1) := by decide +kernel
theorem dX6_obeyOrders_1 : decode cX6_obeyOrders 1 = .ok (.istore_n 1, 1) := by decide +kernel
theorem dX6_obeyOrders_2 : decode cX6_obeyOrders 2 = .ok (.aload_n 0, 1) := by decide +kernel
theorem dX6_obeyOrders_3 : decode cX6_obeyOrders 3 = .ok (.getfield 41, 3) := by decide +kernel
theorem dX6_obeyOrders_6 : decode cX6_obeyOrders 6 = .ok (.invokevirtual 286, 3) := by decide +kernel
theorem dX6_obeyOrders_9 : decode cX6_obeyOrders 9 = .ok (.iconst 0, 1) := by decide +kernel
theorem dX6_obeyOrders_10 : decode cX6_obeyOrders 10 = .ok (.istore_n 2, 1) := by decide +kernel
theorem dX6_obeyOrders_11 : decode cX6_obeyOrders 11 = .ok (.iload_n 2, 1) := by decide +kernel
theorem dX6_obeyOrders_12 : decode cX6_obeyOrders 12 = .ok (.bipush 80, 2) := by decide +kernel
theorem dX6_obeyOrders_14 : decode cX6_obeyOrders 14 = .ok (.if_icmp .ge 66, 3) := by decide +kernel
theorem dX6_obeyOrders_17 : decode cX6_obeyOrders 17 = .ok (.aload_n 0, 1) := by decide +kernel
theorem dX6_obeyOrders_18 : decode cX6_obeyOrders 18 = .ok (.getfield 41, 3) := by decide +kernel
theorem dX6_obeyOrders_21 : decode cX6_obeyOrders 21 = .ok (.invokevirtual 289, 3) := by decide +kernel
theorem dX6_obeyOrders_24 : decode cX6_obeyOrders 24 = .ok (.ifCond .eq 10, 3) := by decide +kernel
theorem dX6_obeyOrders_27 : decode cX6_obeyOrders 27 = .ok (.aload_n 0, 1) := by decide +kernel
theorem dX6_obeyOrders_28 : decode cX6_obeyOrders 28 = .ok (.invokevirtual 292, 3) := by decide +kernel
theorem dX6_obeyOrders_31 : decode cX6_obeyOrders 31 = .ok (.ifCond .eq 5, 3) := by decide +kernel
theorem dX6_obeyOrders_34 : decode cX6_obeyOrders 34 = .ok (.iload_n 1, 1) := by decide +kernel
theorem dX6_obeyOrders_35 : decode cX6_obeyOrders 35 = .ok (.ireturn, 1) := by decide +kernel
theorem dX6_obeyOrders_36 : decode cX6_obeyOrders 36 = .ok (.aload_n 0, 1) := by decide +kernel
theorem dX6_obeyOrders_37 : decode cX6_obeyOrders 37 = .ok (.getfield 12, 3) := by decide +kernel
theorem dX6_obeyOrders_40 : decode cX6_obeyOrders 40 = .ok (.aload_n 0, 1) := by decide +kernel
theorem dX6_obeyOrders_41 : decode cX6_obeyOrders 41 = .ok (.getfield 41, 3) := by decide +kernel
theorem dX6_obeyOrders_44 : decode cX6_obeyOrders 44 = .ok (.invokevirtual 265, 3) := by decide +kernel
theorem dX6_obeyOrders_47 : decode cX6_obeyOrders 47 = .ok (.invokevirtual 64, 3) := by decide +kernel
theorem dX6_obeyOrders_50 : decode cX6_obeyOrders 50 = .ok (.aload_n 0, 1) := by decide +kernel
theorem dX6_obeyOrders_51 : decode cX6_obeyOrders 51 = .ok (.getfield 34, 3) := by decide +kernel
theorem dX6_obeyOrders_54 : decode cX6_obeyOrders 54 = .ok (.invokevirtual 246, 3) := by decide +kernel
theorem dX6_obeyOrders_57 : decode cX6_obeyOrders 57 = .ok (.iinc 1 1, 3) := by decide +kernel
theorem dX6_obeyOrders_60 : decode cX6_obeyOrders 60 = .ok (.aload_n 0, 1) := by decide +kernel
theorem dX6_obeyOrders_61 : decode cX6_obeyOrders 61 = .ok (.getfield 41, 3) := by decide +kernel
theorem dX6_obeyOrders_64 : decode cX6_obeyOrders 64 = .ok (.bipush 59, 2) := by decide +kernel
theorem dX6_obeyOrders_66 : decode cX6_obeyOrders 66 = .ok (.invokevirtual 295, 3) := by decide +kernel
theorem dX6_obeyOrders_69 : decode cX6_obeyOrders 69 = .ok (.ifCond .ne 5, 3) := by decide +kernel
theorem dX6_obeyOrders_72 : decode cX6_obeyOrders 72 = .ok (.iload_n 1, 1) := by decide +kernel
theorem dX6_obeyOrders_73 : decode cX6_obeyOrders 73 = .ok (.ireturn, 1) := by decide +kernel
theorem dX6_obeyOrders_74 : decode cX6_obeyOrders 74 = .ok (.iinc 2 1, 3) := by decide +kernel
theorem dX6_obeyOrders_77 : decode cX6_obeyOrders 77 = .ok (.goto (-66), 3) := by decide +kernel
theorem dX6_obeyOrders_80 : decode cX6_obeyOrders 80 = .ok (.iload_n 1, 1) := by decide +kernel
theorem dX6_obeyOrders_81 : decode cX6_obeyOrders 81 = .ok (.ireturn, 1) := by decide +kernel
theorem dX6_walkOver_0 : decode cX6_walkOver 0 = .ok (.new 170, 3) := by decide +kernel
theorem dX6_walkOver_3 : decode cX6_walkOver 3 = .ok (.dup, 1) := by decide +kernel
theorem dX6_walkOver_4 : decode cX6_walkOver 4 = .ok (.aload_n 0, 1) := by decide +kernel
theorem dX6_walkOver_5 : decode cX6_walkOver 5 = .ok (.getfield 12, 3) := by decide +kernel
theorem dX6_walkOver_8 : decode cX6_walkOver 8 = .ok (.iload_n 1, 1) := by decide +kernel
theorem dX6_walkOver_9 : decode cX6_walkOver 9 = .ok (.invokevirtual 64, 3) := by decide +kernel
theorem dX6_walkOver_12 : decode cX6_walkOver 12 = .ok (.aload_n 0, 1) := by decide +kernel
theorem dX6_walkOver_13 : decode cX6_walkOver 13 = .ok (.getfield 12, 3) := by decide +kernel
theorem dX6_walkOver_16 : decode cX6_walkOver 16 = .ok (.iload_n 2, 1) := by decide +kernel
theorem dX6_walkOver_17 : decode cX6_walkOver 17 = .ok (.invokevirtual 64, 3) := by decide +kernel
theorem dX6_walkOver_20 : decode cX6_walkOver 20 = .ok (.invokespecial 299, 3) := by decide +kernel
theorem dX6_walkOver_23 : decode cX6_walkOver 23 = .ok (.areturn, 1) := by decide +kernel
theorem dX6_runsOfPairs_0 : decode cX6_runsOfPairs 0 = .ok (.iconst 0, 1) := by decide +kernel
theorem dX6_runsOfPairs_1 : decode cX6_runsOfPairs 1 = .ok (.istore_n 1, 1) := by decide +kernel
theorem dX6_runsOfPairs_2 : decode cX6_runsOfPairs 2 = .ok (.iconst 0, 1) := by decide +kernel
theorem dX6_runsOfPairs_3 : decode cX6_runsOfPairs 3 = .ok (.istore_n 2, 1) := by decide +kernel
theorem dX6_runsOfPairs_4 : decode cX6_runsOfPairs 4 = .ok (.iload_n 2, 1) := by decide +kernel
theorem dX6_runsOfPairs_5 : decode cX6_runsOfPairs 5 = .ok (.bipush 80, 2) := by decide +kernel
theorem dX6_runsOfPairs_7 : decode cX6_runsOfPairs 7 = .ok (.if_icmp .ge 19, 3) := by decide +kernel
theorem dX6_runsOfPairs_10 : decode cX6_runsOfPairs 10 = .ok (.aload_n 0, 1) := by decide +kernel
theorem dX6_runsOfPairs_11 : decode cX6_runsOfPairs 11 = .ok (.invokevirtual 169, 3) := by decide +kernel
theorem dX6_runsOfPairs_14 : decode cX6_runsOfPairs 14 = .ok (.ifCond .eq 12, 3) := by decide +kernel
theorem dX6_runsOfPairs_17 : decode cX6_runsOfPairs 17 = .ok (.iinc 1 1, 3) := by decide +kernel
theorem dX6_runsOfPairs_20 : decode cX6_runsOfPairs 20 = .ok (.iinc 2 1, 3) := by decide +kernel
theorem dX6_runsOfPairs_23 : decode cX6_runsOfPairs 23 = .ok (.goto (-19), 3) := by decide +kernel
theorem dX6_runsOfPairs_26 : decode cX6_runsOfPairs 26 = .ok (.iload_n 1, 1) := by decide +kernel
theorem dX6_runsOfPairs_27 : decode cX6_runsOfPairs 27 = .ok (.ireturn, 1) := by decide +kernel
theorem dX6_rowsAlike_0 : decode cX6_rowsAlike 0 = .ok (.iconst 0, 1) := by decide +kernel
theorem dX6_rowsAlike_1 : decode cX6_rowsAlike 1 = .ok (.istore_n 1, 1) := by decide +kernel
theorem dX6_rowsAlike_2 : decode cX6_rowsAlike 2 = .ok (.iconst 0, 1) := by decide +kernel
theorem dX6_rowsAlike_3 : decode cX6_rowsAlike 3 = .ok (.istore_n 2, 1) := by decide +kernel
theorem dX6_rowsAlike_4 : decode cX6_rowsAlike 4 = .ok (.iload_n 2, 1) := by decide +kernel
theorem dX6_rowsAlike_5 : decode cX6_rowsAlike 5 = .ok (.bipush 80, 2) := by decide +kernel
theorem dX6_rowsAlike_7 : decode cX6_rowsAlike 7 = .ok (.if_icmp .ge 30, 3) := by decide +kernel
theorem dX6_rowsAlike_10 : decode cX6_rowsAlike 10 = .ok (.aload_n 0, 1) := by decide +kernel
theorem dX6_rowsAlike_11 : decode cX6_rowsAlike 11 = .ok (.invokevirtual 169, 3) := by decide +kernel
theorem dX6_rowsAlike_14 : decode cX6_rowsAlike 14 = .ok (.ifCond .eq 23, 3) := by decide +kernel
theorem dX6_rowsAlike_17 : decode cX6_rowsAlike 17 = .ok (.aload_n 0, 1) := by decide +kernel
theorem dX6_rowsAlike_18 : decode cX6_rowsAlike 18 = .ok (.invokevirtual 262, 3) := by decide +kernel
theorem dX6_rowsAlike_21 : decode cX6_rowsAlike 21 = .ok (.ifCond .eq 10, 3) := by decide +kernel
theorem dX6_rowsAlike_24 : decode cX6_rowsAlike 24 = .ok (.iload_n 1, 1) := by decide +kernel
theorem dX6_rowsAlike_25 : decode cX6_rowsAlike 25 = .ok (.aload_n 0, 1) := by decide +kernel
theorem dX6_rowsAlike_26 : decode cX6_rowsAlike 26 = .ok (.invokevirtual 180, 3) := by decide +kernel
theorem dX6_rowsAlike_29 : decode cX6_rowsAlike 29 = .ok (.iadd, 1) := by decide +kernel
theorem dX6_rowsAlike_30 : decode cX6_rowsAlike 30 = .ok (.istore_n 1, 1) := by decide +kernel
theorem dX6_rowsAlike_31 : decode cX6_rowsAlike 31 = .ok (.iinc 2 1, 3) := by decide +kernel
theorem dX6_rowsAlike_34 : decode cX6_rowsAlike 34 = .ok (.goto (-30), 3) := by decide +kernel
theorem dX6_rowsAlike_37 : decode cX6_rowsAlike 37 = .ok (.iload_n 1, 1) := by decide +kernel
theorem dX6_rowsAlike_38 : decode cX6_rowsAlike 38 = .ok (.ireturn, 1) := by decide +kernel
theorem dX6_sumOfProducts_0 : decode cX6_sumOfProducts 0 = .ok (.iconst 0, 1) := by decide +kernel
theorem dX6_sumOfProducts_1 : decode cX6_sumOfProducts 1 = .ok (.istore_n 1, 1) := by decide +kernel
theorem dX6_sumOfProducts_2 : decode cX6_sumOfProducts 2 = .ok (.iconst 0, 1) := by decide +kernel
theorem dX6_sumOfProducts_3 : decode cX6_sumOfProducts 3 = .ok (.istore_n 2, 1) := by decide +kernel
theorem dX6_sumOfProducts_4 : decode cX6_sumOfProducts 4 = .ok (.iload_n 2, 1) := by decide +kernel
theorem dX6_sumOfProducts_5 : decode cX6_sumOfProducts 5 = .ok (.bipush 80, 2) := by decide +kernel
theorem dX6_sumOfProducts_7 : decode cX6_sumOfProducts 7 = .ok (.if_icmp .ge 33, 3) := by decide +kernel
theorem dX6_sumOfProducts_10 : decode cX6_sumOfProducts 10 = .ok (.aload_n 0, 1) := by decide +kernel
theorem dX6_sumOfProducts_11 : decode cX6_sumOfProducts 11 = .ok (.invokevirtual 169, 3) := by decide +kernel
theorem dX6_sumOfProducts_14 : decode cX6_sumOfProducts 14 = .ok (.ifCond .eq 26, 3) := by decide +kernel
theorem dX6_sumOfProducts_17 : decode cX6_sumOfProducts 17 = .ok (.iload_n 1, 1) := by decide +kernel
theorem dX6_sumOfProducts_18 : decode cX6_sumOfProducts 18 = .ok (.aload_n 0, 1) := by decide +kernel
theorem dX6_sumOfProducts_19 : decode cX6_sumOfProducts 19 = .ok (.invokevirtual 174, 3) := by decide +kernel
theorem dX6_sumOfProducts_22 : decode cX6_sumOfProducts 22 = .ok (.aload_n 0, 1) := by decide +kernel
theorem dX6_sumOfProducts_23 : decode cX6_sumOfProducts 23 = .ok (.invokevirtual 177, 3) := by decide +kernel
theorem dX6_sumOfProducts_26 : decode cX6_sumOfProducts 26 = .ok (.imul, 1) := by decide +kernel
theorem dX6_sumOfProducts_27 : decode cX6_sumOfProducts 27 = .ok (.aload_n 0, 1) := by decide +kernel
theorem dX6_sumOfProducts_28 : decode cX6_sumOfProducts 28 = .ok (.invokevirtual 180, 3) := by decide +kernel
theorem dX6_sumOfProducts_31 : decode cX6_sumOfProducts 31 = .ok (.imul, 1) := by decide +kernel
theorem dX6_sumOfProducts_32 : decode cX6_sumOfProducts 32 = .ok (.iadd, 1) := by decide +kernel
theorem dX6_sumOfProducts_33 : decode cX6_sumOfProducts 33 = .ok (.istore_n 1, 1) := by decide +kernel
theorem dX6_sumOfProducts_34 : decode cX6_sumOfProducts 34 = .ok (.iinc 2 1, 3) := by decide +kernel
theorem dX6_sumOfProducts_37 : decode cX6_sumOfProducts 37 = .ok (.goto (-33), 3) := by decide +kernel
theorem dX6_sumOfProducts_40 : decode cX6_sumOfProducts 40 = .ok (.iload_n 1, 1) := by decide +kernel
theorem dX6_sumOfProducts_41 : decode cX6_sumOfProducts 41 = .ok (.ireturn, 1) := by decide +kernel
theorem dX6_unlikePairs_0 : decode cX6_unlikePairs 0 = .ok (.aload_n 0, 1) := by decide +kernel
theorem dX6_unlikePairs_1 : decode cX6_unlikePairs 1 = .ok (.getfield 52, 3) := by decide +kernel
theorem dX6_unlikePairs_4 : decode cX6_unlikePairs 4 = .ok (.iconst 0, 1) := by decide +kernel
theorem dX6_unlikePairs_5 : decode cX6_unlikePairs 5 = .ok (.invokestatic 302, 3) := by decide +kernel
theorem dX6_unlikePairs_8 : decode cX6_unlikePairs 8 = .ok (.iconst 0, 1) := by decide +kernel
theorem dX6_unlikePairs_9 : decode cX6_unlikePairs 9 = .ok (.istore_n 2, 1) := by decide +kernel
theorem dX6_unlikePairs_10 : decode cX6_unlikePairs 10 = .ok (.iload_n 2, 1) := by decide +kernel
theorem dX6_unlikePairs_11 : decode cX6_unlikePairs 11 = .ok (.bipush 80, 2) := by decide +kernel
theorem dX6_unlikePairs_13 : decode cX6_unlikePairs 13 = .ok (.if_icmp .ge 43, 3) := by decide +kernel
theorem dX6_unlikePairs_16 : decode cX6_unlikePairs 16 = .ok (.aload_n 1, 1) := by decide +kernel
theorem dX6_unlikePairs_17 : decode cX6_unlikePairs 17 = .ok (.invokevirtual 169, 3) := by decide +kernel
theorem dX6_unlikePairs_20 : decode cX6_unlikePairs 20 = .ok (.ifCond .eq 36, 3) := by decide +kernel
theorem dX6_unlikePairs_23 : decode cX6_unlikePairs 23 = .ok (.aload_n 1, 1) := by decide +kernel
theorem dX6_unlikePairs_24 : decode cX6_unlikePairs 24 = .ok (.invokevirtual 174, 3) := by decide +kernel
theorem dX6_unlikePairs_27 : decode cX6_unlikePairs 27 = .ok (.istore_n 3, 1) := by decide +kernel
theorem dX6_unlikePairs_28 : decode cX6_unlikePairs 28 = .ok (.iload_n 3, 1) := by decide +kernel
theorem dX6_unlikePairs_29 : decode cX6_unlikePairs 29 = .ok (.invokestatic 119, 3) := by decide +kernel
theorem dX6_unlikePairs_32 : decode cX6_unlikePairs 32 = .ok (.ifCond .eq 18, 3) := by decide +kernel
theorem dX6_unlikePairs_35 : decode cX6_unlikePairs 35 = .ok (.aload_n 0, 1) := by decide +kernel
theorem dX6_unlikePairs_36 : decode cX6_unlikePairs 36 = .ok (.getfield 52, 3) := by decide +kernel
theorem dX6_unlikePairs_39 : decode cX6_unlikePairs 39 = .ok (.iload_n 3, 1) := by decide +kernel
theorem dX6_unlikePairs_40 : decode cX6_unlikePairs 40 = .ok (.dup2, 1) := by decide +kernel
theorem dX6_unlikePairs_41 : decode cX6_unlikePairs 41 = .ok (.iaload, 1) := by decide +kernel
theorem dX6_unlikePairs_42 : decode cX6_unlikePairs 42 = .ok (.iconst 1, 1) := by decide +kernel
theorem dX6_unlikePairs_43 : decode cX6_unlikePairs 43 = .ok (.aload_n 1, 1) := by decide +kernel
theorem dX6_unlikePairs_44 : decode cX6_unlikePairs 44 = .ok (.invokevirtual 177, 3) := by decide +kernel
theorem dX6_unlikePairs_47 : decode cX6_unlikePairs 47 = .ok (.ishl, 1) := by decide +kernel
theorem dX6_unlikePairs_48 : decode cX6_unlikePairs 48 = .ok (.ior, 1) := by decide +kernel
theorem dX6_unlikePairs_49 : decode cX6_unlikePairs 49 = .ok (.iastore, 1) := by decide +kernel
theorem dX6_unlikePairs_50 : decode cX6_unlikePairs 50 = .ok (.iinc 2 1, 3) := by decide +kernel
theorem dX6_unlikePairs_53 : decode cX6_unlikePairs 53 = .ok (.goto (-43), 3) := by decide +kernel
theorem dX6_unlikePairs_56 : decode cX6_unlikePairs 56 = .ok (.iconst 0, 1) := by decide +kernel
theorem dX6_unlikePairs_57 : decode cX6_unlikePairs 57 = .ok (.istore_n 2, 1) := by decide +kernel
theorem dX6_unlikePairs_58 : decode cX6_unlikePairs 58 = .ok (.iconst 0, 1) := by decide +kernel
theorem dX6_unlikePairs_59 : decode cX6_unlikePairs 59 = .ok (.istore_n 3, 1) := by decide +kernel
theorem dX6_unlikePairs_60 : decode cX6_unlikePairs 60 = .ok (.iload_n 3, 1) := by decide +kernel
theorem dX6_unlikePairs_61 : decode cX6_unlikePairs 61 = .ok (.bipush 10, 2) := by decide +kernel
theorem dX6_unlikePairs_63 : decode cX6_unlikePairs 63 = .ok (.if_icmp .ge 21, 3) := by decide +kernel
theorem dX6_unlikePairs_66 : decode cX6_unlikePairs 66 = .ok (.iload_n 2, 1) := by decide +kernel
theorem dX6_unlikePairs_67 : decode cX6_unlikePairs 67 = .ok (.aload_n 0, 1) := by decide +kernel
theorem dX6_unlikePairs_68 : decode cX6_unlikePairs 68 = .ok (.getfield 52, 3) := by decide +kernel
theorem dX6_unlikePairs_71 : decode cX6_unlikePairs 71 = .ok (.iload_n 3, 1) := by decide +kernel
theorem dX6_unlikePairs_72 : decode cX6_unlikePairs 72 = .ok (.iaload, 1) := by decide +kernel
theorem dX6_unlikePairs_73 : decode cX6_unlikePairs 73 = .ok (.invokestatic 202, 3) := by decide +kernel
theorem dX6_unlikePairs_76 : decode cX6_unlikePairs 76 = .ok (.iadd, 1) := by decide +kernel
theorem dX6_unlikePairs_77 : decode cX6_unlikePairs 77 = .ok (.istore_n 2, 1) := by decide +kernel
theorem dX6_unlikePairs_78 : decode cX6_unlikePairs 78 = .ok (.iinc 3 1, 3) := by decide +kernel
theorem dX6_unlikePairs_81 : decode cX6_unlikePairs 81 = .ok (.goto (-21), 3) := by decide +kernel
theorem dX6_unlikePairs_84 : decode cX6_unlikePairs 84 = .ok (.iload_n 2, 1) := by decide +kernel
theorem dX6_unlikePairs_85 : decode cX6_unlikePairs 85 = .ok (.ireturn, 1) := by decide +kernel
theorem dX6_charactersIn_0 : decode cX6_charactersIn 0 = .ok (.lload_n 0, 1) := by decide +kernel
theorem dX6_charactersIn_1 : decode cX6_charactersIn 1 = .ok (.lstore_n 2, 1) := by decide +kernel
theorem dX6_charactersIn_2 : decode cX6_charactersIn 2 = .ok (.iconst 0, 1) := by decide +kernel
theorem dX6_charactersIn_3 : decode cX6_charactersIn 3 = .ok (.istore 4, 2) := by decide +kernel
theorem dX6_charactersIn_5 : decode cX6_charactersIn 5 = .ok (.iconst 0, 1) := by decide +kernel
theorem dX6_charactersIn_6 : decode cX6_charactersIn 6 = .ok (.istore 5, 2) := by decide +kernel
theorem dX6_charactersIn_8 : decode cX6_charactersIn 8 = .ok (.iload 5, 2) := by decide +kernel
theorem dX6_charactersIn_10 : decode cX6_charactersIn 10 = .ok (.bipush 8, 2) := by decide +kernel
theorem dX6_charactersIn_12 : decode cX6_charactersIn 12 = .ok (.if_icmp .ge 55, 3) := by decide +kernel
theorem dX6_charactersIn_15 : decode cX6_charactersIn 15 = .ok (.lload_n 2, 1) := by decide +kernel
theorem dX6_charactersIn_16 : decode cX6_charactersIn 16 = .ok (.ldc2_w 217, 3) := by decide +kernel
theorem dX6_charactersIn_19 : decode cX6_charactersIn 19 = .ok (.land, 1) := by decide +kernel
theorem dX6_charactersIn_20 : decode cX6_charactersIn 20 = .ok (.lconst 0, 1) := by decide +kernel
theorem dX6_charactersIn_21 : decode cX6_charactersIn 21 = .ok (.lcmp, 1) := by decide +kernel
theorem dX6_charactersIn_22 : decode cX6_charactersIn 22 = .ok (.ifCond .eq 45, 3) := by decide +kernel
theorem dX6_charactersIn_25 : decode cX6_charactersIn 25 = .ok (.lload_n 2, 1) := by decide +kernel
theorem dX6_charactersIn_26 : decode cX6_charactersIn 26 = .ok (.ldc2_w 217, 3) := by decide +kernel
theorem dX6_charactersIn_29 : decode cX6_charactersIn 29 = .ok (.land, 1) := by decide +kernel
theorem dX6_charactersIn_30 : decode cX6_charactersIn 30 = .ok (.lstore 6, 2) := by decide +kernel
theorem dX6_charactersIn_32 : decode cX6_charactersIn 32 = .ok (.lload 6, 2) := by decide +kernel
theorem dX6_charactersIn_34 : decode cX6_charactersIn 34 = .ok (.ldc2_w 308, 3) := by decide +kernel
theorem dX6_charactersIn_37 : decode cX6_charactersIn 37 = .ok (.lcmp, 1) := by decide +kernel
theorem dX6_charactersIn_38 : decode cX6_charactersIn 38 = .ok (.ifCond .lt 12, 3) := by decide +kernel
theorem dX6_charactersIn_41 : decode cX6_charactersIn 41 = .ok (.lload 6, 2) := by decide +kernel
theorem dX6_charactersIn_43 : decode cX6_charactersIn 43 = .ok (.ldc2_w 310, 3) := by decide +kernel
theorem dX6_charactersIn_46 : decode cX6_charactersIn 46 = .ok (.lcmp, 1) := by decide +kernel
theorem dX6_charactersIn_47 : decode cX6_charactersIn 47 = .ok (.ifCond .le 6, 3) := by decide +kernel
theorem dX6_charactersIn_50 : decode cX6_charactersIn 50 = .ok (.bipush (-2), 2) := by decide +kernel
theorem dX6_charactersIn_52 : decode cX6_charactersIn 52 = .ok (.ireturn, 1) := by decide +kernel
theorem dX6_charactersIn_53 : decode cX6_charactersIn 53 = .ok (.iinc 4 1, 3) := by decide +kernel
theorem dX6_charactersIn_56 : decode cX6_charactersIn 56 = .ok (.lload_n 2, 1) := by decide +kernel
theorem dX6_charactersIn_57 : decode cX6_charactersIn 57 = .ok (.bipush 8, 2) := by decide +kernel
theorem dX6_charactersIn_59 : decode cX6_charactersIn 59 = .ok (.lushr, 1) := by decide +kernel
theorem dX6_charactersIn_60 : decode cX6_charactersIn 60 = .ok (.lstore_n 2, 1) := by decide +kernel
theorem dX6_charactersIn_61 : decode cX6_charactersIn 61 = .ok (.iinc 5 1, 3) := by decide +kernel
theorem dX6_charactersIn_64 : decode cX6_charactersIn 64 = .ok (.goto (-56), 3) := by decide +kernel
theorem dX6_charactersIn_67 : decode cX6_charactersIn 67 = .ok (.lload_n 2, 1) := by decide +kernel
theorem dX6_charactersIn_68 : decode cX6_charactersIn 68 = .ok (.lconst 0, 1) := by decide +kernel
theorem dX6_charactersIn_69 : decode cX6_charactersIn 69 = .ok (.lcmp, 1) := by decide +kernel
theorem dX6_charactersIn_70 : decode cX6_charactersIn 70 = .ok (.ifCond .ne 8, 3) := by decide +kernel
theorem dX6_charactersIn_73 : decode cX6_charactersIn 73 = .ok (.iload 4, 2) := by decide +kernel
theorem dX6_charactersIn_75 : decode cX6_charactersIn 75 = .ok (.goto 5, 3) := by decide +kernel
theorem dX6_charactersIn_78 : decode cX6_charactersIn 78 = .ok (.bipush (-2), 2) := by decide +kernel
theorem dX6_charactersIn_80 : decode cX6_charactersIn 80 = .ok (.ireturn, 1) := by decide +kernel
theorem dX7_init_0 : decode cX7_init 0 = .ok (.aload_n 0, 1) := by decide +kernel
theorem dX7_init_1 : decode cX7_init 1 = .ok (.invokespecial 1, 3) := by decide +kernel
theorem dX7_init_4 : decode cX7_init 4 = .ok (.aload_n 0, 1) := by decide +kernel
theorem dX7_init_5 : decode cX7_init 5 = .ok (.sipush 324, 3) := by decide +kernel
theorem dX7_init_8 : decode cX7_init 8 = .ok (.newarray .int, 2) := by decide +kernel
theorem dX7_init_10 : decode cX7_init 10 = .ok (.putfield 7, 3) := by decide +kernel
theorem dX7_init_13 : decode cX7_init 13 = .ok (.aload_n 0, 1) := by decide +kernel
theorem dX7_init_14 : decode cX7_init 14 = .ok (.sipush 1944, 3) := by decide +kernel
theorem dX7_init_17 : decode cX7_init 17 = .ok (.newarray .int, 2) := by decide +kernel
theorem dX7_init_19 : decode cX7_init 19 = .ok (.putfield 13, 3) := by decide +kernel
theorem dX7_init_22 : decode cX7_init 22 = .ok (.aload_n 0, 1) := by decide +kernel
theorem dX7_init_23 : decode cX7_init 23 = .ok (.sipush 648, 3) := by decide +kernel
theorem dX7_init_26 : decode cX7_init 26 = .ok (.newarray .int, 2) := by decide +kernel
theorem dX7_init_28 : decode cX7_init 28 = .ok (.putfield 16, 3) := by decide +kernel
theorem dX7_init_31 : decode cX7_init 31 = .ok (.aload_n 0, 1) := by decide +kernel
theorem dX7_init_32 : decode cX7_init 32 = .ok (.iconst 2, 1) := by decide +kernel
theorem dX7_init_33 : decode cX7_init 33 = .ok (.newarray .int, 2) := by decide +kernel
theorem dX7_init_35 : decode cX7_init 35 = .ok (.putfield 19, 3) := by decide +kernel
theorem dX7_init_38 : decode cX7_init 38 = .ok (.aload_n 0, 1) := by decide +kernel
theorem dX7_init_39 : decode cX7_init 39 = .ok (.bipush 80, 2) := by decide +kernel
theorem dX7_init_41 : decode cX7_init 41 = .ok (.newarray .int, 2) := by decide +kernel
theorem dX7_init_43 : decode cX7_init 43 = .ok (.putfield 22, 3) := by decide +kernel
theorem dX7_init_46 : decode cX7_init 46 = .ok (.aload_n 0, 1) := by decide +kernel
theorem dX7_init_47 : decode cX7_init 47 = .ok (.sipush 1998, 3) := by decide +kernel
theorem dX7_init_50 : decode cX7_init 50 = .ok (.newarray .int, 2) := by decide +kernel
theorem dX7_init_52 : decode cX7_init 52 = .ok (.putfield 25, 3) := by decide +kernel
theorem dX7_init_55 : decode cX7_init 55 = .ok (.aload_n 0, 1) := by decide +kernel
theorem dX7_init_56 : decode cX7_init 56 = .ok (.sipush 999, 3) := by decide +kernel
theorem dX7_init_59 : decode cX7_init 59 = .ok (.newarray .int, 2) := by decide +kernel
theorem dX7_init_61 : decode cX7_init 61 = .ok (.putfield 28, 3) := by decide +kernel
theorem dX7_init_64 : decode cX7_init 64 = .ok (.aload_n 0, 1) := by decide +kernel
theorem dX7_init_65 : decode cX7_init 65 = .ok (.bipush 100, 2) := by decide +kernel
theorem dX7_init_67 : decode cX7_init 67 = .ok (.newarray .int, 2) := by decide +kernel
theorem dX7_init_69 : decode cX7_init 69 = .ok (.putfield 31, 3) := by decide +kernel
theorem dX7_init_72 : decode cX7_init 72 = .ok (.aload_n 0, 1) := by decide +kernel
theorem dX7_init_73 : decode cX7_init 73 = .ok (.bipush 40, 2) := by decide +kernel
theorem dX7_init_75 : decode cX7_init 75 = .ok (.newarray .int, 2) := by decide +kernel
theorem dX7_init_77 : decode cX7_init 77 = .ok (.putfield 34, 3) := by decide +kernel
theorem dX7_init_80 : decode cX7_init 80 = .ok (.aload_n 0, 1) := by decide +kernel
theorem dX7_init_81 : decode cX7_init 81 = .ok (.bipush 40, 2) := by decide +kernel
theorem dX7_init_83 : decode cX7_init 83 = .ok (.newarray .int, 2) := by decide +kernel
theorem dX7_init_85 : decode cX7_init 85 = .ok (.putfield 37, 3) := by decide +kernel
theorem dX7_init_88 : decode cX7_init 88 = .ok (.aload_n 0, 1) := by decide +kernel
theorem dX7_init_89 : decode cX7_init 89 = .ok (.getfield 7, 3) := by decide +kernel
theorem dX7_init_92 : decode cX7_init 92 = .ok (.iconst 0, 1) := by decide +kernel
theorem dX7_init_93 : decode cX7_init 93 = .ok (.iconst 0, 1) := by decide +kernel
theorem dX7_init_94 : decode cX7_init 94 = .ok (.iastore, 1) := by decide +kernel
theorem dX7_init_95 : decode cX7_init 95 = .ok (.return_, 1) := by decide +kernel
theorem dX7_moves_0 : decode cX7_moves 0 = .ok (.iconst 0, 1) := by decide +kernel
theorem dX7_moves_1 : decode cX7_moves 1 = .ok (.istore 4, 2) := by decide +kernel
theorem dX7_moves_3 : decode cX7_moves 3 = .ok (.iload 4, 2) := by decide +kernel
theorem dX7_moves_5 : decode cX7_moves 5 = .ok (.sipush 324, 3) := by decide +kernel
theorem dX7_moves_8 : decode cX7_moves 8 = .ok (.if_icmp .ge 21, 3) := by decide +kernel
theorem dX7_moves_11 : decode cX7_moves 11 = .ok (.aload_n 2, 1) := by decide +kernel
theorem dX7_moves_12 : decode cX7_moves 12 = .ok (.iload_n 3, 1) := by decide +kernel
theorem dX7_moves_13 : decode cX7_moves 13 = .ok (.iload 4, 2) := by decide +kernel
theorem dX7_moves_15 : decode cX7_moves 15 = .ok (.iadd, 1) := by decide +kernel
theorem dX7_moves_16 : decode cX7_moves 16 = .ok (.aload_n 0, 1) := by decide +kernel
theorem dX7_moves_17 : decode cX7_moves 17 = .ok (.iload_n 1, 1) := by decide +kernel
theorem dX7_moves_18 : decode cX7_moves 18 = .ok (.iload 4, 2) := by decide +kernel
theorem dX7_moves_20 : decode cX7_moves 20 = .ok (.iadd, 1) := by decide +kernel
theorem dX7_moves_21 : decode cX7_moves 21 = .ok (.iaload, 1) := by decide +kernel
theorem dX7_moves_22 : decode cX7_moves 22 = .ok (.iastore, 1) := by decide +kernel
theorem dX7_moves_23 : decode cX7_moves 23 = .ok (.iinc 4 1, 3) := by decide +kernel
theorem dX7_moves_26 : decode cX7_moves 26 = .ok (.goto (-23), 3) := by decide +kernel
theorem dX7_moves_29 : decode cX7_moves 29 = .ok (.return_, 1) := by decide +kernel
theorem dX7_within_0 : decode cX7_within 0 = .ok (.iload_n 0, 1) := by decide +kernel
theorem dX7_within_1 : decode cX7_within 1 = .ok (.iload_n 1, 1) := by decide +kernel
theorem dX7_within_2 : decode cX7_within 2 = .ok (.if_icmp .lt 12, 3) := by decide +kernel
theorem dX7_within_5 : decode cX7_within 5 = .ok (.iload_n 0, 1) := by decide +kernel
theorem dX7_within_6 : decode cX7_within 6 = .ok (.iload_n 2, 1) := by decide +kernel
theorem dX7_within_7 : decode cX7_within 7 = .ok (.if_icmp .gt 7, 3) := by decide +kernel
theorem dX7_within_10 : decode cX7_within 10 = .ok (.iconst 1, 1) := by decide +kernel
theorem dX7_within_11 : decode cX7_within 11 = .ok (.goto 4, 3) := by decide +kernel
theorem dX7_within_14 : decode cX7_within 14 = .ok (.iconst 0, 1) := by decide +kernel
theorem dX7_within_15 : decode cX7_within 15 = .ok (.ireturn, 1) := by decide +kernel
theorem dX7_record_0 : decode cX7_record 0 = .ok (.aload_n 0, 1) := by decide +kernel
theorem dX7_record_1 : decode cX7_record 1 = .ok (.getfield 40, 3) := by decide +kernel
theorem dX7_record_4 : decode cX7_record 4 = .ok (.bipush 6, 2) := by decide +kernel
theorem dX7_record_6 : decode cX7_record 6 = .ok (.if_icmp .ne 44, 3) := by decide +kernel
theorem dX7_record_9 : decode cX7_record 9 = .ok (.iconst 0, 1) := by decide +kernel
theorem dX7_record_10 : decode cX7_record 10 = .ok (.istore_n 1, 1) := by decide +kernel
theorem dX7_record_11 : decode cX7_record 11 = .ok (.iload_n 1, 1) := by decide +kernel
theorem dX7_record_12 : decode cX7_record 12 = .ok (.sipush 1620, 3) := by decide +kernel
theorem dX7_record_15 : decode cX7_record 15 = .ok (.if_icmp .ge 25, 3) := by decide +kernel
theorem dX7_record_18 : decode cX7_record 18 = .ok (.aload_n 0, 1) := by decide +kernel
theorem dX7_record_19 : decode cX7_record 19 = .ok (.getfield 13, 3) := by decide +kernel
theorem dX7_record_22 : decode cX7_record 22 = .ok (.iload_n 1, 1) := by decide +kernel
theorem dX7_record_23 : decode cX7_record 23 = .ok (.aload_n 0, 1) := by decide +kernel
theorem dX7_record_24 : decode cX7_record 24 = .ok (.getfield 13, 3) := by decide +kernel
theorem dX7_record_27 : decode cX7_record 27 = .ok (.iload_n 1, 1) := by decide +kernel
theorem dX7_record_28 : decode cX7_record 28 = .ok (.sipush 324, 3) := by decide +kernel
theorem dX7_record_31 : decode cX7_record 31 = .ok (.iadd, 1) := by decide +kernel
theorem dX7_record_32 : decode cX7_record 32 = .ok (.iaload, 1) := by decide +kernel
theorem dX7_record_33 : decode cX7_record 33 = .ok (.iastore, 1) := by decide +kernel
theorem dX7_record_34 : decode cX7_record 34 = .ok (.iinc 1 1, 3) := by decide +kernel
theorem dX7_record_37 : decode cX7_record 37 = .ok (.goto (-26), 3) := by decide +kernel
theorem dX7_record_40 : decode cX7_record 40 = .ok (.aload_n 0, 1) := by decide +kernel
theorem dX7_record_41 : decode cX7_record 41 = .ok (.dup, 1) := by decide +kernel
theorem dX7_record_42 : decode cX7_record 42 = .ok (.getfield 40, 3) := by decide +kernel
theorem dX7_record_45 : decode cX7_record 45 = .ok (.iconst 1, 1) := by decide +kernel
theorem dX7_record_46 : decode cX7_record 46 = .ok (.isub, 1) := by decide +kernel
theorem dX7_record_47 : decode cX7_record 47 = .ok (.putfield 40, 3) := by decide +kernel
theorem dX7_record_50 : decode cX7_record 50 = .ok (.aload_n 0, 1) := by decide +kernel
theorem dX7_record_51 : decode cX7_record 51 = .ok (.getfield 7, 3) := by decide +kernel
theorem dX7_record_54 : decode cX7_record 54 = .ok (.iconst 0, 1) := by decide +kernel
theorem dX7_record_55 : decode cX7_record 55 = .ok (.aload_n 0, 1) := by decide +kernel
theorem dX7_record_56 : decode cX7_record 56 = .ok (.getfield 13, 3) := by decide +kernel
theorem dX7_record_59 : decode cX7_record 59 = .ok (.aload_n 0, 1) := by decide +kernel
theorem dX7_record_60 : decode cX7_record 60 = .ok (.getfield 40, 3) := by decide +kernel
theorem dX7_record_63 : decode cX7_record 63 = .ok (.sipush 324, 3) := by decide +kernel
theorem dX7_record_66 : decode cX7_record 66 = .ok (.imul, 1) := by decide +kernel
theorem dX7_record_67 : decode cX7_record 67 = .ok (.invokestatic 44, 3) := by decide +kernel
theorem dX7_record_70 : decode cX7_record 70 = .ok (.aload_n 0, 1) := by decide +kernel
theorem dX7_record_71 : decode cX7_record 71 = .ok (.dup, 1) := by decide +kernel
theorem dX7_record_72 : decode cX7_record 72 = .ok (.getfield 40, 3) := by decide +kernel
theorem dX7_record_75 : decode cX7_record 75 = .ok (.iconst 1, 1) := by decide +kernel
theorem dX7_record_76 : decode cX7_record 76 = .ok (.iadd, 1) := by decide +kernel
theorem dX7_record_77 : decode cX7_record 77 = .ok (.putfield 40, 3) := by decide +kernel
theorem dX7_record_80 : decode cX7_record 80 = .ok (.return_, 1) := by decide +kernel
theorem dX7_isColumn_0 : decode cX7_isColumn 0 = .ok (.iload_n 0, 1) := by decide +kernel
theorem dX7_isColumn_1 : decode cX7_isColumn 1 = .ok (.iconst 0, 1) := by decide +kernel
theorem dX7_isColumn_2 : decode cX7_isColumn 2 = .ok (.iconst 3, 1) := by decide +kernel
theorem dX7_isColumn_3 : decode cX7_isColumn 3 = .ok (.invokestatic 48, 3) := by decide +kernel
theorem dX7_isColumn_6 : decode cX7_isColumn 6 = .ok (.ireturn, 1) := by decide +kernel
theorem dX7_isValue_0 : decode cX7_isValue 0 = .ok (.iload_n 0, 1) := by decide +kernel
theorem dX7_isValue_1 : decode cX7_isValue 1 = .ok (.iconst 0, 1) := by decide +kernel
theorem dX7_isValue_2 : decode cX7_isValue 2 = .ok (.bipush 9, 2) := by decide +kernel
theorem dX7_isValue_4 : decode cX7_isValue 4 = .ok (.invokestatic 48, 3) := by decide +kernel
theorem dX7_isValue_7 : decode cX7_isValue 7 = .ok (.ireturn, 1) := by decide +kernel
theorem dX7_runsOf_0 : decode cX7_runsOf 0 = .ok (.aload_n 0, 1) := by decide +kernel
theorem dX7_runsOf_1 : decode cX7_runsOf 1 = .ok (.getfield 7, 3) := by decide +kernel
theorem dX7_runsOf_4 : decode cX7_runsOf 4 = .ok (.bipush 81, 2) := by decide +kernel
theorem dX7_runsOf_6 : decode cX7_runsOf 6 = .ok (.iload_n 1, 1) := by decide +kernel
theorem dX7_runsOf_7 : decode cX7_runsOf 7 = .ok (.imul, 1) := by decide +kernel
theorem dX7_runsOf_8 : decode cX7_runsOf 8 = .ok (.iaload, 1) := by decide +kernel
theorem dX7_runsOf_9 : decode cX7_runsOf 9 = .ok (.ireturn, 1) := by decide +kernel
theorem dX7_valueOf_0 : decode cX7_valueOf 0 = .ok (.aload_n 0, 1) := by decide +kernel
theorem dX7_valueOf_1 : decode cX7_valueOf 1 = .ok (.getfield 7, 3) := by decide +kernel
theorem dX7_valueOf_4 : decode cX7_valueOf 4 = .ok (.bipush 81, 2) := by decide +kernel
theorem dX7_valueOf_6 : decode cX7_valueOf 6 = .ok (.iload_n 1, 1) := by decide +kernel
theorem dX7_valueOf_7 : decode cX7_valueOf 7 = .ok (.imul, 1) := by decide +kernel
theorem dX7_valueOf_8 : decode cX7_valueOf 8 = .ok (.iconst 1, 1) := by decide +kernel
theorem dX7_valueOf_9 : decode cX7_valueOf 9 = .ok (.iadd, 1) := by decide +kernel
theorem dX7_valueOf_10 : decode cX7_valueOf 10 = .ok (.iconst 2, 1) := by decide +kernel
theorem dX7_valueOf_11 : decode cX7_valueOf 11 = .ok (.iload_n 2, 1) := by decide +kernel
theorem dX7_valueOf_12 : decode cX7_valueOf 12 = .ok (.imul, 1) := by decide +kernel
theorem dX7_valueOf_13 : decode cX7_valueOf 13 = .ok (.iadd, 1) := by decide +kernel
theorem dX7_valueOf_14 : decode cX7_valueOf 14 = .ok (.iaload, 1) := by decide +kernel
theorem dX7_valueOf_15 : decode cX7_valueOf 15 = .ok (.ireturn, 1) := by decide +kernel
theorem dX7_lengthOf_0 : decode cX7_lengthOf 0 = .ok (.aload_n 0, 1) := by decide +kernel
theorem dX7_lengthOf_1 : decode cX7_lengthOf 1 = .ok (.getfield 7, 3) := by decide +kernel
theorem dX7_lengthOf_4 : decode cX7_lengthOf 4 = .ok (.bipush 81, 2) := by decide +kernel
theorem dX7_lengthOf_6 : decode cX7_lengthOf 6 = .ok (.iload_n 1, 1) := by decide +kernel
theorem dX7_lengthOf_7 : decode cX7_lengthOf 7 = .ok (.imul, 1) := by decide +kernel
theorem dX7_lengthOf_8 : decode cX7_lengthOf 8 = .ok (.iconst 2, 1) := by decide +kernel
theorem dX7_lengthOf_9 : decode cX7_lengthOf 9 = .ok (.iadd, 1) := by decide +kernel
theorem dX7_lengthOf_10 : decode cX7_lengthOf 10 = .ok (.iconst 2, 1) := by decide +kernel
theorem dX7_lengthOf_11 : decode cX7_lengthOf 11 = .ok (.iload_n 2, 1) := by decide +kernel
theorem dX7_lengthOf_12 : decode cX7_lengthOf 12 = .ok (.imul, 1) := by decide +kernel
theorem dX7_lengthOf_13 : decode cX7_lengthOf 13 = .ok (.iadd, 1) := by decide +kernel
theorem dX7_lengthOf_14 : decode cX7_lengthOf 14 = .ok (.iaload, 1) := by decide +kernel
theorem dX7_lengthOf_15 : decode cX7_lengthOf 15 = .ok (.ireturn, 1) := by decide +kernel
theorem dX7_rowsOf_0 : decode cX7_rowsOf 0 = .ok (.iconst 0, 1) := by decide +kernel
theorem dX7_rowsOf_1 : decode cX7_rowsOf 1 = .ok (.istore_n 2, 1) := by decide +kernel
theorem dX7_rowsOf_2 : decode cX7_rowsOf 2 = .ok (.iconst 0, 1) := by decide +kernel
theorem dX7_rowsOf_3 : decode cX7_rowsOf 3 = .ok (.istore_n 3, 1) := by decide +kernel
theorem dX7_rowsOf_4 : decode cX7_rowsOf 4 = .ok (.iload_n 3, 1) := by decide +kernel
theorem dX7_rowsOf_5 : decode cX7_rowsOf 5 = .ok (.aload_n 0, 1) := by decide +kernel
theorem dX7_rowsOf_6 : decode cX7_rowsOf 6 = .ok (.iload_n 1, 1) := by decide +kernel
theorem dX7_rowsOf_7 : decode cX7_rowsOf 7 = .ok (.invokevirtual 52, 3) := by decide +kernel
theorem dX7_rowsOf_10 : decode cX7_rowsOf 10 = .ok (.if_icmp .ge 18, 3) := by decide +kernel
theorem dX7_rowsOf_13 : decode cX7_rowsOf 13 = .ok (.iload_n 2, 1) := by decide +kernel
theorem dX7_rowsOf_14 : decode cX7_rowsOf 14 = .ok (.aload_n 0, 1) := by decide +kernel
theorem dX7_rowsOf_15 : decode cX7_rowsOf 15 = .ok (.iload_n 1, 1) := by decide +kernel
theorem dX7_rowsOf_16 : decode cX7_rowsOf 16 = .ok (.iload_n 3, 1) := by decide +kernel
theorem dX7_rowsOf_17 : decode cX7_rowsOf 17 = .ok (.invokevirtual 56, 3) := by decide +kernel
theorem dX7_rowsOf_20 : decode cX7_rowsOf 20 = .ok (.iadd, 1) := by decide +kernel
theorem dX7_rowsOf_21 : decode cX7_rowsOf 21 = .ok (.istore_n 2, 1) := by decide +kernel
theorem dX7_rowsOf_22 : decode cX7_rowsOf 22 = .ok (.iinc 3 1, 3) := by decide +kernel
theorem dX7_rowsOf_25 : decode cX7_rowsOf 25 = .ok (.goto (-21), 3) := by decide +kernel
theorem dX7_rowsOf_28 : decode cX7_rowsOf 28 = .ok (.iload_n 2, 1) := by decide +kernel
theorem dX7_rowsOf_29 : decode cX7_rowsOf 29 = .ok (.ireturn, 1) := by decide +kernel
theorem dX7_isRow_0 : decode cX7_isRow 0 = .ok (.iload_n 2, 1) := by decide +kernel
theorem dX7_isRow_1 : decode cX7_isRow 1 = .ok (.iconst 0, 1) := by decide +kernel
theorem dX7_isRow_2 : decode cX7_isRow 2 = .ok (.aload_n 0, 1) := by decide +kernel
theorem dX7_isRow_3 : decode cX7_isRow 3 = .ok (.iload_n 1, 1) := by decide +kernel
theorem dX7_isRow_4 : decode cX7_isRow 4 = .ok (.invokevirtual 60, 3) := by decide +kernel
theorem dX7_isRow_7 : decode cX7_isRow 7 = .ok (.iconst 1, 1) := by decide +kernel
theorem dX7_isRow_8 : decode cX7_isRow 8 = .ok (.isub, 1) := by decide +kernel
theorem dX7_isRow_9 : decode cX7_isRow 9 = .ok (.invokestatic 48, 3) := by decide +kernel
theorem dX7_isRow_12 : decode cX7_isRow 12 = .ok (.ireturn, 1) := by decide +kernel
theorem dX7_layOut_0 : decode cX7_layOut 0 = .ok (.aload_n 0, 1) := by decide +kernel
theorem dX7_layOut_1 : decode cX7_layOut 1 = .ok (.iconst 0, 1) := by decide +kernel
theorem dX7_layOut_2 : decode cX7_layOut 2 = .ok (.putfield 63, 3) := by decide +kernel
theorem dX7_layOut_5 : decode cX7_layOut 5 = .ok (.iconst 0, 1) := by decide +kernel
theorem dX7_layOut_6 : decode cX7_layOut 6 = .ok (.istore_n 2, 1) := by decide +kernel
theorem dX7_layOut_7 : decode cX7_layOut 7 = .ok (.iload_n 2, 1) := by decide +kernel
theorem dX7_layOut_8 : decode cX7_layOut 8 = .ok (.aload_n 0, 1) := by decide +kernel
theorem dX7_layOut_9 : decode cX7_layOut 9 = .ok (.iload_n 1, 1) := by decide +kernel
theorem dX7_layOut_10 : decode cX7_layOut 10 = .ok (.invokevirtual 52, 3) := by decide +kernel
theorem dX7_layOut_13 : decode cX7_layOut 13 = .ok (.if_icmp .ge 52, 3) := by decide +kernel
theorem dX7_layOut_16 : decode cX7_layOut 16 = .ok (.iconst 0, 1) := by decide +kernel
theorem dX7_layOut_17 : decode cX7_layOut 17 = .ok (.istore_n 3, 1) := by decide +kernel
theorem dX7_layOut_18 : decode cX7_layOut 18 = .ok (.iload_n 3, 1) := by decide +kernel
theorem dX7_layOut_19 : decode cX7_layOut 19 = .ok (.aload_n 0, 1) := by decide +kernel
theorem dX7_layOut_20 : decode cX7_layOut 20 = .ok (.iload_n 1, 1) := by decide +kernel
theorem dX7_layOut_21 : decode cX7_layOut 21 = .ok (.iload_n 2, 1) := by decide +kernel
theorem dX7_layOut_22 : decode cX7_layOut 22 = .ok (.invokevirtual 56, 3) := by decide +kernel
theorem dX7_layOut_25 : decode cX7_layOut 25 = .ok (.if_icmp .ge 34, 3) := by decide +kernel
theorem dX7_layOut_28 : decode cX7_layOut 28 = .ok (.aload_n 0, 1) := by decide +kernel
theorem dX7_layOut_29 : decode cX7_layOut 29 = .ok (.getfield 25, 3) := by decide +kernel
theorem dX7_layOut_32 : decode cX7_layOut 32 = .ok (.aload_n 0, 1) := by decide +kernel
theorem dX7_layOut_33 : decode cX7_layOut 33 = .ok (.getfield 63, 3) := by decide +kernel
theorem dX7_layOut_36 : decode cX7_layOut 36 = .ok (.aload_n 0, 1) := by decide +kernel
theorem dX7_layOut_37 : decode cX7_layOut 37 = .ok (.iload_n 1, 1) := by decide +kernel
theorem dX7_layOut_38 : decode cX7_layOut 38 = .ok (.iload_n 2, 1) := by decide +kernel
theorem dX7_layOut_39 : decode cX7_layOut 39 = .ok (.invokevirtual 66, 3) := by decide +kernel
theorem dX7_layOut_42 : decode cX7_layOut 42 = .ok (.iastore, 1) := by decide +kernel
theorem dX7_layOut_43 : decode cX7_layOut 43 = .ok (.aload_n 0, 1) := by decide +kernel
theorem dX7_layOut_44 : decode cX7_layOut 44 = .ok (.dup, 1) := by decide +kernel
theorem dX7_layOut_45 : decode cX7_layOut 45 = .ok (.getfield 63, 3) := by decide +kernel
theorem dX7_layOut_48 : decode cX7_layOut 48 = .ok (.iconst 1, 1) := by decide +kernel
theorem dX7_layOut_49 : decode cX7_layOut 49 = .ok (.iadd, 1) := by decide +kernel
theorem dX7_layOut_50 : decode cX7_layOut 50 = .ok (.putfield 63, 3) := by decide +kernel
theorem dX7_layOut_53 : decode cX7_layOut 53 = .ok (.iinc 3 1, 3) := by decide +kernel
theorem dX7_layOut_56 : decode cX7_layOut 56 = .ok (.goto (-38), 3) := by decide +kernel
theorem dX7_layOut_59 : decode cX7_layOut 59 = .ok (.iinc 2 1, 3) := by decide +kernel
theorem dX7_layOut_62 : decode cX7_layOut 62 = .ok (.goto (-55), 3) := by decide +kernel
theorem dX7_layOut_65 : decode cX7_layOut 65 = .ok (.return_, 1) := by decide +kernel
theorem dX7_layOutOther_0 : decode cX7_layOutOther 0 = .ok (.aload_n 0, 1) := by decide +kernel
theorem dX7_layOutOther_1 : decode cX7_layOutOther 1 = .ok (.iconst 0, 1) := by decide +kernel
theorem dX7_layOutOther_2 : decode cX7_layOutOther 2 = .ok (.putfield 69, 3) := by decide +kernel
theorem dX7_layOutOther_5 : decode cX7_layOutOther 5 = .ok (.iconst 0, 1) := by decide +kernel
theorem dX7_layOutOther_6 : decode cX7_layOutOther 6 = .ok (.istore_n 2, 1) := by decide +kernel
theorem dX7_layOutOther_7 : decode cX7_layOutOther 7 = .ok (.iload_n 2, 1) := by decide +kernel
theorem dX7_layOutOther_8 : decode cX7_layOutOther 8 = .ok (.aload_n 0, 1) := by decide +kernel
theorem dX7_layOutOther_9 : decode cX7_layOutOther 9 = .ok (.iload_n 1, 1) := by decide +kernel
theorem dX7_layOutOther_10 : decode cX7_layOutOther 10 = .ok (.invokevirtual 52, 3) := by decide +kernel
theorem dX7_layOutOther_13 : decode cX7_layOutOther 13 = .ok (.if_icmp .ge 52, 3) := by decide +kernel
theorem dX7_layOutOther_16 : decode cX7_layOutOther 16 = .ok (.iconst 0, 1) := by decide +kernel
theorem dX7_layOutOther_17 : decode cX7_layOutOther 17 = .ok (.istore_n 3, 1) := by decide +kernel
theorem dX7_layOutOther_18 : decode cX7_layOutOther 18 = .ok (.iload_n 3, 1) := by decide +kernel
theorem dX7_layOutOther_19 : decode cX7_layOutOther 19 = .ok (.aload_n 0, 1) := by decide +kernel
theorem dX7_layOutOther_20 : decode cX7_layOutOther 20 = .ok (.iload_n 1, 1) := by decide +kernel
theorem dX7_layOutOther_21 : decode cX7_layOutOther 21 = .ok (.iload_n 2, 1) := by decide +kernel
theorem dX7_layOutOther_22 : decode cX7_layOutOther 22 = .ok (.invokevirtual 56, 3) := by decide +kernel
theorem dX7_layOutOther_25 : decode cX7_layOutOther 25 = .ok (.if_icmp .ge 34, 3) := by decide +kernel
theorem dX7_layOutOther_28 : decode cX7_layOutOther 28 = .ok (.aload_n 0, 1) := by decide +kernel
theorem dX7_layOutOther_29 : decode cX7_layOutOther 29 = .ok (.getfield 28, 3) := by decide +kernel
theorem dX7_layOutOther_32 : decode cX7_layOutOther 32 = .ok (.aload_n 0, 1) := by decide +kernel
theorem dX7_layOutOther_33 : decode cX7_layOutOther 33 = .ok (.getfield 69, 3) := by decide +kernel
theorem dX7_layOutOther_36 : decode cX7_layOutOther 36 = .ok (.aload_n 0, 1) := by decide +kernel
theorem dX7_layOutOther_37 : decode cX7_layOutOther 37 = .ok (.iload_n 1, 1) := by decide +kernel
theorem dX7_layOutOther_38 : decode cX7_layOutOther 38 = .ok (.iload_n 2, 1) := by decide +kernel
theorem dX7_layOutOther_39 : decode cX7_layOutOther 39 = .ok (.invokevirtual 66, 3) := by decide +kernel
theorem dX7_layOutOther_42 : decode cX7_layOutOther 42 = .ok (.iastore, 1) := by decide +kernel
theorem dX7_layOutOther_43 : decode cX7_layOutOther 43 = .ok (.aload_n 0, 1) := by decide +kernel
theorem dX7_layOutOther_44 : decode cX7_layOutOther 44 = .ok (.dup, 1) := by decide +kernel
theorem dX7_layOutOther_45 : decode cX7_layOutOther 45 = .ok (.getfield 69, 3) := by decide +kernel
theorem dX7_layOutOther_48 : decode cX7_layOutOther 48 = .ok (.iconst 1, 1) := by decide +kernel
theorem dX7_layOutOther_49 : decode cX7_layOutOther 49 = .ok (.iadd, 1) := by decide +kernel
theorem dX7_layOutOther_50 : decode cX7_layOutOther 50 = .ok (.putfield 69, 3) := by decide +kernel
theorem dX7_layOutOther_53 : decode cX7_layOutOther 53 = .ok (.iinc 3 1, 3) := by decide +kernel
theorem dX7_layOutOther_56 : decode cX7_layOutOther 56 = .ok (.goto (-38), 3) := by decide +kernel
theorem dX7_layOutOther_59 : decode cX7_layOutOther 59 = .ok (.iinc 2 1, 3) := by decide +kernel
theorem dX7_layOutOther_62 : decode cX7_layOutOther 62 = .ok (.goto (-55), 3) := by decide +kernel
theorem dX7_layOutOther_65 : decode cX7_layOutOther 65 = .ok (.return_, 1) := by decide +kernel
theorem dX7_runsLaid_0 : decode cX7_runsLaid 0 = .ok (.iconst 0, 1) := by decide +kernel
theorem dX7_runsLaid_1 : decode cX7_runsLaid 1 = .ok (.istore_n 1, 1) := by decide +kernel
theorem dX7_runsLaid_2 : decode cX7_runsLaid 2 = .ok (.iconst 0, 1) := by decide +kernel
theorem dX7_runsLaid_3 : decode cX7_runsLaid 3 = .ok (.istore_n 2, 1) := by decide +kernel
theorem dX7_runsLaid_4 : decode cX7_runsLaid 4 = .ok (.iload_n 2, 1) := by decide +kernel
theorem dX7_runsLaid_5 : decode cX7_runsLaid 5 = .ok (.aload_n 0, 1) := by decide +kernel
theorem dX7_runsLaid_6 : decode cX7_runsLaid 6 = .ok (.getfield 63, 3) := by decide +kernel
theorem dX7_runsLaid_9 : decode cX7_runsLaid 9 = .ok (.if_icmp .ge 38, 3) := by decide +kernel
theorem dX7_runsLaid_12 : decode cX7_runsLaid 12 = .ok (.iload_n 1, 1) := by decide +kernel
theorem dX7_runsLaid_13 : decode cX7_runsLaid 13 = .ok (.iload_n 2, 1) := by decide +kernel
theorem dX7_runsLaid_14 : decode cX7_runsLaid 14 = .ok (.ifCond .eq 20, 3) := by decide +kernel
theorem dX7_runsLaid_17 : decode cX7_runsLaid 17 = .ok (.aload_n 0, 1) := by decide +kernel
theorem dX7_runsLaid_18 : decode cX7_runsLaid 18 = .ok (.getfield 25, 3) := by decide +kernel
theorem dX7_runsLaid_21 : decode cX7_runsLaid 21 = .ok (.iload_n 2, 1) := by decide +kernel
theorem dX7_runsLaid_22 : decode cX7_runsLaid 22 = .ok (.iaload, 1) := by decide +kernel
theorem dX7_runsLaid_23 : decode cX7_runsLaid 23 = .ok (.aload_n 0, 1) := by decide +kernel
theorem dX7_runsLaid_24 : decode cX7_runsLaid 24 = .ok (.getfield 25, 3) := by decide +kernel
theorem dX7_runsLaid_27 : decode cX7_runsLaid 27 = .ok (.iload_n 2, 1) := by decide +kernel
theorem dX7_runsLaid_28 : decode cX7_runsLaid 28 = .ok (.iconst 1, 1) := by decide +kernel
theorem dX7_runsLaid_29 : decode cX7_runsLaid 29 = .ok (.isub, 1) := by decide +kernel
theorem dX7_runsLaid_30 : decode cX7_runsLaid 30 = .ok (.iaload, 1) := by decide +kernel
theorem dX7_runsLaid_31 : decode cX7_runsLaid 31 = .ok (.if_icmp .eq 7, 3) := by decide +kernel
theorem dX7_runsLaid_34 : decode cX7_runsLaid 34 = .ok (.iconst 1, 1) := by decide +kernel
theorem dX7_runsLaid_35 : decode cX7_runsLaid 35 = .ok (.goto 4, 3) := by decide +kernel
theorem dX7_runsLaid_38 : decode cX7_runsLaid 38 = .ok (.iconst 0, 1) := by decide +kernel
theorem dX7_runsLaid_39 : decode cX7_runsLaid 39 = .ok (.iadd, 1) := by decide +kernel
theorem dX7_runsLaid_40 : decode cX7_runsLaid 40 = .ok (.istore_n 1, 1) := by decide +kernel
theorem dX7_runsLaid_41 : decode cX7_runsLaid 41 = .ok (.iinc 2 1, 3) := by decide +kernel
theorem dX7_runsLaid_44 : decode cX7_runsLaid 44 = .ok (.goto (-40), 3) := by decide +kernel
theorem dX7_runsLaid_47 : decode cX7_runsLaid 47 = .ok (.iload_n 1, 1) := by decide +kernel
theorem dX7_runsLaid_48 : decode cX7_runsLaid 48 = .ok (.ireturn, 1) := by decide +kernel
theorem dX7_isTooMany_0 : decode cX7_isTooMany 0 = .ok (.aload_n 0, 1) := by decide +kernel
theorem dX7_isTooMany_1 : decode cX7_isTooMany 1 = .ok (.getfield 63, 3) := by decide +kernel
theorem dX7_isTooMany_4 : decode cX7_isTooMany 4 = .ok (.sipush 999, 3) := by decide +kernel
theorem dX7_isTooMany_7 : decode cX7_isTooMany 7 = .ok (.if_icmp .gt 12, 3) := by decide +kernel
theorem dX7_isTooMany_10 : decode cX7_isTooMany 10 = .ok (.aload_n 0, 1) := by decide +kernel
theorem dX7_isTooMany_11 : decode cX7_isTooMany 11 = .ok (.invokevirtual 72, 3) := by decide +kernel
theorem dX7_isTooMany_14 : decode cX7_isTooMany 14 = .ok (.bipush 40, 2) := by decide +kernel
theorem dX7_isTooMany_16 : decode cX7_isTooMany 16 = .ok (.if_icmp .le 7, 3) := by decide +kernel
theorem dX7_isTooMany_19 : decode cX7_isTooMany 19 = .ok (.iconst 1, 1) := by decide +kernel
theorem dX7_isTooMany_20 : decode cX7_isTooMany 20 = .ok (.goto 4, 3) := by decide +kernel
theorem dX7_isTooMany_23 : decode cX7_isTooMany 23 = .ok (.iconst 0, 1) := by decide +kernel
theorem dX7_isTooMany_24 : decode cX7_isTooMany 24 = .ok (.ireturn, 1) := by decide +kernel
theorem dX7_gets_0 : decode cX7_gets 0 = .ok (.iconst 0, 1) := by decide +kernel
theorem dX7_gets_1 : decode cX7_gets 1 = .ok (.istore_n 2, 1) := by decide +kernel
theorem dX7_gets_2 : decode cX7_gets 2 = .ok (.iconst 0, 1) := by decide +kernel
theorem dX7_gets_3 : decode cX7_gets 3 = .ok (.istore_n 3, 1) := by decide +kernel
theorem dX7_gets_4 : decode cX7_gets 4 = .ok (.iload_n 3, 1) := by decide +kernel
theorem dX7_gets_5 : decode cX7_gets 5 = .ok (.bipush 81, 2) := by decide +kernel
theorem dX7_gets_7 : decode cX7_gets 7 = .ok (.if_icmp .ge 21, 3) := by decide +kernel
theorem dX7_gets_10 : decode cX7_gets 10 = .ok (.aload_n 0, 1) := by decide +kernel
theorem dX7_gets_11 : decode cX7_gets 11 = .ok (.getfield 7, 3) := by decide +kernel
theorem dX7_gets_14 : decode cX7_gets 14 = .ok (.bipush 81, 2) := by decide +kernel
theorem dX7_gets_16 : decode cX7_gets 16 = .ok (.iload_n 1, 1) := by decide +kernel
theorem dX7_gets_17 : decode cX7_gets 17 = .ok (.imul, 1) := by decide +kernel
theorem dX7_gets_18 : decode cX7_gets 18 = .ok (.iload_n 3, 1) := by decide +kernel
theorem dX7_gets_19 : decode cX7_gets 19 = .ok (.iadd, 1) := by decide +kernel
theorem dX7_gets_20 : decode cX7_gets 20 = .ok (.iconst 0, 1) := by decide +kernel
theorem dX7_gets_21 : decode cX7_gets 21 = .ok (.iastore, 1) := by decide +kernel
theorem dX7_gets_22 : decode cX7_gets 22 = .ok (.iinc 3 1, 3) := by decide +kernel
theorem dX7_gets_25 : decode cX7_gets 25 = .ok (.goto (-21), 3) := by decide +kernel
theorem dX7_gets_28 : decode cX7_gets 28 = .ok (.iconst 0, 1) := by decide +kernel
theorem dX7_gets_29 : decode cX7_gets 29 = .ok (.istore_n 3, 1) := by decide +kernel
theorem dX7_gets_30 : decode cX7_gets 30 = .ok (.iload_n 3, 1) := by decide +kernel
theorem dX7_gets_31 : decode cX7_gets 31 = .ok (.aload_n 0, 1) := by decide +kernel
theorem dX7_gets_32 : decode cX7_gets 32 = .ok (.getfield 63, 3) := by decide +kernel
theorem dX7_gets_35 : decode cX7_gets 35 = .ok (.if_icmp .ge 76, 3) := by decide +kernel
theorem dX7_gets_38 : decode cX7_gets 38 = .ok (.iload_n 2, 1) := by decide +kernel
theorem dX7_gets_39 : decode cX7_gets 39 = .ok (.iload_n 3, 1) := by decide +kernel
theorem dX7_gets_40 : decode cX7_gets 40 = .ok (.ifCond .eq 20, 3) := by decide +kernel
theorem dX7_gets_43 : decode cX7_gets 43 = .ok (.aload_n 0, 1) := by decide +kernel
theorem dX7_gets_44 : decode cX7_gets 44 = .ok (.getfield 25, 3) := by decide +kernel
theorem dX7_gets_47 : decode cX7_gets 47 = .ok (.iload_n 3, 1) := by decide +kernel
theorem dX7_gets_48 : decode cX7_gets 48 = .ok (.iaload, 1) := by decide +kernel
theorem dX7_gets_49 : decode cX7_gets 49 = .ok (.aload_n 0, 1) := by decide +kernel
theorem dX7_gets_50 : decode cX7_gets 50 = .ok (.getfield 25, 3) := by decide +kernel
theorem dX7_gets_53 : decode cX7_gets 53 = .ok (.iload_n 3, 1) := by decide +kernel
theorem dX7_gets_54 : decode cX7_gets 54 = .ok (.iconst 1, 1) := by decide +kernel
theorem dX7_gets_55 : decode cX7_gets 55 = .ok (.isub, 1) := by decide +kernel
theorem dX7_gets_56 : decode cX7_gets 56 = .ok (.iaload, 1) := by decide +kernel
theorem dX7_gets_57 : decode cX7_gets 57 = .ok (.if_icmp .eq 7, 3) := by decide +kernel
theorem dX7_gets_60 : decode cX7_gets 60 = .ok (.iconst 1, 1) := by decide +kernel
theorem dX7_gets_61 : decode cX7_gets 61 = .ok (.goto 4, 3) := by decide +kernel
theorem dX7_gets_64 : decode cX7_gets 64 = .ok (.iconst 0, 1) := by decide +kernel
theorem dX7_gets_65 : decode cX7_gets 65 = .ok (.iadd, 1) := by decide +kernel
theorem dX7_gets_66 : decode cX7_gets 66 = .ok (.istore_n 2, 1) := by decide +kernel
theorem dX7_gets_67 : decode cX7_gets 67 = .ok (.aload_n 0, 1) := by decide +kernel
theorem dX7_gets_68 : decode cX7_gets 68 = .ok (.getfield 7, 3) := by decide +kernel
theorem dX7_gets_71 : decode cX7_gets 71 = .ok (.bipush 81, 2) := by decide +kernel
theorem dX7_gets_73 : decode cX7_gets 73 = .ok (.iload_n 1, 1) := by decide +kernel
theorem dX7_gets_74 : decode cX7_gets 74 = .ok (.imul, 1) := by decide +kernel
theorem dX7_gets_75 : decode cX7_gets 75 = .ok (.iconst 2, 1) := by decide +kernel
theorem dX7_gets_76 : decode cX7_gets 76 = .ok (.iload_n 2, 1) := by decide +kernel
theorem dX7_gets_77 : decode cX7_gets 77 = .ok (.imul, 1) := by decide +kernel
theorem dX7_gets_78 : decode cX7_gets 78 = .ok (.iadd, 1) := by decide +kernel
theorem dX7_gets_79 : decode cX7_gets 79 = .ok (.iconst 1, 1) := by decide +kernel
theorem dX7_gets_80 : decode cX7_gets 80 = .ok (.isub, 1) := by decide +kernel
theorem dX7_gets_81 : decode cX7_gets 81 = .ok (.aload_n 0, 1) := by decide +kernel
theorem dX7_gets_82 : decode cX7_gets 82 = .ok (.getfield 25, 3) := by decide +kernel
theorem dX7_gets_85 : decode cX7_gets 85 = .ok (.iload_n 3, 1) := by decide +kernel
theorem dX7_gets_86 : decode cX7_gets 86 = .ok (.iaload, 1) := by decide +kernel
theorem dX7_gets_87 : decode cX7_gets 87 = .ok (.iastore, 1) := by decide +kernel
theorem dX7_gets_88 : decode cX7_gets 88 = .ok (.aload_n 0, 1) := by decide +kernel
theorem dX7_gets_89 : decode cX7_gets 89 = .ok (.getfield 7, 3) := by decide +kernel
theorem dX7_gets_92 : decode cX7_gets 92 = .ok (.bipush 81, 2) := by decide +kernel
theorem dX7_gets_94 : decode cX7_gets 94 = .ok (.iload_n 1, 1) := by decide +kernel
theorem dX7_gets_95 : decode cX7_gets 95 = .ok (.imul, 1) := by decide +kernel
theorem dX7_gets_96 : decode cX7_gets 96 = .ok (.iconst 2, 1) := by decide +kernel
theorem dX7_gets_97 : decode cX7_gets 97 = .ok (.iload_n 2, 1) := by decide +kernel
theorem dX7_gets_98 : decode cX7_gets 98 = .ok (.imul, 1) := by decide +kernel
theorem dX7_gets_99 : decode cX7_gets 99 = .ok (.iadd, 1) := by decide +kernel
theorem dX7_gets_100 : decode cX7_gets 100 = .ok (.dup2, 1) := by decide +kernel
theorem dX7_gets_101 : decode cX7_gets 101 = .ok (.iaload, 1) := by decide +kernel
theorem dX7_gets_102 : decode cX7_gets 102 = .ok (.iconst 1, 1) := by decide +kernel
theorem dX7_gets_103 : decode cX7_gets 103 = .ok (.iadd, 1) := by decide +kernel
theorem dX7_gets_104 : decode cX7_gets 104 = .ok (.iastore, 1) := by decide +kernel
theorem dX7_gets_105 : decode cX7_gets 105 = .ok (.iinc 3 1, 3) := by decide +kernel
theorem dX7_gets_108 : decode cX7_gets 108 = .ok (.goto (-78), 3) := by decide +kernel
theorem dX7_gets_111 : decode cX7_gets 111 = .ok (.aload_n 0, 1) := by decide +kernel
theorem dX7_gets_112 : decode cX7_gets 112 = .ok (.getfield 7, 3) := by decide +kernel
theorem dX7_gets_115 : decode cX7_gets 115 = .ok (.bipush 81, 2) := by decide +kernel
theorem dX7_gets_117 : decode cX7_gets 117 = .ok (.iload_n 1, 1) := by decide +kernel
theorem dX7_gets_118 : decode cX7_gets 118 = .ok (.imul, 1) := by decide +kernel
theorem dX7_gets_119 : decode cX7_gets 119 = .ok (.iload_n 2, 1) := by decide +kernel
theorem dX7_gets_120 : decode cX7_gets 120 = .ok (.iastore, 1) := by decide +kernel
theorem dX7_gets_121 : decode cX7_gets 121 = .ok (.return_, 1) := by decide +kernel
theorem dX7_putIn_0 : decode cX7_putIn 0 = .ok (.aload_n 0, 1) := by decide +kernel
theorem dX7_putIn_1 : decode cX7_putIn 1 = .ok (.getfield 63, 3) := by decide +kernel
theorem dX7_putIn_4 : decode cX7_putIn 4 = .ok (.iconst 1, 1) := by decide +kernel
theorem dX7_putIn_5 : decode cX7_putIn 5 = .ok (.isub, 1) := by decide +kernel
theorem dX7_putIn_6 : decode cX7_putIn 6 = .ok (.istore 4, 2) := by decide +kernel
theorem dX7_putIn_8 : decode cX7_putIn 8 = .ok (.iload 4, 2) := by decide +kernel
theorem dX7_putIn_10 : decode cX7_putIn 10 = .ok (.iload_n 1, 1) := by decide +kernel
theorem dX7_putIn_11 : decode cX7_putIn 11 = .ok (.if_icmp .lt 25, 3) := by decide +kernel
theorem dX7_putIn_14 : decode cX7_putIn 14 = .ok (.aload_n 0, 1) := by decide +kernel
theorem dX7_putIn_15 : decode cX7_putIn 15 = .ok (.getfield 25, 3) := by decide +kernel
theorem dX7_putIn_18 : decode cX7_putIn 18 = .ok (.iload 4, 2) := by decide +kernel
theorem dX7_putIn_20 : decode cX7_putIn 20 = .ok (.iload_n 3, 1) := by decide +kernel
theorem dX7_putIn_21 : decode cX7_putIn 21 = .ok (.iadd, 1) := by decide +kernel
theorem dX7_putIn_22 : decode cX7_putIn 22 = .ok (.aload_n 0, 1) := by decide +kernel
theorem dX7_putIn_23 : decode cX7_putIn 23 = .ok (.getfield 25, 3) := by decide +kernel
theorem dX7_putIn_26 : decode cX7_putIn 26 = .ok (.iload 4, 2) := by decide +kernel
theorem dX7_putIn_28 : decode cX7_putIn 28 = .ok (.iaload, 1) := by decide +kernel
theorem dX7_putIn_29 : decode cX7_putIn 29 = .ok (.iastore, 1) := by decide +kernel
theorem dX7_putIn_30 : decode cX7_putIn 30 = .ok (.iinc 4 (-1), 3) := by decide +kernel
theorem dX7_putIn_33 : decode cX7_putIn 33 = .ok (.goto (-25), 3) := by decide +kernel
theorem dX7_putIn_36 : decode cX7_putIn 36 = .ok (.iconst 0, 1) := by decide +kernel
theorem dX7_putIn_37 : decode cX7_putIn 37 = .ok (.istore 4, 2) := by decide +kernel
theorem dX7_putIn_39 : decode cX7_putIn 39 = .ok (.iload 4, 2) := by decide +kernel
theorem dX7_putIn_41 : decode cX7_putIn 41 = .ok (.iload_n 3, 1) := by decide +kernel
theorem dX7_putIn_42 : decode cX7_putIn 42 = .ok (.if_icmp .ge 19, 3) := by decide +kernel
theorem dX7_putIn_45 : decode cX7_putIn 45 = .ok (.aload_n 0, 1) := by decide +kernel
theorem dX7_putIn_46 : decode cX7_putIn 46 = .ok (.getfield 25, 3) := by decide +kernel
theorem dX7_putIn_49 : decode cX7_putIn 49 = .ok (.iload_n 1, 1) := by decide +kernel
theorem dX7_putIn_50 : decode cX7_putIn 50 = .ok (.iload 4, 2) := by decide +kernel
theorem dX7_putIn_52 : decode cX7_putIn 52 = .ok (.iadd, 1) := by decide +kernel
theorem dX7_putIn_53 : decode cX7_putIn 53 = .ok (.iload_n 2, 1) := by decide +kernel
theorem dX7_putIn_54 : decode cX7_putIn 54 = .ok (.iastore, 1) := by decide +kernel
theorem dX7_putIn_55 : decode cX7_putIn 55 = .ok (.iinc 4 1, 3) := by decide +kernel
theorem dX7_putIn_58 : decode cX7_putIn 58 = .ok (.goto (-19), 3) := by decide +kernel
theorem dX7_putIn_61 : decode cX7_putIn 61 = .ok (.aload_n 0, 1) := by decide +kernel
theorem dX7_putIn_62 : decode cX7_putIn 62 = .ok (.dup, 1) := by decide +kernel
theorem dX7_putIn_63 : decode cX7_putIn 63 = .ok (.getfield 63, 3) := by decide +kernel
theorem dX7_putIn_66 : decode cX7_putIn 66 = .ok (.iload_n 3, 1) := by decide +kernel
theorem dX7_putIn_67 : decode cX7_putIn 67 = .ok (.iadd, 1) := by decide +kernel
theorem dX7_putIn_68 : decode cX7_putIn 68 = .ok (.putfield 63, 3) := by decide +kernel
theorem dX7_putIn_71 : decode cX7_putIn 71 = .ok (.return_, 1) := by decide +kernel
theorem dX7_append_0 : decode cX7_append 0 = .ok (.iload_n 1, 1) := by decide +kernel
theorem dX7_append_1 : decode cX7_append 1 = .ok (.invokestatic 76, 3) := by decide +kernel
theorem dX7_append_4 : decode cX7_append 4 = .ok (.ifCond .ne 5, 3) := by decide +kernel
theorem dX7_append_7 : decode cX7_append 7 = .ok (.iconst (-1), 1) := by decide +kernel
theorem dX7_append_8 : decode cX7_append 8 = .ok (.ireturn, 1) := by decide +kernel
theorem dX7_append_9 : decode cX7_append 9 = .ok (.iload_n 2, 1) := by decide +kernel
theorem dX7_append_10 : decode cX7_append 10 = .ok (.invokestatic 80, 3) := by decide +kernel
theorem dX7_append_13 : decode cX7_append 13 = .ok (.ifCond .eq 14, 3) := by decide +kernel
theorem dX7_append_16 : decode cX7_append 16 = .ok (.iload_n 3, 1) := by decide +kernel
theorem dX7_append_17 : decode cX7_append 17 = .ok (.iconst 1, 1) := by decide +kernel
theorem dX7_append_18 : decode cX7_append 18 = .ok (.sipush 999, 3) := by decide +kernel
theorem dX7_append_21 : decode cX7_append 21 = .ok (.invokestatic 48, 3) := by decide +kernel
theorem dX7_append_24 : decode cX7_append 24 = .ok (.ifCond .ne 6, 3) := by decide +kernel
theorem dX7_append_27 : decode cX7_append 27 = .ok (.bipush (-2), 2) := by decide +kernel
theorem dX7_append_29 : decode cX7_append 29 = .ok (.ireturn, 1) := by decide +kernel
theorem dX7_append_30 : decode cX7_append 30 = .ok (.aload_n 0, 1) := by decide +kernel
theorem dX7_append_31 : decode cX7_append 31 = .ok (.iload_n 1, 1) := by decide +kernel
theorem dX7_append_32 : decode cX7_append 32 = .ok (.invokevirtual 83, 3) := by decide +kernel
theorem dX7_append_35 : decode cX7_append 35 = .ok (.aload_n 0, 1) := by decide +kernel
theorem dX7_append_36 : decode cX7_append 36 = .ok (.aload_n 0, 1) := by decide +kernel
theorem dX7_append_37 : decode cX7_append 37 = .ok (.getfield 63, 3) := by decide +kernel
theorem dX7_append_40 : decode cX7_append 40 = .ok (.iload_n 2, 1) := by decide +kernel
theorem dX7_append_41 : decode cX7_append 41 = .ok (.iload_n 3, 1) := by decide +kernel
theorem dX7_append_42 : decode cX7_append 42 = .ok (.invokevirtual 87, 3) := by decide +kernel
theorem dX7_append_45 : decode cX7_append 45 = .ok (.aload_n 0, 1) := by decide +kernel
theorem dX7_append_46 : decode cX7_append 46 = .ok (.invokevirtual 91, 3) := by decide +kernel
theorem dX7_append_49 : decode cX7_append 49 = .ok (.ifCond .eq 6, 3) := by decide +kernel
theorem dX7_append_52 : decode cX7_append 52 = .ok (.bipush (-4), 2) := by decide +kernel
theorem dX7_append_54 : decode cX7_append 54 = .ok (.ireturn, 1) := by decide +kernel
theorem dX7_append_55 : decode cX7_append 55 = .ok (.aload_n 0, 1) := by decide +kernel
theorem dX7_append_56 : decode cX7_append 56 = .ok (.invokevirtual 95, 3) := by decide +kernel
theorem dX7_append_59 : decode cX7_append 59 = .ok (.aload_n 0, 1) := by decide +kernel
theorem dX7_append_60 : decode cX7_append 60 = .ok (.iload_n 1, 1) := by decide +kernel
theorem dX7_append_61 : decode cX7_append 61 = .ok (.invokevirtual 98, 3) := by decide +kernel
theorem dX7_append_64 : decode cX7_append 64 = .ok (.aload_n 0, 1) := by decide +kernel
theorem dX7_append_65 : decode cX7_append 65 = .ok (.getfield 63, 3) := by decide +kernel
theorem dX7_append_68 : decode cX7_append 68 = .ok (.ireturn, 1) := by decide +kernel
theorem dX7_insert_0 : decode cX7_insert 0 = .ok (.iload_n 1, 1) := by decide +kernel
theorem dX7_insert_1 : decode cX7_insert 1 = .ok (.invokestatic 76, 3) := by decide +kernel
theorem dX7_insert_4 : decode cX7_insert 4 = .ok (.ifCond .ne 5, 3) := by decide +kernel
theorem dX7_insert_7 : decode cX7_insert 7 = .ok (.iconst (-1), 1) := by decide +kernel
theorem dX7_insert_8 : decode cX7_insert 8 = .ok (.ireturn, 1) := by decide +kernel
theorem dX7_insert_9 : decode cX7_insert 9 = .ok (.iload_n 2, 1) := by decide +kernel
theorem dX7_insert_10 : decode cX7_insert 10 = .ok (.iconst 0, 1) := by decide +kernel
theorem dX7_insert_11 : decode cX7_insert 11 = .ok (.aload_n 0, 1) := by decide +kernel
theorem dX7_insert_12 : decode cX7_insert 12 = .ok (.iload_n 1, 1) := by decide +kernel
theorem dX7_insert_13 : decode cX7_insert 13 = .ok (.invokevirtual 60, 3) := by decide +kernel
theorem dX7_insert_16 : decode cX7_insert 16 = .ok (.invokestatic 48, 3) := by decide +kernel
theorem dX7_insert_19 : decode cX7_insert 19 = .ok (.ifCond .eq 22, 3) := by decide +kernel
theorem dX7_insert_22 : decode cX7_insert 22 = .ok (.iload_n 3, 1) := by decide +kernel
theorem dX7_insert_23 : decode cX7_insert 23 = .ok (.invokestatic 80, 3) := by decide +kernel
theorem dX7_insert_26 : decode cX7_insert 26 = .ok (.ifCond .eq 15, 3) := by decide +kernel
theorem dX7_insert_29 : decode cX7_insert 29 = .ok (.iload 4, 2) := by decide +kernel
theorem dX7_insert_31 : decode cX7_insert 31 = .ok (.iconst 1, 1) := by decide +kernel
theorem dX7_insert_32 : decode cX7_insert 32 = .ok (.sipush 999, 3) := by decide +kernel
theorem dX7_insert_35 : decode cX7_insert 35 = .ok (.invokestatic 48, 3) := by decide +kernel
theorem dX7_insert_38 : decode cX7_insert 38 = .ok (.ifCond .ne 6, 3) := by decide +kernel
theorem dX7_insert_41 : decode cX7_insert 41 = .ok (.bipush (-2), 2) := by decide +kernel
theorem dX7_insert_43 : decode cX7_insert 43 = .ok (.ireturn, 1) := by decide +kernel
theorem dX7_insert_44 : decode cX7_insert 44 = .ok (.aload_n 0, 1) := by decide +kernel
theorem dX7_insert_45 : decode cX7_insert 45 = .ok (.iload_n 1, 1) := by decide +kernel
theorem dX7_insert_46 : decode cX7_insert 46 = .ok (.invokevirtual 83, 3) := by decide +kernel
theorem dX7_insert_49 : decode cX7_insert 49 = .ok (.aload_n 0, 1) := by decide +kernel
theorem dX7_insert_50 : decode cX7_insert 50 = .ok (.iload_n 2, 1) := by decide +kernel
theorem dX7_insert_51 : decode cX7_insert 51 = .ok (.iload_n 3, 1) := by decide +kernel
theorem dX7_insert_52 : decode cX7_insert 52 = .ok (.iload 4, 2) := by decide +kernel
theorem dX7_insert_54 : decode cX7_insert 54 = .ok (.invokevirtual 87, 3) := by decide +kernel
theorem dX7_insert_57 : decode cX7_insert 57 = .ok (.aload_n 0, 1) := by decide +kernel
theorem dX7_insert_58 : decode cX7_insert 58 = .ok (.invokevirtual 91, 3) := by decide +kernel
theorem dX7_insert_61 : decode cX7_insert 61 = .ok (.ifCond .eq 6, 3) := by decide +kernel
theorem dX7_insert_64 : decode cX7_insert 64 = .ok (.bipush (-4), 2) := by decide +kernel
theorem dX7_insert_66 : decode cX7_insert 66 = .ok (.ireturn, 1) := by decide +kernel
theorem dX7_insert_67 : decode cX7_insert 67 = .ok (.aload_n 0, 1) := by decide +kernel
theorem dX7_insert_68 : decode cX7_insert 68 = .ok (.invokevirtual 95, 3) := by decide +kernel
theorem dX7_insert_71 : decode cX7_insert 71 = .ok (.aload_n 0, 1) := by decide +kernel
theorem dX7_insert_72 : decode cX7_insert 72 = .ok (.iload_n 1, 1) := by decide +kernel
theorem dX7_insert_73 : decode cX7_insert 73 = .ok (.invokevirtual 98, 3) := by decide +kernel
theorem dX7_insert_76 : decode cX7_insert 76 = .ok (.aload_n 0, 1) := by decide +kernel
theorem dX7_insert_77 : decode cX7_insert 77 = .ok (.iload_n 1, 1) := by decide +kernel
theorem dX7_insert_78 : decode cX7_insert 78 = .ok (.invokevirtual 52, 3) := by decide +kernel
theorem dX7_insert_81 : decode cX7_insert 81 = .ok (.ireturn, 1) := by decide +kernel
theorem dX7_whyNotRemoved_0 : decode cX7_whyNotRemoved 0 = .ok (.iload_n 1, 1) := by decide +kernel
theorem dX7_whyNotRemoved_1 : decode cX7_whyNotRemoved 1 = .ok (.invokestatic 76, 3) := by decide +kernel
theorem dX7_whyNotRemoved_4 : decode cX7_whyNotRemoved 4 = .ok (.ifCond .eq 12, 3) := by decide +kernel
theorem dX7_whyNotRemoved_7 : decode cX7_whyNotRemoved 7 = .ok (.aload_n 0, 1) := by decide +kernel
theorem dX7_whyNotRemoved_8 : decode cX7_whyNotRemoved 8 = .ok (.iload_n 1, 1) := by decide +kernel
theorem dX7_whyNotRemoved_9 : decode cX7_whyNotRemoved 9 = .ok (.iload_n 2, 1) := by decide +kernel
theorem dX7_whyNotRemoved_10 : decode cX7_whyNotRemoved 10 = .ok (.invokevirtual 101, 3) := by decide +kernel
theorem dX7_whyNotRemoved_13 : decode cX7_whyNotRemoved 13 = .ok (.ifCond .ne 5, 3) := by decide +kernel
theorem dX7_whyNotRemoved_16 : decode cX7_whyNotRemoved 16 = .ok (.iconst (-1), 1) := by decide +kernel
theorem dX7_whyNotRemoved_17 : decode cX7_whyNotRemoved 17 = .ok (.ireturn, 1) := by decide +kernel
theorem dX7_whyNotRemoved_18 : decode cX7_whyNotRemoved 18 = .ok (.iload_n 3, 1) := by decide +kernel
theorem dX7_whyNotRemoved_19 : decode cX7_whyNotRemoved 19 = .ok (.iconst 1, 1) := by decide +kernel
theorem dX7_whyNotRemoved_20 : decode cX7_whyNotRemoved 20 = .ok (.if_icmp .ge 8, 3) := by decide +kernel
theorem dX7_whyNotRemoved_23 : decode cX7_whyNotRemoved 23 = .ok (.bipush (-2), 2) := by decide +kernel
theorem dX7_whyNotRemoved_25 : decode cX7_whyNotRemoved 25 = .ok (.goto 20, 3) := by decide +kernel
theorem dX7_whyNotRemoved_28 : decode cX7_whyNotRemoved 28 = .ok (.iload_n 3, 1) := by decide +kernel
theorem dX7_whyNotRemoved_29 : decode cX7_whyNotRemoved 29 = .ok (.aload_n 0, 1) := by decide +kernel
theorem dX7_whyNotRemoved_30 : decode cX7_whyNotRemoved 30 = .ok (.iload_n 1, 1) := by decide +kernel
theorem dX7_whyNotRemoved_31 : decode cX7_whyNotRemoved 31 = .ok (.invokevirtual 60, 3) := by decide +kernel
theorem dX7_whyNotRemoved_34 : decode cX7_whyNotRemoved 34 = .ok (.iload_n 2, 1) := by decide +kernel
theorem dX7_whyNotRemoved_35 : decode cX7_whyNotRemoved 35 = .ok (.isub, 1) := by decide +kernel
theorem dX7_whyNotRemoved_36 : decode cX7_whyNotRemoved 36 = .ok (.if_icmp .le 8, 3) := by decide +kernel
theorem dX7_whyNotRemoved_39 : decode cX7_whyNotRemoved 39 = .ok (.bipush (-5), 2) := by decide +kernel
theorem dX7_whyNotRemoved_41 : decode cX7_whyNotRemoved 41 = .ok (.goto 4, 3) := by decide +kernel
theorem dX7_whyNotRemoved_44 : decode cX7_whyNotRemoved 44 = .ok (.iconst 0, 1) := by decide +kernel
theorem dX7_whyNotRemoved_45 : decode cX7_whyNotRemoved 45 = .ok (.ireturn, 1) := by decide +kernel
theorem dX7_removes_0 : decode cX7_removes 0 = .ok (.aload_n 0, 1) := by decide +kernel
theorem dX7_removes_1 : decode cX7_removes 1 = .ok (.iload_n 1, 1) := by decide +kernel
theorem dX7_removes_2 : decode cX7_removes 2 = .ok (.invokevirtual 83, 3) := by decide +kernel
theorem dX7_removes_5 : decode cX7_removes 5 = .ok (.aload_n 0, 1) := by decide +kernel
theorem dX7_removes_6 : decode cX7_removes 6 = .ok (.dup, 1) := by decide +kernel
theorem dX7_removes_7 : decode cX7_removes 7 = .ok (.getfield 63, 3) := by decide +kernel
theorem dX7_removes_10 : decode cX7_removes 10 = .ok (.iload_n 3, 1) := by decide +kernel
theorem dX7_removes_11 : decode cX7_removes 11 = .ok (.isub, 1) := by decide +kernel
theorem dX7_removes_12 : decode cX7_removes 12 = .ok (.putfield 63, 3) := by decide +kernel
theorem dX7_removes_15 : decode cX7_removes 15 = .ok (.iload_n 2, 1) := by decide +kernel
theorem dX7_removes_16 : decode cX7_removes 16 = .ok (.istore 4, 2) := by decide +kernel
theorem dX7_removes_18 : decode cX7_removes 18 = .ok (.iload 4, 2) := by decide +kernel
theorem dX7_removes_20 : decode cX7_removes 20 = .ok (.aload_n 0, 1) := by decide +kernel
theorem dX7_removes_21 : decode cX7_removes 21 = .ok (.getfield 63, 3) := by decide +kernel
theorem dX7_removes_24 : decode cX7_removes 24 = .ok (.if_icmp .ge 25, 3) := by decide +kernel
theorem dX7_removes_27 : decode cX7_removes 27 = .ok (.aload_n 0, 1) := by decide +kernel
theorem dX7_removes_28 : decode cX7_removes 28 = .ok (.getfield 25, 3) := by decide +kernel
theorem dX7_removes_31 : decode cX7_removes 31 = .ok (.iload 4, 2) := by decide +kernel
theorem dX7_removes_33 : decode cX7_removes 33 = .ok (.aload_n 0, 1) := by decide +kernel
theorem dX7_removes_34 : decode cX7_removes 34 = .ok (.getfield 25, 3) := by decide +kernel
theorem dX7_removes_37 : decode cX7_removes 37 = .ok (.iload 4, 2) := by decide +kernel
theorem dX7_removes_39 : decode cX7_removes 39 = .ok (.iload_n 3, 1) := by decide +kernel
theorem dX7_removes_40 : decode cX7_removes 40 = .ok (.iadd, 1) := by decide +kernel
theorem dX7_removes_41 : decode cX7_removes 41 = .ok (.iaload, 1) := by decide +kernel
theorem dX7_removes_42 : decode cX7_removes 42 = .ok (.iastore, 1) := by decide +kernel
theorem dX7_removes_43 : decode cX7_removes 43 = .ok (.iinc 4 1, 3) := by decide +kernel
theorem dX7_removes_46 : decode cX7_removes 46 = .ok (.goto (-28), 3) := by decide +kernel
theorem dX7_removes_49 : decode cX7_removes 49 = .ok (.aload_n 0, 1) := by decide +kernel
theorem dX7_removes_50 : decode cX7_removes 50 = .ok (.iload_n 1, 1) := by decide +kernel
theorem dX7_removes_51 : decode cX7_removes 51 = .ok (.invokevirtual 98, 3) := by decide +kernel
theorem dX7_removes_54 : decode cX7_removes 54 = .ok (.aload_n 0, 1) := by decide +kernel
theorem dX7_removes_55 : decode cX7_removes 55 = .ok (.iload_n 1, 1) := by decide +kernel
theorem dX7_removes_56 : decode cX7_removes 56 = .ok (.invokevirtual 52, 3) := by decide +kernel
theorem dX7_removes_59 : decode cX7_removes 59 = .ok (.ireturn, 1) := by decide +kernel
theorem dX7_remove_0 : decode cX7_remove 0 = .ok (.aload_n 0, 1) := by decide +kernel
theorem dX7_remove_1 : decode cX7_remove 1 = .ok (.iload_n 1, 1) := by decide +kernel
theorem dX7_remove_2 : decode cX7_remove 2 = .ok (.iload_n 2, 1) := by decide +kernel
theorem dX7_remove_3 : decode cX7_remove 3 = .ok (.iload_n 3, 1) := by decide +kernel
theorem dX7_remove_4 : decode cX7_remove 4 = .ok (.invokevirtual 105, 3) := by decide +kernel
theorem dX7_remove_7 : decode cX7_remove 7 = .ok (.istore 4, 2) := by decide +kernel
theorem dX7_remove_9 : decode cX7_remove 9 = .ok (.iload 4, 2) := by decide +kernel
theorem dX7_remove_11 : decode cX7_remove 11 = .ok (.ifCond .ge 6, 3) := by decide +kernel
theorem dX7_remove_14 : decode cX7_remove 14 = .ok (.iload 4, 2) := by decide +kernel
theorem dX7_remove_16 : decode cX7_remove 16 = .ok (.ireturn, 1) := by decide +kernel
theorem dX7_remove_17 : decode cX7_remove 17 = .ok (.aload_n 0, 1) := by decide +kernel
theorem dX7_remove_18 : decode cX7_remove 18 = .ok (.invokevirtual 95, 3) := by decide +kernel
theorem dX7_remove_21 : decode cX7_remove 21 = .ok (.aload_n 0, 1) := by decide +kernel
theorem dX7_remove_22 : decode cX7_remove 22 = .ok (.iload_n 1, 1) := by decide +kernel
theorem dX7_remove_23 : decode cX7_remove 23 = .ok (.iload_n 2, 1) := by decide +kernel
theorem dX7_remove_24 : decode cX7_remove 24 = .ok (.iload_n 3, 1) := by decide +kernel
theorem dX7_remove_25 : decode cX7_remove 25 = .ok (.invokevirtual 109, 3) := by decide +kernel
theorem dX7_remove_28 : decode cX7_remove 28 = .ok (.ireturn, 1) := by decide +kernel
theorem dX7_whyNotSet_0 : decode cX7_whyNotSet 0 = .ok (.iload_n 1, 1) := by decide +kernel
theorem dX7_whyNotSet_1 : decode cX7_whyNotSet 1 = .ok (.invokestatic 76, 3) := by decide +kernel
theorem dX7_whyNotSet_4 : decode cX7_whyNotSet 4 = .ok (.ifCond .eq 12, 3) := by decide +kernel
theorem dX7_whyNotSet_7 : decode cX7_whyNotSet 7 = .ok (.aload_n 0, 1) := by decide +kernel
theorem dX7_whyNotSet_8 : decode cX7_whyNotSet 8 = .ok (.iload_n 1, 1) := by decide +kernel
theorem dX7_whyNotSet_9 : decode cX7_whyNotSet 9 = .ok (.iload_n 2, 1) := by decide +kernel
theorem dX7_whyNotSet_10 : decode cX7_whyNotSet 10 = .ok (.invokevirtual 101, 3) := by decide +kernel
theorem dX7_whyNotSet_13 : decode cX7_whyNotSet 13 = .ok (.ifCond .ne 5, 3) := by decide +kernel
theorem dX7_whyNotSet_16 : decode cX7_whyNotSet 16 = .ok (.iconst (-1), 1) := by decide +kernel
theorem dX7_whyNotSet_17 : decode cX7_whyNotSet 17 = .ok (.ireturn, 1) := by decide +kernel
theorem dX7_whyNotSet_18 : decode cX7_whyNotSet 18 = .ok (.iload_n 3, 1) := by decide +kernel
theorem dX7_whyNotSet_19 : decode cX7_whyNotSet 19 = .ok (.invokestatic 80, 3) := by decide +kernel
theorem dX7_whyNotSet_22 : decode cX7_whyNotSet 22 = .ok (.ifCond .ne 6, 3) := by decide +kernel
theorem dX7_whyNotSet_25 : decode cX7_whyNotSet 25 = .ok (.bipush (-2), 2) := by decide +kernel
theorem dX7_whyNotSet_27 : decode cX7_whyNotSet 27 = .ok (.ireturn, 1) := by decide +kernel
theorem dX7_whyNotSet_28 : decode cX7_whyNotSet 28 = .ok (.aload_n 0, 1) := by decide +kernel
theorem dX7_whyNotSet_29 : decode cX7_whyNotSet 29 = .ok (.iload_n 1, 1) := by decide +kernel
theorem dX7_whyNotSet_30 : decode cX7_whyNotSet 30 = .ok (.invokevirtual 83, 3) := by decide +kernel
theorem dX7_whyNotSet_33 : decode cX7_whyNotSet 33 = .ok (.aload_n 0, 1) := by decide +kernel
theorem dX7_whyNotSet_34 : decode cX7_whyNotSet 34 = .ok (.getfield 25, 3) := by decide +kernel
theorem dX7_whyNotSet_37 : decode cX7_whyNotSet 37 = .ok (.iload_n 2, 1) := by decide +kernel
theorem dX7_whyNotSet_38 : decode cX7_whyNotSet 38 = .ok (.iload_n 3, 1) := by decide +kernel
theorem dX7_whyNotSet_39 : decode cX7_whyNotSet 39 = .ok (.iastore, 1) := by decide +kernel
theorem dX7_whyNotSet_40 : decode cX7_whyNotSet 40 = .ok (.aload_n 0, 1) := by decide +kernel
theorem dX7_whyNotSet_41 : decode cX7_whyNotSet 41 = .ok (.invokevirtual 91, 3) := by decide +kernel
theorem dX7_whyNotSet_44 : decode cX7_whyNotSet 44 = .ok (.ifCond .eq 8, 3) := by decide +kernel
theorem dX7_whyNotSet_47 : decode cX7_whyNotSet 47 = .ok (.bipush (-4), 2) := by decide +kernel
theorem dX7_whyNotSet_49 : decode cX7_whyNotSet 49 = .ok (.goto 4, 3) := by decide +kernel
theorem dX7_whyNotSet_52 : decode cX7_whyNotSet 52 = .ok (.iconst 0, 1) := by decide +kernel
theorem dX7_whyNotSet_53 : decode cX7_whyNotSet 53 = .ok (.ireturn, 1) := by decide +kernel
theorem dX7_set_0 : decode cX7_set 0 = .ok (.aload_n 0, 1) := by decide +kernel
theorem dX7_set_1 : decode cX7_set 1 = .ok (.iload_n 1, 1) := by decide +kernel
theorem dX7_set_2 : decode cX7_set 2 = .ok (.iload_n 2, 1) := by decide +kernel
theorem dX7_set_3 : decode cX7_set 3 = .ok (.iload_n 3, 1) := by decide +kernel
theorem dX7_set_4 : decode cX7_set 4 = .ok (.invokevirtual 112, 3) := by decide +kernel
theorem dX7_set_7 : decode cX7_set 7 = .ok (.istore 4, 2) := by decide +kernel
theorem dX7_set_9 : decode cX7_set 9 = .ok (.iload 4, 2) := by decide +kernel
theorem dX7_set_11 : decode cX7_set 11 = .ok (.ifCond .ge 6, 3) := by decide +kernel
theorem dX7_set_14 : decode cX7_set 14 = .ok (.iload 4, 2) := by decide +kernel
theorem dX7_set_16 : decode cX7_set 16 = .ok (.ireturn, 1) := by decide +kernel
theorem dX7_set_17 : decode cX7_set 17 = .ok (.aload_n 0, 1) := by decide +kernel
theorem dX7_set_18 : decode cX7_set 18 = .ok (.invokevirtual 95, 3) := by decide +kernel
theorem dX7_set_21 : decode cX7_set 21 = .ok (.aload_n 0, 1) := by decide +kernel
theorem dX7_set_22 : decode cX7_set 22 = .ok (.iload_n 1, 1) := by decide +kernel
theorem dX7_set_23 : decode cX7_set 23 = .ok (.iload_n 2, 1) := by decide +kernel
theorem dX7_set_24 : decode cX7_set 24 = .ok (.invokevirtual 115, 3) := by decide +kernel
theorem dX7_set_27 : decode cX7_set 27 = .ok (.istore 5, 2) := by decide +kernel
theorem dX7_set_29 : decode cX7_set 29 = .ok (.aload_n 0, 1) := by decide +kernel
theorem dX7_set_30 : decode cX7_set 30 = .ok (.iload_n 1, 1) := by decide +kernel
theorem dX7_set_31 : decode cX7_set 31 = .ok (.invokevirtual 98, 3) := by decide +kernel
theorem dX7_set_34 : decode cX7_set 34 = .ok (.iload 5, 2) := by decide +kernel
theorem dX7_set_36 : decode cX7_set 36 = .ok (.ireturn, 1) := by decide +kernel
theorem dX7_sorts_0 : decode cX7_sorts 0 = .ok (.aload_n 0, 1) := by decide +kernel
theorem dX7_sorts_1 : decode cX7_sorts 1 = .ok (.iload_n 1, 1) := by decide +kernel
theorem dX7_sorts_2 : decode cX7_sorts 2 = .ok (.invokevirtual 118, 3) := by decide +kernel
theorem dX7_sorts_5 : decode cX7_sorts 5 = .ok (.aload_n 0, 1) := by decide +kernel
theorem dX7_sorts_6 : decode cX7_sorts 6 = .ok (.iconst 0, 1) := by decide +kernel
theorem dX7_sorts_7 : decode cX7_sorts 7 = .ok (.putfield 63, 3) := by decide +kernel
theorem dX7_sorts_10 : decode cX7_sorts 10 = .ok (.iconst 0, 1) := by decide +kernel
theorem dX7_sorts_11 : decode cX7_sorts 11 = .ok (.istore_n 2, 1) := by decide +kernel
theorem dX7_sorts_12 : decode cX7_sorts 12 = .ok (.iload_n 2, 1) := by decide +kernel
theorem dX7_sorts_13 : decode cX7_sorts 13 = .ok (.bipush 10, 2) := by decide +kernel
theorem dX7_sorts_15 : decode cX7_sorts 15 = .ok (.if_icmp .ge 55, 3) := by decide +kernel
theorem dX7_sorts_18 : decode cX7_sorts 18 = .ok (.iconst 0, 1) := by decide +kernel
theorem dX7_sorts_19 : decode cX7_sorts 19 = .ok (.istore_n 3, 1) := by decide +kernel
theorem dX7_sorts_20 : decode cX7_sorts 20 = .ok (.iload_n 3, 1) := by decide +kernel
theorem dX7_sorts_21 : decode cX7_sorts 21 = .ok (.aload_n 0, 1) := by decide +kernel
theorem dX7_sorts_22 : decode cX7_sorts 22 = .ok (.getfield 69, 3) := by decide +kernel
theorem dX7_sorts_25 : decode cX7_sorts 25 = .ok (.if_icmp .ge 39, 3) := by decide +kernel
theorem dX7_sorts_28 : decode cX7_sorts 28 = .ok (.aload_n 0, 1) := by decide +kernel
theorem dX7_sorts_29 : decode cX7_sorts 29 = .ok (.getfield 28, 3) := by decide +kernel
theorem dX7_sorts_32 : decode cX7_sorts 32 = .ok (.iload_n 3, 1) := by decide +kernel
theorem dX7_sorts_33 : decode cX7_sorts 33 = .ok (.iaload, 1) := by decide +kernel
theorem dX7_sorts_34 : decode cX7_sorts 34 = .ok (.iload_n 2, 1) := by decide +kernel
theorem dX7_sorts_35 : decode cX7_sorts 35 = .ok (.if_icmp .ne 23, 3) := by decide +kernel
theorem dX7_sorts_38 : decode cX7_sorts 38 = .ok (.aload_n 0, 1) := by decide +kernel
theorem dX7_sorts_39 : decode cX7_sorts 39 = .ok (.getfield 25, 3) := by decide +kernel
theorem dX7_sorts_42 : decode cX7_sorts 42 = .ok (.aload_n 0, 1) := by decide +kernel
theorem dX7_sorts_43 : decode cX7_sorts 43 = .ok (.getfield 63, 3) := by decide +kernel
theorem dX7_sorts_46 : decode cX7_sorts 46 = .ok (.iload_n 2, 1) := by decide +kernel
theorem dX7_sorts_47 : decode cX7_sorts 47 = .ok (.iastore, 1) := by decide +kernel
theorem dX7_sorts_48 : decode cX7_sorts 48 = .ok (.aload_n 0, 1) := by decide +kernel
theorem dX7_sorts_49 : decode cX7_sorts 49 = .ok (.dup, 1) := by decide +kernel
theorem dX7_sorts_50 : decode cX7_sorts 50 = .ok (.getfield 63, 3) := by decide +kernel
theorem dX7_sorts_53 : decode cX7_sorts 53 = .ok (.iconst 1, 1) := by decide +kernel
theorem dX7_sorts_54 : decode cX7_sorts 54 = .ok (.iadd, 1) := by decide +kernel
theorem dX7_sorts_55 : decode cX7_sorts 55 = .ok (.putfield 63, 3) := by decide +kernel
theorem dX7_sorts_58 : decode cX7_sorts 58 = .ok (.iinc 3 1, 3) := by decide +kernel
theorem dX7_sorts_61 : decode cX7_sorts 61 = .ok (.goto (-41), 3) := by decide +kernel
theorem dX7_sorts_64 : decode cX7_sorts 64 = .ok (.iinc 2 1, 3) := by decide +kernel
theorem dX7_sorts_67 : decode cX7_sorts 67 = .ok (.goto (-55), 3) := by decide +kernel
theorem dX7_sorts_70 : decode cX7_sorts 70 = .ok (.aload_n 0, 1) := by decide +kernel
theorem dX7_sorts_71 : decode cX7_sorts 71 = .ok (.iload_n 1, 1) := by decide +kernel
theorem dX7_sorts_72 : decode cX7_sorts 72 = .ok (.invokevirtual 98, 3) := by decide +kernel
theorem dX7_sorts_75 : decode cX7_sorts 75 = .ok (.aload_n 0, 1) := by decide +kernel
theorem dX7_sorts_76 : decode cX7_sorts 76 = .ok (.iload_n 1, 1) := by decide +kernel
theorem dX7_sorts_77 : decode cX7_sorts 77 = .ok (.invokevirtual 52, 3) := by decide +kernel
theorem dX7_sorts_80 : decode cX7_sorts 80 = .ok (.ireturn, 1) := by decide +kernel
theorem dX7_sort_0 : decode cX7_sort 0 = .ok (.iload_n 1, 1) := by decide +kernel
theorem dX7_sort_1 : decode cX7_sort 1 = .ok (.invokestatic 76, 3) := by decide +kernel
theorem dX7_sort_4 : decode cX7_sort 4 = .ok (.ifCond .ne 5, 3) := by decide +kernel
theorem dX7_sort_7 : decode cX7_sort 7 = .ok (.iconst (-1), 1) := by decide +kernel
theorem dX7_sort_8 : decode cX7_sort 8 = .ok (.ireturn, 1) := by decide +kernel
theorem dX7_sort_9 : decode cX7_sort 9 = .ok (.aload_n 0, 1) := by decide +kernel
theorem dX7_sort_10 : decode cX7_sort 10 = .ok (.invokevirtual 95, 3) := by decide +kernel
theorem dX7_sort_13 : decode cX7_sort 13 = .ok (.aload_n 0, 1) := by decide +kernel
theorem dX7_sort_14 : decode cX7_sort 14 = .ok (.iload_n 1, 1) := by decide +kernel
theorem dX7_sort_15 : decode cX7_sort 15 = .ok (.invokevirtual 121, 3) := by decide +kernel
theorem dX7_sort_18 : decode cX7_sort 18 = .ok (.ireturn, 1) := by decide +kernel
theorem dX7_turn_0 : decode cX7_turn 0 = .ok (.iload_n 1, 1) := by decide +kernel
theorem dX7_turn_1 : decode cX7_turn 1 = .ok (.invokestatic 76, 3) := by decide +kernel
theorem dX7_turn_4 : decode cX7_turn 4 = .ok (.ifCond .eq 10, 3) := by decide +kernel
theorem dX7_turn_7 : decode cX7_turn 7 = .ok (.iload_n 2, 1) := by decide +kernel
theorem dX7_turn_8 : decode cX7_turn 8 = .ok (.invokestatic 76, 3) := by decide +kernel
theorem dX7_turn_11 : decode cX7_turn 11 = .ok (.ifCond .ne 5, 3) := by decide +kernel
theorem dX7_turn_14 : decode cX7_turn 14 = .ok (.iconst (-1), 1) := by decide +kernel
theorem dX7_turn_15 : decode cX7_turn 15 = .ok (.ireturn, 1) := by decide +kernel
theorem dX7_turn_16 : decode cX7_turn 16 = .ok (.aload_n 0, 1) := by decide +kernel
theorem dX7_turn_17 : decode cX7_turn 17 = .ok (.invokevirtual 95, 3) := by decide +kernel
theorem dX7_turn_20 : decode cX7_turn 20 = .ok (.aload_n 0, 1) := by decide +kernel
theorem dX7_turn_21 : decode cX7_turn 21 = .ok (.iload_n 2, 1) := by decide +kernel
theorem dX7_turn_22 : decode cX7_turn 22 = .ok (.invokevirtual 118, 3) := by decide +kernel
theorem dX7_turn_25 : decode cX7_turn 25 = .ok (.aload_n 0, 1) := by decide +kernel
theorem dX7_turn_26 : decode cX7_turn 26 = .ok (.aload_n 0, 1) := by decide +kernel
theorem dX7_turn_27 : decode cX7_turn 27 = .ok (.getfield 69, 3) := by decide +kernel
theorem dX7_turn_30 : decode cX7_turn 30 = .ok (.putfield 63, 3) := by decide +kernel
theorem dX7_turn_33 : decode cX7_turn 33 = .ok (.iconst 0, 1) := by decide +kernel
theorem dX7_turn_34 : decode cX7_turn 34 = .ok (.istore_n 3, 1) := by decide +kernel
theorem dX7_turn_35 : decode cX7_turn 35 = .ok (.iload_n 3, 1) := by decide +kernel
theorem dX7_turn_36 : decode cX7_turn 36 = .ok (.aload_n 0, 1) := by decide +kernel
theorem dX7_turn_37 : decode cX7_turn 37 = .ok (.getfield 63, 3) := by decide +kernel
theorem dX7_turn_40 : decode cX7_turn 40 = .ok (.if_icmp .ge 28, 3) := by decide +kernel
theorem dX7_turn_43 : decode cX7_turn 43 = .ok (.aload_n 0, 1) := by decide +kernel
theorem dX7_turn_44 : decode cX7_turn 44 = .ok (.getfield 25, 3) := by decide +kernel
theorem dX7_turn_47 : decode cX7_turn 47 = .ok (.iload_n 3, 1) := by decide +kernel
theorem dX7_turn_48 : decode cX7_turn 48 = .ok (.aload_n 0, 1) := by decide +kernel
theorem dX7_turn_49 : decode cX7_turn 49 = .ok (.getfield 28, 3) := by decide +kernel
theorem dX7_turn_52 : decode cX7_turn 52 = .ok (.aload_n 0, 1) := by decide +kernel
theorem dX7_turn_53 : decode cX7_turn 53 = .ok (.getfield 63, 3) := by decide +kernel
theorem dX7_turn_56 : decode cX7_turn 56 = .ok (.iconst 1, 1) := by decide +kernel
theorem dX7_turn_57 : decode cX7_turn 57 = .ok (.isub, 1) := by decide +kernel
theorem dX7_turn_58 : decode cX7_turn 58 = .ok (.iload_n 3, 1) := by decide +kernel
theorem dX7_turn_59 : decode cX7_turn 59 = .ok (.isub, 1) := by decide +kernel
theorem dX7_turn_60 : decode cX7_turn 60 = .ok (.iaload, 1) := by decide +kernel
theorem dX7_turn_61 : decode cX7_turn 61 = .ok (.iastore, 1) := by decide +kernel
theorem dX7_turn_62 : decode cX7_turn 62 = .ok (.iinc 3 1, 3) := by decide +kernel
theorem dX7_turn_65 : decode cX7_turn 65 = .ok (.goto (-30), 3) := by decide +kernel
theorem dX7_turn_68 : decode cX7_turn 68 = .ok (.aload_n 0, 1) := by decide +kernel
theorem dX7_turn_69 : decode cX7_turn 69 = .ok (.iload_n 1, 1) := by decide +kernel
theorem dX7_turn_70 : decode cX7_turn 70 = .ok (.invokevirtual 98, 3) := by decide +kernel
theorem dX7_turn_73 : decode cX7_turn 73 = .ok (.aload_n 0, 1) := by decide +kernel
theorem dX7_turn_74 : decode cX7_turn 74 = .ok (.getfield 63, 3) := by decide +kernel
theorem dX7_turn_77 : decode cX7_turn 77 = .ok (.ireturn, 1) := by decide +kernel
theorem dX7_layOutBoth_0 : decode cX7_layOutBoth 0 = .ok (.aload_n 0, 1) := by decide +kernel
theorem dX7_layOutBoth_1 : decode cX7_layOutBoth 1 = .ok (.iload_n 1, 1) := by decide +kernel
theorem dX7_layOutBoth_2 : decode cX7_layOutBoth 2 = .ok (.invokevirtual 83, 3) := by decide +kernel
theorem dX7_layOutBoth_5 : decode cX7_layOutBoth 5 = .ok (.aload_n 0, 1) := by decide +kernel
theorem dX7_layOutBoth_6 : decode cX7_layOutBoth 6 = .ok (.iload_n 2, 1) := by decide +kernel
theorem dX7_layOutBoth_7 : decode cX7_layOutBoth 7 = .ok (.invokevirtual 118, 3) := by decide +kernel
theorem dX7_layOutBoth_10 : decode cX7_layOutBoth 10 = .ok (.aload_n 0, 1) := by decide +kernel
theorem dX7_layOutBoth_11 : decode cX7_layOutBoth 11 = .ok (.getfield 63, 3) := by decide +kernel
theorem dX7_layOutBoth_14 : decode cX7_layOutBoth 14 = .ok (.aload_n 0, 1) := by decide +kernel
theorem dX7_layOutBoth_15 : decode cX7_layOutBoth 15 = .ok (.getfield 69, 3) := by decide +kernel
theorem dX7_layOutBoth_18 : decode cX7_layOutBoth 18 = .ok (.if_icmp .ge 10, 3) := by decide +kernel
theorem dX7_layOutBoth_21 : decode cX7_layOutBoth 21 = .ok (.aload_n 0, 1) := by decide +kernel
theorem dX7_layOutBoth_22 : decode cX7_layOutBoth 22 = .ok (.getfield 63, 3) := by decide +kernel
theorem dX7_layOutBoth_25 : decode cX7_layOutBoth 25 = .ok (.goto 7, 3) := by decide +kernel
theorem dX7_layOutBoth_28 : decode cX7_layOutBoth 28 = .ok (.aload_n 0, 1) := by decide +kernel
theorem dX7_layOutBoth_29 : decode cX7_layOutBoth 29 = .ok (.getfield 69, 3) := by decide +kernel
theorem dX7_layOutBoth_32 : decode cX7_layOutBoth 32 = .ok (.ireturn, 1) := by decide +kernel
theorem dX7_merge_0 : decode cX7_merge 0 = .ok (.iload_n 1, 1) := by decide +kernel
theorem dX7_merge_1 : decode cX7_merge 1 = .ok (.invokestatic 76, 3) := by decide +kernel
theorem dX7_merge_4 : decode cX7_merge 4 = .ok (.ifCond .eq 17, 3) := by decide +kernel
theorem dX7_merge_7 : decode cX7_merge 7 = .ok (.iload_n 2, 1) := by decide +kernel
theorem dX7_merge_8 : decode cX7_merge 8 = .ok (.invokestatic 76, 3) := by decide +kernel
theorem dX7_merge_11 : decode cX7_merge 11 = .ok (.ifCond .eq 10, 3) := by decide +kernel
theorem dX7_merge_14 : decode cX7_merge 14 = .ok (.iload_n 3, 1) := by decide +kernel
theorem dX7_merge_15 : decode cX7_merge 15 = .ok (.invokestatic 76, 3) := by decide +kernel
theorem dX7_merge_18 : decode cX7_merge 18 = .ok (.ifCond .ne 5, 3) := by decide +kernel
theorem dX7_merge_21 : decode cX7_merge 21 = .ok (.iconst (-1), 1) := by decide +kernel
theorem dX7_merge_22 : decode cX7_merge 22 = .ok (.ireturn, 1) := by decide +kernel
theorem dX7_merge_23 : decode cX7_merge 23 = .ok (.iload 4, 2) := by decide +kernel
theorem dX7_merge_25 : decode cX7_merge 25 = .ok (.iconst 0, 1) := by decide +kernel
theorem dX7_merge_26 : decode cX7_merge 26 = .ok (.iconst 2, 1) := by decide +kernel
theorem dX7_merge_27 : decode cX7_merge 27 = .ok (.invokestatic 48, 3) := by decide +kernel
theorem dX7_merge_30 : decode cX7_merge 30 = .ok (.ifCond .ne 6, 3) := by decide +kernel
theorem dX7_merge_33 : decode cX7_merge 33 = .ok (.bipush (-2), 2) := by decide +kernel
theorem dX7_merge_35 : decode cX7_merge 35 = .ok (.ireturn, 1) := by decide +kernel
theorem dX7_merge_36 : decode cX7_merge 36 = .ok (.aload_n 0, 1) := by decide +kernel
theorem dX7_merge_37 : decode cX7_merge 37 = .ok (.iload_n 2, 1) := by decide +kernel
theorem dX7_merge_38 : decode cX7_merge 38 = .ok (.iload_n 3, 1) := by decide +kernel
theorem dX7_merge_39 : decode cX7_merge 39 = .ok (.invokevirtual 124, 3) := by decide +kernel
theorem dX7_merge_42 : decode cX7_merge 42 = .ok (.istore 5, 2) := by decide +kernel
theorem dX7_merge_44 : decode cX7_merge 44 = .ok (.aload_n 0, 1) := by decide +kernel
theorem dX7_merge_45 : decode cX7_merge 45 = .ok (.iconst 0, 1) := by decide +kernel
theorem dX7_merge_46 : decode cX7_merge 46 = .ok (.putfield 63, 3) := by decide +kernel
theorem dX7_merge_49 : decode cX7_merge 49 = .ok (.iconst 0, 1) := by decide +kernel
theorem dX7_merge_50 : decode cX7_merge 50 = .ok (.istore 6, 2) := by decide +kernel
theorem dX7_merge_52 : decode cX7_merge 52 = .ok (.iload 6, 2) := by decide +kernel
theorem dX7_merge_54 : decode cX7_merge 54 = .ok (.iload 5, 2) := by decide +kernel
theorem dX7_merge_56 : decode cX7_merge 56 = .ok (.if_icmp .ge 91, 3) := by decide +kernel
theorem dX7_merge_59 : decode cX7_merge 59 = .ok (.aload_n 0, 1) := by decide +kernel
theorem dX7_merge_60 : decode cX7_merge 60 = .ok (.getfield 25, 3) := by decide +kernel
theorem dX7_merge_63 : decode cX7_merge 63 = .ok (.iload 6, 2) := by decide +kernel
theorem dX7_merge_65 : decode cX7_merge 65 = .ok (.iaload, 1) := by decide +kernel
theorem dX7_merge_66 : decode cX7_merge 66 = .ok (.istore 7, 2) := by decide +kernel
theorem dX7_merge_68 : decode cX7_merge 68 = .ok (.aload_n 0, 1) := by decide +kernel
theorem dX7_merge_69 : decode cX7_merge 69 = .ok (.getfield 28, 3) := by decide +kernel
theorem dX7_merge_72 : decode cX7_merge 72 = .ok (.iload 6, 2) := by decide +kernel
theorem dX7_merge_74 : decode cX7_merge 74 = .ok (.iaload, 1) := by decide +kernel
theorem dX7_merge_75 : decode cX7_merge 75 = .ok (.istore 8, 2) := by decide +kernel
theorem dX7_merge_77 : decode cX7_merge 77 = .ok (.iload 4, 2) := by decide +kernel
theorem dX7_merge_79 : decode cX7_merge 79 = .ok (.iconst 2, 1) := by decide +kernel
theorem dX7_merge_80 : decode cX7_merge 80 = .ok (.if_icmp .lt 10, 3) := by decide +kernel
theorem dX7_merge_83 : decode cX7_merge 83 = .ok (.iload 7, 2) := by decide +kernel
theorem dX7_merge_85 : decode cX7_merge 85 = .ok (.iload 8, 2) := by decide +kernel
theorem dX7_merge_87 : decode cX7_merge 87 = .ok (.if_icmp .ne 54, 3) := by decide +kernel
theorem dX7_merge_90 : decode cX7_merge 90 = .ok (.aload_n 0, 1) := by decide +kernel
theorem dX7_merge_91 : decode cX7_merge 91 = .ok (.getfield 25, 3) := by decide +kernel
theorem dX7_merge_94 : decode cX7_merge 94 = .ok (.aload_n 0, 1) := by decide +kernel
theorem dX7_merge_95 : decode cX7_merge 95 = .ok (.getfield 63, 3) := by decide +kernel
theorem dX7_merge_98 : decode cX7_merge 98 = .ok (.iload 4, 2) := by decide +kernel
theorem dX7_merge_100 : decode cX7_merge 100 = .ok (.ifCond .ne 7, 3) := by decide +kernel
theorem dX7_merge_103 : decode cX7_merge 103 = .ok (.iconst 1, 1) := by decide +kernel
theorem dX7_merge_104 : decode cX7_merge 104 = .ok (.goto 4, 3) := by decide +kernel
theorem dX7_merge_107 : decode cX7_merge 107 = .ok (.iconst 0, 1) := by decide +kernel
theorem dX7_merge_108 : decode cX7_merge 108 = .ok (.iload 7, 2) := by decide +kernel
theorem dX7_merge_110 : decode cX7_merge 110 = .ok (.iload 8, 2) := by decide +kernel
theorem dX7_merge_112 : decode cX7_merge 112 = .ok (.if_icmp .ge 7, 3) := by decide +kernel
theorem dX7_merge_115 : decode cX7_merge 115 = .ok (.iconst 1, 1) := by decide +kernel
theorem dX7_merge_116 : decode cX7_merge 116 = .ok (.goto 4, 3) := by decide +kernel
theorem dX7_merge_119 : decode cX7_merge 119 = .ok (.iconst 0, 1) := by decide +kernel
theorem dX7_merge_120 : decode cX7_merge 120 = .ok (.if_icmp .ne 8, 3) := by decide +kernel
theorem dX7_merge_123 : decode cX7_merge 123 = .ok (.iload 7, 2) := by decide +kernel
theorem dX7_merge_125 : decode cX7_merge 125 = .ok (.goto 5, 3) := by decide +kernel
theorem dX7_merge_128 : decode cX7_merge 128 = .ok (.iload 8, 2) := by decide +kernel
theorem dX7_merge_130 : decode cX7_merge 130 = .ok (.iastore, 1) := by decide +kernel
theorem dX7_merge_131 : decode cX7_merge 131 = .ok (.aload_n 0, 1) := by decide +kernel
theorem dX7_merge_132 : decode cX7_merge 132 = .ok (.dup, 1) := by decide +kernel
theorem dX7_merge_133 : decode cX7_merge 133 = .ok (.getfield 63, 3) := by decide +kernel
theorem dX7_merge_136 : decode cX7_merge 136 = .ok (.iconst 1, 1) := by decide +kernel
theorem dX7_merge_137 : decode cX7_merge 137 = .ok (.iadd, 1) := by decide +kernel
theorem dX7_merge_138 : decode cX7_merge 138 = .ok (.putfield 63, 3) := by decide +kernel
theorem dX7_merge_141 : decode cX7_merge 141 = .ok (.iinc 6 1, 3) := by decide +kernel
theorem dX7_merge_144 : decode cX7_merge 144 = .ok (.goto (-92), 3) := by decide +kernel
theorem dX7_merge_147 : decode cX7_merge 147 = .ok (.aload_n 0, 1) := by decide +kernel
theorem dX7_merge_148 : decode cX7_merge 148 = .ok (.invokevirtual 91, 3) := by decide +kernel
theorem dX7_merge_151 : decode cX7_merge 151 = .ok (.ifCond .eq 6, 3) := by decide +kernel
theorem dX7_merge_154 : decode cX7_merge 154 = .ok (.bipush (-4), 2) := by decide +kernel
theorem dX7_merge_156 : decode cX7_merge 156 = .ok (.ireturn, 1) := by decide +kernel
theorem dX7_merge_157 : decode cX7_merge 157 = .ok (.aload_n 0, 1) := by decide +kernel
theorem dX7_merge_158 : decode cX7_merge 158 = .ok (.invokevirtual 95, 3) := by decide +kernel
theorem dX7_merge_161 : decode cX7_merge 161 = .ok (.aload_n 0, 1) := by decide +kernel
theorem dX7_merge_162 : decode cX7_merge 162 = .ok (.iload_n 1, 1) := by decide +kernel
theorem dX7_merge_163 : decode cX7_merge 163 = .ok (.invokevirtual 98, 3) := by decide +kernel
theorem dX7_merge_166 : decode cX7_merge 166 = .ok (.aload_n 0, 1) := by decide +kernel
theorem dX7_merge_167 : decode cX7_merge 167 = .ok (.getfield 63, 3) := by decide +kernel
theorem dX7_merge_170 : decode cX7_merge 170 = .ok (.ireturn, 1) := by decide +kernel
theorem dX7_firstRow_0 : decode cX7_firstRow 0 = .ok (.iconst 0, 1) := by decide +kernel
theorem dX7_firstRow_1 : decode cX7_firstRow 1 = .ok (.istore_n 3, 1) := by decide +kernel
theorem dX7_firstRow_2 : decode cX7_firstRow 2 = .ok (.iconst 0, 1) := by decide +kernel
theorem dX7_firstRow_3 : decode cX7_firstRow 3 = .ok (.istore 4, 2) := by decide +kernel
theorem dX7_firstRow_5 : decode cX7_firstRow 5 = .ok (.iload 4, 2) := by decide +kernel
theorem dX7_firstRow_7 : decode cX7_firstRow 7 = .ok (.iload_n 2, 1) := by decide +kernel
theorem dX7_firstRow_8 : decode cX7_firstRow 8 = .ok (.if_icmp .ge 19, 3) := by decide +kernel
theorem dX7_firstRow_11 : decode cX7_firstRow 11 = .ok (.iload_n 3, 1) := by decide +kernel
theorem dX7_firstRow_12 : decode cX7_firstRow 12 = .ok (.aload_n 0, 1) := by decide +kernel
theorem dX7_firstRow_13 : decode cX7_firstRow 13 = .ok (.iload_n 1, 1) := by decide +kernel
theorem dX7_firstRow_14 : decode cX7_firstRow 14 = .ok (.iload 4, 2) := by decide +kernel
theorem dX7_firstRow_16 : decode cX7_firstRow 16 = .ok (.invokevirtual 56, 3) := by decide +kernel
theorem dX7_firstRow_19 : decode cX7_firstRow 19 = .ok (.iadd, 1) := by decide +kernel
theorem dX7_firstRow_20 : decode cX7_firstRow 20 = .ok (.istore_n 3, 1) := by decide +kernel
theorem dX7_firstRow_21 : decode cX7_firstRow 21 = .ok (.iinc 4 1, 3) := by decide +kernel
theorem dX7_firstRow_24 : decode cX7_firstRow 24 = .ok (.goto (-19), 3) := by decide +kernel
theorem dX7_firstRow_27 : decode cX7_firstRow 27 = .ok (.iload_n 3, 1) := by decide +kernel
theorem dX7_firstRow_28 : decode cX7_firstRow 28 = .ok (.ireturn, 1) := by decide +kernel
theorem dX7_run_0 : decode cX7_run 0 = .ok (.iload_n 1, 1) := by decide +kernel
theorem dX7_run_1 : decode cX7_run 1 = .ok (.invokestatic 76, 3) := by decide +kernel
theorem dX7_run_4 : decode cX7_run 4 = .ok (.ifCond .eq 18, 3) := by decide +kernel
theorem dX7_run_7 : decode cX7_run 7 = .ok (.iload_n 2, 1) := by decide +kernel
theorem dX7_run_8 : decode cX7_run 8 = .ok (.iconst 0, 1) := by decide +kernel
theorem dX7_run_9 : decode cX7_run 9 = .ok (.aload_n 0, 1) := by decide +kernel
theorem dX7_run_10 : decode cX7_run 10 = .ok (.iload_n 1, 1) := by decide +kernel
theorem dX7_run_11 : decode cX7_run 11 = .ok (.invokevirtual 52, 3) := by decide +kernel
theorem dX7_run_14 : decode cX7_run 14 = .ok (.iconst 1, 1) := by decide +kernel
theorem dX7_run_15 : decode cX7_run 15 = .ok (.isub, 1) := by decide +kernel
theorem dX7_run_16 : decode cX7_run 16 = .ok (.invokestatic 48, 3) := by decide +kernel
theorem dX7_run_19 : decode cX7_run 19 = .ok (.ifCond .ne 5, 3) := by decide +kernel
theorem dX7_run_22 : decode cX7_run 22 = .ok (.iconst (-1), 1) := by decide +kernel
theorem dX7_run_23 : decode cX7_run 23 = .ok (.ireturn, 1) := by decide +kernel
theorem dX7_run_24 : decode cX7_run 24 = .ok (.iload_n 3, 1) := by decide +kernel
theorem dX7_run_25 : decode cX7_run 25 = .ok (.tableswitch 48 0 2 #[27, 34, 41], 27) := by decide +kernel
theorem dX7_run_52 : decode cX7_run 52 = .ok (.aload_n 0, 1) := by decide +kernel
theorem dX7_run_53 : decode cX7_run 53 = .ok (.iload_n 1, 1) := by decide +kernel
theorem dX7_run_54 : decode cX7_run 54 = .ok (.iload_n 2, 1) := by decide +kernel
theorem dX7_run_55 : decode cX7_run 55 = .ok (.invokevirtual 66, 3) := by decide +kernel
theorem dX7_run_58 : decode cX7_run 58 = .ok (.ireturn, 1) := by decide +kernel
theorem dX7_run_59 : decode cX7_run 59 = .ok (.aload_n 0, 1) := by decide +kernel
theorem dX7_run_60 : decode cX7_run 60 = .ok (.iload_n 1, 1) := by decide +kernel
theorem dX7_run_61 : decode cX7_run 61 = .ok (.iload_n 2, 1) := by decide +kernel
theorem dX7_run_62 : decode cX7_run 62 = .ok (.invokevirtual 56, 3) := by decide +kernel
theorem dX7_run_65 : decode cX7_run 65 = .ok (.ireturn, 1) := by decide +kernel
theorem dX7_run_66 : decode cX7_run 66 = .ok (.aload_n 0, 1) := by decide +kernel
theorem dX7_run_67 : decode cX7_run 67 = .ok (.iload_n 1, 1) := by decide +kernel
theorem dX7_run_68 : decode cX7_run 68 = .ok (.iload_n 2, 1) := by decide +kernel
theorem dX7_run_69 : decode cX7_run 69 = .ok (.invokevirtual 127, 3) := by decide +kernel
theorem dX7_run_72 : decode cX7_run 72 = .ok (.ireturn, 1) := by decide +kernel
theorem dX7_run_73 : decode cX7_run 73 = .ok (.bipush (-2), 2) := by decide +kernel
theorem dX7_run_75 : decode cX7_run 75 = .ok (.ireturn, 1) := by decide +kernel
theorem dX7_valueAt_0 : decode cX7_valueAt 0 = .ok (.iconst 0, 1) := by decide +kernel
theorem dX7_valueAt_1 : decode cX7_valueAt 1 = .ok (.istore_n 3, 1) := by decide +kernel
theorem dX7_valueAt_2 : decode cX7_valueAt 2 = .ok (.iload_n 2, 1) := by decide +kernel
theorem dX7_valueAt_3 : decode cX7_valueAt 3 = .ok (.istore 4, 2) := by decide +kernel
theorem dX7_valueAt_5 : decode cX7_valueAt 5 = .ok (.iload 4, 2) := by decide +kernel
theorem dX7_valueAt_7 : decode cX7_valueAt 7 = .ok (.aload_n 0, 1) := by decide +kernel
theorem dX7_valueAt_8 : decode cX7_valueAt 8 = .ok (.iload_n 1, 1) := by decide +kernel
theorem dX7_valueAt_9 : decode cX7_valueAt 9 = .ok (.iload_n 3, 1) := by decide +kernel
theorem dX7_valueAt_10 : decode cX7_valueAt 10 = .ok (.invokevirtual 56, 3) := by decide +kernel
theorem dX7_valueAt_13 : decode cX7_valueAt 13 = .ok (.if_icmp .lt 20, 3) := by decide +kernel
theorem dX7_valueAt_16 : decode cX7_valueAt 16 = .ok (.iload 4, 2) := by decide +kernel
theorem dX7_valueAt_18 : decode cX7_valueAt 18 = .ok (.aload_n 0, 1) := by decide +kernel
theorem dX7_valueAt_19 : decode cX7_valueAt 19 = .ok (.iload_n 1, 1) := by decide +kernel
theorem dX7_valueAt_20 : decode cX7_valueAt 20 = .ok (.iload_n 3, 1) := by decide +kernel
theorem dX7_valueAt_21 : decode cX7_valueAt 21 = .ok (.invokevirtual 56, 3) := by decide +kernel
theorem dX7_valueAt_24 : decode cX7_valueAt 24 = .ok (.isub, 1) := by decide +kernel
theorem dX7_valueAt_25 : decode cX7_valueAt 25 = .ok (.istore 4, 2) := by decide +kernel
theorem dX7_valueAt_27 : decode cX7_valueAt 27 = .ok (.iinc 3 1, 3) := by decide +kernel
theorem dX7_valueAt_30 : decode cX7_valueAt 30 = .ok (.goto (-25), 3) := by decide +kernel
theorem dX7_valueAt_33 : decode cX7_valueAt 33 = .ok (.aload_n 0, 1) := by decide +kernel
theorem dX7_valueAt_34 : decode cX7_valueAt 34 = .ok (.iload_n 1, 1) := by decide +kernel
theorem dX7_valueAt_35 : decode cX7_valueAt 35 = .ok (.iload_n 3, 1) := by decide +kernel
theorem dX7_valueAt_36 : decode cX7_valueAt 36 = .ok (.invokevirtual 66, 3) := by decide +kernel
theorem dX7_valueAt_39 : decode cX7_valueAt 39 = .ok (.ireturn, 1) := by decide +kernel
theorem dX7_value_0 : decode cX7_value 0 = .ok (.iload_n 1, 1) := by decide +kernel
theorem dX7_value_1 : decode cX7_value 1 = .ok (.invokestatic 76, 3) := by decide +kernel
theorem dX7_value_4 : decode cX7_value 4 = .ok (.ifCond .eq 21, 3) := by decide +kernel
theorem dX7_value_7 : decode cX7_value 7 = .ok (.aload_n 0, 1) := by decide +kernel
theorem dX7_value_8 : decode cX7_value 8 = .ok (.iload_n 1, 1) := by decide +kernel
theorem dX7_value_9 : decode cX7_value 9 = .ok (.iload_n 2, 1) := by decide +kernel
theorem dX7_value_10 : decode cX7_value 10 = .ok (.invokevirtual 101, 3) := by decide +kernel
theorem dX7_value_13 : decode cX7_value 13 = .ok (.ifCond .eq 12, 3) := by decide +kernel
theorem dX7_value_16 : decode cX7_value 16 = .ok (.aload_n 0, 1) := by decide +kernel
theorem dX7_value_17 : decode cX7_value 17 = .ok (.iload_n 1, 1) := by decide +kernel
theorem dX7_value_18 : decode cX7_value 18 = .ok (.iload_n 2, 1) := by decide +kernel
theorem dX7_value_19 : decode cX7_value 19 = .ok (.invokevirtual 115, 3) := by decide +kernel
theorem dX7_value_22 : decode cX7_value 22 = .ok (.goto 4, 3) := by decide +kernel
theorem dX7_value_25 : decode cX7_value 25 = .ok (.iconst (-1), 1) := by decide +kernel
theorem dX7_value_26 : decode cX7_value 26 = .ok (.ireturn, 1) := by decide +kernel
theorem dX7_find_0 : decode cX7_find 0 = .ok (.iload_n 1, 1) := by decide +kernel
theorem dX7_find_1 : decode cX7_find 1 = .ok (.invokestatic 76, 3) := by decide +kernel
theorem dX7_find_4 : decode cX7_find 4 = .ok (.ifCond .ne 5, 3) := by decide +kernel
theorem dX7_find_7 : decode cX7_find 7 = .ok (.iconst (-1), 1) := by decide +kernel
theorem dX7_find_8 : decode cX7_find 8 = .ok (.ireturn, 1) := by decide +kernel
theorem dX7_find_9 : decode cX7_find 9 = .ok (.iload_n 2, 1) := by decide +kernel
theorem dX7_find_10 : decode cX7_find 10 = .ok (.invokestatic 80, 3) := by decide +kernel
theorem dX7_find_13 : decode cX7_find 13 = .ok (.ifCond .eq 7, 3) := by decide +kernel
theorem dX7_find_16 : decode cX7_find 16 = .ok (.iload_n 3, 1) := by decide +kernel
theorem dX7_find_17 : decode cX7_find 17 = .ok (.ifCond .ge 6, 3) := by decide +kernel
theorem dX7_find_20 : decode cX7_find 20 = .ok (.bipush (-2), 2) := by decide +kernel
theorem dX7_find_22 : decode cX7_find 22 = .ok (.ireturn, 1) := by decide +kernel
theorem dX7_find_23 : decode cX7_find 23 = .ok (.aload_n 0, 1) := by decide +kernel
theorem dX7_find_24 : decode cX7_find 24 = .ok (.iload_n 1, 1) := by decide +kernel
theorem dX7_find_25 : decode cX7_find 25 = .ok (.invokevirtual 83, 3) := by decide +kernel
theorem dX7_find_28 : decode cX7_find 28 = .ok (.iload_n 3, 1) := by decide +kernel
theorem dX7_find_29 : decode cX7_find 29 = .ok (.istore 4, 2) := by decide +kernel
theorem dX7_find_31 : decode cX7_find 31 = .ok (.iconst 0, 1) := by decide +kernel
theorem dX7_find_32 : decode cX7_find 32 = .ok (.istore 5, 2) := by decide +kernel
theorem dX7_find_34 : decode cX7_find 34 = .ok (.iload 5, 2) := by decide +kernel
theorem dX7_find_36 : decode cX7_find 36 = .ok (.aload_n 0, 1) := by decide +kernel
theorem dX7_find_37 : decode cX7_find 37 = .ok (.getfield 63, 3) := by decide +kernel
theorem dX7_find_40 : decode cX7_find 40 = .ok (.if_icmp .ge 49, 3) := by decide +kernel
theorem dX7_find_43 : decode cX7_find 43 = .ok (.aload_n 0, 1) := by decide +kernel
theorem dX7_find_44 : decode cX7_find 44 = .ok (.getfield 25, 3) := by decide +kernel
theorem dX7_find_47 : decode cX7_find 47 = .ok (.iload 5, 2) := by decide +kernel
theorem dX7_find_49 : decode cX7_find 49 = .ok (.iaload, 1) := by decide +kernel
theorem dX7_find_50 : decode cX7_find 50 = .ok (.iload_n 2, 1) := by decide +kernel
theorem dX7_find_51 : decode cX7_find 51 = .ok (.if_icmp .ne 11, 3) := by decide +kernel
theorem dX7_find_54 : decode cX7_find 54 = .ok (.iload 4, 2) := by decide +kernel
theorem dX7_find_56 : decode cX7_find 56 = .ok (.ifCond .ne 6, 3) := by decide +kernel
theorem dX7_find_59 : decode cX7_find 59 = .ok (.iload 5, 2) := by decide +kernel
theorem dX7_find_61 : decode cX7_find 61 = .ok (.ireturn, 1) := by decide +kernel
theorem dX7_find_62 : decode cX7_find 62 = .ok (.iload 4, 2) := by decide +kernel
theorem dX7_find_64 : decode cX7_find 64 = .ok (.aload_n 0, 1) := by decide +kernel
theorem dX7_find_65 : decode cX7_find 65 = .ok (.getfield 25, 3) := by decide +kernel
theorem dX7_find_68 : decode cX7_find 68 = .ok (.iload 5, 2) := by decide +kernel
theorem dX7_find_70 : decode cX7_find 70 = .ok (.iaload, 1) := by decide +kernel
theorem dX7_find_71 : decode cX7_find 71 = .ok (.iload_n 2, 1) := by decide +kernel
theorem dX7_find_72 : decode cX7_find 72 = .ok (.if_icmp .ne 7, 3) := by decide +kernel
theorem dX7_find_75 : decode cX7_find 75 = .ok (.iconst 1, 1) := by decide +kernel
theorem dX7_find_76 : decode cX7_find 76 = .ok (.goto 4, 3) := by decide +kernel
theorem dX7_find_79 : decode cX7_find 79 = .ok (.iconst 0, 1) := by decide +kernel
theorem dX7_find_80 : decode cX7_find 80 = .ok (.isub, 1) := by decide +kernel
theorem dX7_find_81 : decode cX7_find 81 = .ok (.istore 4, 2) := by decide +kernel
theorem dX7_find_83 : decode cX7_find 83 = .ok (.iinc 5 1, 3) := by decide +kernel
theorem dX7_find_86 : decode cX7_find 86 = .ok (.goto (-52), 3) := by decide +kernel
theorem dX7_find_89 : decode cX7_find 89 = .ok (.bipush (-6), 2) := by decide +kernel
theorem dX7_find_91 : decode cX7_find 91 = .ok (.ireturn, 1) := by decide +kernel
theorem dX7_sumOf_0 : decode cX7_sumOf 0 = .ok (.iconst 0, 1) := by decide +kernel
theorem dX7_sumOf_1 : decode cX7_sumOf 1 = .ok (.istore_n 2, 1) := by decide +kernel
theorem dX7_sumOf_2 : decode cX7_sumOf 2 = .ok (.iconst 0, 1) := by decide +kernel
theorem dX7_sumOf_3 : decode cX7_sumOf 3 = .ok (.istore_n 3, 1) := by decide +kernel
theorem dX7_sumOf_4 : decode cX7_sumOf 4 = .ok (.iload_n 3, 1) := by decide +kernel
theorem dX7_sumOf_5 : decode cX7_sumOf 5 = .ok (.aload_n 0, 1) := by decide +kernel
theorem dX7_sumOf_6 : decode cX7_sumOf 6 = .ok (.iload_n 1, 1) := by decide +kernel
theorem dX7_sumOf_7 : decode cX7_sumOf 7 = .ok (.invokevirtual 52, 3) := by decide +kernel
theorem dX7_sumOf_10 : decode cX7_sumOf 10 = .ok (.if_icmp .ge 25, 3) := by decide +kernel
theorem dX7_sumOf_13 : decode cX7_sumOf 13 = .ok (.iload_n 2, 1) := by decide +kernel
theorem dX7_sumOf_14 : decode cX7_sumOf 14 = .ok (.aload_n 0, 1) := by decide +kernel
theorem dX7_sumOf_15 : decode cX7_sumOf 15 = .ok (.iload_n 1, 1) := by decide +kernel
theorem dX7_sumOf_16 : decode cX7_sumOf 16 = .ok (.iload_n 3, 1) := by decide +kernel
theorem dX7_sumOf_17 : decode cX7_sumOf 17 = .ok (.invokevirtual 66, 3) := by decide +kernel
theorem dX7_sumOf_20 : decode cX7_sumOf 20 = .ok (.aload_n 0, 1) := by decide +kernel
theorem dX7_sumOf_21 : decode cX7_sumOf 21 = .ok (.iload_n 1, 1) := by decide +kernel
theorem dX7_sumOf_22 : decode cX7_sumOf 22 = .ok (.iload_n 3, 1) := by decide +kernel
theorem dX7_sumOf_23 : decode cX7_sumOf 23 = .ok (.invokevirtual 56, 3) := by decide +kernel
theorem dX7_sumOf_26 : decode cX7_sumOf 26 = .ok (.imul, 1) := by decide +kernel
theorem dX7_sumOf_27 : decode cX7_sumOf 27 = .ok (.iadd, 1) := by decide +kernel
theorem dX7_sumOf_28 : decode cX7_sumOf 28 = .ok (.istore_n 2, 1) := by decide +kernel
theorem dX7_sumOf_29 : decode cX7_sumOf 29 = .ok (.iinc 3 1, 3) := by decide +kernel
theorem dX7_sumOf_32 : decode cX7_sumOf 32 = .ok (.goto (-28), 3) := by decide +kernel
theorem dX7_sumOf_35 : decode cX7_sumOf 35 = .ok (.iload_n 2, 1) := by decide +kernel
theorem dX7_sumOf_36 : decode cX7_sumOf 36 = .ok (.ireturn, 1) := by decide +kernel
theorem dX7_valuesOf_0 : decode cX7_valuesOf 0 = .ok (.iconst 0, 1) := by decide +kernel
theorem dX7_valuesOf_1 : decode cX7_valuesOf 1 = .ok (.istore_n 2, 1) := by decide +kernel
theorem dX7_valuesOf_2 : decode cX7_valuesOf 2 = .ok (.iconst 0, 1) := by decide +kernel
theorem dX7_valuesOf_3 : decode cX7_valuesOf 3 = .ok (.istore_n 3, 1) := by decide +kernel
theorem dX7_valuesOf_4 : decode cX7_valuesOf 4 = .ok (.iload_n 3, 1) := by decide +kernel
theorem dX7_valuesOf_5 : decode cX7_valuesOf 5 = .ok (.aload_n 0, 1) := by decide +kernel
theorem dX7_valuesOf_6 : decode cX7_valuesOf 6 = .ok (.iload_n 1, 1) := by decide +kernel
theorem dX7_valuesOf_7 : decode cX7_valuesOf 7 = .ok (.invokevirtual 52, 3) := by decide +kernel
theorem dX7_valuesOf_10 : decode cX7_valuesOf 10 = .ok (.if_icmp .ge 20, 3) := by decide +kernel
theorem dX7_valuesOf_13 : decode cX7_valuesOf 13 = .ok (.iload_n 2, 1) := by decide +kernel
theorem dX7_valuesOf_14 : decode cX7_valuesOf 14 = .ok (.iconst 1, 1) := by decide +kernel
theorem dX7_valuesOf_15 : decode cX7_valuesOf 15 = .ok (.aload_n 0, 1) := by decide +kernel
theorem dX7_valuesOf_16 : decode cX7_valuesOf 16 = .ok (.iload_n 1, 1) := by decide +kernel
theorem dX7_valuesOf_17 : decode cX7_valuesOf 17 = .ok (.iload_n 3, 1) := by decide +kernel
theorem dX7_valuesOf_18 : decode cX7_valuesOf 18 = .ok (.invokevirtual 66, 3) := by decide +kernel
theorem dX7_valuesOf_21 : decode cX7_valuesOf 21 = .ok (.ishl, 1) := by decide +kernel
theorem dX7_valuesOf_22 : decode cX7_valuesOf 22 = .ok (.ior, 1) := by decide +kernel
theorem dX7_valuesOf_23 : decode cX7_valuesOf 23 = .ok (.istore_n 2, 1) := by decide +kernel
theorem dX7_valuesOf_24 : decode cX7_valuesOf 24 = .ok (.iinc 3 1, 3) := by decide +kernel
theorem dX7_valuesOf_27 : decode cX7_valuesOf 27 = .ok (.goto (-23), 3) := by decide +kernel
theorem dX7_valuesOf_30 : decode cX7_valuesOf 30 = .ok (.iload_n 2, 1) := by decide +kernel
theorem dX7_valuesOf_31 : decode cX7_valuesOf 31 = .ok (.ireturn, 1) := by decide +kernel
theorem dX7_bits_0 : decode cX7_bits 0 = .ok (.iconst 0, 1) := by decide +kernel
theorem dX7_bits_1 : decode cX7_bits 1 = .ok (.istore_n 1, 1) := by decide +kernel
theorem dX7_bits_2 : decode cX7_bits 2 = .ok (.iconst 0, 1) := by decide +kernel
theorem dX7_bits_3 : decode cX7_bits 3 = .ok (.istore_n 2, 1) := by decide +kernel
theorem dX7_bits_4 : decode cX7_bits 4 = .ok (.iload_n 2, 1) := by decide +kernel
theorem dX7_bits_5 : decode cX7_bits 5 = .ok (.bipush 10, 2) := by decide +kernel
theorem dX7_bits_7 : decode cX7_bits 7 = .ok (.if_icmp .ge 17, 3) := by decide +kernel
theorem dX7_bits_10 : decode cX7_bits 10 = .ok (.iload_n 1, 1) := by decide +kernel
theorem dX7_bits_11 : decode cX7_bits 11 = .ok (.iload_n 0, 1) := by decide +kernel
theorem dX7_bits_12 : decode cX7_bits 12 = .ok (.iload_n 2, 1) := by decide +kernel
theorem dX7_bits_13 : decode cX7_bits 13 = .ok (.ishr, 1) := by decide +kernel
theorem dX7_bits_14 : decode cX7_bits 14 = .ok (.iconst 1, 1) := by decide +kernel
theorem dX7_bits_15 : decode cX7_bits 15 = .ok (.iand, 1) := by decide +kernel
theorem dX7_bits_16 : decode cX7_bits 16 = .ok (.iadd, 1) := by decide +kernel
theorem dX7_bits_17 : decode cX7_bits 17 = .ok (.istore_n 1, 1) := by decide +kernel
theorem dX7_bits_18 : decode cX7_bits 18 = .ok (.iinc 2 1, 3) := by decide +kernel
theorem dX7_bits_21 : decode cX7_bits 21 = .ok (.goto (-17), 3) := by decide +kernel
theorem dX7_bits_24 : decode cX7_bits 24 = .ok (.iload_n 1, 1) := by decide +kernel
theorem dX7_bits_25 : decode cX7_bits 25 = .ok (.ireturn, 1) := by decide +kernel
theorem dX7_isInOrder_0 : decode cX7_isInOrder 0 = .ok (.iconst 1, 1) := by decide +kernel
theorem dX7_isInOrder_1 : decode cX7_isInOrder 1 = .ok (.istore_n 3, 1) := by decide +kernel
theorem dX7_isInOrder_2 : decode cX7_isInOrder 2 = .ok (.iconst 1, 1) := by decide +kernel
theorem dX7_isInOrder_3 : decode cX7_isInOrder 3 = .ok (.istore 4, 2) := by decide +kernel
theorem dX7_isInOrder_5 : decode cX7_isInOrder 5 = .ok (.iload 4, 2) := by decide +kernel
theorem dX7_isInOrder_7 : decode cX7_isInOrder 7 = .ok (.aload_n 0, 1) := by decide +kernel
theorem dX7_isInOrder_8 : decode cX7_isInOrder 8 = .ok (.iload_n 1, 1) := by decide +kernel
theorem dX7_isInOrder_9 : decode cX7_isInOrder 9 = .ok (.invokevirtual 52, 3) := by decide +kernel
theorem dX7_isInOrder_12 : decode cX7_isInOrder 12 = .ok (.if_icmp .ge 64, 3) := by decide +kernel
theorem dX7_isInOrder_15 : decode cX7_isInOrder 15 = .ok (.iload_n 3, 1) := by decide +kernel
theorem dX7_isInOrder_16 : decode cX7_isInOrder 16 = .ok (.ifCond .eq 52, 3) := by decide +kernel
theorem dX7_isInOrder_19 : decode cX7_isInOrder 19 = .ok (.iload_n 2, 1) := by decide +kernel
theorem dX7_isInOrder_20 : decode cX7_isInOrder 20 = .ok (.ifCond .eq 25, 3) := by decide +kernel
theorem dX7_isInOrder_23 : decode cX7_isInOrder 23 = .ok (.aload_n 0, 1) := by decide +kernel
theorem dX7_isInOrder_24 : decode cX7_isInOrder 24 = .ok (.iload_n 1, 1) := by decide +kernel
theorem dX7_isInOrder_25 : decode cX7_isInOrder 25 = .ok (.iload 4, 2) := by decide +kernel
theorem dX7_isInOrder_27 : decode cX7_isInOrder 27 = .ok (.invokevirtual 66, 3) := by decide +kernel
theorem dX7_isInOrder_30 : decode cX7_isInOrder 30 = .ok (.aload_n 0, 1) := by decide +kernel
theorem dX7_isInOrder_31 : decode cX7_isInOrder 31 = .ok (.iload_n 1, 1) := by decide +kernel
theorem dX7_isInOrder_32 : decode cX7_isInOrder 32 = .ok (.iload 4, 2) := by decide +kernel
theorem dX7_isInOrder_34 : decode cX7_isInOrder 34 = .ok (.iconst 1, 1) := by decide +kernel
theorem dX7_isInOrder_35 : decode cX7_isInOrder 35 = .ok (.isub, 1) := by decide +kernel
theorem dX7_isInOrder_36 : decode cX7_isInOrder 36 = .ok (.invokevirtual 66, 3) := by decide +kernel
theorem dX7_isInOrder_39 : decode cX7_isInOrder 39 = .ok (.if_icmp .le 29, 3) := by decide +kernel
theorem dX7_isInOrder_42 : decode cX7_isInOrder 42 = .ok (.goto 22, 3) := by decide +kernel
theorem dX7_isInOrder_45 : decode cX7_isInOrder 45 = .ok (.aload_n 0, 1) := by decide +kernel
theorem dX7_isInOrder_46 : decode cX7_isInOrder 46 = .ok (.iload_n 1, 1) := by decide +kernel
theorem dX7_isInOrder_47 : decode cX7_isInOrder 47 = .ok (.iload 4, 2) := by decide +kernel
theorem dX7_isInOrder_49 : decode cX7_isInOrder 49 = .ok (.invokevirtual 66, 3) := by decide +kernel
theorem dX7_isInOrder_52 : decode cX7_isInOrder 52 = .ok (.aload_n 0, 1) := by decide +kernel
theorem dX7_isInOrder_53 : decode cX7_isInOrder 53 = .ok (.iload_n 1, 1) := by decide +kernel
theorem dX7_isInOrder_54 : decode cX7_isInOrder 54 = .ok (.iload 4, 2) := by decide +kernel
theorem dX7_isInOrder_56 : decode cX7_isInOrder 56 = .ok (.iconst 1, 1) := by decide +kernel
theorem dX7_isInOrder_57 : decode cX7_isInOrder 57 = .ok (.isub, 1) := by decide +kernel
theorem dX7_isInOrder_58 : decode cX7_isInOrder 58 = .ok (.invokevirtual 66, 3) := by decide +kernel
theorem dX7_isInOrder_61 : decode cX7_isInOrder 61 = .ok (.if_icmp .ge 7, 3) := by decide +kernel
theorem dX7_isInOrder_64 : decode cX7_isInOrder 64 = .ok (.iconst 1, 1) := by decide +kernel
theorem dX7_isInOrder_65 : decode cX7_isInOrder 65 = .ok (.goto 4, 3) := by decide +kernel
theorem dX7_isInOrder_68 : decode cX7_isInOrder 68 = .ok (.iconst 0, 1) := by decide +kernel
theorem dX7_isInOrder_69 : decode cX7_isInOrder 69 = .ok (.istore_n 3, 1) := by decide +kernel
theorem dX7_isInOrder_70 : decode cX7_isInOrder 70 = .ok (.iinc 4 1, 3) := by decide +kernel
theorem dX7_isInOrder_73 : decode cX7_isInOrder 73 = .ok (.goto (-68), 3) := by decide +kernel
theorem dX7_isInOrder_76 : decode cX7_isInOrder 76 = .ok (.iload_n 3, 1) := by decide +kernel
theorem dX7_isInOrder_77 : decode cX7_isInOrder 77 = .ok (.ireturn, 1) := by decide +kernel
theorem dX7_longest_0 : decode cX7_longest 0 = .ok (.iconst 0, 1) := by decide +kernel
theorem dX7_longest_1 : decode cX7_longest 1 = .ok (.istore_n 3, 1) := by decide +kernel
theorem dX7_longest_2 : decode cX7_longest 2 = .ok (.iconst 0, 1) := by decide +kernel
theorem dX7_longest_3 : decode cX7_longest 3 = .ok (.istore 4, 2) := by decide +kernel
theorem dX7_longest_5 : decode cX7_longest 5 = .ok (.iload 4, 2) := by decide +kernel
theorem dX7_longest_7 : decode cX7_longest 7 = .ok (.aload_n 0, 1) := by decide +kernel
theorem dX7_longest_8 : decode cX7_longest 8 = .ok (.iload_n 1, 1) := by decide +kernel
theorem dX7_longest_9 : decode cX7_longest 9 = .ok (.invokevirtual 52, 3) := by decide +kernel
theorem dX7_longest_12 : decode cX7_longest 12 = .ok (.if_icmp .ge 59, 3) := by decide +kernel
theorem dX7_longest_15 : decode cX7_longest 15 = .ok (.iload_n 2, 1) := by decide +kernel
theorem dX7_longest_16 : decode cX7_longest 16 = .ok (.ifCond .lt 14, 3) := by decide +kernel
theorem dX7_longest_19 : decode cX7_longest 19 = .ok (.aload_n 0, 1) := by decide +kernel
theorem dX7_longest_20 : decode cX7_longest 20 = .ok (.iload_n 1, 1) := by decide +kernel
theorem dX7_longest_21 : decode cX7_longest 21 = .ok (.iload 4, 2) := by decide +kernel
theorem dX7_longest_23 : decode cX7_longest 23 = .ok (.invokevirtual 66, 3) := by decide +kernel
theorem dX7_longest_26 : decode cX7_longest 26 = .ok (.iload_n 2, 1) := by decide +kernel
theorem dX7_longest_27 : decode cX7_longest 27 = .ok (.if_icmp .ne 7, 3) := by decide +kernel
theorem dX7_longest_30 : decode cX7_longest 30 = .ok (.iconst 1, 1) := by decide +kernel
theorem dX7_longest_31 : decode cX7_longest 31 = .ok (.goto 4, 3) := by decide +kernel
theorem dX7_longest_34 : decode cX7_longest 34 = .ok (.iconst 0, 1) := by decide +kernel
theorem dX7_longest_35 : decode cX7_longest 35 = .ok (.istore 5, 2) := by decide +kernel
theorem dX7_longest_37 : decode cX7_longest 37 = .ok (.iload 5, 2) := by decide +kernel
theorem dX7_longest_39 : decode cX7_longest 39 = .ok (.ifCond .eq 24, 3) := by decide +kernel
theorem dX7_longest_42 : decode cX7_longest 42 = .ok (.aload_n 0, 1) := by decide +kernel
theorem dX7_longest_43 : decode cX7_longest 43 = .ok (.iload_n 1, 1) := by decide +kernel
theorem dX7_longest_44 : decode cX7_longest 44 = .ok (.iload 4, 2) := by decide +kernel
theorem dX7_longest_46 : decode cX7_longest 46 = .ok (.invokevirtual 56, 3) := by decide +kernel
theorem dX7_longest_49 : decode cX7_longest 49 = .ok (.iload_n 3, 1) := by decide +kernel
theorem dX7_longest_50 : decode cX7_longest 50 = .ok (.if_icmp .le 13, 3) := by decide +kernel
theorem dX7_longest_53 : decode cX7_longest 53 = .ok (.aload_n 0, 1) := by decide +kernel
theorem dX7_longest_54 : decode cX7_longest 54 = .ok (.iload_n 1, 1) := by decide +kernel
theorem dX7_longest_55 : decode cX7_longest 55 = .ok (.iload 4, 2) := by decide +kernel
theorem dX7_longest_57 : decode cX7_longest 57 = .ok (.invokevirtual 56, 3) := by decide +kernel
theorem dX7_longest_60 : decode cX7_longest 60 = .ok (.goto 4, 3) := by decide +kernel
theorem dX7_longest_63 : decode cX7_longest 63 = .ok (.iload_n 3, 1) := by decide +kernel
theorem dX7_longest_64 : decode cX7_longest 64 = .ok (.istore_n 3, 1) := by decide +kernel
theorem dX7_longest_65 : decode cX7_longest 65 = .ok (.iinc 4 1, 3) := by decide +kernel
theorem dX7_longest_68 : decode cX7_longest 68 = .ok (.goto (-63), 3) := by decide +kernel
theorem dX7_longest_71 : decode cX7_longest 71 = .ok (.iload_n 3, 1) := by decide +kernel
theorem dX7_longest_72 : decode cX7_longest 72 = .ok (.ireturn, 1) := by decide +kernel
theorem dX7_ofColumn_0 : decode cX7_ofColumn 0 = .ok (.iload_n 1, 1) := by decide +kernel
theorem dX7_ofColumn_1 : decode cX7_ofColumn 1 = .ok (.invokestatic 76, 3) := by decide +kernel
theorem dX7_ofColumn_4 : decode cX7_ofColumn 4 = .ok (.ifCond .ne 5, 3) := by decide +kernel
theorem dX7_ofColumn_7 : decode cX7_ofColumn 7 = .ok (.iconst (-1), 1) := by decide +kernel
theorem dX7_ofColumn_8 : decode cX7_ofColumn 8 = .ok (.ireturn, 1) := by decide +kernel
theorem dX7_ofColumn_9 : decode cX7_ofColumn 9 = .ok (.iload_n 2, 1) := by decide +kernel
theorem dX7_ofColumn_10 : decode cX7_ofColumn 10 = .ok (.tableswitch 104 0 6 #[42, 48, 54, 60, 68, 74, 89], 42) := by decide +kernel
theorem dX7_ofColumn_52 : decode cX7_ofColumn 52 = .ok (.aload_n 0, 1) := by decide +kernel
theorem dX7_ofColumn_53 : decode cX7_ofColumn 53 = .ok (.iload_n 1, 1) := by decide +kernel
theorem dX7_ofColumn_54 : decode cX7_ofColumn 54 = .ok (.invokevirtual 60, 3) := by decide +kernel
theorem dX7_ofColumn_57 : decode cX7_ofColumn 57 = .ok (.ireturn, 1) := by decide +kernel
theorem dX7_ofColumn_58 : decode cX7_ofColumn 58 = .ok (.aload_n 0, 1) := by decide +kernel
theorem dX7_ofColumn_59 : decode cX7_ofColumn 59 = .ok (.iload_n 1, 1) := by decide +kernel
theorem dX7_ofColumn_60 : decode cX7_ofColumn 60 = .ok (.invokevirtual 52, 3) := by decide +kernel
theorem dX7_ofColumn_63 : decode cX7_ofColumn 63 = .ok (.ireturn, 1) := by decide +kernel
theorem dX7_ofColumn_64 : decode cX7_ofColumn 64 = .ok (.aload_n 0, 1) := by decide +kernel
theorem dX7_ofColumn_65 : decode cX7_ofColumn 65 = .ok (.iload_n 1, 1) := by decide +kernel
theorem dX7_ofColumn_66 : decode cX7_ofColumn 66 = .ok (.invokevirtual 130, 3) := by decide +kernel
theorem dX7_ofColumn_69 : decode cX7_ofColumn 69 = .ok (.ireturn, 1) := by decide +kernel
theorem dX7_ofColumn_70 : decode cX7_ofColumn 70 = .ok (.aload_n 0, 1) := by decide +kernel
theorem dX7_ofColumn_71 : decode cX7_ofColumn 71 = .ok (.iload_n 1, 1) := by decide +kernel
theorem dX7_ofColumn_72 : decode cX7_ofColumn 72 = .ok (.bipush (-6), 2) := by decide +kernel
theorem dX7_ofColumn_74 : decode cX7_ofColumn 74 = .ok (.invokevirtual 133, 3) := by decide +kernel
theorem dX7_ofColumn_77 : decode cX7_ofColumn 77 = .ok (.ireturn, 1) := by decide +kernel
theorem dX7_ofColumn_78 : decode cX7_ofColumn 78 = .ok (.aload_n 0, 1) := by decide +kernel
theorem dX7_ofColumn_79 : decode cX7_ofColumn 79 = .ok (.iload_n 1, 1) := by decide +kernel
theorem dX7_ofColumn_80 : decode cX7_ofColumn 80 = .ok (.invokevirtual 136, 3) := by decide +kernel
theorem dX7_ofColumn_83 : decode cX7_ofColumn 83 = .ok (.ireturn, 1) := by decide +kernel
theorem dX7_ofColumn_84 : decode cX7_ofColumn 84 = .ok (.aload_n 0, 1) := by decide +kernel
theorem dX7_ofColumn_85 : decode cX7_ofColumn 85 = .ok (.iload_n 1, 1) := by decide +kernel
theorem dX7_ofColumn_86 : decode cX7_ofColumn 86 = .ok (.iconst 1, 1) := by decide +kernel
theorem dX7_ofColumn_87 : decode cX7_ofColumn 87 = .ok (.invokevirtual 139, 3) := by decide +kernel
theorem dX7_ofColumn_90 : decode cX7_ofColumn 90 = .ok (.ifCond .eq 7, 3) := by decide +kernel
theorem dX7_ofColumn_93 : decode cX7_ofColumn 93 = .ok (.iconst 1, 1) := by decide +kernel
theorem dX7_ofColumn_94 : decode cX7_ofColumn 94 = .ok (.goto 4, 3) := by decide +kernel
theorem dX7_ofColumn_97 : decode cX7_ofColumn 97 = .ok (.iconst 0, 1) := by decide +kernel
theorem dX7_ofColumn_98 : decode cX7_ofColumn 98 = .ok (.ireturn, 1) := by decide +kernel
theorem dX7_ofColumn_99 : decode cX7_ofColumn 99 = .ok (.aload_n 0, 1) := by decide +kernel
theorem dX7_ofColumn_100 : decode cX7_ofColumn 100 = .ok (.iload_n 1, 1) := by decide +kernel
theorem dX7_ofColumn_101 : decode cX7_ofColumn 101 = .ok (.iconst 0, 1) := by decide +kernel
theorem dX7_ofColumn_102 : decode cX7_ofColumn 102 = .ok (.invokevirtual 139, 3) := by decide +kernel
theorem dX7_ofColumn_105 : decode cX7_ofColumn 105 = .ok (.ifCond .eq 7, 3) := by decide +kernel
theorem dX7_ofColumn_108 : decode cX7_ofColumn 108 = .ok (.iconst 1, 1) := by decide +kernel
theorem dX7_ofColumn_109 : decode cX7_ofColumn 109 = .ok (.goto 4, 3) := by decide +kernel
theorem dX7_ofColumn_112 : decode cX7_ofColumn 112 = .ok (.iconst 0, 1) := by decide +kernel
theorem dX7_ofColumn_113 : decode cX7_ofColumn 113 = .ok (.ireturn, 1) := by decide +kernel
theorem dX7_ofColumn_114 : decode cX7_ofColumn 114 = .ok (.bipush (-2), 2) := by decide +kernel
theorem dX7_ofColumn_116 : decode cX7_ofColumn 116 = .ok (.ireturn, 1) := by decide +kernel
theorem dX7_ofValue_0 : decode cX7_ofValue 0 = .ok (.iconst 0, 1) := by decide +kernel
theorem dX7_ofValue_1 : decode cX7_ofValue 1 = .ok (.istore 4, 2) := by decide +kernel
theorem dX7_ofValue_3 : decode cX7_ofValue 3 = .ok (.iconst 0, 1) := by decide +kernel
theorem dX7_ofValue_4 : decode cX7_ofValue 4 = .ok (.istore 5, 2) := by decide +kernel
theorem dX7_ofValue_6 : decode cX7_ofValue 6 = .ok (.iload 5, 2) := by decide +kernel
theorem dX7_ofValue_8 : decode cX7_ofValue 8 = .ok (.aload_n 0, 1) := by decide +kernel
theorem dX7_ofValue_9 : decode cX7_ofValue 9 = .ok (.iload_n 1, 1) := by decide +kernel
theorem dX7_ofValue_10 : decode cX7_ofValue 10 = .ok (.invokevirtual 52, 3) := by decide +kernel
theorem dX7_ofValue_13 : decode cX7_ofValue 13 = .ok (.if_icmp .ge 48, 3) := by decide +kernel
theorem dX7_ofValue_16 : decode cX7_ofValue 16 = .ok (.iload_n 3, 1) := by decide +kernel
theorem dX7_ofValue_17 : decode cX7_ofValue 17 = .ok (.ifCond .eq 7, 3) := by decide +kernel
theorem dX7_ofValue_20 : decode cX7_ofValue 20 = .ok (.iconst 1, 1) := by decide +kernel
theorem dX7_ofValue_21 : decode cX7_ofValue 21 = .ok (.goto 10, 3) := by decide +kernel
theorem dX7_ofValue_24 : decode cX7_ofValue 24 = .ok (.aload_n 0, 1) := by decide +kernel
theorem dX7_ofValue_25 : decode cX7_ofValue 25 = .ok (.iload_n 1, 1) := by decide +kernel
theorem dX7_ofValue_26 : decode cX7_ofValue 26 = .ok (.iload 5, 2) := by decide +kernel
theorem dX7_ofValue_28 : decode cX7_ofValue 28 = .ok (.invokevirtual 56, 3) := by decide +kernel
theorem dX7_ofValue_31 : decode cX7_ofValue 31 = .ok (.istore 6, 2) := by decide +kernel
theorem dX7_ofValue_33 : decode cX7_ofValue 33 = .ok (.iload 4, 2) := by decide +kernel
theorem dX7_ofValue_35 : decode cX7_ofValue 35 = .ok (.aload_n 0, 1) := by decide +kernel
theorem dX7_ofValue_36 : decode cX7_ofValue 36 = .ok (.iload_n 1, 1) := by decide +kernel
theorem dX7_ofValue_37 : decode cX7_ofValue 37 = .ok (.iload 5, 2) := by decide +kernel
theorem dX7_ofValue_39 : decode cX7_ofValue 39 = .ok (.invokevirtual 66, 3) := by decide +kernel
theorem dX7_ofValue_42 : decode cX7_ofValue 42 = .ok (.iload_n 2, 1) := by decide +kernel
theorem dX7_ofValue_43 : decode cX7_ofValue 43 = .ok (.if_icmp .ne 8, 3) := by decide +kernel
theorem dX7_ofValue_46 : decode cX7_ofValue 46 = .ok (.iload 6, 2) := by decide +kernel
theorem dX7_ofValue_48 : decode cX7_ofValue 48 = .ok (.goto 4, 3) := by decide +kernel
theorem dX7_ofValue_51 : decode cX7_ofValue 51 = .ok (.iconst 0, 1) := by decide +kernel
theorem dX7_ofValue_52 : decode cX7_ofValue 52 = .ok (.iadd, 1) := by decide +kernel
theorem dX7_ofValue_53 : decode cX7_ofValue 53 = .ok (.istore 4, 2) := by decide +kernel
theorem dX7_ofValue_55 : decode cX7_ofValue 55 = .ok (.iinc 5 1, 3) := by decide +kernel
theorem dX7_ofValue_58 : decode cX7_ofValue 58 = .ok (.goto (-52), 3) := by decide +kernel
theorem dX7_ofValue_61 : decode cX7_ofValue 61 = .ok (.iload 4, 2) := by decide +kernel
theorem dX7_ofValue_63 : decode cX7_ofValue 63 = .ok (.ireturn, 1) := by decide +kernel
theorem dX7_group_0 : decode cX7_group 0 = .ok (.iload_n 1, 1) := by decide +kernel
theorem dX7_group_1 : decode cX7_group 1 = .ok (.invokestatic 76, 3) := by decide +kernel
theorem dX7_group_4 : decode cX7_group 4 = .ok (.ifCond .ne 5, 3) := by decide +kernel
theorem dX7_group_7 : decode cX7_group 7 = .ok (.iconst (-1), 1) := by decide +kernel
theorem dX7_group_8 : decode cX7_group 8 = .ok (.ireturn, 1) := by decide +kernel
theorem dX7_group_9 : decode cX7_group 9 = .ok (.iload_n 2, 1) := by decide +kernel
theorem dX7_group_10 : decode cX7_group 10 = .ok (.invokestatic 80, 3) := by decide +kernel
theorem dX7_group_13 : decode cX7_group 13 = .ok (.ifCond .eq 12, 3) := by decide +kernel
theorem dX7_group_16 : decode cX7_group 16 = .ok (.iload_n 3, 1) := by decide +kernel
theorem dX7_group_17 : decode cX7_group 17 = .ok (.iconst 0, 1) := by decide +kernel
theorem dX7_group_18 : decode cX7_group 18 = .ok (.iconst 2, 1) := by decide +kernel
theorem dX7_group_19 : decode cX7_group 19 = .ok (.invokestatic 48, 3) := by decide +kernel
theorem dX7_group_22 : decode cX7_group 22 = .ok (.ifCond .ne 6, 3) := by decide +kernel
theorem dX7_group_25 : decode cX7_group 25 = .ok (.bipush (-2), 2) := by decide +kernel
theorem dX7_group_27 : decode cX7_group 27 = .ok (.ireturn, 1) := by decide +kernel
theorem dX7_group_28 : decode cX7_group 28 = .ok (.iload_n 3, 1) := by decide +kernel
theorem dX7_group_29 : decode cX7_group 29 = .ok (.iconst 2, 1) := by decide +kernel
theorem dX7_group_30 : decode cX7_group 30 = .ok (.if_icmp .ne 12, 3) := by decide +kernel
theorem dX7_group_33 : decode cX7_group 33 = .ok (.aload_n 0, 1) := by decide +kernel
theorem dX7_group_34 : decode cX7_group 34 = .ok (.iload_n 1, 1) := by decide +kernel
theorem dX7_group_35 : decode cX7_group 35 = .ok (.iload_n 2, 1) := by decide +kernel
theorem dX7_group_36 : decode cX7_group 36 = .ok (.invokevirtual 133, 3) := by decide +kernel
theorem dX7_group_39 : decode cX7_group 39 = .ok (.goto 19, 3) := by decide +kernel
theorem dX7_group_42 : decode cX7_group 42 = .ok (.aload_n 0, 1) := by decide +kernel
theorem dX7_group_43 : decode cX7_group 43 = .ok (.iload_n 1, 1) := by decide +kernel
theorem dX7_group_44 : decode cX7_group 44 = .ok (.iload_n 2, 1) := by decide +kernel
theorem dX7_group_45 : decode cX7_group 45 = .ok (.iload_n 3, 1) := by decide +kernel
theorem dX7_group_46 : decode cX7_group 46 = .ok (.iconst 1, 1) := by decide +kernel
theorem dX7_group_47 : decode cX7_group 47 = .ok (.if_icmp .ne 7, 3) := by decide +kernel
theorem dX7_group_50 : decode cX7_group 50 = .ok (.iconst 1, 1) := by decide +kernel
theorem dX7_group_51 : decode cX7_group 51 = .ok (.goto 4, 3) := by decide +kernel
theorem dX7_group_54 : decode cX7_group 54 = .ok (.iconst 0, 1) := by decide +kernel
theorem dX7_group_55 : decode cX7_group 55 = .ok (.invokevirtual 143, 3) := by decide +kernel
theorem dX7_group_58 : decode cX7_group 58 = .ok (.ireturn, 1) := by decide +kernel
theorem dX7_allRuns_0 : decode cX7_allRuns 0 = .ok (.iconst 0, 1) := by decide +kernel
theorem dX7_allRuns_1 : decode cX7_allRuns 1 = .ok (.istore_n 1, 1) := by decide +kernel
theorem dX7_allRuns_2 : decode cX7_allRuns 2 = .ok (.iconst 0, 1) := by decide +kernel
theorem dX7_allRuns_3 : decode cX7_allRuns 3 = .ok (.istore_n 2, 1) := by decide +kernel
theorem dX7_allRuns_4 : decode cX7_allRuns 4 = .ok (.iload_n 2, 1) := by decide +kernel
theorem dX7_allRuns_5 : decode cX7_allRuns 5 = .ok (.iconst 4, 1) := by decide +kernel
theorem dX7_allRuns_6 : decode cX7_allRuns 6 = .ok (.if_icmp .ge 17, 3) := by decide +kernel
theorem dX7_allRuns_9 : decode cX7_allRuns 9 = .ok (.iload_n 1, 1) := by decide +kernel
theorem dX7_allRuns_10 : decode cX7_allRuns 10 = .ok (.aload_n 0, 1) := by decide +kernel
theorem dX7_allRuns_11 : decode cX7_allRuns 11 = .ok (.iload_n 2, 1) := by decide +kernel
theorem dX7_allRuns_12 : decode cX7_allRuns 12 = .ok (.invokevirtual 52, 3) := by decide +kernel
theorem dX7_allRuns_15 : decode cX7_allRuns 15 = .ok (.iadd, 1) := by decide +kernel
theorem dX7_allRuns_16 : decode cX7_allRuns 16 = .ok (.istore_n 1, 1) := by decide +kernel
theorem dX7_allRuns_17 : decode cX7_allRuns 17 = .ok (.iinc 2 1, 3) := by decide +kernel
theorem dX7_allRuns_20 : decode cX7_allRuns 20 = .ok (.goto (-16), 3) := by decide +kernel
theorem dX7_allRuns_23 : decode cX7_allRuns 23 = .ok (.iload_n 1, 1) := by decide +kernel
theorem dX7_allRuns_24 : decode cX7_allRuns 24 = .ok (.ireturn, 1) := by decide +kernel
theorem dX7_allRows_0 : decode cX7_allRows 0 = .ok (.iconst 0, 1) := by decide +kernel
theorem dX7_allRows_1 : decode cX7_allRows 1 = .ok (.istore_n 1, 1) := by decide +kernel
theorem dX7_allRows_2 : decode cX7_allRows 2 = .ok (.iconst 0, 1) := by decide +kernel
theorem dX7_allRows_3 : decode cX7_allRows 3 = .ok (.istore_n 2, 1) := by decide +kernel
theorem dX7_allRows_4 : decode cX7_allRows 4 = .ok (.iload_n 2, 1) := by decide +kernel
theorem dX7_allRows_5 : decode cX7_allRows 5 = .ok (.iconst 4, 1) := by decide +kernel
theorem dX7_allRows_6 : decode cX7_allRows 6 = .ok (.if_icmp .ge 17, 3) := by decide +kernel
theorem dX7_allRows_9 : decode cX7_allRows 9 = .ok (.iload_n 1, 1) := by decide +kernel
theorem dX7_allRows_10 : decode cX7_allRows 10 = .ok (.aload_n 0, 1) := by decide +kernel
theorem dX7_allRows_11 : decode cX7_allRows 11 = .ok (.iload_n 2, 1) := by decide +kernel
theorem dX7_allRows_12 : decode cX7_allRows 12 = .ok (.invokevirtual 60, 3) := by decide +kernel
theorem dX7_allRows_15 : decode cX7_allRows 15 = .ok (.iadd, 1) := by decide +kernel
theorem dX7_allRows_16 : decode cX7_allRows 16 = .ok (.istore_n 1, 1) := by decide +kernel
theorem dX7_allRows_17 : decode cX7_allRows 17 = .ok (.iinc 2 1, 3) := by decide +kernel
theorem dX7_allRows_20 : decode cX7_allRows 20 = .ok (.goto (-16), 3) := by decide +kernel
theorem dX7_allRows_23 : decode cX7_allRows 23 = .ok (.iload_n 1, 1) := by decide +kernel
theorem dX7_allRows_24 : decode cX7_allRows 24 = .ok (.ireturn, 1) := by decide +kernel
theorem dX7_count_0 : decode cX7_count 0 = .ok (.iload_n 1, 1) := by decide +kernel
theorem dX7_count_1 : decode cX7_count 1 = .ok (.tableswitch 51 0 3 #[31, 36, 41, 46], 31) := by decide +kernel
theorem dX7_count_32 : decode cX7_count 32 = .ok (.aload_n 0, 1) := by decide +kernel
theorem dX7_count_33 : decode cX7_count 33 = .ok (.invokevirtual 147, 3) := by decide +kernel
theorem dX7_count_36 : decode cX7_count 36 = .ok (.ireturn, 1) := by decide +kernel
theorem dX7_count_37 : decode cX7_count 37 = .ok (.aload_n 0, 1) := by decide +kernel
theorem dX7_count_38 : decode cX7_count 38 = .ok (.invokevirtual 150, 3) := by decide +kernel
theorem dX7_count_41 : decode cX7_count 41 = .ok (.ireturn, 1) := by decide +kernel
theorem dX7_count_42 : decode cX7_count 42 = .ok (.aload_n 0, 1) := by decide +kernel
theorem dX7_count_43 : decode cX7_count 43 = .ok (.getfield 153, 3) := by decide +kernel
theorem dX7_count_46 : decode cX7_count 46 = .ok (.ireturn, 1) := by decide +kernel
theorem dX7_count_47 : decode cX7_count 47 = .ok (.aload_n 0, 1) := by decide +kernel
theorem dX7_count_48 : decode cX7_count 48 = .ok (.getfield 40, 3) := by decide +kernel
theorem dX7_count_51 : decode cX7_count 51 = .ok (.ireturn, 1) := by decide +kernel
theorem dX7_count_52 : decode cX7_count 52 = .ok (.bipush (-2), 2) := by decide +kernel
theorem dX7_count_54 : decode cX7_count 54 = .ok (.ireturn, 1) := by decide +kernel
theorem dX7_isFirstPair_0 : decode cX7_isFirstPair 0 = .ok (.iload_n 1, 1) := by decide +kernel
theorem dX7_isFirstPair_1 : decode cX7_isFirstPair 1 = .ok (.ifCond .eq 37, 3) := by decide +kernel
theorem dX7_isFirstPair_4 : decode cX7_isFirstPair 4 = .ok (.aload_n 0, 1) := by decide +kernel
theorem dX7_isFirstPair_5 : decode cX7_isFirstPair 5 = .ok (.getfield 25, 3) := by decide +kernel
theorem dX7_isFirstPair_8 : decode cX7_isFirstPair 8 = .ok (.iload_n 1, 1) := by decide +kernel
theorem dX7_isFirstPair_9 : decode cX7_isFirstPair 9 = .ok (.iaload, 1) := by decide +kernel
theorem dX7_isFirstPair_10 : decode cX7_isFirstPair 10 = .ok (.aload_n 0, 1) := by decide +kernel
theorem dX7_isFirstPair_11 : decode cX7_isFirstPair 11 = .ok (.getfield 25, 3) := by decide +kernel
theorem dX7_isFirstPair_14 : decode cX7_isFirstPair 14 = .ok (.iload_n 1, 1) := by decide +kernel
theorem dX7_isFirstPair_15 : decode cX7_isFirstPair 15 = .ok (.iconst 1, 1) := by decide +kernel
theorem dX7_isFirstPair_16 : decode cX7_isFirstPair 16 = .ok (.isub, 1) := by decide +kernel
theorem dX7_isFirstPair_17 : decode cX7_isFirstPair 17 = .ok (.iaload, 1) := by decide +kernel
theorem dX7_isFirstPair_18 : decode cX7_isFirstPair 18 = .ok (.if_icmp .ne 20, 3) := by decide +kernel
theorem dX7_isFirstPair_21 : decode cX7_isFirstPair 21 = .ok (.aload_n 0, 1) := by decide +kernel
theorem dX7_isFirstPair_22 : decode cX7_isFirstPair 22 = .ok (.getfield 28, 3) := by decide +kernel
theorem dX7_isFirstPair_25 : decode cX7_isFirstPair 25 = .ok (.iload_n 1, 1) := by decide +kernel
theorem dX7_isFirstPair_26 : decode cX7_isFirstPair 26 = .ok (.iaload, 1) := by decide +kernel
theorem dX7_isFirstPair_27 : decode cX7_isFirstPair 27 = .ok (.aload_n 0, 1) := by decide +kernel
theorem dX7_isFirstPair_28 : decode cX7_isFirstPair 28 = .ok (.getfield 28, 3) := by decide +kernel
theorem dX7_isFirstPair_31 : decode cX7_isFirstPair 31 = .ok (.iload_n 1, 1) := by decide +kernel
theorem dX7_isFirstPair_32 : decode cX7_isFirstPair 32 = .ok (.iconst 1, 1) := by decide +kernel
theorem dX7_isFirstPair_33 : decode cX7_isFirstPair 33 = .ok (.isub, 1) := by decide +kernel
theorem dX7_isFirstPair_34 : decode cX7_isFirstPair 34 = .ok (.iaload, 1) := by decide +kernel
theorem dX7_isFirstPair_35 : decode cX7_isFirstPair 35 = .ok (.if_icmp .eq 7, 3) := by decide +kernel
theorem dX7_isFirstPair_38 : decode cX7_isFirstPair 38 = .ok (.iconst 1, 1) := by decide +kernel
theorem dX7_isFirstPair_39 : decode cX7_isFirstPair 39 = .ok (.goto 4, 3) := by decide +kernel
theorem dX7_isFirstPair_42 : decode cX7_isFirstPair 42 = .ok (.iconst 0, 1) := by decide +kernel
theorem dX7_isFirstPair_43 : decode cX7_isFirstPair 43 = .ok (.ireturn, 1) := by decide +kernel
theorem dX7_pair_0 : decode cX7_pair 0 = .ok (.iload_n 1, 1) := by decide +kernel
theorem dX7_pair_1 : decode cX7_pair 1 = .ok (.invokestatic 76, 3) := by decide +kernel
theorem dX7_pair_4 : decode cX7_pair 4 = .ok (.ifCond .eq 14, 3) := by decide +kernel
theorem dX7_pair_7 : decode cX7_pair 7 = .ok (.iload_n 2, 1) := by decide +kernel
theorem dX7_pair_8 : decode cX7_pair 8 = .ok (.invokestatic 76, 3) := by decide +kernel
theorem dX7_pair_11 : decode cX7_pair 11 = .ok (.ifCond .eq 7, 3) := by decide +kernel
theorem dX7_pair_14 : decode cX7_pair 14 = .ok (.iload_n 3, 1) := by decide +kernel
theorem dX7_pair_15 : decode cX7_pair 15 = .ok (.ifCond .ge 5, 3) := by decide +kernel
theorem dX7_pair_18 : decode cX7_pair 18 = .ok (.iconst (-1), 1) := by decide +kernel
theorem dX7_pair_19 : decode cX7_pair 19 = .ok (.ireturn, 1) := by decide +kernel
theorem dX7_pair_20 : decode cX7_pair 20 = .ok (.aload_n 0, 1) := by decide +kernel
theorem dX7_pair_21 : decode cX7_pair 21 = .ok (.iload_n 1, 1) := by decide +kernel
theorem dX7_pair_22 : decode cX7_pair 22 = .ok (.iload_n 2, 1) := by decide +kernel
theorem dX7_pair_23 : decode cX7_pair 23 = .ok (.invokevirtual 124, 3) := by decide +kernel
theorem dX7_pair_26 : decode cX7_pair 26 = .ok (.istore 5, 2) := by decide +kernel
theorem dX7_pair_28 : decode cX7_pair 28 = .ok (.iload_n 3, 1) := by decide +kernel
theorem dX7_pair_29 : decode cX7_pair 29 = .ok (.istore 6, 2) := by decide +kernel
theorem dX7_pair_31 : decode cX7_pair 31 = .ok (.bipush (-6), 2) := by decide +kernel
theorem dX7_pair_33 : decode cX7_pair 33 = .ok (.istore 7, 2) := by decide +kernel
theorem dX7_pair_35 : decode cX7_pair 35 = .ok (.iconst 0, 1) := by decide +kernel
theorem dX7_pair_36 : decode cX7_pair 36 = .ok (.istore 8, 2) := by decide +kernel
theorem dX7_pair_38 : decode cX7_pair 38 = .ok (.iconst 0, 1) := by decide +kernel
theorem dX7_pair_39 : decode cX7_pair 39 = .ok (.istore 9, 2) := by decide +kernel
theorem dX7_pair_41 : decode cX7_pair 41 = .ok (.iload 9, 2) := by decide +kernel
theorem dX7_pair_43 : decode cX7_pair 43 = .ok (.iload 5, 2) := by decide +kernel
theorem dX7_pair_45 : decode cX7_pair 45 = .ok (.if_icmp .ge 67, 3) := by decide +kernel
theorem dX7_pair_48 : decode cX7_pair 48 = .ok (.aload_n 0, 1) := by decide +kernel
theorem dX7_pair_49 : decode cX7_pair 49 = .ok (.iload 9, 2) := by decide +kernel
theorem dX7_pair_51 : decode cX7_pair 51 = .ok (.invokevirtual 156, 3) := by decide +kernel
theorem dX7_pair_54 : decode cX7_pair 54 = .ok (.istore 10, 2) := by decide +kernel
theorem dX7_pair_56 : decode cX7_pair 56 = .ok (.iload 10, 2) := by decide +kernel
theorem dX7_pair_58 : decode cX7_pair 58 = .ok (.ifCond .eq 13, 3) := by decide +kernel
theorem dX7_pair_61 : decode cX7_pair 61 = .ok (.iload 6, 2) := by decide +kernel
theorem dX7_pair_63 : decode cX7_pair 63 = .ok (.ifCond .ne 8, 3) := by decide +kernel
theorem dX7_pair_66 : decode cX7_pair 66 = .ok (.iload 9, 2) := by decide +kernel
theorem dX7_pair_68 : decode cX7_pair 68 = .ok (.goto 5, 3) := by decide +kernel
theorem dX7_pair_71 : decode cX7_pair 71 = .ok (.iload 7, 2) := by decide +kernel
theorem dX7_pair_73 : decode cX7_pair 73 = .ok (.istore 7, 2) := by decide +kernel
theorem dX7_pair_75 : decode cX7_pair 75 = .ok (.iload 6, 2) := by decide +kernel
theorem dX7_pair_77 : decode cX7_pair 77 = .ok (.iload 10, 2) := by decide +kernel
theorem dX7_pair_79 : decode cX7_pair 79 = .ok (.ifCond .eq 7, 3) := by decide +kernel
theorem dX7_pair_82 : decode cX7_pair 82 = .ok (.iconst 1, 1) := by decide +kernel
theorem dX7_pair_83 : decode cX7_pair 83 = .ok (.goto 4, 3) := by decide +kernel
theorem dX7_pair_86 : decode cX7_pair 86 = .ok (.iconst 0, 1) := by decide +kernel
theorem dX7_pair_87 : decode cX7_pair 87 = .ok (.isub, 1) := by decide +kernel
theorem dX7_pair_88 : decode cX7_pair 88 = .ok (.istore 6, 2) := by decide +kernel
theorem dX7_pair_90 : decode cX7_pair 90 = .ok (.iload 8, 2) := by decide +kernel
theorem dX7_pair_92 : decode cX7_pair 92 = .ok (.iload 6, 2) := by decide +kernel
theorem dX7_pair_94 : decode cX7_pair 94 = .ok (.iconst (-1), 1) := by decide +kernel
theorem dX7_pair_95 : decode cX7_pair 95 = .ok (.if_icmp .ne 7, 3) := by decide +kernel
theorem dX7_pair_98 : decode cX7_pair 98 = .ok (.iconst 1, 1) := by decide +kernel
theorem dX7_pair_99 : decode cX7_pair 99 = .ok (.goto 4, 3) := by decide +kernel
theorem dX7_pair_102 : decode cX7_pair 102 = .ok (.iconst 0, 1) := by decide +kernel
theorem dX7_pair_103 : decode cX7_pair 103 = .ok (.iadd, 1) := by decide +kernel
theorem dX7_pair_104 : decode cX7_pair 104 = .ok (.istore 8, 2) := by decide +kernel
theorem dX7_pair_106 : decode cX7_pair 106 = .ok (.iinc 9 1, 3) := by decide +kernel
theorem dX7_pair_109 : decode cX7_pair 109 = .ok (.goto (-68), 3) := by decide +kernel
theorem dX7_pair_112 : decode cX7_pair 112 = .ok (.iload 7, 2) := by decide +kernel
theorem dX7_pair_114 : decode cX7_pair 114 = .ok (.bipush (-6), 2) := by decide +kernel
theorem dX7_pair_116 : decode cX7_pair 116 = .ok (.if_icmp .ne 5, 3) := by decide +kernel
theorem dX7_pair_119 : decode cX7_pair 119 = .ok (.iconst (-1), 1) := by decide +kernel
theorem dX7_pair_120 : decode cX7_pair 120 = .ok (.ireturn, 1) := by decide +kernel
theorem dX7_pair_121 : decode cX7_pair 121 = .ok (.iload 4, 2) := by decide +kernel
theorem dX7_pair_123 : decode cX7_pair 123 = .ok (.tableswitch 51 0 3 #[29, 37, 45, 48], 29) := by decide +kernel
theorem dX7_pair_152 : decode cX7_pair 152 = .ok (.aload_n 0, 1) := by decide +kernel
theorem dX7_pair_153 : decode cX7_pair 153 = .ok (.getfield 25, 3) := by decide +kernel
theorem dX7_pair_156 : decode cX7_pair 156 = .ok (.iload 7, 2) := by decide +kernel
theorem dX7_pair_158 : decode cX7_pair 158 = .ok (.iaload, 1) := by decide +kernel
theorem dX7_pair_159 : decode cX7_pair 159 = .ok (.ireturn, 1) := by decide +kernel
theorem dX7_pair_160 : decode cX7_pair 160 = .ok (.aload_n 0, 1) := by decide +kernel
theorem dX7_pair_161 : decode cX7_pair 161 = .ok (.getfield 28, 3) := by decide +kernel
theorem dX7_pair_164 : decode cX7_pair 164 = .ok (.iload 7, 2) := by decide +kernel
theorem dX7_pair_166 : decode cX7_pair 166 = .ok (.iaload, 1) := by decide +kernel
theorem dX7_pair_167 : decode cX7_pair 167 = .ok (.ireturn, 1) := by decide +kernel
theorem dX7_pair_168 : decode cX7_pair 168 = .ok (.iload 8, 2) := by decide +kernel
theorem dX7_pair_170 : decode cX7_pair 170 = .ok (.ireturn, 1) := by decide +kernel
theorem dX7_pair_171 : decode cX7_pair 171 = .ok (.iload 7, 2) := by decide +kernel
theorem dX7_pair_173 : decode cX7_pair 173 = .ok (.ireturn, 1) := by decide +kernel
theorem dX7_pair_174 : decode cX7_pair 174 = .ok (.bipush (-2), 2) := by decide +kernel
theorem dX7_pair_176 : decode cX7_pair 176 = .ok (.ireturn, 1) := by decide +kernel
theorem dX7_ofPairs_0 : decode cX7_ofPairs 0 = .ok (.iconst 0, 1) := by decide +kernel
theorem dX7_ofPairs_1 : decode cX7_ofPairs 1 = .ok (.istore_n 3, 1) := by decide +kernel
theorem dX7_ofPairs_2 : decode cX7_ofPairs 2 = .ok (.iconst 0, 1) := by decide +kernel
theorem dX7_ofPairs_3 : decode cX7_ofPairs 3 = .ok (.istore 4, 2) := by decide +kernel
theorem dX7_ofPairs_5 : decode cX7_ofPairs 5 = .ok (.iconst 0, 1) := by decide +kernel
theorem dX7_ofPairs_6 : decode cX7_ofPairs 6 = .ok (.istore 5, 2) := by decide +kernel
theorem dX7_ofPairs_8 : decode cX7_ofPairs 8 = .ok (.iconst 0, 1) := by decide +kernel
theorem dX7_ofPairs_9 : decode cX7_ofPairs 9 = .ok (.istore 6, 2) := by decide +kernel
theorem dX7_ofPairs_11 : decode cX7_ofPairs 11 = .ok (.iconst 0, 1) := by decide +kernel
theorem dX7_ofPairs_12 : decode cX7_ofPairs 12 = .ok (.istore 7, 2) := by decide +kernel
theorem dX7_ofPairs_14 : decode cX7_ofPairs 14 = .ok (.iload 7, 2) := by decide +kernel
theorem dX7_ofPairs_16 : decode cX7_ofPairs 16 = .ok (.bipush 100, 2) := by decide +kernel
theorem dX7_ofPairs_18 : decode cX7_ofPairs 18 = .ok (.if_icmp .ge 17, 3) := by decide +kernel
theorem dX7_ofPairs_21 : decode cX7_ofPairs 21 = .ok (.aload_n 0, 1) := by decide +kernel
theorem dX7_ofPairs_22 : decode cX7_ofPairs 22 = .ok (.getfield 31, 3) := by decide +kernel
theorem dX7_ofPairs_25 : decode cX7_ofPairs 25 = .ok (.iload 7, 2) := by decide +kernel
theorem dX7_ofPairs_27 : decode cX7_ofPairs 27 = .ok (.iconst 0, 1) := by decide +kernel
theorem dX7_ofPairs_28 : decode cX7_ofPairs 28 = .ok (.iastore, 1) := by decide +kernel
theorem dX7_ofPairs_29 : decode cX7_ofPairs 29 = .ok (.iinc 7 1, 3) := by decide +kernel
theorem dX7_ofPairs_32 : decode cX7_ofPairs 32 = .ok (.goto (-18), 3) := by decide +kernel
theorem dX7_ofPairs_35 : decode cX7_ofPairs 35 = .ok (.iconst 0, 1) := by decide +kernel
theorem dX7_ofPairs_36 : decode cX7_ofPairs 36 = .ok (.istore 7, 2) := by decide +kernel
theorem dX7_ofPairs_38 : decode cX7_ofPairs 38 = .ok (.iload 7, 2) := by decide +kernel
theorem dX7_ofPairs_40 : decode cX7_ofPairs 40 = .ok (.iload_n 1, 1) := by decide +kernel
theorem dX7_ofPairs_41 : decode cX7_ofPairs 41 = .ok (.if_icmp .ge 121, 3) := by decide +kernel
theorem dX7_ofPairs_44 : decode cX7_ofPairs 44 = .ok (.bipush 10, 2) := by decide +kernel
theorem dX7_ofPairs_46 : decode cX7_ofPairs 46 = .ok (.aload_n 0, 1) := by decide +kernel
theorem dX7_ofPairs_47 : decode cX7_ofPairs 47 = .ok (.getfield 25, 3) := by decide +kernel
theorem dX7_ofPairs_50 : decode cX7_ofPairs 50 = .ok (.iload 7, 2) := by decide +kernel
theorem dX7_ofPairs_52 : decode cX7_ofPairs 52 = .ok (.iaload, 1) := by decide +kernel
theorem dX7_ofPairs_53 : decode cX7_ofPairs 53 = .ok (.imul, 1) := by decide +kernel
theorem dX7_ofPairs_54 : decode cX7_ofPairs 54 = .ok (.aload_n 0, 1) := by decide +kernel
theorem dX7_ofPairs_55 : decode cX7_ofPairs 55 = .ok (.getfield 28, 3) := by decide +kernel
theorem dX7_ofPairs_58 : decode cX7_ofPairs 58 = .ok (.iload 7, 2) := by decide +kernel
theorem dX7_ofPairs_60 : decode cX7_ofPairs 60 = .ok (.iaload, 1) := by decide +kernel
theorem dX7_ofPairs_61 : decode cX7_ofPairs 61 = .ok (.iadd, 1) := by decide +kernel
theorem dX7_ofPairs_62 : decode cX7_ofPairs 62 = .ok (.istore 8, 2) := by decide +kernel
theorem dX7_ofPairs_64 : decode cX7_ofPairs 64 = .ok (.iload_n 3, 1) := by decide +kernel
theorem dX7_ofPairs_65 : decode cX7_ofPairs 65 = .ok (.aload_n 0, 1) := by decide +kernel
theorem dX7_ofPairs_66 : decode cX7_ofPairs 66 = .ok (.iload 7, 2) := by decide +kernel
theorem dX7_ofPairs_68 : decode cX7_ofPairs 68 = .ok (.invokevirtual 156, 3) := by decide +kernel
theorem dX7_ofPairs_71 : decode cX7_ofPairs 71 = .ok (.ifCond .eq 7, 3) := by decide +kernel
theorem dX7_ofPairs_74 : decode cX7_ofPairs 74 = .ok (.iconst 1, 1) := by decide +kernel
theorem dX7_ofPairs_75 : decode cX7_ofPairs 75 = .ok (.goto 4, 3) := by decide +kernel
theorem dX7_ofPairs_78 : decode cX7_ofPairs 78 = .ok (.iconst 0, 1) := by decide +kernel
theorem dX7_ofPairs_79 : decode cX7_ofPairs 79 = .ok (.iadd, 1) := by decide +kernel
theorem dX7_ofPairs_80 : decode cX7_ofPairs 80 = .ok (.istore_n 3, 1) := by decide +kernel
theorem dX7_ofPairs_81 : decode cX7_ofPairs 81 = .ok (.iload 4, 2) := by decide +kernel
theorem dX7_ofPairs_83 : decode cX7_ofPairs 83 = .ok (.aload_n 0, 1) := by decide +kernel
theorem dX7_ofPairs_84 : decode cX7_ofPairs 84 = .ok (.getfield 25, 3) := by decide +kernel
theorem dX7_ofPairs_87 : decode cX7_ofPairs 87 = .ok (.iload 7, 2) := by decide +kernel
theorem dX7_ofPairs_89 : decode cX7_ofPairs 89 = .ok (.iaload, 1) := by decide +kernel
theorem dX7_ofPairs_90 : decode cX7_ofPairs 90 = .ok (.aload_n 0, 1) := by decide +kernel
theorem dX7_ofPairs_91 : decode cX7_ofPairs 91 = .ok (.getfield 28, 3) := by decide +kernel
theorem dX7_ofPairs_94 : decode cX7_ofPairs 94 = .ok (.iload 7, 2) := by decide +kernel
theorem dX7_ofPairs_96 : decode cX7_ofPairs 96 = .ok (.iaload, 1) := by decide +kernel
theorem dX7_ofPairs_97 : decode cX7_ofPairs 97 = .ok (.if_icmp .ne 7, 3) := by decide +kernel
theorem dX7_ofPairs_100 : decode cX7_ofPairs 100 = .ok (.iconst 1, 1) := by decide +kernel
theorem dX7_ofPairs_101 : decode cX7_ofPairs 101 = .ok (.goto 4, 3) := by decide +kernel
theorem dX7_ofPairs_104 : decode cX7_ofPairs 104 = .ok (.iconst 0, 1) := by decide +kernel
theorem dX7_ofPairs_105 : decode cX7_ofPairs 105 = .ok (.iadd, 1) := by decide +kernel
theorem dX7_ofPairs_106 : decode cX7_ofPairs 106 = .ok (.istore 4, 2) := by decide +kernel
theorem dX7_ofPairs_108 : decode cX7_ofPairs 108 = .ok (.iload 5, 2) := by decide +kernel
theorem dX7_ofPairs_110 : decode cX7_ofPairs 110 = .ok (.aload_n 0, 1) := by decide +kernel
theorem dX7_ofPairs_111 : decode cX7_ofPairs 111 = .ok (.getfield 25, 3) := by decide +kernel
theorem dX7_ofPairs_114 : decode cX7_ofPairs 114 = .ok (.iload 7, 2) := by decide +kernel
theorem dX7_ofPairs_116 : decode cX7_ofPairs 116 = .ok (.iaload, 1) := by decide +kernel
theorem dX7_ofPairs_117 : decode cX7_ofPairs 117 = .ok (.aload_n 0, 1) := by decide +kernel
theorem dX7_ofPairs_118 : decode cX7_ofPairs 118 = .ok (.getfield 28, 3) := by decide +kernel
theorem dX7_ofPairs_121 : decode cX7_ofPairs 121 = .ok (.iload 7, 2) := by decide +kernel
theorem dX7_ofPairs_123 : decode cX7_ofPairs 123 = .ok (.iaload, 1) := by decide +kernel
theorem dX7_ofPairs_124 : decode cX7_ofPairs 124 = .ok (.imul, 1) := by decide +kernel
theorem dX7_ofPairs_125 : decode cX7_ofPairs 125 = .ok (.iadd, 1) := by decide +kernel
theorem dX7_ofPairs_126 : decode cX7_ofPairs 126 = .ok (.istore 5, 2) := by decide +kernel
theorem dX7_ofPairs_128 : decode cX7_ofPairs 128 = .ok (.iload 6, 2) := by decide +kernel
theorem dX7_ofPairs_130 : decode cX7_ofPairs 130 = .ok (.aload_n 0, 1) := by decide +kernel
theorem dX7_ofPairs_131 : decode cX7_ofPairs 131 = .ok (.getfield 31, 3) := by decide +kernel
theorem dX7_ofPairs_134 : decode cX7_ofPairs 134 = .ok (.iload 8, 2) := by decide +kernel
theorem dX7_ofPairs_136 : decode cX7_ofPairs 136 = .ok (.iaload, 1) := by decide +kernel
theorem dX7_ofPairs_137 : decode cX7_ofPairs 137 = .ok (.ifCond .ne 7, 3) := by decide +kernel
theorem dX7_ofPairs_140 : decode cX7_ofPairs 140 = .ok (.iconst 1, 1) := by decide +kernel
theorem dX7_ofPairs_141 : decode cX7_ofPairs 141 = .ok (.goto 4, 3) := by decide +kernel
theorem dX7_ofPairs_144 : decode cX7_ofPairs 144 = .ok (.iconst 0, 1) := by decide +kernel
theorem dX7_ofPairs_145 : decode cX7_ofPairs 145 = .ok (.iadd, 1) := by decide +kernel
theorem dX7_ofPairs_146 : decode cX7_ofPairs 146 = .ok (.istore 6, 2) := by decide +kernel
theorem dX7_ofPairs_148 : decode cX7_ofPairs 148 = .ok (.aload_n 0, 1) := by decide +kernel
theorem dX7_ofPairs_149 : decode cX7_ofPairs 149 = .ok (.getfield 31, 3) := by decide +kernel
theorem dX7_ofPairs_152 : decode cX7_ofPairs 152 = .ok (.iload 8, 2) := by decide +kernel
theorem dX7_ofPairs_154 : decode cX7_ofPairs 154 = .ok (.iconst 1, 1) := by decide +kernel
theorem dX7_ofPairs_155 : decode cX7_ofPairs 155 = .ok (.iastore, 1) := by decide +kernel
theorem dX7_ofPairs_156 : decode cX7_ofPairs 156 = .ok (.iinc 7 1, 3) := by decide +kernel
theorem dX7_ofPairs_159 : decode cX7_ofPairs 159 = .ok (.goto (-121), 3) := by decide +kernel
theorem dX7_ofPairs_162 : decode cX7_ofPairs 162 = .ok (.iload_n 2, 1) := by decide +kernel
theorem dX7_ofPairs_163 : decode cX7_ofPairs 163 = .ok (.ifCond .ne 7, 3) := by decide +kernel
theorem dX7_ofPairs_166 : decode cX7_ofPairs 166 = .ok (.iload_n 1, 1) := by decide +kernel
theorem dX7_ofPairs_167 : decode cX7_ofPairs 167 = .ok (.goto 34, 3) := by decide +kernel
theorem dX7_ofPairs_170 : decode cX7_ofPairs 170 = .ok (.iload_n 2, 1) := by decide +kernel
theorem dX7_ofPairs_171 : decode cX7_ofPairs 171 = .ok (.iconst 1, 1) := by decide +kernel
theorem dX7_ofPairs_172 : decode cX7_ofPairs 172 = .ok (.if_icmp .ne 7, 3) := by decide +kernel
theorem dX7_ofPairs_175 : decode cX7_ofPairs 175 = .ok (.iload_n 3, 1) := by decide +kernel
theorem dX7_ofPairs_176 : decode cX7_ofPairs 176 = .ok (.goto 25, 3) := by decide +kernel
theorem dX7_ofPairs_179 : decode cX7_ofPairs 179 = .ok (.iload_n 2, 1) := by decide +kernel
theorem dX7_ofPairs_180 : decode cX7_ofPairs 180 = .ok (.iconst 2, 1) := by decide +kernel
theorem dX7_ofPairs_181 : decode cX7_ofPairs 181 = .ok (.if_icmp .ne 8, 3) := by decide +kernel
theorem dX7_ofPairs_184 : decode cX7_ofPairs 184 = .ok (.iload 4, 2) := by decide +kernel
theorem dX7_ofPairs_186 : decode cX7_ofPairs 186 = .ok (.goto 15, 3) := by decide +kernel
theorem dX7_ofPairs_189 : decode cX7_ofPairs 189 = .ok (.iload_n 2, 1) := by decide +kernel
theorem dX7_ofPairs_190 : decode cX7_ofPairs 190 = .ok (.iconst 3, 1) := by decide +kernel
theorem dX7_ofPairs_191 : decode cX7_ofPairs 191 = .ok (.if_icmp .ne 8, 3) := by decide +kernel
theorem dX7_ofPairs_194 : decode cX7_ofPairs 194 = .ok (.iload 5, 2) := by decide +kernel
theorem dX7_ofPairs_196 : decode cX7_ofPairs 196 = .ok (.goto 5, 3) := by decide +kernel
theorem dX7_ofPairs_199 : decode cX7_ofPairs 199 = .ok (.iload 6, 2) := by decide +kernel
theorem dX7_ofPairs_201 : decode cX7_ofPairs 201 = .ok (.ireturn, 1) := by decide +kernel
theorem dX7_joined_0 : decode cX7_joined 0 = .ok (.iload_n 1, 1) := by decide +kernel
theorem dX7_joined_1 : decode cX7_joined 1 = .ok (.invokestatic 76, 3) := by decide +kernel
theorem dX7_joined_4 : decode cX7_joined 4 = .ok (.ifCond .eq 10, 3) := by decide +kernel
theorem dX7_joined_7 : decode cX7_joined 7 = .ok (.iload_n 2, 1) := by decide +kernel
theorem dX7_joined_8 : decode cX7_joined 8 = .ok (.invokestatic 76, 3) := by decide +kernel
theorem dX7_joined_11 : decode cX7_joined 11 = .ok (.ifCond .ne 5, 3) := by decide +kernel
theorem dX7_joined_14 : decode cX7_joined 14 = .ok (.iconst (-1), 1) := by decide +kernel
theorem dX7_joined_15 : decode cX7_joined 15 = .ok (.ireturn, 1) := by decide +kernel
theorem dX7_joined_16 : decode cX7_joined 16 = .ok (.iload_n 3, 1) := by decide +kernel
theorem dX7_joined_17 : decode cX7_joined 17 = .ok (.iconst 0, 1) := by decide +kernel
theorem dX7_joined_18 : decode cX7_joined 18 = .ok (.iconst 4, 1) := by decide +kernel
theorem dX7_joined_19 : decode cX7_joined 19 = .ok (.invokestatic 48, 3) := by decide +kernel
theorem dX7_joined_22 : decode cX7_joined 22 = .ok (.ifCond .eq 17, 3) := by decide +kernel
theorem dX7_joined_25 : decode cX7_joined 25 = .ok (.aload_n 0, 1) := by decide +kernel
theorem dX7_joined_26 : decode cX7_joined 26 = .ok (.aload_n 0, 1) := by decide +kernel
theorem dX7_joined_27 : decode cX7_joined 27 = .ok (.iload_n 1, 1) := by decide +kernel
theorem dX7_joined_28 : decode cX7_joined 28 = .ok (.iload_n 2, 1) := by decide +kernel
theorem dX7_joined_29 : decode cX7_joined 29 = .ok (.invokevirtual 124, 3) := by decide +kernel
theorem dX7_joined_32 : decode cX7_joined 32 = .ok (.iload_n 3, 1) := by decide +kernel
theorem dX7_joined_33 : decode cX7_joined 33 = .ok (.invokevirtual 159, 3) := by decide +kernel
theorem dX7_joined_36 : decode cX7_joined 36 = .ok (.goto 5, 3) := by decide +kernel
theorem dX7_joined_39 : decode cX7_joined 39 = .ok (.bipush (-2), 2) := by decide +kernel
theorem dX7_joined_41 : decode cX7_joined 41 = .ok (.ireturn, 1) := by decide +kernel
theorem dX7_alike_0 : decode cX7_alike 0 = .ok (.iload_n 1, 1) := by decide +kernel
theorem dX7_alike_1 : decode cX7_alike 1 = .ok (.invokestatic 76, 3) := by decide +kernel
theorem dX7_alike_4 : decode cX7_alike 4 = .ok (.ifCond .eq 10, 3) := by decide +kernel
theorem dX7_alike_7 : decode cX7_alike 7 = .ok (.iload_n 2, 1) := by decide +kernel
theorem dX7_alike_8 : decode cX7_alike 8 = .ok (.invokestatic 76, 3) := by decide +kernel
theorem dX7_alike_11 : decode cX7_alike 11 = .ok (.ifCond .ne 5, 3) := by decide +kernel
theorem dX7_alike_14 : decode cX7_alike 14 = .ok (.iconst (-1), 1) := by decide +kernel
theorem dX7_alike_15 : decode cX7_alike 15 = .ok (.ireturn, 1) := by decide +kernel
theorem dX7_alike_16 : decode cX7_alike 16 = .ok (.iconst 0, 1) := by decide +kernel
theorem dX7_alike_17 : decode cX7_alike 17 = .ok (.istore_n 3, 1) := by decide +kernel
theorem dX7_alike_18 : decode cX7_alike 18 = .ok (.iconst 0, 1) := by decide +kernel
theorem dX7_alike_19 : decode cX7_alike 19 = .ok (.istore 4, 2) := by decide +kernel
theorem dX7_alike_21 : decode cX7_alike 21 = .ok (.iload 4, 2) := by decide +kernel
theorem dX7_alike_23 : decode cX7_alike 23 = .ok (.bipush 10, 2) := by decide +kernel
theorem dX7_alike_25 : decode cX7_alike 25 = .ok (.if_icmp .ge 29, 3) := by decide +kernel
theorem dX7_alike_28 : decode cX7_alike 28 = .ok (.iload_n 3, 1) := by decide +kernel
theorem dX7_alike_29 : decode cX7_alike 29 = .ok (.aload_n 0, 1) := by decide +kernel
theorem dX7_alike_30 : decode cX7_alike 30 = .ok (.iload_n 1, 1) := by decide +kernel
theorem dX7_alike_31 : decode cX7_alike 31 = .ok (.iload 4, 2) := by decide +kernel
theorem dX7_alike_33 : decode cX7_alike 33 = .ok (.iconst 0, 1) := by decide +kernel
theorem dX7_alike_34 : decode cX7_alike 34 = .ok (.invokevirtual 143, 3) := by decide +kernel
theorem dX7_alike_37 : decode cX7_alike 37 = .ok (.aload_n 0, 1) := by decide +kernel
theorem dX7_alike_38 : decode cX7_alike 38 = .ok (.iload_n 2, 1) := by decide +kernel
theorem dX7_alike_39 : decode cX7_alike 39 = .ok (.iload 4, 2) := by decide +kernel
theorem dX7_alike_41 : decode cX7_alike 41 = .ok (.iconst 0, 1) := by decide +kernel
theorem dX7_alike_42 : decode cX7_alike 42 = .ok (.invokevirtual 143, 3) := by decide +kernel
theorem dX7_alike_45 : decode cX7_alike 45 = .ok (.imul, 1) := by decide +kernel
theorem dX7_alike_46 : decode cX7_alike 46 = .ok (.iadd, 1) := by decide +kernel
theorem dX7_alike_47 : decode cX7_alike 47 = .ok (.istore_n 3, 1) := by decide +kernel
theorem dX7_alike_48 : decode cX7_alike 48 = .ok (.iinc 4 1, 3) := by decide +kernel
theorem dX7_alike_51 : decode cX7_alike 51 = .ok (.goto (-30), 3) := by decide +kernel
theorem dX7_alike_54 : decode cX7_alike 54 = .ok (.iload_n 3, 1) := by decide +kernel
theorem dX7_alike_55 : decode cX7_alike 55 = .ok (.ireturn, 1) := by decide +kernel
theorem dX7_saves_0 : decode cX7_saves 0 = .ok (.iload_n 1, 1) := by decide +kernel
theorem dX7_saves_1 : decode cX7_saves 1 = .ok (.invokestatic 76, 3) := by decide +kernel
theorem dX7_saves_4 : decode cX7_saves 4 = .ok (.ifCond .eq 20, 3) := by decide +kernel
theorem dX7_saves_7 : decode cX7_saves 7 = .ok (.aload_n 0, 1) := by decide +kernel
theorem dX7_saves_8 : decode cX7_saves 8 = .ok (.iload_n 1, 1) := by decide +kernel
theorem dX7_saves_9 : decode cX7_saves 9 = .ok (.invokevirtual 52, 3) := by decide +kernel
theorem dX7_saves_12 : decode cX7_saves 12 = .ok (.aload_n 0, 1) := by decide +kernel
theorem dX7_saves_13 : decode cX7_saves 13 = .ok (.iload_n 1, 1) := by decide +kernel
theorem dX7_saves_14 : decode cX7_saves 14 = .ok (.invokevirtual 136, 3) := by decide +kernel
theorem dX7_saves_17 : decode cX7_saves 17 = .ok (.invokestatic 162, 3) := by decide +kernel
theorem dX7_saves_20 : decode cX7_saves 20 = .ok (.isub, 1) := by decide +kernel
theorem dX7_saves_21 : decode cX7_saves 21 = .ok (.goto 4, 3) := by decide +kernel
theorem dX7_saves_24 : decode cX7_saves 24 = .ok (.iconst (-1), 1) := by decide +kernel
theorem dX7_saves_25 : decode cX7_saves 25 = .ok (.ireturn, 1) := by decide +kernel
theorem dX7_beginnings_0 : decode cX7_beginnings 0 = .ok (.iload_n 1, 1) := by decide +kernel
theorem dX7_beginnings_1 : decode cX7_beginnings 1 = .ok (.ifCond .eq 20, 3) := by decide +kernel
theorem dX7_beginnings_4 : decode cX7_beginnings 4 = .ok (.aload_n 0, 1) := by decide +kernel
theorem dX7_beginnings_5 : decode cX7_beginnings 5 = .ok (.getfield 25, 3) := by decide +kernel
theorem dX7_beginnings_8 : decode cX7_beginnings 8 = .ok (.iload_n 1, 1) := by decide +kernel
theorem dX7_beginnings_9 : decode cX7_beginnings 9 = .ok (.iaload, 1) := by decide +kernel
theorem dX7_beginnings_10 : decode cX7_beginnings 10 = .ok (.aload_n 0, 1) := by decide +kernel
theorem dX7_beginnings_11 : decode cX7_beginnings 11 = .ok (.getfield 25, 3) := by decide +kernel
theorem dX7_beginnings_14 : decode cX7_beginnings 14 = .ok (.iload_n 1, 1) := by decide +kernel
theorem dX7_beginnings_15 : decode cX7_beginnings 15 = .ok (.iconst 1, 1) := by decide +kernel
theorem dX7_beginnings_16 : decode cX7_beginnings 16 = .ok (.isub, 1) := by decide +kernel
theorem dX7_beginnings_17 : decode cX7_beginnings 17 = .ok (.iaload, 1) := by decide +kernel
theorem dX7_beginnings_18 : decode cX7_beginnings 18 = .ok (.if_icmp .eq 7, 3) := by decide +kernel
theorem dX7_beginnings_21 : decode cX7_beginnings 21 = .ok (.iconst 1, 1) := by decide +kernel
theorem dX7_beginnings_22 : decode cX7_beginnings 22 = .ok (.goto 4, 3) := by decide +kernel
theorem dX7_beginnings_25 : decode cX7_beginnings 25 = .ok (.iconst 0, 1) := by decide +kernel
theorem dX7_beginnings_26 : decode cX7_beginnings 26 = .ok (.istore_n 2, 1) := by decide +kernel
theorem dX7_beginnings_27 : decode cX7_beginnings 27 = .ok (.iload_n 2, 1) := by decide +kernel
theorem dX7_beginnings_28 : decode cX7_beginnings 28 = .ok (.iload_n 1, 1) := by decide +kernel
theorem dX7_beginnings_29 : decode cX7_beginnings 29 = .ok (.aload_n 0, 1) := by decide +kernel
theorem dX7_beginnings_30 : decode cX7_beginnings 30 = .ok (.getfield 63, 3) := by decide +kernel
theorem dX7_beginnings_33 : decode cX7_beginnings 33 = .ok (.iconst 1, 1) := by decide +kernel
theorem dX7_beginnings_34 : decode cX7_beginnings 34 = .ok (.isub, 1) := by decide +kernel
theorem dX7_beginnings_35 : decode cX7_beginnings 35 = .ok (.if_icmp .ge 24, 3) := by decide +kernel
theorem dX7_beginnings_38 : decode cX7_beginnings 38 = .ok (.aload_n 0, 1) := by decide +kernel
theorem dX7_beginnings_39 : decode cX7_beginnings 39 = .ok (.getfield 25, 3) := by decide +kernel
theorem dX7_beginnings_42 : decode cX7_beginnings 42 = .ok (.iload_n 1, 1) := by decide +kernel
theorem dX7_beginnings_43 : decode cX7_beginnings 43 = .ok (.iconst 1, 1) := by decide +kernel
theorem dX7_beginnings_44 : decode cX7_beginnings 44 = .ok (.iadd, 1) := by decide +kernel
theorem dX7_beginnings_45 : decode cX7_beginnings 45 = .ok (.iaload, 1) := by decide +kernel
theorem dX7_beginnings_46 : decode cX7_beginnings 46 = .ok (.aload_n 0, 1) := by decide +kernel
theorem dX7_beginnings_47 : decode cX7_beginnings 47 = .ok (.getfield 25, 3) := by decide +kernel
theorem dX7_beginnings_50 : decode cX7_beginnings 50 = .ok (.iload_n 1, 1) := by decide +kernel
theorem dX7_beginnings_51 : decode cX7_beginnings 51 = .ok (.iaload, 1) := by decide +kernel
theorem dX7_beginnings_52 : decode cX7_beginnings 52 = .ok (.if_icmp .eq 7, 3) := by decide +kernel
theorem dX7_beginnings_55 : decode cX7_beginnings 55 = .ok (.iconst 1, 1) := by decide +kernel
theorem dX7_beginnings_56 : decode cX7_beginnings 56 = .ok (.goto 4, 3) := by decide +kernel
theorem dX7_beginnings_59 : decode cX7_beginnings 59 = .ok (.iconst 0, 1) := by decide +kernel
theorem dX7_beginnings_60 : decode cX7_beginnings 60 = .ok (.iadd, 1) := by decide +kernel
theorem dX7_beginnings_61 : decode cX7_beginnings 61 = .ok (.ireturn, 1) := by decide +kernel
theorem dX7_bestSet_0 : decode cX7_bestSet 0 = .ok (.iload_n 1, 1) := by decide +kernel
theorem dX7_bestSet_1 : decode cX7_bestSet 1 = .ok (.invokestatic 76, 3) := by decide +kernel
theorem dX7_bestSet_4 : decode cX7_bestSet 4 = .ok (.ifCond .ne 5, 3) := by decide +kernel
theorem dX7_bestSet_7 : decode cX7_bestSet 7 = .ok (.iconst (-1), 1) := by decide +kernel
theorem dX7_bestSet_8 : decode cX7_bestSet 8 = .ok (.ireturn, 1) := by decide +kernel
theorem dX7_bestSet_9 : decode cX7_bestSet 9 = .ok (.iload_n 2, 1) := by decide +kernel
theorem dX7_bestSet_10 : decode cX7_bestSet 10 = .ok (.invokestatic 80, 3) := by decide +kernel
theorem dX7_bestSet_13 : decode cX7_bestSet 13 = .ok (.ifCond .eq 12, 3) := by decide +kernel
theorem dX7_bestSet_16 : decode cX7_bestSet 16 = .ok (.iload_n 3, 1) := by decide +kernel
theorem dX7_bestSet_17 : decode cX7_bestSet 17 = .ok (.iconst 0, 1) := by decide +kernel
theorem dX7_bestSet_18 : decode cX7_bestSet 18 = .ok (.iconst 1, 1) := by decide +kernel
theorem dX7_bestSet_19 : decode cX7_bestSet 19 = .ok (.invokestatic 48, 3) := by decide +kernel
theorem dX7_bestSet_22 : decode cX7_bestSet 22 = .ok (.ifCond .ne 6, 3) := by decide +kernel
theorem dX7_bestSet_25 : decode cX7_bestSet 25 = .ok (.bipush (-2), 2) := by decide +kernel
theorem dX7_bestSet_27 : decode cX7_bestSet 27 = .ok (.ireturn, 1) := by decide +kernel
theorem dX7_bestSet_28 : decode cX7_bestSet 28 = .ok (.aload_n 0, 1) := by decide +kernel
theorem dX7_bestSet_29 : decode cX7_bestSet 29 = .ok (.iload_n 1, 1) := by decide +kernel
theorem dX7_bestSet_30 : decode cX7_bestSet 30 = .ok (.invokevirtual 83, 3) := by decide +kernel
theorem dX7_bestSet_33 : decode cX7_bestSet 33 = .ok (.bipush (-6), 2) := by decide +kernel
theorem dX7_bestSet_35 : decode cX7_bestSet 35 = .ok (.istore 4, 2) := by decide +kernel
theorem dX7_bestSet_37 : decode cX7_bestSet 37 = .ok (.iconst 0, 1) := by decide +kernel
theorem dX7_bestSet_38 : decode cX7_bestSet 38 = .ok (.istore 5, 2) := by decide +kernel
theorem dX7_bestSet_40 : decode cX7_bestSet 40 = .ok (.iconst 0, 1) := by decide +kernel
theorem dX7_bestSet_41 : decode cX7_bestSet 41 = .ok (.istore 6, 2) := by decide +kernel
theorem dX7_bestSet_43 : decode cX7_bestSet 43 = .ok (.iload 6, 2) := by decide +kernel
theorem dX7_bestSet_45 : decode cX7_bestSet 45 = .ok (.aload_n 0, 1) := by decide +kernel
theorem dX7_bestSet_46 : decode cX7_bestSet 46 = .ok (.getfield 63, 3) := by decide +kernel
theorem dX7_bestSet_49 : decode cX7_bestSet 49 = .ok (.if_icmp .ge 109, 3) := by decide +kernel
theorem dX7_bestSet_52 : decode cX7_bestSet 52 = .ok (.aload_n 0, 1) := by decide +kernel
theorem dX7_bestSet_53 : decode cX7_bestSet 53 = .ok (.getfield 25, 3) := by decide +kernel
theorem dX7_bestSet_56 : decode cX7_bestSet 56 = .ok (.iload 6, 2) := by decide +kernel
theorem dX7_bestSet_58 : decode cX7_bestSet 58 = .ok (.iaload, 1) := by decide +kernel
theorem dX7_bestSet_59 : decode cX7_bestSet 59 = .ok (.istore 7, 2) := by decide +kernel
theorem dX7_bestSet_61 : decode cX7_bestSet 61 = .ok (.aload_n 0, 1) := by decide +kernel
theorem dX7_bestSet_62 : decode cX7_bestSet 62 = .ok (.iload_n 1, 1) := by decide +kernel
theorem dX7_bestSet_63 : decode cX7_bestSet 63 = .ok (.invokevirtual 52, 3) := by decide +kernel
theorem dX7_bestSet_66 : decode cX7_bestSet 66 = .ok (.aload_n 0, 1) := by decide +kernel
theorem dX7_bestSet_67 : decode cX7_bestSet 67 = .ok (.iload 6, 2) := by decide +kernel
theorem dX7_bestSet_69 : decode cX7_bestSet 69 = .ok (.invokevirtual 165, 3) := by decide +kernel
theorem dX7_bestSet_72 : decode cX7_bestSet 72 = .ok (.isub, 1) := by decide +kernel
theorem dX7_bestSet_73 : decode cX7_bestSet 73 = .ok (.istore 8, 2) := by decide +kernel
theorem dX7_bestSet_75 : decode cX7_bestSet 75 = .ok (.aload_n 0, 1) := by decide +kernel
theorem dX7_bestSet_76 : decode cX7_bestSet 76 = .ok (.getfield 25, 3) := by decide +kernel
theorem dX7_bestSet_79 : decode cX7_bestSet 79 = .ok (.iload 6, 2) := by decide +kernel
theorem dX7_bestSet_81 : decode cX7_bestSet 81 = .ok (.iload_n 2, 1) := by decide +kernel
theorem dX7_bestSet_82 : decode cX7_bestSet 82 = .ok (.iastore, 1) := by decide +kernel
theorem dX7_bestSet_83 : decode cX7_bestSet 83 = .ok (.iload 8, 2) := by decide +kernel
theorem dX7_bestSet_85 : decode cX7_bestSet 85 = .ok (.aload_n 0, 1) := by decide +kernel
theorem dX7_bestSet_86 : decode cX7_bestSet 86 = .ok (.iload 6, 2) := by decide +kernel
theorem dX7_bestSet_88 : decode cX7_bestSet 88 = .ok (.invokevirtual 165, 3) := by decide +kernel
theorem dX7_bestSet_91 : decode cX7_bestSet 91 = .ok (.iadd, 1) := by decide +kernel
theorem dX7_bestSet_92 : decode cX7_bestSet 92 = .ok (.istore 8, 2) := by decide +kernel
theorem dX7_bestSet_94 : decode cX7_bestSet 94 = .ok (.aload_n 0, 1) := by decide +kernel
theorem dX7_bestSet_95 : decode cX7_bestSet 95 = .ok (.getfield 25, 3) := by decide +kernel
theorem dX7_bestSet_98 : decode cX7_bestSet 98 = .ok (.iload 6, 2) := by decide +kernel
theorem dX7_bestSet_100 : decode cX7_bestSet 100 = .ok (.iload 7, 2) := by decide +kernel
theorem dX7_bestSet_102 : decode cX7_bestSet 102 = .ok (.iastore, 1) := by decide +kernel
theorem dX7_bestSet_103 : decode cX7_bestSet 103 = .ok (.iload 4, 2) := by decide +kernel
theorem dX7_bestSet_105 : decode cX7_bestSet 105 = .ok (.bipush (-6), 2) := by decide +kernel
theorem dX7_bestSet_107 : decode cX7_bestSet 107 = .ok (.if_icmp .eq 10, 3) := by decide +kernel
theorem dX7_bestSet_110 : decode cX7_bestSet 110 = .ok (.iload 8, 2) := by decide +kernel
theorem dX7_bestSet_112 : decode cX7_bestSet 112 = .ok (.iload 5, 2) := by decide +kernel
theorem dX7_bestSet_114 : decode cX7_bestSet 114 = .ok (.if_icmp .ge 7, 3) := by decide +kernel
theorem dX7_bestSet_117 : decode cX7_bestSet 117 = .ok (.iconst 1, 1) := by decide +kernel
theorem dX7_bestSet_118 : decode cX7_bestSet 118 = .ok (.goto 4, 3) := by decide +kernel
theorem dX7_bestSet_121 : decode cX7_bestSet 121 = .ok (.iconst 0, 1) := by decide +kernel
theorem dX7_bestSet_122 : decode cX7_bestSet 122 = .ok (.istore 9, 2) := by decide +kernel
theorem dX7_bestSet_124 : decode cX7_bestSet 124 = .ok (.iload 9, 2) := by decide +kernel
theorem dX7_bestSet_126 : decode cX7_bestSet 126 = .ok (.ifCond .eq 8, 3) := by decide +kernel
theorem dX7_bestSet_129 : decode cX7_bestSet 129 = .ok (.iload 6, 2) := by decide +kernel
theorem dX7_bestSet_131 : decode cX7_bestSet 131 = .ok (.goto 5, 3) := by decide +kernel
theorem dX7_bestSet_134 : decode cX7_bestSet 134 = .ok (.iload 4, 2) := by decide +kernel
theorem dX7_bestSet_136 : decode cX7_bestSet 136 = .ok (.istore 4, 2) := by decide +kernel
theorem dX7_bestSet_138 : decode cX7_bestSet 138 = .ok (.iload 9, 2) := by decide +kernel
theorem dX7_bestSet_140 : decode cX7_bestSet 140 = .ok (.ifCond .eq 8, 3) := by decide +kernel
theorem dX7_bestSet_143 : decode cX7_bestSet 143 = .ok (.iload 8, 2) := by decide +kernel
theorem dX7_bestSet_145 : decode cX7_bestSet 145 = .ok (.goto 5, 3) := by decide +kernel
theorem dX7_bestSet_148 : decode cX7_bestSet 148 = .ok (.iload 5, 2) := by decide +kernel
theorem dX7_bestSet_150 : decode cX7_bestSet 150 = .ok (.istore 5, 2) := by decide +kernel
theorem dX7_bestSet_152 : decode cX7_bestSet 152 = .ok (.iinc 6 1, 3) := by decide +kernel
theorem dX7_bestSet_155 : decode cX7_bestSet 155 = .ok (.goto (-112), 3) := by decide +kernel
theorem dX7_bestSet_158 : decode cX7_bestSet 158 = .ok (.iload 4, 2) := by decide +kernel
theorem dX7_bestSet_160 : decode cX7_bestSet 160 = .ok (.bipush (-6), 2) := by decide +kernel
theorem dX7_bestSet_162 : decode cX7_bestSet 162 = .ok (.if_icmp .eq 7, 3) := by decide +kernel
theorem dX7_bestSet_165 : decode cX7_bestSet 165 = .ok (.iload_n 3, 1) := by decide +kernel
theorem dX7_bestSet_166 : decode cX7_bestSet 166 = .ok (.ifCond .ne 8, 3) := by decide +kernel
theorem dX7_bestSet_169 : decode cX7_bestSet 169 = .ok (.iload 4, 2) := by decide +kernel
theorem dX7_bestSet_171 : decode cX7_bestSet 171 = .ok (.goto 5, 3) := by decide +kernel
theorem dX7_bestSet_174 : decode cX7_bestSet 174 = .ok (.iload 5, 2) := by decide +kernel
theorem dX7_bestSet_176 : decode cX7_bestSet 176 = .ok (.ireturn, 1) := by decide +kernel
theorem dX7_put_0 : decode cX7_put 0 = .ok (.iconst 0, 1) := by decide +kernel
theorem dX7_put_1 : decode cX7_put 1 = .ok (.istore_n 3, 1) := by decide +kernel
theorem dX7_put_2 : decode cX7_put 2 = .ok (.lload_n 1, 1) := by decide +kernel
theorem dX7_put_3 : decode cX7_put 3 = .ok (.lstore 4, 2) := by decide +kernel
theorem dX7_put_5 : decode cX7_put 5 = .ok (.iconst 1, 1) := by decide +kernel
theorem dX7_put_6 : decode cX7_put 6 = .ok (.istore 6, 2) := by decide +kernel
theorem dX7_put_8 : decode cX7_put 8 = .ok (.iload_n 3, 1) := by decide +kernel
theorem dX7_put_9 : decode cX7_put 9 = .ok (.bipush 8, 2) := by decide +kernel
theorem dX7_put_11 : decode cX7_put 11 = .ok (.if_icmp .ge 56, 3) := by decide +kernel
theorem dX7_put_14 : decode cX7_put 14 = .ok (.lload 4, 2) := by decide +kernel
theorem dX7_put_16 : decode cX7_put 16 = .ok (.ldc2_w 168, 3) := by decide +kernel
theorem dX7_put_19 : decode cX7_put 19 = .ok (.land, 1) := by decide +kernel
theorem dX7_put_20 : decode cX7_put 20 = .ok (.lconst 0, 1) := by decide +kernel
theorem dX7_put_21 : decode cX7_put 21 = .ok (.lcmp, 1) := by decide +kernel
theorem dX7_put_22 : decode cX7_put 22 = .ok (.ifCond .eq 45, 3) := by decide +kernel
theorem dX7_put_25 : decode cX7_put 25 = .ok (.iload 6, 2) := by decide +kernel
theorem dX7_put_27 : decode cX7_put 27 = .ok (.ifCond .eq 24, 3) := by decide +kernel
theorem dX7_put_30 : decode cX7_put 30 = .ok (.lload 4, 2) := by decide +kernel
theorem dX7_put_32 : decode cX7_put 32 = .ok (.ldc2_w 168, 3) := by decide +kernel
theorem dX7_put_35 : decode cX7_put 35 = .ok (.land, 1) := by decide +kernel
theorem dX7_put_36 : decode cX7_put 36 = .ok (.l2i, 1) := by decide +kernel
theorem dX7_put_37 : decode cX7_put 37 = .ok (.bipush 33, 2) := by decide +kernel
theorem dX7_put_39 : decode cX7_put 39 = .ok (.bipush 126, 2) := by decide +kernel
theorem dX7_put_41 : decode cX7_put 41 = .ok (.invokestatic 48, 3) := by decide +kernel
theorem dX7_put_44 : decode cX7_put 44 = .ok (.ifCond .eq 7, 3) := by decide +kernel
theorem dX7_put_47 : decode cX7_put 47 = .ok (.iconst 1, 1) := by decide +kernel
theorem dX7_put_48 : decode cX7_put 48 = .ok (.goto 4, 3) := by decide +kernel
theorem dX7_put_51 : decode cX7_put 51 = .ok (.iconst 0, 1) := by decide +kernel
theorem dX7_put_52 : decode cX7_put 52 = .ok (.istore 6, 2) := by decide +kernel
theorem dX7_put_54 : decode cX7_put 54 = .ok (.lload 4, 2) := by decide +kernel
theorem dX7_put_56 : decode cX7_put 56 = .ok (.bipush 8, 2) := by decide +kernel
theorem dX7_put_58 : decode cX7_put 58 = .ok (.lushr, 1) := by decide +kernel
theorem dX7_put_59 : decode cX7_put 59 = .ok (.lstore 4, 2) := by decide +kernel
theorem dX7_put_61 : decode cX7_put 61 = .ok (.iinc 3 1, 3) := by decide +kernel
theorem dX7_put_64 : decode cX7_put 64 = .ok (.goto (-56), 3) := by decide +kernel
theorem dX7_put_67 : decode cX7_put 67 = .ok (.iload_n 3, 1) := by decide +kernel
theorem dX7_put_68 : decode cX7_put 68 = .ok (.ifCond .eq 15, 3) := by decide +kernel
theorem dX7_put_71 : decode cX7_put 71 = .ok (.iload 6, 2) := by decide +kernel
theorem dX7_put_73 : decode cX7_put 73 = .ok (.ifCond .eq 10, 3) := by decide +kernel
theorem dX7_put_76 : decode cX7_put 76 = .ok (.lload 4, 2) := by decide +kernel
theorem dX7_put_78 : decode cX7_put 78 = .ok (.lconst 0, 1) := by decide +kernel
theorem dX7_put_79 : decode cX7_put 79 = .ok (.lcmp, 1) := by decide +kernel
theorem dX7_put_80 : decode cX7_put 80 = .ok (.ifCond .eq 6, 3) := by decide +kernel
theorem dX7_put_83 : decode cX7_put 83 = .ok (.bipush (-2), 2) := by decide +kernel
theorem dX7_put_85 : decode cX7_put 85 = .ok (.ireturn, 1) := by decide +kernel
theorem dX7_put_86 : decode cX7_put 86 = .ok (.aload_n 0, 1) := by decide +kernel
theorem dX7_put_87 : decode cX7_put 87 = .ok (.getfield 153, 3) := by decide +kernel
theorem dX7_put_90 : decode cX7_put 90 = .ok (.iload_n 3, 1) := by decide +kernel
theorem dX7_put_91 : decode cX7_put 91 = .ok (.iadd, 1) := by decide +kernel
theorem dX7_put_92 : decode cX7_put 92 = .ok (.bipush 80, 2) := by decide +kernel
theorem dX7_put_94 : decode cX7_put 94 = .ok (.if_icmp .le 6, 3) := by decide +kernel
theorem dX7_put_97 : decode cX7_put 97 = .ok (.bipush (-4), 2) := by decide +kernel
theorem dX7_put_99 : decode cX7_put 99 = .ok (.ireturn, 1) := by decide +kernel
theorem dX7_put_100 : decode cX7_put 100 = .ok (.iload_n 3, 1) := by decide +kernel
theorem dX7_put_101 : decode cX7_put 101 = .ok (.iconst 1, 1) := by decide +kernel
theorem dX7_put_102 : decode cX7_put 102 = .ok (.isub, 1) := by decide +kernel
theorem dX7_put_103 : decode cX7_put 103 = .ok (.istore 7, 2) := by decide +kernel
theorem dX7_put_105 : decode cX7_put 105 = .ok (.iload 7, 2) := by decide +kernel
theorem dX7_put_107 : decode cX7_put 107 = .ok (.ifCond .lt 40, 3) := by decide +kernel
theorem dX7_put_110 : decode cX7_put 110 = .ok (.aload_n 0, 1) := by decide +kernel
theorem dX7_put_111 : decode cX7_put 111 = .ok (.getfield 22, 3) := by decide +kernel
theorem dX7_put_114 : decode cX7_put 114 = .ok (.aload_n 0, 1) := by decide +kernel
theorem dX7_put_115 : decode cX7_put 115 = .ok (.getfield 153, 3) := by decide +kernel
theorem dX7_put_118 : decode cX7_put 118 = .ok (.lload_n 1, 1) := by decide +kernel
theorem dX7_put_119 : decode cX7_put 119 = .ok (.bipush 8, 2) := by decide +kernel
theorem dX7_put_121 : decode cX7_put 121 = .ok (.iload 7, 2) := by decide +kernel
theorem dX7_put_123 : decode cX7_put 123 = .ok (.imul, 1) := by decide +kernel
theorem dX7_put_124 : decode cX7_put 124 = .ok (.lushr, 1) := by decide +kernel
theorem dX7_put_125 : decode cX7_put 125 = .ok (.ldc2_w 168, 3) := by decide +kernel
theorem dX7_put_128 : decode cX7_put 128 = .ok (.land, 1) := by decide +kernel
theorem dX7_put_129 : decode cX7_put 129 = .ok (.l2i, 1) := by decide +kernel
theorem dX7_put_130 : decode cX7_put 130 = .ok (.iastore, 1) := by decide +kernel
theorem dX7_put_131 : decode cX7_put 131 = .ok (.aload_n 0, 1) := by decide +kernel
theorem dX7_put_132 : decode cX7_put 132 = .ok (.dup, 1) := by decide +kernel
theorem dX7_put_133 : decode cX7_put 133 = .ok (.getfield 153, 3) := by decide +kernel
theorem dX7_put_136 : decode cX7_put 136 = .ok (.iconst 1, 1) := by decide +kernel
theorem dX7_put_137 : decode cX7_put 137 = .ok (.iadd, 1) := by decide +kernel
theorem dX7_put_138 : decode cX7_put 138 = .ok (.putfield 153, 3) := by decide +kernel
theorem dX7_put_141 : decode cX7_put 141 = .ok (.iinc 7 (-1), 3) := by decide +kernel
theorem dX7_put_144 : decode cX7_put 144 = .ok (.goto (-39), 3) := by decide +kernel
theorem dX7_put_147 : decode cX7_put 147 = .ok (.aload_n 0, 1) := by decide +kernel
theorem dX7_put_148 : decode cX7_put 148 = .ok (.getfield 153, 3) := by decide +kernel
theorem dX7_put_151 : decode cX7_put 151 = .ok (.ireturn, 1) := by decide +kernel
theorem dX7_wipe_0 : decode cX7_wipe 0 = .ok (.aload_n 0, 1) := by decide +kernel
theorem dX7_wipe_1 : decode cX7_wipe 1 = .ok (.getfield 153, 3) := by decide +kernel
theorem dX7_wipe_4 : decode cX7_wipe 4 = .ok (.istore_n 1, 1) := by decide +kernel
theorem dX7_wipe_5 : decode cX7_wipe 5 = .ok (.aload_n 0, 1) := by decide +kernel
theorem dX7_wipe_6 : decode cX7_wipe 6 = .ok (.iconst 0, 1) := by decide +kernel
theorem dX7_wipe_7 : decode cX7_wipe 7 = .ok (.putfield 153, 3) := by decide +kernel
theorem dX7_wipe_10 : decode cX7_wipe 10 = .ok (.iload_n 1, 1) := by decide +kernel
theorem dX7_wipe_11 : decode cX7_wipe 11 = .ok (.ireturn, 1) := by decide +kernel
theorem dX7_character_0 : decode cX7_character 0 = .ok (.iload_n 1, 1) := by decide +kernel
theorem dX7_character_1 : decode cX7_character 1 = .ok (.aload_n 0, 1) := by decide +kernel
theorem dX7_character_2 : decode cX7_character 2 = .ok (.getfield 153, 3) := by decide +kernel
theorem dX7_character_5 : decode cX7_character 5 = .ok (.if_icmp .ge 12, 3) := by decide +kernel
theorem dX7_character_8 : decode cX7_character 8 = .ok (.aload_n 0, 1) := by decide +kernel
theorem dX7_character_9 : decode cX7_character 9 = .ok (.getfield 22, 3) := by decide +kernel
theorem dX7_character_12 : decode cX7_character 12 = .ok (.iload_n 1, 1) := by decide +kernel
theorem dX7_character_13 : decode cX7_character 13 = .ok (.iaload, 1) := by decide +kernel
theorem dX7_character_14 : decode cX7_character 14 = .ok (.goto 4, 3) := by decide +kernel
theorem dX7_character_17 : decode cX7_character 17 = .ok (.iconst (-1), 1) := by decide +kernel
theorem dX7_character_18 : decode cX7_character 18 = .ok (.ireturn, 1) := by decide +kernel
theorem dX7_isNext_0 : decode cX7_isNext 0 = .ok (.aload_n 0, 1) := by decide +kernel
theorem dX7_isNext_1 : decode cX7_isNext 1 = .ok (.aload_n 0, 1) := by decide +kernel
theorem dX7_isNext_2 : decode cX7_isNext 2 = .ok (.getfield 170, 3) := by decide +kernel
theorem dX7_isNext_5 : decode cX7_isNext 5 = .ok (.invokevirtual 173, 3) := by decide +kernel
theorem dX7_isNext_8 : decode cX7_isNext 8 = .ok (.iload_n 1, 1) := by decide +kernel
theorem dX7_isNext_9 : decode cX7_isNext 9 = .ok (.if_icmp .ne 7, 3) := by decide +kernel
theorem dX7_isNext_12 : decode cX7_isNext 12 = .ok (.iconst 1, 1) := by decide +kernel
theorem dX7_isNext_13 : decode cX7_isNext 13 = .ok (.goto 4, 3) := by decide +kernel
theorem dX7_isNext_16 : decode cX7_isNext 16 = .ok (.iconst 0, 1) := by decide +kernel
theorem dX7_isNext_17 : decode cX7_isNext 17 = .ok (.istore_n 2, 1) := by decide +kernel
theorem dX7_isNext_18 : decode cX7_isNext 18 = .ok (.aload_n 0, 1) := by decide +kernel
theorem dX7_isNext_19 : decode cX7_isNext 19 = .ok (.dup, 1) := by decide +kernel
theorem dX7_isNext_20 : decode cX7_isNext 20 = .ok (.getfield 170, 3) := by decide +kernel
theorem dX7_isNext_23 : decode cX7_isNext 23 = .ok (.iload_n 2, 1) := by decide +kernel
theorem dX7_isNext_24 : decode cX7_isNext 24 = .ok (.ifCond .eq 7, 3) := by decide +kernel
theorem dX7_isNext_27 : decode cX7_isNext 27 = .ok (.iconst 1, 1) := by decide +kernel
theorem dX7_isNext_28 : decode cX7_isNext 28 = .ok (.goto 4, 3) := by decide +kernel
theorem dX7_isNext_31 : decode cX7_isNext 31 = .ok (.iconst 0, 1) := by decide +kernel
theorem dX7_isNext_32 : decode cX7_isNext 32 = .ok (.iadd, 1) := by decide +kernel
theorem dX7_isNext_33 : decode cX7_isNext 33 = .ok (.putfield 170, 3) := by decide +kernel
theorem dX7_isNext_36 : decode cX7_isNext 36 = .ok (.iload_n 2, 1) := by decide +kernel
theorem dX7_isNext_37 : decode cX7_isNext 37 = .ok (.ireturn, 1) := by decide +kernel
theorem dX7_takeDigit_0 : decode cX7_takeDigit 0 = .ok (.aload_n 0, 1) := by decide +kernel
theorem dX7_takeDigit_1 : decode cX7_takeDigit 1 = .ok (.aload_n 0, 1) := by decide +kernel
theorem dX7_takeDigit_2 : decode cX7_takeDigit 2 = .ok (.getfield 170, 3) := by decide +kernel
theorem dX7_takeDigit_5 : decode cX7_takeDigit 5 = .ok (.invokevirtual 173, 3) := by decide +kernel
theorem dX7_takeDigit_8 : decode cX7_takeDigit 8 = .ok (.bipush 48, 2) := by decide +kernel
theorem dX7_takeDigit_10 : decode cX7_takeDigit 10 = .ok (.isub, 1) := by decide +kernel
theorem dX7_takeDigit_11 : decode cX7_takeDigit 11 = .ok (.istore_n 2, 1) := by decide +kernel
theorem dX7_takeDigit_12 : decode cX7_takeDigit 12 = .ok (.iload_n 2, 1) := by decide +kernel
theorem dX7_takeDigit_13 : decode cX7_takeDigit 13 = .ok (.iconst 0, 1) := by decide +kernel
theorem dX7_takeDigit_14 : decode cX7_takeDigit 14 = .ok (.iload_n 1, 1) := by decide +kernel
theorem dX7_takeDigit_15 : decode cX7_takeDigit 15 = .ok (.invokestatic 48, 3) := by decide +kernel
theorem dX7_takeDigit_18 : decode cX7_takeDigit 18 = .ok (.ifCond .ne 5, 3) := by decide +kernel
theorem dX7_takeDigit_21 : decode cX7_takeDigit 21 = .ok (.iconst (-1), 1) := by decide +kernel
theorem dX7_takeDigit_22 : decode cX7_takeDigit 22 = .ok (.ireturn, 1) := by decide +kernel
theorem dX7_takeDigit_23 : decode cX7_takeDigit 23 = .ok (.aload_n 0, 1) := by decide +kernel
theorem dX7_takeDigit_24 : decode cX7_takeDigit 24 = .ok (.dup, 1) := by decide +kernel
theorem dX7_takeDigit_25 : decode cX7_takeDigit 25 = .ok (.getfield 170, 3) := by decide +kernel
theorem dX7_takeDigit_28 : decode cX7_takeDigit 28 = .ok (.iconst 1, 1) := by decide +kernel
theorem dX7_takeDigit_29 : decode cX7_takeDigit 29 = .ok (.iadd, 1) := by decide +kernel
theorem dX7_takeDigit_30 : decode cX7_takeDigit 30 = .ok (.putfield 170, 3) := by decide +kernel
theorem dX7_takeDigit_33 : decode cX7_takeDigit 33 = .ok (.iload_n 2, 1) := by decide +kernel
theorem dX7_takeDigit_34 : decode cX7_takeDigit 34 = .ok (.ireturn, 1) := by decide +kernel
theorem dX7_takeNumber_0 : decode cX7_takeNumber 0 = .ok (.aload_n 0, 1) := by decide +kernel
theorem dX7_takeNumber_1 : decode cX7_takeNumber 1 = .ok (.bipush 9, 2) := by decide +kernel
theorem dX7_takeNumber_3 : decode cX7_takeNumber 3 = .ok (.invokevirtual 176, 3) := by decide +kernel
theorem dX7_takeNumber_6 : decode cX7_takeNumber 6 = .ok (.istore_n 1, 1) := by decide +kernel
theorem dX7_takeNumber_7 : decode cX7_takeNumber 7 = .ok (.iload_n 1, 1) := by decide +kernel
theorem dX7_takeNumber_8 : decode cX7_takeNumber 8 = .ok (.ifCond .le 42, 3) := by decide +kernel
theorem dX7_takeNumber_11 : decode cX7_takeNumber 11 = .ok (.iload_n 1, 1) := by decide +kernel
theorem dX7_takeNumber_12 : decode cX7_takeNumber 12 = .ok (.bipush 100, 2) := by decide +kernel
theorem dX7_takeNumber_14 : decode cX7_takeNumber 14 = .ok (.if_icmp .ge 36, 3) := by decide +kernel
theorem dX7_takeNumber_17 : decode cX7_takeNumber 17 = .ok (.aload_n 0, 1) := by decide +kernel
theorem dX7_takeNumber_18 : decode cX7_takeNumber 18 = .ok (.aload_n 0, 1) := by decide +kernel
theorem dX7_takeNumber_19 : decode cX7_takeNumber 19 = .ok (.getfield 170, 3) := by decide +kernel
theorem dX7_takeNumber_22 : decode cX7_takeNumber 22 = .ok (.invokevirtual 173, 3) := by decide +kernel
theorem dX7_takeNumber_25 : decode cX7_takeNumber 25 = .ok (.bipush 48, 2) := by decide +kernel
theorem dX7_takeNumber_27 : decode cX7_takeNumber 27 = .ok (.bipush 57, 2) := by decide +kernel
theorem dX7_takeNumber_29 : decode cX7_takeNumber 29 = .ok (.invokestatic 48, 3) := by decide +kernel
theorem dX7_takeNumber_32 : decode cX7_takeNumber 32 = .ok (.ifCond .eq 18, 3) := by decide +kernel
theorem dX7_takeNumber_35 : decode cX7_takeNumber 35 = .ok (.bipush 10, 2) := by decide +kernel
theorem dX7_takeNumber_37 : decode cX7_takeNumber 37 = .ok (.iload_n 1, 1) := by decide +kernel
theorem dX7_takeNumber_38 : decode cX7_takeNumber 38 = .ok (.imul, 1) := by decide +kernel
theorem dX7_takeNumber_39 : decode cX7_takeNumber 39 = .ok (.aload_n 0, 1) := by decide +kernel
theorem dX7_takeNumber_40 : decode cX7_takeNumber 40 = .ok (.bipush 9, 2) := by decide +kernel
theorem dX7_takeNumber_42 : decode cX7_takeNumber 42 = .ok (.invokevirtual 176, 3) := by decide +kernel
theorem dX7_takeNumber_45 : decode cX7_takeNumber 45 = .ok (.iadd, 1) := by decide +kernel
theorem dX7_takeNumber_46 : decode cX7_takeNumber 46 = .ok (.istore_n 1, 1) := by decide +kernel
theorem dX7_takeNumber_47 : decode cX7_takeNumber 47 = .ok (.goto (-40), 3) := by decide +kernel
theorem dX7_takeNumber_50 : decode cX7_takeNumber 50 = .ok (.iload_n 1, 1) := by decide +kernel
theorem dX7_takeNumber_51 : decode cX7_takeNumber 51 = .ok (.ireturn, 1) := by decide +kernel
theorem dX7_readsRuns_0 : decode cX7_readsRuns 0 = .ok (.aload_n 0, 1) := by decide +kernel
theorem dX7_readsRuns_1 : decode cX7_readsRuns 1 = .ok (.iconst 0, 1) := by decide +kernel
theorem dX7_readsRuns_2 : decode cX7_readsRuns 2 = .ok (.putfield 179, 3) := by decide +kernel
theorem dX7_readsRuns_5 : decode cX7_readsRuns 5 = .ok (.iconst 1, 1) := by decide +kernel
theorem dX7_readsRuns_6 : decode cX7_readsRuns 6 = .ok (.istore_n 1, 1) := by decide +kernel
theorem dX7_readsRuns_7 : decode cX7_readsRuns 7 = .ok (.iload_n 1, 1) := by decide +kernel
theorem dX7_readsRuns_8 : decode cX7_readsRuns 8 = .ok (.ifCond .eq 82, 3) := by decide +kernel
theorem dX7_readsRuns_11 : decode cX7_readsRuns 11 = .ok (.aload_n 0, 1) := by decide +kernel
theorem dX7_readsRuns_12 : decode cX7_readsRuns 12 = .ok (.bipush 9, 2) := by decide +kernel
theorem dX7_readsRuns_14 : decode cX7_readsRuns 14 = .ok (.invokevirtual 176, 3) := by decide +kernel
theorem dX7_readsRuns_17 : decode cX7_readsRuns 17 = .ok (.istore_n 2, 1) := by decide +kernel
theorem dX7_readsRuns_18 : decode cX7_readsRuns 18 = .ok (.iload_n 2, 1) := by decide +kernel
theorem dX7_readsRuns_19 : decode cX7_readsRuns 19 = .ok (.ifCond .ge 7, 3) := by decide +kernel
theorem dX7_readsRuns_22 : decode cX7_readsRuns 22 = .ok (.iconst (-1), 1) := by decide +kernel
theorem dX7_readsRuns_23 : decode cX7_readsRuns 23 = .ok (.goto 20, 3) := by decide +kernel
theorem dX7_readsRuns_26 : decode cX7_readsRuns 26 = .ok (.aload_n 0, 1) := by decide +kernel
theorem dX7_readsRuns_27 : decode cX7_readsRuns 27 = .ok (.bipush 42, 2) := by decide +kernel
theorem dX7_readsRuns_29 : decode cX7_readsRuns 29 = .ok (.invokevirtual 182, 3) := by decide +kernel
theorem dX7_readsRuns_32 : decode cX7_readsRuns 32 = .ok (.ifCond .eq 10, 3) := by decide +kernel
theorem dX7_readsRuns_35 : decode cX7_readsRuns 35 = .ok (.aload_n 0, 1) := by decide +kernel
theorem dX7_readsRuns_36 : decode cX7_readsRuns 36 = .ok (.invokevirtual 185, 3) := by decide +kernel
theorem dX7_readsRuns_39 : decode cX7_readsRuns 39 = .ok (.goto 4, 3) := by decide +kernel
theorem dX7_readsRuns_42 : decode cX7_readsRuns 42 = .ok (.iconst 1, 1) := by decide +kernel
theorem dX7_readsRuns_43 : decode cX7_readsRuns 43 = .ok (.istore_n 3, 1) := by decide +kernel
theorem dX7_readsRuns_44 : decode cX7_readsRuns 44 = .ok (.iload_n 3, 1) := by decide +kernel
theorem dX7_readsRuns_45 : decode cX7_readsRuns 45 = .ok (.ifCond .ge 5, 3) := by decide +kernel
theorem dX7_readsRuns_48 : decode cX7_readsRuns 48 = .ok (.iconst 0, 1) := by decide +kernel
theorem dX7_readsRuns_49 : decode cX7_readsRuns 49 = .ok (.ireturn, 1) := by decide +kernel
theorem dX7_readsRuns_50 : decode cX7_readsRuns 50 = .ok (.aload_n 0, 1) := by decide +kernel
theorem dX7_readsRuns_51 : decode cX7_readsRuns 51 = .ok (.getfield 34, 3) := by decide +kernel
theorem dX7_readsRuns_54 : decode cX7_readsRuns 54 = .ok (.aload_n 0, 1) := by decide +kernel
theorem dX7_readsRuns_55 : decode cX7_readsRuns 55 = .ok (.getfield 179, 3) := by decide +kernel
theorem dX7_readsRuns_58 : decode cX7_readsRuns 58 = .ok (.iload_n 2, 1) := by decide +kernel
theorem dX7_readsRuns_59 : decode cX7_readsRuns 59 = .ok (.iastore, 1) := by decide +kernel
theorem dX7_readsRuns_60 : decode cX7_readsRuns 60 = .ok (.aload_n 0, 1) := by decide +kernel
theorem dX7_readsRuns_61 : decode cX7_readsRuns 61 = .ok (.getfield 37, 3) := by decide +kernel
theorem dX7_readsRuns_64 : decode cX7_readsRuns 64 = .ok (.aload_n 0, 1) := by decide +kernel
theorem dX7_readsRuns_65 : decode cX7_readsRuns 65 = .ok (.getfield 179, 3) := by decide +kernel
theorem dX7_readsRuns_68 : decode cX7_readsRuns 68 = .ok (.iload_n 3, 1) := by decide +kernel
theorem dX7_readsRuns_69 : decode cX7_readsRuns 69 = .ok (.iastore, 1) := by decide +kernel
theorem dX7_readsRuns_70 : decode cX7_readsRuns 70 = .ok (.aload_n 0, 1) := by decide +kernel
theorem dX7_readsRuns_71 : decode cX7_readsRuns 71 = .ok (.dup, 1) := by decide +kernel
theorem dX7_readsRuns_72 : decode cX7_readsRuns 72 = .ok (.getfield 179, 3) := by decide +kernel
theorem dX7_readsRuns_75 : decode cX7_readsRuns 75 = .ok (.iconst 1, 1) := by decide +kernel
theorem dX7_readsRuns_76 : decode cX7_readsRuns 76 = .ok (.iadd, 1) := by decide +kernel
theorem dX7_readsRuns_77 : decode cX7_readsRuns 77 = .ok (.putfield 179, 3) := by decide +kernel
theorem dX7_readsRuns_80 : decode cX7_readsRuns 80 = .ok (.aload_n 0, 1) := by decide +kernel
theorem dX7_readsRuns_81 : decode cX7_readsRuns 81 = .ok (.bipush 44, 2) := by decide +kernel
theorem dX7_readsRuns_83 : decode cX7_readsRuns 83 = .ok (.invokevirtual 182, 3) := by decide +kernel
theorem dX7_readsRuns_86 : decode cX7_readsRuns 86 = .ok (.istore_n 1, 1) := by decide +kernel
theorem dX7_readsRuns_87 : decode cX7_readsRuns 87 = .ok (.goto (-80), 3) := by decide +kernel
theorem dX7_readsRuns_90 : decode cX7_readsRuns 90 = .ok (.iconst 1, 1) := by decide +kernel
theorem dX7_readsRuns_91 : decode cX7_readsRuns 91 = .ok (.ireturn, 1) := by decide +kernel
theorem dX7_readsRest_0 : decode cX7_readsRest 0 = .ok (.aload_n 0, 1) := by decide +kernel
theorem dX7_readsRest_1 : decode cX7_readsRest 1 = .ok (.getfield 188, 3) := by decide +kernel
theorem dX7_readsRest_4 : decode cX7_readsRest 4 = .ok (.lookupswitch 159 #[(33, 57), (43, 52), (45, 59), (61, 52), (64, 108)], 52) := by decide +kernel
theorem dX7_readsRest_56 : decode cX7_readsRest 56 = .ok (.aload_n 0, 1) := by decide +kernel
theorem dX7_readsRest_57 : decode cX7_readsRest 57 = .ok (.invokevirtual 191, 3) := by decide +kernel
theorem dX7_readsRest_60 : decode cX7_readsRest 60 = .ok (.ireturn, 1) := by decide +kernel
theorem dX7_readsRest_61 : decode cX7_readsRest 61 = .ok (.iconst 1, 1) := by decide +kernel
theorem dX7_readsRest_62 : decode cX7_readsRest 62 = .ok (.ireturn, 1) := by decide +kernel
theorem dX7_readsRest_63 : decode cX7_readsRest 63 = .ok (.aload_n 0, 1) := by decide +kernel
theorem dX7_readsRest_64 : decode cX7_readsRest 64 = .ok (.aload_n 0, 1) := by decide +kernel
theorem dX7_readsRest_65 : decode cX7_readsRest 65 = .ok (.invokevirtual 185, 3) := by decide +kernel
theorem dX7_readsRest_68 : decode cX7_readsRest 68 = .ok (.putfield 194, 3) := by decide +kernel
theorem dX7_readsRest_71 : decode cX7_readsRest 71 = .ok (.aload_n 0, 1) := by decide +kernel
theorem dX7_readsRest_72 : decode cX7_readsRest 72 = .ok (.aload_n 0, 1) := by decide +kernel
theorem dX7_readsRest_73 : decode cX7_readsRest 73 = .ok (.getfield 194, 3) := by decide +kernel
theorem dX7_readsRest_76 : decode cX7_readsRest 76 = .ok (.ifCond .lt 19, 3) := by decide +kernel
theorem dX7_readsRest_79 : decode cX7_readsRest 79 = .ok (.aload_n 0, 1) := by decide +kernel
theorem dX7_readsRest_80 : decode cX7_readsRest 80 = .ok (.bipush 42, 2) := by decide +kernel
theorem dX7_readsRest_82 : decode cX7_readsRest 82 = .ok (.invokevirtual 182, 3) := by decide +kernel
theorem dX7_readsRest_85 : decode cX7_readsRest 85 = .ok (.ifCond .eq 10, 3) := by decide +kernel
theorem dX7_readsRest_88 : decode cX7_readsRest 88 = .ok (.aload_n 0, 1) := by decide +kernel
theorem dX7_readsRest_89 : decode cX7_readsRest 89 = .ok (.invokevirtual 185, 3) := by decide +kernel
theorem dX7_readsRest_92 : decode cX7_readsRest 92 = .ok (.goto 4, 3) := by decide +kernel
theorem dX7_readsRest_95 : decode cX7_readsRest 95 = .ok (.iconst (-1), 1) := by decide +kernel
theorem dX7_readsRest_96 : decode cX7_readsRest 96 = .ok (.putfield 197, 3) := by decide +kernel
theorem dX7_readsRest_99 : decode cX7_readsRest 99 = .ok (.aload_n 0, 1) := by decide +kernel
theorem dX7_readsRest_100 : decode cX7_readsRest 100 = .ok (.getfield 197, 3) := by decide +kernel
theorem dX7_readsRest_103 : decode cX7_readsRest 103 = .ok (.ifCond .lt 7, 3) := by decide +kernel
theorem dX7_readsRest_106 : decode cX7_readsRest 106 = .ok (.iconst 1, 1) := by decide +kernel
theorem dX7_readsRest_107 : decode cX7_readsRest 107 = .ok (.goto 4, 3) := by decide +kernel
theorem dX7_readsRest_110 : decode cX7_readsRest 110 = .ok (.iconst 0, 1) := by decide +kernel
theorem dX7_readsRest_111 : decode cX7_readsRest 111 = .ok (.ireturn, 1) := by decide +kernel
theorem dX7_readsRest_112 : decode cX7_readsRest 112 = .ok (.aload_n 0, 1) := by decide +kernel
theorem dX7_readsRest_113 : decode cX7_readsRest 113 = .ok (.aload_n 0, 1) := by decide +kernel
theorem dX7_readsRest_114 : decode cX7_readsRest 114 = .ok (.invokevirtual 185, 3) := by decide +kernel
theorem dX7_readsRest_117 : decode cX7_readsRest 117 = .ok (.putfield 194, 3) := by decide +kernel
theorem dX7_readsRest_120 : decode cX7_readsRest 120 = .ok (.aload_n 0, 1) := by decide +kernel
theorem dX7_readsRest_121 : decode cX7_readsRest 121 = .ok (.aload_n 0, 1) := by decide +kernel
theorem dX7_readsRest_122 : decode cX7_readsRest 122 = .ok (.getfield 194, 3) := by decide +kernel
theorem dX7_readsRest_125 : decode cX7_readsRest 125 = .ok (.ifCond .lt 21, 3) := by decide +kernel
theorem dX7_readsRest_128 : decode cX7_readsRest 128 = .ok (.aload_n 0, 1) := by decide +kernel
theorem dX7_readsRest_129 : decode cX7_readsRest 129 = .ok (.bipush 61, 2) := by decide +kernel
theorem dX7_readsRest_131 : decode cX7_readsRest 131 = .ok (.invokevirtual 182, 3) := by decide +kernel
theorem dX7_readsRest_134 : decode cX7_readsRest 134 = .ok (.ifCond .eq 12, 3) := by decide +kernel
theorem dX7_readsRest_137 : decode cX7_readsRest 137 = .ok (.aload_n 0, 1) := by decide +kernel
theorem dX7_readsRest_138 : decode cX7_readsRest 138 = .ok (.bipush 9, 2) := by decide +kernel
theorem dX7_readsRest_140 : decode cX7_readsRest 140 = .ok (.invokevirtual 176, 3) := by decide +kernel
theorem dX7_readsRest_143 : decode cX7_readsRest 143 = .ok (.goto 4, 3) := by decide +kernel
theorem dX7_readsRest_146 : decode cX7_readsRest 146 = .ok (.iconst (-1), 1) := by decide +kernel
theorem dX7_readsRest_147 : decode cX7_readsRest 147 = .ok (.putfield 197, 3) := by decide +kernel
theorem dX7_readsRest_150 : decode cX7_readsRest 150 = .ok (.aload_n 0, 1) := by decide +kernel
theorem dX7_readsRest_151 : decode cX7_readsRest 151 = .ok (.getfield 197, 3) := by decide +kernel
theorem dX7_readsRest_154 : decode cX7_readsRest 154 = .ok (.ifCond .lt 7, 3) := by decide +kernel
theorem dX7_readsRest_157 : decode cX7_readsRest 157 = .ok (.iconst 1, 1) := by decide +kernel
theorem dX7_readsRest_158 : decode cX7_readsRest 158 = .ok (.goto 4, 3) := by decide +kernel
theorem dX7_readsRest_161 : decode cX7_readsRest 161 = .ok (.iconst 0, 1) := by decide +kernel
theorem dX7_readsRest_162 : decode cX7_readsRest 162 = .ok (.ireturn, 1) := by decide +kernel
theorem dX7_readsRest_163 : decode cX7_readsRest 163 = .ok (.aload_n 0, 1) := by decide +kernel
theorem dX7_readsRest_164 : decode cX7_readsRest 164 = .ok (.dup, 1) := by decide +kernel
theorem dX7_readsRest_165 : decode cX7_readsRest 165 = .ok (.getfield 170, 3) := by decide +kernel
theorem dX7_readsRest_168 : decode cX7_readsRest 168 = .ok (.iconst 1, 1) := by decide +kernel
theorem dX7_readsRest_169 : decode cX7_readsRest 169 = .ok (.isub, 1) := by decide +kernel
theorem dX7_readsRest_170 : decode cX7_readsRest 170 = .ok (.putfield 170, 3) := by decide +kernel
theorem dX7_readsRest_173 : decode cX7_readsRest 173 = .ok (.iconst 0, 1) := by decide +kernel
theorem dX7_readsRest_174 : decode cX7_readsRest 174 = .ok (.ireturn, 1) := by decide +kernel
theorem dX7_readsOrder_0 : decode cX7_readsOrder 0 = .ok (.aload_n 0, 1) := by decide +kernel
theorem dX7_readsOrder_1 : decode cX7_readsOrder 1 = .ok (.aload_n 0, 1) := by decide +kernel
theorem dX7_readsOrder_2 : decode cX7_readsOrder 2 = .ok (.iconst 3, 1) := by decide +kernel
theorem dX7_readsOrder_3 : decode cX7_readsOrder 3 = .ok (.invokevirtual 176, 3) := by decide +kernel
theorem dX7_readsOrder_6 : decode cX7_readsOrder 6 = .ok (.putfield 200, 3) := by decide +kernel
theorem dX7_readsOrder_9 : decode cX7_readsOrder 9 = .ok (.aload_n 0, 1) := by decide +kernel
theorem dX7_readsOrder_10 : decode cX7_readsOrder 10 = .ok (.getfield 200, 3) := by decide +kernel
theorem dX7_readsOrder_13 : decode cX7_readsOrder 13 = .ok (.ifCond .ge 5, 3) := by decide +kernel
theorem dX7_readsOrder_16 : decode cX7_readsOrder 16 = .ok (.iconst 0, 1) := by decide +kernel
theorem dX7_readsOrder_17 : decode cX7_readsOrder 17 = .ok (.ireturn, 1) := by decide +kernel
theorem dX7_readsOrder_18 : decode cX7_readsOrder 18 = .ok (.aload_n 0, 1) := by decide +kernel
theorem dX7_readsOrder_19 : decode cX7_readsOrder 19 = .ok (.aload_n 0, 1) := by decide +kernel
theorem dX7_readsOrder_20 : decode cX7_readsOrder 20 = .ok (.aload_n 0, 1) := by decide +kernel
theorem dX7_readsOrder_21 : decode cX7_readsOrder 21 = .ok (.getfield 170, 3) := by decide +kernel
theorem dX7_readsOrder_24 : decode cX7_readsOrder 24 = .ok (.invokevirtual 173, 3) := by decide +kernel
theorem dX7_readsOrder_27 : decode cX7_readsOrder 27 = .ok (.putfield 188, 3) := by decide +kernel
theorem dX7_readsOrder_30 : decode cX7_readsOrder 30 = .ok (.aload_n 0, 1) := by decide +kernel
theorem dX7_readsOrder_31 : decode cX7_readsOrder 31 = .ok (.dup, 1) := by decide +kernel
theorem dX7_readsOrder_32 : decode cX7_readsOrder 32 = .ok (.getfield 170, 3) := by decide +kernel
theorem dX7_readsOrder_35 : decode cX7_readsOrder 35 = .ok (.iconst 1, 1) := by decide +kernel
theorem dX7_readsOrder_36 : decode cX7_readsOrder 36 = .ok (.iadd, 1) := by decide +kernel
theorem dX7_readsOrder_37 : decode cX7_readsOrder 37 = .ok (.putfield 170, 3) := by decide +kernel
theorem dX7_readsOrder_40 : decode cX7_readsOrder 40 = .ok (.aload_n 0, 1) := by decide +kernel
theorem dX7_readsOrder_41 : decode cX7_readsOrder 41 = .ok (.invokevirtual 203, 3) := by decide +kernel
theorem dX7_readsOrder_44 : decode cX7_readsOrder 44 = .ok (.ireturn, 1) := by decide +kernel
theorem dX7_findFault_0 : decode cX7_findFault 0 = .ok (.aload_n 0, 1) := by decide +kernel
theorem dX7_findFault_1 : decode cX7_findFault 1 = .ok (.iconst 0, 1) := by decide +kernel
theorem dX7_findFault_2 : decode cX7_findFault 2 = .ok (.putfield 170, 3) := by decide +kernel
theorem dX7_findFault_5 : decode cX7_findFault 5 = .ok (.aload_n 0, 1) := by decide +kernel
theorem dX7_findFault_6 : decode cX7_findFault 6 = .ok (.invokevirtual 206, 3) := by decide +kernel
theorem dX7_findFault_9 : decode cX7_findFault 9 = .ok (.ifCond .ne 8, 3) := by decide +kernel
theorem dX7_findFault_12 : decode cX7_findFault 12 = .ok (.aload_n 0, 1) := by decide +kernel
theorem dX7_findFault_13 : decode cX7_findFault 13 = .ok (.getfield 170, 3) := by decide +kernel
theorem dX7_findFault_16 : decode cX7_findFault 16 = .ok (.ireturn, 1) := by decide +kernel
theorem dX7_findFault_17 : decode cX7_findFault 17 = .ok (.aload_n 0, 1) := by decide +kernel
theorem dX7_findFault_18 : decode cX7_findFault 18 = .ok (.getfield 170, 3) := by decide +kernel
theorem dX7_findFault_21 : decode cX7_findFault 21 = .ok (.aload_n 0, 1) := by decide +kernel
theorem dX7_findFault_22 : decode cX7_findFault 22 = .ok (.getfield 153, 3) := by decide +kernel
theorem dX7_findFault_25 : decode cX7_findFault 25 = .ok (.if_icmp .ne 6, 3) := by decide +kernel
theorem dX7_findFault_28 : decode cX7_findFault 28 = .ok (.bipush (-6), 2) := by decide +kernel
theorem dX7_findFault_30 : decode cX7_findFault 30 = .ok (.ireturn, 1) := by decide +kernel
theorem dX7_findFault_31 : decode cX7_findFault 31 = .ok (.aload_n 0, 1) := by decide +kernel
theorem dX7_findFault_32 : decode cX7_findFault 32 = .ok (.bipush 59, 2) := by decide +kernel
theorem dX7_findFault_34 : decode cX7_findFault 34 = .ok (.invokevirtual 182, 3) := by decide +kernel
theorem dX7_findFault_37 : decode cX7_findFault 37 = .ok (.ifCond .ne (-32), 3) := by decide +kernel
theorem dX7_findFault_40 : decode cX7_findFault 40 = .ok (.aload_n 0, 1) := by decide +kernel
theorem dX7_findFault_41 : decode cX7_findFault 41 = .ok (.getfield 170, 3) := by decide +kernel
theorem dX7_findFault_44 : decode cX7_findFault 44 = .ok (.ireturn, 1) := by decide +kernel
theorem dX7_fault_0 : decode cX7_fault 0 = .ok (.aload_n 0, 1) := by decide +kernel
theorem dX7_fault_1 : decode cX7_fault 1 = .ok (.invokevirtual 209, 3) := by decide +kernel
theorem dX7_fault_4 : decode cX7_fault 4 = .ok (.ireturn, 1) := by decide +kernel
theorem dX7_layOutTold_0 : decode cX7_layOutTold 0 = .ok (.aload_n 0, 1) := by decide +kernel
theorem dX7_layOutTold_1 : decode cX7_layOutTold 1 = .ok (.getfield 63, 3) := by decide +kernel
theorem dX7_layOutTold_4 : decode cX7_layOutTold 4 = .ok (.istore_n 1, 1) := by decide +kernel
theorem dX7_layOutTold_5 : decode cX7_layOutTold 5 = .ok (.iconst 1, 1) := by decide +kernel
theorem dX7_layOutTold_6 : decode cX7_layOutTold 6 = .ok (.istore_n 2, 1) := by decide +kernel
theorem dX7_layOutTold_7 : decode cX7_layOutTold 7 = .ok (.iconst 0, 1) := by decide +kernel
theorem dX7_layOutTold_8 : decode cX7_layOutTold 8 = .ok (.istore_n 3, 1) := by decide +kernel
theorem dX7_layOutTold_9 : decode cX7_layOutTold 9 = .ok (.iload_n 3, 1) := by decide +kernel
theorem dX7_layOutTold_10 : decode cX7_layOutTold 10 = .ok (.aload_n 0, 1) := by decide +kernel
theorem dX7_layOutTold_11 : decode cX7_layOutTold 11 = .ok (.getfield 179, 3) := by decide +kernel
theorem dX7_layOutTold_14 : decode cX7_layOutTold 14 = .ok (.if_icmp .ge 37, 3) := by decide +kernel
theorem dX7_layOutTold_17 : decode cX7_layOutTold 17 = .ok (.iload_n 1, 1) := by decide +kernel
theorem dX7_layOutTold_18 : decode cX7_layOutTold 18 = .ok (.aload_n 0, 1) := by decide +kernel
theorem dX7_layOutTold_19 : decode cX7_layOutTold 19 = .ok (.getfield 37, 3) := by decide +kernel
theorem dX7_layOutTold_22 : decode cX7_layOutTold 22 = .ok (.iload_n 3, 1) := by decide +kernel
theorem dX7_layOutTold_23 : decode cX7_layOutTold 23 = .ok (.iaload, 1) := by decide +kernel
theorem dX7_layOutTold_24 : decode cX7_layOutTold 24 = .ok (.iadd, 1) := by decide +kernel
theorem dX7_layOutTold_25 : decode cX7_layOutTold 25 = .ok (.istore_n 1, 1) := by decide +kernel
theorem dX7_layOutTold_26 : decode cX7_layOutTold 26 = .ok (.iload_n 2, 1) := by decide +kernel
theorem dX7_layOutTold_27 : decode cX7_layOutTold 27 = .ok (.ifCond .eq 16, 3) := by decide +kernel
theorem dX7_layOutTold_30 : decode cX7_layOutTold 30 = .ok (.aload_n 0, 1) := by decide +kernel
theorem dX7_layOutTold_31 : decode cX7_layOutTold 31 = .ok (.getfield 37, 3) := by decide +kernel
theorem dX7_layOutTold_34 : decode cX7_layOutTold 34 = .ok (.iload_n 3, 1) := by decide +kernel
theorem dX7_layOutTold_35 : decode cX7_layOutTold 35 = .ok (.iaload, 1) := by decide +kernel
theorem dX7_layOutTold_36 : decode cX7_layOutTold 36 = .ok (.ifCond .le 7, 3) := by decide +kernel
theorem dX7_layOutTold_39 : decode cX7_layOutTold 39 = .ok (.iconst 1, 1) := by decide +kernel
theorem dX7_layOutTold_40 : decode cX7_layOutTold 40 = .ok (.goto 4, 3) := by decide +kernel
theorem dX7_layOutTold_43 : decode cX7_layOutTold 43 = .ok (.iconst 0, 1) := by decide +kernel
theorem dX7_layOutTold_44 : decode cX7_layOutTold 44 = .ok (.istore_n 2, 1) := by decide +kernel
theorem dX7_layOutTold_45 : decode cX7_layOutTold 45 = .ok (.iinc 3 1, 3) := by decide +kernel
theorem dX7_layOutTold_48 : decode cX7_layOutTold 48 = .ok (.goto (-39), 3) := by decide +kernel
theorem dX7_layOutTold_51 : decode cX7_layOutTold 51 = .ok (.iload_n 2, 1) := by decide +kernel
theorem dX7_layOutTold_52 : decode cX7_layOutTold 52 = .ok (.ifCond .eq 10, 3) := by decide +kernel
theorem dX7_layOutTold_55 : decode cX7_layOutTold 55 = .ok (.iload_n 1, 1) := by decide +kernel
theorem dX7_layOutTold_56 : decode cX7_layOutTold 56 = .ok (.sipush 999, 3) := by decide +kernel
theorem dX7_layOutTold_59 : decode cX7_layOutTold 59 = .ok (.if_icmp .le 15, 3) := by decide +kernel
theorem dX7_layOutTold_62 : decode cX7_layOutTold 62 = .ok (.iload_n 2, 1) := by decide +kernel
theorem dX7_layOutTold_63 : decode cX7_layOutTold 63 = .ok (.ifCond .eq 8, 3) := by decide +kernel
theorem dX7_layOutTold_66 : decode cX7_layOutTold 66 = .ok (.bipush (-4), 2) := by decide +kernel
theorem dX7_layOutTold_68 : decode cX7_layOutTold 68 = .ok (.goto 5, 3) := by decide +kernel
theorem dX7_layOutTold_71 : decode cX7_layOutTold 71 = .ok (.bipush (-2), 2) := by decide +kernel
theorem dX7_layOutTold_73 : decode cX7_layOutTold 73 = .ok (.ireturn, 1) := by decide +kernel
theorem dX7_layOutTold_74 : decode cX7_layOutTold 74 = .ok (.iconst 0, 1) := by decide +kernel
theorem dX7_layOutTold_75 : decode cX7_layOutTold 75 = .ok (.istore_n 3, 1) := by decide +kernel
theorem dX7_layOutTold_76 : decode cX7_layOutTold 76 = .ok (.iload_n 3, 1) := by decide +kernel
theorem dX7_layOutTold_77 : decode cX7_layOutTold 77 = .ok (.aload_n 0, 1) := by decide +kernel
theorem dX7_layOutTold_78 : decode cX7_layOutTold 78 = .ok (.getfield 179, 3) := by decide +kernel
theorem dX7_layOutTold_81 : decode cX7_layOutTold 81 = .ok (.if_icmp .ge 29, 3) := by decide +kernel
theorem dX7_layOutTold_84 : decode cX7_layOutTold 84 = .ok (.aload_n 0, 1) := by decide +kernel
theorem dX7_layOutTold_85 : decode cX7_layOutTold 85 = .ok (.aload_n 0, 1) := by decide +kernel
theorem dX7_layOutTold_86 : decode cX7_layOutTold 86 = .ok (.getfield 63, 3) := by decide +kernel
theorem dX7_layOutTold_89 : decode cX7_layOutTold 89 = .ok (.aload_n 0, 1) := by decide +kernel
theorem dX7_layOutTold_90 : decode cX7_layOutTold 90 = .ok (.getfield 34, 3) := by decide +kernel
theorem dX7_layOutTold_93 : decode cX7_layOutTold 93 = .ok (.iload_n 3, 1) := by decide +kernel
theorem dX7_layOutTold_94 : decode cX7_layOutTold 94 = .ok (.iaload, 1) := by decide +kernel
theorem dX7_layOutTold_95 : decode cX7_layOutTold 95 = .ok (.aload_n 0, 1) := by decide +kernel
theorem dX7_layOutTold_96 : decode cX7_layOutTold 96 = .ok (.getfield 37, 3) := by decide +kernel
theorem dX7_layOutTold_99 : decode cX7_layOutTold 99 = .ok (.iload_n 3, 1) := by decide +kernel
theorem dX7_layOutTold_100 : decode cX7_layOutTold 100 = .ok (.iaload, 1) := by decide +kernel
theorem dX7_layOutTold_101 : decode cX7_layOutTold 101 = .ok (.invokevirtual 87, 3) := by decide +kernel
theorem dX7_layOutTold_104 : decode cX7_layOutTold 104 = .ok (.iinc 3 1, 3) := by decide +kernel
theorem dX7_layOutTold_107 : decode cX7_layOutTold 107 = .ok (.goto (-31), 3) := by decide +kernel
theorem dX7_layOutTold_110 : decode cX7_layOutTold 110 = .ok (.aload_n 0, 1) := by decide +kernel
theorem dX7_layOutTold_111 : decode cX7_layOutTold 111 = .ok (.invokevirtual 91, 3) := by decide +kernel
theorem dX7_layOutTold_114 : decode cX7_layOutTold 114 = .ok (.ifCond .eq 8, 3) := by decide +kernel
theorem dX7_layOutTold_117 : decode cX7_layOutTold 117 = .ok (.bipush (-4), 2) := by decide +kernel
theorem dX7_layOutTold_119 : decode cX7_layOutTold 119 = .ok (.goto 4, 3) := by decide +kernel
theorem dX7_layOutTold_122 : decode cX7_layOutTold 122 = .ok (.iconst 0, 1) := by decide +kernel
theorem dX7_layOutTold_123 : decode cX7_layOutTold 123 = .ok (.ireturn, 1) := by decide +kernel
theorem dX7_doesOrder_0 : decode cX7_doesOrder 0 = .ok (.aload_n 0, 1) := by decide +kernel
theorem dX7_doesOrder_1 : decode cX7_doesOrder 1 = .ok (.getfield 188, 3) := by decide +kernel
theorem dX7_doesOrder_4 : decode cX7_doesOrder 4 = .ok (.lookupswitch 143 #[(33, 92), (43, 44), (45, 103), (61, 44)], 44) := by decide +kernel
theorem dX7_doesOrder_48 : decode cX7_doesOrder 48 = .ok (.aload_n 0, 1) := by decide +kernel
theorem dX7_doesOrder_49 : decode cX7_doesOrder 49 = .ok (.aload_n 0, 1) := by decide +kernel
theorem dX7_doesOrder_50 : decode cX7_doesOrder 50 = .ok (.getfield 200, 3) := by decide +kernel
theorem dX7_doesOrder_53 : decode cX7_doesOrder 53 = .ok (.invokevirtual 83, 3) := by decide +kernel
theorem dX7_doesOrder_56 : decode cX7_doesOrder 56 = .ok (.aload_n 0, 1) := by decide +kernel
theorem dX7_doesOrder_57 : decode cX7_doesOrder 57 = .ok (.aload_n 0, 1) := by decide +kernel
theorem dX7_doesOrder_58 : decode cX7_doesOrder 58 = .ok (.getfield 188, 3) := by decide +kernel
theorem dX7_doesOrder_61 : decode cX7_doesOrder 61 = .ok (.bipush 61, 2) := by decide +kernel
theorem dX7_doesOrder_63 : decode cX7_doesOrder 63 = .ok (.if_icmp .ne 7, 3) := by decide +kernel
theorem dX7_doesOrder_66 : decode cX7_doesOrder 66 = .ok (.iconst 0, 1) := by decide +kernel
theorem dX7_doesOrder_67 : decode cX7_doesOrder 67 = .ok (.goto 7, 3) := by decide +kernel
theorem dX7_doesOrder_70 : decode cX7_doesOrder 70 = .ok (.aload_n 0, 1) := by decide +kernel
theorem dX7_doesOrder_71 : decode cX7_doesOrder 71 = .ok (.getfield 63, 3) := by decide +kernel
theorem dX7_doesOrder_74 : decode cX7_doesOrder 74 = .ok (.putfield 63, 3) := by decide +kernel
theorem dX7_doesOrder_77 : decode cX7_doesOrder 77 = .ok (.aload_n 0, 1) := by decide +kernel
theorem dX7_doesOrder_78 : decode cX7_doesOrder 78 = .ok (.invokevirtual 212, 3) := by decide +kernel
theorem dX7_doesOrder_81 : decode cX7_doesOrder 81 = .ok (.ifCond .ge 5, 3) := by decide +kernel
theorem dX7_doesOrder_84 : decode cX7_doesOrder 84 = .ok (.iconst 0, 1) := by decide +kernel
theorem dX7_doesOrder_85 : decode cX7_doesOrder 85 = .ok (.ireturn, 1) := by decide +kernel
theorem dX7_doesOrder_86 : decode cX7_doesOrder 86 = .ok (.aload_n 0, 1) := by decide +kernel
theorem dX7_doesOrder_87 : decode cX7_doesOrder 87 = .ok (.aload_n 0, 1) := by decide +kernel
theorem dX7_doesOrder_88 : decode cX7_doesOrder 88 = .ok (.getfield 200, 3) := by decide +kernel
theorem dX7_doesOrder_91 : decode cX7_doesOrder 91 = .ok (.invokevirtual 98, 3) := by decide +kernel
theorem dX7_doesOrder_94 : decode cX7_doesOrder 94 = .ok (.iconst 1, 1) := by decide +kernel
theorem dX7_doesOrder_95 : decode cX7_doesOrder 95 = .ok (.ireturn, 1) := by decide +kernel
theorem dX7_doesOrder_96 : decode cX7_doesOrder 96 = .ok (.aload_n 0, 1) := by decide +kernel
theorem dX7_doesOrder_97 : decode cX7_doesOrder 97 = .ok (.aload_n 0, 1) := by decide +kernel
theorem dX7_doesOrder_98 : decode cX7_doesOrder 98 = .ok (.getfield 200, 3) := by decide +kernel
theorem dX7_doesOrder_101 : decode cX7_doesOrder 101 = .ok (.invokevirtual 121, 3) := by decide +kernel
theorem dX7_doesOrder_104 : decode cX7_doesOrder 104 = .ok (.pop, 1) := by decide +kernel
theorem dX7_doesOrder_105 : decode cX7_doesOrder 105 = .ok (.iconst 1, 1) := by decide +kernel
theorem dX7_doesOrder_106 : decode cX7_doesOrder 106 = .ok (.ireturn, 1) := by decide +kernel
theorem dX7_doesOrder_107 : decode cX7_doesOrder 107 = .ok (.aload_n 0, 1) := by decide +kernel
theorem dX7_doesOrder_108 : decode cX7_doesOrder 108 = .ok (.aload_n 0, 1) := by decide +kernel
theorem dX7_doesOrder_109 : decode cX7_doesOrder 109 = .ok (.getfield 200, 3) := by decide +kernel
theorem dX7_doesOrder_112 : decode cX7_doesOrder 112 = .ok (.aload_n 0, 1) := by decide +kernel
theorem dX7_doesOrder_113 : decode cX7_doesOrder 113 = .ok (.getfield 194, 3) := by decide +kernel
theorem dX7_doesOrder_116 : decode cX7_doesOrder 116 = .ok (.aload_n 0, 1) := by decide +kernel
theorem dX7_doesOrder_117 : decode cX7_doesOrder 117 = .ok (.getfield 197, 3) := by decide +kernel
theorem dX7_doesOrder_120 : decode cX7_doesOrder 120 = .ok (.invokevirtual 105, 3) := by decide +kernel
theorem dX7_doesOrder_123 : decode cX7_doesOrder 123 = .ok (.ifCond .ge 5, 3) := by decide +kernel
theorem dX7_doesOrder_126 : decode cX7_doesOrder 126 = .ok (.iconst 0, 1) := by decide +kernel
theorem dX7_doesOrder_127 : decode cX7_doesOrder 127 = .ok (.ireturn, 1) := by decide +kernel
theorem dX7_doesOrder_128 : decode cX7_doesOrder 128 = .ok (.aload_n 0, 1) := by decide +kernel
theorem dX7_doesOrder_129 : decode cX7_doesOrder 129 = .ok (.aload_n 0, 1) := by decide +kernel
theorem dX7_doesOrder_130 : decode cX7_doesOrder 130 = .ok (.getfield 200, 3) := by decide +kernel
theorem dX7_doesOrder_133 : decode cX7_doesOrder 133 = .ok (.aload_n 0, 1) := by decide +kernel
theorem dX7_doesOrder_134 : decode cX7_doesOrder 134 = .ok (.getfield 194, 3) := by decide +kernel
theorem dX7_doesOrder_137 : decode cX7_doesOrder 137 = .ok (.aload_n 0, 1) := by decide +kernel
theorem dX7_doesOrder_138 : decode cX7_doesOrder 138 = .ok (.getfield 197, 3) := by decide +kernel
theorem dX7_doesOrder_141 : decode cX7_doesOrder 141 = .ok (.invokevirtual 109, 3) := by decide +kernel
theorem dX7_doesOrder_144 : decode cX7_doesOrder 144 = .ok (.pop, 1) := by decide +kernel
theorem dX7_doesOrder_145 : decode cX7_doesOrder 145 = .ok (.iconst 1, 1) := by decide +kernel
theorem dX7_doesOrder_146 : decode cX7_doesOrder 146 = .ok (.ireturn, 1) := by decide +kernel
theorem dX7_doesOrder_147 : decode cX7_doesOrder 147 = .ok (.aload_n 0, 1) := by decide +kernel
theorem dX7_doesOrder_148 : decode cX7_doesOrder 148 = .ok (.aload_n 0, 1) := by decide +kernel
theorem dX7_doesOrder_149 : decode cX7_doesOrder 149 = .ok (.getfield 200, 3) := by decide +kernel
theorem dX7_doesOrder_152 : decode cX7_doesOrder 152 = .ok (.aload_n 0, 1) := by decide +kernel
theorem dX7_doesOrder_153 : decode cX7_doesOrder 153 = .ok (.getfield 194, 3) := by decide +kernel
theorem dX7_doesOrder_156 : decode cX7_doesOrder 156 = .ok (.aload_n 0, 1) := by decide +kernel
theorem dX7_doesOrder_157 : decode cX7_doesOrder 157 = .ok (.getfield 197, 3) := by decide +kernel
theorem dX7_doesOrder_160 : decode cX7_doesOrder 160 = .ok (.invokevirtual 112, 3) := by decide +kernel
theorem dX7_doesOrder_163 : decode cX7_doesOrder 163 = .ok (.ifCond .ge 5, 3) := by decide +kernel
theorem dX7_doesOrder_166 : decode cX7_doesOrder 166 = .ok (.iconst 0, 1) := by decide +kernel
theorem dX7_doesOrder_167 : decode cX7_doesOrder 167 = .ok (.ireturn, 1) := by decide +kernel
theorem dX7_doesOrder_168 : decode cX7_doesOrder 168 = .ok (.aload_n 0, 1) := by decide +kernel
theorem dX7_doesOrder_169 : decode cX7_doesOrder 169 = .ok (.aload_n 0, 1) := by decide +kernel
theorem dX7_doesOrder_170 : decode cX7_doesOrder 170 = .ok (.getfield 200, 3) := by decide +kernel
theorem dX7_doesOrder_173 : decode cX7_doesOrder 173 = .ok (.invokevirtual 98, 3) := by decide +kernel
theorem dX7_doesOrder_176 : decode cX7_doesOrder 176 = .ok (.iconst 1, 1) := by decide +kernel
theorem dX7_doesOrder_177 : decode cX7_doesOrder 177 = .ok (.ireturn, 1) := by decide +kernel
theorem dX7_carryOut_0 : decode cX7_carryOut 0 = .ok (.aload_n 0, 1) := by decide +kernel
theorem dX7_carryOut_1 : decode cX7_carryOut 1 = .ok (.invokevirtual 209, 3) := by decide +kernel
theorem dX7_carryOut_4 : decode cX7_carryOut 4 = .ok (.bipush (-6), 2) := by decide +kernel
theorem dX7_carryOut_6 : decode cX7_carryOut 6 = .ok (.if_icmp .eq 6, 3) := by decide +kernel
theorem dX7_carryOut_9 : decode cX7_carryOut 9 = .ok (.bipush (-3), 2) := by decide +kernel
theorem dX7_carryOut_11 : decode cX7_carryOut 11 = .ok (.ireturn, 1) := by decide +kernel
theorem dX7_carryOut_12 : decode cX7_carryOut 12 = .ok (.aload_n 0, 1) := by decide +kernel
theorem dX7_carryOut_13 : decode cX7_carryOut 13 = .ok (.invokevirtual 95, 3) := by decide +kernel
theorem dX7_carryOut_16 : decode cX7_carryOut 16 = .ok (.iconst 0, 1) := by decide +kernel
theorem dX7_carryOut_17 : decode cX7_carryOut 17 = .ok (.istore_n 1, 1) := by decide +kernel
theorem dX7_carryOut_18 : decode cX7_carryOut 18 = .ok (.aload_n 0, 1) := by decide +kernel
theorem dX7_carryOut_19 : decode cX7_carryOut 19 = .ok (.iconst 0, 1) := by decide +kernel
theorem dX7_carryOut_20 : decode cX7_carryOut 20 = .ok (.putfield 170, 3) := by decide +kernel
theorem dX7_carryOut_23 : decode cX7_carryOut 23 = .ok (.iconst 1, 1) := by decide +kernel
theorem dX7_carryOut_24 : decode cX7_carryOut 24 = .ok (.istore_n 2, 1) := by decide +kernel
theorem dX7_carryOut_25 : decode cX7_carryOut 25 = .ok (.iload_n 2, 1) := by decide +kernel
theorem dX7_carryOut_26 : decode cX7_carryOut 26 = .ok (.ifCond .eq 46, 3) := by decide +kernel
theorem dX7_carryOut_29 : decode cX7_carryOut 29 = .ok (.aload_n 0, 1) := by decide +kernel
theorem dX7_carryOut_30 : decode cX7_carryOut 30 = .ok (.getfield 170, 3) := by decide +kernel
theorem dX7_carryOut_33 : decode cX7_carryOut 33 = .ok (.aload_n 0, 1) := by decide +kernel
theorem dX7_carryOut_34 : decode cX7_carryOut 34 = .ok (.getfield 153, 3) := by decide +kernel
theorem dX7_carryOut_37 : decode cX7_carryOut 37 = .ok (.if_icmp .ge 35, 3) := by decide +kernel
theorem dX7_carryOut_40 : decode cX7_carryOut 40 = .ok (.aload_n 0, 1) := by decide +kernel
theorem dX7_carryOut_41 : decode cX7_carryOut 41 = .ok (.invokevirtual 206, 3) := by decide +kernel
theorem dX7_carryOut_44 : decode cX7_carryOut 44 = .ok (.pop, 1) := by decide +kernel
theorem dX7_carryOut_45 : decode cX7_carryOut 45 = .ok (.aload_n 0, 1) := by decide +kernel
theorem dX7_carryOut_46 : decode cX7_carryOut 46 = .ok (.bipush 59, 2) := by decide +kernel
theorem dX7_carryOut_48 : decode cX7_carryOut 48 = .ok (.invokevirtual 182, 3) := by decide +kernel
theorem dX7_carryOut_51 : decode cX7_carryOut 51 = .ok (.pop, 1) := by decide +kernel
theorem dX7_carryOut_52 : decode cX7_carryOut 52 = .ok (.aload_n 0, 1) := by decide +kernel
theorem dX7_carryOut_53 : decode cX7_carryOut 53 = .ok (.invokevirtual 215, 3) := by decide +kernel
theorem dX7_carryOut_56 : decode cX7_carryOut 56 = .ok (.istore_n 2, 1) := by decide +kernel
theorem dX7_carryOut_57 : decode cX7_carryOut 57 = .ok (.iload_n 1, 1) := by decide +kernel
theorem dX7_carryOut_58 : decode cX7_carryOut 58 = .ok (.iload_n 2, 1) := by decide +kernel
theorem dX7_carryOut_59 : decode cX7_carryOut 59 = .ok (.ifCond .eq 7, 3) := by decide +kernel
theorem dX7_carryOut_62 : decode cX7_carryOut 62 = .ok (.iconst 1, 1) := by decide +kernel
theorem dX7_carryOut_63 : decode cX7_carryOut 63 = .ok (.goto 4, 3) := by decide +kernel
theorem dX7_carryOut_66 : decode cX7_carryOut 66 = .ok (.iconst 0, 1) := by decide +kernel
theorem dX7_carryOut_67 : decode cX7_carryOut 67 = .ok (.iadd, 1) := by decide +kernel
theorem dX7_carryOut_68 : decode cX7_carryOut 68 = .ok (.istore_n 1, 1) := by decide +kernel
theorem dX7_carryOut_69 : decode cX7_carryOut 69 = .ok (.goto (-44), 3) := by decide +kernel
theorem dX7_carryOut_72 : decode cX7_carryOut 72 = .ok (.aload_n 0, 1) := by decide +kernel
theorem dX7_carryOut_73 : decode cX7_carryOut 73 = .ok (.iconst 0, 1) := by decide +kernel
theorem dX7_carryOut_74 : decode cX7_carryOut 74 = .ok (.putfield 153, 3) := by decide +kernel
theorem dX7_carryOut_77 : decode cX7_carryOut 77 = .ok (.iload_n 1, 1) := by decide +kernel
theorem dX7_carryOut_78 : decode cX7_carryOut 78 = .ok (.ireturn, 1) := by decide +kernel
theorem dX7_undo_0 : decode cX7_undo 0 = .ok (.aload_n 0, 1) := by decide +kernel
theorem dX7_undo_1 : decode cX7_undo 1 = .ok (.getfield 40, 3) := by decide +kernel
theorem dX7_undo_4 : decode cX7_undo 4 = .ok (.ifCond .ne 6, 3) := by decide +kernel
theorem dX7_undo_7 : decode cX7_undo 7 = .ok (.bipush (-5), 2) := by decide +kernel
theorem dX7_undo_9 : decode cX7_undo 9 = .ok (.ireturn, 1) := by decide +kernel
theorem dX7_undo_10 : decode cX7_undo 10 = .ok (.aload_n 0, 1) := by decide +kernel
theorem dX7_undo_11 : decode cX7_undo 11 = .ok (.dup, 1) := by decide +kernel
theorem dX7_undo_12 : decode cX7_undo 12 = .ok (.getfield 40, 3) := by decide +kernel
theorem dX7_undo_15 : decode cX7_undo 15 = .ok (.iconst 1, 1) := by decide +kernel
theorem dX7_undo_16 : decode cX7_undo 16 = .ok (.isub, 1) := by decide +kernel
theorem dX7_undo_17 : decode cX7_undo 17 = .ok (.putfield 40, 3) := by decide +kernel
theorem dX7_undo_20 : decode cX7_undo 20 = .ok (.aload_n 0, 1) := by decide +kernel
theorem dX7_undo_21 : decode cX7_undo 21 = .ok (.getfield 13, 3) := by decide +kernel
theorem dX7_undo_24 : decode cX7_undo 24 = .ok (.aload_n 0, 1) := by decide +kernel
theorem dX7_undo_25 : decode cX7_undo 25 = .ok (.getfield 40, 3) := by decide +kernel
theorem dX7_undo_28 : decode cX7_undo 28 = .ok (.sipush 324, 3) := by decide +kernel
theorem dX7_undo_31 : decode cX7_undo 31 = .ok (.imul, 1) := by decide +kernel
theorem dX7_undo_32 : decode cX7_undo 32 = .ok (.aload_n 0, 1) := by decide +kernel
theorem dX7_undo_33 : decode cX7_undo 33 = .ok (.getfield 7, 3) := by decide +kernel
theorem dX7_undo_36 : decode cX7_undo 36 = .ok (.iconst 0, 1) := by decide +kernel
theorem dX7_undo_37 : decode cX7_undo 37 = .ok (.invokestatic 44, 3) := by decide +kernel
theorem dX7_undo_40 : decode cX7_undo 40 = .ok (.aload_n 0, 1) := by decide +kernel
theorem dX7_undo_41 : decode cX7_undo 41 = .ok (.getfield 40, 3) := by decide +kernel
theorem dX7_undo_44 : decode cX7_undo 44 = .ok (.ireturn, 1) := by decide +kernel
theorem dX7_save_0 : decode cX7_save 0 = .ok (.iload_n 1, 1) := by decide +kernel
theorem dX7_save_1 : decode cX7_save 1 = .ok (.iconst 0, 1) := by decide +kernel
theorem dX7_save_2 : decode cX7_save 2 = .ok (.iconst 1, 1) := by decide +kernel
theorem dX7_save_3 : decode cX7_save 3 = .ok (.invokestatic 48, 3) := by decide +kernel
theorem dX7_save_6 : decode cX7_save 6 = .ok (.ifCond .ne 6, 3) := by decide +kernel
theorem dX7_save_9 : decode cX7_save 9 = .ok (.bipush (-2), 2) := by decide +kernel
theorem dX7_save_11 : decode cX7_save 11 = .ok (.ireturn, 1) := by decide +kernel
theorem dX7_save_12 : decode cX7_save 12 = .ok (.aload_n 0, 1) := by decide +kernel
theorem dX7_save_13 : decode cX7_save 13 = .ok (.getfield 7, 3) := by decide +kernel
theorem dX7_save_16 : decode cX7_save 16 = .ok (.iconst 0, 1) := by decide +kernel
theorem dX7_save_17 : decode cX7_save 17 = .ok (.aload_n 0, 1) := by decide +kernel
theorem dX7_save_18 : decode cX7_save 18 = .ok (.getfield 16, 3) := by decide +kernel
theorem dX7_save_21 : decode cX7_save 21 = .ok (.sipush 324, 3) := by decide +kernel
theorem dX7_save_24 : decode cX7_save 24 = .ok (.iload_n 1, 1) := by decide +kernel
theorem dX7_save_25 : decode cX7_save 25 = .ok (.imul, 1) := by decide +kernel
theorem dX7_save_26 : decode cX7_save 26 = .ok (.invokestatic 44, 3) := by decide +kernel
theorem dX7_save_29 : decode cX7_save 29 = .ok (.aload_n 0, 1) := by decide +kernel
theorem dX7_save_30 : decode cX7_save 30 = .ok (.getfield 19, 3) := by decide +kernel
theorem dX7_save_33 : decode cX7_save 33 = .ok (.iload_n 1, 1) := by decide +kernel
theorem dX7_save_34 : decode cX7_save 34 = .ok (.iconst 1, 1) := by decide +kernel
theorem dX7_save_35 : decode cX7_save 35 = .ok (.iastore, 1) := by decide +kernel
theorem dX7_save_36 : decode cX7_save 36 = .ok (.aload_n 0, 1) := by decide +kernel
theorem dX7_save_37 : decode cX7_save 37 = .ok (.invokevirtual 150, 3) := by decide +kernel
theorem dX7_save_40 : decode cX7_save 40 = .ok (.ireturn, 1) := by decide +kernel
theorem dX7_restore_0 : decode cX7_restore 0 = .ok (.iload_n 1, 1) := by decide +kernel
theorem dX7_restore_1 : decode cX7_restore 1 = .ok (.iconst 0, 1) := by decide +kernel
theorem dX7_restore_2 : decode cX7_restore 2 = .ok (.iconst 1, 1) := by decide +kernel
theorem dX7_restore_3 : decode cX7_restore 3 = .ok (.invokestatic 48, 3) := by decide +kernel
theorem dX7_restore_6 : decode cX7_restore 6 = .ok (.ifCond .ne 6, 3) := by decide +kernel
theorem dX7_restore_9 : decode cX7_restore 9 = .ok (.bipush (-2), 2) := by decide +kernel
theorem dX7_restore_11 : decode cX7_restore 11 = .ok (.ireturn, 1) := by decide +kernel
theorem dX7_restore_12 : decode cX7_restore 12 = .ok (.aload_n 0, 1) := by decide +kernel
theorem dX7_restore_13 : decode cX7_restore 13 = .ok (.getfield 19, 3) := by decide +kernel
theorem dX7_restore_16 : decode cX7_restore 16 = .ok (.iload_n 1, 1) := by decide +kernel
theorem dX7_restore_17 : decode cX7_restore 17 = .ok (.iaload, 1) := by decide +kernel
theorem dX7_restore_18 : decode cX7_restore 18 = .ok (.ifCond .ne 6, 3) := by decide +kernel
theorem dX7_restore_21 : decode cX7_restore 21 = .ok (.bipush (-5), 2) := by decide +kernel
theorem dX7_restore_23 : decode cX7_restore 23 = .ok (.ireturn, 1) := by decide +kernel
theorem dX7_restore_24 : decode cX7_restore 24 = .ok (.aload_n 0, 1) := by decide +kernel
theorem dX7_restore_25 : decode cX7_restore 25 = .ok (.invokevirtual 95, 3) := by decide +kernel
theorem dX7_restore_28 : decode cX7_restore 28 = .ok (.aload_n 0, 1) := by decide +kernel
theorem dX7_restore_29 : decode cX7_restore 29 = .ok (.getfield 16, 3) := by decide +kernel
theorem dX7_restore_32 : decode cX7_restore 32 = .ok (.sipush 324, 3) := by decide +kernel
theorem dX7_restore_35 : decode cX7_restore 35 = .ok (.iload_n 1, 1) := by decide +kernel
theorem dX7_restore_36 : decode cX7_restore 36 = .ok (.imul, 1) := by decide +kernel
theorem dX7_restore_37 : decode cX7_restore 37 = .ok (.aload_n 0, 1) := by decide +kernel
theorem dX7_restore_38 : decode cX7_restore 38 = .ok (.getfield 7, 3) := by decide +kernel
theorem dX7_restore_41 : decode cX7_restore 41 = .ok (.iconst 0, 1) := by decide +kernel
theorem dX7_restore_42 : decode cX7_restore 42 = .ok (.invokestatic 44, 3) := by decide +kernel
theorem dX7_restore_45 : decode cX7_restore 45 = .ok (.aload_n 0, 1) := by decide +kernel
theorem dX7_restore_46 : decode cX7_restore 46 = .ok (.invokevirtual 150, 3) := by decide +kernel
theorem dX7_restore_49 : decode cX7_restore 49 = .ok (.ireturn, 1) := by decide +kernel
theorem dJ6_bitCount_0f7a4_0 : decode cJ6_bitCount_0f7a4 0 = .ok (.iload_n 0, 1) := by decide +kernel
theorem dJ6_bitCount_0f7a4_1 : decode cJ6_bitCount_0f7a4 1 = .ok (.iload_n 0, 1) := by decide +kernel
theorem dJ6_bitCount_0f7a4_2 : decode cJ6_bitCount_0f7a4 2 = .ok (.iconst 1, 1) := by decide +kernel
theorem dJ6_bitCount_0f7a4_3 : decode cJ6_bitCount_0f7a4 3 = .ok (.iushr, 1) := by decide +kernel
theorem dJ6_bitCount_0f7a4_4 : decode cJ6_bitCount_0f7a4 4 = .ok (.ldc_w 265, 3) := by decide +kernel
theorem dJ6_bitCount_0f7a4_7 : decode cJ6_bitCount_0f7a4 7 = .ok (.iand, 1) := by decide +kernel
theorem dJ6_bitCount_0f7a4_8 : decode cJ6_bitCount_0f7a4 8 = .ok (.isub, 1) := by decide +kernel
theorem dJ6_bitCount_0f7a4_9 : decode cJ6_bitCount_0f7a4 9 = .ok (.istore_n 0, 1) := by decide +kernel
theorem dJ6_bitCount_0f7a4_10 : decode cJ6_bitCount_0f7a4 10 = .ok (.iload_n 0, 1) := by decide +kernel
theorem dJ6_bitCount_0f7a4_11 : decode cJ6_bitCount_0f7a4 11 = .ok (.ldc_w 266, 3) := by decide +kernel
theorem dJ6_bitCount_0f7a4_14 : decode cJ6_bitCount_0f7a4 14 = .ok (.iand, 1) := by decide +kernel
theorem dJ6_bitCount_0f7a4_15 : decode cJ6_bitCount_0f7a4 15 = .ok (.iload_n 0, 1) := by decide +kernel
theorem dJ6_bitCount_0f7a4_16 : decode cJ6_bitCount_0f7a4 16 = .ok (.iconst 2, 1) := by decide +kernel
theorem dJ6_bitCount_0f7a4_17 : decode cJ6_bitCount_0f7a4 17 = .ok (.iushr, 1) := by decide +kernel
theorem dJ6_bitCount_0f7a4_18 : decode cJ6_bitCount_0f7a4 18 = .ok (.ldc_w 266, 3) := by decide +kernel
theorem dJ6_bitCount_0f7a4_21 : decode cJ6_bitCount_0f7a4 21 = .ok (.iand, 1) := by decide +kernel
theorem dJ6_bitCount_0f7a4_22 : decode cJ6_bitCount_0f7a4 22 = .ok (.iadd, 1) := by decide +kernel
theorem dJ6_bitCount_0f7a4_23 : decode cJ6_bitCount_0f7a4 23 = .ok (.istore_n 0, 1) := by decide +kernel
theorem dJ6_bitCount_0f7a4_24 : decode cJ6_bitCount_0f7a4 24 = .ok (.iload_n 0, 1) := by decide +kernel
theorem dJ6_bitCount_0f7a4_25 : decode cJ6_bitCount_0f7a4 25 = .ok (.iload_n 0, 1) := by decide +kernel
theorem dJ6_bitCount_0f7a4_26 : decode cJ6_bitCount_0f7a4 26 = .ok (.iconst 4, 1) := by decide +kernel
theorem dJ6_bitCount_0f7a4_27 : decode cJ6_bitCount_0f7a4 27 = .ok (.iushr, 1) := by decide +kernel
theorem dJ6_bitCount_0f7a4_28 : decode cJ6_bitCount_0f7a4 28 = .ok (.iadd, 1) := by decide +kernel
theorem dJ6_bitCount_0f7a4_29 : decode cJ6_bitCount_0f7a4 29 = .ok (.ldc_w 267, 3) := by decide +kernel
theorem dJ6_bitCount_0f7a4_32 : decode cJ6_bitCount_0f7a4 32 = .ok (.iand, 1) := by decide +kernel
theorem dJ6_bitCount_0f7a4_33 : decode cJ6_bitCount_0f7a4 33 = .ok (.istore_n 0, 1) := by decide +kernel
theorem dJ6_bitCount_0f7a4_34 : decode cJ6_bitCount_0f7a4 34 = .ok (.iload_n 0, 1) := by decide +kernel
theorem dJ6_bitCount_0f7a4_35 : decode cJ6_bitCount_0f7a4 35 = .ok (.iload_n 0, 1) := by decide +kernel
theorem dJ6_bitCount_0f7a4_36 : decode cJ6_bitCount_0f7a4 36 = .ok (.bipush 8, 2) := by decide +kernel
theorem dJ6_bitCount_0f7a4_38 : decode cJ6_bitCount_0f7a4 38 = .ok (.iushr, 1) := by decide +kernel
theorem dJ6_bitCount_0f7a4_39 : decode cJ6_bitCount_0f7a4 39 = .ok (.iadd, 1) := by decide +kernel
theorem dJ6_bitCount_0f7a4_40 : decode cJ6_bitCount_0f7a4 40 = .ok (.istore_n 0, 1) := by decide +kernel
theorem dJ6_bitCount_0f7a4_41 : decode cJ6_bitCount_0f7a4 41 = .ok (.iload_n 0, 1) := by decide +kernel
theorem dJ6_bitCount_0f7a4_42 : decode cJ6_bitCount_0f7a4 42 = .ok (.iload_n 0, 1) := by decide +kernel
theorem dJ6_bitCount_0f7a4_43 : decode cJ6_bitCount_0f7a4 43 = .ok (.bipush 16, 2) := by decide +kernel
theorem dJ6_bitCount_0f7a4_45 : decode cJ6_bitCount_0f7a4 45 = .ok (.iushr, 1) := by decide +kernel
theorem dJ6_bitCount_0f7a4_46 : decode cJ6_bitCount_0f7a4 46 = .ok (.iadd, 1) := by decide +kernel
theorem dJ6_bitCount_0f7a4_47 : decode cJ6_bitCount_0f7a4 47 = .ok (.istore_n 0, 1) := by decide +kernel
theorem dJ6_bitCount_0f7a4_48 : decode cJ6_bitCount_0f7a4 48 = .ok (.iload_n 0, 1) := by decide +kernel
theorem dJ6_bitCount_0f7a4_49 : decode cJ6_bitCount_0f7a4 49 = .ok (.bipush 63, 2) := by decide +kernel
theorem dJ6_bitCount_0f7a4_51 : decode cJ6_bitCount_0f7a4 51 = .ok (.iand, 1) := by decide +kernel
theorem dJ6_bitCount_0f7a4_52 : decode cJ6_bitCount_0f7a4 52 = .ok (.ireturn, 1) := by decide +kernel
theorem dJ9_max_7cf53_0 : decode cJ9_max_7cf53 0 = .ok (.iload_n 0, 1) := by decide +kernel
theorem dJ9_max_7cf53_1 : decode cJ9_max_7cf53 1 = .ok (.iload_n 1, 1) := by decide +kernel
theorem dJ9_max_7cf53_2 : decode cJ9_max_7cf53 2 = .ok (.if_icmp .lt 7, 3) := by decide +kernel
theorem dJ9_max_7cf53_5 : decode cJ9_max_7cf53 5 = .ok (.iload_n 0, 1) := by decide +kernel
theorem dJ9_max_7cf53_6 : decode cJ9_max_7cf53 6 = .ok (.goto 4, 3) := by decide +kernel
theorem dJ9_max_7cf53_9 : decode cJ9_max_7cf53 9 = .ok (.iload_n 1, 1) := by decide +kernel
theorem dJ9_max_7cf53_10 : decode cJ9_max_7cf53 10 = .ok (.ireturn, 1) := by decide +kernel
theorem dJ9_min_7cf53_0 : decode cJ9_min_7cf53 0 = .ok (.iload_n 0, 1) := by decide +kernel
theorem dJ9_min_7cf53_1 : decode cJ9_min_7cf53 1 = .ok (.iload_n 1, 1) := by decide +kernel
theorem dJ9_min_7cf53_2 : decode cJ9_min_7cf53 2 = .ok (.if_icmp .gt 7, 3) := by decide +kernel
theorem dJ9_min_7cf53_5 : decode cJ9_min_7cf53 5 = .ok (.iload_n 0, 1) := by decide +kernel
theorem dJ9_min_7cf53_6 : decode cJ9_min_7cf53 6 = .ok (.goto 4, 3) := by decide +kernel
theorem dJ9_min_7cf53_9 : decode cJ9_min_7cf53 9 = .ok (.iload_n 1, 1) := by decide +kernel
theorem dJ9_min_7cf53_10 : decode cJ9_min_7cf53 10 = .ok (.ireturn, 1) := by decide +kernel
theorem dJ7_fill_53178_0 : decode cJ7_fill_53178 0 = .ok (.iconst 0, 1) := by decide +kernel
theorem dJ7_fill_53178_1 : decode cJ7_fill_53178 1 = .ok (.istore_n 2, 1) := by decide +kernel
theorem dJ7_fill_53178_2 : decode cJ7_fill_53178 2 = .ok (.aload_n 0, 1) := by decide +kernel
theorem dJ7_fill_53178_3 : decode cJ7_fill_53178 3 = .ok (.arraylength, 1) := by decide +kernel
theorem dJ7_fill_53178_4 : decode cJ7_fill_53178 4 = .ok (.istore_n 3, 1) := by decide +kernel
theorem dJ7_fill_53178_5 : decode cJ7_fill_53178 5 = .ok (.iload_n 2, 1) := by decide +kernel
theorem dJ7_fill_53178_6 : decode cJ7_fill_53178 6 = .ok (.iload_n 3, 1) := by decide +kernel
theorem dJ7_fill_53178_7 : decode cJ7_fill_53178 7 = .ok (.if_icmp .ge 13, 3) := by decide +kernel
theorem dJ7_fill_53178_10 : decode cJ7_fill_53178 10 = .ok (.aload_n 0, 1) := by decide +kernel
theorem dJ7_fill_53178_11 : decode cJ7_fill_53178 11 = .ok (.iload_n 2, 1) := by decide +kernel
theorem dJ7_fill_53178_12 : decode cJ7_fill_53178 12 = .ok (.iload_n 1, 1) := by decide +kernel
theorem dJ7_fill_53178_13 : decode cJ7_fill_53178 13 = .ok (.iastore, 1) := by decide +kernel
theorem dJ7_fill_53178_14 : decode cJ7_fill_53178 14 = .ok (.iinc 2 1, 3) := by decide +kernel
theorem dJ7_fill_53178_17 : decode cJ7_fill_53178 17 = .ok (.goto (-12), 3) := by decide +kernel
theorem dJ7_fill_53178_20 : decode cJ7_fill_53178 20 = .ok (.return_, 1) := by decide +kernel
theorem dL_law_0 : decode cL_law 0 = .ok (.new 7, 3) := by decide +kernel
theorem dL_law_3 : decode cL_law 3 = .ok (.dup, 1) := by decide +kernel
theorem dL_law_4 : decode cL_law 4 = .ok (.invokespecial 9, 3) := by decide +kernel
theorem dL_law_7 : decode cL_law 7 = .ok (.astore_n 1, 1) := by decide +kernel
theorem dL_law_8 : decode cL_law 8 = .ok (.new 10, 3) := by decide +kernel
theorem dL_law_11 : decode cL_law 11 = .ok (.dup, 1) := by decide +kernel
theorem dL_law_12 : decode cL_law 12 = .ok (.invokespecial 12, 3) := by decide +kernel
theorem dL_law_15 : decode cL_law 15 = .ok (.astore_n 2, 1) := by decide +kernel
theorem dL_law_16 : decode cL_law 16 = .ok (.iconst 0, 1) := by decide +kernel
theorem dL_law_17 : decode cL_law 17 = .ok (.istore_n 3, 1) := by decide +kernel
theorem dL_law_18 : decode cL_law 18 = .ok (.iload_n 3, 1) := by decide +kernel
theorem dL_law_19 : decode cL_law 19 = .ok (.aload_n 0, 1) := by decide +kernel
theorem dL_law_20 : decode cL_law 20 = .ok (.arraylength, 1) := by decide +kernel
theorem dL_law_21 : decode cL_law 21 = .ok (.iconst 5, 1) := by decide +kernel
theorem dL_law_22 : decode cL_law 22 = .ok (.isub, 1) := by decide +kernel
theorem dL_law_23 : decode cL_law 23 = .ok (.if_icmp .gt 986, 3) := by decide +kernel
theorem dL_law_26 : decode cL_law 26 = .ok (.aload_n 0, 1) := by decide +kernel
theorem dL_law_27 : decode cL_law 27 = .ok (.iload_n 3, 1) := by decide +kernel
theorem dL_law_28 : decode cL_law 28 = .ok (.iaload, 1) := by decide +kernel
theorem dL_law_29 : decode cL_law 29 = .ok (.bipush 31, 2) := by decide +kernel
theorem dL_law_31 : decode cL_law 31 = .ok (.iand, 1) := by decide +kernel
theorem dL_law_32 : decode cL_law 32 = .ok (.tableswitch 971 0 24 #[116, 159, 212, 255, 298, 321, 354, 407, 450, 483, 526, 559, 602, 625, 678, 721, 754, 777, 820, 873, 886, 899, 912, 925, 948], 116) := by decide +kernel
theorem dL_law_148 : decode cL_law 148 = .ok (.aload_n 1, 1) := by decide +kernel
theorem dL_law_149 : decode cL_law 149 = .ok (.aload_n 0, 1) := by decide +kernel
theorem dL_law_150 : decode cL_law 150 = .ok (.iload_n 3, 1) := by decide +kernel
theorem dL_law_151 : decode cL_law 151 = .ok (.iconst 1, 1) := by decide +kernel
theorem dL_law_152 : decode cL_law 152 = .ok (.iadd, 1) := by decide +kernel
theorem dL_law_153 : decode cL_law 153 = .ok (.iaload, 1) := by decide +kernel
theorem dL_law_154 : decode cL_law 154 = .ok (.aload_n 0, 1) := by decide +kernel
theorem dL_law_155 : decode cL_law 155 = .ok (.iload_n 3, 1) := by decide +kernel
theorem dL_law_156 : decode cL_law 156 = .ok (.iconst 2, 1) := by decide +kernel
theorem dL_law_157 : decode cL_law 157 = .ok (.iadd, 1) := by decide +kernel
theorem dL_law_158 : decode cL_law 158 = .ok (.iaload, 1) := by decide +kernel
theorem dL_law_159 : decode cL_law 159 = .ok (.aload_n 0, 1) := by decide +kernel
theorem dL_law_160 : decode cL_law 160 = .ok (.iload_n 3, 1) := by decide +kernel
theorem dL_law_161 : decode cL_law 161 = .ok (.iconst 3, 1) := by decide +kernel
theorem dL_law_162 : decode cL_law 162 = .ok (.iadd, 1) := by decide +kernel
theorem dL_law_163 : decode cL_law 163 = .ok (.iaload, 1) := by decide +kernel
theorem dL_law_164 : decode cL_law 164 = .ok (.invokevirtual 13, 3) := by decide +kernel
theorem dL_law_167 : decode cL_law 167 = .ok (.aload_n 2, 1) := by decide +kernel
theorem dL_law_168 : decode cL_law 168 = .ok (.aload_n 0, 1) := by decide +kernel
theorem dL_law_169 : decode cL_law 169 = .ok (.iload_n 3, 1) := by decide +kernel
theorem dL_law_170 : decode cL_law 170 = .ok (.iconst 1, 1) := by decide +kernel
theorem dL_law_171 : decode cL_law 171 = .ok (.iadd, 1) := by decide +kernel
theorem dL_law_172 : decode cL_law 172 = .ok (.iaload, 1) := by decide +kernel
theorem dL_law_173 : decode cL_law 173 = .ok (.aload_n 0, 1) := by decide +kernel
theorem dL_law_174 : decode cL_law 174 = .ok (.iload_n 3, 1) := by decide +kernel
theorem dL_law_175 : decode cL_law 175 = .ok (.iconst 2, 1) := by decide +kernel
theorem dL_law_176 : decode cL_law 176 = .ok (.iadd, 1) := by decide +kernel
theorem dL_law_177 : decode cL_law 177 = .ok (.iaload, 1) := by decide +kernel
theorem dL_law_178 : decode cL_law 178 = .ok (.aload_n 0, 1) := by decide +kernel
theorem dL_law_179 : decode cL_law 179 = .ok (.iload_n 3, 1) := by decide +kernel
theorem dL_law_180 : decode cL_law 180 = .ok (.iconst 3, 1) := by decide +kernel
theorem dL_law_181 : decode cL_law 181 = .ok (.iadd, 1) := by decide +kernel
theorem dL_law_182 : decode cL_law 182 = .ok (.iaload, 1) := by decide +kernel
theorem dL_law_183 : decode cL_law 183 = .ok (.invokevirtual 17, 3) := by decide +kernel
theorem dL_law_186 : decode cL_law 186 = .ok (.if_icmp .eq 817, 3) := by decide +kernel
theorem dL_law_189 : decode cL_law 189 = .ok (.iconst 0, 1) := by decide +kernel
theorem dL_law_190 : decode cL_law 190 = .ok (.ireturn, 1) := by decide +kernel
theorem dL_law_191 : decode cL_law 191 = .ok (.aload_n 1, 1) := by decide +kernel
theorem dL_law_192 : decode cL_law 192 = .ok (.aload_n 0, 1) := by decide +kernel
theorem dL_law_193 : decode cL_law 193 = .ok (.iload_n 3, 1) := by decide +kernel
theorem dL_law_194 : decode cL_law 194 = .ok (.iconst 1, 1) := by decide +kernel
theorem dL_law_195 : decode cL_law 195 = .ok (.iadd, 1) := by decide +kernel
theorem dL_law_196 : decode cL_law 196 = .ok (.iaload, 1) := by decide +kernel
theorem dL_law_197 : decode cL_law 197 = .ok (.aload_n 0, 1) := by decide +kernel
theorem dL_law_198 : decode cL_law 198 = .ok (.iload_n 3, 1) := by decide +kernel
theorem dL_law_199 : decode cL_law 199 = .ok (.iconst 2, 1) := by decide +kernel
theorem dL_law_200 : decode cL_law 200 = .ok (.iadd, 1) := by decide +kernel
theorem dL_law_201 : decode cL_law 201 = .ok (.iaload, 1) := by decide +kernel
theorem dL_law_202 : decode cL_law 202 = .ok (.aload_n 0, 1) := by decide +kernel
theorem dL_law_203 : decode cL_law 203 = .ok (.iload_n 3, 1) := by decide +kernel
theorem dL_law_204 : decode cL_law 204 = .ok (.iconst 3, 1) := by decide +kernel
theorem dL_law_205 : decode cL_law 205 = .ok (.iadd, 1) := by decide +kernel
theorem dL_law_206 : decode cL_law 206 = .ok (.iaload, 1) := by decide +kernel
theorem dL_law_207 : decode cL_law 207 = .ok (.aload_n 0, 1) := by decide +kernel
theorem dL_law_208 : decode cL_law 208 = .ok (.iload_n 3, 1) := by decide +kernel
theorem dL_law_209 : decode cL_law 209 = .ok (.iconst 4, 1) := by decide +kernel
theorem dL_law_210 : decode cL_law 210 = .ok (.iadd, 1) := by decide +kernel
theorem dL_law_211 : decode cL_law 211 = .ok (.iaload, 1) := by decide +kernel
theorem dL_law_212 : decode cL_law 212 = .ok (.invokevirtual 18, 3) := by decide +kernel
theorem dL_law_215 : decode cL_law 215 = .ok (.aload_n 2, 1) := by decide +kernel
theorem dL_law_216 : decode cL_law 216 = .ok (.aload_n 0, 1) := by decide +kernel
theorem dL_law_217 : decode cL_law 217 = .ok (.iload_n 3, 1) := by decide +kernel
theorem dL_law_218 : decode cL_law 218 = .ok (.iconst 1, 1) := by decide +kernel
theorem dL_law_219 : decode cL_law 219 = .ok (.iadd, 1) := by decide +kernel
theorem dL_law_220 : decode cL_law 220 = .ok (.iaload, 1) := by decide +kernel
theorem dL_law_221 : decode cL_law 221 = .ok (.aload_n 0, 1) := by decide +kernel
theorem dL_law_222 : decode cL_law 222 = .ok (.iload_n 3, 1) := by decide +kernel
theorem dL_law_223 : decode cL_law 223 = .ok (.iconst 2, 1) := by decide +kernel
theorem dL_law_224 : decode cL_law 224 = .ok (.iadd, 1) := by decide +kernel
theorem dL_law_225 : decode cL_law 225 = .ok (.iaload, 1) := by decide +kernel
theorem dL_law_226 : decode cL_law 226 = .ok (.aload_n 0, 1) := by decide +kernel
theorem dL_law_227 : decode cL_law 227 = .ok (.iload_n 3, 1) := by decide +kernel
theorem dL_law_228 : decode cL_law 228 = .ok (.iconst 3, 1) := by decide +kernel
theorem dL_law_229 : decode cL_law 229 = .ok (.iadd, 1) := by decide +kernel
theorem dL_law_230 : decode cL_law 230 = .ok (.iaload, 1) := by decide +kernel
theorem dL_law_231 : decode cL_law 231 = .ok (.aload_n 0, 1) := by decide +kernel
theorem dL_law_232 : decode cL_law 232 = .ok (.iload_n 3, 1) := by decide +kernel
theorem dL_law_233 : decode cL_law 233 = .ok (.iconst 4, 1) := by decide +kernel
theorem dL_law_234 : decode cL_law 234 = .ok (.iadd, 1) := by decide +kernel
theorem dL_law_235 : decode cL_law 235 = .ok (.iaload, 1) := by decide +kernel
theorem dL_law_236 : decode cL_law 236 = .ok (.invokevirtual 22, 3) := by decide +kernel
theorem dL_law_239 : decode cL_law 239 = .ok (.if_icmp .eq 764, 3) := by decide +kernel
theorem dL_law_242 : decode cL_law 242 = .ok (.iconst 0, 1) := by decide +kernel
theorem dL_law_243 : decode cL_law 243 = .ok (.ireturn, 1) := by decide +kernel
theorem dL_law_244 : decode cL_law 244 = .ok (.aload_n 1, 1) := by decide +kernel
theorem dL_law_245 : decode cL_law 245 = .ok (.aload_n 0, 1) := by decide +kernel
theorem dL_law_246 : decode cL_law 246 = .ok (.iload_n 3, 1) := by decide +kernel
theorem dL_law_247 : decode cL_law 247 = .ok (.iconst 1, 1) := by decide +kernel
theorem dL_law_248 : decode cL_law 248 = .ok (.iadd, 1) := by decide +kernel
theorem dL_law_249 : decode cL_law 249 = .ok (.iaload, 1) := by decide +kernel
theorem dL_law_250 : decode cL_law 250 = .ok (.aload_n 0, 1) := by decide +kernel
theorem dL_law_251 : decode cL_law 251 = .ok (.iload_n 3, 1) := by decide +kernel
theorem dL_law_252 : decode cL_law 252 = .ok (.iconst 2, 1) := by decide +kernel
theorem dL_law_253 : decode cL_law 253 = .ok (.iadd, 1) := by decide +kernel
theorem dL_law_254 : decode cL_law 254 = .ok (.iaload, 1) := by decide +kernel
theorem dL_law_255 : decode cL_law 255 = .ok (.aload_n 0, 1) := by decide +kernel
theorem dL_law_256 : decode cL_law 256 = .ok (.iload_n 3, 1) := by decide +kernel
theorem dL_law_257 : decode cL_law 257 = .ok (.iconst 3, 1) := by decide +kernel
theorem dL_law_258 : decode cL_law 258 = .ok (.iadd, 1) := by decide +kernel
theorem dL_law_259 : decode cL_law 259 = .ok (.iaload, 1) := by decide +kernel
theorem dL_law_260 : decode cL_law 260 = .ok (.invokevirtual 23, 3) := by decide +kernel
theorem dL_law_263 : decode cL_law 263 = .ok (.aload_n 2, 1) := by decide +kernel
theorem dL_law_264 : decode cL_law 264 = .ok (.aload_n 0, 1) := by decide +kernel
theorem dL_law_265 : decode cL_law 265 = .ok (.iload_n 3, 1) := by decide +kernel
theorem dL_law_266 : decode cL_law 266 = .ok (.iconst 1, 1) := by decide +kernel
theorem dL_law_267 : decode cL_law 267 = .ok (.iadd, 1) := by decide +kernel
theorem dL_law_268 : decode cL_law 268 = .ok (.iaload, 1) := by decide +kernel
theorem dL_law_269 : decode cL_law 269 = .ok (.aload_n 0, 1) := by decide +kernel
theorem dL_law_270 : decode cL_law 270 = .ok (.iload_n 3, 1) := by decide +kernel
theorem dL_law_271 : decode cL_law 271 = .ok (.iconst 2, 1) := by decide +kernel
theorem dL_law_272 : decode cL_law 272 = .ok (.iadd, 1) := by decide +kernel
theorem dL_law_273 : decode cL_law 273 = .ok (.iaload, 1) := by decide +kernel
theorem dL_law_274 : decode cL_law 274 = .ok (.aload_n 0, 1) := by decide +kernel
theorem dL_law_275 : decode cL_law 275 = .ok (.iload_n 3, 1) := by decide +kernel
theorem dL_law_276 : decode cL_law 276 = .ok (.iconst 3, 1) := by decide +kernel
theorem dL_law_277 : decode cL_law 277 = .ok (.iadd, 1) := by decide +kernel
theorem dL_law_278 : decode cL_law 278 = .ok (.iaload, 1) := by decide +kernel
theorem dL_law_279 : decode cL_law 279 = .ok (.invokevirtual 26, 3) := by decide +kernel
theorem dL_law_282 : decode cL_law 282 = .ok (.if_icmp .eq 721, 3) := by decide +kernel
theorem dL_law_285 : decode cL_law 285 = .ok (.iconst 0, 1) := by decide +kernel
theorem dL_law_286 : decode cL_law 286 = .ok (.ireturn, 1) := by decide +kernel
theorem dL_law_287 : decode cL_law 287 = .ok (.aload_n 1, 1) := by decide +kernel
theorem dL_law_288 : decode cL_law 288 = .ok (.aload_n 0, 1) := by decide +kernel
theorem dL_law_289 : decode cL_law 289 = .ok (.iload_n 3, 1) := by decide +kernel
theorem dL_law_290 : decode cL_law 290 = .ok (.iconst 1, 1) := by decide +kernel
theorem dL_law_291 : decode cL_law 291 = .ok (.iadd, 1) := by decide +kernel
theorem dL_law_292 : decode cL_law 292 = .ok (.iaload, 1) := by decide +kernel
theorem dL_law_293 : decode cL_law 293 = .ok (.aload_n 0, 1) := by decide +kernel
theorem dL_law_294 : decode cL_law 294 = .ok (.iload_n 3, 1) := by decide +kernel
theorem dL_law_295 : decode cL_law 295 = .ok (.iconst 2, 1) := by decide +kernel
theorem dL_law_296 : decode cL_law 296 = .ok (.iadd, 1) := by decide +kernel
theorem dL_law_297 : decode cL_law 297 = .ok (.iaload, 1) := by decide +kernel
theorem dL_law_298 : decode cL_law 298 = .ok (.aload_n 0, 1) := by decide +kernel
theorem dL_law_299 : decode cL_law 299 = .ok (.iload_n 3, 1) := by decide +kernel
theorem dL_law_300 : decode cL_law 300 = .ok (.iconst 3, 1) := by decide +kernel
theorem dL_law_301 : decode cL_law 301 = .ok (.iadd, 1) := by decide +kernel
theorem dL_law_302 : decode cL_law 302 = .ok (.iaload, 1) := by decide +kernel
theorem dL_law_303 : decode cL_law 303 = .ok (.invokevirtual 27, 3) := by decide +kernel
theorem dL_law_306 : decode cL_law 306 = .ok (.aload_n 2, 1) := by decide +kernel
theorem dL_law_307 : decode cL_law 307 = .ok (.aload_n 0, 1) := by decide +kernel
theorem dL_law_308 : decode cL_law 308 = .ok (.iload_n 3, 1) := by decide +kernel
theorem dL_law_309 : decode cL_law 309 = .ok (.iconst 1, 1) := by decide +kernel
theorem dL_law_310 : decode cL_law 310 = .ok (.iadd, 1) := by decide +kernel
theorem dL_law_311 : decode cL_law 311 = .ok (.iaload, 1) := by decide +kernel
theorem dL_law_312 : decode cL_law 312 = .ok (.aload_n 0, 1) := by decide +kernel
theorem dL_law_313 : decode cL_law 313 = .ok (.iload_n 3, 1) := by decide +kernel
theorem dL_law_314 : decode cL_law 314 = .ok (.iconst 2, 1) := by decide +kernel
theorem dL_law_315 : decode cL_law 315 = .ok (.iadd, 1) := by decide +kernel
theorem dL_law_316 : decode cL_law 316 = .ok (.iaload, 1) := by decide +kernel
theorem dL_law_317 : decode cL_law 317 = .ok (.aload_n 0, 1) := by decide +kernel
theorem dL_law_318 : decode cL_law 318 = .ok (.iload_n 3, 1) := by decide +kernel
theorem dL_law_319 : decode cL_law 319 = .ok (.iconst 3, 1) := by decide +kernel
theorem dL_law_320 : decode cL_law 320 = .ok (.iadd, 1) := by decide +kernel
theorem dL_law_321 : decode cL_law 321 = .ok (.iaload, 1) := by decide +kernel
theorem dL_law_322 : decode cL_law 322 = .ok (.invokevirtual 30, 3) := by decide +kernel
theorem dL_law_325 : decode cL_law 325 = .ok (.if_icmp .eq 678, 3) := by decide +kernel
theorem dL_law_328 : decode cL_law 328 = .ok (.iconst 0, 1) := by decide +kernel
theorem dL_law_329 : decode cL_law 329 = .ok (.ireturn, 1) := by decide +kernel
theorem dL_law_330 : decode cL_law 330 = .ok (.aload_n 1, 1) := by decide +kernel
theorem dL_law_331 : decode cL_law 331 = .ok (.aload_n 0, 1) := by decide +kernel
theorem dL_law_332 : decode cL_law 332 = .ok (.iload_n 3, 1) := by decide +kernel
theorem dL_law_333 : decode cL_law 333 = .ok (.iconst 1, 1) := by decide +kernel
theorem dL_law_334 : decode cL_law 334 = .ok (.iadd, 1) := by decide +kernel
theorem dL_law_335 : decode cL_law 335 = .ok (.iaload, 1) := by decide +kernel
theorem dL_law_336 : decode cL_law 336 = .ok (.invokevirtual 31, 3) := by decide +kernel
theorem dL_law_339 : decode cL_law 339 = .ok (.aload_n 2, 1) := by decide +kernel
theorem dL_law_340 : decode cL_law 340 = .ok (.aload_n 0, 1) := by decide +kernel
theorem dL_law_341 : decode cL_law 341 = .ok (.iload_n 3, 1) := by decide +kernel
theorem dL_law_342 : decode cL_law 342 = .ok (.iconst 1, 1) := by decide +kernel
theorem dL_law_343 : decode cL_law 343 = .ok (.iadd, 1) := by decide +kernel
theorem dL_law_344 : decode cL_law 344 = .ok (.iaload, 1) := by decide +kernel
theorem dL_law_345 : decode cL_law 345 = .ok (.invokevirtual 35, 3) := by decide +kernel
theorem dL_law_348 : decode cL_law 348 = .ok (.if_icmp .eq 655, 3) := by decide +kernel
theorem dL_law_351 : decode cL_law 351 = .ok (.iconst 0, 1) := by decide +kernel
theorem dL_law_352 : decode cL_law 352 = .ok (.ireturn, 1) := by decide +kernel
theorem dL_law_353 : decode cL_law 353 = .ok (.aload_n 1, 1) := by decide +kernel
theorem dL_law_354 : decode cL_law 354 = .ok (.aload_n 0, 1) := by decide +kernel
theorem dL_law_355 : decode cL_law 355 = .ok (.iload_n 3, 1) := by decide +kernel
theorem dL_law_356 : decode cL_law 356 = .ok (.iconst 1, 1) := by decide +kernel
theorem dL_law_357 : decode cL_law 357 = .ok (.iadd, 1) := by decide +kernel
theorem dL_law_358 : decode cL_law 358 = .ok (.iaload, 1) := by decide +kernel
theorem dL_law_359 : decode cL_law 359 = .ok (.aload_n 0, 1) := by decide +kernel
theorem dL_law_360 : decode cL_law 360 = .ok (.iload_n 3, 1) := by decide +kernel
theorem dL_law_361 : decode cL_law 361 = .ok (.iconst 2, 1) := by decide +kernel
theorem dL_law_362 : decode cL_law 362 = .ok (.iadd, 1) := by decide +kernel
theorem dL_law_363 : decode cL_law 363 = .ok (.iaload, 1) := by decide +kernel
theorem dL_law_364 : decode cL_law 364 = .ok (.invokevirtual 36, 3) := by decide +kernel
theorem dL_law_367 : decode cL_law 367 = .ok (.aload_n 2, 1) := by decide +kernel
theorem dL_law_368 : decode cL_law 368 = .ok (.aload_n 0, 1) := by decide +kernel
theorem dL_law_369 : decode cL_law 369 = .ok (.iload_n 3, 1) := by decide +kernel
theorem dL_law_370 : decode cL_law 370 = .ok (.iconst 1, 1) := by decide +kernel
theorem dL_law_371 : decode cL_law 371 = .ok (.iadd, 1) := by decide +kernel
theorem dL_law_372 : decode cL_law 372 = .ok (.iaload, 1) := by decide +kernel
theorem dL_law_373 : decode cL_law 373 = .ok (.aload_n 0, 1) := by decide +kernel
theorem dL_law_374 : decode cL_law 374 = .ok (.iload_n 3, 1) := by decide +kernel
theorem dL_law_375 : decode cL_law 375 = .ok (.iconst 2, 1) := by decide +kernel
theorem dL_law_376 : decode cL_law 376 = .ok (.iadd, 1) := by decide +kernel
theorem dL_law_377 : decode cL_law 377 = .ok (.iaload, 1) := by decide +kernel
theorem dL_law_378 : decode cL_law 378 = .ok (.invokevirtual 40, 3) := by decide +kernel
theorem dL_law_381 : decode cL_law 381 = .ok (.if_icmp .eq 622, 3) := by decide +kernel
theorem dL_law_384 : decode cL_law 384 = .ok (.iconst 0, 1) := by decide +kernel
theorem dL_law_385 : decode cL_law 385 = .ok (.ireturn, 1) := by decide +kernel
theorem dL_law_386 : decode cL_law 386 = .ok (.aload_n 1, 1) := by decide +kernel
theorem dL_law_387 : decode cL_law 387 = .ok (.aload_n 0, 1) := by decide +kernel
theorem dL_law_388 : decode cL_law 388 = .ok (.iload_n 3, 1) := by decide +kernel
theorem dL_law_389 : decode cL_law 389 = .ok (.iconst 1, 1) := by decide +kernel
theorem dL_law_390 : decode cL_law 390 = .ok (.iadd, 1) := by decide +kernel
theorem dL_law_391 : decode cL_law 391 = .ok (.iaload, 1) := by decide +kernel
theorem dL_law_392 : decode cL_law 392 = .ok (.aload_n 0, 1) := by decide +kernel
theorem dL_law_393 : decode cL_law 393 = .ok (.iload_n 3, 1) := by decide +kernel
theorem dL_law_394 : decode cL_law 394 = .ok (.iconst 2, 1) := by decide +kernel
theorem dL_law_395 : decode cL_law 395 = .ok (.iadd, 1) := by decide +kernel
theorem dL_law_396 : decode cL_law 396 = .ok (.iaload, 1) := by decide +kernel
theorem dL_law_397 : decode cL_law 397 = .ok (.aload_n 0, 1) := by decide +kernel
theorem dL_law_398 : decode cL_law 398 = .ok (.iload_n 3, 1) := by decide +kernel
theorem dL_law_399 : decode cL_law 399 = .ok (.iconst 3, 1) := by decide +kernel
theorem dL_law_400 : decode cL_law 400 = .ok (.iadd, 1) := by decide +kernel
theorem dL_law_401 : decode cL_law 401 = .ok (.iaload, 1) := by decide +kernel
theorem dL_law_402 : decode cL_law 402 = .ok (.aload_n 0, 1) := by decide +kernel
theorem dL_law_403 : decode cL_law 403 = .ok (.iload_n 3, 1) := by decide +kernel
theorem dL_law_404 : decode cL_law 404 = .ok (.iconst 4, 1) := by decide +kernel
theorem dL_law_405 : decode cL_law 405 = .ok (.iadd, 1) := by decide +kernel
theorem dL_law_406 : decode cL_law 406 = .ok (.iaload, 1) := by decide +kernel
theorem dL_law_407 : decode cL_law 407 = .ok (.invokevirtual 41, 3) := by decide +kernel
theorem dL_law_410 : decode cL_law 410 = .ok (.aload_n 2, 1) := by decide +kernel
theorem dL_law_411 : decode cL_law 411 = .ok (.aload_n 0, 1) := by decide +kernel
theorem dL_law_412 : decode cL_law 412 = .ok (.iload_n 3, 1) := by decide +kernel
theorem dL_law_413 : decode cL_law 413 = .ok (.iconst 1, 1) := by decide +kernel
theorem dL_law_414 : decode cL_law 414 = .ok (.iadd, 1) := by decide +kernel
theorem dL_law_415 : decode cL_law 415 = .ok (.iaload, 1) := by decide +kernel
theorem dL_law_416 : decode cL_law 416 = .ok (.aload_n 0, 1) := by decide +kernel
theorem dL_law_417 : decode cL_law 417 = .ok (.iload_n 3, 1) := by decide +kernel
theorem dL_law_418 : decode cL_law 418 = .ok (.iconst 2, 1) := by decide +kernel
theorem dL_law_419 : decode cL_law 419 = .ok (.iadd, 1) := by decide +kernel
theorem dL_law_420 : decode cL_law 420 = .ok (.iaload, 1) := by decide +kernel
theorem dL_law_421 : decode cL_law 421 = .ok (.aload_n 0, 1) := by decide +kernel
theorem dL_law_422 : decode cL_law 422 = .ok (.iload_n 3, 1) := by decide +kernel
theorem dL_law_423 : decode cL_law 423 = .ok (.iconst 3, 1) := by decide +kernel
theorem dL_law_424 : decode cL_law 424 = .ok (.iadd, 1) := by decide +kernel
theorem dL_law_425 : decode cL_law 425 = .ok (.iaload, 1) := by decide +kernel
theorem dL_law_426 : decode cL_law 426 = .ok (.aload_n 0, 1) := by decide +kernel
theorem dL_law_427 : decode cL_law 427 = .ok (.iload_n 3, 1) := by decide +kernel
theorem dL_law_428 : decode cL_law 428 = .ok (.iconst 4, 1) := by decide +kernel
theorem dL_law_429 : decode cL_law 429 = .ok (.iadd, 1) := by decide +kernel
theorem dL_law_430 : decode cL_law 430 = .ok (.iaload, 1) := by decide +kernel
theorem dL_law_431 : decode cL_law 431 = .ok (.invokevirtual 44, 3) := by decide +kernel
theorem dL_law_434 : decode cL_law 434 = .ok (.if_icmp .eq 569, 3) := by decide +kernel
theorem dL_law_437 : decode cL_law 437 = .ok (.iconst 0, 1) := by decide +kernel
theorem dL_law_438 : decode cL_law 438 = .ok (.ireturn, 1) := by decide +kernel
theorem dL_law_439 : decode cL_law 439 = .ok (.aload_n 1, 1) := by decide +kernel
theorem dL_law_440 : decode cL_law 440 = .ok (.aload_n 0, 1) := by decide +kernel
theorem dL_law_441 : decode cL_law 441 = .ok (.iload_n 3, 1) := by decide +kernel
theorem dL_law_442 : decode cL_law 442 = .ok (.iconst 1, 1) := by decide +kernel
theorem dL_law_443 : decode cL_law 443 = .ok (.iadd, 1) := by decide +kernel
theorem dL_law_444 : decode cL_law 444 = .ok (.iaload, 1) := by decide +kernel
theorem dL_law_445 : decode cL_law 445 = .ok (.aload_n 0, 1) := by decide +kernel
theorem dL_law_446 : decode cL_law 446 = .ok (.iload_n 3, 1) := by decide +kernel
theorem dL_law_447 : decode cL_law 447 = .ok (.iconst 2, 1) := by decide +kernel
theorem dL_law_448 : decode cL_law 448 = .ok (.iadd, 1) := by decide +kernel
theorem dL_law_449 : decode cL_law 449 = .ok (.iaload, 1) := by decide +kernel
theorem dL_law_450 : decode cL_law 450 = .ok (.aload_n 0, 1) := by decide +kernel
theorem dL_law_451 : decode cL_law 451 = .ok (.iload_n 3, 1) := by decide +kernel
theorem dL_law_452 : decode cL_law 452 = .ok (.iconst 3, 1) := by decide +kernel
theorem dL_law_453 : decode cL_law 453 = .ok (.iadd, 1) := by decide +kernel
theorem dL_law_454 : decode cL_law 454 = .ok (.iaload, 1) := by decide +kernel
theorem dL_law_455 : decode cL_law 455 = .ok (.invokevirtual 45, 3) := by decide +kernel
theorem dL_law_458 : decode cL_law 458 = .ok (.aload_n 2, 1) := by decide +kernel
theorem dL_law_459 : decode cL_law 459 = .ok (.aload_n 0, 1) := by decide +kernel
theorem dL_law_460 : decode cL_law 460 = .ok (.iload_n 3, 1) := by decide +kernel
theorem dL_law_461 : decode cL_law 461 = .ok (.iconst 1, 1) := by decide +kernel
theorem dL_law_462 : decode cL_law 462 = .ok (.iadd, 1) := by decide +kernel
theorem dL_law_463 : decode cL_law 463 = .ok (.iaload, 1) := by decide +kernel
theorem dL_law_464 : decode cL_law 464 = .ok (.aload_n 0, 1) := by decide +kernel
theorem dL_law_465 : decode cL_law 465 = .ok (.iload_n 3, 1) := by decide +kernel
theorem dL_law_466 : decode cL_law 466 = .ok (.iconst 2, 1) := by decide +kernel
theorem dL_law_467 : decode cL_law 467 = .ok (.iadd, 1) := by decide +kernel
theorem dL_law_468 : decode cL_law 468 = .ok (.iaload, 1) := by decide +kernel
theorem dL_law_469 : decode cL_law 469 = .ok (.aload_n 0, 1) := by decide +kernel
theorem dL_law_470 : decode cL_law 470 = .ok (.iload_n 3, 1) := by decide +kernel
theorem dL_law_471 : decode cL_law 471 = .ok (.iconst 3, 1) := by decide +kernel
theorem dL_law_472 : decode cL_law 472 = .ok (.iadd, 1) := by decide +kernel
theorem dL_law_473 : decode cL_law 473 = .ok (.iaload, 1) := by decide +kernel
theorem dL_law_474 : decode cL_law 474 = .ok (.invokevirtual 48, 3) := by decide +kernel
theorem dL_law_477 : decode cL_law 477 = .ok (.if_icmp .eq 526, 3) := by decide +kernel
theorem dL_law_480 : decode cL_law 480 = .ok (.iconst 0, 1) := by decide +kernel
theorem dL_law_481 : decode cL_law 481 = .ok (.ireturn, 1) := by decide +kernel
theorem dL_law_482 : decode cL_law 482 = .ok (.aload_n 1, 1) := by decide +kernel
theorem dL_law_483 : decode cL_law 483 = .ok (.aload_n 0, 1) := by decide +kernel
theorem dL_law_484 : decode cL_law 484 = .ok (.iload_n 3, 1) := by decide +kernel
theorem dL_law_485 : decode cL_law 485 = .ok (.iconst 1, 1) := by decide +kernel
theorem dL_law_486 : decode cL_law 486 = .ok (.iadd, 1) := by decide +kernel
theorem dL_law_487 : decode cL_law 487 = .ok (.iaload, 1) := by decide +kernel
theorem dL_law_488 : decode cL_law 488 = .ok (.aload_n 0, 1) := by decide +kernel
theorem dL_law_489 : decode cL_law 489 = .ok (.iload_n 3, 1) := by decide +kernel
theorem dL_law_490 : decode cL_law 490 = .ok (.iconst 2, 1) := by decide +kernel
theorem dL_law_491 : decode cL_law 491 = .ok (.iadd, 1) := by decide +kernel
theorem dL_law_492 : decode cL_law 492 = .ok (.iaload, 1) := by decide +kernel
theorem dL_law_493 : decode cL_law 493 = .ok (.invokevirtual 49, 3) := by decide +kernel
theorem dL_law_496 : decode cL_law 496 = .ok (.aload_n 2, 1) := by decide +kernel
theorem dL_law_497 : decode cL_law 497 = .ok (.aload_n 0, 1) := by decide +kernel
theorem dL_law_498 : decode cL_law 498 = .ok (.iload_n 3, 1) := by decide +kernel
theorem dL_law_499 : decode cL_law 499 = .ok (.iconst 1, 1) := by decide +kernel
theorem dL_law_500 : decode cL_law 500 = .ok (.iadd, 1) := by decide +kernel
theorem dL_law_501 : decode cL_law 501 = .ok (.iaload, 1) := by decide +kernel
theorem dL_law_502 : decode cL_law 502 = .ok (.aload_n 0, 1) := by decide +kernel
theorem dL_law_503 : decode cL_law 503 = .ok (.iload_n 3, 1) := by decide +kernel
theorem dL_law_504 : decode cL_law 504 = .ok (.iconst 2, 1) := by decide +kernel
theorem dL_law_505 : decode cL_law 505 = .ok (.iadd, 1) := by decide +kernel
theorem dL_law_506 : decode cL_law 506 = .ok (.iaload, 1) := by decide +kernel
theorem dL_law_507 : decode cL_law 507 = .ok (.invokevirtual 52, 3) := by decide +kernel
theorem dL_law_510 : decode cL_law 510 = .ok (.if_icmp .eq 493, 3) := by decide +kernel
theorem dL_law_513 : decode cL_law 513 = .ok (.iconst 0, 1) := by decide +kernel
theorem dL_law_514 : decode cL_law 514 = .ok (.ireturn, 1) := by decide +kernel
theorem dL_law_515 : decode cL_law 515 = .ok (.aload_n 1, 1) := by decide +kernel
theorem dL_law_516 : decode cL_law 516 = .ok (.aload_n 0, 1) := by decide +kernel
theorem dL_law_517 : decode cL_law 517 = .ok (.iload_n 3, 1) := by decide +kernel
theorem dL_law_518 : decode cL_law 518 = .ok (.iconst 1, 1) := by decide +kernel
theorem dL_law_519 : decode cL_law 519 = .ok (.iadd, 1) := by decide +kernel
theorem dL_law_520 : decode cL_law 520 = .ok (.iaload, 1) := by decide +kernel
theorem dL_law_521 : decode cL_law 521 = .ok (.aload_n 0, 1) := by decide +kernel
theorem dL_law_522 : decode cL_law 522 = .ok (.iload_n 3, 1) := by decide +kernel
theorem dL_law_523 : decode cL_law 523 = .ok (.iconst 2, 1) := by decide +kernel
theorem dL_law_524 : decode cL_law 524 = .ok (.iadd, 1) := by decide +kernel
theorem dL_law_525 : decode cL_law 525 = .ok (.iaload, 1) := by decide +kernel
theorem dL_law_526 : decode cL_law 526 = .ok (.aload_n 0, 1) := by decide +kernel
theorem dL_law_527 : decode cL_law 527 = .ok (.iload_n 3, 1) := by decide +kernel
theorem dL_law_528 : decode cL_law 528 = .ok (.iconst 3, 1) := by decide +kernel
theorem dL_law_529 : decode cL_law 529 = .ok (.iadd, 1) := by decide +kernel
theorem dL_law_530 : decode cL_law 530 = .ok (.iaload, 1) := by decide +kernel
theorem dL_law_531 : decode cL_law 531 = .ok (.invokevirtual 53, 3) := by decide +kernel
theorem dL_law_534 : decode cL_law 534 = .ok (.aload_n 2, 1) := by decide +kernel
theorem dL_law_535 : decode cL_law 535 = .ok (.aload_n 0, 1) := by decide +kernel
theorem dL_law_536 : decode cL_law 536 = .ok (.iload_n 3, 1) := by decide +kernel
theorem dL_law_537 : decode cL_law 537 = .ok (.iconst 1, 1) := by decide +kernel
theorem dL_law_538 : decode cL_law 538 = .ok (.iadd, 1) := by decide +kernel
theorem dL_law_539 : decode cL_law 539 = .ok (.iaload, 1) := by decide +kernel
theorem dL_law_540 : decode cL_law 540 = .ok (.aload_n 0, 1) := by decide +kernel
theorem dL_law_541 : decode cL_law 541 = .ok (.iload_n 3, 1) := by decide +kernel
theorem dL_law_542 : decode cL_law 542 = .ok (.iconst 2, 1) := by decide +kernel
theorem dL_law_543 : decode cL_law 543 = .ok (.iadd, 1) := by decide +kernel
theorem dL_law_544 : decode cL_law 544 = .ok (.iaload, 1) := by decide +kernel
theorem dL_law_545 : decode cL_law 545 = .ok (.aload_n 0, 1) := by decide +kernel
theorem dL_law_546 : decode cL_law 546 = .ok (.iload_n 3, 1) := by decide +kernel
theorem dL_law_547 : decode cL_law 547 = .ok (.iconst 3, 1) := by decide +kernel
theorem dL_law_548 : decode cL_law 548 = .ok (.iadd, 1) := by decide +kernel
theorem dL_law_549 : decode cL_law 549 = .ok (.iaload, 1) := by decide +kernel
theorem dL_law_550 : decode cL_law 550 = .ok (.invokevirtual 56, 3) := by decide +kernel
theorem dL_law_553 : decode cL_law 553 = .ok (.if_icmp .eq 450, 3) := by decide +kernel
theorem dL_law_556 : decode cL_law 556 = .ok (.iconst 0, 1) := by decide +kernel
theorem dL_law_557 : decode cL_law 557 = .ok (.ireturn, 1) := by decide +kernel
theorem dL_law_558 : decode cL_law 558 = .ok (.aload_n 1, 1) := by decide +kernel
theorem dL_law_559 : decode cL_law 559 = .ok (.aload_n 0, 1) := by decide +kernel
theorem dL_law_560 : decode cL_law 560 = .ok (.iload_n 3, 1) := by decide +kernel
theorem dL_law_561 : decode cL_law 561 = .ok (.iconst 1, 1) := by decide +kernel
theorem dL_law_562 : decode cL_law 562 = .ok (.iadd, 1) := by decide +kernel
theorem dL_law_563 : decode cL_law 563 = .ok (.iaload, 1) := by decide +kernel
theorem dL_law_564 : decode cL_law 564 = .ok (.aload_n 0, 1) := by decide +kernel
theorem dL_law_565 : decode cL_law 565 = .ok (.iload_n 3, 1) := by decide +kernel
theorem dL_law_566 : decode cL_law 566 = .ok (.iconst 2, 1) := by decide +kernel
theorem dL_law_567 : decode cL_law 567 = .ok (.iadd, 1) := by decide +kernel
theorem dL_law_568 : decode cL_law 568 = .ok (.iaload, 1) := by decide +kernel
theorem dL_law_569 : decode cL_law 569 = .ok (.invokevirtual 57, 3) := by decide +kernel
theorem dL_law_572 : decode cL_law 572 = .ok (.aload_n 2, 1) := by decide +kernel
theorem dL_law_573 : decode cL_law 573 = .ok (.aload_n 0, 1) := by decide +kernel
theorem dL_law_574 : decode cL_law 574 = .ok (.iload_n 3, 1) := by decide +kernel
theorem dL_law_575 : decode cL_law 575 = .ok (.iconst 1, 1) := by decide +kernel
theorem dL_law_576 : decode cL_law 576 = .ok (.iadd, 1) := by decide +kernel
theorem dL_law_577 : decode cL_law 577 = .ok (.iaload, 1) := by decide +kernel
theorem dL_law_578 : decode cL_law 578 = .ok (.aload_n 0, 1) := by decide +kernel
theorem dL_law_579 : decode cL_law 579 = .ok (.iload_n 3, 1) := by decide +kernel
theorem dL_law_580 : decode cL_law 580 = .ok (.iconst 2, 1) := by decide +kernel
theorem dL_law_581 : decode cL_law 581 = .ok (.iadd, 1) := by decide +kernel
theorem dL_law_582 : decode cL_law 582 = .ok (.iaload, 1) := by decide +kernel
theorem dL_law_583 : decode cL_law 583 = .ok (.invokevirtual 60, 3) := by decide +kernel
theorem dL_law_586 : decode cL_law 586 = .ok (.if_icmp .eq 417, 3) := by decide +kernel
theorem dL_law_589 : decode cL_law 589 = .ok (.iconst 0, 1) := by decide +kernel
theorem dL_law_590 : decode cL_law 590 = .ok (.ireturn, 1) := by decide +kernel
theorem dL_law_591 : decode cL_law 591 = .ok (.aload_n 1, 1) := by decide +kernel
theorem dL_law_592 : decode cL_law 592 = .ok (.aload_n 0, 1) := by decide +kernel
theorem dL_law_593 : decode cL_law 593 = .ok (.iload_n 3, 1) := by decide +kernel
theorem dL_law_594 : decode cL_law 594 = .ok (.iconst 1, 1) := by decide +kernel
theorem dL_law_595 : decode cL_law 595 = .ok (.iadd, 1) := by decide +kernel
theorem dL_law_596 : decode cL_law 596 = .ok (.iaload, 1) := by decide +kernel
theorem dL_law_597 : decode cL_law 597 = .ok (.aload_n 0, 1) := by decide +kernel
theorem dL_law_598 : decode cL_law 598 = .ok (.iload_n 3, 1) := by decide +kernel
theorem dL_law_599 : decode cL_law 599 = .ok (.iconst 2, 1) := by decide +kernel
theorem dL_law_600 : decode cL_law 600 = .ok (.iadd, 1) := by decide +kernel
theorem dL_law_601 : decode cL_law 601 = .ok (.iaload, 1) := by decide +kernel
theorem dL_law_602 : decode cL_law 602 = .ok (.aload_n 0, 1) := by decide +kernel
theorem dL_law_603 : decode cL_law 603 = .ok (.iload_n 3, 1) := by decide +kernel
theorem dL_law_604 : decode cL_law 604 = .ok (.iconst 3, 1) := by decide +kernel
theorem dL_law_605 : decode cL_law 605 = .ok (.iadd, 1) := by decide +kernel
theorem dL_law_606 : decode cL_law 606 = .ok (.iaload, 1) := by decide +kernel
theorem dL_law_607 : decode cL_law 607 = .ok (.invokevirtual 61, 3) := by decide +kernel
theorem dL_law_610 : decode cL_law 610 = .ok (.aload_n 2, 1) := by decide +kernel
theorem dL_law_611 : decode cL_law 611 = .ok (.aload_n 0, 1) := by decide +kernel
theorem dL_law_612 : decode cL_law 612 = .ok (.iload_n 3, 1) := by decide +kernel
theorem dL_law_613 : decode cL_law 613 = .ok (.iconst 1, 1) := by decide +kernel
theorem dL_law_614 : decode cL_law 614 = .ok (.iadd, 1) := by decide +kernel
theorem dL_law_615 : decode cL_law 615 = .ok (.iaload, 1) := by decide +kernel
theorem dL_law_616 : decode cL_law 616 = .ok (.aload_n 0, 1) := by decide +kernel
theorem dL_law_617 : decode cL_law 617 = .ok (.iload_n 3, 1) := by decide +kernel
theorem dL_law_618 : decode cL_law 618 = .ok (.iconst 2, 1) := by decide +kernel
theorem dL_law_619 : decode cL_law 619 = .ok (.iadd, 1) := by decide +kernel
theorem dL_law_620 : decode cL_law 620 = .ok (.iaload, 1) := by decide +kernel
theorem dL_law_621 : decode cL_law 621 = .ok (.aload_n 0, 1) := by decide +kernel
theorem dL_law_622 : decode cL_law 622 = .ok (.iload_n 3, 1) := by decide +kernel
theorem dL_law_623 : decode cL_law 623 = .ok (.iconst 3, 1) := by decide +kernel
theorem dL_law_624 : decode cL_law 624 = .ok (.iadd, 1) := by decide +kernel
theorem dL_law_625 : decode cL_law 625 = .ok (.iaload, 1) := by decide +kernel
theorem dL_law_626 : decode cL_law 626 = .ok (.invokevirtual 64, 3) := by decide +kernel
theorem dL_law_629 : decode cL_law 629 = .ok (.if_icmp .eq 374, 3) := by decide +kernel
theorem dL_law_632 : decode cL_law 632 = .ok (.iconst 0, 1) := by decide +kernel
theorem dL_law_633 : decode cL_law 633 = .ok (.ireturn, 1) := by decide +kernel
theorem dL_law_634 : decode cL_law 634 = .ok (.aload_n 1, 1) := by decide +kernel
theorem dL_law_635 : decode cL_law 635 = .ok (.aload_n 0, 1) := by decide +kernel
theorem dL_law_636 : decode cL_law 636 = .ok (.iload_n 3, 1) := by decide +kernel
theorem dL_law_637 : decode cL_law 637 = .ok (.iconst 1, 1) := by decide +kernel
theorem dL_law_638 : decode cL_law 638 = .ok (.iadd, 1) := by decide +kernel
theorem dL_law_639 : decode cL_law 639 = .ok (.iaload, 1) := by decide +kernel
theorem dL_law_640 : decode cL_law 640 = .ok (.invokevirtual 65, 3) := by decide +kernel
theorem dL_law_643 : decode cL_law 643 = .ok (.aload_n 2, 1) := by decide +kernel
theorem dL_law_644 : decode cL_law 644 = .ok (.aload_n 0, 1) := by decide +kernel
theorem dL_law_645 : decode cL_law 645 = .ok (.iload_n 3, 1) := by decide +kernel
theorem dL_law_646 : decode cL_law 646 = .ok (.iconst 1, 1) := by decide +kernel
theorem dL_law_647 : decode cL_law 647 = .ok (.iadd, 1) := by decide +kernel
theorem dL_law_648 : decode cL_law 648 = .ok (.iaload, 1) := by decide +kernel
theorem dL_law_649 : decode cL_law 649 = .ok (.invokevirtual 68, 3) := by decide +kernel
theorem dL_law_652 : decode cL_law 652 = .ok (.if_icmp .eq 351, 3) := by decide +kernel
theorem dL_law_655 : decode cL_law 655 = .ok (.iconst 0, 1) := by decide +kernel
theorem dL_law_656 : decode cL_law 656 = .ok (.ireturn, 1) := by decide +kernel
theorem dL_law_657 : decode cL_law 657 = .ok (.aload_n 1, 1) := by decide +kernel
theorem dL_law_658 : decode cL_law 658 = .ok (.aload_n 0, 1) := by decide +kernel
theorem dL_law_659 : decode cL_law 659 = .ok (.iload_n 3, 1) := by decide +kernel
theorem dL_law_660 : decode cL_law 660 = .ok (.iconst 1, 1) := by decide +kernel
theorem dL_law_661 : decode cL_law 661 = .ok (.iadd, 1) := by decide +kernel
theorem dL_law_662 : decode cL_law 662 = .ok (.iaload, 1) := by decide +kernel
theorem dL_law_663 : decode cL_law 663 = .ok (.aload_n 0, 1) := by decide +kernel
theorem dL_law_664 : decode cL_law 664 = .ok (.iload_n 3, 1) := by decide +kernel
theorem dL_law_665 : decode cL_law 665 = .ok (.iconst 2, 1) := by decide +kernel
theorem dL_law_666 : decode cL_law 666 = .ok (.iadd, 1) := by decide +kernel
theorem dL_law_667 : decode cL_law 667 = .ok (.iaload, 1) := by decide +kernel
theorem dL_law_668 : decode cL_law 668 = .ok (.aload_n 0, 1) := by decide +kernel
theorem dL_law_669 : decode cL_law 669 = .ok (.iload_n 3, 1) := by decide +kernel
theorem dL_law_670 : decode cL_law 670 = .ok (.iconst 3, 1) := by decide +kernel
theorem dL_law_671 : decode cL_law 671 = .ok (.iadd, 1) := by decide +kernel
theorem dL_law_672 : decode cL_law 672 = .ok (.iaload, 1) := by decide +kernel
theorem dL_law_673 : decode cL_law 673 = .ok (.aload_n 0, 1) := by decide +kernel
theorem dL_law_674 : decode cL_law 674 = .ok (.iload_n 3, 1) := by decide +kernel
theorem dL_law_675 : decode cL_law 675 = .ok (.iconst 4, 1) := by decide +kernel
theorem dL_law_676 : decode cL_law 676 = .ok (.iadd, 1) := by decide +kernel
theorem dL_law_677 : decode cL_law 677 = .ok (.iaload, 1) := by decide +kernel
theorem dL_law_678 : decode cL_law 678 = .ok (.invokevirtual 69, 3) := by decide +kernel
theorem dL_law_681 : decode cL_law 681 = .ok (.aload_n 2, 1) := by decide +kernel
theorem dL_law_682 : decode cL_law 682 = .ok (.aload_n 0, 1) := by decide +kernel
theorem dL_law_683 : decode cL_law 683 = .ok (.iload_n 3, 1) := by decide +kernel
theorem dL_law_684 : decode cL_law 684 = .ok (.iconst 1, 1) := by decide +kernel
theorem dL_law_685 : decode cL_law 685 = .ok (.iadd, 1) := by decide +kernel
theorem dL_law_686 : decode cL_law 686 = .ok (.iaload, 1) := by decide +kernel
theorem dL_law_687 : decode cL_law 687 = .ok (.aload_n 0, 1) := by decide +kernel
theorem dL_law_688 : decode cL_law 688 = .ok (.iload_n 3, 1) := by decide +kernel
theorem dL_law_689 : decode cL_law 689 = .ok (.iconst 2, 1) := by decide +kernel
theorem dL_law_690 : decode cL_law 690 = .ok (.iadd, 1) := by decide +kernel
theorem dL_law_691 : decode cL_law 691 = .ok (.iaload, 1) := by decide +kernel
theorem dL_law_692 : decode cL_law 692 = .ok (.aload_n 0, 1) := by decide +kernel
theorem dL_law_693 : decode cL_law 693 = .ok (.iload_n 3, 1) := by decide +kernel
theorem dL_law_694 : decode cL_law 694 = .ok (.iconst 3, 1) := by decide +kernel
theorem dL_law_695 : decode cL_law 695 = .ok (.iadd, 1) := by decide +kernel
theorem dL_law_696 : decode cL_law 696 = .ok (.iaload, 1) := by decide +kernel
theorem dL_law_697 : decode cL_law 697 = .ok (.aload_n 0, 1) := by decide +kernel
theorem dL_law_698 : decode cL_law 698 = .ok (.iload_n 3, 1) := by decide +kernel
theorem dL_law_699 : decode cL_law 699 = .ok (.iconst 4, 1) := by decide +kernel
theorem dL_law_700 : decode cL_law 700 = .ok (.iadd, 1) := by decide +kernel
theorem dL_law_701 : decode cL_law 701 = .ok (.iaload, 1) := by decide +kernel
theorem dL_law_702 : decode cL_law 702 = .ok (.invokevirtual 72, 3) := by decide +kernel
theorem dL_law_705 : decode cL_law 705 = .ok (.if_icmp .eq 298, 3) := by decide +kernel
theorem dL_law_708 : decode cL_law 708 = .ok (.iconst 0, 1) := by decide +kernel
theorem dL_law_709 : decode cL_law 709 = .ok (.ireturn, 1) := by decide +kernel
theorem dL_law_710 : decode cL_law 710 = .ok (.aload_n 1, 1) := by decide +kernel
theorem dL_law_711 : decode cL_law 711 = .ok (.aload_n 0, 1) := by decide +kernel
theorem dL_law_712 : decode cL_law 712 = .ok (.iload_n 3, 1) := by decide +kernel
theorem dL_law_713 : decode cL_law 713 = .ok (.iconst 1, 1) := by decide +kernel
theorem dL_law_714 : decode cL_law 714 = .ok (.iadd, 1) := by decide +kernel
theorem dL_law_715 : decode cL_law 715 = .ok (.iaload, 1) := by decide +kernel
theorem dL_law_716 : decode cL_law 716 = .ok (.aload_n 0, 1) := by decide +kernel
theorem dL_law_717 : decode cL_law 717 = .ok (.iload_n 3, 1) := by decide +kernel
theorem dL_law_718 : decode cL_law 718 = .ok (.iconst 2, 1) := by decide +kernel
theorem dL_law_719 : decode cL_law 719 = .ok (.iadd, 1) := by decide +kernel
theorem dL_law_720 : decode cL_law 720 = .ok (.iaload, 1) := by decide +kernel
theorem dL_law_721 : decode cL_law 721 = .ok (.aload_n 0, 1) := by decide +kernel
theorem dL_law_722 : decode cL_law 722 = .ok (.iload_n 3, 1) := by decide +kernel
theorem dL_law_723 : decode cL_law 723 = .ok (.iconst 3, 1) := by decide +kernel
theorem dL_law_724 : decode cL_law 724 = .ok (.iadd, 1) := by decide +kernel
theorem dL_law_725 : decode cL_law 725 = .ok (.iaload, 1) := by decide +kernel
theorem dL_law_726 : decode cL_law 726 = .ok (.invokevirtual 73, 3) := by decide +kernel
theorem dL_law_729 : decode cL_law 729 = .ok (.aload_n 2, 1) := by decide +kernel
theorem dL_law_730 : decode cL_law 730 = .ok (.aload_n 0, 1) := by decide +kernel
theorem dL_law_731 : decode cL_law 731 = .ok (.iload_n 3, 1) := by decide +kernel
theorem dL_law_732 : decode cL_law 732 = .ok (.iconst 1, 1) := by decide +kernel
theorem dL_law_733 : decode cL_law 733 = .ok (.iadd, 1) := by decide +kernel
theorem dL_law_734 : decode cL_law 734 = .ok (.iaload, 1) := by decide +kernel
theorem dL_law_735 : decode cL_law 735 = .ok (.aload_n 0, 1) := by decide +kernel
theorem dL_law_736 : decode cL_law 736 = .ok (.iload_n 3, 1) := by decide +kernel
theorem dL_law_737 : decode cL_law 737 = .ok (.iconst 2, 1) := by decide +kernel
theorem dL_law_738 : decode cL_law 738 = .ok (.iadd, 1) := by decide +kernel
theorem dL_law_739 : decode cL_law 739 = .ok (.iaload, 1) := by decide +kernel
theorem dL_law_740 : decode cL_law 740 = .ok (.aload_n 0, 1) := by decide +kernel
theorem dL_law_741 : decode cL_law 741 = .ok (.iload_n 3, 1) := by decide +kernel
theorem dL_law_742 : decode cL_law 742 = .ok (.iconst 3, 1) := by decide +kernel
theorem dL_law_743 : decode cL_law 743 = .ok (.iadd, 1) := by decide +kernel
theorem dL_law_744 : decode cL_law 744 = .ok (.iaload, 1) := by decide +kernel
theorem dL_law_745 : decode cL_law 745 = .ok (.invokevirtual 76, 3) := by decide +kernel
theorem dL_law_748 : decode cL_law 748 = .ok (.if_icmp .eq 255, 3) := by decide +kernel
theorem dL_law_751 : decode cL_law 751 = .ok (.iconst 0, 1) := by decide +kernel
theorem dL_law_752 : decode cL_law 752 = .ok (.ireturn, 1) := by decide +kernel
theorem dL_law_753 : decode cL_law 753 = .ok (.aload_n 1, 1) := by decide +kernel
theorem dL_law_754 : decode cL_law 754 = .ok (.aload_n 0, 1) := by decide +kernel
theorem dL_law_755 : decode cL_law 755 = .ok (.iload_n 3, 1) := by decide +kernel
theorem dL_law_756 : decode cL_law 756 = .ok (.iconst 1, 1) := by decide +kernel
theorem dL_law_757 : decode cL_law 757 = .ok (.iadd, 1) := by decide +kernel
theorem dL_law_758 : decode cL_law 758 = .ok (.iaload, 1) := by decide +kernel
theorem dL_law_759 : decode cL_law 759 = .ok (.aload_n 0, 1) := by decide +kernel
theorem dL_law_760 : decode cL_law 760 = .ok (.iload_n 3, 1) := by decide +kernel
theorem dL_law_761 : decode cL_law 761 = .ok (.iconst 2, 1) := by decide +kernel
theorem dL_law_762 : decode cL_law 762 = .ok (.iadd, 1) := by decide +kernel
theorem dL_law_763 : decode cL_law 763 = .ok (.iaload, 1) := by decide +kernel
theorem dL_law_764 : decode cL_law 764 = .ok (.invokevirtual 77, 3) := by decide +kernel
theorem dL_law_767 : decode cL_law 767 = .ok (.aload_n 2, 1) := by decide +kernel
theorem dL_law_768 : decode cL_law 768 = .ok (.aload_n 0, 1) := by decide +kernel
theorem dL_law_769 : decode cL_law 769 = .ok (.iload_n 3, 1) := by decide +kernel
theorem dL_law_770 : decode cL_law 770 = .ok (.iconst 1, 1) := by decide +kernel
theorem dL_law_771 : decode cL_law 771 = .ok (.iadd, 1) := by decide +kernel
theorem dL_law_772 : decode cL_law 772 = .ok (.iaload, 1) := by decide +kernel
theorem dL_law_773 : decode cL_law 773 = .ok (.aload_n 0, 1) := by decide +kernel
theorem dL_law_774 : decode cL_law 774 = .ok (.iload_n 3, 1) := by decide +kernel
theorem dL_law_775 : decode cL_law 775 = .ok (.iconst 2, 1) := by decide +kernel
theorem dL_law_776 : decode cL_law 776 = .ok (.iadd, 1) := by decide +kernel
theorem dL_law_777 : decode cL_law 777 = .ok (.iaload, 1) := by decide +kernel
theorem dL_law_778 : decode cL_law 778 = .ok (.invokevirtual 80, 3) := by decide +kernel
theorem dL_law_781 : decode cL_law 781 = .ok (.if_icmp .eq 222, 3) := by decide +kernel
theorem dL_law_784 : decode cL_law 784 = .ok (.iconst 0, 1) := by decide +kernel
theorem dL_law_785 : decode cL_law 785 = .ok (.ireturn, 1) := by decide +kernel
theorem dL_law_786 : decode cL_law 786 = .ok (.aload_n 1, 1) := by decide +kernel
theorem dL_law_787 : decode cL_law 787 = .ok (.aload_n 0, 1) := by decide +kernel
theorem dL_law_788 : decode cL_law 788 = .ok (.iload_n 3, 1) := by decide +kernel
theorem dL_law_789 : decode cL_law 789 = .ok (.iconst 1, 1) := by decide +kernel
theorem dL_law_790 : decode cL_law 790 = .ok (.iadd, 1) := by decide +kernel
theorem dL_law_791 : decode cL_law 791 = .ok (.iaload, 1) := by decide +kernel
theorem dL_law_792 : decode cL_law 792 = .ok (.invokevirtual 81, 3) := by decide +kernel
theorem dL_law_795 : decode cL_law 795 = .ok (.aload_n 2, 1) := by decide +kernel
theorem dL_law_796 : decode cL_law 796 = .ok (.aload_n 0, 1) := by decide +kernel
theorem dL_law_797 : decode cL_law 797 = .ok (.iload_n 3, 1) := by decide +kernel
theorem dL_law_798 : decode cL_law 798 = .ok (.iconst 1, 1) := by decide +kernel
theorem dL_law_799 : decode cL_law 799 = .ok (.iadd, 1) := by decide +kernel
theorem dL_law_800 : decode cL_law 800 = .ok (.iaload, 1) := by decide +kernel
theorem dL_law_801 : decode cL_law 801 = .ok (.invokevirtual 84, 3) := by decide +kernel
theorem dL_law_804 : decode cL_law 804 = .ok (.if_icmp .eq 199, 3) := by decide +kernel
theorem dL_law_807 : decode cL_law 807 = .ok (.iconst 0, 1) := by decide +kernel
theorem dL_law_808 : decode cL_law 808 = .ok (.ireturn, 1) := by decide +kernel
theorem dL_law_809 : decode cL_law 809 = .ok (.aload_n 1, 1) := by decide +kernel
theorem dL_law_810 : decode cL_law 810 = .ok (.aload_n 0, 1) := by decide +kernel
theorem dL_law_811 : decode cL_law 811 = .ok (.iload_n 3, 1) := by decide +kernel
theorem dL_law_812 : decode cL_law 812 = .ok (.iconst 1, 1) := by decide +kernel
theorem dL_law_813 : decode cL_law 813 = .ok (.iadd, 1) := by decide +kernel
theorem dL_law_814 : decode cL_law 814 = .ok (.iaload, 1) := by decide +kernel
theorem dL_law_815 : decode cL_law 815 = .ok (.aload_n 0, 1) := by decide +kernel
theorem dL_law_816 : decode cL_law 816 = .ok (.iload_n 3, 1) := by decide +kernel
theorem dL_law_817 : decode cL_law 817 = .ok (.iconst 2, 1) := by decide +kernel
theorem dL_law_818 : decode cL_law 818 = .ok (.iadd, 1) := by decide +kernel
theorem dL_law_819 : decode cL_law 819 = .ok (.iaload, 1) := by decide +kernel
theorem dL_law_820 : decode cL_law 820 = .ok (.aload_n 0, 1) := by decide +kernel
theorem dL_law_821 : decode cL_law 821 = .ok (.iload_n 3, 1) := by decide +kernel
theorem dL_law_822 : decode cL_law 822 = .ok (.iconst 3, 1) := by decide +kernel
theorem dL_law_823 : decode cL_law 823 = .ok (.iadd, 1) := by decide +kernel
theorem dL_law_824 : decode cL_law 824 = .ok (.iaload, 1) := by decide +kernel
theorem dL_law_825 : decode cL_law 825 = .ok (.invokevirtual 85, 3) := by decide +kernel
theorem dL_law_828 : decode cL_law 828 = .ok (.aload_n 2, 1) := by decide +kernel
theorem dL_law_829 : decode cL_law 829 = .ok (.aload_n 0, 1) := by decide +kernel
theorem dL_law_830 : decode cL_law 830 = .ok (.iload_n 3, 1) := by decide +kernel
theorem dL_law_831 : decode cL_law 831 = .ok (.iconst 1, 1) := by decide +kernel
theorem dL_law_832 : decode cL_law 832 = .ok (.iadd, 1) := by decide +kernel
theorem dL_law_833 : decode cL_law 833 = .ok (.iaload, 1) := by decide +kernel
theorem dL_law_834 : decode cL_law 834 = .ok (.aload_n 0, 1) := by decide +kernel
theorem dL_law_835 : decode cL_law 835 = .ok (.iload_n 3, 1) := by decide +kernel
theorem dL_law_836 : decode cL_law 836 = .ok (.iconst 2, 1) := by decide +kernel
theorem dL_law_837 : decode cL_law 837 = .ok (.iadd, 1) := by decide +kernel
theorem dL_law_838 : decode cL_law 838 = .ok (.iaload, 1) := by decide +kernel
theorem dL_law_839 : decode cL_law 839 = .ok (.aload_n 0, 1) := by decide +kernel
theorem dL_law_840 : decode cL_law 840 = .ok (.iload_n 3, 1) := by decide +kernel
theorem dL_law_841 : decode cL_law 841 = .ok (.iconst 3, 1) := by decide +kernel
theorem dL_law_842 : decode cL_law 842 = .ok (.iadd, 1) := by decide +kernel
theorem dL_law_843 : decode cL_law 843 = .ok (.iaload, 1) := by decide +kernel
theorem dL_law_844 : decode cL_law 844 = .ok (.invokevirtual 88, 3) := by decide +kernel
theorem dL_law_847 : decode cL_law 847 = .ok (.if_icmp .eq 156, 3) := by decide +kernel
theorem dL_law_850 : decode cL_law 850 = .ok (.iconst 0, 1) := by decide +kernel
theorem dL_law_851 : decode cL_law 851 = .ok (.ireturn, 1) := by decide +kernel
theorem dL_law_852 : decode cL_law 852 = .ok (.aload_n 1, 1) := by decide +kernel
theorem dL_law_853 : decode cL_law 853 = .ok (.aload_n 0, 1) := by decide +kernel
theorem dL_law_854 : decode cL_law 854 = .ok (.iload_n 3, 1) := by decide +kernel
theorem dL_law_855 : decode cL_law 855 = .ok (.iconst 1, 1) := by decide +kernel
theorem dL_law_856 : decode cL_law 856 = .ok (.iadd, 1) := by decide +kernel
theorem dL_law_857 : decode cL_law 857 = .ok (.iaload, 1) := by decide +kernel
theorem dL_law_858 : decode cL_law 858 = .ok (.i2l, 1) := by decide +kernel
theorem dL_law_859 : decode cL_law 859 = .ok (.bipush 32, 2) := by decide +kernel
theorem dL_law_861 : decode cL_law 861 = .ok (.lshl, 1) := by decide +kernel
theorem dL_law_862 : decode cL_law 862 = .ok (.aload_n 0, 1) := by decide +kernel
theorem dL_law_863 : decode cL_law 863 = .ok (.iload_n 3, 1) := by decide +kernel
theorem dL_law_864 : decode cL_law 864 = .ok (.iconst 2, 1) := by decide +kernel
theorem dL_law_865 : decode cL_law 865 = .ok (.iadd, 1) := by decide +kernel
theorem dL_law_866 : decode cL_law 866 = .ok (.iaload, 1) := by decide +kernel
theorem dL_law_867 : decode cL_law 867 = .ok (.i2l, 1) := by decide +kernel
theorem dL_law_868 : decode cL_law 868 = .ok (.ldc2_w 89, 3) := by decide +kernel
theorem dL_law_871 : decode cL_law 871 = .ok (.land, 1) := by decide +kernel
theorem dL_law_872 : decode cL_law 872 = .ok (.lor, 1) := by decide +kernel
theorem dL_law_873 : decode cL_law 873 = .ok (.invokevirtual 91, 3) := by decide +kernel
theorem dL_law_876 : decode cL_law 876 = .ok (.aload_n 2, 1) := by decide +kernel
theorem dL_law_877 : decode cL_law 877 = .ok (.aload_n 0, 1) := by decide +kernel
theorem dL_law_878 : decode cL_law 878 = .ok (.iload_n 3, 1) := by decide +kernel
theorem dL_law_879 : decode cL_law 879 = .ok (.iconst 1, 1) := by decide +kernel
theorem dL_law_880 : decode cL_law 880 = .ok (.iadd, 1) := by decide +kernel
theorem dL_law_881 : decode cL_law 881 = .ok (.iaload, 1) := by decide +kernel
theorem dL_law_882 : decode cL_law 882 = .ok (.i2l, 1) := by decide +kernel
theorem dL_law_883 : decode cL_law 883 = .ok (.bipush 32, 2) := by decide +kernel
theorem dL_law_885 : decode cL_law 885 = .ok (.lshl, 1) := by decide +kernel
theorem dL_law_886 : decode cL_law 886 = .ok (.aload_n 0, 1) := by decide +kernel
theorem dL_law_887 : decode cL_law 887 = .ok (.iload_n 3, 1) := by decide +kernel
theorem dL_law_888 : decode cL_law 888 = .ok (.iconst 2, 1) := by decide +kernel
theorem dL_law_889 : decode cL_law 889 = .ok (.iadd, 1) := by decide +kernel
theorem dL_law_890 : decode cL_law 890 = .ok (.iaload, 1) := by decide +kernel
theorem dL_law_891 : decode cL_law 891 = .ok (.i2l, 1) := by decide +kernel
theorem dL_law_892 : decode cL_law 892 = .ok (.ldc2_w 89, 3) := by decide +kernel
theorem dL_law_895 : decode cL_law 895 = .ok (.land, 1) := by decide +kernel
theorem dL_law_896 : decode cL_law 896 = .ok (.lor, 1) := by decide +kernel
theorem dL_law_897 : decode cL_law 897 = .ok (.invokevirtual 95, 3) := by decide +kernel
theorem dL_law_900 : decode cL_law 900 = .ok (.if_icmp .eq 103, 3) := by decide +kernel
theorem dL_law_903 : decode cL_law 903 = .ok (.iconst 0, 1) := by decide +kernel
theorem dL_law_904 : decode cL_law 904 = .ok (.ireturn, 1) := by decide +kernel
theorem dL_law_905 : decode cL_law 905 = .ok (.aload_n 1, 1) := by decide +kernel
theorem dL_law_906 : decode cL_law 906 = .ok (.invokevirtual 96, 3) := by decide +kernel
theorem dL_law_909 : decode cL_law 909 = .ok (.aload_n 2, 1) := by decide +kernel
theorem dL_law_910 : decode cL_law 910 = .ok (.invokevirtual 100, 3) := by decide +kernel
theorem dL_law_913 : decode cL_law 913 = .ok (.if_icmp .eq 90, 3) := by decide +kernel
theorem dL_law_916 : decode cL_law 916 = .ok (.iconst 0, 1) := by decide +kernel
theorem dL_law_917 : decode cL_law 917 = .ok (.ireturn, 1) := by decide +kernel
theorem dL_law_918 : decode cL_law 918 = .ok (.aload_n 1, 1) := by decide +kernel
theorem dL_law_919 : decode cL_law 919 = .ok (.invokevirtual 101, 3) := by decide +kernel
theorem dL_law_922 : decode cL_law 922 = .ok (.aload_n 2, 1) := by decide +kernel
theorem dL_law_923 : decode cL_law 923 = .ok (.invokevirtual 104, 3) := by decide +kernel
theorem dL_law_926 : decode cL_law 926 = .ok (.if_icmp .eq 77, 3) := by decide +kernel
theorem dL_law_929 : decode cL_law 929 = .ok (.iconst 0, 1) := by decide +kernel
theorem dL_law_930 : decode cL_law 930 = .ok (.ireturn, 1) := by decide +kernel
theorem dL_law_931 : decode cL_law 931 = .ok (.aload_n 1, 1) := by decide +kernel
theorem dL_law_932 : decode cL_law 932 = .ok (.invokevirtual 105, 3) := by decide +kernel
theorem dL_law_935 : decode cL_law 935 = .ok (.aload_n 2, 1) := by decide +kernel
theorem dL_law_936 : decode cL_law 936 = .ok (.invokevirtual 108, 3) := by decide +kernel
theorem dL_law_939 : decode cL_law 939 = .ok (.if_icmp .eq 64, 3) := by decide +kernel
theorem dL_law_942 : decode cL_law 942 = .ok (.iconst 0, 1) := by decide +kernel
theorem dL_law_943 : decode cL_law 943 = .ok (.ireturn, 1) := by decide +kernel
theorem dL_law_944 : decode cL_law 944 = .ok (.aload_n 1, 1) := by decide +kernel
theorem dL_law_945 : decode cL_law 945 = .ok (.invokevirtual 109, 3) := by decide +kernel
theorem dL_law_948 : decode cL_law 948 = .ok (.aload_n 2, 1) := by decide +kernel
theorem dL_law_949 : decode cL_law 949 = .ok (.invokevirtual 112, 3) := by decide +kernel
theorem dL_law_952 : decode cL_law 952 = .ok (.if_icmp .eq 51, 3) := by decide +kernel
theorem dL_law_955 : decode cL_law 955 = .ok (.iconst 0, 1) := by decide +kernel
theorem dL_law_956 : decode cL_law 956 = .ok (.ireturn, 1) := by decide +kernel
theorem dL_law_957 : decode cL_law 957 = .ok (.aload_n 1, 1) := by decide +kernel
theorem dL_law_958 : decode cL_law 958 = .ok (.aload_n 0, 1) := by decide +kernel
theorem dL_law_959 : decode cL_law 959 = .ok (.iload_n 3, 1) := by decide +kernel
theorem dL_law_960 : decode cL_law 960 = .ok (.iconst 1, 1) := by decide +kernel
theorem dL_law_961 : decode cL_law 961 = .ok (.iadd, 1) := by decide +kernel
theorem dL_law_962 : decode cL_law 962 = .ok (.iaload, 1) := by decide +kernel
theorem dL_law_963 : decode cL_law 963 = .ok (.invokevirtual 113, 3) := by decide +kernel
theorem dL_law_966 : decode cL_law 966 = .ok (.aload_n 2, 1) := by decide +kernel
theorem dL_law_967 : decode cL_law 967 = .ok (.aload_n 0, 1) := by decide +kernel
theorem dL_law_968 : decode cL_law 968 = .ok (.iload_n 3, 1) := by decide +kernel
theorem dL_law_969 : decode cL_law 969 = .ok (.iconst 1, 1) := by decide +kernel
theorem dL_law_970 : decode cL_law 970 = .ok (.iadd, 1) := by decide +kernel
theorem dL_law_971 : decode cL_law 971 = .ok (.iaload, 1) := by decide +kernel
theorem dL_law_972 : decode cL_law 972 = .ok (.invokevirtual 116, 3) := by decide +kernel
theorem dL_law_975 : decode cL_law 975 = .ok (.if_icmp .eq 28, 3) := by decide +kernel
theorem dL_law_978 : decode cL_law 978 = .ok (.iconst 0, 1) := by decide +kernel
theorem dL_law_979 : decode cL_law 979 = .ok (.ireturn, 1) := by decide +kernel
theorem dL_law_980 : decode cL_law 980 = .ok (.aload_n 1, 1) := by decide +kernel
theorem dL_law_981 : decode cL_law 981 = .ok (.aload_n 0, 1) := by decide +kernel
theorem dL_law_982 : decode cL_law 982 = .ok (.iload_n 3, 1) := by decide +kernel
theorem dL_law_983 : decode cL_law 983 = .ok (.iconst 1, 1) := by decide +kernel
theorem dL_law_984 : decode cL_law 984 = .ok (.iadd, 1) := by decide +kernel
theorem dL_law_985 : decode cL_law 985 = .ok (.iaload, 1) := by decide +kernel
theorem dL_law_986 : decode cL_law 986 = .ok (.invokevirtual 117, 3) := by decide +kernel
theorem dL_law_989 : decode cL_law 989 = .ok (.aload_n 2, 1) := by decide +kernel
theorem dL_law_990 : decode cL_law 990 = .ok (.aload_n 0, 1) := by decide +kernel
theorem dL_law_991 : decode cL_law 991 = .ok (.iload_n 3, 1) := by decide +kernel
theorem dL_law_992 : decode cL_law 992 = .ok (.iconst 1, 1) := by decide +kernel
theorem dL_law_993 : decode cL_law 993 = .ok (.iadd, 1) := by decide +kernel
theorem dL_law_994 : decode cL_law 994 = .ok (.iaload, 1) := by decide +kernel
theorem dL_law_995 : decode cL_law 995 = .ok (.invokevirtual 120, 3) := by decide +kernel
theorem dL_law_998 : decode cL_law 998 = .ok (.if_icmp .eq 5, 3) := by decide +kernel
theorem dL_law_1001 : decode cL_law 1001 = .ok (.iconst 0, 1) := by decide +kernel
theorem dL_law_1002 : decode cL_law 1002 = .ok (.ireturn, 1) := by decide +kernel
theorem dL_law_1003 : decode cL_law 1003 = .ok (.iinc 3 5, 3) := by decide +kernel
theorem dL_law_1006 : decode cL_law 1006 = .ok (.goto (-988), 3) := by decide +kernel
theorem dL_law_1009 : decode cL_law 1009 = .ok (.iconst 1, 1) := by decide +kernel
theorem dL_law_1010 : decode cL_law 1010 = .ok (.ireturn, 1) := by decide +kernel
