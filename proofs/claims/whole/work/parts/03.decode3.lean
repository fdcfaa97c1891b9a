theorem dX7_told_72 : decode cX7_told 72 = .ok (.getfield 156, 3) := by decide +kernel
theorem dX7_told_75 : decode cX7_told 75 = .ok (.ireturn, 1) := by decide +kernel
theorem dX7_told_76 : decode cX7_told 76 = .ok (.aload_n 0, 1) := by decide +kernel
theorem dX7_told_77 : decode cX7_told 77 = .ok (.getfield 34, 3) := by decide +kernel
theorem dX7_told_80 : decode cX7_told 80 = .ok (.getfield 159, 3) := by decide +kernel
theorem dX7_told_83 : decode cX7_told 83 = .ok (.ireturn, 1) := by decide +kernel
theorem dX7_told_84 : decode cX7_told 84 = .ok (.aload_n 0, 1) := by decide +kernel
theorem dX7_told_85 : decode cX7_told 85 = .ok (.getfield 34, 3) := by decide +kernel
theorem dX7_told_88 : decode cX7_told 88 = .ok (.getfield 162, 3) := by decide +kernel
theorem dX7_told_91 : decode cX7_told 91 = .ok (.ireturn, 1) := by decide +kernel
theorem dX7_told_92 : decode cX7_told 92 = .ok (.aload_n 0, 1) := by decide +kernel
theorem dX7_told_93 : decode cX7_told 93 = .ok (.getfield 34, 3) := by decide +kernel
theorem dX7_told_96 : decode cX7_told 96 = .ok (.getfield 165, 3) := by decide +kernel
theorem dX7_told_99 : decode cX7_told 99 = .ok (.ireturn, 1) := by decide +kernel
theorem dX7_told_100 : decode cX7_told 100 = .ok (.aload_n 0, 1) := by decide +kernel
theorem dX7_told_101 : decode cX7_told 101 = .ok (.getfield 34, 3) := by decide +kernel
theorem dX7_told_104 : decode cX7_told 104 = .ok (.getfield 168, 3) := by decide +kernel
theorem dX7_told_107 : decode cX7_told 107 = .ok (.ireturn, 1) := by decide +kernel
theorem dX7_told_108 : decode cX7_told 108 = .ok (.aload_n 0, 1) := by decide +kernel
theorem dX7_told_109 : decode cX7_told 109 = .ok (.getfield 42, 3) := by decide +kernel
theorem dX7_told_112 : decode cX7_told 112 = .ok (.invokevirtual 171, 3) := by decide +kernel
theorem dX7_told_115 : decode cX7_told 115 = .ok (.ireturn, 1) := by decide +kernel
theorem dX7_told_116 : decode cX7_told 116 = .ok (.aload_n 0, 1) := by decide +kernel
theorem dX7_told_117 : decode cX7_told 117 = .ok (.getfield 42, 3) := by decide +kernel
theorem dX7_told_120 : decode cX7_told 120 = .ok (.getfield 174, 3) := by decide +kernel
theorem dX7_told_123 : decode cX7_told 123 = .ok (.ireturn, 1) := by decide +kernel
theorem dX7_told_124 : decode cX7_told 124 = .ok (.aload_n 0, 1) := by decide +kernel
theorem dX7_told_125 : decode cX7_told 125 = .ok (.getfield 42, 3) := by decide +kernel
theorem dX7_told_128 : decode cX7_told 128 = .ok (.getfield 177, 3) := by decide +kernel
theorem dX7_told_131 : decode cX7_told 131 = .ok (.ireturn, 1) := by decide +kernel
theorem dX7_told_132 : decode cX7_told 132 = .ok (.iconst (-1), 1) := by decide +kernel
theorem dX7_told_133 : decode cX7_told 133 = .ok (.ireturn, 1) := by decide +kernel
theorem dX7_run_0 : decode cX7_run 0 = .ok (.aload_n 0, 1) := by decide +kernel
theorem dX7_run_1 : decode cX7_run 1 = .ok (.getfield 34, 3) := by decide +kernel
theorem dX7_run_4 : decode cX7_run 4 = .ok (.iload_n 1, 1) := by decide +kernel
theorem dX7_run_5 : decode cX7_run 5 = .ok (.invokevirtual 180, 3) := by decide +kernel
theorem dX7_run_8 : decode cX7_run 8 = .ok (.ireturn, 1) := by decide +kernel
theorem dX7_isFile_0 : decode cX7_isFile 0 = .ok (.iload_n 0, 1) := by decide +kernel
theorem dX7_isFile_1 : decode cX7_isFile 1 = .ok (.ifCond .lt 13, 3) := by decide +kernel
theorem dX7_isFile_4 : decode cX7_isFile 4 = .ok (.iload_n 0, 1) := by decide +kernel
theorem dX7_isFile_5 : decode cX7_isFile 5 = .ok (.bipush 6, 2) := by decide +kernel
theorem dX7_isFile_7 : decode cX7_isFile 7 = .ok (.if_icmp .ge 7, 3) := by decide +kernel
theorem dX7_isFile_10 : decode cX7_isFile 10 = .ok (.iconst 1, 1) := by decide +kernel
theorem dX7_isFile_11 : decode cX7_isFile 11 = .ok (.goto 4, 3) := by decide +kernel
theorem dX7_isFile_14 : decode cX7_isFile 14 = .ok (.iconst 0, 1) := by decide +kernel
theorem dX7_isFile_15 : decode cX7_isFile 15 = .ok (.ireturn, 1) := by decide +kernel
theorem dX7_isBudget_0 : decode cX7_isBudget 0 = .ok (.iload_n 0, 1) := by decide +kernel
theorem dX7_isBudget_1 : decode cX7_isBudget 1 = .ok (.iconst 3, 1) := by decide +kernel
theorem dX7_isBudget_2 : decode cX7_isBudget 2 = .ok (.if_icmp .lt 13, 3) := by decide +kernel
theorem dX7_isBudget_5 : decode cX7_isBudget 5 = .ok (.iload_n 0, 1) := by decide +kernel
theorem dX7_isBudget_6 : decode cX7_isBudget 6 = .ok (.bipush 16, 2) := by decide +kernel
theorem dX7_isBudget_8 : decode cX7_isBudget 8 = .ok (.if_icmp .gt 7, 3) := by decide +kernel
theorem dX7_isBudget_11 : decode cX7_isBudget 11 = .ok (.iconst 1, 1) := by decide +kernel
theorem dX7_isBudget_12 : decode cX7_isBudget 12 = .ok (.goto 4, 3) := by decide +kernel
theorem dX7_isBudget_15 : decode cX7_isBudget 15 = .ok (.iconst 0, 1) := by decide +kernel
theorem dX7_isBudget_16 : decode cX7_isBudget 16 = .ok (.ireturn, 1) := by decide +kernel
theorem dX7_isMode_0 : decode cX7_isMode 0 = .ok (.iload_n 0, 1) := by decide +kernel
theorem dX7_isMode_1 : decode cX7_isMode 1 = .ok (.ifCond .lt 12, 3) := by decide +kernel
theorem dX7_isMode_4 : decode cX7_isMode 4 = .ok (.iload_n 0, 1) := by decide +kernel
theorem dX7_isMode_5 : decode cX7_isMode 5 = .ok (.iconst 2, 1) := by decide +kernel
theorem dX7_isMode_6 : decode cX7_isMode 6 = .ok (.if_icmp .gt 7, 3) := by decide +kernel
theorem dX7_isMode_9 : decode cX7_isMode 9 = .ok (.iconst 1, 1) := by decide +kernel
theorem dX7_isMode_10 : decode cX7_isMode 10 = .ok (.goto 4, 3) := by decide +kernel
theorem dX7_isMode_13 : decode cX7_isMode 13 = .ok (.iconst 0, 1) := by decide +kernel
theorem dX7_isMode_14 : decode cX7_isMode 14 = .ok (.ireturn, 1) := by decide +kernel
theorem dX7_hasRecord_0 : decode cX7_hasRecord 0 = .ok (.iload_n 1, 1) := by decide +kernel
theorem dX7_hasRecord_1 : decode cX7_hasRecord 1 = .ok (.invokestatic 71, 3) := by decide +kernel
theorem dX7_hasRecord_4 : decode cX7_hasRecord 4 = .ok (.ifCond .eq 21, 3) := by decide +kernel
theorem dX7_hasRecord_7 : decode cX7_hasRecord 7 = .ok (.iload_n 2, 1) := by decide +kernel
theorem dX7_hasRecord_8 : decode cX7_hasRecord 8 = .ok (.ifCond .lt 17, 3) := by decide +kernel
theorem dX7_hasRecord_11 : decode cX7_hasRecord 11 = .ok (.iload_n 2, 1) := by decide +kernel
theorem dX7_hasRecord_12 : decode cX7_hasRecord 12 = .ok (.aload_n 0, 1) := by decide +kernel
theorem dX7_hasRecord_13 : decode cX7_hasRecord 13 = .ok (.getfield 13, 3) := by decide +kernel
theorem dX7_hasRecord_16 : decode cX7_hasRecord 16 = .ok (.iload_n 1, 1) := by decide +kernel
theorem dX7_hasRecord_17 : decode cX7_hasRecord 17 = .ok (.iaload, 1) := by decide +kernel
theorem dX7_hasRecord_18 : decode cX7_hasRecord 18 = .ok (.if_icmp .ge 7, 3) := by decide +kernel
theorem dX7_hasRecord_21 : decode cX7_hasRecord 21 = .ok (.iconst 1, 1) := by decide +kernel
theorem dX7_hasRecord_22 : decode cX7_hasRecord 22 = .ok (.goto 4, 3) := by decide +kernel
theorem dX7_hasRecord_25 : decode cX7_hasRecord 25 = .ok (.iconst 0, 1) := by decide +kernel
theorem dX7_hasRecord_26 : decode cX7_hasRecord 26 = .ok (.ireturn, 1) := by decide +kernel
theorem dX7_addPage_0 : decode cX7_addPage 0 = .ok (.aload_n 0, 1) := by decide +kernel
theorem dX7_addPage_1 : decode cX7_addPage 1 = .ok (.getfield 42, 3) := by decide +kernel
theorem dX7_addPage_4 : decode cX7_addPage 4 = .ok (.iload_n 1, 1) := by decide +kernel
theorem dX7_addPage_5 : decode cX7_addPage 5 = .ok (.invokevirtual 183, 3) := by decide +kernel
theorem dX7_addPage_8 : decode cX7_addPage 8 = .ok (.istore_n 2, 1) := by decide +kernel
theorem dX7_addPage_9 : decode cX7_addPage 9 = .ok (.iload_n 2, 1) := by decide +kernel
theorem dX7_addPage_10 : decode cX7_addPage 10 = .ok (.iconst (-1), 1) := by decide +kernel
theorem dX7_addPage_11 : decode cX7_addPage 11 = .ok (.if_icmp .ne 5, 3) := by decide +kernel
theorem dX7_addPage_14 : decode cX7_addPage 14 = .ok (.iconst (-1), 1) := by decide +kernel
theorem dX7_addPage_15 : decode cX7_addPage 15 = .ok (.ireturn, 1) := by decide +kernel
theorem dX7_addPage_16 : decode cX7_addPage 16 = .ok (.aload_n 0, 1) := by decide +kernel
theorem dX7_addPage_17 : decode cX7_addPage 17 = .ok (.getfield 13, 3) := by decide +kernel
theorem dX7_addPage_20 : decode cX7_addPage 20 = .ok (.iload_n 1, 1) := by decide +kernel
theorem dX7_addPage_21 : decode cX7_addPage 21 = .ok (.iaload, 1) := by decide +kernel
theorem dX7_addPage_22 : decode cX7_addPage 22 = .ok (.ifCond .ne 13, 3) := by decide +kernel
theorem dX7_addPage_25 : decode cX7_addPage 25 = .ok (.aload_n 0, 1) := by decide +kernel
theorem dX7_addPage_26 : decode cX7_addPage 26 = .ok (.getfield 9, 3) := by decide +kernel
theorem dX7_addPage_29 : decode cX7_addPage 29 = .ok (.iload_n 1, 1) := by decide +kernel
theorem dX7_addPage_30 : decode cX7_addPage 30 = .ok (.iload_n 2, 1) := by decide +kernel
theorem dX7_addPage_31 : decode cX7_addPage 31 = .ok (.iastore, 1) := by decide +kernel
theorem dX7_addPage_32 : decode cX7_addPage 32 = .ok (.goto 32, 3) := by decide +kernel
theorem dX7_addPage_35 : decode cX7_addPage 35 = .ok (.aload_n 0, 1) := by decide +kernel
theorem dX7_addPage_36 : decode cX7_addPage 36 = .ok (.getfield 42, 3) := by decide +kernel
theorem dX7_addPage_39 : decode cX7_addPage 39 = .ok (.aload_n 0, 1) := by decide +kernel
theorem dX7_addPage_40 : decode cX7_addPage 40 = .ok (.getfield 42, 3) := by decide +kernel
theorem dX7_addPage_43 : decode cX7_addPage 43 = .ok (.aload_n 0, 1) := by decide +kernel
theorem dX7_addPage_44 : decode cX7_addPage 44 = .ok (.getfield 9, 3) := by decide +kernel
theorem dX7_addPage_47 : decode cX7_addPage 47 = .ok (.iload_n 1, 1) := by decide +kernel
theorem dX7_addPage_48 : decode cX7_addPage 48 = .ok (.iaload, 1) := by decide +kernel
theorem dX7_addPage_49 : decode cX7_addPage 49 = .ok (.aload_n 0, 1) := by decide +kernel
theorem dX7_addPage_50 : decode cX7_addPage 50 = .ok (.getfield 13, 3) := by decide +kernel
theorem dX7_addPage_53 : decode cX7_addPage 53 = .ok (.iload_n 1, 1) := by decide +kernel
theorem dX7_addPage_54 : decode cX7_addPage 54 = .ok (.iaload, 1) := by decide +kernel
theorem dX7_addPage_55 : decode cX7_addPage 55 = .ok (.iconst 1, 1) := by decide +kernel
theorem dX7_addPage_56 : decode cX7_addPage 56 = .ok (.isub, 1) := by decide +kernel
theorem dX7_addPage_57 : decode cX7_addPage 57 = .ok (.invokevirtual 82, 3) := by decide +kernel
theorem dX7_addPage_60 : decode cX7_addPage 60 = .ok (.iload_n 2, 1) := by decide +kernel
theorem dX7_addPage_61 : decode cX7_addPage 61 = .ok (.invokevirtual 186, 3) := by decide +kernel
theorem dX7_addPage_64 : decode cX7_addPage 64 = .ok (.iload_n 2, 1) := by decide +kernel
theorem dX7_addPage_65 : decode cX7_addPage 65 = .ok (.ireturn, 1) := by decide +kernel
theorem dX7_begin_0 : decode cX7_begin 0 = .ok (.aload_n 0, 1) := by decide +kernel
theorem dX7_begin_1 : decode cX7_begin 1 = .ok (.getfield 30, 3) := by decide +kernel
theorem dX7_begin_4 : decode cX7_begin 4 = .ok (.aload_n 0, 1) := by decide +kernel
theorem dX7_begin_5 : decode cX7_begin 5 = .ok (.getfield 42, 3) := by decide +kernel
theorem dX7_begin_8 : decode cX7_begin 8 = .ok (.invokevirtual 190, 3) := by decide +kernel
theorem dX7_begin_11 : decode cX7_begin 11 = .ok (.invokevirtual 193, 3) := by decide +kernel
theorem dX7_begin_14 : decode cX7_begin 14 = .ok (.aload_n 0, 1) := by decide +kernel
theorem dX7_begin_15 : decode cX7_begin 15 = .ok (.getfield 60, 3) := by decide +kernel
theorem dX7_begin_18 : decode cX7_begin 18 = .ok (.iload_n 1, 1) := by decide +kernel
theorem dX7_begin_19 : decode cX7_begin 19 = .ok (.iload_n 2, 1) := by decide +kernel
theorem dX7_begin_20 : decode cX7_begin 20 = .ok (.iload_n 3, 1) := by decide +kernel
theorem dX7_begin_21 : decode cX7_begin 21 = .ok (.invokevirtual 195, 3) := by decide +kernel
theorem dX7_begin_24 : decode cX7_begin 24 = .ok (.return_, 1) := by decide +kernel
theorem dX7_settleSorted_0 : decode cX7_settleSorted 0 = .ok (.iload_n 2, 1) := by decide +kernel
theorem dX7_settleSorted_1 : decode cX7_settleSorted 1 = .ok (.ifCond .eq 25, 3) := by decide +kernel
theorem dX7_settleSorted_4 : decode cX7_settleSorted 4 = .ok (.aload_n 0, 1) := by decide +kernel
theorem dX7_settleSorted_5 : decode cX7_settleSorted 5 = .ok (.iload_n 1, 1) := by decide +kernel
theorem dX7_settleSorted_6 : decode cX7_settleSorted 6 = .ok (.aload_n 0, 1) := by decide +kernel
theorem dX7_settleSorted_7 : decode cX7_settleSorted 7 = .ok (.getfield 60, 3) := by decide +kernel
theorem dX7_settleSorted_10 : decode cX7_settleSorted 10 = .ok (.getfield 113, 3) := by decide +kernel
theorem dX7_settleSorted_13 : decode cX7_settleSorted 13 = .ok (.aload_n 0, 1) := by decide +kernel
theorem dX7_settleSorted_14 : decode cX7_settleSorted 14 = .ok (.getfield 60, 3) := by decide +kernel
theorem dX7_settleSorted_17 : decode cX7_settleSorted 17 = .ok (.getfield 117, 3) := by decide +kernel
theorem dX7_settleSorted_20 : decode cX7_settleSorted 20 = .ok (.invokevirtual 143, 3) := by decide +kernel
theorem dX7_settleSorted_23 : decode cX7_settleSorted 23 = .ok (.goto 9, 3) := by decide +kernel
theorem dX7_settleSorted_26 : decode cX7_settleSorted 26 = .ok (.aload_n 0, 1) := by decide +kernel
theorem dX7_settleSorted_27 : decode cX7_settleSorted 27 = .ok (.bipush (-2), 2) := by decide +kernel
theorem dX7_settleSorted_29 : decode cX7_settleSorted 29 = .ok (.invokevirtual 110, 3) := by decide +kernel
theorem dX7_settleSorted_32 : decode cX7_settleSorted 32 = .ok (.ireturn, 1) := by decide +kernel
theorem dX7_settle_0 : decode cX7_settle 0 = .ok (.aload_n 0, 1) := by decide +kernel
theorem dX7_settle_1 : decode cX7_settle 1 = .ok (.getfield 42, 3) := by decide +kernel
theorem dX7_settle_4 : decode cX7_settle 4 = .ok (.iload_n 1, 1) := by decide +kernel
theorem dX7_settle_5 : decode cX7_settle 5 = .ok (.invokevirtual 89, 3) := by decide +kernel
theorem dX7_settle_8 : decode cX7_settle 8 = .ok (.pop, 1) := by decide +kernel
theorem dX7_settle_9 : decode cX7_settle 9 = .ok (.aload_n 0, 1) := by decide +kernel
theorem dX7_settle_10 : decode cX7_settle 10 = .ok (.getfield 42, 3) := by decide +kernel
theorem dX7_settle_13 : decode cX7_settle 13 = .ok (.bipush 6, 2) := by decide +kernel
theorem dX7_settle_15 : decode cX7_settle 15 = .ok (.iload_n 1, 1) := by decide +kernel
theorem dX7_settle_16 : decode cX7_settle 16 = .ok (.invokevirtual 198, 3) := by decide +kernel
theorem dX7_settle_19 : decode cX7_settle 19 = .ok (.aload_n 0, 1) := by decide +kernel
theorem dX7_settle_20 : decode cX7_settle 20 = .ok (.getfield 9, 3) := by decide +kernel
theorem dX7_settle_23 : decode cX7_settle 23 = .ok (.iload_n 1, 1) := by decide +kernel
theorem dX7_settle_24 : decode cX7_settle 24 = .ok (.iload_n 2, 1) := by decide +kernel
theorem dX7_settle_25 : decode cX7_settle 25 = .ok (.iastore, 1) := by decide +kernel
theorem dX7_settle_26 : decode cX7_settle 26 = .ok (.aload_n 0, 1) := by decide +kernel
theorem dX7_settle_27 : decode cX7_settle 27 = .ok (.getfield 13, 3) := by decide +kernel
theorem dX7_settle_30 : decode cX7_settle 30 = .ok (.iload_n 1, 1) := by decide +kernel
theorem dX7_settle_31 : decode cX7_settle 31 = .ok (.iload_n 3, 1) := by decide +kernel
theorem dX7_settle_32 : decode cX7_settle 32 = .ok (.iastore, 1) := by decide +kernel
theorem dX7_settle_33 : decode cX7_settle 33 = .ok (.aload_n 0, 1) := by decide +kernel
theorem dX7_settle_34 : decode cX7_settle 34 = .ok (.getfield 34, 3) := by decide +kernel
theorem dX7_settle_37 : decode cX7_settle 37 = .ok (.aload_n 0, 1) := by decide +kernel
theorem dX7_settle_38 : decode cX7_settle 38 = .ok (.getfield 30, 3) := by decide +kernel
theorem dX7_settle_41 : decode cX7_settle 41 = .ok (.invokevirtual 201, 3) := by decide +kernel
theorem dX7_settle_44 : decode cX7_settle 44 = .ok (.iload_n 3, 1) := by decide +kernel
theorem dX7_settle_45 : decode cX7_settle 45 = .ok (.ireturn, 1) := by decide +kernel
theorem dX7_giveUp_0 : decode cX7_giveUp 0 = .ok (.aload_n 0, 1) := by decide +kernel
theorem dX7_giveUp_1 : decode cX7_giveUp 1 = .ok (.getfield 42, 3) := by decide +kernel
theorem dX7_giveUp_4 : decode cX7_giveUp 4 = .ok (.bipush 6, 2) := by decide +kernel
theorem dX7_giveUp_6 : decode cX7_giveUp 6 = .ok (.invokevirtual 89, 3) := by decide +kernel
theorem dX7_giveUp_9 : decode cX7_giveUp 9 = .ok (.pop, 1) := by decide +kernel
theorem dX7_giveUp_10 : decode cX7_giveUp 10 = .ok (.iload_n 1, 1) := by decide +kernel
theorem dX7_giveUp_11 : decode cX7_giveUp 11 = .ok (.ireturn, 1) := by decide +kernel
theorem dX7_inOrder_0 : decode cX7_inOrder 0 = .ok (.iload_n 1, 1) := by decide +kernel
theorem dX7_inOrder_1 : decode cX7_inOrder 1 = .ok (.iload_n 3, 1) := by decide +kernel
theorem dX7_inOrder_2 : decode cX7_inOrder 2 = .ok (.if_icmp .eq 36, 3) := by decide +kernel
theorem dX7_inOrder_5 : decode cX7_inOrder 5 = .ok (.iload_n 1, 1) := by decide +kernel
theorem dX7_inOrder_6 : decode cX7_inOrder 6 = .ok (.iload_n 3, 1) := by decide +kernel
theorem dX7_inOrder_7 : decode cX7_inOrder 7 = .ok (.if_icmp .ge 7, 3) := by decide +kernel
theorem dX7_inOrder_10 : decode cX7_inOrder 10 = .ok (.iconst 1, 1) := by decide +kernel
theorem dX7_inOrder_11 : decode cX7_inOrder 11 = .ok (.goto 4, 3) := by decide +kernel
theorem dX7_inOrder_14 : decode cX7_inOrder 14 = .ok (.iconst 0, 1) := by decide +kernel
theorem dX7_inOrder_15 : decode cX7_inOrder 15 = .ok (.istore 5, 2) := by decide +kernel
theorem dX7_inOrder_17 : decode cX7_inOrder 17 = .ok (.iload 5, 2) := by decide +kernel
theorem dX7_inOrder_19 : decode cX7_inOrder 19 = .ok (.iload_n 0, 1) := by decide +kernel
theorem dX7_inOrder_20 : decode cX7_inOrder 20 = .ok (.iconst 2, 1) := by decide +kernel
theorem dX7_inOrder_21 : decode cX7_inOrder 21 = .ok (.if_icmp .eq 7, 3) := by decide +kernel
theorem dX7_inOrder_24 : decode cX7_inOrder 24 = .ok (.iconst 1, 1) := by decide +kernel
theorem dX7_inOrder_25 : decode cX7_inOrder 25 = .ok (.goto 4, 3) := by decide +kernel
theorem dX7_inOrder_28 : decode cX7_inOrder 28 = .ok (.iconst 0, 1) := by decide +kernel
theorem dX7_inOrder_29 : decode cX7_inOrder 29 = .ok (.if_icmp .ne 7, 3) := by decide +kernel
theorem dX7_inOrder_32 : decode cX7_inOrder 32 = .ok (.iconst (-1), 1) := by decide +kernel
theorem dX7_inOrder_33 : decode cX7_inOrder 33 = .ok (.goto 4, 3) := by decide +kernel
theorem dX7_inOrder_36 : decode cX7_inOrder 36 = .ok (.iconst 1, 1) := by decide +kernel
theorem dX7_inOrder_37 : decode cX7_inOrder 37 = .ok (.ireturn, 1) := by decide +kernel
theorem dX7_inOrder_38 : decode cX7_inOrder 38 = .ok (.iload_n 0, 1) := by decide +kernel
theorem dX7_inOrder_39 : decode cX7_inOrder 39 = .ok (.iconst 1, 1) := by decide +kernel
theorem dX7_inOrder_40 : decode cX7_inOrder 40 = .ok (.if_icmp .ne 21, 3) := by decide +kernel
theorem dX7_inOrder_43 : decode cX7_inOrder 43 = .ok (.iload_n 2, 1) := by decide +kernel
theorem dX7_inOrder_44 : decode cX7_inOrder 44 = .ok (.iload 4, 2) := by decide +kernel
theorem dX7_inOrder_46 : decode cX7_inOrder 46 = .ok (.if_icmp .eq 15, 3) := by decide +kernel
theorem dX7_inOrder_49 : decode cX7_inOrder 49 = .ok (.iload_n 2, 1) := by decide +kernel
theorem dX7_inOrder_50 : decode cX7_inOrder 50 = .ok (.iload 4, 2) := by decide +kernel
theorem dX7_inOrder_52 : decode cX7_inOrder 52 = .ok (.if_icmp .ge 7, 3) := by decide +kernel
theorem dX7_inOrder_55 : decode cX7_inOrder 55 = .ok (.iconst (-1), 1) := by decide +kernel
theorem dX7_inOrder_56 : decode cX7_inOrder 56 = .ok (.goto 4, 3) := by decide +kernel
theorem dX7_inOrder_59 : decode cX7_inOrder 59 = .ok (.iconst 1, 1) := by decide +kernel
theorem dX7_inOrder_60 : decode cX7_inOrder 60 = .ok (.ireturn, 1) := by decide +kernel
theorem dX7_inOrder_61 : decode cX7_inOrder 61 = .ok (.iconst 0, 1) := by decide +kernel
theorem dX7_inOrder_62 : decode cX7_inOrder 62 = .ok (.ireturn, 1) := by decide +kernel
theorem dX8_within_0 : decode cX8_within 0 = .ok (.iload_n 0, 1) := by decide +kernel
theorem dX8_within_1 : decode cX8_within 1 = .ok (.iload_n 1, 1) := by decide +kernel
theorem dX8_within_2 : decode cX8_within 2 = .ok (.if_icmp .ge 7, 3) := by decide +kernel
theorem dX8_within_5 : decode cX8_within 5 = .ok (.iload_n 1, 1) := by decide +kernel
theorem dX8_within_6 : decode cX8_within 6 = .ok (.goto 13, 3) := by decide +kernel
theorem dX8_within_9 : decode cX8_within 9 = .ok (.iload_n 0, 1) := by decide +kernel
theorem dX8_within_10 : decode cX8_within 10 = .ok (.iload_n 2, 1) := by decide +kernel
theorem dX8_within_11 : decode cX8_within 11 = .ok (.if_icmp .le 7, 3) := by decide +kernel
theorem dX8_within_14 : decode cX8_within 14 = .ok (.iload_n 2, 1) := by decide +kernel
theorem dX8_within_15 : decode cX8_within 15 = .ok (.goto 4, 3) := by decide +kernel
theorem dX8_within_18 : decode cX8_within 18 = .ok (.iload_n 0, 1) := by decide +kernel
theorem dX8_within_19 : decode cX8_within 19 = .ok (.ireturn, 1) := by decide +kernel
theorem dX8_init_0 : decode cX8_init 0 = .ok (.aload_n 0, 1) := by decide +kernel
theorem dX8_init_1 : decode cX8_init 1 = .ok (.invokespecial 1, 3) := by decide +kernel
theorem dX8_init_4 : decode cX8_init 4 = .ok (.aload_n 0, 1) := by decide +kernel
theorem dX8_init_5 : decode cX8_init 5 = .ok (.ldc 7, 2) := by decide +kernel
theorem dX8_init_7 : decode cX8_init 7 = .ok (.newarray .int, 2) := by decide +kernel
theorem dX8_init_9 : decode cX8_init 9 = .ok (.putfield 8, 3) := by decide +kernel
theorem dX8_init_12 : decode cX8_init 12 = .ok (.aload_n 0, 1) := by decide +kernel
theorem dX8_init_13 : decode cX8_init 13 = .ok (.ldc 7, 2) := by decide +kernel
theorem dX8_init_15 : decode cX8_init 15 = .ok (.newarray .int, 2) := by decide +kernel
theorem dX8_init_17 : decode cX8_init 17 = .ok (.putfield 14, 3) := by decide +kernel
theorem dX8_init_20 : decode cX8_init 20 = .ok (.aload_n 0, 1) := by decide +kernel
theorem dX8_init_21 : decode cX8_init 21 = .ok (.bipush 6, 2) := by decide +kernel
theorem dX8_init_23 : decode cX8_init 23 = .ok (.newarray .int, 2) := by decide +kernel
theorem dX8_init_25 : decode cX8_init 25 = .ok (.putfield 17, 3) := by decide +kernel
theorem dX8_init_28 : decode cX8_init 28 = .ok (.aload_n 0, 1) := by decide +kernel
theorem dX8_init_29 : decode cX8_init 29 = .ok (.sipush 16384, 3) := by decide +kernel
theorem dX8_init_32 : decode cX8_init 32 = .ok (.newarray .int, 2) := by decide +kernel
theorem dX8_init_34 : decode cX8_init 34 = .ok (.putfield 20, 3) := by decide +kernel
theorem dX8_init_37 : decode cX8_init 37 = .ok (.aload_n 0, 1) := by decide +kernel
theorem dX8_init_38 : decode cX8_init 38 = .ok (.sipush 16384, 3) := by decide +kernel
theorem dX8_init_41 : decode cX8_init 41 = .ok (.newarray .int, 2) := by decide +kernel
theorem dX8_init_43 : decode cX8_init 43 = .ok (.putfield 23, 3) := by decide +kernel
theorem dX8_init_46 : decode cX8_init 46 = .ok (.aload_n 0, 1) := by decide +kernel
theorem dX8_init_47 : decode cX8_init 47 = .ok (.sipush 8200, 3) := by decide +kernel
theorem dX8_init_50 : decode cX8_init 50 = .ok (.newarray .int, 2) := by decide +kernel
theorem dX8_init_52 : decode cX8_init 52 = .ok (.putfield 26, 3) := by decide +kernel
theorem dX8_init_55 : decode cX8_init 55 = .ok (.aload_n 0, 1) := by decide +kernel
theorem dX8_init_56 : decode cX8_init 56 = .ok (.sipush 16400, 3) := by decide +kernel
theorem dX8_init_59 : decode cX8_init 59 = .ok (.newarray .int, 2) := by decide +kernel
theorem dX8_init_61 : decode cX8_init 61 = .ok (.putfield 29, 3) := by decide +kernel
theorem dX8_init_64 : decode cX8_init 64 = .ok (.aload_n 0, 1) := by decide +kernel
theorem dX8_init_65 : decode cX8_init 65 = .ok (.sipush 224, 3) := by decide +kernel
theorem dX8_init_68 : decode cX8_init 68 = .ok (.newarray .int, 2) := by decide +kernel
theorem dX8_init_70 : decode cX8_init 70 = .ok (.putfield 32, 3) := by decide +kernel
theorem dX8_init_73 : decode cX8_init 73 = .ok (.aload_n 0, 1) := by decide +kernel
theorem dX8_init_74 : decode cX8_init 74 = .ok (.sipush 224, 3) := by decide +kernel
theorem dX8_init_77 : decode cX8_init 77 = .ok (.newarray .int, 2) := by decide +kernel
theorem dX8_init_79 : decode cX8_init 79 = .ok (.putfield 35, 3) := by decide +kernel
theorem dX8_init_82 : decode cX8_init 82 = .ok (.aload_n 0, 1) := by decide +kernel
theorem dX8_init_83 : decode cX8_init 83 = .ok (.sipush 224, 3) := by decide +kernel
theorem dX8_init_86 : decode cX8_init 86 = .ok (.newarray .int, 2) := by decide +kernel
theorem dX8_init_88 : decode cX8_init 88 = .ok (.putfield 38, 3) := by decide +kernel
theorem dX8_init_91 : decode cX8_init 91 = .ok (.aload_n 0, 1) := by decide +kernel
theorem dX8_init_92 : decode cX8_init 92 = .ok (.sipush 224, 3) := by decide +kernel
theorem dX8_init_95 : decode cX8_init 95 = .ok (.newarray .boolean, 2) := by decide +kernel
theorem dX8_init_97 : decode cX8_init 97 = .ok (.putfield 41, 3) := by decide +kernel
theorem dX8_init_100 : decode cX8_init 100 = .ok (.aload_n 0, 1) := by decide +kernel
theorem dX8_init_101 : decode cX8_init 101 = .ok (.bipush 6, 2) := by decide +kernel
theorem dX8_init_103 : decode cX8_init 103 = .ok (.newarray .int, 2) := by decide +kernel
theorem dX8_init_105 : decode cX8_init 105 = .ok (.putfield 45, 3) := by decide +kernel
theorem dX8_init_108 : decode cX8_init 108 = .ok (.aload_n 0, 1) := by decide +kernel
theorem dX8_init_109 : decode cX8_init 109 = .ok (.sipush 16400, 3) := by decide +kernel
theorem dX8_init_112 : decode cX8_init 112 = .ok (.newarray .int, 2) := by decide +kernel
theorem dX8_init_114 : decode cX8_init 114 = .ok (.putfield 48, 3) := by decide +kernel
theorem dX8_init_117 : decode cX8_init 117 = .ok (.aload_n 0, 1) := by decide +kernel
theorem dX8_init_118 : decode cX8_init 118 = .ok (.sipush 8200, 3) := by decide +kernel
theorem dX8_init_121 : decode cX8_init 121 = .ok (.newarray .int, 2) := by decide +kernel
theorem dX8_init_123 : decode cX8_init 123 = .ok (.putfield 51, 3) := by decide +kernel
theorem dX8_init_126 : decode cX8_init 126 = .ok (.aload_n 0, 1) := by decide +kernel
theorem dX8_init_127 : decode cX8_init 127 = .ok (.bipush 16, 2) := by decide +kernel
theorem dX8_init_129 : decode cX8_init 129 = .ok (.newarray .int, 2) := by decide +kernel
theorem dX8_init_131 : decode cX8_init 131 = .ok (.putfield 54, 3) := by decide +kernel
theorem dX8_init_134 : decode cX8_init 134 = .ok (.aload_n 0, 1) := by decide +kernel
theorem dX8_init_135 : decode cX8_init 135 = .ok (.bipush 16, 2) := by decide +kernel
theorem dX8_init_137 : decode cX8_init 137 = .ok (.newarray .int, 2) := by decide +kernel
theorem dX8_init_139 : decode cX8_init 139 = .ok (.putfield 57, 3) := by decide +kernel
theorem dX8_init_142 : decode cX8_init 142 = .ok (.aload_n 0, 1) := by decide +kernel
theorem dX8_init_143 : decode cX8_init 143 = .ok (.sipush 8192, 3) := by decide +kernel
theorem dX8_init_146 : decode cX8_init 146 = .ok (.newarray .int, 2) := by decide +kernel
theorem dX8_init_148 : decode cX8_init 148 = .ok (.putfield 60, 3) := by decide +kernel
theorem dX8_init_151 : decode cX8_init 151 = .ok (.aload_n 0, 1) := by decide +kernel
theorem dX8_init_152 : decode cX8_init 152 = .ok (.sipush 8192, 3) := by decide +kernel
theorem dX8_init_155 : decode cX8_init 155 = .ok (.newarray .int, 2) := by decide +kernel
theorem dX8_init_157 : decode cX8_init 157 = .ok (.putfield 63, 3) := by decide +kernel
theorem dX8_init_160 : decode cX8_init 160 = .ok (.aload_n 0, 1) := by decide +kernel
theorem dX8_init_161 : decode cX8_init 161 = .ok (.sipush 8192, 3) := by decide +kernel
theorem dX8_init_164 : decode cX8_init 164 = .ok (.newarray .int, 2) := by decide +kernel
theorem dX8_init_166 : decode cX8_init 166 = .ok (.putfield 66, 3) := by decide +kernel
theorem dX8_init_169 : decode cX8_init 169 = .ok (.aload_n 0, 1) := by decide +kernel
theorem dX8_init_170 : decode cX8_init 170 = .ok (.sipush 8192, 3) := by decide +kernel
theorem dX8_init_173 : decode cX8_init 173 = .ok (.newarray .int, 2) := by decide +kernel
theorem dX8_init_175 : decode cX8_init 175 = .ok (.putfield 69, 3) := by decide +kernel
theorem dX8_init_178 : decode cX8_init 178 = .ok (.aload_n 0, 1) := by decide +kernel
theorem dX8_init_179 : decode cX8_init 179 = .ok (.iload_n 1, 1) := by decide +kernel
theorem dX8_init_180 : decode cX8_init 180 = .ok (.iconst 1, 1) := by decide +kernel
theorem dX8_init_181 : decode cX8_init 181 = .ok (.sipush 512, 3) := by decide +kernel
theorem dX8_init_184 : decode cX8_init 184 = .ok (.invokestatic 72, 3) := by decide +kernel
theorem dX8_init_187 : decode cX8_init 187 = .ok (.putfield 76, 3) := by decide +kernel
theorem dX8_init_190 : decode cX8_init 190 = .ok (.aload_n 0, 1) := by decide +kernel
theorem dX8_init_191 : decode cX8_init 191 = .ok (.iload_n 2, 1) := by decide +kernel
theorem dX8_init_192 : decode cX8_init 192 = .ok (.iconst 1, 1) := by decide +kernel
theorem dX8_init_193 : decode cX8_init 193 = .ok (.bipush 16, 2) := by decide +kernel
theorem dX8_init_195 : decode cX8_init 195 = .ok (.invokestatic 72, 3) := by decide +kernel
theorem dX8_init_198 : decode cX8_init 198 = .ok (.putfield 80, 3) := by decide +kernel
theorem dX8_init_201 : decode cX8_init 201 = .ok (.return_, 1) := by decide +kernel
theorem dX8_in_0 : decode cX8_in 0 = .ok (.iload_n 0, 1) := by decide +kernel
theorem dX8_in_1 : decode cX8_in 1 = .ok (.iload_n 1, 1) := by decide +kernel
theorem dX8_in_2 : decode cX8_in 2 = .ok (.if_icmp .lt 12, 3) := by decide +kernel
theorem dX8_in_5 : decode cX8_in 5 = .ok (.iload_n 0, 1) := by decide +kernel
theorem dX8_in_6 : decode cX8_in 6 = .ok (.iload_n 2, 1) := by decide +kernel
theorem dX8_in_7 : decode cX8_in 7 = .ok (.if_icmp .gt 7, 3) := by decide +kernel
theorem dX8_in_10 : decode cX8_in 10 = .ok (.iconst 1, 1) := by decide +kernel
theorem dX8_in_11 : decode cX8_in 11 = .ok (.goto 4, 3) := by decide +kernel
theorem dX8_in_14 : decode cX8_in 14 = .ok (.iconst 0, 1) := by decide +kernel
theorem dX8_in_15 : decode cX8_in 15 = .ok (.ireturn, 1) := by decide +kernel
theorem dX8_isFile_0 : decode cX8_isFile 0 = .ok (.iload_n 0, 1) := by decide +kernel
theorem dX8_isFile_1 : decode cX8_isFile 1 = .ok (.iconst 0, 1) := by decide +kernel
theorem dX8_isFile_2 : decode cX8_isFile 2 = .ok (.iconst 5, 1) := by decide +kernel
theorem dX8_isFile_3 : decode cX8_isFile 3 = .ok (.invokestatic 83, 3) := by decide +kernel
theorem dX8_isFile_6 : decode cX8_isFile 6 = .ok (.ireturn, 1) := by decide +kernel
theorem dX8_pagesOf_0 : decode cX8_pagesOf 0 = .ok (.iload_n 1, 1) := by decide +kernel
theorem dX8_pagesOf_1 : decode cX8_pagesOf 1 = .ok (.aload_n 0, 1) := by decide +kernel
theorem dX8_pagesOf_2 : decode cX8_pagesOf 2 = .ok (.getfield 80, 3) := by decide +kernel
theorem dX8_pagesOf_5 : decode cX8_pagesOf 5 = .ok (.iadd, 1) := by decide +kernel
theorem dX8_pagesOf_6 : decode cX8_pagesOf 6 = .ok (.iconst 1, 1) := by decide +kernel
theorem dX8_pagesOf_7 : decode cX8_pagesOf 7 = .ok (.isub, 1) := by decide +kernel
theorem dX8_pagesOf_8 : decode cX8_pagesOf 8 = .ok (.aload_n 0, 1) := by decide +kernel
theorem dX8_pagesOf_9 : decode cX8_pagesOf 9 = .ok (.getfield 80, 3) := by decide +kernel
theorem dX8_pagesOf_12 : decode cX8_pagesOf 12 = .ok (.idiv, 1) := by decide +kernel
theorem dX8_pagesOf_13 : decode cX8_pagesOf 13 = .ok (.ireturn, 1) := by decide +kernel
theorem dX8_append_0 : decode cX8_append 0 = .ok (.iload_n 1, 1) := by decide +kernel
theorem dX8_append_1 : decode cX8_append 1 = .ok (.invokestatic 87, 3) := by decide +kernel
theorem dX8_append_4 : decode cX8_append 4 = .ok (.ifCond .eq 28, 3) := by decide +kernel
theorem dX8_append_7 : decode cX8_append 7 = .ok (.aload_n 0, 1) := by decide +kernel
theorem dX8_append_8 : decode cX8_append 8 = .ok (.getfield 17, 3) := by decide +kernel
theorem dX8_append_11 : decode cX8_append 11 = .ok (.iload_n 1, 1) := by decide +kernel
theorem dX8_append_12 : decode cX8_append 12 = .ok (.iaload, 1) := by decide +kernel
theorem dX8_append_13 : decode cX8_append 13 = .ok (.aload_n 0, 1) := by decide +kernel
theorem dX8_append_14 : decode cX8_append 14 = .ok (.getfield 80, 3) := by decide +kernel
theorem dX8_append_17 : decode cX8_append 17 = .ok (.irem, 1) := by decide +kernel
theorem dX8_append_18 : decode cX8_append 18 = .ok (.ifCond .ne 16, 3) := by decide +kernel
theorem dX8_append_21 : decode cX8_append 21 = .ok (.aload_n 0, 1) := by decide +kernel
theorem dX8_append_22 : decode cX8_append 22 = .ok (.getfield 91, 3) := by decide +kernel
theorem dX8_append_25 : decode cX8_append 25 = .ok (.aload_n 0, 1) := by decide +kernel
theorem dX8_append_26 : decode cX8_append 26 = .ok (.getfield 76, 3) := by decide +kernel
theorem dX8_append_29 : decode cX8_append 29 = .ok (.if_icmp .ne 5, 3) := by decide +kernel
theorem dX8_append_32 : decode cX8_append 32 = .ok (.iconst (-1), 1) := by decide +kernel
theorem dX8_append_33 : decode cX8_append 33 = .ok (.ireturn, 1) := by decide +kernel
theorem dX8_append_34 : decode cX8_append 34 = .ok (.aload_n 0, 1) := by decide +kernel
theorem dX8_append_35 : decode cX8_append 35 = .ok (.dup, 1) := by decide +kernel
theorem dX8_append_36 : decode cX8_append 36 = .ok (.getfield 91, 3) := by decide +kernel
theorem dX8_append_39 : decode cX8_append 39 = .ok (.aload_n 0, 1) := by decide +kernel
theorem dX8_append_40 : decode cX8_append 40 = .ok (.getfield 17, 3) := by decide +kernel
theorem dX8_append_43 : decode cX8_append 43 = .ok (.iload_n 1, 1) := by decide +kernel
theorem dX8_append_44 : decode cX8_append 44 = .ok (.iaload, 1) := by decide +kernel
theorem dX8_append_45 : decode cX8_append 45 = .ok (.aload_n 0, 1) := by decide +kernel
theorem dX8_append_46 : decode cX8_append 46 = .ok (.getfield 80, 3) := by decide +kernel
theorem dX8_append_49 : decode cX8_append 49 = .ok (.irem, 1) := by decide +kernel
theorem dX8_append_50 : decode cX8_append 50 = .ok (.ifCond .ne 7, 3) := by decide +kernel
theorem dX8_append_53 : decode cX8_append 53 = .ok (.iconst 1, 1) := by decide +kernel
theorem dX8_append_54 : decode cX8_append 54 = .ok (.goto 4, 3) := by decide +kernel
theorem dX8_append_57 : decode cX8_append 57 = .ok (.iconst 0, 1) := by decide +kernel
theorem dX8_append_58 : decode cX8_append 58 = .ok (.iadd, 1) := by decide +kernel
theorem dX8_append_59 : decode cX8_append 59 = .ok (.putfield 91, 3) := by decide +kernel
theorem dX8_append_62 : decode cX8_append 62 = .ok (.aload_n 0, 1) := by decide +kernel
theorem dX8_append_63 : decode cX8_append 63 = .ok (.getfield 8, 3) := by decide +kernel
theorem dX8_append_66 : decode cX8_append 66 = .ok (.sipush 8192, 3) := by decide +kernel
theorem dX8_append_69 : decode cX8_append 69 = .ok (.iload_n 1, 1) := by decide +kernel
theorem dX8_append_70 : decode cX8_append 70 = .ok (.imul, 1) := by decide +kernel
theorem dX8_append_71 : decode cX8_append 71 = .ok (.aload_n 0, 1) := by decide +kernel
theorem dX8_append_72 : decode cX8_append 72 = .ok (.getfield 17, 3) := by decide +kernel
theorem dX8_append_75 : decode cX8_append 75 = .ok (.iload_n 1, 1) := by decide +kernel
theorem dX8_append_76 : decode cX8_append 76 = .ok (.iaload, 1) := by decide +kernel
theorem dX8_append_77 : decode cX8_append 77 = .ok (.iadd, 1) := by decide +kernel
theorem dX8_append_78 : decode cX8_append 78 = .ok (.iload_n 2, 1) := by decide +kernel
theorem dX8_append_79 : decode cX8_append 79 = .ok (.iastore, 1) := by decide +kernel
theorem dX8_append_80 : decode cX8_append 80 = .ok (.aload_n 0, 1) := by decide +kernel
theorem dX8_append_81 : decode cX8_append 81 = .ok (.getfield 14, 3) := by decide +kernel
theorem dX8_append_84 : decode cX8_append 84 = .ok (.sipush 8192, 3) := by decide +kernel
theorem dX8_append_87 : decode cX8_append 87 = .ok (.iload_n 1, 1) := by decide +kernel
theorem dX8_append_88 : decode cX8_append 88 = .ok (.imul, 1) := by decide +kernel
theorem dX8_append_89 : decode cX8_append 89 = .ok (.aload_n 0, 1) := by decide +kernel
theorem dX8_append_90 : decode cX8_append 90 = .ok (.getfield 17, 3) := by decide +kernel
theorem dX8_append_93 : decode cX8_append 93 = .ok (.iload_n 1, 1) := by decide +kernel
theorem dX8_append_94 : decode cX8_append 94 = .ok (.iaload, 1) := by decide +kernel
theorem dX8_append_95 : decode cX8_append 95 = .ok (.iadd, 1) := by decide +kernel
theorem dX8_append_96 : decode cX8_append 96 = .ok (.iload_n 3, 1) := by decide +kernel
theorem dX8_append_97 : decode cX8_append 97 = .ok (.iastore, 1) := by decide +kernel
theorem dX8_append_98 : decode cX8_append 98 = .ok (.aload_n 0, 1) := by decide +kernel
theorem dX8_append_99 : decode cX8_append 99 = .ok (.getfield 17, 3) := by decide +kernel
theorem dX8_append_102 : decode cX8_append 102 = .ok (.iload_n 1, 1) := by decide +kernel
theorem dX8_append_103 : decode cX8_append 103 = .ok (.dup2, 1) := by decide +kernel
theorem dX8_append_104 : decode cX8_append 104 = .ok (.iaload, 1) := by decide +kernel
theorem dX8_append_105 : decode cX8_append 105 = .ok (.iconst 1, 1) := by decide +kernel
theorem dX8_append_106 : decode cX8_append 106 = .ok (.iadd, 1) := by decide +kernel
theorem dX8_append_107 : decode cX8_append 107 = .ok (.iastore, 1) := by decide +kernel
theorem dX8_append_108 : decode cX8_append 108 = .ok (.aload_n 0, 1) := by decide +kernel
theorem dX8_append_109 : decode cX8_append 109 = .ok (.getfield 17, 3) := by decide +kernel
theorem dX8_append_112 : decode cX8_append 112 = .ok (.iload_n 1, 1) := by decide +kernel
theorem dX8_append_113 : decode cX8_append 113 = .ok (.iaload, 1) := by decide +kernel
theorem dX8_append_114 : decode cX8_append 114 = .ok (.ireturn, 1) := by decide +kernel
theorem dX8_drop_0 : decode cX8_drop 0 = .ok (.iload_n 1, 1) := by decide +kernel
theorem dX8_drop_1 : decode cX8_drop 1 = .ok (.invokestatic 87, 3) := by decide +kernel
theorem dX8_drop_4 : decode cX8_drop 4 = .ok (.ifCond .ne 5, 3) := by decide +kernel
theorem dX8_drop_7 : decode cX8_drop 7 = .ok (.iconst (-1), 1) := by decide +kernel
theorem dX8_drop_8 : decode cX8_drop 8 = .ok (.ireturn, 1) := by decide +kernel
theorem dX8_drop_9 : decode cX8_drop 9 = .ok (.aload_n 0, 1) := by decide +kernel
theorem dX8_drop_10 : decode cX8_drop 10 = .ok (.aload_n 0, 1) := by decide +kernel
theorem dX8_drop_11 : decode cX8_drop 11 = .ok (.getfield 17, 3) := by decide +kernel
theorem dX8_drop_14 : decode cX8_drop 14 = .ok (.iload_n 1, 1) := by decide +kernel
theorem dX8_drop_15 : decode cX8_drop 15 = .ok (.iaload, 1) := by decide +kernel
theorem dX8_drop_16 : decode cX8_drop 16 = .ok (.invokevirtual 94, 3) := by decide +kernel
theorem dX8_drop_19 : decode cX8_drop 19 = .ok (.istore_n 2, 1) := by decide +kernel
theorem dX8_drop_20 : decode cX8_drop 20 = .ok (.aload_n 0, 1) := by decide +kernel
theorem dX8_drop_21 : decode cX8_drop 21 = .ok (.getfield 17, 3) := by decide +kernel
theorem dX8_drop_24 : decode cX8_drop 24 = .ok (.iload_n 1, 1) := by decide +kernel
theorem dX8_drop_25 : decode cX8_drop 25 = .ok (.iconst 0, 1) := by decide +kernel
theorem dX8_drop_26 : decode cX8_drop 26 = .ok (.iastore, 1) := by decide +kernel
theorem dX8_drop_27 : decode cX8_drop 27 = .ok (.aload_n 0, 1) := by decide +kernel
theorem dX8_drop_28 : decode cX8_drop 28 = .ok (.dup, 1) := by decide +kernel
theorem dX8_drop_29 : decode cX8_drop 29 = .ok (.getfield 91, 3) := by decide +kernel
theorem dX8_drop_32 : decode cX8_drop 32 = .ok (.iload_n 2, 1) := by decide +kernel
theorem dX8_drop_33 : decode cX8_drop 33 = .ok (.isub, 1) := by decide +kernel
theorem dX8_drop_34 : decode cX8_drop 34 = .ok (.putfield 91, 3) := by decide +kernel
theorem dX8_drop_37 : decode cX8_drop 37 = .ok (.iload_n 2, 1) := by decide +kernel
theorem dX8_drop_38 : decode cX8_drop 38 = .ok (.ireturn, 1) := by decide +kernel
theorem dX8_isAhead_0 : decode cX8_isAhead 0 = .ok (.iload_n 1, 1) := by decide +kernel
theorem dX8_isAhead_1 : decode cX8_isAhead 1 = .ok (.iload_n 3, 1) := by decide +kernel
theorem dX8_isAhead_2 : decode cX8_isAhead 2 = .ok (.if_icmp .eq 35, 3) := by decide +kernel
theorem dX8_isAhead_5 : decode cX8_isAhead 5 = .ok (.aload_n 0, 1) := by decide +kernel
theorem dX8_isAhead_6 : decode cX8_isAhead 6 = .ok (.getfield 98, 3) := by decide +kernel
theorem dX8_isAhead_9 : decode cX8_isAhead 9 = .ok (.iconst 2, 1) := by decide +kernel
theorem dX8_isAhead_10 : decode cX8_isAhead 10 = .ok (.if_icmp .ne 16, 3) := by decide +kernel
theorem dX8_isAhead_13 : decode cX8_isAhead 13 = .ok (.iload_n 1, 1) := by decide +kernel
theorem dX8_isAhead_14 : decode cX8_isAhead 14 = .ok (.iload_n 3, 1) := by decide +kernel
theorem dX8_isAhead_15 : decode cX8_isAhead 15 = .ok (.if_icmp .le 7, 3) := by decide +kernel
theorem dX8_isAhead_18 : decode cX8_isAhead 18 = .ok (.iconst 1, 1) := by decide +kernel
theorem dX8_isAhead_19 : decode cX8_isAhead 19 = .ok (.goto 17, 3) := by decide +kernel
theorem dX8_isAhead_22 : decode cX8_isAhead 22 = .ok (.iconst 0, 1) := by decide +kernel
theorem dX8_isAhead_23 : decode cX8_isAhead 23 = .ok (.goto 13, 3) := by decide +kernel
theorem dX8_isAhead_26 : decode cX8_isAhead 26 = .ok (.iload_n 1, 1) := by decide +kernel
theorem dX8_isAhead_27 : decode cX8_isAhead 27 = .ok (.iload_n 3, 1) := by decide +kernel
theorem dX8_isAhead_28 : decode cX8_isAhead 28 = .ok (.if_icmp .ge 7, 3) := by decide +kernel
theorem dX8_isAhead_31 : decode cX8_isAhead 31 = .ok (.iconst 1, 1) := by decide +kernel
theorem dX8_isAhead_32 : decode cX8_isAhead 32 = .ok (.goto 4, 3) := by decide +kernel
theorem dX8_isAhead_35 : decode cX8_isAhead 35 = .ok (.iconst 0, 1) := by decide +kernel
theorem dX8_isAhead_36 : decode cX8_isAhead 36 = .ok (.ireturn, 1) := by decide +kernel
theorem dX8_isAhead_37 : decode cX8_isAhead 37 = .ok (.aload_n 0, 1) := by decide +kernel
theorem dX8_isAhead_38 : decode cX8_isAhead 38 = .ok (.getfield 98, 3) := by decide +kernel
theorem dX8_isAhead_41 : decode cX8_isAhead 41 = .ok (.iconst 1, 1) := by decide +kernel
theorem dX8_isAhead_42 : decode cX8_isAhead 42 = .ok (.if_icmp .ne 13, 3) := by decide +kernel
theorem dX8_isAhead_45 : decode cX8_isAhead 45 = .ok (.iload_n 2, 1) := by decide +kernel
theorem dX8_isAhead_46 : decode cX8_isAhead 46 = .ok (.iload 4, 2) := by decide +kernel
theorem dX8_isAhead_48 : decode cX8_isAhead 48 = .ok (.if_icmp .ge 7, 3) := by decide +kernel
theorem dX8_isAhead_51 : decode cX8_isAhead 51 = .ok (.iconst 1, 1) := by decide +kernel
theorem dX8_isAhead_52 : decode cX8_isAhead 52 = .ok (.goto 4, 3) := by decide +kernel
theorem dX8_isAhead_55 : decode cX8_isAhead 55 = .ok (.iconst 0, 1) := by decide +kernel
theorem dX8_isAhead_56 : decode cX8_isAhead 56 = .ok (.ireturn, 1) := by decide +kernel
theorem dX8_writes_0 : decode cX8_writes 0 = .ok (.aload_n 0, 1) := by decide +kernel
theorem dX8_writes_1 : decode cX8_writes 1 = .ok (.getfield 91, 3) := by decide +kernel
theorem dX8_writes_4 : decode cX8_writes 4 = .ok (.aload_n 0, 1) := by decide +kernel
theorem dX8_writes_5 : decode cX8_writes 5 = .ok (.getfield 76, 3) := by decide +kernel
theorem dX8_writes_8 : decode cX8_writes 8 = .ok (.if_icmp .ne 9, 3) := by decide +kernel
theorem dX8_writes_11 : decode cX8_writes 11 = .ok (.aload_n 0, 1) := by decide +kernel
theorem dX8_writes_12 : decode cX8_writes 12 = .ok (.iconst 1, 1) := by decide +kernel
theorem dX8_writes_13 : decode cX8_writes 13 = .ok (.putfield 101, 3) := by decide +kernel
theorem dX8_writes_16 : decode cX8_writes 16 = .ok (.return_, 1) := by decide +kernel
theorem dX8_writes_17 : decode cX8_writes 17 = .ok (.aload_n 0, 1) := by decide +kernel
theorem dX8_writes_18 : decode cX8_writes 18 = .ok (.dup, 1) := by decide +kernel
theorem dX8_writes_19 : decode cX8_writes 19 = .ok (.getfield 91, 3) := by decide +kernel
theorem dX8_writes_22 : decode cX8_writes 22 = .ok (.iconst 1, 1) := by decide +kernel
theorem dX8_writes_23 : decode cX8_writes 23 = .ok (.iadd, 1) := by decide +kernel
theorem dX8_writes_24 : decode cX8_writes 24 = .ok (.putfield 91, 3) := by decide +kernel
theorem dX8_writes_27 : decode cX8_writes 27 = .ok (.aload_n 0, 1) := by decide +kernel
theorem dX8_writes_28 : decode cX8_writes 28 = .ok (.dup, 1) := by decide +kernel
theorem dX8_writes_29 : decode cX8_writes 29 = .ok (.getfield 105, 3) := by decide +kernel
theorem dX8_writes_32 : decode cX8_writes 32 = .ok (.iconst 1, 1) := by decide +kernel
theorem dX8_writes_33 : decode cX8_writes 33 = .ok (.iadd, 1) := by decide +kernel
theorem dX8_writes_34 : decode cX8_writes 34 = .ok (.putfield 105, 3) := by decide +kernel
theorem dX8_writes_37 : decode cX8_writes 37 = .ok (.aload_n 0, 1) := by decide +kernel
theorem dX8_writes_38 : decode cX8_writes 38 = .ok (.aload_n 0, 1) := by decide +kernel
theorem dX8_writes_39 : decode cX8_writes 39 = .ok (.getfield 91, 3) := by decide +kernel
theorem dX8_writes_42 : decode cX8_writes 42 = .ok (.aload_n 0, 1) := by decide +kernel
theorem dX8_writes_43 : decode cX8_writes 43 = .ok (.getfield 108, 3) := by decide +kernel
theorem dX8_writes_46 : decode cX8_writes 46 = .ok (.if_icmp .le 10, 3) := by decide +kernel
theorem dX8_writes_49 : decode cX8_writes 49 = .ok (.aload_n 0, 1) := by decide +kernel
theorem dX8_writes_50 : decode cX8_writes 50 = .ok (.getfield 91, 3) := by decide +kernel
theorem dX8_writes_53 : decode cX8_writes 53 = .ok (.goto 7, 3) := by decide +kernel
theorem dX8_writes_56 : decode cX8_writes 56 = .ok (.aload_n 0, 1) := by decide +kernel
theorem dX8_writes_57 : decode cX8_writes 57 = .ok (.getfield 108, 3) := by decide +kernel
theorem dX8_writes_60 : decode cX8_writes 60 = .ok (.putfield 108, 3) := by decide +kernel
theorem dX8_writes_63 : decode cX8_writes 63 = .ok (.return_, 1) := by decide +kernel
theorem dX8_takes_0 : decode cX8_takes 0 = .ok (.aload_n 0, 1) := by decide +kernel
theorem dX8_takes_1 : decode cX8_takes 1 = .ok (.dup, 1) := by decide +kernel
theorem dX8_takes_2 : decode cX8_takes 2 = .ok (.getfield 111, 3) := by decide +kernel
theorem dX8_takes_5 : decode cX8_takes 5 = .ok (.aload_n 0, 1) := by decide +kernel
theorem dX8_takes_6 : decode cX8_takes 6 = .ok (.getfield 114, 3) := by decide +kernel
theorem dX8_takes_9 : decode cX8_takes 9 = .ok (.aload_n 0, 1) := by decide +kernel
theorem dX8_takes_10 : decode cX8_takes 10 = .ok (.getfield 80, 3) := by decide +kernel
theorem dX8_takes_13 : decode cX8_takes 13 = .ok (.irem, 1) := by decide +kernel
theorem dX8_takes_14 : decode cX8_takes 14 = .ok (.ifCond .ne 7, 3) := by decide +kernel
theorem dX8_takes_17 : decode cX8_takes 17 = .ok (.iconst 1, 1) := by decide +kernel
theorem dX8_takes_18 : decode cX8_takes 18 = .ok (.goto 4, 3) := by decide +kernel
theorem dX8_takes_21 : decode cX8_takes 21 = .ok (.iconst 0, 1) := by decide +kernel
theorem dX8_takes_22 : decode cX8_takes 22 = .ok (.iadd, 1) := by decide +kernel
theorem dX8_takes_23 : decode cX8_takes 23 = .ok (.putfield 111, 3) := by decide +kernel
theorem dX8_takes_26 : decode cX8_takes 26 = .ok (.aload_n 0, 1) := by decide +kernel
theorem dX8_takes_27 : decode cX8_takes 27 = .ok (.getfield 32, 3) := by decide +kernel
theorem dX8_takes_30 : decode cX8_takes 30 = .ok (.aload_n 0, 1) := by decide +kernel
theorem dX8_takes_31 : decode cX8_takes 31 = .ok (.getfield 117, 3) := by decide +kernel
theorem dX8_takes_34 : decode cX8_takes 34 = .ok (.aload_n 0, 1) := by decide +kernel
theorem dX8_takes_35 : decode cX8_takes 35 = .ok (.getfield 8, 3) := by decide +kernel
theorem dX8_takes_38 : decode cX8_takes 38 = .ok (.sipush 8192, 3) := by decide +kernel
theorem dX8_takes_41 : decode cX8_takes 41 = .ok (.iload_n 1, 1) := by decide +kernel
theorem dX8_takes_42 : decode cX8_takes 42 = .ok (.imul, 1) := by decide +kernel
theorem dX8_takes_43 : decode cX8_takes 43 = .ok (.aload_n 0, 1) := by decide +kernel
theorem dX8_takes_44 : decode cX8_takes 44 = .ok (.getfield 114, 3) := by decide +kernel
theorem dX8_takes_47 : decode cX8_takes 47 = .ok (.iadd, 1) := by decide +kernel
theorem dX8_takes_48 : decode cX8_takes 48 = .ok (.iaload, 1) := by decide +kernel
theorem dX8_takes_49 : decode cX8_takes 49 = .ok (.iastore, 1) := by decide +kernel
theorem dX8_takes_50 : decode cX8_takes 50 = .ok (.aload_n 0, 1) := by decide +kernel
theorem dX8_takes_51 : decode cX8_takes 51 = .ok (.getfield 35, 3) := by decide +kernel
theorem dX8_takes_54 : decode cX8_takes 54 = .ok (.aload_n 0, 1) := by decide +kernel
theorem dX8_takes_55 : decode cX8_takes 55 = .ok (.getfield 117, 3) := by decide +kernel
theorem dX8_takes_58 : decode cX8_takes 58 = .ok (.aload_n 0, 1) := by decide +kernel
theorem dX8_takes_59 : decode cX8_takes 59 = .ok (.getfield 14, 3) := by decide +kernel
theorem dX8_takes_62 : decode cX8_takes 62 = .ok (.sipush 8192, 3) := by decide +kernel
theorem dX8_takes_65 : decode cX8_takes 65 = .ok (.iload_n 1, 1) := by decide +kernel
theorem dX8_takes_66 : decode cX8_takes 66 = .ok (.imul, 1) := by decide +kernel
theorem dX8_takes_67 : decode cX8_takes 67 = .ok (.aload_n 0, 1) := by decide +kernel
theorem dX8_takes_68 : decode cX8_takes 68 = .ok (.getfield 114, 3) := by decide +kernel
theorem dX8_takes_71 : decode cX8_takes 71 = .ok (.iadd, 1) := by decide +kernel
theorem dX8_takes_72 : decode cX8_takes 72 = .ok (.iaload, 1) := by decide +kernel
theorem dX8_takes_73 : decode cX8_takes 73 = .ok (.iastore, 1) := by decide +kernel
theorem dX8_takes_74 : decode cX8_takes 74 = .ok (.aload_n 0, 1) := by decide +kernel
theorem dX8_takes_75 : decode cX8_takes 75 = .ok (.getfield 38, 3) := by decide +kernel
theorem dX8_takes_78 : decode cX8_takes 78 = .ok (.aload_n 0, 1) := by decide +kernel
theorem dX8_takes_79 : decode cX8_takes 79 = .ok (.getfield 117, 3) := by decide +kernel
theorem dX8_takes_82 : decode cX8_takes 82 = .ok (.aload_n 0, 1) := by decide +kernel
theorem dX8_takes_83 : decode cX8_takes 83 = .ok (.getfield 114, 3) := by decide +kernel
theorem dX8_takes_86 : decode cX8_takes 86 = .ok (.iastore, 1) := by decide +kernel
theorem dX8_takes_87 : decode cX8_takes 87 = .ok (.aload_n 0, 1) := by decide +kernel
theorem dX8_takes_88 : decode cX8_takes 88 = .ok (.getfield 41, 3) := by decide +kernel
theorem dX8_takes_91 : decode cX8_takes 91 = .ok (.aload_n 0, 1) := by decide +kernel
theorem dX8_takes_92 : decode cX8_takes 92 = .ok (.getfield 117, 3) := by decide +kernel
theorem dX8_takes_95 : decode cX8_takes 95 = .ok (.iload_n 2, 1) := by decide +kernel
theorem dX8_takes_96 : decode cX8_takes 96 = .ok (.bastore, 1) := by decide +kernel
theorem dX8_takes_97 : decode cX8_takes 97 = .ok (.aload_n 0, 1) := by decide +kernel
theorem dX8_takes_98 : decode cX8_takes 98 = .ok (.dup, 1) := by decide +kernel
theorem dX8_takes_99 : decode cX8_takes 99 = .ok (.getfield 117, 3) := by decide +kernel
theorem dX8_takes_102 : decode cX8_takes 102 = .ok (.iconst 1, 1) := by decide +kernel
theorem dX8_takes_103 : decode cX8_takes 103 = .ok (.iadd, 1) := by decide +kernel
theorem dX8_takes_104 : decode cX8_takes 104 = .ok (.putfield 117, 3) := by decide +kernel
theorem dX8_takes_107 : decode cX8_takes 107 = .ok (.aload_n 0, 1) := by decide +kernel
theorem dX8_takes_108 : decode cX8_takes 108 = .ok (.dup, 1) := by decide +kernel
theorem dX8_takes_109 : decode cX8_takes 109 = .ok (.getfield 114, 3) := by decide +kernel
theorem dX8_takes_112 : decode cX8_takes 112 = .ok (.iconst 1, 1) := by decide +kernel
theorem dX8_takes_113 : decode cX8_takes 113 = .ok (.iadd, 1) := by decide +kernel
theorem dX8_takes_114 : decode cX8_takes 114 = .ok (.putfield 114, 3) := by decide +kernel
theorem dX8_takes_117 : decode cX8_takes 117 = .ok (.return_, 1) := by decide +kernel
theorem dX8_first_0 : decode cX8_first 0 = .ok (.iconst (-1), 1) := by decide +kernel
theorem dX8_first_1 : decode cX8_first 1 = .ok (.istore_n 1, 1) := by decide +kernel
theorem dX8_first_2 : decode cX8_first 2 = .ok (.iconst 0, 1) := by decide +kernel
theorem dX8_first_3 : decode cX8_first 3 = .ok (.istore_n 2, 1) := by decide +kernel
theorem dX8_first_4 : decode cX8_first 4 = .ok (.iload_n 2, 1) := by decide +kernel
theorem dX8_first_5 : decode cX8_first 5 = .ok (.aload_n 0, 1) := by decide +kernel
theorem dX8_first_6 : decode cX8_first 6 = .ok (.getfield 117, 3) := by decide +kernel
theorem dX8_first_9 : decode cX8_first 9 = .ok (.if_icmp .ge 109, 3) := by decide +kernel
theorem dX8_first_12 : decode cX8_first 12 = .ok (.aload_n 0, 1) := by decide +kernel
theorem dX8_first_13 : decode cX8_first 13 = .ok (.getfield 41, 3) := by decide +kernel
theorem dX8_first_16 : decode cX8_first 16 = .ok (.iload_n 2, 1) := by decide +kernel
theorem dX8_first_17 : decode cX8_first 17 = .ok (.baload, 1) := by decide +kernel
theorem dX8_first_18 : decode cX8_first 18 = .ok (.ifCond .eq 6, 3) := by decide +kernel
theorem dX8_first_21 : decode cX8_first 21 = .ok (.goto 91, 3) := by decide +kernel
theorem dX8_first_24 : decode cX8_first 24 = .ok (.iload_n 1, 1) := by decide +kernel
theorem dX8_first_25 : decode cX8_first 25 = .ok (.ifCond .lt 34, 3) := by decide +kernel
theorem dX8_first_28 : decode cX8_first 28 = .ok (.aload_n 0, 1) := by decide +kernel
theorem dX8_first_29 : decode cX8_first 29 = .ok (.aload_n 0, 1) := by decide +kernel
theorem dX8_first_30 : decode cX8_first 30 = .ok (.getfield 32, 3) := by decide +kernel
theorem dX8_first_33 : decode cX8_first 33 = .ok (.iload_n 2, 1) := by decide +kernel
theorem dX8_first_34 : decode cX8_first 34 = .ok (.iaload, 1) := by decide +kernel
theorem dX8_first_35 : decode cX8_first 35 = .ok (.aload_n 0, 1) := by decide +kernel
theorem dX8_first_36 : decode cX8_first 36 = .ok (.getfield 35, 3) := by decide +kernel
theorem dX8_first_39 : decode cX8_first 39 = .ok (.iload_n 2, 1) := by decide +kernel
theorem dX8_first_40 : decode cX8_first 40 = .ok (.iaload, 1) := by decide +kernel
theorem dX8_first_41 : decode cX8_first 41 = .ok (.aload_n 0, 1) := by decide +kernel
theorem dX8_first_42 : decode cX8_first 42 = .ok (.getfield 32, 3) := by decide +kernel
theorem dX8_first_45 : decode cX8_first 45 = .ok (.iload_n 1, 1) := by decide +kernel
theorem dX8_first_46 : decode cX8_first 46 = .ok (.iaload, 1) := by decide +kernel
theorem dX8_first_47 : decode cX8_first 47 = .ok (.aload_n 0, 1) := by decide +kernel
theorem dX8_first_48 : decode cX8_first 48 = .ok (.getfield 35, 3) := by decide +kernel
theorem dX8_first_51 : decode cX8_first 51 = .ok (.iload_n 1, 1) := by decide +kernel
theorem dX8_first_52 : decode cX8_first 52 = .ok (.iaload, 1) := by decide +kernel
theorem dX8_first_53 : decode cX8_first 53 = .ok (.invokevirtual 120, 3) := by decide +kernel
theorem dX8_first_56 : decode cX8_first 56 = .ok (.ifCond .eq 8, 3) := by decide +kernel
theorem dX8_first_59 : decode cX8_first 59 = .ok (.iload_n 2, 1) := by decide +kernel
theorem dX8_first_60 : decode cX8_first 60 = .ok (.istore_n 1, 1) := by decide +kernel
theorem dX8_first_61 : decode cX8_first 61 = .ok (.goto 51, 3) := by decide +kernel
theorem dX8_first_64 : decode cX8_first 64 = .ok (.aload_n 0, 1) := by decide +kernel
theorem dX8_first_65 : decode cX8_first 65 = .ok (.aload_n 0, 1) := by decide +kernel
theorem dX8_first_66 : decode cX8_first 66 = .ok (.getfield 32, 3) := by decide +kernel
theorem dX8_first_69 : decode cX8_first 69 = .ok (.iload_n 1, 1) := by decide +kernel
theorem dX8_first_70 : decode cX8_first 70 = .ok (.iaload, 1) := by decide +kernel
theorem dX8_first_71 : decode cX8_first 71 = .ok (.aload_n 0, 1) := by decide +kernel
theorem dX8_first_72 : decode cX8_first 72 = .ok (.getfield 35, 3) := by decide +kernel
theorem dX8_first_75 : decode cX8_first 75 = .ok (.iload_n 1, 1) := by decide +kernel
theorem dX8_first_76 : decode cX8_first 76 = .ok (.iaload, 1) := by decide +kernel
theorem dX8_first_77 : decode cX8_first 77 = .ok (.aload_n 0, 1) := by decide +kernel
theorem dX8_first_78 : decode cX8_first 78 = .ok (.getfield 32, 3) := by decide +kernel
theorem dX8_first_81 : decode cX8_first 81 = .ok (.iload_n 2, 1) := by decide +kernel
theorem dX8_first_82 : decode cX8_first 82 = .ok (.iaload, 1) := by decide +kernel
theorem dX8_first_83 : decode cX8_first 83 = .ok (.aload_n 0, 1) := by decide +kernel
theorem dX8_first_84 : decode cX8_first 84 = .ok (.getfield 35, 3) := by decide +kernel
theorem dX8_first_87 : decode cX8_first 87 = .ok (.iload_n 2, 1) := by decide +kernel
theorem dX8_first_88 : decode cX8_first 88 = .ok (.iaload, 1) := by decide +kernel
theorem dX8_first_89 : decode cX8_first 89 = .ok (.invokevirtual 120, 3) := by decide +kernel
theorem dX8_first_92 : decode cX8_first 92 = .ok (.ifCond .ne 20, 3) := by decide +kernel
theorem dX8_first_95 : decode cX8_first 95 = .ok (.aload_n 0, 1) := by decide +kernel
theorem dX8_first_96 : decode cX8_first 96 = .ok (.getfield 38, 3) := by decide +kernel
theorem dX8_first_99 : decode cX8_first 99 = .ok (.iload_n 2, 1) := by decide +kernel
theorem dX8_first_100 : decode cX8_first 100 = .ok (.iaload, 1) := by decide +kernel
theorem dX8_first_101 : decode cX8_first 101 = .ok (.aload_n 0, 1) := by decide +kernel
theorem dX8_first_102 : decode cX8_first 102 = .ok (.getfield 38, 3) := by decide +kernel
theorem dX8_first_105 : decode cX8_first 105 = .ok (.iload_n 1, 1) := by decide +kernel
theorem dX8_first_106 : decode cX8_first 106 = .ok (.iaload, 1) := by decide +kernel
theorem dX8_first_107 : decode cX8_first 107 = .ok (.if_icmp .ge 5, 3) := by decide +kernel
theorem dX8_first_110 : decode cX8_first 110 = .ok (.iload_n 2, 1) := by decide +kernel
theorem dX8_first_111 : decode cX8_first 111 = .ok (.istore_n 1, 1) := by decide +kernel
theorem dX8_first_112 : decode cX8_first 112 = .ok (.iinc 2 1, 3) := by decide +kernel
theorem dX8_first_115 : decode cX8_first 115 = .ok (.goto (-111), 3) := by decide +kernel
theorem dX8_first_118 : decode cX8_first 118 = .ok (.iload_n 1, 1) := by decide +kernel
theorem dX8_first_119 : decode cX8_first 119 = .ok (.ireturn, 1) := by decide +kernel
theorem dX8_makeRuns_0 : decode cX8_makeRuns 0 = .ok (.aload_n 0, 1) := by decide +kernel
theorem dX8_makeRuns_1 : decode cX8_makeRuns 1 = .ok (.iconst 0, 1) := by decide +kernel
theorem dX8_makeRuns_2 : decode cX8_makeRuns 2 = .ok (.putfield 124, 3) := by decide +kernel
theorem dX8_makeRuns_5 : decode cX8_makeRuns 5 = .ok (.aload_n 0, 1) := by decide +kernel
theorem dX8_makeRuns_6 : decode cX8_makeRuns 6 = .ok (.iconst 0, 1) := by decide +kernel
theorem dX8_makeRuns_7 : decode cX8_makeRuns 7 = .ok (.putfield 127, 3) := by decide +kernel
theorem dX8_makeRuns_10 : decode cX8_makeRuns 10 = .ok (.aload_n 0, 1) := by decide +kernel
theorem dX8_makeRuns_11 : decode cX8_makeRuns 11 = .ok (.getfield 26, 3) := by decide +kernel
theorem dX8_makeRuns_14 : decode cX8_makeRuns 14 = .ok (.iconst 0, 1) := by decide +kernel
theorem dX8_makeRuns_15 : decode cX8_makeRuns 15 = .ok (.iconst 0, 1) := by decide +kernel
theorem dX8_makeRuns_16 : decode cX8_makeRuns 16 = .ok (.iastore, 1) := by decide +kernel
theorem dX8_makeRuns_17 : decode cX8_makeRuns 17 = .ok (.aload_n 0, 1) := by decide +kernel
theorem dX8_makeRuns_18 : decode cX8_makeRuns 18 = .ok (.iconst 0, 1) := by decide +kernel
theorem dX8_makeRuns_19 : decode cX8_makeRuns 19 = .ok (.putfield 117, 3) := by decide +kernel
theorem dX8_makeRuns_22 : decode cX8_makeRuns 22 = .ok (.aload_n 0, 1) := by decide +kernel
theorem dX8_makeRuns_23 : decode cX8_makeRuns 23 = .ok (.iconst 0, 1) := by decide +kernel
theorem dX8_makeRuns_24 : decode cX8_makeRuns 24 = .ok (.putfield 114, 3) := by decide +kernel
theorem dX8_makeRuns_27 : decode cX8_makeRuns 27 = .ok (.iconst 0, 1) := by decide +kernel
theorem dX8_makeRuns_28 : decode cX8_makeRuns 28 = .ok (.istore_n 3, 1) := by decide +kernel
theorem dX8_makeRuns_29 : decode cX8_makeRuns 29 = .ok (.aload_n 0, 1) := by decide +kernel
theorem dX8_makeRuns_30 : decode cX8_makeRuns 30 = .ok (.getfield 117, 3) := by decide +kernel
theorem dX8_makeRuns_33 : decode cX8_makeRuns 33 = .ok (.iload_n 2, 1) := by decide +kernel
theorem dX8_makeRuns_34 : decode cX8_makeRuns 34 = .ok (.if_icmp .ge 25, 3) := by decide +kernel
theorem dX8_makeRuns_37 : decode cX8_makeRuns 37 = .ok (.aload_n 0, 1) := by decide +kernel
theorem dX8_makeRuns_38 : decode cX8_makeRuns 38 = .ok (.getfield 114, 3) := by decide +kernel
theorem dX8_makeRuns_41 : decode cX8_makeRuns 41 = .ok (.aload_n 0, 1) := by decide +kernel
theorem dX8_makeRuns_42 : decode cX8_makeRuns 42 = .ok (.getfield 17, 3) := by decide +kernel
theorem dX8_makeRuns_45 : decode cX8_makeRuns 45 = .ok (.iload_n 1, 1) := by decide +kernel
theorem dX8_makeRuns_46 : decode cX8_makeRuns 46 = .ok (.iaload, 1) := by decide +kernel
theorem dX8_makeRuns_47 : decode cX8_makeRuns 47 = .ok (.if_icmp .ge 12, 3) := by decide +kernel
theorem dX8_makeRuns_50 : decode cX8_makeRuns 50 = .ok (.aload_n 0, 1) := by decide +kernel
theorem dX8_makeRuns_51 : decode cX8_makeRuns 51 = .ok (.iload_n 1, 1) := by decide +kernel
theorem dX8_makeRuns_52 : decode cX8_makeRuns 52 = .ok (.iconst 0, 1) := by decide +kernel
theorem dX8_makeRuns_53 : decode cX8_makeRuns 53 = .ok (.invokevirtual 130, 3) := by decide +kernel
theorem dX8_makeRuns_56 : decode cX8_makeRuns 56 = .ok (.goto (-27), 3) := by decide +kernel
theorem dX8_makeRuns_59 : decode cX8_makeRuns 59 = .ok (.aload_n 0, 1) := by decide +kernel
theorem dX8_makeRuns_60 : decode cX8_makeRuns 60 = .ok (.getfield 117, 3) := by decide +kernel
theorem dX8_makeRuns_63 : decode cX8_makeRuns 63 = .ok (.ifCond .le 238, 3) := by decide +kernel
theorem dX8_makeRuns_66 : decode cX8_makeRuns 66 = .ok (.aload_n 0, 1) := by decide +kernel
theorem dX8_makeRuns_67 : decode cX8_makeRuns 67 = .ok (.getfield 101, 3) := by decide +kernel
theorem dX8_makeRuns_70 : decode cX8_makeRuns 70 = .ok (.ifCond .ne 231, 3) := by decide +kernel
theorem dX8_makeRuns_73 : decode cX8_makeRuns 73 = .ok (.aload_n 0, 1) := by decide +kernel
theorem dX8_makeRuns_74 : decode cX8_makeRuns 74 = .ok (.invokevirtual 134, 3) := by decide +kernel
theorem dX8_makeRuns_77 : decode cX8_makeRuns 77 = .ok (.istore 4, 2) := by decide +kernel
theorem dX8_makeRuns_79 : decode cX8_makeRuns 79 = .ok (.iload 4, 2) := by decide +kernel
theorem dX8_makeRuns_81 : decode cX8_makeRuns 81 = .ok (.ifCond .ge 38, 3) := by decide +kernel
theorem dX8_makeRuns_84 : decode cX8_makeRuns 84 = .ok (.aload_n 0, 1) := by decide +kernel
theorem dX8_makeRuns_85 : decode cX8_makeRuns 85 = .ok (.iload_n 3, 1) := by decide +kernel
theorem dX8_makeRuns_86 : decode cX8_makeRuns 86 = .ok (.invokevirtual 138, 3) := by decide +kernel
theorem dX8_makeRuns_89 : decode cX8_makeRuns 89 = .ok (.istore_n 3, 1) := by decide +kernel
theorem dX8_makeRuns_90 : decode cX8_makeRuns 90 = .ok (.iconst 0, 1) := by decide +kernel
theorem dX8_makeRuns_91 : decode cX8_makeRuns 91 = .ok (.istore 5, 2) := by decide +kernel
theorem dX8_makeRuns_93 : decode cX8_makeRuns 93 = .ok (.iload 5, 2) := by decide +kernel
theorem dX8_makeRuns_95 : decode cX8_makeRuns 95 = .ok (.aload_n 0, 1) := by decide +kernel
theorem dX8_makeRuns_96 : decode cX8_makeRuns 96 = .ok (.getfield 117, 3) := by decide +kernel
theorem dX8_makeRuns_99 : decode cX8_makeRuns 99 = .ok (.if_icmp .ge 17, 3) := by decide +kernel
theorem dX8_makeRuns_102 : decode cX8_makeRuns 102 = .ok (.aload_n 0, 1) := by decide +kernel
theorem dX8_makeRuns_103 : decode cX8_makeRuns 103 = .ok (.getfield 41, 3) := by decide +kernel
theorem dX8_makeRuns_106 : decode cX8_makeRuns 106 = .ok (.iload 5, 2) := by decide +kernel
theorem dX8_makeRuns_108 : decode cX8_makeRuns 108 = .ok (.iconst 0, 1) := by decide +kernel
theorem dX8_makeRuns_109 : decode cX8_makeRuns 109 = .ok (.bastore, 1) := by decide +kernel
theorem dX8_makeRuns_110 : decode cX8_makeRuns 110 = .ok (.iinc 5 1, 3) := by decide +kernel
theorem dX8_makeRuns_113 : decode cX8_makeRuns 113 = .ok (.goto (-20), 3) := by decide +kernel
theorem dX8_makeRuns_116 : decode cX8_makeRuns 116 = .ok (.goto (-57), 3) := by decide +kernel
theorem dX8_makeRuns_119 : decode cX8_makeRuns 119 = .ok (.aload_n 0, 1) := by decide +kernel
theorem dX8_makeRuns_120 : decode cX8_makeRuns 120 = .ok (.getfield 32, 3) := by decide +kernel
theorem dX8_makeRuns_123 : decode cX8_makeRuns 123 = .ok (.iload 4, 2) := by decide +kernel
theorem dX8_makeRuns_125 : decode cX8_makeRuns 125 = .ok (.iaload, 1) := by decide +kernel
theorem dX8_makeRuns_126 : decode cX8_makeRuns 126 = .ok (.istore 5, 2) := by decide +kernel
theorem dX8_makeRuns_128 : decode cX8_makeRuns 128 = .ok (.aload_n 0, 1) := by decide +kernel
theorem dX8_makeRuns_129 : decode cX8_makeRuns 129 = .ok (.getfield 35, 3) := by decide +kernel
theorem dX8_makeRuns_132 : decode cX8_makeRuns 132 = .ok (.iload 4, 2) := by decide +kernel
theorem dX8_makeRuns_134 : decode cX8_makeRuns 134 = .ok (.iaload, 1) := by decide +kernel
theorem dX8_makeRuns_135 : decode cX8_makeRuns 135 = .ok (.istore 6, 2) := by decide +kernel
theorem dX8_makeRuns_137 : decode cX8_makeRuns 137 = .ok (.aload_n 0, 1) := by decide +kernel
theorem dX8_makeRuns_138 : decode cX8_makeRuns 138 = .ok (.dup, 1) := by decide +kernel
theorem dX8_makeRuns_139 : decode cX8_makeRuns 139 = .ok (.getfield 117, 3) := by decide +kernel
theorem dX8_makeRuns_142 : decode cX8_makeRuns 142 = .ok (.iconst 1, 1) := by decide +kernel
theorem dX8_makeRuns_143 : decode cX8_makeRuns 143 = .ok (.isub, 1) := by decide +kernel
theorem dX8_makeRuns_144 : decode cX8_makeRuns 144 = .ok (.putfield 117, 3) := by decide +kernel
theorem dX8_makeRuns_147 : decode cX8_makeRuns 147 = .ok (.aload_n 0, 1) := by decide +kernel
theorem dX8_makeRuns_148 : decode cX8_makeRuns 148 = .ok (.getfield 32, 3) := by decide +kernel
theorem dX8_makeRuns_151 : decode cX8_makeRuns 151 = .ok (.iload 4, 2) := by decide +kernel
theorem dX8_makeRuns_153 : decode cX8_makeRuns 153 = .ok (.aload_n 0, 1) := by decide +kernel
theorem dX8_makeRuns_154 : decode cX8_makeRuns 154 = .ok (.getfield 32, 3) := by decide +kernel
theorem dX8_makeRuns_157 : decode cX8_makeRuns 157 = .ok (.aload_n 0, 1) := by decide +kernel
theorem dX8_makeRuns_158 : decode cX8_makeRuns 158 = .ok (.getfield 117, 3) := by decide +kernel
theorem dX8_makeRuns_161 : decode cX8_makeRuns 161 = .ok (.iaload, 1) := by decide +kernel
theorem dX8_makeRuns_162 : decode cX8_makeRuns 162 = .ok (.iastore, 1) := by decide +kernel
theorem dX8_makeRuns_163 : decode cX8_makeRuns 163 = .ok (.aload_n 0, 1) := by decide +kernel
theorem dX8_makeRuns_164 : decode cX8_makeRuns 164 = .ok (.getfield 35, 3) := by decide +kernel
theorem dX8_makeRuns_167 : decode cX8_makeRuns 167 = .ok (.iload 4, 2) := by decide +kernel
theorem dX8_makeRuns_169 : decode cX8_makeRuns 169 = .ok (.aload_n 0, 1) := by decide +kernel
theorem dX8_makeRuns_170 : decode cX8_makeRuns 170 = .ok (.getfield 35, 3) := by decide +kernel
theorem dX8_makeRuns_173 : decode cX8_makeRuns 173 = .ok (.aload_n 0, 1) := by decide +kernel
theorem dX8_makeRuns_174 : decode cX8_makeRuns 174 = .ok (.getfield 117, 3) := by decide +kernel
theorem dX8_makeRuns_177 : decode cX8_makeRuns 177 = .ok (.iaload, 1) := by decide +kernel
theorem dX8_makeRuns_178 : decode cX8_makeRuns 178 = .ok (.iastore, 1) := by decide +kernel
theorem dX8_makeRuns_179 : decode cX8_makeRuns 179 = .ok (.aload_n 0, 1) := by decide +kernel
theorem dX8_makeRuns_180 : decode cX8_makeRuns 180 = .ok (.getfield 38, 3) := by decide +kernel
theorem dX8_makeRuns_183 : decode cX8_makeRuns 183 = .ok (.iload 4, 2) := by decide +kernel
theorem dX8_makeRuns_185 : decode cX8_makeRuns 185 = .ok (.aload_n 0, 1) := by decide +kernel
theorem dX8_makeRuns_186 : decode cX8_makeRuns 186 = .ok (.getfield 38, 3) := by decide +kernel
theorem dX8_makeRuns_189 : decode cX8_makeRuns 189 = .ok (.aload_n 0, 1) := by decide +kernel
theorem dX8_makeRuns_190 : decode cX8_makeRuns 190 = .ok (.getfield 117, 3) := by decide +kernel
theorem dX8_makeRuns_193 : decode cX8_makeRuns 193 = .ok (.iaload, 1) := by decide +kernel
theorem dX8_makeRuns_194 : decode cX8_makeRuns 194 = .ok (.iastore, 1) := by decide +kernel
theorem dX8_makeRuns_195 : decode cX8_makeRuns 195 = .ok (.aload_n 0, 1) := by decide +kernel
theorem dX8_makeRuns_196 : decode cX8_makeRuns 196 = .ok (.getfield 41, 3) := by decide +kernel
theorem dX8_makeRuns_199 : decode cX8_makeRuns 199 = .ok (.iload 4, 2) := by decide +kernel
theorem dX8_makeRuns_201 : decode cX8_makeRuns 201 = .ok (.aload_n 0, 1) := by decide +kernel
theorem dX8_makeRuns_202 : decode cX8_makeRuns 202 = .ok (.getfield 41, 3) := by decide +kernel
theorem dX8_makeRuns_205 : decode cX8_makeRuns 205 = .ok (.aload_n 0, 1) := by decide +kernel
theorem dX8_makeRuns_206 : decode cX8_makeRuns 206 = .ok (.getfield 117, 3) := by decide +kernel
theorem dX8_makeRuns_209 : decode cX8_makeRuns 209 = .ok (.baload, 1) := by decide +kernel
theorem dX8_makeRuns_210 : decode cX8_makeRuns 210 = .ok (.bastore, 1) := by decide +kernel
theorem dX8_makeRuns_211 : decode cX8_makeRuns 211 = .ok (.aload_n 0, 1) := by decide +kernel
theorem dX8_makeRuns_212 : decode cX8_makeRuns 212 = .ok (.iload_n 3, 1) := by decide +kernel
theorem dX8_makeRuns_213 : decode cX8_makeRuns 213 = .ok (.aload_n 0, 1) := by decide +kernel
theorem dX8_makeRuns_214 : decode cX8_makeRuns 214 = .ok (.getfield 26, 3) := by decide +kernel
theorem dX8_makeRuns_217 : decode cX8_makeRuns 217 = .ok (.aload_n 0, 1) := by decide +kernel
theorem dX8_makeRuns_218 : decode cX8_makeRuns 218 = .ok (.getfield 127, 3) := by decide +kernel
theorem dX8_makeRuns_221 : decode cX8_makeRuns 221 = .ok (.iaload, 1) := by decide +kernel
theorem dX8_makeRuns_222 : decode cX8_makeRuns 222 = .ok (.iload 5, 2) := by decide +kernel
theorem dX8_makeRuns_224 : decode cX8_makeRuns 224 = .ok (.iload 6, 2) := by decide +kernel
theorem dX8_makeRuns_226 : decode cX8_makeRuns 226 = .ok (.invokevirtual 141, 3) := by decide +kernel
theorem dX8_makeRuns_229 : decode cX8_makeRuns 229 = .ok (.istore_n 3, 1) := by decide +kernel
theorem dX8_makeRuns_230 : decode cX8_makeRuns 230 = .ok (.aload_n 0, 1) := by decide +kernel
theorem dX8_makeRuns_231 : decode cX8_makeRuns 231 = .ok (.getfield 114, 3) := by decide +kernel
theorem dX8_makeRuns_234 : decode cX8_makeRuns 234 = .ok (.aload_n 0, 1) := by decide +kernel
theorem dX8_makeRuns_235 : decode cX8_makeRuns 235 = .ok (.getfield 17, 3) := by decide +kernel
theorem dX8_makeRuns_238 : decode cX8_makeRuns 238 = .ok (.iload_n 1, 1) := by decide +kernel
theorem dX8_makeRuns_239 : decode cX8_makeRuns 239 = .ok (.iaload, 1) := by decide +kernel
theorem dX8_makeRuns_240 : decode cX8_makeRuns 240 = .ok (.if_icmp .ge 58, 3) := by decide +kernel
theorem dX8_makeRuns_243 : decode cX8_makeRuns 243 = .ok (.aload_n 0, 1) := by decide +kernel
theorem dX8_makeRuns_244 : decode cX8_makeRuns 244 = .ok (.iload_n 1, 1) := by decide +kernel
theorem dX8_makeRuns_245 : decode cX8_makeRuns 245 = .ok (.aload_n 0, 1) := by decide +kernel
theorem dX8_makeRuns_246 : decode cX8_makeRuns 246 = .ok (.aload_n 0, 1) := by decide +kernel
theorem dX8_makeRuns_247 : decode cX8_makeRuns 247 = .ok (.getfield 8, 3) := by decide +kernel
theorem dX8_makeRuns_250 : decode cX8_makeRuns 250 = .ok (.sipush 8192, 3) := by decide +kernel
theorem dX8_makeRuns_253 : decode cX8_makeRuns 253 = .ok (.iload_n 1, 1) := by decide +kernel
theorem dX8_makeRuns_254 : decode cX8_makeRuns 254 = .ok (.imul, 1) := by decide +kernel
theorem dX8_makeRuns_255 : decode cX8_makeRuns 255 = .ok (.aload_n 0, 1) := by decide +kernel
theorem dX8_makeRuns_256 : decode cX8_makeRuns 256 = .ok (.getfield 114, 3) := by decide +kernel
theorem dX8_makeRuns_259 : decode cX8_makeRuns 259 = .ok (.iadd, 1) := by decide +kernel
theorem dX8_makeRuns_260 : decode cX8_makeRuns 260 = .ok (.iaload, 1) := by decide +kernel
theorem dX8_makeRuns_261 : decode cX8_makeRuns 261 = .ok (.aload_n 0, 1) := by decide +kernel
theorem dX8_makeRuns_262 : decode cX8_makeRuns 262 = .ok (.getfield 14, 3) := by decide +kernel
theorem dX8_makeRuns_265 : decode cX8_makeRuns 265 = .ok (.sipush 8192, 3) := by decide +kernel
theorem dX8_makeRuns_268 : decode cX8_makeRuns 268 = .ok (.iload_n 1, 1) := by decide +kernel
theorem dX8_makeRuns_269 : decode cX8_makeRuns 269 = .ok (.imul, 1) := by decide +kernel
theorem dX8_makeRuns_270 : decode cX8_makeRuns 270 = .ok (.aload_n 0, 1) := by decide +kernel
theorem dX8_makeRuns_271 : decode cX8_makeRuns 271 = .ok (.getfield 114, 3) := by decide +kernel
theorem dX8_makeRuns_274 : decode cX8_makeRuns 274 = .ok (.iadd, 1) := by decide +kernel
theorem dX8_makeRuns_275 : decode cX8_makeRuns 275 = .ok (.iaload, 1) := by decide +kernel
theorem dX8_makeRuns_276 : decode cX8_makeRuns 276 = .ok (.aload_n 0, 1) := by decide +kernel
theorem dX8_makeRuns_277 : decode cX8_makeRuns 277 = .ok (.getfield 20, 3) := by decide +kernel
theorem dX8_makeRuns_280 : decode cX8_makeRuns 280 = .ok (.iload_n 3, 1) := by decide +kernel
theorem dX8_makeRuns_281 : decode cX8_makeRuns 281 = .ok (.iconst 1, 1) := by decide +kernel
theorem dX8_makeRuns_282 : decode cX8_makeRuns 282 = .ok (.isub, 1) := by decide +kernel
theorem dX8_makeRuns_283 : decode cX8_makeRuns 283 = .ok (.iaload, 1) := by decide +kernel
theorem dX8_makeRuns_284 : decode cX8_makeRuns 284 = .ok (.aload_n 0, 1) := by decide +kernel
theorem dX8_makeRuns_285 : decode cX8_makeRuns 285 = .ok (.getfield 23, 3) := by decide +kernel
theorem dX8_makeRuns_288 : decode cX8_makeRuns 288 = .ok (.iload_n 3, 1) := by decide +kernel
theorem dX8_makeRuns_289 : decode cX8_makeRuns 289 = .ok (.iconst 1, 1) := by decide +kernel
theorem dX8_makeRuns_290 : decode cX8_makeRuns 290 = .ok (.isub, 1) := by decide +kernel
theorem dX8_makeRuns_291 : decode cX8_makeRuns 291 = .ok (.iaload, 1) := by decide +kernel
theorem dX8_makeRuns_292 : decode cX8_makeRuns 292 = .ok (.invokevirtual 120, 3) := by decide +kernel
theorem dX8_makeRuns_295 : decode cX8_makeRuns 295 = .ok (.invokevirtual 130, 3) := by decide +kernel
theorem dX8_makeRuns_298 : decode cX8_makeRuns 298 = .ok (.goto (-239), 3) := by decide +kernel
theorem dX8_makeRuns_301 : decode cX8_makeRuns 301 = .ok (.iload_n 3, 1) := by decide +kernel
theorem dX8_makeRuns_302 : decode cX8_makeRuns 302 = .ok (.aload_n 0, 1) := by decide +kernel
theorem dX8_makeRuns_303 : decode cX8_makeRuns 303 = .ok (.getfield 26, 3) := by decide +kernel
theorem dX8_makeRuns_306 : decode cX8_makeRuns 306 = .ok (.aload_n 0, 1) := by decide +kernel
theorem dX8_makeRuns_307 : decode cX8_makeRuns 307 = .ok (.getfield 127, 3) := by decide +kernel
theorem dX8_makeRuns_310 : decode cX8_makeRuns 310 = .ok (.iaload, 1) := by decide +kernel
theorem dX8_makeRuns_311 : decode cX8_makeRuns 311 = .ok (.if_icmp .le 9, 3) := by decide +kernel
theorem dX8_makeRuns_314 : decode cX8_makeRuns 314 = .ok (.aload_n 0, 1) := by decide +kernel
theorem dX8_makeRuns_315 : decode cX8_makeRuns 315 = .ok (.iload_n 3, 1) := by decide +kernel
theorem dX8_makeRuns_316 : decode cX8_makeRuns 316 = .ok (.invokevirtual 138, 3) := by decide +kernel
theorem dX8_makeRuns_319 : decode cX8_makeRuns 319 = .ok (.istore_n 3, 1) := by decide +kernel
theorem dX8_makeRuns_320 : decode cX8_makeRuns 320 = .ok (.aload_n 0, 1) := by decide +kernel
theorem dX8_makeRuns_321 : decode cX8_makeRuns 321 = .ok (.dup, 1) := by decide +kernel
theorem dX8_makeRuns_322 : decode cX8_makeRuns 322 = .ok (.getfield 145, 3) := by decide +kernel
theorem dX8_makeRuns_325 : decode cX8_makeRuns 325 = .ok (.aload_n 0, 1) := by decide +kernel
theorem dX8_makeRuns_326 : decode cX8_makeRuns 326 = .ok (.getfield 127, 3) := by decide +kernel
theorem dX8_makeRuns_329 : decode cX8_makeRuns 329 = .ok (.iadd, 1) := by decide +kernel
theorem dX8_makeRuns_330 : decode cX8_makeRuns 330 = .ok (.putfield 145, 3) := by decide +kernel
theorem dX8_makeRuns_333 : decode cX8_makeRuns 333 = .ok (.return_, 1) := by decide +kernel
theorem dX8_puts_0 : decode cX8_puts 0 = .ok (.aload_n 0, 1) := by decide +kernel
theorem dX8_puts_1 : decode cX8_puts 1 = .ok (.getfield 148, 3) := by decide +kernel
theorem dX8_puts_4 : decode cX8_puts 4 = .ok (.ifCond .eq 35, 3) := by decide +kernel
theorem dX8_puts_7 : decode cX8_puts 7 = .ok (.iload_n 1, 1) := by decide +kernel
theorem dX8_puts_8 : decode cX8_puts 8 = .ok (.iload_n 2, 1) := by decide +kernel
theorem dX8_puts_9 : decode cX8_puts 9 = .ok (.if_icmp .le 30, 3) := by decide +kernel
theorem dX8_puts_12 : decode cX8_puts 12 = .ok (.aload_n 0, 1) := by decide +kernel
theorem dX8_puts_13 : decode cX8_puts 13 = .ok (.getfield 20, 3) := by decide +kernel
theorem dX8_puts_16 : decode cX8_puts 16 = .ok (.iload_n 1, 1) := by decide +kernel
theorem dX8_puts_17 : decode cX8_puts 17 = .ok (.iconst 1, 1) := by decide +kernel
theorem dX8_puts_18 : decode cX8_puts 18 = .ok (.isub, 1) := by decide +kernel
theorem dX8_puts_19 : decode cX8_puts 19 = .ok (.iaload, 1) := by decide +kernel
theorem dX8_puts_20 : decode cX8_puts 20 = .ok (.iload_n 3, 1) := by decide +kernel
theorem dX8_puts_21 : decode cX8_puts 21 = .ok (.if_icmp .ne 18, 3) := by decide +kernel
theorem dX8_puts_24 : decode cX8_puts 24 = .ok (.aload_n 0, 1) := by decide +kernel
theorem dX8_puts_25 : decode cX8_puts 25 = .ok (.getfield 23, 3) := by decide +kernel
theorem dX8_puts_28 : decode cX8_puts 28 = .ok (.iload_n 1, 1) := by decide +kernel
theorem dX8_puts_29 : decode cX8_puts 29 = .ok (.iconst 1, 1) := by decide +kernel
theorem dX8_puts_30 : decode cX8_puts 30 = .ok (.isub, 1) := by decide +kernel
theorem dX8_puts_31 : decode cX8_puts 31 = .ok (.iaload, 1) := by decide +kernel
theorem dX8_puts_32 : decode cX8_puts 32 = .ok (.iload 4, 2) := by decide +kernel
theorem dX8_puts_34 : decode cX8_puts 34 = .ok (.if_icmp .ne 5, 3) := by decide +kernel
theorem dX8_puts_37 : decode cX8_puts 37 = .ok (.iload_n 1, 1) := by decide +kernel
theorem dX8_puts_38 : decode cX8_puts 38 = .ok (.ireturn, 1) := by decide +kernel
theorem dX8_puts_39 : decode cX8_puts 39 = .ok (.aload_n 0, 1) := by decide +kernel
theorem dX8_puts_40 : decode cX8_puts 40 = .ok (.getfield 20, 3) := by decide +kernel
theorem dX8_puts_43 : decode cX8_puts 43 = .ok (.iload_n 1, 1) := by decide +kernel
theorem dX8_puts_44 : decode cX8_puts 44 = .ok (.iload_n 3, 1) := by decide +kernel
theorem dX8_puts_45 : decode cX8_puts 45 = .ok (.iastore, 1) := by decide +kernel
theorem dX8_puts_46 : decode cX8_puts 46 = .ok (.aload_n 0, 1) := by decide +kernel
theorem dX8_puts_47 : decode cX8_puts 47 = .ok (.getfield 23, 3) := by decide +kernel
theorem dX8_puts_50 : decode cX8_puts 50 = .ok (.iload_n 1, 1) := by decide +kernel
theorem dX8_puts_51 : decode cX8_puts 51 = .ok (.iload 4, 2) := by decide +kernel
theorem dX8_puts_53 : decode cX8_puts 53 = .ok (.iastore, 1) := by decide +kernel
theorem dX8_puts_54 : decode cX8_puts 54 = .ok (.iload_n 1, 1) := by decide +kernel
theorem dX8_puts_55 : decode cX8_puts 55 = .ok (.iconst 1, 1) := by decide +kernel
theorem dX8_puts_56 : decode cX8_puts 56 = .ok (.iadd, 1) := by decide +kernel
theorem dX8_puts_57 : decode cX8_puts 57 = .ok (.iload_n 2, 1) := by decide +kernel
theorem dX8_puts_58 : decode cX8_puts 58 = .ok (.isub, 1) := by decide +kernel
theorem dX8_puts_59 : decode cX8_puts 59 = .ok (.aload_n 0, 1) := by decide +kernel
theorem dX8_puts_60 : decode cX8_puts 60 = .ok (.getfield 80, 3) := by decide +kernel
theorem dX8_puts_63 : decode cX8_puts 63 = .ok (.irem, 1) := by decide +kernel
theorem dX8_puts_64 : decode cX8_puts 64 = .ok (.ifCond .ne 7, 3) := by decide +kernel
theorem dX8_puts_67 : decode cX8_puts 67 = .ok (.aload_n 0, 1) := by decide +kernel
theorem dX8_puts_68 : decode cX8_puts 68 = .ok (.invokevirtual 151, 3) := by decide +kernel
theorem dX8_puts_71 : decode cX8_puts 71 = .ok (.iload_n 1, 1) := by decide +kernel
theorem dX8_puts_72 : decode cX8_puts 72 = .ok (.iconst 1, 1) := by decide +kernel
theorem dX8_puts_73 : decode cX8_puts 73 = .ok (.iadd, 1) := by decide +kernel
theorem dX8_puts_74 : decode cX8_puts 74 = .ok (.ireturn, 1) := by decide +kernel
theorem dX8_endsRun_0 : decode cX8_endsRun 0 = .ok (.iload_n 1, 1) := by decide +kernel
theorem dX8_endsRun_1 : decode cX8_endsRun 1 = .ok (.aload_n 0, 1) := by decide +kernel
theorem dX8_endsRun_2 : decode cX8_endsRun 2 = .ok (.getfield 26, 3) := by decide +kernel
theorem dX8_endsRun_5 : decode cX8_endsRun 5 = .ok (.aload_n 0, 1) := by decide +kernel
theorem dX8_endsRun_6 : decode cX8_endsRun 6 = .ok (.getfield 127, 3) := by decide +kernel
theorem dX8_endsRun_9 : decode cX8_endsRun 9 = .ok (.iaload, 1) := by decide +kernel
theorem dX8_endsRun_10 : decode cX8_endsRun 10 = .ok (.isub, 1) := by decide +kernel
theorem dX8_endsRun_11 : decode cX8_endsRun 11 = .ok (.istore_n 2, 1) := by decide +kernel
theorem dX8_endsRun_12 : decode cX8_endsRun 12 = .ok (.iload_n 2, 1) := by decide +kernel
theorem dX8_endsRun_13 : decode cX8_endsRun 13 = .ok (.aload_n 0, 1) := by decide +kernel
theorem dX8_endsRun_14 : decode cX8_endsRun 14 = .ok (.getfield 80, 3) := by decide +kernel
theorem dX8_endsRun_17 : decode cX8_endsRun 17 = .ok (.irem, 1) := by decide +kernel
theorem dX8_endsRun_18 : decode cX8_endsRun 18 = .ok (.ifCond .eq 7, 3) := by decide +kernel
theorem dX8_endsRun_21 : decode cX8_endsRun 21 = .ok (.aload_n 0, 1) := by decide +kernel
theorem dX8_endsRun_22 : decode cX8_endsRun 22 = .ok (.invokevirtual 151, 3) := by decide +kernel
theorem dX8_endsRun_25 : decode cX8_endsRun 25 = .ok (.aload_n 0, 1) := by decide +kernel
theorem dX8_endsRun_26 : decode cX8_endsRun 26 = .ok (.getfield 29, 3) := by decide +kernel
theorem dX8_endsRun_29 : decode cX8_endsRun 29 = .ok (.aload_n 0, 1) := by decide +kernel
theorem dX8_endsRun_30 : decode cX8_endsRun 30 = .ok (.getfield 154, 3) := by decide +kernel
theorem dX8_endsRun_33 : decode cX8_endsRun 33 = .ok (.iload_n 2, 1) := by decide +kernel
theorem dX8_endsRun_34 : decode cX8_endsRun 34 = .ok (.iastore, 1) := by decide +kernel
theorem dX8_endsRun_35 : decode cX8_endsRun 35 = .ok (.aload_n 0, 1) := by decide +kernel
theorem dX8_endsRun_36 : decode cX8_endsRun 36 = .ok (.dup, 1) := by decide +kernel
theorem dX8_endsRun_37 : decode cX8_endsRun 37 = .ok (.getfield 154, 3) := by decide +kernel
theorem dX8_endsRun_40 : decode cX8_endsRun 40 = .ok (.iconst 1, 1) := by decide +kernel
theorem dX8_endsRun_41 : decode cX8_endsRun 41 = .ok (.iadd, 1) := by decide +kernel
theorem dX8_endsRun_42 : decode cX8_endsRun 42 = .ok (.putfield 154, 3) := by decide +kernel
theorem dX8_endsRun_45 : decode cX8_endsRun 45 = .ok (.aload_n 0, 1) := by decide +kernel
theorem dX8_endsRun_46 : decode cX8_endsRun 46 = .ok (.dup, 1) := by decide +kernel
theorem dX8_endsRun_47 : decode cX8_endsRun 47 = .ok (.getfield 127, 3) := by decide +kernel
theorem dX8_endsRun_50 : decode cX8_endsRun 50 = .ok (.iconst 1, 1) := by decide +kernel
theorem dX8_endsRun_51 : decode cX8_endsRun 51 = .ok (.iadd, 1) := by decide +kernel
theorem dX8_endsRun_52 : decode cX8_endsRun 52 = .ok (.putfield 127, 3) := by decide +kernel
theorem dX8_endsRun_55 : decode cX8_endsRun 55 = .ok (.aload_n 0, 1) := by decide +kernel
theorem dX8_endsRun_56 : decode cX8_endsRun 56 = .ok (.getfield 26, 3) := by decide +kernel
theorem dX8_endsRun_59 : decode cX8_endsRun 59 = .ok (.aload_n 0, 1) := by decide +kernel
theorem dX8_endsRun_60 : decode cX8_endsRun 60 = .ok (.getfield 127, 3) := by decide +kernel
theorem dX8_endsRun_63 : decode cX8_endsRun 63 = .ok (.iload_n 1, 1) := by decide +kernel
theorem dX8_endsRun_64 : decode cX8_endsRun 64 = .ok (.iastore, 1) := by decide +kernel
theorem dX8_endsRun_65 : decode cX8_endsRun 65 = .ok (.iload_n 1, 1) := by decide +kernel
theorem dX8_endsRun_66 : decode cX8_endsRun 66 = .ok (.ireturn, 1) := by decide +kernel
theorem dX8_merges_0 : decode cX8_merges 0 = .ok (.aload_n 0, 1) := by decide +kernel
theorem dX8_merges_1 : decode cX8_merges 1 = .ok (.getfield 127, 3) := by decide +kernel
theorem dX8_merges_4 : decode cX8_merges 4 = .ok (.iconst 1, 1) := by decide +kernel
theorem dX8_merges_5 : decode cX8_merges 5 = .ok (.if_icmp .le 192, 3) := by decide +kernel
theorem dX8_merges_8 : decode cX8_merges 8 = .ok (.aload_n 0, 1) := by decide +kernel
theorem dX8_merges_9 : decode cX8_merges 9 = .ok (.getfield 101, 3) := by decide +kernel
theorem dX8_merges_12 : decode cX8_merges 12 = .ok (.ifCond .ne 185, 3) := by decide +kernel
theorem dX8_merges_15 : decode cX8_merges 15 = .ok (.aload_n 0, 1) := by decide +kernel
theorem dX8_merges_16 : decode cX8_merges 16 = .ok (.dup, 1) := by decide +kernel
theorem dX8_merges_17 : decode cX8_merges 17 = .ok (.getfield 157, 3) := by decide +kernel
theorem dX8_merges_20 : decode cX8_merges 20 = .ok (.iconst 1, 1) := by decide +kernel
theorem dX8_merges_21 : decode cX8_merges 21 = .ok (.iadd, 1) := by decide +kernel
theorem dX8_merges_22 : decode cX8_merges 22 = .ok (.putfield 157, 3) := by decide +kernel
theorem dX8_merges_25 : decode cX8_merges 25 = .ok (.aload_n 0, 1) := by decide +kernel
theorem dX8_merges_26 : decode cX8_merges 26 = .ok (.getfield 124, 3) := by decide +kernel
theorem dX8_merges_29 : decode cX8_merges 29 = .ok (.istore_n 2, 1) := by decide +kernel
theorem dX8_merges_30 : decode cX8_merges 30 = .ok (.sipush 8192, 3) := by decide +kernel
theorem dX8_merges_33 : decode cX8_merges 33 = .ok (.aload_n 0, 1) := by decide +kernel
theorem dX8_merges_34 : decode cX8_merges 34 = .ok (.getfield 124, 3) := by decide +kernel
theorem dX8_merges_37 : decode cX8_merges 37 = .ok (.isub, 1) := by decide +kernel
theorem dX8_merges_38 : decode cX8_merges 38 = .ok (.istore_n 3, 1) := by decide +kernel
theorem dX8_merges_39 : decode cX8_merges 39 = .ok (.iconst 0, 1) := by decide +kernel
theorem dX8_merges_40 : decode cX8_merges 40 = .ok (.istore 4, 2) := by decide +kernel
theorem dX8_merges_42 : decode cX8_merges 42 = .ok (.iload_n 3, 1) := by decide +kernel
theorem dX8_merges_43 : decode cX8_merges 43 = .ok (.istore 5, 2) := by decide +kernel
theorem dX8_merges_45 : decode cX8_merges 45 = .ok (.iconst 0, 1) := by decide +kernel
theorem dX8_merges_46 : decode cX8_merges 46 = .ok (.istore 6, 2) := by decide +kernel
theorem dX8_merges_48 : decode cX8_merges 48 = .ok (.iload 6, 2) := by decide +kernel
theorem dX8_merges_50 : decode cX8_merges 50 = .ok (.aload_n 0, 1) := by decide +kernel
theorem dX8_merges_51 : decode cX8_merges 51 = .ok (.getfield 127, 3) := by decide +kernel
theorem dX8_merges_54 : decode cX8_merges 54 = .ok (.if_icmp .ge 88, 3) := by decide +kernel
theorem dX8_merges_57 : decode cX8_merges 57 = .ok (.aload_n 0, 1) := by decide +kernel
theorem dX8_merges_58 : decode cX8_merges 58 = .ok (.getfield 101, 3) := by decide +kernel
theorem dX8_merges_61 : decode cX8_merges 61 = .ok (.ifCond .ne 81, 3) := by decide +kernel
theorem dX8_merges_64 : decode cX8_merges 64 = .ok (.aload_n 0, 1) := by decide +kernel
theorem dX8_merges_65 : decode cX8_merges 65 = .ok (.getfield 127, 3) := by decide +kernel
theorem dX8_merges_68 : decode cX8_merges 68 = .ok (.iload 6, 2) := by decide +kernel
theorem dX8_merges_70 : decode cX8_merges 70 = .ok (.isub, 1) := by decide +kernel
theorem dX8_merges_71 : decode cX8_merges 71 = .ok (.iload_n 1, 1) := by decide +kernel
theorem dX8_merges_72 : decode cX8_merges 72 = .ok (.if_icmp .ge 13, 3) := by decide +kernel
theorem dX8_merges_75 : decode cX8_merges 75 = .ok (.aload_n 0, 1) := by decide +kernel
theorem dX8_merges_76 : decode cX8_merges 76 = .ok (.getfield 127, 3) := by decide +kernel
theorem dX8_merges_79 : decode cX8_merges 79 = .ok (.iload 6, 2) := by decide +kernel
theorem dX8_merges_81 : decode cX8_merges 81 = .ok (.isub, 1) := by decide +kernel
theorem dX8_merges_82 : decode cX8_merges 82 = .ok (.goto 4, 3) := by decide +kernel
theorem dX8_merges_85 : decode cX8_merges 85 = .ok (.iload_n 1, 1) := by decide +kernel
theorem dX8_merges_86 : decode cX8_merges 86 = .ok (.istore 7, 2) := by decide +kernel
theorem dX8_merges_88 : decode cX8_merges 88 = .ok (.aload_n 0, 1) := by decide +kernel
theorem dX8_merges_89 : decode cX8_merges 89 = .ok (.getfield 51, 3) := by decide +kernel
theorem dX8_merges_92 : decode cX8_merges 92 = .ok (.iload 4, 2) := by decide +kernel
theorem dX8_merges_94 : decode cX8_merges 94 = .ok (.iload 5, 2) := by decide +kernel
theorem dX8_merges_96 : decode cX8_merges 96 = .ok (.iload_n 3, 1) := by decide +kernel
theorem dX8_merges_97 : decode cX8_merges 97 = .ok (.isub, 1) := by decide +kernel
theorem dX8_merges_98 : decode cX8_merges 98 = .ok (.iastore, 1) := by decide +kernel
theorem dX8_merges_99 : decode cX8_merges 99 = .ok (.iload 7, 2) := by decide +kernel
theorem dX8_merges_101 : decode cX8_merges 101 = .ok (.iconst 1, 1) := by decide +kernel
theorem dX8_merges_102 : decode cX8_merges 102 = .ok (.if_icmp .ne 15, 3) := by decide +kernel
theorem dX8_merges_105 : decode cX8_merges 105 = .ok (.aload_n 0, 1) := by decide +kernel
theorem dX8_merges_106 : decode cX8_merges 106 = .ok (.iload_n 2, 1) := by decide +kernel
theorem dX8_merges_107 : decode cX8_merges 107 = .ok (.iload 6, 2) := by decide +kernel
theorem dX8_merges_109 : decode cX8_merges 109 = .ok (.iload 5, 2) := by decide +kernel
theorem dX8_merges_111 : decode cX8_merges 111 = .ok (.invokevirtual 160, 3) := by decide +kernel
theorem dX8_merges_114 : decode cX8_merges 114 = .ok (.goto 14, 3) := by decide +kernel
theorem dX8_merges_117 : decode cX8_merges 117 = .ok (.aload_n 0, 1) := by decide +kernel
theorem dX8_merges_118 : decode cX8_merges 118 = .ok (.iload_n 2, 1) := by decide +kernel
theorem dX8_merges_119 : decode cX8_merges 119 = .ok (.iload 6, 2) := by decide +kernel
theorem dX8_merges_121 : decode cX8_merges 121 = .ok (.iload 7, 2) := by decide +kernel
theorem dX8_merges_123 : decode cX8_merges 123 = .ok (.iload 5, 2) := by decide +kernel
theorem dX8_merges_125 : decode cX8_merges 125 = .ok (.invokevirtual 163, 3) := by decide +kernel
theorem dX8_merges_128 : decode cX8_merges 128 = .ok (.istore 5, 2) := by decide +kernel
theorem dX8_merges_130 : decode cX8_merges 130 = .ok (.iinc 4 1, 3) := by decide +kernel
theorem dX8_merges_133 : decode cX8_merges 133 = .ok (.iload 6, 2) := by decide +kernel
theorem dX8_merges_135 : decode cX8_merges 135 = .ok (.iload_n 1, 1) := by decide +kernel
theorem dX8_merges_136 : decode cX8_merges 136 = .ok (.iadd, 1) := by decide +kernel
theorem dX8_merges_137 : decode cX8_merges 137 = .ok (.istore 6, 2) := by decide +kernel
theorem dX8_merges_139 : decode cX8_merges 139 = .ok (.goto (-91), 3) := by decide +kernel
theorem dX8_merges_142 : decode cX8_merges 142 = .ok (.aload_n 0, 1) := by decide +kernel
theorem dX8_merges_143 : decode cX8_merges 143 = .ok (.getfield 51, 3) := by decide +kernel
theorem dX8_merges_146 : decode cX8_merges 146 = .ok (.iload 4, 2) := by decide +kernel
theorem dX8_merges_148 : decode cX8_merges 148 = .ok (.iload 5, 2) := by decide +kernel
theorem dX8_merges_150 : decode cX8_merges 150 = .ok (.iload_n 3, 1) := by decide +kernel
theorem dX8_merges_151 : decode cX8_merges 151 = .ok (.isub, 1) := by decide +kernel
theorem dX8_merges_152 : decode cX8_merges 152 = .ok (.iastore, 1) := by decide +kernel
theorem dX8_merges_153 : decode cX8_merges 153 = .ok (.iconst 0, 1) := by decide +kernel
theorem dX8_merges_154 : decode cX8_merges 154 = .ok (.istore 6, 2) := by decide +kernel
theorem dX8_merges_156 : decode cX8_merges 156 = .ok (.iload 6, 2) := by decide +kernel
theorem dX8_merges_158 : decode cX8_merges 158 = .ok (.iload 4, 2) := by decide +kernel
theorem dX8_merges_160 : decode cX8_merges 160 = .ok (.if_icmp .gt 23, 3) := by decide +kernel
theorem dX8_merges_163 : decode cX8_merges 163 = .ok (.aload_n 0, 1) := by decide +kernel
theorem dX8_merges_164 : decode cX8_merges 164 = .ok (.getfield 26, 3) := by decide +kernel
theorem dX8_merges_167 : decode cX8_merges 167 = .ok (.iload 6, 2) := by decide +kernel
theorem dX8_merges_169 : decode cX8_merges 169 = .ok (.aload_n 0, 1) := by decide +kernel
theorem dX8_merges_170 : decode cX8_merges 170 = .ok (.getfield 51, 3) := by decide +kernel
theorem dX8_merges_173 : decode cX8_merges 173 = .ok (.iload 6, 2) := by decide +kernel
theorem dX8_merges_175 : decode cX8_merges 175 = .ok (.iaload, 1) := by decide +kernel
theorem dX8_merges_176 : decode cX8_merges 176 = .ok (.iastore, 1) := by decide +kernel
theorem dX8_merges_177 : decode cX8_merges 177 = .ok (.iinc 6 1, 3) := by decide +kernel
theorem dX8_merges_180 : decode cX8_merges 180 = .ok (.goto (-24), 3) := by decide +kernel
theorem dX8_merges_183 : decode cX8_merges 183 = .ok (.aload_n 0, 1) := by decide +kernel
theorem dX8_merges_184 : decode cX8_merges 184 = .ok (.iload 4, 2) := by decide +kernel
theorem dX8_merges_186 : decode cX8_merges 186 = .ok (.putfield 127, 3) := by decide +kernel
theorem dX8_merges_189 : decode cX8_merges 189 = .ok (.aload_n 0, 1) := by decide +kernel
theorem dX8_merges_190 : decode cX8_merges 190 = .ok (.iload_n 3, 1) := by decide +kernel
theorem dX8_merges_191 : decode cX8_merges 191 = .ok (.putfield 124, 3) := by decide +kernel
theorem dX8_merges_194 : decode cX8_merges 194 = .ok (.goto (-194), 3) := by decide +kernel
theorem dX8_merges_197 : decode cX8_merges 197 = .ok (.return_, 1) := by decide +kernel
theorem dX8_stays_0 : decode cX8_stays 0 = .ok (.iload_n 3, 1) := by decide +kernel
theorem dX8_stays_1 : decode cX8_stays 1 = .ok (.istore 4, 2) := by decide +kernel
theorem dX8_stays_3 : decode cX8_stays 3 = .ok (.aload_n 0, 1) := by decide +kernel
theorem dX8_stays_4 : decode cX8_stays 4 = .ok (.getfield 26, 3) := by decide +kernel
theorem dX8_stays_7 : decode cX8_stays 7 = .ok (.iload_n 2, 1) := by decide +kernel
theorem dX8_stays_8 : decode cX8_stays 8 = .ok (.iaload, 1) := by decide +kernel
theorem dX8_stays_9 : decode cX8_stays 9 = .ok (.istore 5, 2) := by decide +kernel
theorem dX8_stays_11 : decode cX8_stays 11 = .ok (.iload 5, 2) := by decide +kernel
theorem dX8_stays_13 : decode cX8_stays 13 = .ok (.aload_n 0, 1) := by decide +kernel
theorem dX8_stays_14 : decode cX8_stays 14 = .ok (.getfield 26, 3) := by decide +kernel
theorem dX8_stays_17 : decode cX8_stays 17 = .ok (.iload_n 2, 1) := by decide +kernel
theorem dX8_stays_18 : decode cX8_stays 18 = .ok (.iconst 1, 1) := by decide +kernel
theorem dX8_stays_19 : decode cX8_stays 19 = .ok (.iadd, 1) := by decide +kernel
theorem dX8_stays_20 : decode cX8_stays 20 = .ok (.iaload, 1) := by decide +kernel
theorem dX8_stays_21 : decode cX8_stays 21 = .ok (.if_icmp .ge 44, 3) := by decide +kernel
theorem dX8_stays_24 : decode cX8_stays 24 = .ok (.aload_n 0, 1) := by decide +kernel
theorem dX8_stays_25 : decode cX8_stays 25 = .ok (.getfield 20, 3) := by decide +kernel
theorem dX8_stays_28 : decode cX8_stays 28 = .ok (.iload 4, 2) := by decide +kernel
theorem dX8_stays_30 : decode cX8_stays 30 = .ok (.aload_n 0, 1) := by decide +kernel
theorem dX8_stays_31 : decode cX8_stays 31 = .ok (.getfield 20, 3) := by decide +kernel
theorem dX8_stays_34 : decode cX8_stays 34 = .ok (.iload_n 1, 1) := by decide +kernel
theorem dX8_stays_35 : decode cX8_stays 35 = .ok (.iload 5, 2) := by decide +kernel
theorem dX8_stays_37 : decode cX8_stays 37 = .ok (.iadd, 1) := by decide +kernel
theorem dX8_stays_38 : decode cX8_stays 38 = .ok (.iaload, 1) := by decide +kernel
theorem dX8_stays_39 : decode cX8_stays 39 = .ok (.iastore, 1) := by decide +kernel
theorem dX8_stays_40 : decode cX8_stays 40 = .ok (.aload_n 0, 1) := by decide +kernel
theorem dX8_stays_41 : decode cX8_stays 41 = .ok (.getfield 23, 3) := by decide +kernel
theorem dX8_stays_44 : decode cX8_stays 44 = .ok (.iload 4, 2) := by decide +kernel
theorem dX8_stays_46 : decode cX8_stays 46 = .ok (.aload_n 0, 1) := by decide +kernel
theorem dX8_stays_47 : decode cX8_stays 47 = .ok (.getfield 23, 3) := by decide +kernel
theorem dX8_stays_50 : decode cX8_stays 50 = .ok (.iload_n 1, 1) := by decide +kernel
theorem dX8_stays_51 : decode cX8_stays 51 = .ok (.iload 5, 2) := by decide +kernel
theorem dX8_stays_53 : decode cX8_stays 53 = .ok (.iadd, 1) := by decide +kernel
theorem dX8_stays_54 : decode cX8_stays 54 = .ok (.iaload, 1) := by decide +kernel
theorem dX8_stays_55 : decode cX8_stays 55 = .ok (.iastore, 1) := by decide +kernel
theorem dX8_stays_56 : decode cX8_stays 56 = .ok (.iinc 4 1, 3) := by decide +kernel
theorem dX8_stays_59 : decode cX8_stays 59 = .ok (.iinc 5 1, 3) := by decide +kernel
theorem dX8_stays_62 : decode cX8_stays 62 = .ok (.goto (-51), 3) := by decide +kernel
theorem dX8_stays_65 : decode cX8_stays 65 = .ok (.iload 4, 2) := by decide +kernel
theorem dX8_stays_67 : decode cX8_stays 67 = .ok (.ireturn, 1) := by decide +kernel
theorem dX8_readsPage_0 : decode cX8_readsPage 0 = .ok (.aload_n 0, 1) := by decide +kernel
theorem dX8_readsPage_1 : decode cX8_readsPage 1 = .ok (.dup, 1) := by decide +kernel
theorem dX8_readsPage_2 : decode cX8_readsPage 2 = .ok (.getfield 111, 3) := by decide +kernel
theorem dX8_readsPage_5 : decode cX8_readsPage 5 = .ok (.iconst 1, 1) := by decide +kernel
theorem dX8_readsPage_6 : decode cX8_readsPage 6 = .ok (.iadd, 1) := by decide +kernel
theorem dX8_readsPage_7 : decode cX8_readsPage 7 = .ok (.putfield 111, 3) := by decide +kernel
theorem dX8_readsPage_10 : decode cX8_readsPage 10 = .ok (.aload_n 0, 1) := by decide +kernel
theorem dX8_readsPage_11 : decode cX8_readsPage 11 = .ok (.dup, 1) := by decide +kernel
theorem dX8_readsPage_12 : decode cX8_readsPage 12 = .ok (.getfield 91, 3) := by decide +kernel
theorem dX8_readsPage_15 : decode cX8_readsPage 15 = .ok (.iconst 1, 1) := by decide +kernel
theorem dX8_readsPage_16 : decode cX8_readsPage 16 = .ok (.isub, 1) := by decide +kernel
theorem dX8_readsPage_17 : decode cX8_readsPage 17 = .ok (.putfield 91, 3) := by decide +kernel
theorem dX8_readsPage_20 : decode cX8_readsPage 20 = .ok (.return_, 1) := by decide +kernel
theorem dX8_merge_0 : decode cX8_merge 0 = .ok (.iload 4, 2) := by decide +kernel
theorem dX8_merge_2 : decode cX8_merge 2 = .ok (.istore 5, 2) := by decide +kernel
theorem dX8_merge_4 : decode cX8_merge 4 = .ok (.iconst 0, 1) := by decide +kernel
theorem dX8_merge_5 : decode cX8_merge 5 = .ok (.istore 6, 2) := by decide +kernel
theorem dX8_merge_7 : decode cX8_merge 7 = .ok (.iload 6, 2) := by decide +kernel
theorem dX8_merge_9 : decode cX8_merge 9 = .ok (.iload_n 3, 1) := by decide +kernel
theorem dX8_merge_10 : decode cX8_merge 10 = .ok (.if_icmp .ge 51, 3) := by decide +kernel
theorem dX8_merge_13 : decode cX8_merge 13 = .ok (.aload_n 0, 1) := by decide +kernel
theorem dX8_merge_14 : decode cX8_merge 14 = .ok (.getfield 54, 3) := by decide +kernel
theorem dX8_merge_17 : decode cX8_merge 17 = .ok (.iload 6, 2) := by decide +kernel
theorem dX8_merge_19 : decode cX8_merge 19 = .ok (.iload_n 1, 1) := by decide +kernel
theorem dX8_merge_20 : decode cX8_merge 20 = .ok (.aload_n 0, 1) := by decide +kernel
theorem dX8_merge_21 : decode cX8_merge 21 = .ok (.getfield 26, 3) := by decide +kernel
theorem dX8_merge_24 : decode cX8_merge 24 = .ok (.iload_n 2, 1) := by decide +kernel
theorem dX8_merge_25 : decode cX8_merge 25 = .ok (.iload 6, 2) := by decide +kernel
theorem dX8_merge_27 : decode cX8_merge 27 = .ok (.iadd, 1) := by decide +kernel
theorem dX8_merge_28 : decode cX8_merge 28 = .ok (.iaload, 1) := by decide +kernel
theorem dX8_merge_29 : decode cX8_merge 29 = .ok (.iadd, 1) := by decide +kernel
theorem dX8_merge_30 : decode cX8_merge 30 = .ok (.iastore, 1) := by decide +kernel
theorem dX8_merge_31 : decode cX8_merge 31 = .ok (.aload_n 0, 1) := by decide +kernel
theorem dX8_merge_32 : decode cX8_merge 32 = .ok (.getfield 57, 3) := by decide +kernel
theorem dX8_merge_35 : decode cX8_merge 35 = .ok (.iload 6, 2) := by decide +kernel
theorem dX8_merge_37 : decode cX8_merge 37 = .ok (.iload_n 1, 1) := by decide +kernel
theorem dX8_merge_38 : decode cX8_merge 38 = .ok (.aload_n 0, 1) := by decide +kernel
theorem dX8_merge_39 : decode cX8_merge 39 = .ok (.getfield 26, 3) := by decide +kernel
theorem dX8_merge_42 : decode cX8_merge 42 = .ok (.iload_n 2, 1) := by decide +kernel
theorem dX8_merge_43 : decode cX8_merge 43 = .ok (.iload 6, 2) := by decide +kernel
theorem dX8_merge_45 : decode cX8_merge 45 = .ok (.iadd, 1) := by decide +kernel
theorem dX8_merge_46 : decode cX8_merge 46 = .ok (.iconst 1, 1) := by decide +kernel
theorem dX8_merge_47 : decode cX8_merge 47 = .ok (.iadd, 1) := by decide +kernel
theorem dX8_merge_48 : decode cX8_merge 48 = .ok (.iaload, 1) := by decide +kernel
theorem dX8_merge_49 : decode cX8_merge 49 = .ok (.iadd, 1) := by decide +kernel
theorem dX8_merge_50 : decode cX8_merge 50 = .ok (.iastore, 1) := by decide +kernel
theorem dX8_merge_51 : decode cX8_merge 51 = .ok (.aload_n 0, 1) := by decide +kernel
theorem dX8_merge_52 : decode cX8_merge 52 = .ok (.invokevirtual 166, 3) := by decide +kernel
theorem dX8_merge_55 : decode cX8_merge 55 = .ok (.iinc 6 1, 3) := by decide +kernel
theorem dX8_merge_58 : decode cX8_merge 58 = .ok (.goto (-51), 3) := by decide +kernel
theorem dX8_merge_61 : decode cX8_merge 61 = .ok (.aload_n 0, 1) := by decide +kernel
theorem dX8_merge_62 : decode cX8_merge 62 = .ok (.iload_n 3, 1) := by decide +kernel
theorem dX8_merge_63 : decode cX8_merge 63 = .ok (.invokevirtual 169, 3) := by decide +kernel
theorem dX8_merge_66 : decode cX8_merge 66 = .ok (.istore 6, 2) := by decide +kernel
theorem dX8_merge_68 : decode cX8_merge 68 = .ok (.iload 6, 2) := by decide +kernel
theorem dX8_merge_70 : decode cX8_merge 70 = .ok (.ifCond .lt 121, 3) := by decide +kernel
theorem dX8_merge_73 : decode cX8_merge 73 = .ok (.aload_n 0, 1) := by decide +kernel
theorem dX8_merge_74 : decode cX8_merge 74 = .ok (.getfield 101, 3) := by decide +kernel
theorem dX8_merge_77 : decode cX8_merge 77 = .ok (.ifCond .ne 114, 3) := by decide +kernel
theorem dX8_merge_80 : decode cX8_merge 80 = .ok (.aload_n 0, 1) := by decide +kernel
theorem dX8_merge_81 : decode cX8_merge 81 = .ok (.getfield 20, 3) := by decide +kernel
theorem dX8_merge_84 : decode cX8_merge 84 = .ok (.aload_n 0, 1) := by decide +kernel
theorem dX8_merge_85 : decode cX8_merge 85 = .ok (.getfield 54, 3) := by decide +kernel
theorem dX8_merge_88 : decode cX8_merge 88 = .ok (.iload 6, 2) := by decide +kernel
theorem dX8_merge_90 : decode cX8_merge 90 = .ok (.iaload, 1) := by decide +kernel
theorem dX8_merge_91 : decode cX8_merge 91 = .ok (.iaload, 1) := by decide +kernel
theorem dX8_merge_92 : decode cX8_merge 92 = .ok (.istore 7, 2) := by decide +kernel
theorem dX8_merge_94 : decode cX8_merge 94 = .ok (.aload_n 0, 1) := by decide +kernel
theorem dX8_merge_95 : decode cX8_merge 95 = .ok (.getfield 23, 3) := by decide +kernel
theorem dX8_merge_98 : decode cX8_merge 98 = .ok (.aload_n 0, 1) := by decide +kernel
theorem dX8_merge_99 : decode cX8_merge 99 = .ok (.getfield 54, 3) := by decide +kernel
theorem dX8_merge_102 : decode cX8_merge 102 = .ok (.iload 6, 2) := by decide +kernel
theorem dX8_merge_104 : decode cX8_merge 104 = .ok (.iaload, 1) := by decide +kernel
theorem dX8_merge_105 : decode cX8_merge 105 = .ok (.iaload, 1) := by decide +kernel
theorem dX8_merge_106 : decode cX8_merge 106 = .ok (.istore 8, 2) := by decide +kernel
theorem dX8_merge_108 : decode cX8_merge 108 = .ok (.aload_n 0, 1) := by decide +kernel
theorem dX8_merge_109 : decode cX8_merge 109 = .ok (.getfield 54, 3) := by decide +kernel
theorem dX8_merge_112 : decode cX8_merge 112 = .ok (.iload 6, 2) := by decide +kernel
theorem dX8_merge_114 : decode cX8_merge 114 = .ok (.dup2, 1) := by decide +kernel
theorem dX8_merge_115 : decode cX8_merge 115 = .ok (.iaload, 1) := by decide +kernel
theorem dX8_merge_116 : decode cX8_merge 116 = .ok (.iconst 1, 1) := by decide +kernel
theorem dX8_merge_117 : decode cX8_merge 117 = .ok (.iadd, 1) := by decide +kernel
theorem dX8_merge_118 : decode cX8_merge 118 = .ok (.iastore, 1) := by decide +kernel
theorem dX8_merge_119 : decode cX8_merge 119 = .ok (.aload_n 0, 1) := by decide +kernel
theorem dX8_merge_120 : decode cX8_merge 120 = .ok (.getfield 54, 3) := by decide +kernel
theorem dX8_merge_123 : decode cX8_merge 123 = .ok (.iload 6, 2) := by decide +kernel
theorem dX8_merge_125 : decode cX8_merge 125 = .ok (.iaload, 1) := by decide +kernel
theorem dX8_merge_126 : decode cX8_merge 126 = .ok (.aload_n 0, 1) := by decide +kernel
theorem dX8_merge_127 : decode cX8_merge 127 = .ok (.getfield 57, 3) := by decide +kernel
theorem dX8_merge_130 : decode cX8_merge 130 = .ok (.iload 6, 2) := by decide +kernel
theorem dX8_merge_132 : decode cX8_merge 132 = .ok (.iaload, 1) := by decide +kernel
theorem dX8_merge_133 : decode cX8_merge 133 = .ok (.if_icmp .ge 34, 3) := by decide +kernel
theorem dX8_merge_136 : decode cX8_merge 136 = .ok (.aload_n 0, 1) := by decide +kernel
theorem dX8_merge_137 : decode cX8_merge 137 = .ok (.getfield 54, 3) := by decide +kernel
theorem dX8_merge_140 : decode cX8_merge 140 = .ok (.iload 6, 2) := by decide +kernel
theorem dX8_merge_142 : decode cX8_merge 142 = .ok (.iaload, 1) := by decide +kernel
theorem dX8_merge_143 : decode cX8_merge 143 = .ok (.iload_n 1, 1) := by decide +kernel
theorem dX8_merge_144 : decode cX8_merge 144 = .ok (.isub, 1) := by decide +kernel
theorem dX8_merge_145 : decode cX8_merge 145 = .ok (.aload_n 0, 1) := by decide +kernel
theorem dX8_merge_146 : decode cX8_merge 146 = .ok (.getfield 26, 3) := by decide +kernel
theorem dX8_merge_149 : decode cX8_merge 149 = .ok (.iload_n 2, 1) := by decide +kernel
theorem dX8_merge_150 : decode cX8_merge 150 = .ok (.iload 6, 2) := by decide +kernel
theorem dX8_merge_152 : decode cX8_merge 152 = .ok (.iadd, 1) := by decide +kernel
theorem dX8_merge_153 : decode cX8_merge 153 = .ok (.iaload, 1) := by decide +kernel
theorem dX8_merge_154 : decode cX8_merge 154 = .ok (.isub, 1) := by decide +kernel
theorem dX8_merge_155 : decode cX8_merge 155 = .ok (.aload_n 0, 1) := by decide +kernel
theorem dX8_merge_156 : decode cX8_merge 156 = .ok (.getfield 80, 3) := by decide +kernel
theorem dX8_merge_159 : decode cX8_merge 159 = .ok (.irem, 1) := by decide +kernel
theorem dX8_merge_160 : decode cX8_merge 160 = .ok (.ifCond .ne 7, 3) := by decide +kernel
theorem dX8_merge_163 : decode cX8_merge 163 = .ok (.aload_n 0, 1) := by decide +kernel
theorem dX8_merge_164 : decode cX8_merge 164 = .ok (.invokevirtual 166, 3) := by decide +kernel
theorem dX8_merge_167 : decode cX8_merge 167 = .ok (.aload_n 0, 1) := by decide +kernel
theorem dX8_merge_168 : decode cX8_merge 168 = .ok (.iload 5, 2) := by decide +kernel
theorem dX8_merge_170 : decode cX8_merge 170 = .ok (.iload 4, 2) := by decide +kernel
theorem dX8_merge_172 : decode cX8_merge 172 = .ok (.iload 7, 2) := by decide +kernel
theorem dX8_merge_174 : decode cX8_merge 174 = .ok (.iload 8, 2) := by decide +kernel
theorem dX8_merge_176 : decode cX8_merge 176 = .ok (.invokevirtual 141, 3) := by decide +kernel
theorem dX8_merge_179 : decode cX8_merge 179 = .ok (.istore 5, 2) := by decide +kernel
theorem dX8_merge_181 : decode cX8_merge 181 = .ok (.aload_n 0, 1) := by decide +kernel
theorem dX8_merge_182 : decode cX8_merge 182 = .ok (.iload_n 3, 1) := by decide +kernel
theorem dX8_merge_183 : decode cX8_merge 183 = .ok (.invokevirtual 169, 3) := by decide +kernel
theorem dX8_merge_186 : decode cX8_merge 186 = .ok (.istore 6, 2) := by decide +kernel
theorem dX8_merge_188 : decode cX8_merge 188 = .ok (.goto (-120), 3) := by decide +kernel
theorem dX8_merge_191 : decode cX8_merge 191 = .ok (.iload 5, 2) := by decide +kernel
theorem dX8_merge_193 : decode cX8_merge 193 = .ok (.iload 4, 2) := by decide +kernel
theorem dX8_merge_195 : decode cX8_merge 195 = .ok (.isub, 1) := by decide +kernel
theorem dX8_merge_196 : decode cX8_merge 196 = .ok (.aload_n 0, 1) := by decide +kernel
theorem dX8_merge_197 : decode cX8_merge 197 = .ok (.getfield 80, 3) := by decide +kernel
theorem dX8_merge_200 : decode cX8_merge 200 = .ok (.irem, 1) := by decide +kernel
theorem dX8_merge_201 : decode cX8_merge 201 = .ok (.ifCond .eq 14, 3) := by decide +kernel
theorem dX8_merge_204 : decode cX8_merge 204 = .ok (.aload_n 0, 1) := by decide +kernel
theorem dX8_merge_205 : decode cX8_merge 205 = .ok (.getfield 101, 3) := by decide +kernel
theorem dX8_merge_208 : decode cX8_merge 208 = .ok (.ifCond .ne 7, 3) := by decide +kernel
theorem dX8_merge_211 : decode cX8_merge 211 = .ok (.aload_n 0, 1) := by decide +kernel
theorem dX8_merge_212 : decode cX8_merge 212 = .ok (.invokevirtual 151, 3) := by decide +kernel
theorem dX8_merge_215 : decode cX8_merge 215 = .ok (.iload 5, 2) := by decide +kernel
theorem dX8_merge_217 : decode cX8_merge 217 = .ok (.ireturn, 1) := by decide +kernel
theorem dX8_leastOf_0 : decode cX8_leastOf 0 = .ok (.iconst (-1), 1) := by decide +kernel
theorem dX8_leastOf_1 : decode cX8_leastOf 1 = .ok (.istore_n 2, 1) := by decide +kernel
theorem dX8_leastOf_2 : decode cX8_leastOf 2 = .ok (.iconst 0, 1) := by decide +kernel
theorem dX8_leastOf_3 : decode cX8_leastOf 3 = .ok (.istore_n 3, 1) := by decide +kernel
theorem dX8_leastOf_4 : decode cX8_leastOf 4 = .ok (.iload_n 3, 1) := by decide +kernel
theorem dX8_leastOf_5 : decode cX8_leastOf 5 = .ok (.iload_n 1, 1) := by decide +kernel
theorem dX8_leastOf_6 : decode cX8_leastOf 6 = .ok (.if_icmp .ge 81, 3) := by decide +kernel
theorem dX8_leastOf_9 : decode cX8_leastOf 9 = .ok (.aload_n 0, 1) := by decide +kernel
theorem dX8_leastOf_10 : decode cX8_leastOf 10 = .ok (.getfield 54, 3) := by decide +kernel
theorem dX8_leastOf_13 : decode cX8_leastOf 13 = .ok (.iload_n 3, 1) := by decide +kernel
theorem dX8_leastOf_14 : decode cX8_leastOf 14 = .ok (.iaload, 1) := by decide +kernel
theorem dX8_leastOf_15 : decode cX8_leastOf 15 = .ok (.aload_n 0, 1) := by decide +kernel
theorem dX8_leastOf_16 : decode cX8_leastOf 16 = .ok (.getfield 57, 3) := by decide +kernel
theorem dX8_leastOf_19 : decode cX8_leastOf 19 = .ok (.iload_n 3, 1) := by decide +kernel
theorem dX8_leastOf_20 : decode cX8_leastOf 20 = .ok (.iaload, 1) := by decide +kernel
theorem dX8_leastOf_21 : decode cX8_leastOf 21 = .ok (.if_icmp .ge 60, 3) := by decide +kernel
theorem dX8_leastOf_24 : decode cX8_leastOf 24 = .ok (.iload_n 2, 1) := by decide +kernel
theorem dX8_leastOf_25 : decode cX8_leastOf 25 = .ok (.ifCond .lt 54, 3) := by decide +kernel
theorem dX8_leastOf_28 : decode cX8_leastOf 28 = .ok (.aload_n 0, 1) := by decide +kernel
theorem dX8_leastOf_29 : decode cX8_leastOf 29 = .ok (.aload_n 0, 1) := by decide +kernel
theorem dX8_leastOf_30 : decode cX8_leastOf 30 = .ok (.getfield 20, 3) := by decide +kernel
theorem dX8_leastOf_33 : decode cX8_leastOf 33 = .ok (.aload_n 0, 1) := by decide +kernel
theorem dX8_leastOf_34 : decode cX8_leastOf 34 = .ok (.getfield 54, 3) := by decide +kernel
theorem dX8_leastOf_37 : decode cX8_leastOf 37 = .ok (.iload_n 3, 1) := by decide +kernel
theorem dX8_leastOf_38 : decode cX8_leastOf 38 = .ok (.iaload, 1) := by decide +kernel
theorem dX8_leastOf_39 : decode cX8_leastOf 39 = .ok (.iaload, 1) := by decide +kernel
theorem dX8_leastOf_40 : decode cX8_leastOf 40 = .ok (.aload_n 0, 1) := by decide +kernel
theorem dX8_leastOf_41 : decode cX8_leastOf 41 = .ok (.getfield 23, 3) := by decide +kernel
theorem dX8_leastOf_44 : decode cX8_leastOf 44 = .ok (.aload_n 0, 1) := by decide +kernel
theorem dX8_leastOf_45 : decode cX8_leastOf 45 = .ok (.getfield 54, 3) := by decide +kernel
theorem dX8_leastOf_48 : decode cX8_leastOf 48 = .ok (.iload_n 3, 1) := by decide +kernel
theorem dX8_leastOf_49 : decode cX8_leastOf 49 = .ok (.iaload, 1) := by decide +kernel
theorem dX8_leastOf_50 : decode cX8_leastOf 50 = .ok (.iaload, 1) := by decide +kernel
theorem dX8_leastOf_51 : decode cX8_leastOf 51 = .ok (.aload_n 0, 1) := by decide +kernel
theorem dX8_leastOf_52 : decode cX8_leastOf 52 = .ok (.getfield 20, 3) := by decide +kernel
theorem dX8_leastOf_55 : decode cX8_leastOf 55 = .ok (.aload_n 0, 1) := by decide +kernel
theorem dX8_leastOf_56 : decode cX8_leastOf 56 = .ok (.getfield 54, 3) := by decide +kernel
theorem dX8_leastOf_59 : decode cX8_leastOf 59 = .ok (.iload_n 2, 1) := by decide +kernel
theorem dX8_leastOf_60 : decode cX8_leastOf 60 = .ok (.iaload, 1) := by decide +kernel
theorem dX8_leastOf_61 : decode cX8_leastOf 61 = .ok (.iaload, 1) := by decide +kernel
theorem dX8_leastOf_62 : decode cX8_leastOf 62 = .ok (.aload_n 0, 1) := by decide +kernel
theorem dX8_leastOf_63 : decode cX8_leastOf 63 = .ok (.getfield 23, 3) := by decide +kernel
theorem dX8_leastOf_66 : decode cX8_leastOf 66 = .ok (.aload_n 0, 1) := by decide +kernel
theorem dX8_leastOf_67 : decode cX8_leastOf 67 = .ok (.getfield 54, 3) := by decide +kernel
theorem dX8_leastOf_70 : decode cX8_leastOf 70 = .ok (.iload_n 2, 1) := by decide +kernel
theorem dX8_leastOf_71 : decode cX8_leastOf 71 = .ok (.iaload, 1) := by decide +kernel
theorem dX8_leastOf_72 : decode cX8_leastOf 72 = .ok (.iaload, 1) := by decide +kernel
theorem dX8_leastOf_73 : decode cX8_leastOf 73 = .ok (.invokevirtual 120, 3) := by decide +kernel
theorem dX8_leastOf_76 : decode cX8_leastOf 76 = .ok (.ifCond .eq 5, 3) := by decide +kernel
theorem dX8_leastOf_79 : decode cX8_leastOf 79 = .ok (.iload_n 3, 1) := by decide +kernel
theorem dX8_leastOf_80 : decode cX8_leastOf 80 = .ok (.istore_n 2, 1) := by decide +kernel
theorem dX8_leastOf_81 : decode cX8_leastOf 81 = .ok (.iinc 3 1, 3) := by decide +kernel
theorem dX8_leastOf_84 : decode cX8_leastOf 84 = .ok (.goto (-80), 3) := by decide +kernel
theorem dX8_leastOf_87 : decode cX8_leastOf 87 = .ok (.iload_n 2, 1) := by decide +kernel
theorem dX8_leastOf_88 : decode cX8_leastOf 88 = .ok (.ireturn, 1) := by decide +kernel
theorem dX8_begins_0 : decode cX8_begins 0 = .ok (.aload_n 0, 1) := by decide +kernel
theorem dX8_begins_1 : decode cX8_begins 1 = .ok (.iconst 0, 1) := by decide +kernel
theorem dX8_begins_2 : decode cX8_begins 2 = .ok (.putfield 111, 3) := by decide +kernel
theorem dX8_begins_5 : decode cX8_begins 5 = .ok (.aload_n 0, 1) := by decide +kernel
theorem dX8_begins_6 : decode cX8_begins 6 = .ok (.iconst 0, 1) := by decide +kernel
theorem dX8_begins_7 : decode cX8_begins 7 = .ok (.putfield 105, 3) := by decide +kernel
theorem dX8_begins_10 : decode cX8_begins 10 = .ok (.aload_n 0, 1) := by decide +kernel
theorem dX8_begins_11 : decode cX8_begins 11 = .ok (.iconst 0, 1) := by decide +kernel
theorem dX8_begins_12 : decode cX8_begins 12 = .ok (.putfield 145, 3) := by decide +kernel
theorem dX8_begins_15 : decode cX8_begins 15 = .ok (.aload_n 0, 1) := by decide +kernel
theorem dX8_begins_16 : decode cX8_begins 16 = .ok (.iconst 0, 1) := by decide +kernel
theorem dX8_begins_17 : decode cX8_begins 17 = .ok (.putfield 157, 3) := by decide +kernel
theorem dX8_begins_20 : decode cX8_begins 20 = .ok (.aload_n 0, 1) := by decide +kernel
theorem dX8_begins_21 : decode cX8_begins 21 = .ok (.aload_n 0, 1) := by decide +kernel
theorem dX8_begins_22 : decode cX8_begins 22 = .ok (.getfield 91, 3) := by decide +kernel
theorem dX8_begins_25 : decode cX8_begins 25 = .ok (.putfield 108, 3) := by decide +kernel
theorem dX8_begins_28 : decode cX8_begins 28 = .ok (.aload_n 0, 1) := by decide +kernel
theorem dX8_begins_29 : decode cX8_begins 29 = .ok (.iconst 0, 1) := by decide +kernel
theorem dX8_begins_30 : decode cX8_begins 30 = .ok (.putfield 101, 3) := by decide +kernel
theorem dX8_begins_33 : decode cX8_begins 33 = .ok (.aload_n 0, 1) := by decide +kernel
theorem dX8_begins_34 : decode cX8_begins 34 = .ok (.iconst 0, 1) := by decide +kernel
theorem dX8_begins_35 : decode cX8_begins 35 = .ok (.putfield 154, 3) := by decide +kernel
theorem dX8_begins_38 : decode cX8_begins 38 = .ok (.return_, 1) := by decide +kernel
theorem dX8_sorted_0 : decode cX8_sorted 0 = .ok (.aload_n 0, 1) := by decide +kernel
theorem dX8_sorted_1 : decode cX8_sorted 1 = .ok (.iload_n 3, 1) := by decide +kernel
theorem dX8_sorted_2 : decode cX8_sorted 2 = .ok (.putfield 98, 3) := by decide +kernel
theorem dX8_sorted_5 : decode cX8_sorted 5 = .ok (.aload_n 0, 1) := by decide +kernel
theorem dX8_sorted_6 : decode cX8_sorted 6 = .ok (.iload 4, 2) := by decide +kernel
theorem dX8_sorted_8 : decode cX8_sorted 8 = .ok (.putfield 148, 3) := by decide +kernel
