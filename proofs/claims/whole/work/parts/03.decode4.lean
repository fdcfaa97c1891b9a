theorem dX8_sorted_11 : decode cX8_sorted 11 = .ok (.aload_n 0, 1) := by decide +kernel
theorem dX8_sorted_12 : decode cX8_sorted 12 = .ok (.iload_n 1, 1) := by decide +kernel
theorem dX8_sorted_13 : decode cX8_sorted 13 = .ok (.iload_n 2, 1) := by decide +kernel
theorem dX8_sorted_14 : decode cX8_sorted 14 = .ok (.iconst 2, 1) := by decide +kernel
theorem dX8_sorted_15 : decode cX8_sorted 15 = .ok (.isub, 1) := by decide +kernel
theorem dX8_sorted_16 : decode cX8_sorted 16 = .ok (.aload_n 0, 1) := by decide +kernel
theorem dX8_sorted_17 : decode cX8_sorted 17 = .ok (.getfield 80, 3) := by decide +kernel
theorem dX8_sorted_20 : decode cX8_sorted 20 = .ok (.imul, 1) := by decide +kernel
theorem dX8_sorted_21 : decode cX8_sorted 21 = .ok (.invokevirtual 172, 3) := by decide +kernel
theorem dX8_sorted_24 : decode cX8_sorted 24 = .ok (.aload_n 0, 1) := by decide +kernel
theorem dX8_sorted_25 : decode cX8_sorted 25 = .ok (.iload_n 2, 1) := by decide +kernel
theorem dX8_sorted_26 : decode cX8_sorted 26 = .ok (.iconst 1, 1) := by decide +kernel
theorem dX8_sorted_27 : decode cX8_sorted 27 = .ok (.isub, 1) := by decide +kernel
theorem dX8_sorted_28 : decode cX8_sorted 28 = .ok (.invokevirtual 176, 3) := by decide +kernel
theorem dX8_sorted_31 : decode cX8_sorted 31 = .ok (.aload_n 0, 1) := by decide +kernel
theorem dX8_sorted_32 : decode cX8_sorted 32 = .ok (.getfield 127, 3) := by decide +kernel
theorem dX8_sorted_35 : decode cX8_sorted 35 = .ok (.ifCond .ne 7, 3) := by decide +kernel
theorem dX8_sorted_38 : decode cX8_sorted 38 = .ok (.iconst 0, 1) := by decide +kernel
theorem dX8_sorted_39 : decode cX8_sorted 39 = .ok (.goto 9, 3) := by decide +kernel
theorem dX8_sorted_42 : decode cX8_sorted 42 = .ok (.aload_n 0, 1) := by decide +kernel
theorem dX8_sorted_43 : decode cX8_sorted 43 = .ok (.getfield 26, 3) := by decide +kernel
theorem dX8_sorted_46 : decode cX8_sorted 46 = .ok (.iconst 1, 1) := by decide +kernel
theorem dX8_sorted_47 : decode cX8_sorted 47 = .ok (.iaload, 1) := by decide +kernel
theorem dX8_sorted_48 : decode cX8_sorted 48 = .ok (.ireturn, 1) := by decide +kernel
theorem dX8_tells_0 : decode cX8_tells 0 = .ok (.aload_n 0, 1) := by decide +kernel
theorem dX8_tells_1 : decode cX8_tells 1 = .ok (.getfield 45, 3) := by decide +kernel
theorem dX8_tells_4 : decode cX8_tells 4 = .ok (.iconst 0, 1) := by decide +kernel
theorem dX8_tells_5 : decode cX8_tells 5 = .ok (.aload_n 0, 1) := by decide +kernel
theorem dX8_tells_6 : decode cX8_tells 6 = .ok (.getfield 111, 3) := by decide +kernel
theorem dX8_tells_9 : decode cX8_tells 9 = .ok (.aload_n 0, 1) := by decide +kernel
theorem dX8_tells_10 : decode cX8_tells 10 = .ok (.getfield 105, 3) := by decide +kernel
theorem dX8_tells_13 : decode cX8_tells 13 = .ok (.iadd, 1) := by decide +kernel
theorem dX8_tells_14 : decode cX8_tells 14 = .ok (.iastore, 1) := by decide +kernel
theorem dX8_tells_15 : decode cX8_tells 15 = .ok (.aload_n 0, 1) := by decide +kernel
theorem dX8_tells_16 : decode cX8_tells 16 = .ok (.getfield 45, 3) := by decide +kernel
theorem dX8_tells_19 : decode cX8_tells 19 = .ok (.iconst 1, 1) := by decide +kernel
theorem dX8_tells_20 : decode cX8_tells 20 = .ok (.aload_n 0, 1) := by decide +kernel
theorem dX8_tells_21 : decode cX8_tells 21 = .ok (.getfield 111, 3) := by decide +kernel
theorem dX8_tells_24 : decode cX8_tells 24 = .ok (.iastore, 1) := by decide +kernel
theorem dX8_tells_25 : decode cX8_tells 25 = .ok (.aload_n 0, 1) := by decide +kernel
theorem dX8_tells_26 : decode cX8_tells 26 = .ok (.getfield 45, 3) := by decide +kernel
theorem dX8_tells_29 : decode cX8_tells 29 = .ok (.iconst 2, 1) := by decide +kernel
theorem dX8_tells_30 : decode cX8_tells 30 = .ok (.aload_n 0, 1) := by decide +kernel
theorem dX8_tells_31 : decode cX8_tells 31 = .ok (.getfield 105, 3) := by decide +kernel
theorem dX8_tells_34 : decode cX8_tells 34 = .ok (.iastore, 1) := by decide +kernel
theorem dX8_tells_35 : decode cX8_tells 35 = .ok (.aload_n 0, 1) := by decide +kernel
theorem dX8_tells_36 : decode cX8_tells 36 = .ok (.getfield 45, 3) := by decide +kernel
theorem dX8_tells_39 : decode cX8_tells 39 = .ok (.iconst 3, 1) := by decide +kernel
theorem dX8_tells_40 : decode cX8_tells 40 = .ok (.aload_n 0, 1) := by decide +kernel
theorem dX8_tells_41 : decode cX8_tells 41 = .ok (.getfield 145, 3) := by decide +kernel
theorem dX8_tells_44 : decode cX8_tells 44 = .ok (.iastore, 1) := by decide +kernel
theorem dX8_tells_45 : decode cX8_tells 45 = .ok (.aload_n 0, 1) := by decide +kernel
theorem dX8_tells_46 : decode cX8_tells 46 = .ok (.getfield 45, 3) := by decide +kernel
theorem dX8_tells_49 : decode cX8_tells 49 = .ok (.iconst 4, 1) := by decide +kernel
theorem dX8_tells_50 : decode cX8_tells 50 = .ok (.aload_n 0, 1) := by decide +kernel
theorem dX8_tells_51 : decode cX8_tells 51 = .ok (.getfield 157, 3) := by decide +kernel
theorem dX8_tells_54 : decode cX8_tells 54 = .ok (.iastore, 1) := by decide +kernel
theorem dX8_tells_55 : decode cX8_tells 55 = .ok (.aload_n 0, 1) := by decide +kernel
theorem dX8_tells_56 : decode cX8_tells 56 = .ok (.getfield 45, 3) := by decide +kernel
theorem dX8_tells_59 : decode cX8_tells 59 = .ok (.iconst 5, 1) := by decide +kernel
theorem dX8_tells_60 : decode cX8_tells 60 = .ok (.aload_n 0, 1) := by decide +kernel
theorem dX8_tells_61 : decode cX8_tells 61 = .ok (.getfield 108, 3) := by decide +kernel
theorem dX8_tells_64 : decode cX8_tells 64 = .ok (.iastore, 1) := by decide +kernel
theorem dX8_tells_65 : decode cX8_tells 65 = .ok (.aload_n 0, 1) := by decide +kernel
theorem dX8_tells_66 : decode cX8_tells 66 = .ok (.aload_n 0, 1) := by decide +kernel
theorem dX8_tells_67 : decode cX8_tells 67 = .ok (.getfield 154, 3) := by decide +kernel
theorem dX8_tells_70 : decode cX8_tells 70 = .ok (.putfield 180, 3) := by decide +kernel
theorem dX8_tells_73 : decode cX8_tells 73 = .ok (.iconst 0, 1) := by decide +kernel
theorem dX8_tells_74 : decode cX8_tells 74 = .ok (.istore_n 1, 1) := by decide +kernel
theorem dX8_tells_75 : decode cX8_tells 75 = .ok (.iload_n 1, 1) := by decide +kernel
theorem dX8_tells_76 : decode cX8_tells 76 = .ok (.aload_n 0, 1) := by decide +kernel
theorem dX8_tells_77 : decode cX8_tells 77 = .ok (.getfield 154, 3) := by decide +kernel
theorem dX8_tells_80 : decode cX8_tells 80 = .ok (.if_icmp .ge 21, 3) := by decide +kernel
theorem dX8_tells_83 : decode cX8_tells 83 = .ok (.aload_n 0, 1) := by decide +kernel
theorem dX8_tells_84 : decode cX8_tells 84 = .ok (.getfield 48, 3) := by decide +kernel
theorem dX8_tells_87 : decode cX8_tells 87 = .ok (.iload_n 1, 1) := by decide +kernel
theorem dX8_tells_88 : decode cX8_tells 88 = .ok (.aload_n 0, 1) := by decide +kernel
theorem dX8_tells_89 : decode cX8_tells 89 = .ok (.getfield 29, 3) := by decide +kernel
theorem dX8_tells_92 : decode cX8_tells 92 = .ok (.iload_n 1, 1) := by decide +kernel
theorem dX8_tells_93 : decode cX8_tells 93 = .ok (.iaload, 1) := by decide +kernel
theorem dX8_tells_94 : decode cX8_tells 94 = .ok (.iastore, 1) := by decide +kernel
theorem dX8_tells_95 : decode cX8_tells 95 = .ok (.iinc 1 1, 3) := by decide +kernel
theorem dX8_tells_98 : decode cX8_tells 98 = .ok (.goto (-23), 3) := by decide +kernel
theorem dX8_tells_101 : decode cX8_tells 101 = .ok (.return_, 1) := by decide +kernel
theorem dX8_sorts_0 : decode cX8_sorts 0 = .ok (.aload_n 0, 1) := by decide +kernel
theorem dX8_sorts_1 : decode cX8_sorts 1 = .ok (.getfield 91, 3) := by decide +kernel
theorem dX8_sorts_4 : decode cX8_sorts 4 = .ok (.istore 6, 2) := by decide +kernel
theorem dX8_sorts_6 : decode cX8_sorts 6 = .ok (.aload_n 0, 1) := by decide +kernel
theorem dX8_sorts_7 : decode cX8_sorts 7 = .ok (.invokevirtual 183, 3) := by decide +kernel
theorem dX8_sorts_10 : decode cX8_sorts 10 = .ok (.aload_n 0, 1) := by decide +kernel
theorem dX8_sorts_11 : decode cX8_sorts 11 = .ok (.iload_n 1, 1) := by decide +kernel
theorem dX8_sorts_12 : decode cX8_sorts 12 = .ok (.iload_n 3, 1) := by decide +kernel
theorem dX8_sorts_13 : decode cX8_sorts 13 = .ok (.iload 4, 2) := by decide +kernel
theorem dX8_sorts_15 : decode cX8_sorts 15 = .ok (.iload 5, 2) := by decide +kernel
theorem dX8_sorts_17 : decode cX8_sorts 17 = .ok (.invokevirtual 186, 3) := by decide +kernel
theorem dX8_sorts_20 : decode cX8_sorts 20 = .ok (.istore 7, 2) := by decide +kernel
theorem dX8_sorts_22 : decode cX8_sorts 22 = .ok (.aload_n 0, 1) := by decide +kernel
theorem dX8_sorts_23 : decode cX8_sorts 23 = .ok (.getfield 101, 3) := by decide +kernel
theorem dX8_sorts_26 : decode cX8_sorts 26 = .ok (.ifCond .eq 12, 3) := by decide +kernel
theorem dX8_sorts_29 : decode cX8_sorts 29 = .ok (.aload_n 0, 1) := by decide +kernel
theorem dX8_sorts_30 : decode cX8_sorts 30 = .ok (.iload 6, 2) := by decide +kernel
theorem dX8_sorts_32 : decode cX8_sorts 32 = .ok (.putfield 91, 3) := by decide +kernel
theorem dX8_sorts_35 : decode cX8_sorts 35 = .ok (.bipush (-2), 2) := by decide +kernel
theorem dX8_sorts_37 : decode cX8_sorts 37 = .ok (.ireturn, 1) := by decide +kernel
theorem dX8_sorts_38 : decode cX8_sorts 38 = .ok (.aload_n 0, 1) := by decide +kernel
theorem dX8_sorts_39 : decode cX8_sorts 39 = .ok (.dup, 1) := by decide +kernel
theorem dX8_sorts_40 : decode cX8_sorts 40 = .ok (.getfield 91, 3) := by decide +kernel
theorem dX8_sorts_43 : decode cX8_sorts 43 = .ok (.aload_n 0, 1) := by decide +kernel
theorem dX8_sorts_44 : decode cX8_sorts 44 = .ok (.aload_n 0, 1) := by decide +kernel
theorem dX8_sorts_45 : decode cX8_sorts 45 = .ok (.getfield 17, 3) := by decide +kernel
theorem dX8_sorts_48 : decode cX8_sorts 48 = .ok (.iload_n 2, 1) := by decide +kernel
theorem dX8_sorts_49 : decode cX8_sorts 49 = .ok (.iaload, 1) := by decide +kernel
theorem dX8_sorts_50 : decode cX8_sorts 50 = .ok (.invokevirtual 94, 3) := by decide +kernel
theorem dX8_sorts_53 : decode cX8_sorts 53 = .ok (.isub, 1) := by decide +kernel
theorem dX8_sorts_54 : decode cX8_sorts 54 = .ok (.putfield 91, 3) := by decide +kernel
theorem dX8_sorts_57 : decode cX8_sorts 57 = .ok (.aload_n 0, 1) := by decide +kernel
theorem dX8_sorts_58 : decode cX8_sorts 58 = .ok (.getfield 17, 3) := by decide +kernel
theorem dX8_sorts_61 : decode cX8_sorts 61 = .ok (.iload_n 2, 1) := by decide +kernel
theorem dX8_sorts_62 : decode cX8_sorts 62 = .ok (.iload 7, 2) := by decide +kernel
theorem dX8_sorts_64 : decode cX8_sorts 64 = .ok (.iastore, 1) := by decide +kernel
theorem dX8_sorts_65 : decode cX8_sorts 65 = .ok (.iconst 0, 1) := by decide +kernel
theorem dX8_sorts_66 : decode cX8_sorts 66 = .ok (.istore 8, 2) := by decide +kernel
theorem dX8_sorts_68 : decode cX8_sorts 68 = .ok (.iload 8, 2) := by decide +kernel
theorem dX8_sorts_70 : decode cX8_sorts 70 = .ok (.iload 7, 2) := by decide +kernel
theorem dX8_sorts_72 : decode cX8_sorts 72 = .ok (.if_icmp .ge 59, 3) := by decide +kernel
theorem dX8_sorts_75 : decode cX8_sorts 75 = .ok (.aload_n 0, 1) := by decide +kernel
theorem dX8_sorts_76 : decode cX8_sorts 76 = .ok (.getfield 8, 3) := by decide +kernel
theorem dX8_sorts_79 : decode cX8_sorts 79 = .ok (.sipush 8192, 3) := by decide +kernel
theorem dX8_sorts_82 : decode cX8_sorts 82 = .ok (.iload_n 2, 1) := by decide +kernel
theorem dX8_sorts_83 : decode cX8_sorts 83 = .ok (.imul, 1) := by decide +kernel
theorem dX8_sorts_84 : decode cX8_sorts 84 = .ok (.iload 8, 2) := by decide +kernel
theorem dX8_sorts_86 : decode cX8_sorts 86 = .ok (.iadd, 1) := by decide +kernel
theorem dX8_sorts_87 : decode cX8_sorts 87 = .ok (.aload_n 0, 1) := by decide +kernel
theorem dX8_sorts_88 : decode cX8_sorts 88 = .ok (.getfield 20, 3) := by decide +kernel
theorem dX8_sorts_91 : decode cX8_sorts 91 = .ok (.aload_n 0, 1) := by decide +kernel
theorem dX8_sorts_92 : decode cX8_sorts 92 = .ok (.getfield 124, 3) := by decide +kernel
theorem dX8_sorts_95 : decode cX8_sorts 95 = .ok (.iload 8, 2) := by decide +kernel
theorem dX8_sorts_97 : decode cX8_sorts 97 = .ok (.iadd, 1) := by decide +kernel
theorem dX8_sorts_98 : decode cX8_sorts 98 = .ok (.iaload, 1) := by decide +kernel
theorem dX8_sorts_99 : decode cX8_sorts 99 = .ok (.iastore, 1) := by decide +kernel
theorem dX8_sorts_100 : decode cX8_sorts 100 = .ok (.aload_n 0, 1) := by decide +kernel
theorem dX8_sorts_101 : decode cX8_sorts 101 = .ok (.getfield 14, 3) := by decide +kernel
theorem dX8_sorts_104 : decode cX8_sorts 104 = .ok (.sipush 8192, 3) := by decide +kernel
theorem dX8_sorts_107 : decode cX8_sorts 107 = .ok (.iload_n 2, 1) := by decide +kernel
theorem dX8_sorts_108 : decode cX8_sorts 108 = .ok (.imul, 1) := by decide +kernel
theorem dX8_sorts_109 : decode cX8_sorts 109 = .ok (.iload 8, 2) := by decide +kernel
theorem dX8_sorts_111 : decode cX8_sorts 111 = .ok (.iadd, 1) := by decide +kernel
theorem dX8_sorts_112 : decode cX8_sorts 112 = .ok (.aload_n 0, 1) := by decide +kernel
theorem dX8_sorts_113 : decode cX8_sorts 113 = .ok (.getfield 23, 3) := by decide +kernel
theorem dX8_sorts_116 : decode cX8_sorts 116 = .ok (.aload_n 0, 1) := by decide +kernel
theorem dX8_sorts_117 : decode cX8_sorts 117 = .ok (.getfield 124, 3) := by decide +kernel
theorem dX8_sorts_120 : decode cX8_sorts 120 = .ok (.iload 8, 2) := by decide +kernel
theorem dX8_sorts_122 : decode cX8_sorts 122 = .ok (.iadd, 1) := by decide +kernel
theorem dX8_sorts_123 : decode cX8_sorts 123 = .ok (.iaload, 1) := by decide +kernel
theorem dX8_sorts_124 : decode cX8_sorts 124 = .ok (.iastore, 1) := by decide +kernel
theorem dX8_sorts_125 : decode cX8_sorts 125 = .ok (.iinc 8 1, 3) := by decide +kernel
theorem dX8_sorts_128 : decode cX8_sorts 128 = .ok (.goto (-60), 3) := by decide +kernel
theorem dX8_sorts_131 : decode cX8_sorts 131 = .ok (.aload_n 0, 1) := by decide +kernel
theorem dX8_sorts_132 : decode cX8_sorts 132 = .ok (.invokevirtual 190, 3) := by decide +kernel
theorem dX8_sorts_135 : decode cX8_sorts 135 = .ok (.iload 7, 2) := by decide +kernel
theorem dX8_sorts_137 : decode cX8_sorts 137 = .ok (.ireturn, 1) := by decide +kernel
theorem dX8_sort_0 : decode cX8_sort 0 = .ok (.iload_n 1, 1) := by decide +kernel
theorem dX8_sort_1 : decode cX8_sort 1 = .ok (.invokestatic 87, 3) := by decide +kernel
theorem dX8_sort_4 : decode cX8_sort 4 = .ok (.ifCond .eq 43, 3) := by decide +kernel
theorem dX8_sort_7 : decode cX8_sort 7 = .ok (.iload_n 2, 1) := by decide +kernel
theorem dX8_sort_8 : decode cX8_sort 8 = .ok (.invokestatic 87, 3) := by decide +kernel
theorem dX8_sort_11 : decode cX8_sort 11 = .ok (.ifCond .eq 36, 3) := by decide +kernel
theorem dX8_sort_14 : decode cX8_sort 14 = .ok (.iload_n 3, 1) := by decide +kernel
theorem dX8_sort_15 : decode cX8_sort 15 = .ok (.iconst 3, 1) := by decide +kernel
theorem dX8_sort_16 : decode cX8_sort 16 = .ok (.bipush 16, 2) := by decide +kernel
theorem dX8_sort_18 : decode cX8_sort 18 = .ok (.invokestatic 83, 3) := by decide +kernel
theorem dX8_sort_21 : decode cX8_sort 21 = .ok (.ifCond .eq 26, 3) := by decide +kernel
theorem dX8_sort_24 : decode cX8_sort 24 = .ok (.iload 4, 2) := by decide +kernel
theorem dX8_sort_26 : decode cX8_sort 26 = .ok (.iconst 0, 1) := by decide +kernel
theorem dX8_sort_27 : decode cX8_sort 27 = .ok (.iconst 2, 1) := by decide +kernel
theorem dX8_sort_28 : decode cX8_sort 28 = .ok (.invokestatic 83, 3) := by decide +kernel
theorem dX8_sort_31 : decode cX8_sort 31 = .ok (.ifCond .eq 16, 3) := by decide +kernel
theorem dX8_sort_34 : decode cX8_sort 34 = .ok (.aload_n 0, 1) := by decide +kernel
theorem dX8_sort_35 : decode cX8_sort 35 = .ok (.iload_n 1, 1) := by decide +kernel
theorem dX8_sort_36 : decode cX8_sort 36 = .ok (.iload_n 2, 1) := by decide +kernel
theorem dX8_sort_37 : decode cX8_sort 37 = .ok (.iload_n 3, 1) := by decide +kernel
theorem dX8_sort_38 : decode cX8_sort 38 = .ok (.iload 4, 2) := by decide +kernel
theorem dX8_sort_40 : decode cX8_sort 40 = .ok (.iconst 0, 1) := by decide +kernel
theorem dX8_sort_41 : decode cX8_sort 41 = .ok (.invokevirtual 193, 3) := by decide +kernel
theorem dX8_sort_44 : decode cX8_sort 44 = .ok (.goto 4, 3) := by decide +kernel
theorem dX8_sort_47 : decode cX8_sort 47 = .ok (.iconst (-1), 1) := by decide +kernel
theorem dX8_sort_48 : decode cX8_sort 48 = .ok (.ireturn, 1) := by decide +kernel
theorem dX8_distinct_0 : decode cX8_distinct 0 = .ok (.iload_n 1, 1) := by decide +kernel
theorem dX8_distinct_1 : decode cX8_distinct 1 = .ok (.invokestatic 87, 3) := by decide +kernel
theorem dX8_distinct_4 : decode cX8_distinct 4 = .ok (.ifCond .eq 32, 3) := by decide +kernel
theorem dX8_distinct_7 : decode cX8_distinct 7 = .ok (.iload_n 2, 1) := by decide +kernel
theorem dX8_distinct_8 : decode cX8_distinct 8 = .ok (.invokestatic 87, 3) := by decide +kernel
theorem dX8_distinct_11 : decode cX8_distinct 11 = .ok (.ifCond .eq 25, 3) := by decide +kernel
theorem dX8_distinct_14 : decode cX8_distinct 14 = .ok (.iload_n 3, 1) := by decide +kernel
theorem dX8_distinct_15 : decode cX8_distinct 15 = .ok (.iconst 3, 1) := by decide +kernel
theorem dX8_distinct_16 : decode cX8_distinct 16 = .ok (.bipush 16, 2) := by decide +kernel
theorem dX8_distinct_18 : decode cX8_distinct 18 = .ok (.invokestatic 83, 3) := by decide +kernel
theorem dX8_distinct_21 : decode cX8_distinct 21 = .ok (.ifCond .eq 15, 3) := by decide +kernel
theorem dX8_distinct_24 : decode cX8_distinct 24 = .ok (.aload_n 0, 1) := by decide +kernel
theorem dX8_distinct_25 : decode cX8_distinct 25 = .ok (.iload_n 1, 1) := by decide +kernel
theorem dX8_distinct_26 : decode cX8_distinct 26 = .ok (.iload_n 2, 1) := by decide +kernel
theorem dX8_distinct_27 : decode cX8_distinct 27 = .ok (.iload_n 3, 1) := by decide +kernel
theorem dX8_distinct_28 : decode cX8_distinct 28 = .ok (.iconst 1, 1) := by decide +kernel
theorem dX8_distinct_29 : decode cX8_distinct 29 = .ok (.iconst 1, 1) := by decide +kernel
theorem dX8_distinct_30 : decode cX8_distinct 30 = .ok (.invokevirtual 193, 3) := by decide +kernel
theorem dX8_distinct_33 : decode cX8_distinct 33 = .ok (.goto 4, 3) := by decide +kernel
theorem dX8_distinct_36 : decode cX8_distinct 36 = .ok (.iconst (-1), 1) := by decide +kernel
theorem dX8_distinct_37 : decode cX8_distinct 37 = .ok (.ireturn, 1) := by decide +kernel
theorem dX8_join_0 : decode cX8_join 0 = .ok (.iload_n 1, 1) := by decide +kernel
theorem dX8_join_1 : decode cX8_join 1 = .ok (.invokestatic 87, 3) := by decide +kernel
theorem dX8_join_4 : decode cX8_join 4 = .ok (.ifCond .eq 28, 3) := by decide +kernel
theorem dX8_join_7 : decode cX8_join 7 = .ok (.iload_n 2, 1) := by decide +kernel
theorem dX8_join_8 : decode cX8_join 8 = .ok (.invokestatic 87, 3) := by decide +kernel
theorem dX8_join_11 : decode cX8_join 11 = .ok (.ifCond .eq 21, 3) := by decide +kernel
theorem dX8_join_14 : decode cX8_join 14 = .ok (.iload_n 3, 1) := by decide +kernel
theorem dX8_join_15 : decode cX8_join 15 = .ok (.invokestatic 87, 3) := by decide +kernel
theorem dX8_join_18 : decode cX8_join 18 = .ok (.ifCond .eq 14, 3) := by decide +kernel
theorem dX8_join_21 : decode cX8_join 21 = .ok (.iload 4, 2) := by decide +kernel
theorem dX8_join_23 : decode cX8_join 23 = .ok (.iconst 3, 1) := by decide +kernel
theorem dX8_join_24 : decode cX8_join 24 = .ok (.bipush 16, 2) := by decide +kernel
theorem dX8_join_26 : decode cX8_join 26 = .ok (.invokestatic 83, 3) := by decide +kernel
theorem dX8_join_29 : decode cX8_join 29 = .ok (.ifCond .ne 5, 3) := by decide +kernel
theorem dX8_join_32 : decode cX8_join 32 = .ok (.iconst (-1), 1) := by decide +kernel
theorem dX8_join_33 : decode cX8_join 33 = .ok (.ireturn, 1) := by decide +kernel
theorem dX8_join_34 : decode cX8_join 34 = .ok (.aload_n 0, 1) := by decide +kernel
theorem dX8_join_35 : decode cX8_join 35 = .ok (.getfield 91, 3) := by decide +kernel
theorem dX8_join_38 : decode cX8_join 38 = .ok (.istore 5, 2) := by decide +kernel
theorem dX8_join_40 : decode cX8_join 40 = .ok (.aload_n 0, 1) := by decide +kernel
theorem dX8_join_41 : decode cX8_join 41 = .ok (.invokevirtual 183, 3) := by decide +kernel
theorem dX8_join_44 : decode cX8_join 44 = .ok (.aload_n 0, 1) := by decide +kernel
theorem dX8_join_45 : decode cX8_join 45 = .ok (.iload_n 1, 1) := by decide +kernel
theorem dX8_join_46 : decode cX8_join 46 = .ok (.iload 4, 2) := by decide +kernel
theorem dX8_join_48 : decode cX8_join 48 = .ok (.iconst 0, 1) := by decide +kernel
theorem dX8_join_49 : decode cX8_join 49 = .ok (.iconst 0, 1) := by decide +kernel
theorem dX8_join_50 : decode cX8_join 50 = .ok (.invokevirtual 186, 3) := by decide +kernel
theorem dX8_join_53 : decode cX8_join 53 = .ok (.istore 6, 2) := by decide +kernel
theorem dX8_join_55 : decode cX8_join 55 = .ok (.iconst 0, 1) := by decide +kernel
theorem dX8_join_56 : decode cX8_join 56 = .ok (.istore 7, 2) := by decide +kernel
theorem dX8_join_58 : decode cX8_join 58 = .ok (.iload 7, 2) := by decide +kernel
theorem dX8_join_60 : decode cX8_join 60 = .ok (.iload 6, 2) := by decide +kernel
theorem dX8_join_62 : decode cX8_join 62 = .ok (.if_icmp .ge 47, 3) := by decide +kernel
theorem dX8_join_65 : decode cX8_join 65 = .ok (.aload_n 0, 1) := by decide +kernel
theorem dX8_join_66 : decode cX8_join 66 = .ok (.getfield 60, 3) := by decide +kernel
theorem dX8_join_69 : decode cX8_join 69 = .ok (.iload 7, 2) := by decide +kernel
theorem dX8_join_71 : decode cX8_join 71 = .ok (.aload_n 0, 1) := by decide +kernel
theorem dX8_join_72 : decode cX8_join 72 = .ok (.getfield 20, 3) := by decide +kernel
theorem dX8_join_75 : decode cX8_join 75 = .ok (.aload_n 0, 1) := by decide +kernel
theorem dX8_join_76 : decode cX8_join 76 = .ok (.getfield 124, 3) := by decide +kernel
theorem dX8_join_79 : decode cX8_join 79 = .ok (.iload 7, 2) := by decide +kernel
theorem dX8_join_81 : decode cX8_join 81 = .ok (.iadd, 1) := by decide +kernel
theorem dX8_join_82 : decode cX8_join 82 = .ok (.iaload, 1) := by decide +kernel
theorem dX8_join_83 : decode cX8_join 83 = .ok (.iastore, 1) := by decide +kernel
theorem dX8_join_84 : decode cX8_join 84 = .ok (.aload_n 0, 1) := by decide +kernel
theorem dX8_join_85 : decode cX8_join 85 = .ok (.getfield 63, 3) := by decide +kernel
theorem dX8_join_88 : decode cX8_join 88 = .ok (.iload 7, 2) := by decide +kernel
theorem dX8_join_90 : decode cX8_join 90 = .ok (.aload_n 0, 1) := by decide +kernel
theorem dX8_join_91 : decode cX8_join 91 = .ok (.getfield 23, 3) := by decide +kernel
theorem dX8_join_94 : decode cX8_join 94 = .ok (.aload_n 0, 1) := by decide +kernel
theorem dX8_join_95 : decode cX8_join 95 = .ok (.getfield 124, 3) := by decide +kernel
theorem dX8_join_98 : decode cX8_join 98 = .ok (.iload 7, 2) := by decide +kernel
theorem dX8_join_100 : decode cX8_join 100 = .ok (.iadd, 1) := by decide +kernel
theorem dX8_join_101 : decode cX8_join 101 = .ok (.iaload, 1) := by decide +kernel
theorem dX8_join_102 : decode cX8_join 102 = .ok (.iastore, 1) := by decide +kernel
theorem dX8_join_103 : decode cX8_join 103 = .ok (.iinc 7 1, 3) := by decide +kernel
theorem dX8_join_106 : decode cX8_join 106 = .ok (.goto (-48), 3) := by decide +kernel
theorem dX8_join_109 : decode cX8_join 109 = .ok (.aload_n 0, 1) := by decide +kernel
theorem dX8_join_110 : decode cX8_join 110 = .ok (.getfield 101, 3) := by decide +kernel
theorem dX8_join_113 : decode cX8_join 113 = .ok (.ifCond .eq 7, 3) := by decide +kernel
theorem dX8_join_116 : decode cX8_join 116 = .ok (.iconst 0, 1) := by decide +kernel
theorem dX8_join_117 : decode cX8_join 117 = .ok (.goto 12, 3) := by decide +kernel
theorem dX8_join_120 : decode cX8_join 120 = .ok (.aload_n 0, 1) := by decide +kernel
theorem dX8_join_121 : decode cX8_join 121 = .ok (.iload_n 2, 1) := by decide +kernel
theorem dX8_join_122 : decode cX8_join 122 = .ok (.iload 4, 2) := by decide +kernel
theorem dX8_join_124 : decode cX8_join 124 = .ok (.iconst 0, 1) := by decide +kernel
theorem dX8_join_125 : decode cX8_join 125 = .ok (.iconst 0, 1) := by decide +kernel
theorem dX8_join_126 : decode cX8_join 126 = .ok (.invokevirtual 186, 3) := by decide +kernel
theorem dX8_join_129 : decode cX8_join 129 = .ok (.istore 7, 2) := by decide +kernel
theorem dX8_join_131 : decode cX8_join 131 = .ok (.iconst 0, 1) := by decide +kernel
theorem dX8_join_132 : decode cX8_join 132 = .ok (.istore 8, 2) := by decide +kernel
theorem dX8_join_134 : decode cX8_join 134 = .ok (.iload 8, 2) := by decide +kernel
theorem dX8_join_136 : decode cX8_join 136 = .ok (.iload 7, 2) := by decide +kernel
theorem dX8_join_138 : decode cX8_join 138 = .ok (.if_icmp .ge 47, 3) := by decide +kernel
theorem dX8_join_141 : decode cX8_join 141 = .ok (.aload_n 0, 1) := by decide +kernel
theorem dX8_join_142 : decode cX8_join 142 = .ok (.getfield 66, 3) := by decide +kernel
theorem dX8_join_145 : decode cX8_join 145 = .ok (.iload 8, 2) := by decide +kernel
theorem dX8_join_147 : decode cX8_join 147 = .ok (.aload_n 0, 1) := by decide +kernel
theorem dX8_join_148 : decode cX8_join 148 = .ok (.getfield 20, 3) := by decide +kernel
theorem dX8_join_151 : decode cX8_join 151 = .ok (.aload_n 0, 1) := by decide +kernel
theorem dX8_join_152 : decode cX8_join 152 = .ok (.getfield 124, 3) := by decide +kernel
theorem dX8_join_155 : decode cX8_join 155 = .ok (.iload 8, 2) := by decide +kernel
theorem dX8_join_157 : decode cX8_join 157 = .ok (.iadd, 1) := by decide +kernel
theorem dX8_join_158 : decode cX8_join 158 = .ok (.iaload, 1) := by decide +kernel
theorem dX8_join_159 : decode cX8_join 159 = .ok (.iastore, 1) := by decide +kernel
theorem dX8_join_160 : decode cX8_join 160 = .ok (.aload_n 0, 1) := by decide +kernel
theorem dX8_join_161 : decode cX8_join 161 = .ok (.getfield 69, 3) := by decide +kernel
theorem dX8_join_164 : decode cX8_join 164 = .ok (.iload 8, 2) := by decide +kernel
theorem dX8_join_166 : decode cX8_join 166 = .ok (.aload_n 0, 1) := by decide +kernel
theorem dX8_join_167 : decode cX8_join 167 = .ok (.getfield 23, 3) := by decide +kernel
theorem dX8_join_170 : decode cX8_join 170 = .ok (.aload_n 0, 1) := by decide +kernel
theorem dX8_join_171 : decode cX8_join 171 = .ok (.getfield 124, 3) := by decide +kernel
theorem dX8_join_174 : decode cX8_join 174 = .ok (.iload 8, 2) := by decide +kernel
theorem dX8_join_176 : decode cX8_join 176 = .ok (.iadd, 1) := by decide +kernel
theorem dX8_join_177 : decode cX8_join 177 = .ok (.iaload, 1) := by decide +kernel
theorem dX8_join_178 : decode cX8_join 178 = .ok (.iastore, 1) := by decide +kernel
theorem dX8_join_179 : decode cX8_join 179 = .ok (.iinc 8 1, 3) := by decide +kernel
theorem dX8_join_182 : decode cX8_join 182 = .ok (.goto (-48), 3) := by decide +kernel
theorem dX8_join_185 : decode cX8_join 185 = .ok (.aload_n 0, 1) := by decide +kernel
theorem dX8_join_186 : decode cX8_join 186 = .ok (.getfield 101, 3) := by decide +kernel
theorem dX8_join_189 : decode cX8_join 189 = .ok (.ifCond .eq 8, 3) := by decide +kernel
theorem dX8_join_192 : decode cX8_join 192 = .ok (.bipush (-2), 2) := by decide +kernel
theorem dX8_join_194 : decode cX8_join 194 = .ok (.goto 22, 3) := by decide +kernel
theorem dX8_join_197 : decode cX8_join 197 = .ok (.aload_n 0, 1) := by decide +kernel
theorem dX8_join_198 : decode cX8_join 198 = .ok (.iload 6, 2) := by decide +kernel
theorem dX8_join_200 : decode cX8_join 200 = .ok (.iload 7, 2) := by decide +kernel
theorem dX8_join_202 : decode cX8_join 202 = .ok (.iload 5, 2) := by decide +kernel
theorem dX8_join_204 : decode cX8_join 204 = .ok (.iload 4, 2) := by decide +kernel
theorem dX8_join_206 : decode cX8_join 206 = .ok (.iconst 2, 1) := by decide +kernel
theorem dX8_join_207 : decode cX8_join 207 = .ok (.isub, 1) := by decide +kernel
theorem dX8_join_208 : decode cX8_join 208 = .ok (.aload_n 0, 1) := by decide +kernel
theorem dX8_join_209 : decode cX8_join 209 = .ok (.getfield 80, 3) := by decide +kernel
theorem dX8_join_212 : decode cX8_join 212 = .ok (.imul, 1) := by decide +kernel
theorem dX8_join_213 : decode cX8_join 213 = .ok (.invokevirtual 197, 3) := by decide +kernel
theorem dX8_join_216 : decode cX8_join 216 = .ok (.istore 8, 2) := by decide +kernel
theorem dX8_join_218 : decode cX8_join 218 = .ok (.iload 8, 2) := by decide +kernel
theorem dX8_join_220 : decode cX8_join 220 = .ok (.ifCond .ge 12, 3) := by decide +kernel
theorem dX8_join_223 : decode cX8_join 223 = .ok (.aload_n 0, 1) := by decide +kernel
theorem dX8_join_224 : decode cX8_join 224 = .ok (.iload 5, 2) := by decide +kernel
theorem dX8_join_226 : decode cX8_join 226 = .ok (.putfield 91, 3) := by decide +kernel
theorem dX8_join_229 : decode cX8_join 229 = .ok (.iload 8, 2) := by decide +kernel
theorem dX8_join_231 : decode cX8_join 231 = .ok (.ireturn, 1) := by decide +kernel
theorem dX8_join_232 : decode cX8_join 232 = .ok (.aload_n 0, 1) := by decide +kernel
theorem dX8_join_233 : decode cX8_join 233 = .ok (.dup, 1) := by decide +kernel
theorem dX8_join_234 : decode cX8_join 234 = .ok (.getfield 111, 3) := by decide +kernel
theorem dX8_join_237 : decode cX8_join 237 = .ok (.aload_n 0, 1) := by decide +kernel
theorem dX8_join_238 : decode cX8_join 238 = .ok (.iload 6, 2) := by decide +kernel
theorem dX8_join_240 : decode cX8_join 240 = .ok (.invokevirtual 94, 3) := by decide +kernel
theorem dX8_join_243 : decode cX8_join 243 = .ok (.aload_n 0, 1) := by decide +kernel
theorem dX8_join_244 : decode cX8_join 244 = .ok (.iload 7, 2) := by decide +kernel
theorem dX8_join_246 : decode cX8_join 246 = .ok (.invokevirtual 94, 3) := by decide +kernel
theorem dX8_join_249 : decode cX8_join 249 = .ok (.iadd, 1) := by decide +kernel
theorem dX8_join_250 : decode cX8_join 250 = .ok (.iadd, 1) := by decide +kernel
theorem dX8_join_251 : decode cX8_join 251 = .ok (.putfield 111, 3) := by decide +kernel
theorem dX8_join_254 : decode cX8_join 254 = .ok (.aload_n 0, 1) := by decide +kernel
theorem dX8_join_255 : decode cX8_join 255 = .ok (.iload 5, 2) := by decide +kernel
theorem dX8_join_257 : decode cX8_join 257 = .ok (.aload_n 0, 1) := by decide +kernel
theorem dX8_join_258 : decode cX8_join 258 = .ok (.iload 8, 2) := by decide +kernel
theorem dX8_join_260 : decode cX8_join 260 = .ok (.invokevirtual 94, 3) := by decide +kernel
theorem dX8_join_263 : decode cX8_join 263 = .ok (.iadd, 1) := by decide +kernel
theorem dX8_join_264 : decode cX8_join 264 = .ok (.putfield 91, 3) := by decide +kernel
theorem dX8_join_267 : decode cX8_join 267 = .ok (.aload_n 0, 1) := by decide +kernel
theorem dX8_join_268 : decode cX8_join 268 = .ok (.dup, 1) := by decide +kernel
theorem dX8_join_269 : decode cX8_join 269 = .ok (.getfield 105, 3) := by decide +kernel
theorem dX8_join_272 : decode cX8_join 272 = .ok (.aload_n 0, 1) := by decide +kernel
theorem dX8_join_273 : decode cX8_join 273 = .ok (.iload 8, 2) := by decide +kernel
theorem dX8_join_275 : decode cX8_join 275 = .ok (.invokevirtual 94, 3) := by decide +kernel
theorem dX8_join_278 : decode cX8_join 278 = .ok (.iadd, 1) := by decide +kernel
theorem dX8_join_279 : decode cX8_join 279 = .ok (.putfield 105, 3) := by decide +kernel
theorem dX8_join_282 : decode cX8_join 282 = .ok (.aload_n 0, 1) := by decide +kernel
theorem dX8_join_283 : decode cX8_join 283 = .ok (.aload_n 0, 1) := by decide +kernel
theorem dX8_join_284 : decode cX8_join 284 = .ok (.getfield 91, 3) := by decide +kernel
theorem dX8_join_287 : decode cX8_join 287 = .ok (.aload_n 0, 1) := by decide +kernel
theorem dX8_join_288 : decode cX8_join 288 = .ok (.getfield 108, 3) := by decide +kernel
theorem dX8_join_291 : decode cX8_join 291 = .ok (.if_icmp .le 10, 3) := by decide +kernel
theorem dX8_join_294 : decode cX8_join 294 = .ok (.aload_n 0, 1) := by decide +kernel
theorem dX8_join_295 : decode cX8_join 295 = .ok (.getfield 91, 3) := by decide +kernel
theorem dX8_join_298 : decode cX8_join 298 = .ok (.goto 7, 3) := by decide +kernel
theorem dX8_join_301 : decode cX8_join 301 = .ok (.aload_n 0, 1) := by decide +kernel
theorem dX8_join_302 : decode cX8_join 302 = .ok (.getfield 108, 3) := by decide +kernel
theorem dX8_join_305 : decode cX8_join 305 = .ok (.putfield 108, 3) := by decide +kernel
theorem dX8_join_308 : decode cX8_join 308 = .ok (.aload_n 0, 1) := by decide +kernel
theorem dX8_join_309 : decode cX8_join 309 = .ok (.dup, 1) := by decide +kernel
theorem dX8_join_310 : decode cX8_join 310 = .ok (.getfield 91, 3) := by decide +kernel
theorem dX8_join_313 : decode cX8_join 313 = .ok (.aload_n 0, 1) := by decide +kernel
theorem dX8_join_314 : decode cX8_join 314 = .ok (.aload_n 0, 1) := by decide +kernel
theorem dX8_join_315 : decode cX8_join 315 = .ok (.getfield 17, 3) := by decide +kernel
theorem dX8_join_318 : decode cX8_join 318 = .ok (.iload_n 3, 1) := by decide +kernel
theorem dX8_join_319 : decode cX8_join 319 = .ok (.iaload, 1) := by decide +kernel
theorem dX8_join_320 : decode cX8_join 320 = .ok (.invokevirtual 94, 3) := by decide +kernel
theorem dX8_join_323 : decode cX8_join 323 = .ok (.isub, 1) := by decide +kernel
theorem dX8_join_324 : decode cX8_join 324 = .ok (.putfield 91, 3) := by decide +kernel
theorem dX8_join_327 : decode cX8_join 327 = .ok (.aload_n 0, 1) := by decide +kernel
theorem dX8_join_328 : decode cX8_join 328 = .ok (.iload 6, 2) := by decide +kernel
theorem dX8_join_330 : decode cX8_join 330 = .ok (.iload 7, 2) := by decide +kernel
theorem dX8_join_332 : decode cX8_join 332 = .ok (.iload_n 3, 1) := by decide +kernel
theorem dX8_join_333 : decode cX8_join 333 = .ok (.invokevirtual 200, 3) := by decide +kernel
theorem dX8_join_336 : decode cX8_join 336 = .ok (.aload_n 0, 1) := by decide +kernel
theorem dX8_join_337 : decode cX8_join 337 = .ok (.getfield 17, 3) := by decide +kernel
theorem dX8_join_340 : decode cX8_join 340 = .ok (.iload_n 3, 1) := by decide +kernel
theorem dX8_join_341 : decode cX8_join 341 = .ok (.iload 8, 2) := by decide +kernel
theorem dX8_join_343 : decode cX8_join 343 = .ok (.iastore, 1) := by decide +kernel
theorem dX8_join_344 : decode cX8_join 344 = .ok (.aload_n 0, 1) := by decide +kernel
theorem dX8_join_345 : decode cX8_join 345 = .ok (.invokevirtual 190, 3) := by decide +kernel
theorem dX8_join_348 : decode cX8_join 348 = .ok (.iload 8, 2) := by decide +kernel
theorem dX8_join_350 : decode cX8_join 350 = .ok (.ireturn, 1) := by decide +kernel
theorem dX8_joined_0 : decode cX8_joined 0 = .ok (.lconst 0, 1) := by decide +kernel
theorem dX8_joined_1 : decode cX8_joined 1 = .ok (.lstore 5, 2) := by decide +kernel
theorem dX8_joined_3 : decode cX8_joined 3 = .ok (.iconst 0, 1) := by decide +kernel
theorem dX8_joined_4 : decode cX8_joined 4 = .ok (.istore 7, 2) := by decide +kernel
theorem dX8_joined_6 : decode cX8_joined 6 = .ok (.iconst 0, 1) := by decide +kernel
theorem dX8_joined_7 : decode cX8_joined 7 = .ok (.istore 8, 2) := by decide +kernel
theorem dX8_joined_9 : decode cX8_joined 9 = .ok (.iconst 0, 1) := by decide +kernel
theorem dX8_joined_10 : decode cX8_joined 10 = .ok (.istore 9, 2) := by decide +kernel
theorem dX8_joined_12 : decode cX8_joined 12 = .ok (.iload 8, 2) := by decide +kernel
theorem dX8_joined_14 : decode cX8_joined 14 = .ok (.iload_n 1, 1) := by decide +kernel
theorem dX8_joined_15 : decode cX8_joined 15 = .ok (.if_icmp .ge 150, 3) := by decide +kernel
theorem dX8_joined_18 : decode cX8_joined 18 = .ok (.iload 7, 2) := by decide +kernel
theorem dX8_joined_20 : decode cX8_joined 20 = .ok (.iload_n 2, 1) := by decide +kernel
theorem dX8_joined_21 : decode cX8_joined 21 = .ok (.if_icmp .ge 144, 3) := by decide +kernel
theorem dX8_joined_24 : decode cX8_joined 24 = .ok (.aload_n 0, 1) := by decide +kernel
theorem dX8_joined_25 : decode cX8_joined 25 = .ok (.getfield 60, 3) := by decide +kernel
theorem dX8_joined_28 : decode cX8_joined 28 = .ok (.iload 8, 2) := by decide +kernel
theorem dX8_joined_30 : decode cX8_joined 30 = .ok (.iaload, 1) := by decide +kernel
theorem dX8_joined_31 : decode cX8_joined 31 = .ok (.aload_n 0, 1) := by decide +kernel
theorem dX8_joined_32 : decode cX8_joined 32 = .ok (.getfield 66, 3) := by decide +kernel
theorem dX8_joined_35 : decode cX8_joined 35 = .ok (.iload 7, 2) := by decide +kernel
theorem dX8_joined_37 : decode cX8_joined 37 = .ok (.iaload, 1) := by decide +kernel
theorem dX8_joined_38 : decode cX8_joined 38 = .ok (.if_icmp .ge 9, 3) := by decide +kernel
theorem dX8_joined_41 : decode cX8_joined 41 = .ok (.iinc 8 1, 3) := by decide +kernel
theorem dX8_joined_44 : decode cX8_joined 44 = .ok (.goto (-32), 3) := by decide +kernel
theorem dX8_joined_47 : decode cX8_joined 47 = .ok (.aload_n 0, 1) := by decide +kernel
theorem dX8_joined_48 : decode cX8_joined 48 = .ok (.getfield 60, 3) := by decide +kernel
theorem dX8_joined_51 : decode cX8_joined 51 = .ok (.iload 8, 2) := by decide +kernel
theorem dX8_joined_53 : decode cX8_joined 53 = .ok (.iaload, 1) := by decide +kernel
theorem dX8_joined_54 : decode cX8_joined 54 = .ok (.aload_n 0, 1) := by decide +kernel
theorem dX8_joined_55 : decode cX8_joined 55 = .ok (.getfield 66, 3) := by decide +kernel
theorem dX8_joined_58 : decode cX8_joined 58 = .ok (.iload 7, 2) := by decide +kernel
theorem dX8_joined_60 : decode cX8_joined 60 = .ok (.iaload, 1) := by decide +kernel
theorem dX8_joined_61 : decode cX8_joined 61 = .ok (.if_icmp .le 9, 3) := by decide +kernel
theorem dX8_joined_64 : decode cX8_joined 64 = .ok (.iinc 7 1, 3) := by decide +kernel
theorem dX8_joined_67 : decode cX8_joined 67 = .ok (.goto (-55), 3) := by decide +kernel
theorem dX8_joined_70 : decode cX8_joined 70 = .ok (.iload 8, 2) := by decide +kernel
theorem dX8_joined_72 : decode cX8_joined 72 = .ok (.istore 10, 2) := by decide +kernel
theorem dX8_joined_74 : decode cX8_joined 74 = .ok (.iload 10, 2) := by decide +kernel
theorem dX8_joined_76 : decode cX8_joined 76 = .ok (.iload_n 1, 1) := by decide +kernel
theorem dX8_joined_77 : decode cX8_joined 77 = .ok (.if_icmp .ge 26, 3) := by decide +kernel
theorem dX8_joined_80 : decode cX8_joined 80 = .ok (.aload_n 0, 1) := by decide +kernel
theorem dX8_joined_81 : decode cX8_joined 81 = .ok (.getfield 60, 3) := by decide +kernel
theorem dX8_joined_84 : decode cX8_joined 84 = .ok (.iload 10, 2) := by decide +kernel
theorem dX8_joined_86 : decode cX8_joined 86 = .ok (.iaload, 1) := by decide +kernel
theorem dX8_joined_87 : decode cX8_joined 87 = .ok (.aload_n 0, 1) := by decide +kernel
theorem dX8_joined_88 : decode cX8_joined 88 = .ok (.getfield 60, 3) := by decide +kernel
theorem dX8_joined_91 : decode cX8_joined 91 = .ok (.iload 8, 2) := by decide +kernel
theorem dX8_joined_93 : decode cX8_joined 93 = .ok (.iaload, 1) := by decide +kernel
theorem dX8_joined_94 : decode cX8_joined 94 = .ok (.if_icmp .ne 9, 3) := by decide +kernel
theorem dX8_joined_97 : decode cX8_joined 97 = .ok (.iinc 10 1, 3) := by decide +kernel
theorem dX8_joined_100 : decode cX8_joined 100 = .ok (.goto (-26), 3) := by decide +kernel
theorem dX8_joined_103 : decode cX8_joined 103 = .ok (.iload 7, 2) := by decide +kernel
theorem dX8_joined_105 : decode cX8_joined 105 = .ok (.istore 11, 2) := by decide +kernel
theorem dX8_joined_107 : decode cX8_joined 107 = .ok (.iload 11, 2) := by decide +kernel
theorem dX8_joined_109 : decode cX8_joined 109 = .ok (.iload_n 2, 1) := by decide +kernel
theorem dX8_joined_110 : decode cX8_joined 110 = .ok (.if_icmp .ge 26, 3) := by decide +kernel
theorem dX8_joined_113 : decode cX8_joined 113 = .ok (.aload_n 0, 1) := by decide +kernel
theorem dX8_joined_114 : decode cX8_joined 114 = .ok (.getfield 66, 3) := by decide +kernel
theorem dX8_joined_117 : decode cX8_joined 117 = .ok (.iload 11, 2) := by decide +kernel
theorem dX8_joined_119 : decode cX8_joined 119 = .ok (.iaload, 1) := by decide +kernel
theorem dX8_joined_120 : decode cX8_joined 120 = .ok (.aload_n 0, 1) := by decide +kernel
theorem dX8_joined_121 : decode cX8_joined 121 = .ok (.getfield 66, 3) := by decide +kernel
theorem dX8_joined_124 : decode cX8_joined 124 = .ok (.iload 7, 2) := by decide +kernel
theorem dX8_joined_126 : decode cX8_joined 126 = .ok (.iaload, 1) := by decide +kernel
theorem dX8_joined_127 : decode cX8_joined 127 = .ok (.if_icmp .ne 9, 3) := by decide +kernel
theorem dX8_joined_130 : decode cX8_joined 130 = .ok (.iinc 11 1, 3) := by decide +kernel
theorem dX8_joined_133 : decode cX8_joined 133 = .ok (.goto (-26), 3) := by decide +kernel
theorem dX8_joined_136 : decode cX8_joined 136 = .ok (.lload 5, 2) := by decide +kernel
theorem dX8_joined_138 : decode cX8_joined 138 = .ok (.iload 10, 2) := by decide +kernel
theorem dX8_joined_140 : decode cX8_joined 140 = .ok (.iload 8, 2) := by decide +kernel
theorem dX8_joined_142 : decode cX8_joined 142 = .ok (.isub, 1) := by decide +kernel
theorem dX8_joined_143 : decode cX8_joined 143 = .ok (.i2l, 1) := by decide +kernel
theorem dX8_joined_144 : decode cX8_joined 144 = .ok (.iload 11, 2) := by decide +kernel
theorem dX8_joined_146 : decode cX8_joined 146 = .ok (.iload 7, 2) := by decide +kernel
theorem dX8_joined_148 : decode cX8_joined 148 = .ok (.isub, 1) := by decide +kernel
theorem dX8_joined_149 : decode cX8_joined 149 = .ok (.i2l, 1) := by decide +kernel
theorem dX8_joined_150 : decode cX8_joined 150 = .ok (.lmul, 1) := by decide +kernel
theorem dX8_joined_151 : decode cX8_joined 151 = .ok (.ladd, 1) := by decide +kernel
theorem dX8_joined_152 : decode cX8_joined 152 = .ok (.lstore 5, 2) := by decide +kernel
theorem dX8_joined_154 : decode cX8_joined 154 = .ok (.iload 10, 2) := by decide +kernel
theorem dX8_joined_156 : decode cX8_joined 156 = .ok (.istore 8, 2) := by decide +kernel
theorem dX8_joined_158 : decode cX8_joined 158 = .ok (.iload 11, 2) := by decide +kernel
theorem dX8_joined_160 : decode cX8_joined 160 = .ok (.istore 7, 2) := by decide +kernel
theorem dX8_joined_162 : decode cX8_joined 162 = .ok (.goto (-150), 3) := by decide +kernel
theorem dX8_joined_165 : decode cX8_joined 165 = .ok (.iconst 0, 1) := by decide +kernel
theorem dX8_joined_166 : decode cX8_joined 166 = .ok (.istore 10, 2) := by decide +kernel
theorem dX8_joined_168 : decode cX8_joined 168 = .ok (.iload 10, 2) := by decide +kernel
theorem dX8_joined_170 : decode cX8_joined 170 = .ok (.iload_n 2, 1) := by decide +kernel
theorem dX8_joined_171 : decode cX8_joined 171 = .ok (.if_icmp .ge 48, 3) := by decide +kernel
theorem dX8_joined_174 : decode cX8_joined 174 = .ok (.iload 9, 2) := by decide +kernel
theorem dX8_joined_176 : decode cX8_joined 176 = .ok (.ifCond .ne 30, 3) := by decide +kernel
theorem dX8_joined_179 : decode cX8_joined 179 = .ok (.iload 10, 2) := by decide +kernel
theorem dX8_joined_181 : decode cX8_joined 181 = .ok (.iload 4, 2) := by decide +kernel
theorem dX8_joined_183 : decode cX8_joined 183 = .ok (.if_icmp .lt 27, 3) := by decide +kernel
theorem dX8_joined_186 : decode cX8_joined 186 = .ok (.aload_n 0, 1) := by decide +kernel
theorem dX8_joined_187 : decode cX8_joined 187 = .ok (.getfield 66, 3) := by decide +kernel
theorem dX8_joined_190 : decode cX8_joined 190 = .ok (.iload 10, 2) := by decide +kernel
theorem dX8_joined_192 : decode cX8_joined 192 = .ok (.iload 4, 2) := by decide +kernel
theorem dX8_joined_194 : decode cX8_joined 194 = .ok (.isub, 1) := by decide +kernel
theorem dX8_joined_195 : decode cX8_joined 195 = .ok (.iaload, 1) := by decide +kernel
theorem dX8_joined_196 : decode cX8_joined 196 = .ok (.aload_n 0, 1) := by decide +kernel
theorem dX8_joined_197 : decode cX8_joined 197 = .ok (.getfield 66, 3) := by decide +kernel
theorem dX8_joined_200 : decode cX8_joined 200 = .ok (.iload 10, 2) := by decide +kernel
theorem dX8_joined_202 : decode cX8_joined 202 = .ok (.iaload, 1) := by decide +kernel
theorem dX8_joined_203 : decode cX8_joined 203 = .ok (.if_icmp .ne 7, 3) := by decide +kernel
theorem dX8_joined_206 : decode cX8_joined 206 = .ok (.iconst 1, 1) := by decide +kernel
theorem dX8_joined_207 : decode cX8_joined 207 = .ok (.goto 4, 3) := by decide +kernel
theorem dX8_joined_210 : decode cX8_joined 210 = .ok (.iconst 0, 1) := by decide +kernel
theorem dX8_joined_211 : decode cX8_joined 211 = .ok (.istore 9, 2) := by decide +kernel
theorem dX8_joined_213 : decode cX8_joined 213 = .ok (.iinc 10 1, 3) := by decide +kernel
theorem dX8_joined_216 : decode cX8_joined 216 = .ok (.goto (-48), 3) := by decide +kernel
theorem dX8_joined_219 : decode cX8_joined 219 = .ok (.aload_n 0, 1) := by decide +kernel
theorem dX8_joined_220 : decode cX8_joined 220 = .ok (.getfield 76, 3) := by decide +kernel
theorem dX8_joined_223 : decode cX8_joined 223 = .ok (.iload_n 3, 1) := by decide +kernel
theorem dX8_joined_224 : decode cX8_joined 224 = .ok (.isub, 1) := by decide +kernel
theorem dX8_joined_225 : decode cX8_joined 225 = .ok (.i2l, 1) := by decide +kernel
theorem dX8_joined_226 : decode cX8_joined 226 = .ok (.lstore 10, 2) := by decide +kernel
theorem dX8_joined_228 : decode cX8_joined 228 = .ok (.iload 9, 2) := by decide +kernel
theorem dX8_joined_230 : decode cX8_joined 230 = .ok (.ifCond .eq 8, 3) := by decide +kernel
theorem dX8_joined_233 : decode cX8_joined 233 = .ok (.bipush (-3), 2) := by decide +kernel
theorem dX8_joined_235 : decode cX8_joined 235 = .ok (.goto 25, 3) := by decide +kernel
theorem dX8_joined_238 : decode cX8_joined 238 = .ok (.lload 5, 2) := by decide +kernel
theorem dX8_joined_240 : decode cX8_joined 240 = .ok (.lload 10, 2) := by decide +kernel
theorem dX8_joined_242 : decode cX8_joined 242 = .ok (.aload_n 0, 1) := by decide +kernel
theorem dX8_joined_243 : decode cX8_joined 243 = .ok (.getfield 80, 3) := by decide +kernel
theorem dX8_joined_246 : decode cX8_joined 246 = .ok (.i2l, 1) := by decide +kernel
theorem dX8_joined_247 : decode cX8_joined 247 = .ok (.lmul, 1) := by decide +kernel
theorem dX8_joined_248 : decode cX8_joined 248 = .ok (.lcmp, 1) := by decide +kernel
theorem dX8_joined_249 : decode cX8_joined 249 = .ok (.ifCond .le 8, 3) := by decide +kernel
theorem dX8_joined_252 : decode cX8_joined 252 = .ok (.bipush (-2), 2) := by decide +kernel
theorem dX8_joined_254 : decode cX8_joined 254 = .ok (.goto 6, 3) := by decide +kernel
theorem dX8_joined_257 : decode cX8_joined 257 = .ok (.lload 5, 2) := by decide +kernel
theorem dX8_joined_259 : decode cX8_joined 259 = .ok (.l2i, 1) := by decide +kernel
theorem dX8_joined_260 : decode cX8_joined 260 = .ok (.ireturn, 1) := by decide +kernel
theorem dX8_puts2_0 : decode cX8_puts2 0 = .ok (.sipush 8192, 3) := by decide +kernel
theorem dX8_puts2_3 : decode cX8_puts2 3 = .ok (.iload_n 3, 1) := by decide +kernel
theorem dX8_puts2_4 : decode cX8_puts2 4 = .ok (.imul, 1) := by decide +kernel
theorem dX8_puts2_5 : decode cX8_puts2 5 = .ok (.istore 4, 2) := by decide +kernel
theorem dX8_puts2_7 : decode cX8_puts2 7 = .ok (.iconst 0, 1) := by decide +kernel
theorem dX8_puts2_8 : decode cX8_puts2 8 = .ok (.istore 5, 2) := by decide +kernel
theorem dX8_puts2_10 : decode cX8_puts2 10 = .ok (.iconst 0, 1) := by decide +kernel
theorem dX8_puts2_11 : decode cX8_puts2 11 = .ok (.istore 6, 2) := by decide +kernel
theorem dX8_puts2_13 : decode cX8_puts2 13 = .ok (.iload 6, 2) := by decide +kernel
theorem dX8_puts2_15 : decode cX8_puts2 15 = .ok (.iload_n 1, 1) := by decide +kernel
theorem dX8_puts2_16 : decode cX8_puts2 16 = .ok (.if_icmp .ge 102, 3) := by decide +kernel
theorem dX8_puts2_19 : decode cX8_puts2 19 = .ok (.iload 5, 2) := by decide +kernel
theorem dX8_puts2_21 : decode cX8_puts2 21 = .ok (.iload_n 2, 1) := by decide +kernel
theorem dX8_puts2_22 : decode cX8_puts2 22 = .ok (.if_icmp .ge 26, 3) := by decide +kernel
theorem dX8_puts2_25 : decode cX8_puts2 25 = .ok (.aload_n 0, 1) := by decide +kernel
theorem dX8_puts2_26 : decode cX8_puts2 26 = .ok (.getfield 66, 3) := by decide +kernel
theorem dX8_puts2_29 : decode cX8_puts2 29 = .ok (.iload 5, 2) := by decide +kernel
theorem dX8_puts2_31 : decode cX8_puts2 31 = .ok (.iaload, 1) := by decide +kernel
theorem dX8_puts2_32 : decode cX8_puts2 32 = .ok (.aload_n 0, 1) := by decide +kernel
theorem dX8_puts2_33 : decode cX8_puts2 33 = .ok (.getfield 60, 3) := by decide +kernel
theorem dX8_puts2_36 : decode cX8_puts2 36 = .ok (.iload 6, 2) := by decide +kernel
theorem dX8_puts2_38 : decode cX8_puts2 38 = .ok (.iaload, 1) := by decide +kernel
theorem dX8_puts2_39 : decode cX8_puts2 39 = .ok (.if_icmp .ge 9, 3) := by decide +kernel
theorem dX8_puts2_42 : decode cX8_puts2 42 = .ok (.iinc 5 1, 3) := by decide +kernel
theorem dX8_puts2_45 : decode cX8_puts2 45 = .ok (.goto (-26), 3) := by decide +kernel
theorem dX8_puts2_48 : decode cX8_puts2 48 = .ok (.iload 5, 2) := by decide +kernel
theorem dX8_puts2_50 : decode cX8_puts2 50 = .ok (.istore 7, 2) := by decide +kernel
theorem dX8_puts2_52 : decode cX8_puts2 52 = .ok (.iload 7, 2) := by decide +kernel
theorem dX8_puts2_54 : decode cX8_puts2 54 = .ok (.iload_n 2, 1) := by decide +kernel
theorem dX8_puts2_55 : decode cX8_puts2 55 = .ok (.if_icmp .ge 57, 3) := by decide +kernel
theorem dX8_puts2_58 : decode cX8_puts2 58 = .ok (.aload_n 0, 1) := by decide +kernel
theorem dX8_puts2_59 : decode cX8_puts2 59 = .ok (.getfield 66, 3) := by decide +kernel
theorem dX8_puts2_62 : decode cX8_puts2 62 = .ok (.iload 7, 2) := by decide +kernel
theorem dX8_puts2_64 : decode cX8_puts2 64 = .ok (.iaload, 1) := by decide +kernel
theorem dX8_puts2_65 : decode cX8_puts2 65 = .ok (.aload_n 0, 1) := by decide +kernel
theorem dX8_puts2_66 : decode cX8_puts2 66 = .ok (.getfield 60, 3) := by decide +kernel
theorem dX8_puts2_69 : decode cX8_puts2 69 = .ok (.iload 6, 2) := by decide +kernel
theorem dX8_puts2_71 : decode cX8_puts2 71 = .ok (.iaload, 1) := by decide +kernel
theorem dX8_puts2_72 : decode cX8_puts2 72 = .ok (.if_icmp .ne 40, 3) := by decide +kernel
theorem dX8_puts2_75 : decode cX8_puts2 75 = .ok (.aload_n 0, 1) := by decide +kernel
theorem dX8_puts2_76 : decode cX8_puts2 76 = .ok (.getfield 8, 3) := by decide +kernel
theorem dX8_puts2_79 : decode cX8_puts2 79 = .ok (.iload 4, 2) := by decide +kernel
theorem dX8_puts2_81 : decode cX8_puts2 81 = .ok (.aload_n 0, 1) := by decide +kernel
theorem dX8_puts2_82 : decode cX8_puts2 82 = .ok (.getfield 63, 3) := by decide +kernel
theorem dX8_puts2_85 : decode cX8_puts2 85 = .ok (.iload 6, 2) := by decide +kernel
theorem dX8_puts2_87 : decode cX8_puts2 87 = .ok (.iaload, 1) := by decide +kernel
theorem dX8_puts2_88 : decode cX8_puts2 88 = .ok (.iastore, 1) := by decide +kernel
theorem dX8_puts2_89 : decode cX8_puts2 89 = .ok (.aload_n 0, 1) := by decide +kernel
theorem dX8_puts2_90 : decode cX8_puts2 90 = .ok (.getfield 14, 3) := by decide +kernel
theorem dX8_puts2_93 : decode cX8_puts2 93 = .ok (.iload 4, 2) := by decide +kernel
theorem dX8_puts2_95 : decode cX8_puts2 95 = .ok (.aload_n 0, 1) := by decide +kernel
theorem dX8_puts2_96 : decode cX8_puts2 96 = .ok (.getfield 69, 3) := by decide +kernel
theorem dX8_puts2_99 : decode cX8_puts2 99 = .ok (.iload 7, 2) := by decide +kernel
theorem dX8_puts2_101 : decode cX8_puts2 101 = .ok (.iaload, 1) := by decide +kernel
theorem dX8_puts2_102 : decode cX8_puts2 102 = .ok (.iastore, 1) := by decide +kernel
theorem dX8_puts2_103 : decode cX8_puts2 103 = .ok (.iinc 4 1, 3) := by decide +kernel
theorem dX8_puts2_106 : decode cX8_puts2 106 = .ok (.iinc 7 1, 3) := by decide +kernel
theorem dX8_puts2_109 : decode cX8_puts2 109 = .ok (.goto (-57), 3) := by decide +kernel
theorem dX8_puts2_112 : decode cX8_puts2 112 = .ok (.iinc 6 1, 3) := by decide +kernel
theorem dX8_puts2_115 : decode cX8_puts2 115 = .ok (.goto (-102), 3) := by decide +kernel
theorem dX8_puts2_118 : decode cX8_puts2 118 = .ok (.return_, 1) := by decide +kernel
theorem dX8_size_0 : decode cX8_size 0 = .ok (.iload_n 1, 1) := by decide +kernel
theorem dX8_size_1 : decode cX8_size 1 = .ok (.invokestatic 87, 3) := by decide +kernel
theorem dX8_size_4 : decode cX8_size 4 = .ok (.ifCond .eq 12, 3) := by decide +kernel
theorem dX8_size_7 : decode cX8_size 7 = .ok (.aload_n 0, 1) := by decide +kernel
theorem dX8_size_8 : decode cX8_size 8 = .ok (.getfield 17, 3) := by decide +kernel
theorem dX8_size_11 : decode cX8_size 11 = .ok (.iload_n 1, 1) := by decide +kernel
theorem dX8_size_12 : decode cX8_size 12 = .ok (.iaload, 1) := by decide +kernel
theorem dX8_size_13 : decode cX8_size 13 = .ok (.goto 4, 3) := by decide +kernel
theorem dX8_size_16 : decode cX8_size 16 = .ok (.iconst (-1), 1) := by decide +kernel
theorem dX8_size_17 : decode cX8_size 17 = .ok (.ireturn, 1) := by decide +kernel
theorem dX8_key_0 : decode cX8_key 0 = .ok (.iload_n 1, 1) := by decide +kernel
theorem dX8_key_1 : decode cX8_key 1 = .ok (.invokestatic 87, 3) := by decide +kernel
theorem dX8_key_4 : decode cX8_key 4 = .ok (.ifCond .eq 34, 3) := by decide +kernel
theorem dX8_key_7 : decode cX8_key 7 = .ok (.iload_n 2, 1) := by decide +kernel
theorem dX8_key_8 : decode cX8_key 8 = .ok (.iconst 0, 1) := by decide +kernel
theorem dX8_key_9 : decode cX8_key 9 = .ok (.aload_n 0, 1) := by decide +kernel
theorem dX8_key_10 : decode cX8_key 10 = .ok (.getfield 17, 3) := by decide +kernel
theorem dX8_key_13 : decode cX8_key 13 = .ok (.iload_n 1, 1) := by decide +kernel
theorem dX8_key_14 : decode cX8_key 14 = .ok (.iaload, 1) := by decide +kernel
theorem dX8_key_15 : decode cX8_key 15 = .ok (.iconst 1, 1) := by decide +kernel
theorem dX8_key_16 : decode cX8_key 16 = .ok (.isub, 1) := by decide +kernel
theorem dX8_key_17 : decode cX8_key 17 = .ok (.invokestatic 83, 3) := by decide +kernel
theorem dX8_key_20 : decode cX8_key 20 = .ok (.ifCond .eq 18, 3) := by decide +kernel
theorem dX8_key_23 : decode cX8_key 23 = .ok (.aload_n 0, 1) := by decide +kernel
theorem dX8_key_24 : decode cX8_key 24 = .ok (.getfield 8, 3) := by decide +kernel
theorem dX8_key_27 : decode cX8_key 27 = .ok (.sipush 8192, 3) := by decide +kernel
theorem dX8_key_30 : decode cX8_key 30 = .ok (.iload_n 1, 1) := by decide +kernel
theorem dX8_key_31 : decode cX8_key 31 = .ok (.imul, 1) := by decide +kernel
theorem dX8_key_32 : decode cX8_key 32 = .ok (.iload_n 2, 1) := by decide +kernel
theorem dX8_key_33 : decode cX8_key 33 = .ok (.iadd, 1) := by decide +kernel
theorem dX8_key_34 : decode cX8_key 34 = .ok (.iaload, 1) := by decide +kernel
theorem dX8_key_35 : decode cX8_key 35 = .ok (.goto 4, 3) := by decide +kernel
theorem dX8_key_38 : decode cX8_key 38 = .ok (.iconst 0, 1) := by decide +kernel
theorem dX8_key_39 : decode cX8_key 39 = .ok (.ireturn, 1) := by decide +kernel
theorem dX8_tag_0 : decode cX8_tag 0 = .ok (.iload_n 1, 1) := by decide +kernel
theorem dX8_tag_1 : decode cX8_tag 1 = .ok (.invokestatic 87, 3) := by decide +kernel
theorem dX8_tag_4 : decode cX8_tag 4 = .ok (.ifCond .eq 34, 3) := by decide +kernel
theorem dX8_tag_7 : decode cX8_tag 7 = .ok (.iload_n 2, 1) := by decide +kernel
theorem dX8_tag_8 : decode cX8_tag 8 = .ok (.iconst 0, 1) := by decide +kernel
theorem dX8_tag_9 : decode cX8_tag 9 = .ok (.aload_n 0, 1) := by decide +kernel
theorem dX8_tag_10 : decode cX8_tag 10 = .ok (.getfield 17, 3) := by decide +kernel
theorem dX8_tag_13 : decode cX8_tag 13 = .ok (.iload_n 1, 1) := by decide +kernel
theorem dX8_tag_14 : decode cX8_tag 14 = .ok (.iaload, 1) := by decide +kernel
theorem dX8_tag_15 : decode cX8_tag 15 = .ok (.iconst 1, 1) := by decide +kernel
theorem dX8_tag_16 : decode cX8_tag 16 = .ok (.isub, 1) := by decide +kernel
theorem dX8_tag_17 : decode cX8_tag 17 = .ok (.invokestatic 83, 3) := by decide +kernel
theorem dX8_tag_20 : decode cX8_tag 20 = .ok (.ifCond .eq 18, 3) := by decide +kernel
theorem dX8_tag_23 : decode cX8_tag 23 = .ok (.aload_n 0, 1) := by decide +kernel
theorem dX8_tag_24 : decode cX8_tag 24 = .ok (.getfield 14, 3) := by decide +kernel
theorem dX8_tag_27 : decode cX8_tag 27 = .ok (.sipush 8192, 3) := by decide +kernel
theorem dX8_tag_30 : decode cX8_tag 30 = .ok (.iload_n 1, 1) := by decide +kernel
theorem dX8_tag_31 : decode cX8_tag 31 = .ok (.imul, 1) := by decide +kernel
theorem dX8_tag_32 : decode cX8_tag 32 = .ok (.iload_n 2, 1) := by decide +kernel
theorem dX8_tag_33 : decode cX8_tag 33 = .ok (.iadd, 1) := by decide +kernel
theorem dX8_tag_34 : decode cX8_tag 34 = .ok (.iaload, 1) := by decide +kernel
theorem dX8_tag_35 : decode cX8_tag 35 = .ok (.goto 4, 3) := by decide +kernel
theorem dX8_tag_38 : decode cX8_tag 38 = .ok (.iconst 0, 1) := by decide +kernel
theorem dX8_tag_39 : decode cX8_tag 39 = .ok (.ireturn, 1) := by decide +kernel
theorem dX8_told_0 : decode cX8_told 0 = .ok (.iload_n 1, 1) := by decide +kernel
theorem dX8_told_1 : decode cX8_told 1 = .ok (.tableswitch 47 6 8 #[27, 37, 42], 27) := by decide +kernel
theorem dX8_told_28 : decode cX8_told 28 = .ok (.aload_n 0, 1) := by decide +kernel
theorem dX8_told_29 : decode cX8_told 29 = .ok (.getfield 76, 3) := by decide +kernel
theorem dX8_told_32 : decode cX8_told 32 = .ok (.aload_n 0, 1) := by decide +kernel
theorem dX8_told_33 : decode cX8_told 33 = .ok (.getfield 91, 3) := by decide +kernel
theorem dX8_told_36 : decode cX8_told 36 = .ok (.isub, 1) := by decide +kernel
theorem dX8_told_37 : decode cX8_told 37 = .ok (.ireturn, 1) := by decide +kernel
theorem dX8_told_38 : decode cX8_told 38 = .ok (.aload_n 0, 1) := by decide +kernel
theorem dX8_told_39 : decode cX8_told 39 = .ok (.getfield 76, 3) := by decide +kernel
theorem dX8_told_42 : decode cX8_told 42 = .ok (.ireturn, 1) := by decide +kernel
theorem dX8_told_43 : decode cX8_told 43 = .ok (.aload_n 0, 1) := by decide +kernel
theorem dX8_told_44 : decode cX8_told 44 = .ok (.getfield 80, 3) := by decide +kernel
theorem dX8_told_47 : decode cX8_told 47 = .ok (.ireturn, 1) := by decide +kernel
theorem dX8_told_48 : decode cX8_told 48 = .ok (.iload_n 1, 1) := by decide +kernel
theorem dX8_told_49 : decode cX8_told 49 = .ok (.iconst 0, 1) := by decide +kernel
theorem dX8_told_50 : decode cX8_told 50 = .ok (.iconst 5, 1) := by decide +kernel
theorem dX8_told_51 : decode cX8_told 51 = .ok (.invokestatic 83, 3) := by decide +kernel
theorem dX8_told_54 : decode cX8_told 54 = .ok (.ifCond .eq 12, 3) := by decide +kernel
theorem dX8_told_57 : decode cX8_told 57 = .ok (.aload_n 0, 1) := by decide +kernel
theorem dX8_told_58 : decode cX8_told 58 = .ok (.getfield 45, 3) := by decide +kernel
theorem dX8_told_61 : decode cX8_told 61 = .ok (.iload_n 1, 1) := by decide +kernel
theorem dX8_told_62 : decode cX8_told 62 = .ok (.iaload, 1) := by decide +kernel
theorem dX8_told_63 : decode cX8_told 63 = .ok (.goto 4, 3) := by decide +kernel
theorem dX8_told_66 : decode cX8_told 66 = .ok (.iconst (-1), 1) := by decide +kernel
theorem dX8_told_67 : decode cX8_told 67 = .ok (.ireturn, 1) := by decide +kernel
theorem dX8_run_0 : decode cX8_run 0 = .ok (.iload_n 1, 1) := by decide +kernel
theorem dX8_run_1 : decode cX8_run 1 = .ok (.iconst 0, 1) := by decide +kernel
theorem dX8_run_2 : decode cX8_run 2 = .ok (.aload_n 0, 1) := by decide +kernel
theorem dX8_run_3 : decode cX8_run 3 = .ok (.getfield 180, 3) := by decide +kernel
theorem dX8_run_6 : decode cX8_run 6 = .ok (.iconst 1, 1) := by decide +kernel
theorem dX8_run_7 : decode cX8_run 7 = .ok (.isub, 1) := by decide +kernel
theorem dX8_run_8 : decode cX8_run 8 = .ok (.invokestatic 83, 3) := by decide +kernel
theorem dX8_run_11 : decode cX8_run 11 = .ok (.ifCond .eq 12, 3) := by decide +kernel
theorem dX8_run_14 : decode cX8_run 14 = .ok (.aload_n 0, 1) := by decide +kernel
theorem dX8_run_15 : decode cX8_run 15 = .ok (.getfield 48, 3) := by decide +kernel
theorem dX8_run_18 : decode cX8_run 18 = .ok (.iload_n 1, 1) := by decide +kernel
theorem dX8_run_19 : decode cX8_run 19 = .ok (.iaload, 1) := by decide +kernel
theorem dX8_run_20 : decode cX8_run 20 = .ok (.goto 4, 3) := by decide +kernel
theorem dX8_run_23 : decode cX8_run 23 = .ok (.iconst (-1), 1) := by decide +kernel
theorem dX8_run_24 : decode cX8_run 24 = .ok (.ireturn, 1) := by decide +kernel
theorem dJ9_max_7cf53_0 : decode cJ9_max_7cf53 0 = .ok (.iload_n 0, 1) := by decide +kernel
theorem dJ9_max_7cf53_1 : decode cJ9_max_7cf53 1 = .ok (.iload_n 1, 1) := by decide +kernel
theorem dJ9_max_7cf53_2 : decode cJ9_max_7cf53 2 = .ok (.if_icmp .lt 7, 3) := by decide +kernel
theorem dJ9_max_7cf53_5 : decode cJ9_max_7cf53 5 = .ok (.iload_n 0, 1) := by decide +kernel
theorem dJ9_max_7cf53_6 : decode cJ9_max_7cf53 6 = .ok (.goto 4, 3) := by decide +kernel
theorem dJ9_max_7cf53_9 : decode cJ9_max_7cf53 9 = .ok (.iload_n 1, 1) := by decide +kernel
theorem dJ9_max_7cf53_10 : decode cJ9_max_7cf53 10 = .ok (.ireturn, 1) := by decide +kernel
theorem dJ9_min_7cf53_0 : decode cJ9_min_7cf53 0 = .ok (.iload_n 0, 1) := by decide +kernel
theorem dJ9_min_7cf53_1 : decode cJ9_min_7cf53 1 = .ok (.iload_n 1, 1) := by decide +kernel
theorem dJ9_min_7cf53_2 : decode cJ9_min_7cf53 2 = .ok (.if_icmp .gt 7, 3) := by decide +kernel
theorem dJ9_min_7cf53_5 : decode cJ9_min_7cf53 5 = .ok (.iload_n 0, 1) := by decide +kernel
theorem dJ9_min_7cf53_6 : decode cJ9_min_7cf53 6 = .ok (.goto 4, 3) := by decide +kernel
theorem dJ9_min_7cf53_9 : decode cJ9_min_7cf53 9 = .ok (.iload_n 1, 1) := by decide +kernel
theorem dJ9_min_7cf53_10 : decode cJ9_min_7cf53 10 = .ok (.ireturn, 1) := by decide +kernel
theorem dL_cell_0 : decode cL_cell 0 = .ok (.iload_n 1, 1) := by decide +kernel
theorem dL_cell_1 : decode cL_cell 1 = .ok (.aload_n 0, 1) := by decide +kernel
theorem dL_cell_2 : decode cL_cell 2 = .ok (.arraylength, 1) := by decide +kernel
theorem dL_cell_3 : decode cL_cell 3 = .ok (.if_icmp .ge 9, 3) := by decide +kernel
theorem dL_cell_6 : decode cL_cell 6 = .ok (.aload_n 0, 1) := by decide +kernel
theorem dL_cell_7 : decode cL_cell 7 = .ok (.iload_n 1, 1) := by decide +kernel
theorem dL_cell_8 : decode cL_cell 8 = .ok (.iaload, 1) := by decide +kernel
theorem dL_cell_9 : decode cL_cell 9 = .ok (.goto 4, 3) := by decide +kernel
theorem dL_cell_12 : decode cL_cell 12 = .ok (.iconst 0, 1) := by decide +kernel
theorem dL_cell_13 : decode cL_cell 13 = .ok (.ireturn, 1) := by decide +kernel
theorem dL_law_0 : decode cL_law 0 = .ok (.new 7, 3) := by decide +kernel
theorem dL_law_3 : decode cL_law 3 = .ok (.dup, 1) := by decide +kernel
theorem dL_law_4 : decode cL_law 4 = .ok (.aload_n 0, 1) := by decide +kernel
theorem dL_law_5 : decode cL_law 5 = .ok (.iconst 0, 1) := by decide +kernel
theorem dL_law_6 : decode cL_law 6 = .ok (.invokestatic 9, 3) := by decide +kernel
theorem dL_law_9 : decode cL_law 9 = .ok (.aload_n 0, 1) := by decide +kernel
theorem dL_law_10 : decode cL_law 10 = .ok (.iconst 1, 1) := by decide +kernel
theorem dL_law_11 : decode cL_law 11 = .ok (.invokestatic 9, 3) := by decide +kernel
theorem dL_law_14 : decode cL_law 14 = .ok (.invokespecial 15, 3) := by decide +kernel
theorem dL_law_17 : decode cL_law 17 = .ok (.astore_n 1, 1) := by decide +kernel
theorem dL_law_18 : decode cL_law 18 = .ok (.new 18, 3) := by decide +kernel
theorem dL_law_21 : decode cL_law 21 = .ok (.dup, 1) := by decide +kernel
theorem dL_law_22 : decode cL_law 22 = .ok (.aload_n 0, 1) := by decide +kernel
theorem dL_law_23 : decode cL_law 23 = .ok (.iconst 0, 1) := by decide +kernel
theorem dL_law_24 : decode cL_law 24 = .ok (.invokestatic 9, 3) := by decide +kernel
theorem dL_law_27 : decode cL_law 27 = .ok (.aload_n 0, 1) := by decide +kernel
theorem dL_law_28 : decode cL_law 28 = .ok (.iconst 1, 1) := by decide +kernel
theorem dL_law_29 : decode cL_law 29 = .ok (.invokestatic 9, 3) := by decide +kernel
theorem dL_law_32 : decode cL_law 32 = .ok (.invokespecial 20, 3) := by decide +kernel
theorem dL_law_35 : decode cL_law 35 = .ok (.astore_n 2, 1) := by decide +kernel
theorem dL_law_36 : decode cL_law 36 = .ok (.iconst 2, 1) := by decide +kernel
theorem dL_law_37 : decode cL_law 37 = .ok (.istore_n 3, 1) := by decide +kernel
theorem dL_law_38 : decode cL_law 38 = .ok (.iload_n 3, 1) := by decide +kernel
theorem dL_law_39 : decode cL_law 39 = .ok (.aload_n 0, 1) := by decide +kernel
theorem dL_law_40 : decode cL_law 40 = .ok (.arraylength, 1) := by decide +kernel
theorem dL_law_41 : decode cL_law 41 = .ok (.iconst 5, 1) := by decide +kernel
theorem dL_law_42 : decode cL_law 42 = .ok (.isub, 1) := by decide +kernel
theorem dL_law_43 : decode cL_law 43 = .ok (.if_icmp .gt 421, 3) := by decide +kernel
theorem dL_law_46 : decode cL_law 46 = .ok (.aload_n 0, 1) := by decide +kernel
theorem dL_law_47 : decode cL_law 47 = .ok (.iload_n 3, 1) := by decide +kernel
theorem dL_law_48 : decode cL_law 48 = .ok (.iaload, 1) := by decide +kernel
theorem dL_law_49 : decode cL_law 49 = .ok (.bipush 15, 2) := by decide +kernel
theorem dL_law_51 : decode cL_law 51 = .ok (.iand, 1) := by decide +kernel
theorem dL_law_52 : decode cL_law 52 = .ok (.tableswitch 406 0 9 #[56, 99, 122, 175, 218, 271, 294, 327, 360, 383], 56) := by decide +kernel
theorem dL_law_108 : decode cL_law 108 = .ok (.aload_n 1, 1) := by decide +kernel
theorem dL_law_109 : decode cL_law 109 = .ok (.aload_n 0, 1) := by decide +kernel
theorem dL_law_110 : decode cL_law 110 = .ok (.iload_n 3, 1) := by decide +kernel
theorem dL_law_111 : decode cL_law 111 = .ok (.iconst 1, 1) := by decide +kernel
theorem dL_law_112 : decode cL_law 112 = .ok (.iadd, 1) := by decide +kernel
theorem dL_law_113 : decode cL_law 113 = .ok (.iaload, 1) := by decide +kernel
theorem dL_law_114 : decode cL_law 114 = .ok (.aload_n 0, 1) := by decide +kernel
theorem dL_law_115 : decode cL_law 115 = .ok (.iload_n 3, 1) := by decide +kernel
theorem dL_law_116 : decode cL_law 116 = .ok (.iconst 2, 1) := by decide +kernel
theorem dL_law_117 : decode cL_law 117 = .ok (.iadd, 1) := by decide +kernel
theorem dL_law_118 : decode cL_law 118 = .ok (.iaload, 1) := by decide +kernel
theorem dL_law_119 : decode cL_law 119 = .ok (.aload_n 0, 1) := by decide +kernel
theorem dL_law_120 : decode cL_law 120 = .ok (.iload_n 3, 1) := by decide +kernel
theorem dL_law_121 : decode cL_law 121 = .ok (.iconst 3, 1) := by decide +kernel
theorem dL_law_122 : decode cL_law 122 = .ok (.iadd, 1) := by decide +kernel
theorem dL_law_123 : decode cL_law 123 = .ok (.iaload, 1) := by decide +kernel
theorem dL_law_124 : decode cL_law 124 = .ok (.invokevirtual 21, 3) := by decide +kernel
theorem dL_law_127 : decode cL_law 127 = .ok (.aload_n 2, 1) := by decide +kernel
theorem dL_law_128 : decode cL_law 128 = .ok (.aload_n 0, 1) := by decide +kernel
theorem dL_law_129 : decode cL_law 129 = .ok (.iload_n 3, 1) := by decide +kernel
theorem dL_law_130 : decode cL_law 130 = .ok (.iconst 1, 1) := by decide +kernel
theorem dL_law_131 : decode cL_law 131 = .ok (.iadd, 1) := by decide +kernel
theorem dL_law_132 : decode cL_law 132 = .ok (.iaload, 1) := by decide +kernel
theorem dL_law_133 : decode cL_law 133 = .ok (.aload_n 0, 1) := by decide +kernel
theorem dL_law_134 : decode cL_law 134 = .ok (.iload_n 3, 1) := by decide +kernel
theorem dL_law_135 : decode cL_law 135 = .ok (.iconst 2, 1) := by decide +kernel
theorem dL_law_136 : decode cL_law 136 = .ok (.iadd, 1) := by decide +kernel
theorem dL_law_137 : decode cL_law 137 = .ok (.iaload, 1) := by decide +kernel
theorem dL_law_138 : decode cL_law 138 = .ok (.aload_n 0, 1) := by decide +kernel
theorem dL_law_139 : decode cL_law 139 = .ok (.iload_n 3, 1) := by decide +kernel
theorem dL_law_140 : decode cL_law 140 = .ok (.iconst 3, 1) := by decide +kernel
theorem dL_law_141 : decode cL_law 141 = .ok (.iadd, 1) := by decide +kernel
theorem dL_law_142 : decode cL_law 142 = .ok (.iaload, 1) := by decide +kernel
theorem dL_law_143 : decode cL_law 143 = .ok (.invokevirtual 25, 3) := by decide +kernel
theorem dL_law_146 : decode cL_law 146 = .ok (.if_icmp .eq 312, 3) := by decide +kernel
theorem dL_law_149 : decode cL_law 149 = .ok (.iconst 0, 1) := by decide +kernel
theorem dL_law_150 : decode cL_law 150 = .ok (.ireturn, 1) := by decide +kernel
theorem dL_law_151 : decode cL_law 151 = .ok (.aload_n 1, 1) := by decide +kernel
theorem dL_law_152 : decode cL_law 152 = .ok (.aload_n 0, 1) := by decide +kernel
theorem dL_law_153 : decode cL_law 153 = .ok (.iload_n 3, 1) := by decide +kernel
theorem dL_law_154 : decode cL_law 154 = .ok (.iconst 1, 1) := by decide +kernel
theorem dL_law_155 : decode cL_law 155 = .ok (.iadd, 1) := by decide +kernel
theorem dL_law_156 : decode cL_law 156 = .ok (.iaload, 1) := by decide +kernel
theorem dL_law_157 : decode cL_law 157 = .ok (.invokevirtual 26, 3) := by decide +kernel
theorem dL_law_160 : decode cL_law 160 = .ok (.aload_n 2, 1) := by decide +kernel
theorem dL_law_161 : decode cL_law 161 = .ok (.aload_n 0, 1) := by decide +kernel
theorem dL_law_162 : decode cL_law 162 = .ok (.iload_n 3, 1) := by decide +kernel
theorem dL_law_163 : decode cL_law 163 = .ok (.iconst 1, 1) := by decide +kernel
theorem dL_law_164 : decode cL_law 164 = .ok (.iadd, 1) := by decide +kernel
theorem dL_law_165 : decode cL_law 165 = .ok (.iaload, 1) := by decide +kernel
theorem dL_law_166 : decode cL_law 166 = .ok (.invokevirtual 30, 3) := by decide +kernel
theorem dL_law_169 : decode cL_law 169 = .ok (.if_icmp .eq 289, 3) := by decide +kernel
theorem dL_law_172 : decode cL_law 172 = .ok (.iconst 0, 1) := by decide +kernel
theorem dL_law_173 : decode cL_law 173 = .ok (.ireturn, 1) := by decide +kernel
theorem dL_law_174 : decode cL_law 174 = .ok (.aload_n 1, 1) := by decide +kernel
theorem dL_law_175 : decode cL_law 175 = .ok (.aload_n 0, 1) := by decide +kernel
theorem dL_law_176 : decode cL_law 176 = .ok (.iload_n 3, 1) := by decide +kernel
theorem dL_law_177 : decode cL_law 177 = .ok (.iconst 1, 1) := by decide +kernel
theorem dL_law_178 : decode cL_law 178 = .ok (.iadd, 1) := by decide +kernel
theorem dL_law_179 : decode cL_law 179 = .ok (.iaload, 1) := by decide +kernel
theorem dL_law_180 : decode cL_law 180 = .ok (.aload_n 0, 1) := by decide +kernel
theorem dL_law_181 : decode cL_law 181 = .ok (.iload_n 3, 1) := by decide +kernel
theorem dL_law_182 : decode cL_law 182 = .ok (.iconst 2, 1) := by decide +kernel
theorem dL_law_183 : decode cL_law 183 = .ok (.iadd, 1) := by decide +kernel
theorem dL_law_184 : decode cL_law 184 = .ok (.iaload, 1) := by decide +kernel
theorem dL_law_185 : decode cL_law 185 = .ok (.aload_n 0, 1) := by decide +kernel
theorem dL_law_186 : decode cL_law 186 = .ok (.iload_n 3, 1) := by decide +kernel
theorem dL_law_187 : decode cL_law 187 = .ok (.iconst 3, 1) := by decide +kernel
theorem dL_law_188 : decode cL_law 188 = .ok (.iadd, 1) := by decide +kernel
theorem dL_law_189 : decode cL_law 189 = .ok (.iaload, 1) := by decide +kernel
theorem dL_law_190 : decode cL_law 190 = .ok (.aload_n 0, 1) := by decide +kernel
theorem dL_law_191 : decode cL_law 191 = .ok (.iload_n 3, 1) := by decide +kernel
theorem dL_law_192 : decode cL_law 192 = .ok (.iconst 4, 1) := by decide +kernel
theorem dL_law_193 : decode cL_law 193 = .ok (.iadd, 1) := by decide +kernel
theorem dL_law_194 : decode cL_law 194 = .ok (.iaload, 1) := by decide +kernel
theorem dL_law_195 : decode cL_law 195 = .ok (.invokevirtual 31, 3) := by decide +kernel
theorem dL_law_198 : decode cL_law 198 = .ok (.aload_n 2, 1) := by decide +kernel
theorem dL_law_199 : decode cL_law 199 = .ok (.aload_n 0, 1) := by decide +kernel
theorem dL_law_200 : decode cL_law 200 = .ok (.iload_n 3, 1) := by decide +kernel
theorem dL_law_201 : decode cL_law 201 = .ok (.iconst 1, 1) := by decide +kernel
theorem dL_law_202 : decode cL_law 202 = .ok (.iadd, 1) := by decide +kernel
theorem dL_law_203 : decode cL_law 203 = .ok (.iaload, 1) := by decide +kernel
theorem dL_law_204 : decode cL_law 204 = .ok (.aload_n 0, 1) := by decide +kernel
theorem dL_law_205 : decode cL_law 205 = .ok (.iload_n 3, 1) := by decide +kernel
theorem dL_law_206 : decode cL_law 206 = .ok (.iconst 2, 1) := by decide +kernel
theorem dL_law_207 : decode cL_law 207 = .ok (.iadd, 1) := by decide +kernel
theorem dL_law_208 : decode cL_law 208 = .ok (.iaload, 1) := by decide +kernel
theorem dL_law_209 : decode cL_law 209 = .ok (.aload_n 0, 1) := by decide +kernel
theorem dL_law_210 : decode cL_law 210 = .ok (.iload_n 3, 1) := by decide +kernel
theorem dL_law_211 : decode cL_law 211 = .ok (.iconst 3, 1) := by decide +kernel
theorem dL_law_212 : decode cL_law 212 = .ok (.iadd, 1) := by decide +kernel
theorem dL_law_213 : decode cL_law 213 = .ok (.iaload, 1) := by decide +kernel
theorem dL_law_214 : decode cL_law 214 = .ok (.aload_n 0, 1) := by decide +kernel
theorem dL_law_215 : decode cL_law 215 = .ok (.iload_n 3, 1) := by decide +kernel
theorem dL_law_216 : decode cL_law 216 = .ok (.iconst 4, 1) := by decide +kernel
theorem dL_law_217 : decode cL_law 217 = .ok (.iadd, 1) := by decide +kernel
theorem dL_law_218 : decode cL_law 218 = .ok (.iaload, 1) := by decide +kernel
theorem dL_law_219 : decode cL_law 219 = .ok (.invokevirtual 35, 3) := by decide +kernel
theorem dL_law_222 : decode cL_law 222 = .ok (.if_icmp .eq 236, 3) := by decide +kernel
theorem dL_law_225 : decode cL_law 225 = .ok (.iconst 0, 1) := by decide +kernel
theorem dL_law_226 : decode cL_law 226 = .ok (.ireturn, 1) := by decide +kernel
theorem dL_law_227 : decode cL_law 227 = .ok (.aload_n 1, 1) := by decide +kernel
theorem dL_law_228 : decode cL_law 228 = .ok (.aload_n 0, 1) := by decide +kernel
theorem dL_law_229 : decode cL_law 229 = .ok (.iload_n 3, 1) := by decide +kernel
theorem dL_law_230 : decode cL_law 230 = .ok (.iconst 1, 1) := by decide +kernel
theorem dL_law_231 : decode cL_law 231 = .ok (.iadd, 1) := by decide +kernel
theorem dL_law_232 : decode cL_law 232 = .ok (.iaload, 1) := by decide +kernel
theorem dL_law_233 : decode cL_law 233 = .ok (.aload_n 0, 1) := by decide +kernel
theorem dL_law_234 : decode cL_law 234 = .ok (.iload_n 3, 1) := by decide +kernel
theorem dL_law_235 : decode cL_law 235 = .ok (.iconst 2, 1) := by decide +kernel
theorem dL_law_236 : decode cL_law 236 = .ok (.iadd, 1) := by decide +kernel
theorem dL_law_237 : decode cL_law 237 = .ok (.iaload, 1) := by decide +kernel
theorem dL_law_238 : decode cL_law 238 = .ok (.aload_n 0, 1) := by decide +kernel
theorem dL_law_239 : decode cL_law 239 = .ok (.iload_n 3, 1) := by decide +kernel
theorem dL_law_240 : decode cL_law 240 = .ok (.iconst 3, 1) := by decide +kernel
theorem dL_law_241 : decode cL_law 241 = .ok (.iadd, 1) := by decide +kernel
theorem dL_law_242 : decode cL_law 242 = .ok (.iaload, 1) := by decide +kernel
theorem dL_law_243 : decode cL_law 243 = .ok (.invokevirtual 36, 3) := by decide +kernel
theorem dL_law_246 : decode cL_law 246 = .ok (.aload_n 2, 1) := by decide +kernel
theorem dL_law_247 : decode cL_law 247 = .ok (.aload_n 0, 1) := by decide +kernel
theorem dL_law_248 : decode cL_law 248 = .ok (.iload_n 3, 1) := by decide +kernel
theorem dL_law_249 : decode cL_law 249 = .ok (.iconst 1, 1) := by decide +kernel
theorem dL_law_250 : decode cL_law 250 = .ok (.iadd, 1) := by decide +kernel
theorem dL_law_251 : decode cL_law 251 = .ok (.iaload, 1) := by decide +kernel
theorem dL_law_252 : decode cL_law 252 = .ok (.aload_n 0, 1) := by decide +kernel
theorem dL_law_253 : decode cL_law 253 = .ok (.iload_n 3, 1) := by decide +kernel
theorem dL_law_254 : decode cL_law 254 = .ok (.iconst 2, 1) := by decide +kernel
theorem dL_law_255 : decode cL_law 255 = .ok (.iadd, 1) := by decide +kernel
theorem dL_law_256 : decode cL_law 256 = .ok (.iaload, 1) := by decide +kernel
theorem dL_law_257 : decode cL_law 257 = .ok (.aload_n 0, 1) := by decide +kernel
theorem dL_law_258 : decode cL_law 258 = .ok (.iload_n 3, 1) := by decide +kernel
theorem dL_law_259 : decode cL_law 259 = .ok (.iconst 3, 1) := by decide +kernel
theorem dL_law_260 : decode cL_law 260 = .ok (.iadd, 1) := by decide +kernel
theorem dL_law_261 : decode cL_law 261 = .ok (.iaload, 1) := by decide +kernel
theorem dL_law_262 : decode cL_law 262 = .ok (.invokevirtual 39, 3) := by decide +kernel
theorem dL_law_265 : decode cL_law 265 = .ok (.if_icmp .eq 193, 3) := by decide +kernel
theorem dL_law_268 : decode cL_law 268 = .ok (.iconst 0, 1) := by decide +kernel
theorem dL_law_269 : decode cL_law 269 = .ok (.ireturn, 1) := by decide +kernel
theorem dL_law_270 : decode cL_law 270 = .ok (.aload_n 1, 1) := by decide +kernel
theorem dL_law_271 : decode cL_law 271 = .ok (.aload_n 0, 1) := by decide +kernel
theorem dL_law_272 : decode cL_law 272 = .ok (.iload_n 3, 1) := by decide +kernel
theorem dL_law_273 : decode cL_law 273 = .ok (.iconst 1, 1) := by decide +kernel
theorem dL_law_274 : decode cL_law 274 = .ok (.iadd, 1) := by decide +kernel
theorem dL_law_275 : decode cL_law 275 = .ok (.iaload, 1) := by decide +kernel
theorem dL_law_276 : decode cL_law 276 = .ok (.aload_n 0, 1) := by decide +kernel
theorem dL_law_277 : decode cL_law 277 = .ok (.iload_n 3, 1) := by decide +kernel
theorem dL_law_278 : decode cL_law 278 = .ok (.iconst 2, 1) := by decide +kernel
theorem dL_law_279 : decode cL_law 279 = .ok (.iadd, 1) := by decide +kernel
theorem dL_law_280 : decode cL_law 280 = .ok (.iaload, 1) := by decide +kernel
theorem dL_law_281 : decode cL_law 281 = .ok (.aload_n 0, 1) := by decide +kernel
theorem dL_law_282 : decode cL_law 282 = .ok (.iload_n 3, 1) := by decide +kernel
theorem dL_law_283 : decode cL_law 283 = .ok (.iconst 3, 1) := by decide +kernel
theorem dL_law_284 : decode cL_law 284 = .ok (.iadd, 1) := by decide +kernel
theorem dL_law_285 : decode cL_law 285 = .ok (.iaload, 1) := by decide +kernel
theorem dL_law_286 : decode cL_law 286 = .ok (.aload_n 0, 1) := by decide +kernel
theorem dL_law_287 : decode cL_law 287 = .ok (.iload_n 3, 1) := by decide +kernel
theorem dL_law_288 : decode cL_law 288 = .ok (.iconst 4, 1) := by decide +kernel
theorem dL_law_289 : decode cL_law 289 = .ok (.iadd, 1) := by decide +kernel
theorem dL_law_290 : decode cL_law 290 = .ok (.iaload, 1) := by decide +kernel
theorem dL_law_291 : decode cL_law 291 = .ok (.invokevirtual 40, 3) := by decide +kernel
theorem dL_law_294 : decode cL_law 294 = .ok (.aload_n 2, 1) := by decide +kernel
theorem dL_law_295 : decode cL_law 295 = .ok (.aload_n 0, 1) := by decide +kernel
theorem dL_law_296 : decode cL_law 296 = .ok (.iload_n 3, 1) := by decide +kernel
theorem dL_law_297 : decode cL_law 297 = .ok (.iconst 1, 1) := by decide +kernel
theorem dL_law_298 : decode cL_law 298 = .ok (.iadd, 1) := by decide +kernel
theorem dL_law_299 : decode cL_law 299 = .ok (.iaload, 1) := by decide +kernel
theorem dL_law_300 : decode cL_law 300 = .ok (.aload_n 0, 1) := by decide +kernel
theorem dL_law_301 : decode cL_law 301 = .ok (.iload_n 3, 1) := by decide +kernel
theorem dL_law_302 : decode cL_law 302 = .ok (.iconst 2, 1) := by decide +kernel
theorem dL_law_303 : decode cL_law 303 = .ok (.iadd, 1) := by decide +kernel
theorem dL_law_304 : decode cL_law 304 = .ok (.iaload, 1) := by decide +kernel
theorem dL_law_305 : decode cL_law 305 = .ok (.aload_n 0, 1) := by decide +kernel
theorem dL_law_306 : decode cL_law 306 = .ok (.iload_n 3, 1) := by decide +kernel
theorem dL_law_307 : decode cL_law 307 = .ok (.iconst 3, 1) := by decide +kernel
theorem dL_law_308 : decode cL_law 308 = .ok (.iadd, 1) := by decide +kernel
theorem dL_law_309 : decode cL_law 309 = .ok (.iaload, 1) := by decide +kernel
theorem dL_law_310 : decode cL_law 310 = .ok (.aload_n 0, 1) := by decide +kernel
theorem dL_law_311 : decode cL_law 311 = .ok (.iload_n 3, 1) := by decide +kernel
theorem dL_law_312 : decode cL_law 312 = .ok (.iconst 4, 1) := by decide +kernel
theorem dL_law_313 : decode cL_law 313 = .ok (.iadd, 1) := by decide +kernel
theorem dL_law_314 : decode cL_law 314 = .ok (.iaload, 1) := by decide +kernel
theorem dL_law_315 : decode cL_law 315 = .ok (.invokevirtual 43, 3) := by decide +kernel
theorem dL_law_318 : decode cL_law 318 = .ok (.if_icmp .eq 140, 3) := by decide +kernel
theorem dL_law_321 : decode cL_law 321 = .ok (.iconst 0, 1) := by decide +kernel
theorem dL_law_322 : decode cL_law 322 = .ok (.ireturn, 1) := by decide +kernel
theorem dL_law_323 : decode cL_law 323 = .ok (.aload_n 1, 1) := by decide +kernel
theorem dL_law_324 : decode cL_law 324 = .ok (.aload_n 0, 1) := by decide +kernel
theorem dL_law_325 : decode cL_law 325 = .ok (.iload_n 3, 1) := by decide +kernel
theorem dL_law_326 : decode cL_law 326 = .ok (.iconst 1, 1) := by decide +kernel
theorem dL_law_327 : decode cL_law 327 = .ok (.iadd, 1) := by decide +kernel
theorem dL_law_328 : decode cL_law 328 = .ok (.iaload, 1) := by decide +kernel
theorem dL_law_329 : decode cL_law 329 = .ok (.invokevirtual 44, 3) := by decide +kernel
theorem dL_law_332 : decode cL_law 332 = .ok (.aload_n 2, 1) := by decide +kernel
theorem dL_law_333 : decode cL_law 333 = .ok (.aload_n 0, 1) := by decide +kernel
theorem dL_law_334 : decode cL_law 334 = .ok (.iload_n 3, 1) := by decide +kernel
theorem dL_law_335 : decode cL_law 335 = .ok (.iconst 1, 1) := by decide +kernel
theorem dL_law_336 : decode cL_law 336 = .ok (.iadd, 1) := by decide +kernel
theorem dL_law_337 : decode cL_law 337 = .ok (.iaload, 1) := by decide +kernel
theorem dL_law_338 : decode cL_law 338 = .ok (.invokevirtual 47, 3) := by decide +kernel
theorem dL_law_341 : decode cL_law 341 = .ok (.if_icmp .eq 117, 3) := by decide +kernel
theorem dL_law_344 : decode cL_law 344 = .ok (.iconst 0, 1) := by decide +kernel
theorem dL_law_345 : decode cL_law 345 = .ok (.ireturn, 1) := by decide +kernel
theorem dL_law_346 : decode cL_law 346 = .ok (.aload_n 1, 1) := by decide +kernel
theorem dL_law_347 : decode cL_law 347 = .ok (.aload_n 0, 1) := by decide +kernel
theorem dL_law_348 : decode cL_law 348 = .ok (.iload_n 3, 1) := by decide +kernel
theorem dL_law_349 : decode cL_law 349 = .ok (.iconst 1, 1) := by decide +kernel
theorem dL_law_350 : decode cL_law 350 = .ok (.iadd, 1) := by decide +kernel
theorem dL_law_351 : decode cL_law 351 = .ok (.iaload, 1) := by decide +kernel
theorem dL_law_352 : decode cL_law 352 = .ok (.aload_n 0, 1) := by decide +kernel
theorem dL_law_353 : decode cL_law 353 = .ok (.iload_n 3, 1) := by decide +kernel
theorem dL_law_354 : decode cL_law 354 = .ok (.iconst 2, 1) := by decide +kernel
theorem dL_law_355 : decode cL_law 355 = .ok (.iadd, 1) := by decide +kernel
theorem dL_law_356 : decode cL_law 356 = .ok (.iaload, 1) := by decide +kernel
theorem dL_law_357 : decode cL_law 357 = .ok (.invokevirtual 48, 3) := by decide +kernel
theorem dL_law_360 : decode cL_law 360 = .ok (.aload_n 2, 1) := by decide +kernel
theorem dL_law_361 : decode cL_law 361 = .ok (.aload_n 0, 1) := by decide +kernel
theorem dL_law_362 : decode cL_law 362 = .ok (.iload_n 3, 1) := by decide +kernel
theorem dL_law_363 : decode cL_law 363 = .ok (.iconst 1, 1) := by decide +kernel
theorem dL_law_364 : decode cL_law 364 = .ok (.iadd, 1) := by decide +kernel
theorem dL_law_365 : decode cL_law 365 = .ok (.iaload, 1) := by decide +kernel
theorem dL_law_366 : decode cL_law 366 = .ok (.aload_n 0, 1) := by decide +kernel
theorem dL_law_367 : decode cL_law 367 = .ok (.iload_n 3, 1) := by decide +kernel
theorem dL_law_368 : decode cL_law 368 = .ok (.iconst 2, 1) := by decide +kernel
theorem dL_law_369 : decode cL_law 369 = .ok (.iadd, 1) := by decide +kernel
theorem dL_law_370 : decode cL_law 370 = .ok (.iaload, 1) := by decide +kernel
theorem dL_law_371 : decode cL_law 371 = .ok (.invokevirtual 52, 3) := by decide +kernel
theorem dL_law_374 : decode cL_law 374 = .ok (.if_icmp .eq 84, 3) := by decide +kernel
theorem dL_law_377 : decode cL_law 377 = .ok (.iconst 0, 1) := by decide +kernel
theorem dL_law_378 : decode cL_law 378 = .ok (.ireturn, 1) := by decide +kernel
theorem dL_law_379 : decode cL_law 379 = .ok (.aload_n 1, 1) := by decide +kernel
theorem dL_law_380 : decode cL_law 380 = .ok (.aload_n 0, 1) := by decide +kernel
theorem dL_law_381 : decode cL_law 381 = .ok (.iload_n 3, 1) := by decide +kernel
theorem dL_law_382 : decode cL_law 382 = .ok (.iconst 1, 1) := by decide +kernel
theorem dL_law_383 : decode cL_law 383 = .ok (.iadd, 1) := by decide +kernel
theorem dL_law_384 : decode cL_law 384 = .ok (.iaload, 1) := by decide +kernel
theorem dL_law_385 : decode cL_law 385 = .ok (.aload_n 0, 1) := by decide +kernel
theorem dL_law_386 : decode cL_law 386 = .ok (.iload_n 3, 1) := by decide +kernel
theorem dL_law_387 : decode cL_law 387 = .ok (.iconst 2, 1) := by decide +kernel
theorem dL_law_388 : decode cL_law 388 = .ok (.iadd, 1) := by decide +kernel
theorem dL_law_389 : decode cL_law 389 = .ok (.iaload, 1) := by decide +kernel
theorem dL_law_390 : decode cL_law 390 = .ok (.invokevirtual 53, 3) := by decide +kernel
theorem dL_law_393 : decode cL_law 393 = .ok (.aload_n 2, 1) := by decide +kernel
theorem dL_law_394 : decode cL_law 394 = .ok (.aload_n 0, 1) := by decide +kernel
theorem dL_law_395 : decode cL_law 395 = .ok (.iload_n 3, 1) := by decide +kernel
theorem dL_law_396 : decode cL_law 396 = .ok (.iconst 1, 1) := by decide +kernel
theorem dL_law_397 : decode cL_law 397 = .ok (.iadd, 1) := by decide +kernel
theorem dL_law_398 : decode cL_law 398 = .ok (.iaload, 1) := by decide +kernel
theorem dL_law_399 : decode cL_law 399 = .ok (.aload_n 0, 1) := by decide +kernel
theorem dL_law_400 : decode cL_law 400 = .ok (.iload_n 3, 1) := by decide +kernel
theorem dL_law_401 : decode cL_law 401 = .ok (.iconst 2, 1) := by decide +kernel
theorem dL_law_402 : decode cL_law 402 = .ok (.iadd, 1) := by decide +kernel
theorem dL_law_403 : decode cL_law 403 = .ok (.iaload, 1) := by decide +kernel
theorem dL_law_404 : decode cL_law 404 = .ok (.invokevirtual 56, 3) := by decide +kernel
theorem dL_law_407 : decode cL_law 407 = .ok (.if_icmp .eq 51, 3) := by decide +kernel
theorem dL_law_410 : decode cL_law 410 = .ok (.iconst 0, 1) := by decide +kernel
theorem dL_law_411 : decode cL_law 411 = .ok (.ireturn, 1) := by decide +kernel
theorem dL_law_412 : decode cL_law 412 = .ok (.aload_n 1, 1) := by decide +kernel
theorem dL_law_413 : decode cL_law 413 = .ok (.aload_n 0, 1) := by decide +kernel
theorem dL_law_414 : decode cL_law 414 = .ok (.iload_n 3, 1) := by decide +kernel
theorem dL_law_415 : decode cL_law 415 = .ok (.iconst 1, 1) := by decide +kernel
theorem dL_law_416 : decode cL_law 416 = .ok (.iadd, 1) := by decide +kernel
theorem dL_law_417 : decode cL_law 417 = .ok (.iaload, 1) := by decide +kernel
theorem dL_law_418 : decode cL_law 418 = .ok (.invokevirtual 57, 3) := by decide +kernel
theorem dL_law_421 : decode cL_law 421 = .ok (.aload_n 2, 1) := by decide +kernel
theorem dL_law_422 : decode cL_law 422 = .ok (.aload_n 0, 1) := by decide +kernel
theorem dL_law_423 : decode cL_law 423 = .ok (.iload_n 3, 1) := by decide +kernel
theorem dL_law_424 : decode cL_law 424 = .ok (.iconst 1, 1) := by decide +kernel
theorem dL_law_425 : decode cL_law 425 = .ok (.iadd, 1) := by decide +kernel
theorem dL_law_426 : decode cL_law 426 = .ok (.iaload, 1) := by decide +kernel
theorem dL_law_427 : decode cL_law 427 = .ok (.invokevirtual 60, 3) := by decide +kernel
theorem dL_law_430 : decode cL_law 430 = .ok (.if_icmp .eq 28, 3) := by decide +kernel
theorem dL_law_433 : decode cL_law 433 = .ok (.iconst 0, 1) := by decide +kernel
theorem dL_law_434 : decode cL_law 434 = .ok (.ireturn, 1) := by decide +kernel
theorem dL_law_435 : decode cL_law 435 = .ok (.aload_n 1, 1) := by decide +kernel
theorem dL_law_436 : decode cL_law 436 = .ok (.aload_n 0, 1) := by decide +kernel
theorem dL_law_437 : decode cL_law 437 = .ok (.iload_n 3, 1) := by decide +kernel
theorem dL_law_438 : decode cL_law 438 = .ok (.iconst 1, 1) := by decide +kernel
theorem dL_law_439 : decode cL_law 439 = .ok (.iadd, 1) := by decide +kernel
theorem dL_law_440 : decode cL_law 440 = .ok (.iaload, 1) := by decide +kernel
theorem dL_law_441 : decode cL_law 441 = .ok (.invokevirtual 61, 3) := by decide +kernel
theorem dL_law_444 : decode cL_law 444 = .ok (.aload_n 2, 1) := by decide +kernel
theorem dL_law_445 : decode cL_law 445 = .ok (.aload_n 0, 1) := by decide +kernel
theorem dL_law_446 : decode cL_law 446 = .ok (.iload_n 3, 1) := by decide +kernel
theorem dL_law_447 : decode cL_law 447 = .ok (.iconst 1, 1) := by decide +kernel
theorem dL_law_448 : decode cL_law 448 = .ok (.iadd, 1) := by decide +kernel
theorem dL_law_449 : decode cL_law 449 = .ok (.iaload, 1) := by decide +kernel
theorem dL_law_450 : decode cL_law 450 = .ok (.invokevirtual 64, 3) := by decide +kernel
theorem dL_law_453 : decode cL_law 453 = .ok (.if_icmp .eq 5, 3) := by decide +kernel
theorem dL_law_456 : decode cL_law 456 = .ok (.iconst 0, 1) := by decide +kernel
theorem dL_law_457 : decode cL_law 457 = .ok (.ireturn, 1) := by decide +kernel
theorem dL_law_458 : decode cL_law 458 = .ok (.iinc 3 5, 3) := by decide +kernel
theorem dL_law_461 : decode cL_law 461 = .ok (.goto (-423), 3) := by decide +kernel
theorem dL_law_464 : decode cL_law 464 = .ok (.iconst 1, 1) := by decide +kernel
theorem dL_law_465 : decode cL_law 465 = .ok (.ireturn, 1) := by decide +kernel
