theorem dX0_init_0 : decode cX0_init 0 = .ok (.aload_n 0, 1) := by decide +kernel
theorem dX0_init_1 : decode cX0_init 1 = .ok (.invokespecial 3, 3) := by decide +kernel
theorem dX0_init_4 : decode cX0_init 4 = .ok (.aload_n 0, 1) := by decide +kernel
theorem dX0_init_5 : decode cX0_init 5 = .ok (.iconst 1, 1) := by decide +kernel
theorem dX0_init_6 : decode cX0_init 6 = .ok (.iload_n 1, 1) := by decide +kernel
theorem dX0_init_7 : decode cX0_init 7 = .ok (.invokestatic 9, 3) := by decide +kernel
theorem dX0_init_10 : decode cX0_init 10 = .ok (.putfield 15, 3) := by decide +kernel
theorem dX0_init_13 : decode cX0_init 13 = .ok (.aload_n 0, 1) := by decide +kernel
theorem dX0_init_14 : decode cX0_init 14 = .ok (.iconst 1, 1) := by decide +kernel
theorem dX0_init_15 : decode cX0_init 15 = .ok (.iload_n 2, 1) := by decide +kernel
theorem dX0_init_16 : decode cX0_init 16 = .ok (.invokestatic 9, 3) := by decide +kernel
theorem dX0_init_19 : decode cX0_init 19 = .ok (.putfield 21, 3) := by decide +kernel
theorem dX0_init_22 : decode cX0_init 22 = .ok (.aload_n 0, 1) := by decide +kernel
theorem dX0_init_23 : decode cX0_init 23 = .ok (.aload_n 3, 1) := by decide +kernel
theorem dX0_init_24 : decode cX0_init 24 = .ok (.putfield 24, 3) := by decide +kernel
theorem dX0_init_27 : decode cX0_init 27 = .ok (.aload_n 0, 1) := by decide +kernel
theorem dX0_init_28 : decode cX0_init 28 = .ok (.aload_n 0, 1) := by decide +kernel
theorem dX0_init_29 : decode cX0_init 29 = .ok (.getfield 15, 3) := by decide +kernel
theorem dX0_init_32 : decode cX0_init 32 = .ok (.aload_n 0, 1) := by decide +kernel
theorem dX0_init_33 : decode cX0_init 33 = .ok (.getfield 21, 3) := by decide +kernel
theorem dX0_init_36 : decode cX0_init 36 = .ok (.imul, 1) := by decide +kernel
theorem dX0_init_37 : decode cX0_init 37 = .ok (.newarray .int, 2) := by decide +kernel
theorem dX0_init_39 : decode cX0_init 39 = .ok (.putfield 28, 3) := by decide +kernel
theorem dX0_init_42 : decode cX0_init 42 = .ok (.aload_n 0, 1) := by decide +kernel
theorem dX0_init_43 : decode cX0_init 43 = .ok (.aload_n 0, 1) := by decide +kernel
theorem dX0_init_44 : decode cX0_init 44 = .ok (.getfield 15, 3) := by decide +kernel
theorem dX0_init_47 : decode cX0_init 47 = .ok (.aload_n 0, 1) := by decide +kernel
theorem dX0_init_48 : decode cX0_init 48 = .ok (.getfield 21, 3) := by decide +kernel
theorem dX0_init_51 : decode cX0_init 51 = .ok (.imul, 1) := by decide +kernel
theorem dX0_init_52 : decode cX0_init 52 = .ok (.newarray .int, 2) := by decide +kernel
theorem dX0_init_54 : decode cX0_init 54 = .ok (.putfield 32, 3) := by decide +kernel
theorem dX0_init_57 : decode cX0_init 57 = .ok (.aload_n 0, 1) := by decide +kernel
theorem dX0_init_58 : decode cX0_init 58 = .ok (.aload_n 0, 1) := by decide +kernel
theorem dX0_init_59 : decode cX0_init 59 = .ok (.getfield 15, 3) := by decide +kernel
theorem dX0_init_62 : decode cX0_init 62 = .ok (.newarray .int, 2) := by decide +kernel
theorem dX0_init_64 : decode cX0_init 64 = .ok (.putfield 35, 3) := by decide +kernel
theorem dX0_init_67 : decode cX0_init 67 = .ok (.aload_n 0, 1) := by decide +kernel
theorem dX0_init_68 : decode cX0_init 68 = .ok (.aload_n 0, 1) := by decide +kernel
theorem dX0_init_69 : decode cX0_init 69 = .ok (.getfield 15, 3) := by decide +kernel
theorem dX0_init_72 : decode cX0_init 72 = .ok (.newarray .int, 2) := by decide +kernel
theorem dX0_init_74 : decode cX0_init 74 = .ok (.putfield 38, 3) := by decide +kernel
theorem dX0_init_77 : decode cX0_init 77 = .ok (.aload_n 0, 1) := by decide +kernel
theorem dX0_init_78 : decode cX0_init 78 = .ok (.aload_n 0, 1) := by decide +kernel
theorem dX0_init_79 : decode cX0_init 79 = .ok (.getfield 15, 3) := by decide +kernel
theorem dX0_init_82 : decode cX0_init 82 = .ok (.newarray .int, 2) := by decide +kernel
theorem dX0_init_84 : decode cX0_init 84 = .ok (.putfield 41, 3) := by decide +kernel
theorem dX0_init_87 : decode cX0_init 87 = .ok (.iconst 0, 1) := by decide +kernel
theorem dX0_init_88 : decode cX0_init 88 = .ok (.istore 4, 2) := by decide +kernel
theorem dX0_init_90 : decode cX0_init 90 = .ok (.iload 4, 2) := by decide +kernel
theorem dX0_init_92 : decode cX0_init 92 = .ok (.aload_n 0, 1) := by decide +kernel
theorem dX0_init_93 : decode cX0_init 93 = .ok (.getfield 15, 3) := by decide +kernel
theorem dX0_init_96 : decode cX0_init 96 = .ok (.if_icmp .ge 34, 3) := by decide +kernel
theorem dX0_init_99 : decode cX0_init 99 = .ok (.aload_n 0, 1) := by decide +kernel
theorem dX0_init_100 : decode cX0_init 100 = .ok (.getfield 35, 3) := by decide +kernel
theorem dX0_init_103 : decode cX0_init 103 = .ok (.iload 4, 2) := by decide +kernel
theorem dX0_init_105 : decode cX0_init 105 = .ok (.iconst (-1), 1) := by decide +kernel
theorem dX0_init_106 : decode cX0_init 106 = .ok (.iastore, 1) := by decide +kernel
theorem dX0_init_107 : decode cX0_init 107 = .ok (.aload_n 0, 1) := by decide +kernel
theorem dX0_init_108 : decode cX0_init 108 = .ok (.getfield 38, 3) := by decide +kernel
theorem dX0_init_111 : decode cX0_init 111 = .ok (.iload 4, 2) := by decide +kernel
theorem dX0_init_113 : decode cX0_init 113 = .ok (.iconst (-1), 1) := by decide +kernel
theorem dX0_init_114 : decode cX0_init 114 = .ok (.iastore, 1) := by decide +kernel
theorem dX0_init_115 : decode cX0_init 115 = .ok (.aload_n 0, 1) := by decide +kernel
theorem dX0_init_116 : decode cX0_init 116 = .ok (.getfield 41, 3) := by decide +kernel
theorem dX0_init_119 : decode cX0_init 119 = .ok (.iload 4, 2) := by decide +kernel
theorem dX0_init_121 : decode cX0_init 121 = .ok (.iload 4, 2) := by decide +kernel
theorem dX0_init_123 : decode cX0_init 123 = .ok (.iastore, 1) := by decide +kernel
theorem dX0_init_124 : decode cX0_init 124 = .ok (.iinc 4 1, 3) := by decide +kernel
theorem dX0_init_127 : decode cX0_init 127 = .ok (.goto (-37), 3) := by decide +kernel
theorem dX0_init_130 : decode cX0_init 130 = .ok (.aload_n 0, 1) := by decide +kernel
theorem dX0_init_131 : decode cX0_init 131 = .ok (.aload_n 0, 1) := by decide +kernel
theorem dX0_init_132 : decode cX0_init 132 = .ok (.getfield 15, 3) := by decide +kernel
theorem dX0_init_135 : decode cX0_init 135 = .ok (.putfield 44, 3) := by decide +kernel
theorem dX0_init_138 : decode cX0_init 138 = .ok (.return_, 1) := by decide +kernel
theorem dX0_freePages_0 : decode cX0_freePages 0 = .ok (.aload_n 0, 1) := by decide +kernel
theorem dX0_freePages_1 : decode cX0_freePages 1 = .ok (.getfield 44, 3) := by decide +kernel
theorem dX0_freePages_4 : decode cX0_freePages 4 = .ok (.ireturn, 1) := by decide +kernel
theorem dX0_usedPages_0 : decode cX0_usedPages 0 = .ok (.aload_n 0, 1) := by decide +kernel
theorem dX0_usedPages_1 : decode cX0_usedPages 1 = .ok (.getfield 15, 3) := by decide +kernel
theorem dX0_usedPages_4 : decode cX0_usedPages 4 = .ok (.aload_n 0, 1) := by decide +kernel
theorem dX0_usedPages_5 : decode cX0_usedPages 5 = .ok (.getfield 44, 3) := by decide +kernel
theorem dX0_usedPages_8 : decode cX0_usedPages 8 = .ok (.isub, 1) := by decide +kernel
theorem dX0_usedPages_9 : decode cX0_usedPages 9 = .ok (.ireturn, 1) := by decide +kernel
theorem dX0_pagesFor_0 : decode cX0_pagesFor 0 = .ok (.aload_n 0, 1) := by decide +kernel
theorem dX0_pagesFor_1 : decode cX0_pagesFor 1 = .ok (.getfield 21, 3) := by decide +kernel
theorem dX0_pagesFor_4 : decode cX0_pagesFor 4 = .ok (.iconst 1, 1) := by decide +kernel
theorem dX0_pagesFor_5 : decode cX0_pagesFor 5 = .ok (.if_icmp .lt 8, 3) := by decide +kernel
theorem dX0_pagesFor_8 : decode cX0_pagesFor 8 = .ok (.iload_n 1, 1) := by decide +kernel
theorem dX0_pagesFor_9 : decode cX0_pagesFor 9 = .ok (.iconst 1, 1) := by decide +kernel
theorem dX0_pagesFor_10 : decode cX0_pagesFor 10 = .ok (.if_icmp .ge 7, 3) := by decide +kernel
theorem dX0_pagesFor_13 : decode cX0_pagesFor 13 = .ok (.iconst 0, 1) := by decide +kernel
theorem dX0_pagesFor_14 : decode cX0_pagesFor 14 = .ok (.goto 13, 3) := by decide +kernel
theorem dX0_pagesFor_17 : decode cX0_pagesFor 17 = .ok (.iload_n 1, 1) := by decide +kernel
theorem dX0_pagesFor_18 : decode cX0_pagesFor 18 = .ok (.iconst 1, 1) := by decide +kernel
theorem dX0_pagesFor_19 : decode cX0_pagesFor 19 = .ok (.isub, 1) := by decide +kernel
theorem dX0_pagesFor_20 : decode cX0_pagesFor 20 = .ok (.aload_n 0, 1) := by decide +kernel
theorem dX0_pagesFor_21 : decode cX0_pagesFor 21 = .ok (.getfield 21, 3) := by decide +kernel
theorem dX0_pagesFor_24 : decode cX0_pagesFor 24 = .ok (.idiv, 1) := by decide +kernel
theorem dX0_pagesFor_25 : decode cX0_pagesFor 25 = .ok (.iconst 1, 1) := by decide +kernel
theorem dX0_pagesFor_26 : decode cX0_pagesFor 26 = .ok (.iadd, 1) := by decide +kernel
theorem dX0_pagesFor_27 : decode cX0_pagesFor 27 = .ok (.ireturn, 1) := by decide +kernel
theorem dX0_slotOf_0 : decode cX0_slotOf 0 = .ok (.aload_n 0, 1) := by decide +kernel
theorem dX0_slotOf_1 : decode cX0_slotOf 1 = .ok (.getfield 21, 3) := by decide +kernel
theorem dX0_slotOf_4 : decode cX0_slotOf 4 = .ok (.iconst 1, 1) := by decide +kernel
theorem dX0_slotOf_5 : decode cX0_slotOf 5 = .ok (.if_icmp .lt 7, 3) := by decide +kernel
theorem dX0_slotOf_8 : decode cX0_slotOf 8 = .ok (.iload_n 1, 1) := by decide +kernel
theorem dX0_slotOf_9 : decode cX0_slotOf 9 = .ok (.ifCond .ge 7, 3) := by decide +kernel
theorem dX0_slotOf_12 : decode cX0_slotOf 12 = .ok (.iconst 0, 1) := by decide +kernel
theorem dX0_slotOf_13 : decode cX0_slotOf 13 = .ok (.goto 9, 3) := by decide +kernel
theorem dX0_slotOf_16 : decode cX0_slotOf 16 = .ok (.iload_n 1, 1) := by decide +kernel
theorem dX0_slotOf_17 : decode cX0_slotOf 17 = .ok (.aload_n 0, 1) := by decide +kernel
theorem dX0_slotOf_18 : decode cX0_slotOf 18 = .ok (.getfield 21, 3) := by decide +kernel
theorem dX0_slotOf_21 : decode cX0_slotOf 21 = .ok (.irem, 1) := by decide +kernel
theorem dX0_slotOf_22 : decode cX0_slotOf 22 = .ok (.ireturn, 1) := by decide +kernel
theorem dX0_pageOf_0 : decode cX0_pageOf 0 = .ok (.aload_n 0, 1) := by decide +kernel
theorem dX0_pageOf_1 : decode cX0_pageOf 1 = .ok (.getfield 21, 3) := by decide +kernel
theorem dX0_pageOf_4 : decode cX0_pageOf 4 = .ok (.iconst 1, 1) := by decide +kernel
theorem dX0_pageOf_5 : decode cX0_pageOf 5 = .ok (.if_icmp .lt 7, 3) := by decide +kernel
theorem dX0_pageOf_8 : decode cX0_pageOf 8 = .ok (.iload_n 2, 1) := by decide +kernel
theorem dX0_pageOf_9 : decode cX0_pageOf 9 = .ok (.ifCond .ge 7, 3) := by decide +kernel
theorem dX0_pageOf_12 : decode cX0_pageOf 12 = .ok (.iconst 0, 1) := by decide +kernel
theorem dX0_pageOf_13 : decode cX0_pageOf 13 = .ok (.goto 9, 3) := by decide +kernel
theorem dX0_pageOf_16 : decode cX0_pageOf 16 = .ok (.iload_n 2, 1) := by decide +kernel
theorem dX0_pageOf_17 : decode cX0_pageOf 17 = .ok (.aload_n 0, 1) := by decide +kernel
theorem dX0_pageOf_18 : decode cX0_pageOf 18 = .ok (.getfield 21, 3) := by decide +kernel
theorem dX0_pageOf_21 : decode cX0_pageOf 21 = .ok (.idiv, 1) := by decide +kernel
theorem dX0_pageOf_22 : decode cX0_pageOf 22 = .ok (.istore_n 3, 1) := by decide +kernel
theorem dX0_pageOf_23 : decode cX0_pageOf 23 = .ok (.iload_n 1, 1) := by decide +kernel
theorem dX0_pageOf_24 : decode cX0_pageOf 24 = .ok (.istore 4, 2) := by decide +kernel
theorem dX0_pageOf_26 : decode cX0_pageOf 26 = .ok (.iconst 0, 1) := by decide +kernel
theorem dX0_pageOf_27 : decode cX0_pageOf 27 = .ok (.istore 5, 2) := by decide +kernel
theorem dX0_pageOf_29 : decode cX0_pageOf 29 = .ok (.iload 5, 2) := by decide +kernel
theorem dX0_pageOf_31 : decode cX0_pageOf 31 = .ok (.iload_n 3, 1) := by decide +kernel
theorem dX0_pageOf_32 : decode cX0_pageOf 32 = .ok (.if_icmp .ge 17, 3) := by decide +kernel
theorem dX0_pageOf_35 : decode cX0_pageOf 35 = .ok (.aload_n 0, 1) := by decide +kernel
theorem dX0_pageOf_36 : decode cX0_pageOf 36 = .ok (.iload 4, 2) := by decide +kernel
theorem dX0_pageOf_38 : decode cX0_pageOf 38 = .ok (.invokevirtual 47, 3) := by decide +kernel
theorem dX0_pageOf_41 : decode cX0_pageOf 41 = .ok (.istore 4, 2) := by decide +kernel
theorem dX0_pageOf_43 : decode cX0_pageOf 43 = .ok (.iinc 5 1, 3) := by decide +kernel
theorem dX0_pageOf_46 : decode cX0_pageOf 46 = .ok (.goto (-17), 3) := by decide +kernel
theorem dX0_pageOf_49 : decode cX0_pageOf 49 = .ok (.iload 4, 2) := by decide +kernel
theorem dX0_pageOf_51 : decode cX0_pageOf 51 = .ok (.ireturn, 1) := by decide +kernel
theorem dX0_nextOf_0 : decode cX0_nextOf 0 = .ok (.aload_n 0, 1) := by decide +kernel
theorem dX0_nextOf_1 : decode cX0_nextOf 1 = .ok (.iload_n 1, 1) := by decide +kernel
theorem dX0_nextOf_2 : decode cX0_nextOf 2 = .ok (.invokevirtual 51, 3) := by decide +kernel
theorem dX0_nextOf_5 : decode cX0_nextOf 5 = .ok (.ifCond .eq 12, 3) := by decide +kernel
theorem dX0_nextOf_8 : decode cX0_nextOf 8 = .ok (.aload_n 0, 1) := by decide +kernel
theorem dX0_nextOf_9 : decode cX0_nextOf 9 = .ok (.getfield 38, 3) := by decide +kernel
theorem dX0_nextOf_12 : decode cX0_nextOf 12 = .ok (.iload_n 1, 1) := by decide +kernel
theorem dX0_nextOf_13 : decode cX0_nextOf 13 = .ok (.iaload, 1) := by decide +kernel
theorem dX0_nextOf_14 : decode cX0_nextOf 14 = .ok (.goto 4, 3) := by decide +kernel
theorem dX0_nextOf_17 : decode cX0_nextOf 17 = .ok (.iconst (-1), 1) := by decide +kernel
theorem dX0_nextOf_18 : decode cX0_nextOf 18 = .ok (.ireturn, 1) := by decide +kernel
theorem dX0_link_0 : decode cX0_link 0 = .ok (.aload_n 0, 1) := by decide +kernel
theorem dX0_link_1 : decode cX0_link 1 = .ok (.iload_n 1, 1) := by decide +kernel
theorem dX0_link_2 : decode cX0_link 2 = .ok (.invokevirtual 51, 3) := by decide +kernel
theorem dX0_link_5 : decode cX0_link 5 = .ok (.ifCond .eq 10, 3) := by decide +kernel
theorem dX0_link_8 : decode cX0_link 8 = .ok (.aload_n 0, 1) := by decide +kernel
theorem dX0_link_9 : decode cX0_link 9 = .ok (.getfield 38, 3) := by decide +kernel
theorem dX0_link_12 : decode cX0_link 12 = .ok (.iload_n 1, 1) := by decide +kernel
theorem dX0_link_13 : decode cX0_link 13 = .ok (.iload_n 2, 1) := by decide +kernel
theorem dX0_link_14 : decode cX0_link 14 = .ok (.iastore, 1) := by decide +kernel
theorem dX0_link_15 : decode cX0_link 15 = .ok (.return_, 1) := by decide +kernel
theorem dX0_keyAt_0 : decode cX0_keyAt 0 = .ok (.aload_n 0, 1) := by decide +kernel
theorem dX0_keyAt_1 : decode cX0_keyAt 1 = .ok (.iload_n 1, 1) := by decide +kernel
theorem dX0_keyAt_2 : decode cX0_keyAt 2 = .ok (.iload_n 2, 1) := by decide +kernel
theorem dX0_keyAt_3 : decode cX0_keyAt 3 = .ok (.invokevirtual 55, 3) := by decide +kernel
theorem dX0_keyAt_6 : decode cX0_keyAt 6 = .ok (.ifCond .eq 19, 3) := by decide +kernel
theorem dX0_keyAt_9 : decode cX0_keyAt 9 = .ok (.aload_n 0, 1) := by decide +kernel
theorem dX0_keyAt_10 : decode cX0_keyAt 10 = .ok (.getfield 28, 3) := by decide +kernel
theorem dX0_keyAt_13 : decode cX0_keyAt 13 = .ok (.iload_n 1, 1) := by decide +kernel
theorem dX0_keyAt_14 : decode cX0_keyAt 14 = .ok (.aload_n 0, 1) := by decide +kernel
theorem dX0_keyAt_15 : decode cX0_keyAt 15 = .ok (.getfield 21, 3) := by decide +kernel
theorem dX0_keyAt_18 : decode cX0_keyAt 18 = .ok (.imul, 1) := by decide +kernel
theorem dX0_keyAt_19 : decode cX0_keyAt 19 = .ok (.iload_n 2, 1) := by decide +kernel
theorem dX0_keyAt_20 : decode cX0_keyAt 20 = .ok (.iadd, 1) := by decide +kernel
theorem dX0_keyAt_21 : decode cX0_keyAt 21 = .ok (.iaload, 1) := by decide +kernel
theorem dX0_keyAt_22 : decode cX0_keyAt 22 = .ok (.goto 4, 3) := by decide +kernel
theorem dX0_keyAt_25 : decode cX0_keyAt 25 = .ok (.iconst 0, 1) := by decide +kernel
theorem dX0_keyAt_26 : decode cX0_keyAt 26 = .ok (.ireturn, 1) := by decide +kernel
theorem dX0_tagAt_0 : decode cX0_tagAt 0 = .ok (.aload_n 0, 1) := by decide +kernel
theorem dX0_tagAt_1 : decode cX0_tagAt 1 = .ok (.iload_n 1, 1) := by decide +kernel
theorem dX0_tagAt_2 : decode cX0_tagAt 2 = .ok (.iload_n 2, 1) := by decide +kernel
theorem dX0_tagAt_3 : decode cX0_tagAt 3 = .ok (.invokevirtual 55, 3) := by decide +kernel
theorem dX0_tagAt_6 : decode cX0_tagAt 6 = .ok (.ifCond .eq 19, 3) := by decide +kernel
theorem dX0_tagAt_9 : decode cX0_tagAt 9 = .ok (.aload_n 0, 1) := by decide +kernel
theorem dX0_tagAt_10 : decode cX0_tagAt 10 = .ok (.getfield 32, 3) := by decide +kernel
theorem dX0_tagAt_13 : decode cX0_tagAt 13 = .ok (.iload_n 1, 1) := by decide +kernel
theorem dX0_tagAt_14 : decode cX0_tagAt 14 = .ok (.aload_n 0, 1) := by decide +kernel
theorem dX0_tagAt_15 : decode cX0_tagAt 15 = .ok (.getfield 21, 3) := by decide +kernel
theorem dX0_tagAt_18 : decode cX0_tagAt 18 = .ok (.imul, 1) := by decide +kernel
theorem dX0_tagAt_19 : decode cX0_tagAt 19 = .ok (.iload_n 2, 1) := by decide +kernel
theorem dX0_tagAt_20 : decode cX0_tagAt 20 = .ok (.iadd, 1) := by decide +kernel
theorem dX0_tagAt_21 : decode cX0_tagAt 21 = .ok (.iaload, 1) := by decide +kernel
theorem dX0_tagAt_22 : decode cX0_tagAt 22 = .ok (.goto 4, 3) := by decide +kernel
theorem dX0_tagAt_25 : decode cX0_tagAt 25 = .ok (.iconst 0, 1) := by decide +kernel
theorem dX0_tagAt_26 : decode cX0_tagAt 26 = .ok (.ireturn, 1) := by decide +kernel
theorem dX0_store_0 : decode cX0_store 0 = .ok (.aload_n 0, 1) := by decide +kernel
theorem dX0_store_1 : decode cX0_store 1 = .ok (.iload_n 1, 1) := by decide +kernel
theorem dX0_store_2 : decode cX0_store 2 = .ok (.iload_n 2, 1) := by decide +kernel
theorem dX0_store_3 : decode cX0_store 3 = .ok (.invokevirtual 55, 3) := by decide +kernel
theorem dX0_store_6 : decode cX0_store 6 = .ok (.ifCond .eq 32, 3) := by decide +kernel
theorem dX0_store_9 : decode cX0_store 9 = .ok (.aload_n 0, 1) := by decide +kernel
theorem dX0_store_10 : decode cX0_store 10 = .ok (.getfield 28, 3) := by decide +kernel
theorem dX0_store_13 : decode cX0_store 13 = .ok (.iload_n 1, 1) := by decide +kernel
theorem dX0_store_14 : decode cX0_store 14 = .ok (.aload_n 0, 1) := by decide +kernel
theorem dX0_store_15 : decode cX0_store 15 = .ok (.getfield 21, 3) := by decide +kernel
theorem dX0_store_18 : decode cX0_store 18 = .ok (.imul, 1) := by decide +kernel
theorem dX0_store_19 : decode cX0_store 19 = .ok (.iload_n 2, 1) := by decide +kernel
theorem dX0_store_20 : decode cX0_store 20 = .ok (.iadd, 1) := by decide +kernel
theorem dX0_store_21 : decode cX0_store 21 = .ok (.iload_n 3, 1) := by decide +kernel
theorem dX0_store_22 : decode cX0_store 22 = .ok (.iastore, 1) := by decide +kernel
theorem dX0_store_23 : decode cX0_store 23 = .ok (.aload_n 0, 1) := by decide +kernel
theorem dX0_store_24 : decode cX0_store 24 = .ok (.getfield 32, 3) := by decide +kernel
theorem dX0_store_27 : decode cX0_store 27 = .ok (.iload_n 1, 1) := by decide +kernel
theorem dX0_store_28 : decode cX0_store 28 = .ok (.aload_n 0, 1) := by decide +kernel
theorem dX0_store_29 : decode cX0_store 29 = .ok (.getfield 21, 3) := by decide +kernel
theorem dX0_store_32 : decode cX0_store 32 = .ok (.imul, 1) := by decide +kernel
theorem dX0_store_33 : decode cX0_store 33 = .ok (.iload_n 2, 1) := by decide +kernel
theorem dX0_store_34 : decode cX0_store 34 = .ok (.iadd, 1) := by decide +kernel
theorem dX0_store_35 : decode cX0_store 35 = .ok (.iload 4, 2) := by decide +kernel
theorem dX0_store_37 : decode cX0_store 37 = .ok (.iastore, 1) := by decide +kernel
theorem dX0_store_38 : decode cX0_store 38 = .ok (.return_, 1) := by decide +kernel
theorem dX0_take_0 : decode cX0_take 0 = .ok (.aload_n 0, 1) := by decide +kernel
theorem dX0_take_1 : decode cX0_take 1 = .ok (.getfield 44, 3) := by decide +kernel
theorem dX0_take_4 : decode cX0_take 4 = .ok (.iconst 1, 1) := by decide +kernel
theorem dX0_take_5 : decode cX0_take 5 = .ok (.if_icmp .lt 15, 3) := by decide +kernel
theorem dX0_take_8 : decode cX0_take 8 = .ok (.aload_n 0, 1) := by decide +kernel
theorem dX0_take_9 : decode cX0_take 9 = .ok (.getfield 44, 3) := by decide +kernel
theorem dX0_take_12 : decode cX0_take 12 = .ok (.aload_n 0, 1) := by decide +kernel
theorem dX0_take_13 : decode cX0_take 13 = .ok (.getfield 41, 3) := by decide +kernel
theorem dX0_take_16 : decode cX0_take 16 = .ok (.arraylength, 1) := by decide +kernel
theorem dX0_take_17 : decode cX0_take 17 = .ok (.if_icmp .le 5, 3) := by decide +kernel
theorem dX0_take_20 : decode cX0_take 20 = .ok (.iconst (-1), 1) := by decide +kernel
theorem dX0_take_21 : decode cX0_take 21 = .ok (.ireturn, 1) := by decide +kernel
theorem dX0_take_22 : decode cX0_take 22 = .ok (.aload_n 0, 1) := by decide +kernel
theorem dX0_take_23 : decode cX0_take 23 = .ok (.getfield 41, 3) := by decide +kernel
theorem dX0_take_26 : decode cX0_take 26 = .ok (.aload_n 0, 1) := by decide +kernel
theorem dX0_take_27 : decode cX0_take 27 = .ok (.getfield 44, 3) := by decide +kernel
theorem dX0_take_30 : decode cX0_take 30 = .ok (.iconst 1, 1) := by decide +kernel
theorem dX0_take_31 : decode cX0_take 31 = .ok (.isub, 1) := by decide +kernel
theorem dX0_take_32 : decode cX0_take 32 = .ok (.iaload, 1) := by decide +kernel
theorem dX0_take_33 : decode cX0_take 33 = .ok (.istore_n 2, 1) := by decide +kernel
theorem dX0_take_34 : decode cX0_take 34 = .ok (.aload_n 0, 1) := by decide +kernel
theorem dX0_take_35 : decode cX0_take 35 = .ok (.iload_n 2, 1) := by decide +kernel
theorem dX0_take_36 : decode cX0_take 36 = .ok (.invokevirtual 51, 3) := by decide +kernel
theorem dX0_take_39 : decode cX0_take 39 = .ok (.ifCond .ne 5, 3) := by decide +kernel
theorem dX0_take_42 : decode cX0_take 42 = .ok (.iconst (-1), 1) := by decide +kernel
theorem dX0_take_43 : decode cX0_take 43 = .ok (.ireturn, 1) := by decide +kernel
theorem dX0_take_44 : decode cX0_take 44 = .ok (.aload_n 0, 1) := by decide +kernel
theorem dX0_take_45 : decode cX0_take 45 = .ok (.dup, 1) := by decide +kernel
theorem dX0_take_46 : decode cX0_take 46 = .ok (.getfield 44, 3) := by decide +kernel
theorem dX0_take_49 : decode cX0_take 49 = .ok (.iconst 1, 1) := by decide +kernel
theorem dX0_take_50 : decode cX0_take 50 = .ok (.isub, 1) := by decide +kernel
theorem dX0_take_51 : decode cX0_take 51 = .ok (.putfield 44, 3) := by decide +kernel
theorem dX0_take_54 : decode cX0_take 54 = .ok (.aload_n 0, 1) := by decide +kernel
theorem dX0_take_55 : decode cX0_take 55 = .ok (.getfield 35, 3) := by decide +kernel
theorem dX0_take_58 : decode cX0_take 58 = .ok (.iload_n 2, 1) := by decide +kernel
theorem dX0_take_59 : decode cX0_take 59 = .ok (.iload_n 1, 1) := by decide +kernel
theorem dX0_take_60 : decode cX0_take 60 = .ok (.iastore, 1) := by decide +kernel
theorem dX0_take_61 : decode cX0_take 61 = .ok (.aload_n 0, 1) := by decide +kernel
theorem dX0_take_62 : decode cX0_take 62 = .ok (.getfield 38, 3) := by decide +kernel
theorem dX0_take_65 : decode cX0_take 65 = .ok (.iload_n 2, 1) := by decide +kernel
theorem dX0_take_66 : decode cX0_take 66 = .ok (.iconst (-1), 1) := by decide +kernel
theorem dX0_take_67 : decode cX0_take 67 = .ok (.iastore, 1) := by decide +kernel
theorem dX0_take_68 : decode cX0_take 68 = .ok (.aload_n 0, 1) := by decide +kernel
theorem dX0_take_69 : decode cX0_take 69 = .ok (.getfield 15, 3) := by decide +kernel
theorem dX0_take_72 : decode cX0_take 72 = .ok (.aload_n 0, 1) := by decide +kernel
theorem dX0_take_73 : decode cX0_take 73 = .ok (.getfield 44, 3) := by decide +kernel
theorem dX0_take_76 : decode cX0_take 76 = .ok (.isub, 1) := by decide +kernel
theorem dX0_take_77 : decode cX0_take 77 = .ok (.istore_n 3, 1) := by decide +kernel
theorem dX0_take_78 : decode cX0_take 78 = .ok (.aload_n 0, 1) := by decide +kernel
theorem dX0_take_79 : decode cX0_take 79 = .ok (.getfield 24, 3) := by decide +kernel
theorem dX0_take_82 : decode cX0_take 82 = .ok (.iload_n 3, 1) := by decide +kernel
theorem dX0_take_83 : decode cX0_take 83 = .ok (.aload_n 0, 1) := by decide +kernel
theorem dX0_take_84 : decode cX0_take 84 = .ok (.getfield 24, 3) := by decide +kernel
theorem dX0_take_87 : decode cX0_take 87 = .ok (.getfield 59, 3) := by decide +kernel
theorem dX0_take_90 : decode cX0_take 90 = .ok (.if_icmp .le 7, 3) := by decide +kernel
theorem dX0_take_93 : decode cX0_take 93 = .ok (.iload_n 3, 1) := by decide +kernel
theorem dX0_take_94 : decode cX0_take 94 = .ok (.goto 10, 3) := by decide +kernel
theorem dX0_take_97 : decode cX0_take 97 = .ok (.aload_n 0, 1) := by decide +kernel
theorem dX0_take_98 : decode cX0_take 98 = .ok (.getfield 24, 3) := by decide +kernel
theorem dX0_take_101 : decode cX0_take 101 = .ok (.getfield 59, 3) := by decide +kernel
theorem dX0_take_104 : decode cX0_take 104 = .ok (.putfield 59, 3) := by decide +kernel
theorem dX0_take_107 : decode cX0_take 107 = .ok (.iload_n 2, 1) := by decide +kernel
theorem dX0_take_108 : decode cX0_take 108 = .ok (.ireturn, 1) := by decide +kernel
theorem dX0_release_0 : decode cX0_release 0 = .ok (.aload_n 0, 1) := by decide +kernel
theorem dX0_release_1 : decode cX0_release 1 = .ok (.iload_n 1, 1) := by decide +kernel
theorem dX0_release_2 : decode cX0_release 2 = .ok (.invokevirtual 51, 3) := by decide +kernel
theorem dX0_release_5 : decode cX0_release 5 = .ok (.ifCond .eq 59, 3) := by decide +kernel
theorem dX0_release_8 : decode cX0_release 8 = .ok (.aload_n 0, 1) := by decide +kernel
theorem dX0_release_9 : decode cX0_release 9 = .ok (.getfield 35, 3) := by decide +kernel
theorem dX0_release_12 : decode cX0_release 12 = .ok (.iload_n 1, 1) := by decide +kernel
theorem dX0_release_13 : decode cX0_release 13 = .ok (.iaload, 1) := by decide +kernel
theorem dX0_release_14 : decode cX0_release 14 = .ok (.iconst (-1), 1) := by decide +kernel
theorem dX0_release_15 : decode cX0_release 15 = .ok (.if_icmp .eq 49, 3) := by decide +kernel
theorem dX0_release_18 : decode cX0_release 18 = .ok (.aload_n 0, 1) := by decide +kernel
theorem dX0_release_19 : decode cX0_release 19 = .ok (.getfield 44, 3) := by decide +kernel
theorem dX0_release_22 : decode cX0_release 22 = .ok (.ifCond .lt 42, 3) := by decide +kernel
theorem dX0_release_25 : decode cX0_release 25 = .ok (.aload_n 0, 1) := by decide +kernel
theorem dX0_release_26 : decode cX0_release 26 = .ok (.getfield 44, 3) := by decide +kernel
theorem dX0_release_29 : decode cX0_release 29 = .ok (.aload_n 0, 1) := by decide +kernel
theorem dX0_release_30 : decode cX0_release 30 = .ok (.getfield 41, 3) := by decide +kernel
theorem dX0_release_33 : decode cX0_release 33 = .ok (.arraylength, 1) := by decide +kernel
theorem dX0_release_34 : decode cX0_release 34 = .ok (.if_icmp .ge 30, 3) := by decide +kernel
theorem dX0_release_37 : decode cX0_release 37 = .ok (.aload_n 0, 1) := by decide +kernel
theorem dX0_release_38 : decode cX0_release 38 = .ok (.getfield 35, 3) := by decide +kernel
theorem dX0_release_41 : decode cX0_release 41 = .ok (.iload_n 1, 1) := by decide +kernel
theorem dX0_release_42 : decode cX0_release 42 = .ok (.iconst (-1), 1) := by decide +kernel
theorem dX0_release_43 : decode cX0_release 43 = .ok (.iastore, 1) := by decide +kernel
theorem dX0_release_44 : decode cX0_release 44 = .ok (.aload_n 0, 1) := by decide +kernel
theorem dX0_release_45 : decode cX0_release 45 = .ok (.getfield 41, 3) := by decide +kernel
theorem dX0_release_48 : decode cX0_release 48 = .ok (.aload_n 0, 1) := by decide +kernel
theorem dX0_release_49 : decode cX0_release 49 = .ok (.getfield 44, 3) := by decide +kernel
theorem dX0_release_52 : decode cX0_release 52 = .ok (.iload_n 1, 1) := by decide +kernel
theorem dX0_release_53 : decode cX0_release 53 = .ok (.iastore, 1) := by decide +kernel
theorem dX0_release_54 : decode cX0_release 54 = .ok (.aload_n 0, 1) := by decide +kernel
theorem dX0_release_55 : decode cX0_release 55 = .ok (.dup, 1) := by decide +kernel
theorem dX0_release_56 : decode cX0_release 56 = .ok (.getfield 44, 3) := by decide +kernel
theorem dX0_release_59 : decode cX0_release 59 = .ok (.iconst 1, 1) := by decide +kernel
theorem dX0_release_60 : decode cX0_release 60 = .ok (.iadd, 1) := by decide +kernel
theorem dX0_release_61 : decode cX0_release 61 = .ok (.putfield 44, 3) := by decide +kernel
theorem dX0_release_64 : decode cX0_release 64 = .ok (.return_, 1) := by decide +kernel
theorem dX0_releaseAll_0 : decode cX0_releaseAll 0 = .ok (.aload_n 0, 1) := by decide +kernel
theorem dX0_releaseAll_1 : decode cX0_releaseAll 1 = .ok (.getfield 44, 3) := by decide +kernel
theorem dX0_releaseAll_4 : decode cX0_releaseAll 4 = .ok (.istore_n 2, 1) := by decide +kernel
theorem dX0_releaseAll_5 : decode cX0_releaseAll 5 = .ok (.iconst 0, 1) := by decide +kernel
theorem dX0_releaseAll_6 : decode cX0_releaseAll 6 = .ok (.istore_n 3, 1) := by decide +kernel
theorem dX0_releaseAll_7 : decode cX0_releaseAll 7 = .ok (.iload_n 3, 1) := by decide +kernel
theorem dX0_releaseAll_8 : decode cX0_releaseAll 8 = .ok (.aload_n 0, 1) := by decide +kernel
theorem dX0_releaseAll_9 : decode cX0_releaseAll 9 = .ok (.getfield 35, 3) := by decide +kernel
theorem dX0_releaseAll_12 : decode cX0_releaseAll 12 = .ok (.arraylength, 1) := by decide +kernel
theorem dX0_releaseAll_13 : decode cX0_releaseAll 13 = .ok (.if_icmp .ge 24, 3) := by decide +kernel
theorem dX0_releaseAll_16 : decode cX0_releaseAll 16 = .ok (.aload_n 0, 1) := by decide +kernel
theorem dX0_releaseAll_17 : decode cX0_releaseAll 17 = .ok (.getfield 35, 3) := by decide +kernel
theorem dX0_releaseAll_20 : decode cX0_releaseAll 20 = .ok (.iload_n 3, 1) := by decide +kernel
theorem dX0_releaseAll_21 : decode cX0_releaseAll 21 = .ok (.iaload, 1) := by decide +kernel
theorem dX0_releaseAll_22 : decode cX0_releaseAll 22 = .ok (.iload_n 1, 1) := by decide +kernel
theorem dX0_releaseAll_23 : decode cX0_releaseAll 23 = .ok (.if_icmp .ne 8, 3) := by decide +kernel
theorem dX0_releaseAll_26 : decode cX0_releaseAll 26 = .ok (.aload_n 0, 1) := by decide +kernel
theorem dX0_releaseAll_27 : decode cX0_releaseAll 27 = .ok (.iload_n 3, 1) := by decide +kernel
theorem dX0_releaseAll_28 : decode cX0_releaseAll 28 = .ok (.invokevirtual 64, 3) := by decide +kernel
theorem dX0_releaseAll_31 : decode cX0_releaseAll 31 = .ok (.iinc 3 1, 3) := by decide +kernel
theorem dX0_releaseAll_34 : decode cX0_releaseAll 34 = .ok (.goto (-27), 3) := by decide +kernel
theorem dX0_releaseAll_37 : decode cX0_releaseAll 37 = .ok (.aload_n 0, 1) := by decide +kernel
theorem dX0_releaseAll_38 : decode cX0_releaseAll 38 = .ok (.getfield 44, 3) := by decide +kernel
theorem dX0_releaseAll_41 : decode cX0_releaseAll 41 = .ok (.iload_n 2, 1) := by decide +kernel
theorem dX0_releaseAll_42 : decode cX0_releaseAll 42 = .ok (.isub, 1) := by decide +kernel
theorem dX0_releaseAll_43 : decode cX0_releaseAll 43 = .ok (.ireturn, 1) := by decide +kernel
theorem dX0_handOver_0 : decode cX0_handOver 0 = .ok (.iconst 0, 1) := by decide +kernel
theorem dX0_handOver_1 : decode cX0_handOver 1 = .ok (.istore_n 3, 1) := by decide +kernel
theorem dX0_handOver_2 : decode cX0_handOver 2 = .ok (.iload_n 3, 1) := by decide +kernel
theorem dX0_handOver_3 : decode cX0_handOver 3 = .ok (.aload_n 0, 1) := by decide +kernel
theorem dX0_handOver_4 : decode cX0_handOver 4 = .ok (.getfield 35, 3) := by decide +kernel
theorem dX0_handOver_7 : decode cX0_handOver 7 = .ok (.arraylength, 1) := by decide +kernel
theorem dX0_handOver_8 : decode cX0_handOver 8 = .ok (.if_icmp .ge 26, 3) := by decide +kernel
theorem dX0_handOver_11 : decode cX0_handOver 11 = .ok (.aload_n 0, 1) := by decide +kernel
theorem dX0_handOver_12 : decode cX0_handOver 12 = .ok (.getfield 35, 3) := by decide +kernel
theorem dX0_handOver_15 : decode cX0_handOver 15 = .ok (.iload_n 3, 1) := by decide +kernel
theorem dX0_handOver_16 : decode cX0_handOver 16 = .ok (.iaload, 1) := by decide +kernel
theorem dX0_handOver_17 : decode cX0_handOver 17 = .ok (.iload_n 1, 1) := by decide +kernel
theorem dX0_handOver_18 : decode cX0_handOver 18 = .ok (.if_icmp .ne 10, 3) := by decide +kernel
theorem dX0_handOver_21 : decode cX0_handOver 21 = .ok (.aload_n 0, 1) := by decide +kernel
theorem dX0_handOver_22 : decode cX0_handOver 22 = .ok (.getfield 35, 3) := by decide +kernel
theorem dX0_handOver_25 : decode cX0_handOver 25 = .ok (.iload_n 3, 1) := by decide +kernel
theorem dX0_handOver_26 : decode cX0_handOver 26 = .ok (.iload_n 2, 1) := by decide +kernel
theorem dX0_handOver_27 : decode cX0_handOver 27 = .ok (.iastore, 1) := by decide +kernel
theorem dX0_handOver_28 : decode cX0_handOver 28 = .ok (.iinc 3 1, 3) := by decide +kernel
theorem dX0_handOver_31 : decode cX0_handOver 31 = .ok (.goto (-29), 3) := by decide +kernel
theorem dX0_handOver_34 : decode cX0_handOver 34 = .ok (.return_, 1) := by decide +kernel
theorem dX0_isPage_0 : decode cX0_isPage 0 = .ok (.iload_n 1, 1) := by decide +kernel
theorem dX0_isPage_1 : decode cX0_isPage 1 = .ok (.ifCond .lt 15, 3) := by decide +kernel
theorem dX0_isPage_4 : decode cX0_isPage 4 = .ok (.iload_n 1, 1) := by decide +kernel
theorem dX0_isPage_5 : decode cX0_isPage 5 = .ok (.aload_n 0, 1) := by decide +kernel
theorem dX0_isPage_6 : decode cX0_isPage 6 = .ok (.getfield 15, 3) := by decide +kernel
theorem dX0_isPage_9 : decode cX0_isPage 9 = .ok (.if_icmp .ge 7, 3) := by decide +kernel
theorem dX0_isPage_12 : decode cX0_isPage 12 = .ok (.iconst 1, 1) := by decide +kernel
theorem dX0_isPage_13 : decode cX0_isPage 13 = .ok (.goto 4, 3) := by decide +kernel
theorem dX0_isPage_16 : decode cX0_isPage 16 = .ok (.iconst 0, 1) := by decide +kernel
theorem dX0_isPage_17 : decode cX0_isPage 17 = .ok (.ireturn, 1) := by decide +kernel
theorem dX0_isCell_0 : decode cX0_isCell 0 = .ok (.iload_n 1, 1) := by decide +kernel
theorem dX0_isCell_1 : decode cX0_isCell 1 = .ok (.ifCond .lt 27, 3) := by decide +kernel
theorem dX0_isCell_4 : decode cX0_isCell 4 = .ok (.iload_n 1, 1) := by decide +kernel
theorem dX0_isCell_5 : decode cX0_isCell 5 = .ok (.aload_n 0, 1) := by decide +kernel
theorem dX0_isCell_6 : decode cX0_isCell 6 = .ok (.getfield 15, 3) := by decide +kernel
theorem dX0_isCell_9 : decode cX0_isCell 9 = .ok (.if_icmp .ge 19, 3) := by decide +kernel
theorem dX0_isCell_12 : decode cX0_isCell 12 = .ok (.iload_n 2, 1) := by decide +kernel
theorem dX0_isCell_13 : decode cX0_isCell 13 = .ok (.ifCond .lt 15, 3) := by decide +kernel
theorem dX0_isCell_16 : decode cX0_isCell 16 = .ok (.iload_n 2, 1) := by decide +kernel
theorem dX0_isCell_17 : decode cX0_isCell 17 = .ok (.aload_n 0, 1) := by decide +kernel
theorem dX0_isCell_18 : decode cX0_isCell 18 = .ok (.getfield 21, 3) := by decide +kernel
theorem dX0_isCell_21 : decode cX0_isCell 21 = .ok (.if_icmp .ge 7, 3) := by decide +kernel
theorem dX0_isCell_24 : decode cX0_isCell 24 = .ok (.iconst 1, 1) := by decide +kernel
theorem dX0_isCell_25 : decode cX0_isCell 25 = .ok (.goto 4, 3) := by decide +kernel
theorem dX0_isCell_28 : decode cX0_isCell 28 = .ok (.iconst 0, 1) := by decide +kernel
theorem dX0_isCell_29 : decode cX0_isCell 29 = .ok (.ireturn, 1) := by decide +kernel
theorem dX1_init_0 : decode cX1_init 0 = .ok (.aload_n 0, 1) := by decide +kernel
theorem dX1_init_1 : decode cX1_init 1 = .ok (.invokespecial 3, 3) := by decide +kernel
theorem dX1_init_4 : decode cX1_init 4 = .ok (.aload_n 0, 1) := by decide +kernel
theorem dX1_init_5 : decode cX1_init 5 = .ok (.bipush 15, 2) := by decide +kernel
theorem dX1_init_7 : decode cX1_init 7 = .ok (.newarray .int, 2) := by decide +kernel
theorem dX1_init_9 : decode cX1_init 9 = .ok (.putfield 11, 3) := by decide +kernel
theorem dX1_init_12 : decode cX1_init 12 = .ok (.aload_n 0, 1) := by decide +kernel
theorem dX1_init_13 : decode cX1_init 13 = .ok (.bipush 15, 2) := by decide +kernel
theorem dX1_init_15 : decode cX1_init 15 = .ok (.newarray .int, 2) := by decide +kernel
theorem dX1_init_17 : decode cX1_init 17 = .ok (.putfield 15, 3) := by decide +kernel
theorem dX1_init_20 : decode cX1_init 20 = .ok (.aload_n 0, 1) := by decide +kernel
theorem dX1_init_21 : decode cX1_init 21 = .ok (.bipush 15, 2) := by decide +kernel
theorem dX1_init_23 : decode cX1_init 23 = .ok (.newarray .int, 2) := by decide +kernel
theorem dX1_init_25 : decode cX1_init 25 = .ok (.putfield 18, 3) := by decide +kernel
theorem dX1_init_28 : decode cX1_init 28 = .ok (.aload_n 0, 1) := by decide +kernel
theorem dX1_init_29 : decode cX1_init 29 = .ok (.bipush 15, 2) := by decide +kernel
theorem dX1_init_31 : decode cX1_init 31 = .ok (.newarray .int, 2) := by decide +kernel
theorem dX1_init_33 : decode cX1_init 33 = .ok (.putfield 21, 3) := by decide +kernel
theorem dX1_init_36 : decode cX1_init 36 = .ok (.aload_n 0, 1) := by decide +kernel
theorem dX1_init_37 : decode cX1_init 37 = .ok (.aload_n 1, 1) := by decide +kernel
theorem dX1_init_38 : decode cX1_init 38 = .ok (.putfield 24, 3) := by decide +kernel
theorem dX1_init_41 : decode cX1_init 41 = .ok (.aload_n 0, 1) := by decide +kernel
theorem dX1_init_42 : decode cX1_init 42 = .ok (.bipush 15, 2) := by decide +kernel
theorem dX1_init_44 : decode cX1_init 44 = .ok (.aload_n 1, 1) := by decide +kernel
theorem dX1_init_45 : decode cX1_init 45 = .ok (.getfield 28, 3) := by decide +kernel
theorem dX1_init_48 : decode cX1_init 48 = .ok (.imul, 1) := by decide +kernel
theorem dX1_init_49 : decode cX1_init 49 = .ok (.newarray .int, 2) := by decide +kernel
theorem dX1_init_51 : decode cX1_init 51 = .ok (.putfield 34, 3) := by decide +kernel
theorem dX1_init_54 : decode cX1_init 54 = .ok (.aload_n 0, 1) := by decide +kernel
theorem dX1_init_55 : decode cX1_init 55 = .ok (.bipush 15, 2) := by decide +kernel
theorem dX1_init_57 : decode cX1_init 57 = .ok (.aload_n 1, 1) := by decide +kernel
theorem dX1_init_58 : decode cX1_init 58 = .ok (.getfield 28, 3) := by decide +kernel
theorem dX1_init_61 : decode cX1_init 61 = .ok (.imul, 1) := by decide +kernel
theorem dX1_init_62 : decode cX1_init 62 = .ok (.newarray .int, 2) := by decide +kernel
theorem dX1_init_64 : decode cX1_init 64 = .ok (.putfield 37, 3) := by decide +kernel
theorem dX1_init_67 : decode cX1_init 67 = .ok (.return_, 1) := by decide +kernel
theorem dX1_open_0 : decode cX1_open 0 = .ok (.iload_n 1, 1) := by decide +kernel
theorem dX1_open_1 : decode cX1_open 1 = .ok (.ifCond .lt 37, 3) := by decide +kernel
theorem dX1_open_4 : decode cX1_open 4 = .ok (.iload_n 1, 1) := by decide +kernel
theorem dX1_open_5 : decode cX1_open 5 = .ok (.bipush 15, 2) := by decide +kernel
theorem dX1_open_7 : decode cX1_open 7 = .ok (.if_icmp .ge 31, 3) := by decide +kernel
theorem dX1_open_10 : decode cX1_open 10 = .ok (.aload_n 0, 1) := by decide +kernel
theorem dX1_open_11 : decode cX1_open 11 = .ok (.getfield 11, 3) := by decide +kernel
theorem dX1_open_14 : decode cX1_open 14 = .ok (.iload_n 1, 1) := by decide +kernel
theorem dX1_open_15 : decode cX1_open 15 = .ok (.iload_n 2, 1) := by decide +kernel
theorem dX1_open_16 : decode cX1_open 16 = .ok (.iastore, 1) := by decide +kernel
theorem dX1_open_17 : decode cX1_open 17 = .ok (.aload_n 0, 1) := by decide +kernel
theorem dX1_open_18 : decode cX1_open 18 = .ok (.getfield 15, 3) := by decide +kernel
theorem dX1_open_21 : decode cX1_open 21 = .ok (.iload_n 1, 1) := by decide +kernel
theorem dX1_open_22 : decode cX1_open 22 = .ok (.iload_n 3, 1) := by decide +kernel
theorem dX1_open_23 : decode cX1_open 23 = .ok (.iastore, 1) := by decide +kernel
theorem dX1_open_24 : decode cX1_open 24 = .ok (.aload_n 0, 1) := by decide +kernel
theorem dX1_open_25 : decode cX1_open 25 = .ok (.getfield 18, 3) := by decide +kernel
theorem dX1_open_28 : decode cX1_open 28 = .ok (.iload_n 1, 1) := by decide +kernel
theorem dX1_open_29 : decode cX1_open 29 = .ok (.iconst 0, 1) := by decide +kernel
theorem dX1_open_30 : decode cX1_open 30 = .ok (.iastore, 1) := by decide +kernel
theorem dX1_open_31 : decode cX1_open 31 = .ok (.aload_n 0, 1) := by decide +kernel
theorem dX1_open_32 : decode cX1_open 32 = .ok (.getfield 21, 3) := by decide +kernel
theorem dX1_open_35 : decode cX1_open 35 = .ok (.iload_n 1, 1) := by decide +kernel
theorem dX1_open_36 : decode cX1_open 36 = .ok (.iconst 0, 1) := by decide +kernel
theorem dX1_open_37 : decode cX1_open 37 = .ok (.iastore, 1) := by decide +kernel
theorem dX1_open_38 : decode cX1_open 38 = .ok (.return_, 1) := by decide +kernel
theorem dX1_isUsedUp_0 : decode cX1_isUsedUp 0 = .ok (.iload_n 1, 1) := by decide +kernel
theorem dX1_isUsedUp_1 : decode cX1_isUsedUp 1 = .ok (.ifCond .lt 24, 3) := by decide +kernel
theorem dX1_isUsedUp_4 : decode cX1_isUsedUp 4 = .ok (.iload_n 1, 1) := by decide +kernel
theorem dX1_isUsedUp_5 : decode cX1_isUsedUp 5 = .ok (.bipush 15, 2) := by decide +kernel
theorem dX1_isUsedUp_7 : decode cX1_isUsedUp 7 = .ok (.if_icmp .ge 18, 3) := by decide +kernel
theorem dX1_isUsedUp_10 : decode cX1_isUsedUp 10 = .ok (.aload_n 0, 1) := by decide +kernel
theorem dX1_isUsedUp_11 : decode cX1_isUsedUp 11 = .ok (.getfield 18, 3) := by decide +kernel
theorem dX1_isUsedUp_14 : decode cX1_isUsedUp 14 = .ok (.iload_n 1, 1) := by decide +kernel
theorem dX1_isUsedUp_15 : decode cX1_isUsedUp 15 = .ok (.iaload, 1) := by decide +kernel
theorem dX1_isUsedUp_16 : decode cX1_isUsedUp 16 = .ok (.aload_n 0, 1) := by decide +kernel
theorem dX1_isUsedUp_17 : decode cX1_isUsedUp 17 = .ok (.getfield 21, 3) := by decide +kernel
theorem dX1_isUsedUp_20 : decode cX1_isUsedUp 20 = .ok (.iload_n 1, 1) := by decide +kernel
theorem dX1_isUsedUp_21 : decode cX1_isUsedUp 21 = .ok (.iaload, 1) := by decide +kernel
theorem dX1_isUsedUp_22 : decode cX1_isUsedUp 22 = .ok (.if_icmp .lt 7, 3) := by decide +kernel
theorem dX1_isUsedUp_25 : decode cX1_isUsedUp 25 = .ok (.iconst 1, 1) := by decide +kernel
theorem dX1_isUsedUp_26 : decode cX1_isUsedUp 26 = .ok (.goto 4, 3) := by decide +kernel
theorem dX1_isUsedUp_29 : decode cX1_isUsedUp 29 = .ok (.iconst 0, 1) := by decide +kernel
theorem dX1_isUsedUp_30 : decode cX1_isUsedUp 30 = .ok (.ireturn, 1) := by decide +kernel
theorem dX1_hasMore_0 : decode cX1_hasMore 0 = .ok (.iload_n 1, 1) := by decide +kernel
theorem dX1_hasMore_1 : decode cX1_hasMore 1 = .ok (.ifCond .lt 37, 3) := by decide +kernel
theorem dX1_hasMore_4 : decode cX1_hasMore 4 = .ok (.iload_n 1, 1) := by decide +kernel
theorem dX1_hasMore_5 : decode cX1_hasMore 5 = .ok (.bipush 15, 2) := by decide +kernel
theorem dX1_hasMore_7 : decode cX1_hasMore 7 = .ok (.if_icmp .ge 31, 3) := by decide +kernel
theorem dX1_hasMore_10 : decode cX1_hasMore 10 = .ok (.aload_n 0, 1) := by decide +kernel
theorem dX1_hasMore_11 : decode cX1_hasMore 11 = .ok (.getfield 18, 3) := by decide +kernel
theorem dX1_hasMore_14 : decode cX1_hasMore 14 = .ok (.iload_n 1, 1) := by decide +kernel
theorem dX1_hasMore_15 : decode cX1_hasMore 15 = .ok (.iaload, 1) := by decide +kernel
theorem dX1_hasMore_16 : decode cX1_hasMore 16 = .ok (.aload_n 0, 1) := by decide +kernel
theorem dX1_hasMore_17 : decode cX1_hasMore 17 = .ok (.getfield 21, 3) := by decide +kernel
theorem dX1_hasMore_20 : decode cX1_hasMore 20 = .ok (.iload_n 1, 1) := by decide +kernel
theorem dX1_hasMore_21 : decode cX1_hasMore 21 = .ok (.iaload, 1) := by decide +kernel
theorem dX1_hasMore_22 : decode cX1_hasMore 22 = .ok (.if_icmp .lt 12, 3) := by decide +kernel
theorem dX1_hasMore_25 : decode cX1_hasMore 25 = .ok (.aload_n 0, 1) := by decide +kernel
theorem dX1_hasMore_26 : decode cX1_hasMore 26 = .ok (.getfield 15, 3) := by decide +kernel
theorem dX1_hasMore_29 : decode cX1_hasMore 29 = .ok (.iload_n 1, 1) := by decide +kernel
theorem dX1_hasMore_30 : decode cX1_hasMore 30 = .ok (.iaload, 1) := by decide +kernel
theorem dX1_hasMore_31 : decode cX1_hasMore 31 = .ok (.ifCond .le 7, 3) := by decide +kernel
theorem dX1_hasMore_34 : decode cX1_hasMore 34 = .ok (.iconst 1, 1) := by decide +kernel
theorem dX1_hasMore_35 : decode cX1_hasMore 35 = .ok (.goto 4, 3) := by decide +kernel
theorem dX1_hasMore_38 : decode cX1_hasMore 38 = .ok (.iconst 0, 1) := by decide +kernel
theorem dX1_hasMore_39 : decode cX1_hasMore 39 = .ok (.ireturn, 1) := by decide +kernel
theorem dX1_readPage_0 : decode cX1_readPage 0 = .ok (.iload_n 1, 1) := by decide +kernel
theorem dX1_readPage_1 : decode cX1_readPage 1 = .ok (.ifCond .lt 19, 3) := by decide +kernel
theorem dX1_readPage_4 : decode cX1_readPage 4 = .ok (.iload_n 1, 1) := by decide +kernel
theorem dX1_readPage_5 : decode cX1_readPage 5 = .ok (.bipush 15, 2) := by decide +kernel
theorem dX1_readPage_7 : decode cX1_readPage 7 = .ok (.if_icmp .ge 13, 3) := by decide +kernel
theorem dX1_readPage_10 : decode cX1_readPage 10 = .ok (.aload_n 0, 1) := by decide +kernel
theorem dX1_readPage_11 : decode cX1_readPage 11 = .ok (.getfield 15, 3) := by decide +kernel
theorem dX1_readPage_14 : decode cX1_readPage 14 = .ok (.iload_n 1, 1) := by decide +kernel
theorem dX1_readPage_15 : decode cX1_readPage 15 = .ok (.iaload, 1) := by decide +kernel
theorem dX1_readPage_16 : decode cX1_readPage 16 = .ok (.iconst 1, 1) := by decide +kernel
theorem dX1_readPage_17 : decode cX1_readPage 17 = .ok (.if_icmp .ge 5, 3) := by decide +kernel
theorem dX1_readPage_20 : decode cX1_readPage 20 = .ok (.iconst (-1), 1) := by decide +kernel
theorem dX1_readPage_21 : decode cX1_readPage 21 = .ok (.ireturn, 1) := by decide +kernel
theorem dX1_readPage_22 : decode cX1_readPage 22 = .ok (.aload_n 0, 1) := by decide +kernel
theorem dX1_readPage_23 : decode cX1_readPage 23 = .ok (.getfield 11, 3) := by decide +kernel
theorem dX1_readPage_26 : decode cX1_readPage 26 = .ok (.iload_n 1, 1) := by decide +kernel
theorem dX1_readPage_27 : decode cX1_readPage 27 = .ok (.iaload, 1) := by decide +kernel
theorem dX1_readPage_28 : decode cX1_readPage 28 = .ok (.istore_n 2, 1) := by decide +kernel
theorem dX1_readPage_29 : decode cX1_readPage 29 = .ok (.aload_n 0, 1) := by decide +kernel
theorem dX1_readPage_30 : decode cX1_readPage 30 = .ok (.getfield 24, 3) := by decide +kernel
theorem dX1_readPage_33 : decode cX1_readPage 33 = .ok (.getfield 28, 3) := by decide +kernel
theorem dX1_readPage_36 : decode cX1_readPage 36 = .ok (.aload_n 0, 1) := by decide +kernel
theorem dX1_readPage_37 : decode cX1_readPage 37 = .ok (.getfield 15, 3) := by decide +kernel
theorem dX1_readPage_40 : decode cX1_readPage 40 = .ok (.iload_n 1, 1) := by decide +kernel
theorem dX1_readPage_41 : decode cX1_readPage 41 = .ok (.iaload, 1) := by decide +kernel
theorem dX1_readPage_42 : decode cX1_readPage 42 = .ok (.invokestatic 40, 3) := by decide +kernel
theorem dX1_readPage_45 : decode cX1_readPage 45 = .ok (.istore_n 3, 1) := by decide +kernel
theorem dX1_readPage_46 : decode cX1_readPage 46 = .ok (.iload_n 1, 1) := by decide +kernel
theorem dX1_readPage_47 : decode cX1_readPage 47 = .ok (.aload_n 0, 1) := by decide +kernel
theorem dX1_readPage_48 : decode cX1_readPage 48 = .ok (.getfield 24, 3) := by decide +kernel
theorem dX1_readPage_51 : decode cX1_readPage 51 = .ok (.getfield 28, 3) := by decide +kernel
theorem dX1_readPage_54 : decode cX1_readPage 54 = .ok (.imul, 1) := by decide +kernel
theorem dX1_readPage_55 : decode cX1_readPage 55 = .ok (.istore 4, 2) := by decide +kernel
theorem dX1_readPage_57 : decode cX1_readPage 57 = .ok (.iconst 0, 1) := by decide +kernel
theorem dX1_readPage_58 : decode cX1_readPage 58 = .ok (.istore 5, 2) := by decide +kernel
theorem dX1_readPage_60 : decode cX1_readPage 60 = .ok (.iload 5, 2) := by decide +kernel
theorem dX1_readPage_62 : decode cX1_readPage 62 = .ok (.iload_n 3, 1) := by decide +kernel
theorem dX1_readPage_63 : decode cX1_readPage 63 = .ok (.if_icmp .ge 62, 3) := by decide +kernel
theorem dX1_readPage_66 : decode cX1_readPage 66 = .ok (.iload 4, 2) := by decide +kernel
theorem dX1_readPage_68 : decode cX1_readPage 68 = .ok (.iload 5, 2) := by decide +kernel
theorem dX1_readPage_70 : decode cX1_readPage 70 = .ok (.iadd, 1) := by decide +kernel
theorem dX1_readPage_71 : decode cX1_readPage 71 = .ok (.aload_n 0, 1) := by decide +kernel
theorem dX1_readPage_72 : decode cX1_readPage 72 = .ok (.getfield 34, 3) := by decide +kernel
theorem dX1_readPage_75 : decode cX1_readPage 75 = .ok (.arraylength, 1) := by decide +kernel
theorem dX1_readPage_76 : decode cX1_readPage 76 = .ok (.if_icmp .ge 49, 3) := by decide +kernel
theorem dX1_readPage_79 : decode cX1_readPage 79 = .ok (.aload_n 0, 1) := by decide +kernel
theorem dX1_readPage_80 : decode cX1_readPage 80 = .ok (.getfield 34, 3) := by decide +kernel
theorem dX1_readPage_83 : decode cX1_readPage 83 = .ok (.iload 4, 2) := by decide +kernel
theorem dX1_readPage_85 : decode cX1_readPage 85 = .ok (.iload 5, 2) := by decide +kernel
theorem dX1_readPage_87 : decode cX1_readPage 87 = .ok (.iadd, 1) := by decide +kernel
theorem dX1_readPage_88 : decode cX1_readPage 88 = .ok (.aload_n 0, 1) := by decide +kernel
theorem dX1_readPage_89 : decode cX1_readPage 89 = .ok (.getfield 24, 3) := by decide +kernel
theorem dX1_readPage_92 : decode cX1_readPage 92 = .ok (.iload_n 2, 1) := by decide +kernel
theorem dX1_readPage_93 : decode cX1_readPage 93 = .ok (.iload 5, 2) := by decide +kernel
theorem dX1_readPage_95 : decode cX1_readPage 95 = .ok (.invokevirtual 46, 3) := by decide +kernel
theorem dX1_readPage_98 : decode cX1_readPage 98 = .ok (.iastore, 1) := by decide +kernel
theorem dX1_readPage_99 : decode cX1_readPage 99 = .ok (.aload_n 0, 1) := by decide +kernel
theorem dX1_readPage_100 : decode cX1_readPage 100 = .ok (.getfield 37, 3) := by decide +kernel
theorem dX1_readPage_103 : decode cX1_readPage 103 = .ok (.iload 4, 2) := by decide +kernel
theorem dX1_readPage_105 : decode cX1_readPage 105 = .ok (.iload 5, 2) := by decide +kernel
theorem dX1_readPage_107 : decode cX1_readPage 107 = .ok (.iadd, 1) := by decide +kernel
theorem dX1_readPage_108 : decode cX1_readPage 108 = .ok (.aload_n 0, 1) := by decide +kernel
theorem dX1_readPage_109 : decode cX1_readPage 109 = .ok (.getfield 24, 3) := by decide +kernel
theorem dX1_readPage_112 : decode cX1_readPage 112 = .ok (.iload_n 2, 1) := by decide +kernel
theorem dX1_readPage_113 : decode cX1_readPage 113 = .ok (.iload 5, 2) := by decide +kernel
theorem dX1_readPage_115 : decode cX1_readPage 115 = .ok (.invokevirtual 49, 3) := by decide +kernel
theorem dX1_readPage_118 : decode cX1_readPage 118 = .ok (.iastore, 1) := by decide +kernel
theorem dX1_readPage_119 : decode cX1_readPage 119 = .ok (.iinc 5 1, 3) := by decide +kernel
theorem dX1_readPage_122 : decode cX1_readPage 122 = .ok (.goto (-62), 3) := by decide +kernel
theorem dX1_readPage_125 : decode cX1_readPage 125 = .ok (.aload_n 0, 1) := by decide +kernel
theorem dX1_readPage_126 : decode cX1_readPage 126 = .ok (.getfield 11, 3) := by decide +kernel
theorem dX1_readPage_129 : decode cX1_readPage 129 = .ok (.iload_n 1, 1) := by decide +kernel
theorem dX1_readPage_130 : decode cX1_readPage 130 = .ok (.aload_n 0, 1) := by decide +kernel
theorem dX1_readPage_131 : decode cX1_readPage 131 = .ok (.getfield 24, 3) := by decide +kernel
theorem dX1_readPage_134 : decode cX1_readPage 134 = .ok (.iload_n 2, 1) := by decide +kernel
theorem dX1_readPage_135 : decode cX1_readPage 135 = .ok (.invokevirtual 52, 3) := by decide +kernel
theorem dX1_readPage_138 : decode cX1_readPage 138 = .ok (.iastore, 1) := by decide +kernel
theorem dX1_readPage_139 : decode cX1_readPage 139 = .ok (.aload_n 0, 1) := by decide +kernel
theorem dX1_readPage_140 : decode cX1_readPage 140 = .ok (.getfield 15, 3) := by decide +kernel
theorem dX1_readPage_143 : decode cX1_readPage 143 = .ok (.iload_n 1, 1) := by decide +kernel
theorem dX1_readPage_144 : decode cX1_readPage 144 = .ok (.dup2, 1) := by decide +kernel
theorem dX1_readPage_145 : decode cX1_readPage 145 = .ok (.iaload, 1) := by decide +kernel
theorem dX1_readPage_146 : decode cX1_readPage 146 = .ok (.iload_n 3, 1) := by decide +kernel
theorem dX1_readPage_147 : decode cX1_readPage 147 = .ok (.isub, 1) := by decide +kernel
theorem dX1_readPage_148 : decode cX1_readPage 148 = .ok (.iastore, 1) := by decide +kernel
theorem dX1_readPage_149 : decode cX1_readPage 149 = .ok (.aload_n 0, 1) := by decide +kernel
theorem dX1_readPage_150 : decode cX1_readPage 150 = .ok (.getfield 18, 3) := by decide +kernel
theorem dX1_readPage_153 : decode cX1_readPage 153 = .ok (.iload_n 1, 1) := by decide +kernel
theorem dX1_readPage_154 : decode cX1_readPage 154 = .ok (.iconst 0, 1) := by decide +kernel
theorem dX1_readPage_155 : decode cX1_readPage 155 = .ok (.iastore, 1) := by decide +kernel
theorem dX1_readPage_156 : decode cX1_readPage 156 = .ok (.aload_n 0, 1) := by decide +kernel
theorem dX1_readPage_157 : decode cX1_readPage 157 = .ok (.getfield 21, 3) := by decide +kernel
theorem dX1_readPage_160 : decode cX1_readPage 160 = .ok (.iload_n 1, 1) := by decide +kernel
theorem dX1_readPage_161 : decode cX1_readPage 161 = .ok (.iload_n 3, 1) := by decide +kernel
theorem dX1_readPage_162 : decode cX1_readPage 162 = .ok (.iastore, 1) := by decide +kernel
theorem dX1_readPage_163 : decode cX1_readPage 163 = .ok (.aload_n 0, 1) := by decide +kernel
theorem dX1_readPage_164 : decode cX1_readPage 164 = .ok (.getfield 24, 3) := by decide +kernel
theorem dX1_readPage_167 : decode cX1_readPage 167 = .ok (.getfield 56, 3) := by decide +kernel
theorem dX1_readPage_170 : decode cX1_readPage 170 = .ok (.dup, 1) := by decide +kernel
theorem dX1_readPage_171 : decode cX1_readPage 171 = .ok (.getfield 60, 3) := by decide +kernel
theorem dX1_readPage_174 : decode cX1_readPage 174 = .ok (.iconst 1, 1) := by decide +kernel
theorem dX1_readPage_175 : decode cX1_readPage 175 = .ok (.iadd, 1) := by decide +kernel
theorem dX1_readPage_176 : decode cX1_readPage 176 = .ok (.putfield 60, 3) := by decide +kernel
theorem dX1_readPage_179 : decode cX1_readPage 179 = .ok (.iload_n 2, 1) := by decide +kernel
theorem dX1_readPage_180 : decode cX1_readPage 180 = .ok (.ireturn, 1) := by decide +kernel
theorem dX1_keyOf_0 : decode cX1_keyOf 0 = .ok (.aload_n 0, 1) := by decide +kernel
theorem dX1_keyOf_1 : decode cX1_keyOf 1 = .ok (.iload_n 1, 1) := by decide +kernel
theorem dX1_keyOf_2 : decode cX1_keyOf 2 = .ok (.invokevirtual 65, 3) := by decide +kernel
theorem dX1_keyOf_5 : decode cX1_keyOf 5 = .ok (.ifCond .eq 5, 3) := by decide +kernel
theorem dX1_keyOf_8 : decode cX1_keyOf 8 = .ok (.iconst 0, 1) := by decide +kernel
theorem dX1_keyOf_9 : decode cX1_keyOf 9 = .ok (.ireturn, 1) := by decide +kernel
theorem dX1_keyOf_10 : decode cX1_keyOf 10 = .ok (.iload_n 1, 1) := by decide +kernel
theorem dX1_keyOf_11 : decode cX1_keyOf 11 = .ok (.aload_n 0, 1) := by decide +kernel
theorem dX1_keyOf_12 : decode cX1_keyOf 12 = .ok (.getfield 24, 3) := by decide +kernel
theorem dX1_keyOf_15 : decode cX1_keyOf 15 = .ok (.getfield 28, 3) := by decide +kernel
theorem dX1_keyOf_18 : decode cX1_keyOf 18 = .ok (.imul, 1) := by decide +kernel
theorem dX1_keyOf_19 : decode cX1_keyOf 19 = .ok (.aload_n 0, 1) := by decide +kernel
theorem dX1_keyOf_20 : decode cX1_keyOf 20 = .ok (.getfield 18, 3) := by decide +kernel
theorem dX1_keyOf_23 : decode cX1_keyOf 23 = .ok (.iload_n 1, 1) := by decide +kernel
theorem dX1_keyOf_24 : decode cX1_keyOf 24 = .ok (.iaload, 1) := by decide +kernel
theorem dX1_keyOf_25 : decode cX1_keyOf 25 = .ok (.iadd, 1) := by decide +kernel
theorem dX1_keyOf_26 : decode cX1_keyOf 26 = .ok (.istore_n 2, 1) := by decide +kernel
theorem dX1_keyOf_27 : decode cX1_keyOf 27 = .ok (.iload_n 2, 1) := by decide +kernel
theorem dX1_keyOf_28 : decode cX1_keyOf 28 = .ok (.ifCond .lt 21, 3) := by decide +kernel
theorem dX1_keyOf_31 : decode cX1_keyOf 31 = .ok (.iload_n 2, 1) := by decide +kernel
theorem dX1_keyOf_32 : decode cX1_keyOf 32 = .ok (.aload_n 0, 1) := by decide +kernel
theorem dX1_keyOf_33 : decode cX1_keyOf 33 = .ok (.getfield 34, 3) := by decide +kernel
theorem dX1_keyOf_36 : decode cX1_keyOf 36 = .ok (.arraylength, 1) := by decide +kernel
theorem dX1_keyOf_37 : decode cX1_keyOf 37 = .ok (.if_icmp .ge 12, 3) := by decide +kernel
theorem dX1_keyOf_40 : decode cX1_keyOf 40 = .ok (.aload_n 0, 1) := by decide +kernel
theorem dX1_keyOf_41 : decode cX1_keyOf 41 = .ok (.getfield 34, 3) := by decide +kernel
theorem dX1_keyOf_44 : decode cX1_keyOf 44 = .ok (.iload_n 2, 1) := by decide +kernel
theorem dX1_keyOf_45 : decode cX1_keyOf 45 = .ok (.iaload, 1) := by decide +kernel
theorem dX1_keyOf_46 : decode cX1_keyOf 46 = .ok (.goto 4, 3) := by decide +kernel
theorem dX1_keyOf_49 : decode cX1_keyOf 49 = .ok (.iconst 0, 1) := by decide +kernel
theorem dX1_keyOf_50 : decode cX1_keyOf 50 = .ok (.ireturn, 1) := by decide +kernel
theorem dX1_tagOf_0 : decode cX1_tagOf 0 = .ok (.aload_n 0, 1) := by decide +kernel
theorem dX1_tagOf_1 : decode cX1_tagOf 1 = .ok (.iload_n 1, 1) := by decide +kernel
theorem dX1_tagOf_2 : decode cX1_tagOf 2 = .ok (.invokevirtual 65, 3) := by decide +kernel
theorem dX1_tagOf_5 : decode cX1_tagOf 5 = .ok (.ifCond .eq 5, 3) := by decide +kernel
theorem dX1_tagOf_8 : decode cX1_tagOf 8 = .ok (.iconst 0, 1) := by decide +kernel
theorem dX1_tagOf_9 : decode cX1_tagOf 9 = .ok (.ireturn, 1) := by decide +kernel
theorem dX1_tagOf_10 : decode cX1_tagOf 10 = .ok (.iload_n 1, 1) := by decide +kernel
theorem dX1_tagOf_11 : decode cX1_tagOf 11 = .ok (.aload_n 0, 1) := by decide +kernel
theorem dX1_tagOf_12 : decode cX1_tagOf 12 = .ok (.getfield 24, 3) := by decide +kernel
theorem dX1_tagOf_15 : decode cX1_tagOf 15 = .ok (.getfield 28, 3) := by decide +kernel
theorem dX1_tagOf_18 : decode cX1_tagOf 18 = .ok (.imul, 1) := by decide +kernel
theorem dX1_tagOf_19 : decode cX1_tagOf 19 = .ok (.aload_n 0, 1) := by decide +kernel
theorem dX1_tagOf_20 : decode cX1_tagOf 20 = .ok (.getfield 18, 3) := by decide +kernel
theorem dX1_tagOf_23 : decode cX1_tagOf 23 = .ok (.iload_n 1, 1) := by decide +kernel
theorem dX1_tagOf_24 : decode cX1_tagOf 24 = .ok (.iaload, 1) := by decide +kernel
theorem dX1_tagOf_25 : decode cX1_tagOf 25 = .ok (.iadd, 1) := by decide +kernel
theorem dX1_tagOf_26 : decode cX1_tagOf 26 = .ok (.istore_n 2, 1) := by decide +kernel
theorem dX1_tagOf_27 : decode cX1_tagOf 27 = .ok (.iload_n 2, 1) := by decide +kernel
theorem dX1_tagOf_28 : decode cX1_tagOf 28 = .ok (.ifCond .lt 21, 3) := by decide +kernel
theorem dX1_tagOf_31 : decode cX1_tagOf 31 = .ok (.iload_n 2, 1) := by decide +kernel
theorem dX1_tagOf_32 : decode cX1_tagOf 32 = .ok (.aload_n 0, 1) := by decide +kernel
theorem dX1_tagOf_33 : decode cX1_tagOf 33 = .ok (.getfield 37, 3) := by decide +kernel
theorem dX1_tagOf_36 : decode cX1_tagOf 36 = .ok (.arraylength, 1) := by decide +kernel
theorem dX1_tagOf_37 : decode cX1_tagOf 37 = .ok (.if_icmp .ge 12, 3) := by decide +kernel
theorem dX1_tagOf_40 : decode cX1_tagOf 40 = .ok (.aload_n 0, 1) := by decide +kernel
theorem dX1_tagOf_41 : decode cX1_tagOf 41 = .ok (.getfield 37, 3) := by decide +kernel
theorem dX1_tagOf_44 : decode cX1_tagOf 44 = .ok (.iload_n 2, 1) := by decide +kernel
theorem dX1_tagOf_45 : decode cX1_tagOf 45 = .ok (.iaload, 1) := by decide +kernel
theorem dX1_tagOf_46 : decode cX1_tagOf 46 = .ok (.goto 4, 3) := by decide +kernel
theorem dX1_tagOf_49 : decode cX1_tagOf 49 = .ok (.iconst 0, 1) := by decide +kernel
theorem dX1_tagOf_50 : decode cX1_tagOf 50 = .ok (.ireturn, 1) := by decide +kernel
theorem dX1_step_0 : decode cX1_step 0 = .ok (.aload_n 0, 1) := by decide +kernel
theorem dX1_step_1 : decode cX1_step 1 = .ok (.iload_n 1, 1) := by decide +kernel
theorem dX1_step_2 : decode cX1_step 2 = .ok (.invokevirtual 65, 3) := by decide +kernel
theorem dX1_step_5 : decode cX1_step 5 = .ok (.ifCond .ne 13, 3) := by decide +kernel
theorem dX1_step_8 : decode cX1_step 8 = .ok (.aload_n 0, 1) := by decide +kernel
theorem dX1_step_9 : decode cX1_step 9 = .ok (.getfield 18, 3) := by decide +kernel
theorem dX1_step_12 : decode cX1_step 12 = .ok (.iload_n 1, 1) := by decide +kernel
theorem dX1_step_13 : decode cX1_step 13 = .ok (.dup2, 1) := by decide +kernel
theorem dX1_step_14 : decode cX1_step 14 = .ok (.iaload, 1) := by decide +kernel
theorem dX1_step_15 : decode cX1_step 15 = .ok (.iconst 1, 1) := by decide +kernel
theorem dX1_step_16 : decode cX1_step 16 = .ok (.iadd, 1) := by decide +kernel
theorem dX1_step_17 : decode cX1_step 17 = .ok (.iastore, 1) := by decide +kernel
theorem dX1_step_18 : decode cX1_step 18 = .ok (.return_, 1) := by decide +kernel
theorem dX2_init_0 : decode cX2_init 0 = .ok (.aload_n 0, 1) := by decide +kernel
theorem dX2_init_1 : decode cX2_init 1 = .ok (.invokespecial 3, 3) := by decide +kernel
theorem dX2_init_4 : decode cX2_init 4 = .ok (.aload_n 0, 1) := by decide +kernel
theorem dX2_init_5 : decode cX2_init 5 = .ok (.aload_n 1, 1) := by decide +kernel
theorem dX2_init_6 : decode cX2_init 6 = .ok (.putfield 9, 3) := by decide +kernel
theorem dX2_init_9 : decode cX2_init 9 = .ok (.aload_n 0, 1) := by decide +kernel
theorem dX2_init_10 : decode cX2_init 10 = .ok (.aload_n 2, 1) := by decide +kernel
theorem dX2_init_11 : decode cX2_init 11 = .ok (.putfield 15, 3) := by decide +kernel
theorem dX2_init_14 : decode cX2_init 14 = .ok (.aload_n 0, 1) := by decide +kernel
theorem dX2_init_15 : decode cX2_init 15 = .ok (.aload_n 1, 1) := by decide +kernel
theorem dX2_init_16 : decode cX2_init 16 = .ok (.getfield 19, 3) := by decide +kernel
theorem dX2_init_19 : decode cX2_init 19 = .ok (.aload_n 1, 1) := by decide +kernel
theorem dX2_init_20 : decode cX2_init 20 = .ok (.getfield 25, 3) := by decide +kernel
theorem dX2_init_23 : decode cX2_init 23 = .ok (.imul, 1) := by decide +kernel
theorem dX2_init_24 : decode cX2_init 24 = .ok (.newarray .int, 2) := by decide +kernel
theorem dX2_init_26 : decode cX2_init 26 = .ok (.putfield 28, 3) := by decide +kernel
theorem dX2_init_29 : decode cX2_init 29 = .ok (.aload_n 0, 1) := by decide +kernel
theorem dX2_init_30 : decode cX2_init 30 = .ok (.aload_n 1, 1) := by decide +kernel
theorem dX2_init_31 : decode cX2_init 31 = .ok (.getfield 19, 3) := by decide +kernel
theorem dX2_init_34 : decode cX2_init 34 = .ok (.aload_n 1, 1) := by decide +kernel
theorem dX2_init_35 : decode cX2_init 35 = .ok (.getfield 25, 3) := by decide +kernel
theorem dX2_init_38 : decode cX2_init 38 = .ok (.imul, 1) := by decide +kernel
theorem dX2_init_39 : decode cX2_init 39 = .ok (.newarray .int, 2) := by decide +kernel
theorem dX2_init_41 : decode cX2_init 41 = .ok (.putfield 32, 3) := by decide +kernel
theorem dX2_init_44 : decode cX2_init 44 = .ok (.return_, 1) := by decide +kernel
theorem dX2_look_0 : decode cX2_look 0 = .ok (.aload_n 0, 1) := by decide +kernel
theorem dX2_look_1 : decode cX2_look 1 = .ok (.aload_n 0, 1) := by decide +kernel
theorem dX2_look_2 : decode cX2_look 2 = .ok (.iload_n 1, 1) := by decide +kernel
theorem dX2_look_3 : decode cX2_look 3 = .ok (.iload_n 2, 1) := by decide +kernel
theorem dX2_look_4 : decode cX2_look 4 = .ok (.iconst 0, 1) := by decide +kernel
theorem dX2_look_5 : decode cX2_look 5 = .ok (.invokevirtual 35, 3) := by decide +kernel
theorem dX2_look_8 : decode cX2_look 8 = .ok (.putfield 39, 3) := by decide +kernel
theorem dX2_look_11 : decode cX2_look 11 = .ok (.aload_n 0, 1) := by decide +kernel
theorem dX2_look_12 : decode cX2_look 12 = .ok (.aload_n 0, 1) := by decide +kernel
theorem dX2_look_13 : decode cX2_look 13 = .ok (.iload_n 3, 1) := by decide +kernel
theorem dX2_look_14 : decode cX2_look 14 = .ok (.iload 4, 2) := by decide +kernel
theorem dX2_look_16 : decode cX2_look 16 = .ok (.aload_n 0, 1) := by decide +kernel
theorem dX2_look_17 : decode cX2_look 17 = .ok (.getfield 39, 3) := by decide +kernel
theorem dX2_look_20 : decode cX2_look 20 = .ok (.invokevirtual 35, 3) := by decide +kernel
theorem dX2_look_23 : decode cX2_look 23 = .ok (.putfield 42, 3) := by decide +kernel
theorem dX2_look_26 : decode cX2_look 26 = .ok (.return_, 1) := by decide +kernel
theorem dX2_largestGroupOfB_0 : decode cX2_largestGroupOfB 0 = .ok (.iconst 0, 1) := by decide +kernel
theorem dX2_largestGroupOfB_1 : decode cX2_largestGroupOfB 1 = .ok (.istore_n 1, 1) := by decide +kernel
theorem dX2_largestGroupOfB_2 : decode cX2_largestGroupOfB 2 = .ok (.iconst 0, 1) := by decide +kernel
theorem dX2_largestGroupOfB_3 : decode cX2_largestGroupOfB 3 = .ok (.istore_n 2, 1) := by decide +kernel
theorem dX2_largestGroupOfB_4 : decode cX2_largestGroupOfB 4 = .ok (.aload_n 0, 1) := by decide +kernel
theorem dX2_largestGroupOfB_5 : decode cX2_largestGroupOfB 5 = .ok (.getfield 39, 3) := by decide +kernel
theorem dX2_largestGroupOfB_8 : decode cX2_largestGroupOfB 8 = .ok (.istore_n 3, 1) := by decide +kernel
theorem dX2_largestGroupOfB_9 : decode cX2_largestGroupOfB 9 = .ok (.iload_n 3, 1) := by decide +kernel
theorem dX2_largestGroupOfB_10 : decode cX2_largestGroupOfB 10 = .ok (.aload_n 0, 1) := by decide +kernel
theorem dX2_largestGroupOfB_11 : decode cX2_largestGroupOfB 11 = .ok (.getfield 42, 3) := by decide +kernel
theorem dX2_largestGroupOfB_14 : decode cX2_largestGroupOfB 14 = .ok (.if_icmp .ge 48, 3) := by decide +kernel
theorem dX2_largestGroupOfB_17 : decode cX2_largestGroupOfB 17 = .ok (.iload_n 3, 1) := by decide +kernel
theorem dX2_largestGroupOfB_18 : decode cX2_largestGroupOfB 18 = .ok (.aload_n 0, 1) := by decide +kernel
theorem dX2_largestGroupOfB_19 : decode cX2_largestGroupOfB 19 = .ok (.getfield 39, 3) := by decide +kernel
theorem dX2_largestGroupOfB_22 : decode cX2_largestGroupOfB 22 = .ok (.if_icmp .le 26, 3) := by decide +kernel
theorem dX2_largestGroupOfB_25 : decode cX2_largestGroupOfB 25 = .ok (.aload_n 0, 1) := by decide +kernel
theorem dX2_largestGroupOfB_26 : decode cX2_largestGroupOfB 26 = .ok (.getfield 28, 3) := by decide +kernel
theorem dX2_largestGroupOfB_29 : decode cX2_largestGroupOfB 29 = .ok (.iload_n 3, 1) := by decide +kernel
theorem dX2_largestGroupOfB_30 : decode cX2_largestGroupOfB 30 = .ok (.iaload, 1) := by decide +kernel
theorem dX2_largestGroupOfB_31 : decode cX2_largestGroupOfB 31 = .ok (.aload_n 0, 1) := by decide +kernel
theorem dX2_largestGroupOfB_32 : decode cX2_largestGroupOfB 32 = .ok (.getfield 28, 3) := by decide +kernel
theorem dX2_largestGroupOfB_35 : decode cX2_largestGroupOfB 35 = .ok (.iload_n 3, 1) := by decide +kernel
theorem dX2_largestGroupOfB_36 : decode cX2_largestGroupOfB 36 = .ok (.iconst 1, 1) := by decide +kernel
theorem dX2_largestGroupOfB_37 : decode cX2_largestGroupOfB 37 = .ok (.isub, 1) := by decide +kernel
theorem dX2_largestGroupOfB_38 : decode cX2_largestGroupOfB 38 = .ok (.iaload, 1) := by decide +kernel
theorem dX2_largestGroupOfB_39 : decode cX2_largestGroupOfB 39 = .ok (.if_icmp .ne 9, 3) := by decide +kernel
theorem dX2_largestGroupOfB_42 : decode cX2_largestGroupOfB 42 = .ok (.iload_n 2, 1) := by decide +kernel
theorem dX2_largestGroupOfB_43 : decode cX2_largestGroupOfB 43 = .ok (.iconst 1, 1) := by decide +kernel
theorem dX2_largestGroupOfB_44 : decode cX2_largestGroupOfB 44 = .ok (.iadd, 1) := by decide +kernel
theorem dX2_largestGroupOfB_45 : decode cX2_largestGroupOfB 45 = .ok (.goto 4, 3) := by decide +kernel
theorem dX2_largestGroupOfB_48 : decode cX2_largestGroupOfB 48 = .ok (.iconst 1, 1) := by decide +kernel
theorem dX2_largestGroupOfB_49 : decode cX2_largestGroupOfB 49 = .ok (.istore_n 2, 1) := by decide +kernel
theorem dX2_largestGroupOfB_50 : decode cX2_largestGroupOfB 50 = .ok (.iload_n 1, 1) := by decide +kernel
theorem dX2_largestGroupOfB_51 : decode cX2_largestGroupOfB 51 = .ok (.iload_n 2, 1) := by decide +kernel
theorem dX2_largestGroupOfB_52 : decode cX2_largestGroupOfB 52 = .ok (.invokestatic 45, 3) := by decide +kernel
theorem dX2_largestGroupOfB_55 : decode cX2_largestGroupOfB 55 = .ok (.istore_n 1, 1) := by decide +kernel
theorem dX2_largestGroupOfB_56 : decode cX2_largestGroupOfB 56 = .ok (.iinc 3 1, 3) := by decide +kernel
theorem dX2_largestGroupOfB_59 : decode cX2_largestGroupOfB 59 = .ok (.goto (-50), 3) := by decide +kernel
theorem dX2_largestGroupOfB_62 : decode cX2_largestGroupOfB 62 = .ok (.iload_n 1, 1) := by decide +kernel
theorem dX2_largestGroupOfB_63 : decode cX2_largestGroupOfB 63 = .ok (.ireturn, 1) := by decide +kernel
theorem dX2_pairsFit_0 : decode cX2_pairsFit 0 = .ok (.aload_n 0, 1) := by decide +kernel
theorem dX2_pairsFit_1 : decode cX2_pairsFit 1 = .ok (.getfield 9, 3) := by decide +kernel
theorem dX2_pairsFit_4 : decode cX2_pairsFit 4 = .ok (.aload_n 0, 1) := by decide +kernel
theorem dX2_pairsFit_5 : decode cX2_pairsFit 5 = .ok (.invokevirtual 51, 3) := by decide +kernel
theorem dX2_pairsFit_8 : decode cX2_pairsFit 8 = .ok (.invokevirtual 55, 3) := by decide +kernel
theorem dX2_pairsFit_11 : decode cX2_pairsFit 11 = .ok (.aload_n 0, 1) := by decide +kernel
theorem dX2_pairsFit_12 : decode cX2_pairsFit 12 = .ok (.getfield 9, 3) := by decide +kernel
theorem dX2_pairsFit_15 : decode cX2_pairsFit 15 = .ok (.invokevirtual 59, 3) := by decide +kernel
theorem dX2_pairsFit_18 : decode cX2_pairsFit 18 = .ok (.aload_n 0, 1) := by decide +kernel
theorem dX2_pairsFit_19 : decode cX2_pairsFit 19 = .ok (.invokevirtual 62, 3) := by decide +kernel
theorem dX2_pairsFit_22 : decode cX2_pairsFit 22 = .ok (.iadd, 1) := by decide +kernel
theorem dX2_pairsFit_23 : decode cX2_pairsFit 23 = .ok (.if_icmp .gt 7, 3) := by decide +kernel
theorem dX2_pairsFit_26 : decode cX2_pairsFit 26 = .ok (.iconst 1, 1) := by decide +kernel
theorem dX2_pairsFit_27 : decode cX2_pairsFit 27 = .ok (.goto 4, 3) := by decide +kernel
theorem dX2_pairsFit_30 : decode cX2_pairsFit 30 = .ok (.iconst 0, 1) := by decide +kernel
theorem dX2_pairsFit_31 : decode cX2_pairsFit 31 = .ok (.ireturn, 1) := by decide +kernel
theorem dX2_writePairs_0 : decode cX2_writePairs 0 = .ok (.aload_n 0, 1) := by decide +kernel
theorem dX2_writePairs_1 : decode cX2_writePairs 1 = .ok (.getfield 9, 3) := by decide +kernel
theorem dX2_writePairs_4 : decode cX2_writePairs 4 = .ok (.getfield 65, 3) := by decide +kernel
theorem dX2_writePairs_7 : decode cX2_writePairs 7 = .ok (.dup, 1) := by decide +kernel
theorem dX2_writePairs_8 : decode cX2_writePairs 8 = .ok (.getfield 69, 3) := by decide +kernel
theorem dX2_writePairs_11 : decode cX2_writePairs 11 = .ok (.aload_n 0, 1) := by decide +kernel
theorem dX2_writePairs_12 : decode cX2_writePairs 12 = .ok (.invokevirtual 62, 3) := by decide +kernel
theorem dX2_writePairs_15 : decode cX2_writePairs 15 = .ok (.iadd, 1) := by decide +kernel
theorem dX2_writePairs_16 : decode cX2_writePairs 16 = .ok (.putfield 69, 3) := by decide +kernel
theorem dX2_writePairs_19 : decode cX2_writePairs 19 = .ok (.aload_n 0, 1) := by decide +kernel
theorem dX2_writePairs_20 : decode cX2_writePairs 20 = .ok (.getfield 9, 3) := by decide +kernel
theorem dX2_writePairs_23 : decode cX2_writePairs 23 = .ok (.bipush 6, 2) := by decide +kernel
theorem dX2_writePairs_25 : decode cX2_writePairs 25 = .ok (.invokevirtual 74, 3) := by decide +kernel
theorem dX2_writePairs_28 : decode cX2_writePairs 28 = .ok (.pop, 1) := by decide +kernel
theorem dX2_writePairs_29 : decode cX2_writePairs 29 = .ok (.aload_n 0, 1) := by decide +kernel
theorem dX2_writePairs_30 : decode cX2_writePairs 30 = .ok (.getfield 15, 3) := by decide +kernel
theorem dX2_writePairs_33 : decode cX2_writePairs 33 = .ok (.iconst 0, 1) := by decide +kernel
theorem dX2_writePairs_34 : decode cX2_writePairs 34 = .ok (.invokevirtual 77, 3) := by decide +kernel
theorem dX2_writePairs_37 : decode cX2_writePairs 37 = .ok (.aload_n 0, 1) := by decide +kernel
theorem dX2_writePairs_38 : decode cX2_writePairs 38 = .ok (.invokevirtual 83, 3) := by decide +kernel
theorem dX2_writePairs_41 : decode cX2_writePairs 41 = .ok (.iconst 0, 1) := by decide +kernel
theorem dX2_writePairs_42 : decode cX2_writePairs 42 = .ok (.istore_n 1, 1) := by decide +kernel
theorem dX2_writePairs_43 : decode cX2_writePairs 43 = .ok (.iload_n 1, 1) := by decide +kernel
theorem dX2_writePairs_44 : decode cX2_writePairs 44 = .ok (.aload_n 0, 1) := by decide +kernel
theorem dX2_writePairs_45 : decode cX2_writePairs 45 = .ok (.getfield 28, 3) := by decide +kernel
theorem dX2_writePairs_48 : decode cX2_writePairs 48 = .ok (.arraylength, 1) := by decide +kernel
theorem dX2_writePairs_49 : decode cX2_writePairs 49 = .ok (.if_icmp .ge 25, 3) := by decide +kernel
theorem dX2_writePairs_52 : decode cX2_writePairs 52 = .ok (.aload_n 0, 1) := by decide +kernel
theorem dX2_writePairs_53 : decode cX2_writePairs 53 = .ok (.invokevirtual 86, 3) := by decide +kernel
theorem dX2_writePairs_56 : decode cX2_writePairs 56 = .ok (.ifCond .eq 18, 3) := by decide +kernel
theorem dX2_writePairs_59 : decode cX2_writePairs 59 = .ok (.aload_n 0, 1) := by decide +kernel
theorem dX2_writePairs_60 : decode cX2_writePairs 60 = .ok (.invokevirtual 90, 3) := by decide +kernel
theorem dX2_writePairs_63 : decode cX2_writePairs 63 = .ok (.ifCond .ne 5, 3) := by decide +kernel
theorem dX2_writePairs_66 : decode cX2_writePairs 66 = .ok (.iconst 0, 1) := by decide +kernel
theorem dX2_writePairs_67 : decode cX2_writePairs 67 = .ok (.ireturn, 1) := by decide +kernel
theorem dX2_writePairs_68 : decode cX2_writePairs 68 = .ok (.iinc 1 1, 3) := by decide +kernel
theorem dX2_writePairs_71 : decode cX2_writePairs 71 = .ok (.goto (-28), 3) := by decide +kernel
theorem dX2_writePairs_74 : decode cX2_writePairs 74 = .ok (.aload_n 0, 1) := by decide +kernel
theorem dX2_writePairs_75 : decode cX2_writePairs 75 = .ok (.getfield 15, 3) := by decide +kernel
theorem dX2_writePairs_78 : decode cX2_writePairs 78 = .ok (.invokevirtual 93, 3) := by decide +kernel
theorem dX2_writePairs_81 : decode cX2_writePairs 81 = .ok (.ireturn, 1) := by decide +kernel
theorem dX2_copy_0 : decode cX2_copy 0 = .ok (.iload_n 3, 1) := by decide +kernel
theorem dX2_copy_1 : decode cX2_copy 1 = .ok (.iload_n 2, 1) := by decide +kernel
theorem dX2_copy_2 : decode cX2_copy 2 = .ok (.iadd, 1) := by decide +kernel
theorem dX2_copy_3 : decode cX2_copy 3 = .ok (.aload_n 0, 1) := by decide +kernel
theorem dX2_copy_4 : decode cX2_copy 4 = .ok (.getfield 28, 3) := by decide +kernel
theorem dX2_copy_7 : decode cX2_copy 7 = .ok (.arraylength, 1) := by decide +kernel
theorem dX2_copy_8 : decode cX2_copy 8 = .ok (.invokestatic 96, 3) := by decide +kernel
theorem dX2_copy_11 : decode cX2_copy 11 = .ok (.istore 4, 2) := by decide +kernel
theorem dX2_copy_13 : decode cX2_copy 13 = .ok (.iload_n 1, 1) := by decide +kernel
theorem dX2_copy_14 : decode cX2_copy 14 = .ok (.istore 5, 2) := by decide +kernel
theorem dX2_copy_16 : decode cX2_copy 16 = .ok (.iconst 0, 1) := by decide +kernel
theorem dX2_copy_17 : decode cX2_copy 17 = .ok (.istore 6, 2) := by decide +kernel
theorem dX2_copy_19 : decode cX2_copy 19 = .ok (.iload_n 3, 1) := by decide +kernel
theorem dX2_copy_20 : decode cX2_copy 20 = .ok (.istore 7, 2) := by decide +kernel
theorem dX2_copy_22 : decode cX2_copy 22 = .ok (.iload 7, 2) := by decide +kernel
theorem dX2_copy_24 : decode cX2_copy 24 = .ok (.iload 4, 2) := by decide +kernel
theorem dX2_copy_26 : decode cX2_copy 26 = .ok (.if_icmp .ge 74, 3) := by decide +kernel
theorem dX2_copy_29 : decode cX2_copy 29 = .ok (.aload_n 0, 1) := by decide +kernel
theorem dX2_copy_30 : decode cX2_copy 30 = .ok (.getfield 28, 3) := by decide +kernel
theorem dX2_copy_33 : decode cX2_copy 33 = .ok (.iload 7, 2) := by decide +kernel
theorem dX2_copy_35 : decode cX2_copy 35 = .ok (.aload_n 0, 1) := by decide +kernel
theorem dX2_copy_36 : decode cX2_copy 36 = .ok (.getfield 9, 3) := by decide +kernel
theorem dX2_copy_39 : decode cX2_copy 39 = .ok (.iload 5, 2) := by decide +kernel
theorem dX2_copy_41 : decode cX2_copy 41 = .ok (.iload 6, 2) := by decide +kernel
theorem dX2_copy_43 : decode cX2_copy 43 = .ok (.invokevirtual 99, 3) := by decide +kernel
theorem dX2_copy_46 : decode cX2_copy 46 = .ok (.iastore, 1) := by decide +kernel
theorem dX2_copy_47 : decode cX2_copy 47 = .ok (.aload_n 0, 1) := by decide +kernel
theorem dX2_copy_48 : decode cX2_copy 48 = .ok (.getfield 32, 3) := by decide +kernel
theorem dX2_copy_51 : decode cX2_copy 51 = .ok (.iload 7, 2) := by decide +kernel
theorem dX2_copy_53 : decode cX2_copy 53 = .ok (.aload_n 0, 1) := by decide +kernel
theorem dX2_copy_54 : decode cX2_copy 54 = .ok (.getfield 9, 3) := by decide +kernel
theorem dX2_copy_57 : decode cX2_copy 57 = .ok (.iload 5, 2) := by decide +kernel
theorem dX2_copy_59 : decode cX2_copy 59 = .ok (.iload 6, 2) := by decide +kernel
theorem dX2_copy_61 : decode cX2_copy 61 = .ok (.invokevirtual 102, 3) := by decide +kernel
theorem dX2_copy_64 : decode cX2_copy 64 = .ok (.iastore, 1) := by decide +kernel
theorem dX2_copy_65 : decode cX2_copy 65 = .ok (.iinc 6 1, 3) := by decide +kernel
theorem dX2_copy_68 : decode cX2_copy 68 = .ok (.iload 6, 2) := by decide +kernel
theorem dX2_copy_70 : decode cX2_copy 70 = .ok (.aload_n 0, 1) := by decide +kernel
theorem dX2_copy_71 : decode cX2_copy 71 = .ok (.getfield 9, 3) := by decide +kernel
theorem dX2_copy_74 : decode cX2_copy 74 = .ok (.getfield 25, 3) := by decide +kernel
theorem dX2_copy_77 : decode cX2_copy 77 = .ok (.if_icmp .ne 17, 3) := by decide +kernel
theorem dX2_copy_80 : decode cX2_copy 80 = .ok (.iconst 0, 1) := by decide +kernel
theorem dX2_copy_81 : decode cX2_copy 81 = .ok (.istore 6, 2) := by decide +kernel
theorem dX2_copy_83 : decode cX2_copy 83 = .ok (.aload_n 0, 1) := by decide +kernel
theorem dX2_copy_84 : decode cX2_copy 84 = .ok (.getfield 9, 3) := by decide +kernel
theorem dX2_copy_87 : decode cX2_copy 87 = .ok (.iload 5, 2) := by decide +kernel
theorem dX2_copy_89 : decode cX2_copy 89 = .ok (.invokevirtual 105, 3) := by decide +kernel
theorem dX2_copy_92 : decode cX2_copy 92 = .ok (.istore 5, 2) := by decide +kernel
theorem dX2_copy_94 : decode cX2_copy 94 = .ok (.iinc 7 1, 3) := by decide +kernel
theorem dX2_copy_97 : decode cX2_copy 97 = .ok (.goto (-75), 3) := by decide +kernel
theorem dX2_copy_100 : decode cX2_copy 100 = .ok (.iload 4, 2) := by decide +kernel
theorem dX2_copy_102 : decode cX2_copy 102 = .ok (.ireturn, 1) := by decide +kernel
theorem dX2_sortedPages_0 : decode cX2_sortedPages 0 = .ok (.aload_n 0, 1) := by decide +kernel
theorem dX2_sortedPages_1 : decode cX2_sortedPages 1 = .ok (.getfield 9, 3) := by decide +kernel
theorem dX2_sortedPages_4 : decode cX2_sortedPages 4 = .ok (.aload_n 0, 1) := by decide +kernel
theorem dX2_sortedPages_5 : decode cX2_sortedPages 5 = .ok (.getfield 39, 3) := by decide +kernel
theorem dX2_sortedPages_8 : decode cX2_sortedPages 8 = .ok (.invokevirtual 55, 3) := by decide +kernel
theorem dX2_sortedPages_11 : decode cX2_sortedPages 11 = .ok (.aload_n 0, 1) := by decide +kernel
theorem dX2_sortedPages_12 : decode cX2_sortedPages 12 = .ok (.getfield 9, 3) := by decide +kernel
theorem dX2_sortedPages_15 : decode cX2_sortedPages 15 = .ok (.aload_n 0, 1) := by decide +kernel
theorem dX2_sortedPages_16 : decode cX2_sortedPages 16 = .ok (.getfield 42, 3) := by decide +kernel
theorem dX2_sortedPages_19 : decode cX2_sortedPages 19 = .ok (.aload_n 0, 1) := by decide +kernel
theorem dX2_sortedPages_20 : decode cX2_sortedPages 20 = .ok (.getfield 39, 3) := by decide +kernel
theorem dX2_sortedPages_23 : decode cX2_sortedPages 23 = .ok (.isub, 1) := by decide +kernel
theorem dX2_sortedPages_24 : decode cX2_sortedPages 24 = .ok (.invokevirtual 55, 3) := by decide +kernel
theorem dX2_sortedPages_27 : decode cX2_sortedPages 27 = .ok (.iadd, 1) := by decide +kernel
theorem dX2_sortedPages_28 : decode cX2_sortedPages 28 = .ok (.ireturn, 1) := by decide +kernel
theorem dX2_countPairs_0 : decode cX2_countPairs 0 = .ok (.iconst 0, 1) := by decide +kernel
theorem dX2_countPairs_1 : decode cX2_countPairs 1 = .ok (.istore_n 1, 1) := by decide +kernel
theorem dX2_countPairs_2 : decode cX2_countPairs 2 = .ok (.aload_n 0, 1) := by decide +kernel
theorem dX2_countPairs_3 : decode cX2_countPairs 3 = .ok (.invokevirtual 83, 3) := by decide +kernel
theorem dX2_countPairs_6 : decode cX2_countPairs 6 = .ok (.iconst 0, 1) := by decide +kernel
theorem dX2_countPairs_7 : decode cX2_countPairs 7 = .ok (.istore_n 2, 1) := by decide +kernel
theorem dX2_countPairs_8 : decode cX2_countPairs 8 = .ok (.iload_n 2, 1) := by decide +kernel
theorem dX2_countPairs_9 : decode cX2_countPairs 9 = .ok (.aload_n 0, 1) := by decide +kernel
theorem dX2_countPairs_10 : decode cX2_countPairs 10 = .ok (.getfield 28, 3) := by decide +kernel
theorem dX2_countPairs_13 : decode cX2_countPairs 13 = .ok (.arraylength, 1) := by decide +kernel
theorem dX2_countPairs_14 : decode cX2_countPairs 14 = .ok (.if_icmp .ge 38, 3) := by decide +kernel
theorem dX2_countPairs_17 : decode cX2_countPairs 17 = .ok (.aload_n 0, 1) := by decide +kernel
theorem dX2_countPairs_18 : decode cX2_countPairs 18 = .ok (.invokevirtual 86, 3) := by decide +kernel
theorem dX2_countPairs_21 : decode cX2_countPairs 21 = .ok (.ifCond .eq 31, 3) := by decide +kernel
theorem dX2_countPairs_24 : decode cX2_countPairs 24 = .ok (.iload_n 1, 1) := by decide +kernel
theorem dX2_countPairs_25 : decode cX2_countPairs 25 = .ok (.aload_n 0, 1) := by decide +kernel
theorem dX2_countPairs_26 : decode cX2_countPairs 26 = .ok (.getfield 108, 3) := by decide +kernel
theorem dX2_countPairs_29 : decode cX2_countPairs 29 = .ok (.aload_n 0, 1) := by decide +kernel
theorem dX2_countPairs_30 : decode cX2_countPairs 30 = .ok (.getfield 111, 3) := by decide +kernel
theorem dX2_countPairs_33 : decode cX2_countPairs 33 = .ok (.isub, 1) := by decide +kernel
theorem dX2_countPairs_34 : decode cX2_countPairs 34 = .ok (.aload_n 0, 1) := by decide +kernel
theorem dX2_countPairs_35 : decode cX2_countPairs 35 = .ok (.getfield 114, 3) := by decide +kernel
theorem dX2_countPairs_38 : decode cX2_countPairs 38 = .ok (.aload_n 0, 1) := by decide +kernel
theorem dX2_countPairs_39 : decode cX2_countPairs 39 = .ok (.getfield 117, 3) := by decide +kernel
theorem dX2_countPairs_42 : decode cX2_countPairs 42 = .ok (.isub, 1) := by decide +kernel
theorem dX2_countPairs_43 : decode cX2_countPairs 43 = .ok (.imul, 1) := by decide +kernel
theorem dX2_countPairs_44 : decode cX2_countPairs 44 = .ok (.iadd, 1) := by decide +kernel
theorem dX2_countPairs_45 : decode cX2_countPairs 45 = .ok (.istore_n 1, 1) := by decide +kernel
theorem dX2_countPairs_46 : decode cX2_countPairs 46 = .ok (.iinc 2 1, 3) := by decide +kernel
theorem dX2_countPairs_49 : decode cX2_countPairs 49 = .ok (.goto (-41), 3) := by decide +kernel
theorem dX2_countPairs_52 : decode cX2_countPairs 52 = .ok (.iload_n 1, 1) := by decide +kernel
theorem dX2_countPairs_53 : decode cX2_countPairs 53 = .ok (.ireturn, 1) := by decide +kernel
theorem dX2_rewind_0 : decode cX2_rewind 0 = .ok (.aload_n 0, 1) := by decide +kernel
theorem dX2_rewind_1 : decode cX2_rewind 1 = .ok (.iconst 0, 1) := by decide +kernel
theorem dX2_rewind_2 : decode cX2_rewind 2 = .ok (.putfield 108, 3) := by decide +kernel
theorem dX2_rewind_5 : decode cX2_rewind 5 = .ok (.aload_n 0, 1) := by decide +kernel
theorem dX2_rewind_6 : decode cX2_rewind 6 = .ok (.aload_n 0, 1) := by decide +kernel
theorem dX2_rewind_7 : decode cX2_rewind 7 = .ok (.getfield 39, 3) := by decide +kernel
theorem dX2_rewind_10 : decode cX2_rewind 10 = .ok (.putfield 114, 3) := by decide +kernel
theorem dX2_rewind_13 : decode cX2_rewind 13 = .ok (.return_, 1) := by decide +kernel
theorem dX2_findGroup_0 : decode cX2_findGroup 0 = .ok (.aload_n 0, 1) := by decide +kernel
theorem dX2_findGroup_1 : decode cX2_findGroup 1 = .ok (.aload_n 0, 1) := by decide +kernel
theorem dX2_findGroup_2 : decode cX2_findGroup 2 = .ok (.getfield 108, 3) := by decide +kernel
theorem dX2_findGroup_5 : decode cX2_findGroup 5 = .ok (.putfield 111, 3) := by decide +kernel
theorem dX2_findGroup_8 : decode cX2_findGroup 8 = .ok (.aload_n 0, 1) := by decide +kernel
theorem dX2_findGroup_9 : decode cX2_findGroup 9 = .ok (.aload_n 0, 1) := by decide +kernel
theorem dX2_findGroup_10 : decode cX2_findGroup 10 = .ok (.getfield 114, 3) := by decide +kernel
theorem dX2_findGroup_13 : decode cX2_findGroup 13 = .ok (.putfield 117, 3) := by decide +kernel
theorem dX2_findGroup_16 : decode cX2_findGroup 16 = .ok (.iconst 0, 1) := by decide +kernel
theorem dX2_findGroup_17 : decode cX2_findGroup 17 = .ok (.istore_n 1, 1) := by decide +kernel
theorem dX2_findGroup_18 : decode cX2_findGroup 18 = .ok (.iload_n 1, 1) := by decide +kernel
theorem dX2_findGroup_19 : decode cX2_findGroup 19 = .ok (.aload_n 0, 1) := by decide +kernel
theorem dX2_findGroup_20 : decode cX2_findGroup 20 = .ok (.getfield 42, 3) := by decide +kernel
theorem dX2_findGroup_23 : decode cX2_findGroup 23 = .ok (.if_icmp .ge 130, 3) := by decide +kernel
theorem dX2_findGroup_26 : decode cX2_findGroup 26 = .ok (.aload_n 0, 1) := by decide +kernel
theorem dX2_findGroup_27 : decode cX2_findGroup 27 = .ok (.getfield 111, 3) := by decide +kernel
theorem dX2_findGroup_30 : decode cX2_findGroup 30 = .ok (.aload_n 0, 1) := by decide +kernel
theorem dX2_findGroup_31 : decode cX2_findGroup 31 = .ok (.getfield 39, 3) := by decide +kernel
theorem dX2_findGroup_34 : decode cX2_findGroup 34 = .ok (.if_icmp .ge 119, 3) := by decide +kernel
theorem dX2_findGroup_37 : decode cX2_findGroup 37 = .ok (.aload_n 0, 1) := by decide +kernel
theorem dX2_findGroup_38 : decode cX2_findGroup 38 = .ok (.getfield 117, 3) := by decide +kernel
theorem dX2_findGroup_41 : decode cX2_findGroup 41 = .ok (.aload_n 0, 1) := by decide +kernel
theorem dX2_findGroup_42 : decode cX2_findGroup 42 = .ok (.getfield 42, 3) := by decide +kernel
theorem dX2_findGroup_45 : decode cX2_findGroup 45 = .ok (.if_icmp .ge 108, 3) := by decide +kernel
theorem dX2_findGroup_48 : decode cX2_findGroup 48 = .ok (.aload_n 0, 1) := by decide +kernel
theorem dX2_findGroup_49 : decode cX2_findGroup 49 = .ok (.getfield 28, 3) := by decide +kernel
theorem dX2_findGroup_52 : decode cX2_findGroup 52 = .ok (.aload_n 0, 1) := by decide +kernel
theorem dX2_findGroup_53 : decode cX2_findGroup 53 = .ok (.getfield 111, 3) := by decide +kernel
theorem dX2_findGroup_56 : decode cX2_findGroup 56 = .ok (.iaload, 1) := by decide +kernel
theorem dX2_findGroup_57 : decode cX2_findGroup 57 = .ok (.aload_n 0, 1) := by decide +kernel
theorem dX2_findGroup_58 : decode cX2_findGroup 58 = .ok (.getfield 28, 3) := by decide +kernel
theorem dX2_findGroup_61 : decode cX2_findGroup 61 = .ok (.aload_n 0, 1) := by decide +kernel
theorem dX2_findGroup_62 : decode cX2_findGroup 62 = .ok (.getfield 117, 3) := by decide +kernel
theorem dX2_findGroup_65 : decode cX2_findGroup 65 = .ok (.iaload, 1) := by decide +kernel
theorem dX2_findGroup_66 : decode cX2_findGroup 66 = .ok (.if_icmp .ne 37, 3) := by decide +kernel
theorem dX2_findGroup_69 : decode cX2_findGroup 69 = .ok (.aload_n 0, 1) := by decide +kernel
theorem dX2_findGroup_70 : decode cX2_findGroup 70 = .ok (.aload_n 0, 1) := by decide +kernel
theorem dX2_findGroup_71 : decode cX2_findGroup 71 = .ok (.aload_n 0, 1) := by decide +kernel
theorem dX2_findGroup_72 : decode cX2_findGroup 72 = .ok (.getfield 111, 3) := by decide +kernel
theorem dX2_findGroup_75 : decode cX2_findGroup 75 = .ok (.aload_n 0, 1) := by decide +kernel
theorem dX2_findGroup_76 : decode cX2_findGroup 76 = .ok (.getfield 39, 3) := by decide +kernel
theorem dX2_findGroup_79 : decode cX2_findGroup 79 = .ok (.invokevirtual 120, 3) := by decide +kernel
theorem dX2_findGroup_82 : decode cX2_findGroup 82 = .ok (.putfield 108, 3) := by decide +kernel
theorem dX2_findGroup_85 : decode cX2_findGroup 85 = .ok (.aload_n 0, 1) := by decide +kernel
theorem dX2_findGroup_86 : decode cX2_findGroup 86 = .ok (.aload_n 0, 1) := by decide +kernel
theorem dX2_findGroup_87 : decode cX2_findGroup 87 = .ok (.aload_n 0, 1) := by decide +kernel
theorem dX2_findGroup_88 : decode cX2_findGroup 88 = .ok (.getfield 117, 3) := by decide +kernel
theorem dX2_findGroup_91 : decode cX2_findGroup 91 = .ok (.aload_n 0, 1) := by decide +kernel
theorem dX2_findGroup_92 : decode cX2_findGroup 92 = .ok (.getfield 42, 3) := by decide +kernel
theorem dX2_findGroup_95 : decode cX2_findGroup 95 = .ok (.invokevirtual 120, 3) := by decide +kernel
theorem dX2_findGroup_98 : decode cX2_findGroup 98 = .ok (.putfield 114, 3) := by decide +kernel
theorem dX2_findGroup_101 : decode cX2_findGroup 101 = .ok (.iconst 1, 1) := by decide +kernel
theorem dX2_findGroup_102 : decode cX2_findGroup 102 = .ok (.ireturn, 1) := by decide +kernel
theorem dX2_findGroup_103 : decode cX2_findGroup 103 = .ok (.aload_n 0, 1) := by decide +kernel
theorem dX2_findGroup_104 : decode cX2_findGroup 104 = .ok (.getfield 28, 3) := by decide +kernel
theorem dX2_findGroup_107 : decode cX2_findGroup 107 = .ok (.aload_n 0, 1) := by decide +kernel
theorem dX2_findGroup_108 : decode cX2_findGroup 108 = .ok (.getfield 111, 3) := by decide +kernel
theorem dX2_findGroup_111 : decode cX2_findGroup 111 = .ok (.iaload, 1) := by decide +kernel
theorem dX2_findGroup_112 : decode cX2_findGroup 112 = .ok (.aload_n 0, 1) := by decide +kernel
theorem dX2_findGroup_113 : decode cX2_findGroup 113 = .ok (.getfield 28, 3) := by decide +kernel
theorem dX2_findGroup_116 : decode cX2_findGroup 116 = .ok (.aload_n 0, 1) := by decide +kernel
theorem dX2_findGroup_117 : decode cX2_findGroup 117 = .ok (.getfield 117, 3) := by decide +kernel
theorem dX2_findGroup_120 : decode cX2_findGroup 120 = .ok (.iaload, 1) := by decide +kernel
theorem dX2_findGroup_121 : decode cX2_findGroup 121 = .ok (.if_icmp .ge 16, 3) := by decide +kernel
theorem dX2_findGroup_124 : decode cX2_findGroup 124 = .ok (.aload_n 0, 1) := by decide +kernel
theorem dX2_findGroup_125 : decode cX2_findGroup 125 = .ok (.dup, 1) := by decide +kernel
theorem dX2_findGroup_126 : decode cX2_findGroup 126 = .ok (.getfield 111, 3) := by decide +kernel
theorem dX2_findGroup_129 : decode cX2_findGroup 129 = .ok (.iconst 1, 1) := by decide +kernel
theorem dX2_findGroup_130 : decode cX2_findGroup 130 = .ok (.iadd, 1) := by decide +kernel
theorem dX2_findGroup_131 : decode cX2_findGroup 131 = .ok (.putfield 111, 3) := by decide +kernel
theorem dX2_findGroup_134 : decode cX2_findGroup 134 = .ok (.goto 13, 3) := by decide +kernel
theorem dX2_findGroup_137 : decode cX2_findGroup 137 = .ok (.aload_n 0, 1) := by decide +kernel
theorem dX2_findGroup_138 : decode cX2_findGroup 138 = .ok (.dup, 1) := by decide +kernel
theorem dX2_findGroup_139 : decode cX2_findGroup 139 = .ok (.getfield 117, 3) := by decide +kernel
theorem dX2_findGroup_142 : decode cX2_findGroup 142 = .ok (.iconst 1, 1) := by decide +kernel
theorem dX2_findGroup_143 : decode cX2_findGroup 143 = .ok (.iadd, 1) := by decide +kernel
theorem dX2_findGroup_144 : decode cX2_findGroup 144 = .ok (.putfield 117, 3) := by decide +kernel
theorem dX2_findGroup_147 : decode cX2_findGroup 147 = .ok (.iinc 1 1, 3) := by decide +kernel
theorem dX2_findGroup_150 : decode cX2_findGroup 150 = .ok (.goto (-132), 3) := by decide +kernel
theorem dX2_findGroup_153 : decode cX2_findGroup 153 = .ok (.iconst 0, 1) := by decide +kernel
theorem dX2_findGroup_154 : decode cX2_findGroup 154 = .ok (.ireturn, 1) := by decide +kernel
theorem dX2_groupEnd_0 : decode cX2_groupEnd 0 = .ok (.iload_n 1, 1) := by decide +kernel
theorem dX2_groupEnd_1 : decode cX2_groupEnd 1 = .ok (.iconst 1, 1) := by decide +kernel
theorem dX2_groupEnd_2 : decode cX2_groupEnd 2 = .ok (.iadd, 1) := by decide +kernel
theorem dX2_groupEnd_3 : decode cX2_groupEnd 3 = .ok (.istore_n 3, 1) := by decide +kernel
theorem dX2_groupEnd_4 : decode cX2_groupEnd 4 = .ok (.iload_n 3, 1) := by decide +kernel
theorem dX2_groupEnd_5 : decode cX2_groupEnd 5 = .ok (.iload_n 2, 1) := by decide +kernel
theorem dX2_groupEnd_6 : decode cX2_groupEnd 6 = .ok (.if_icmp .ge 26, 3) := by decide +kernel
theorem dX2_groupEnd_9 : decode cX2_groupEnd 9 = .ok (.aload_n 0, 1) := by decide +kernel
theorem dX2_groupEnd_10 : decode cX2_groupEnd 10 = .ok (.getfield 28, 3) := by decide +kernel
theorem dX2_groupEnd_13 : decode cX2_groupEnd 13 = .ok (.iload_n 3, 1) := by decide +kernel
theorem dX2_groupEnd_14 : decode cX2_groupEnd 14 = .ok (.iaload, 1) := by decide +kernel
theorem dX2_groupEnd_15 : decode cX2_groupEnd 15 = .ok (.aload_n 0, 1) := by decide +kernel
theorem dX2_groupEnd_16 : decode cX2_groupEnd 16 = .ok (.getfield 28, 3) := by decide +kernel
theorem dX2_groupEnd_19 : decode cX2_groupEnd 19 = .ok (.iload_n 1, 1) := by decide +kernel
theorem dX2_groupEnd_20 : decode cX2_groupEnd 20 = .ok (.iaload, 1) := by decide +kernel
theorem dX2_groupEnd_21 : decode cX2_groupEnd 21 = .ok (.if_icmp .eq 5, 3) := by decide +kernel
theorem dX2_groupEnd_24 : decode cX2_groupEnd 24 = .ok (.iload_n 3, 1) := by decide +kernel
theorem dX2_groupEnd_25 : decode cX2_groupEnd 25 = .ok (.ireturn, 1) := by decide +kernel
theorem dX2_groupEnd_26 : decode cX2_groupEnd 26 = .ok (.iinc 3 1, 3) := by decide +kernel
theorem dX2_groupEnd_29 : decode cX2_groupEnd 29 = .ok (.goto (-25), 3) := by decide +kernel
theorem dX2_groupEnd_32 : decode cX2_groupEnd 32 = .ok (.iload_n 2, 1) := by decide +kernel
theorem dX2_groupEnd_33 : decode cX2_groupEnd 33 = .ok (.ireturn, 1) := by decide +kernel
theorem dX2_writeGroup_0 : decode cX2_writeGroup 0 = .ok (.aload_n 0, 1) := by decide +kernel
theorem dX2_writeGroup_1 : decode cX2_writeGroup 1 = .ok (.getfield 111, 3) := by decide +kernel
theorem dX2_writeGroup_4 : decode cX2_writeGroup 4 = .ok (.istore_n 1, 1) := by decide +kernel
theorem dX2_writeGroup_5 : decode cX2_writeGroup 5 = .ok (.iload_n 1, 1) := by decide +kernel
theorem dX2_writeGroup_6 : decode cX2_writeGroup 6 = .ok (.aload_n 0, 1) := by decide +kernel
theorem dX2_writeGroup_7 : decode cX2_writeGroup 7 = .ok (.getfield 108, 3) := by decide +kernel
theorem dX2_writeGroup_10 : decode cX2_writeGroup 10 = .ok (.if_icmp .ge 52, 3) := by decide +kernel
theorem dX2_writeGroup_13 : decode cX2_writeGroup 13 = .ok (.aload_n 0, 1) := by decide +kernel
theorem dX2_writeGroup_14 : decode cX2_writeGroup 14 = .ok (.getfield 117, 3) := by decide +kernel
theorem dX2_writeGroup_17 : decode cX2_writeGroup 17 = .ok (.istore_n 2, 1) := by decide +kernel
theorem dX2_writeGroup_18 : decode cX2_writeGroup 18 = .ok (.iload_n 2, 1) := by decide +kernel
theorem dX2_writeGroup_19 : decode cX2_writeGroup 19 = .ok (.aload_n 0, 1) := by decide +kernel
theorem dX2_writeGroup_20 : decode cX2_writeGroup 20 = .ok (.getfield 114, 3) := by decide +kernel
theorem dX2_writeGroup_23 : decode cX2_writeGroup 23 = .ok (.if_icmp .ge 33, 3) := by decide +kernel
theorem dX2_writeGroup_26 : decode cX2_writeGroup 26 = .ok (.aload_n 0, 1) := by decide +kernel
theorem dX2_writeGroup_27 : decode cX2_writeGroup 27 = .ok (.getfield 15, 3) := by decide +kernel
theorem dX2_writeGroup_30 : decode cX2_writeGroup 30 = .ok (.aload_n 0, 1) := by decide +kernel
theorem dX2_writeGroup_31 : decode cX2_writeGroup 31 = .ok (.getfield 32, 3) := by decide +kernel
theorem dX2_writeGroup_34 : decode cX2_writeGroup 34 = .ok (.iload_n 1, 1) := by decide +kernel
theorem dX2_writeGroup_35 : decode cX2_writeGroup 35 = .ok (.iaload, 1) := by decide +kernel
theorem dX2_writeGroup_36 : decode cX2_writeGroup 36 = .ok (.aload_n 0, 1) := by decide +kernel
theorem dX2_writeGroup_37 : decode cX2_writeGroup 37 = .ok (.getfield 32, 3) := by decide +kernel
theorem dX2_writeGroup_40 : decode cX2_writeGroup 40 = .ok (.iload_n 2, 1) := by decide +kernel
theorem dX2_writeGroup_41 : decode cX2_writeGroup 41 = .ok (.iaload, 1) := by decide +kernel
theorem dX2_writeGroup_42 : decode cX2_writeGroup 42 = .ok (.invokevirtual 123, 3) := by decide +kernel
theorem dX2_writeGroup_45 : decode cX2_writeGroup 45 = .ok (.ifCond .ne 5, 3) := by decide +kernel
theorem dX2_writeGroup_48 : decode cX2_writeGroup 48 = .ok (.iconst 0, 1) := by decide +kernel
theorem dX2_writeGroup_49 : decode cX2_writeGroup 49 = .ok (.ireturn, 1) := by decide +kernel
theorem dX2_writeGroup_50 : decode cX2_writeGroup 50 = .ok (.iinc 2 1, 3) := by decide +kernel
theorem dX2_writeGroup_53 : decode cX2_writeGroup 53 = .ok (.goto (-35), 3) := by decide +kernel
theorem dX2_writeGroup_56 : decode cX2_writeGroup 56 = .ok (.iinc 1 1, 3) := by decide +kernel
theorem dX2_writeGroup_59 : decode cX2_writeGroup 59 = .ok (.goto (-54), 3) := by decide +kernel
theorem dX2_writeGroup_62 : decode cX2_writeGroup 62 = .ok (.iconst 1, 1) := by decide +kernel
theorem dX2_writeGroup_63 : decode cX2_writeGroup 63 = .ok (.ireturn, 1) := by decide +kernel
theorem dX3_init_0 : decode cX3_init 0 = .ok (.aload_n 0, 1) := by decide +kernel
theorem dX3_init_1 : decode cX3_init 1 = .ok (.invokespecial 5, 3) := by decide +kernel
theorem dX3_init_4 : decode cX3_init 4 = .ok (.iconst 1, 1) := by decide +kernel
theorem dX3_init_5 : decode cX3_init 5 = .ok (.iload_n 1, 1) := by decide +kernel
theorem dX3_init_6 : decode cX3_init 6 = .ok (.invokestatic 11, 3) := by decide +kernel
theorem dX3_init_9 : decode cX3_init 9 = .ok (.istore_n 2, 1) := by decide +kernel
theorem dX3_init_10 : decode cX3_init 10 = .ok (.aload_n 0, 1) := by decide +kernel
theorem dX3_init_11 : decode cX3_init 11 = .ok (.iload_n 2, 1) := by decide +kernel
theorem dX3_init_12 : decode cX3_init 12 = .ok (.newarray .int, 2) := by decide +kernel
theorem dX3_init_14 : decode cX3_init 14 = .ok (.putfield 17, 3) := by decide +kernel
theorem dX3_init_17 : decode cX3_init 17 = .ok (.aload_n 0, 1) := by decide +kernel
theorem dX3_init_18 : decode cX3_init 18 = .ok (.iload_n 2, 1) := by decide +kernel
theorem dX3_init_19 : decode cX3_init 19 = .ok (.newarray .int, 2) := by decide +kernel
theorem dX3_init_21 : decode cX3_init 21 = .ok (.putfield 23, 3) := by decide +kernel
theorem dX3_init_24 : decode cX3_init 24 = .ok (.aload_n 0, 1) := by decide +kernel
theorem dX3_init_25 : decode cX3_init 25 = .ok (.iload_n 2, 1) := by decide +kernel
theorem dX3_init_26 : decode cX3_init 26 = .ok (.newarray .int, 2) := by decide +kernel
theorem dX3_init_28 : decode cX3_init 28 = .ok (.putfield 26, 3) := by decide +kernel
theorem dX3_init_31 : decode cX3_init 31 = .ok (.aload_n 0, 1) := by decide +kernel
theorem dX3_init_32 : decode cX3_init 32 = .ok (.iload_n 2, 1) := by decide +kernel
theorem dX3_init_33 : decode cX3_init 33 = .ok (.newarray .int, 2) := by decide +kernel
theorem dX3_init_35 : decode cX3_init 35 = .ok (.putfield 29, 3) := by decide +kernel
theorem dX3_init_38 : decode cX3_init 38 = .ok (.aload_n 0, 1) := by decide +kernel
theorem dX3_init_39 : decode cX3_init 39 = .ok (.iload_n 2, 1) := by decide +kernel
theorem dX3_init_40 : decode cX3_init 40 = .ok (.newarray .int, 2) := by decide +kernel
theorem dX3_init_42 : decode cX3_init 42 = .ok (.putfield 32, 3) := by decide +kernel
theorem dX3_init_45 : decode cX3_init 45 = .ok (.return_, 1) := by decide +kernel
theorem dX3_begin_0 : decode cX3_begin 0 = .ok (.aload_n 0, 1) := by decide +kernel
theorem dX3_begin_1 : decode cX3_begin 1 = .ok (.iconst 0, 1) := by decide +kernel
theorem dX3_begin_2 : decode cX3_begin 2 = .ok (.iload_n 1, 1) := by decide +kernel
theorem dX3_begin_3 : decode cX3_begin 3 = .ok (.aload_n 0, 1) := by decide +kernel
theorem dX3_begin_4 : decode cX3_begin 4 = .ok (.getfield 32, 3) := by decide +kernel
theorem dX3_begin_7 : decode cX3_begin 7 = .ok (.arraylength, 1) := by decide +kernel
theorem dX3_begin_8 : decode cX3_begin 8 = .ok (.invokestatic 35, 3) := by decide +kernel
theorem dX3_begin_11 : decode cX3_begin 11 = .ok (.invokestatic 11, 3) := by decide +kernel
theorem dX3_begin_14 : decode cX3_begin 14 = .ok (.putfield 38, 3) := by decide +kernel
theorem dX3_begin_17 : decode cX3_begin 17 = .ok (.aload_n 0, 1) := by decide +kernel
theorem dX3_begin_18 : decode cX3_begin 18 = .ok (.iload_n 2, 1) := by decide +kernel
theorem dX3_begin_19 : decode cX3_begin 19 = .ok (.putfield 42, 3) := by decide +kernel
theorem dX3_begin_22 : decode cX3_begin 22 = .ok (.return_, 1) := by decide +kernel
theorem dX3_enter_0 : decode cX3_enter 0 = .ok (.aload_n 0, 1) := by decide +kernel
theorem dX3_enter_1 : decode cX3_enter 1 = .ok (.iload_n 1, 1) := by decide +kernel
theorem dX3_enter_2 : decode cX3_enter 2 = .ok (.invokevirtual 45, 3) := by decide +kernel
theorem dX3_enter_5 : decode cX3_enter 5 = .ok (.ifCond .eq 33, 3) := by decide +kernel
theorem dX3_enter_8 : decode cX3_enter 8 = .ok (.aload_n 0, 1) := by decide +kernel
theorem dX3_enter_9 : decode cX3_enter 9 = .ok (.getfield 17, 3) := by decide +kernel
theorem dX3_enter_12 : decode cX3_enter 12 = .ok (.iload_n 1, 1) := by decide +kernel
theorem dX3_enter_13 : decode cX3_enter 13 = .ok (.iload_n 2, 1) := by decide +kernel
theorem dX3_enter_14 : decode cX3_enter 14 = .ok (.iastore, 1) := by decide +kernel
theorem dX3_enter_15 : decode cX3_enter 15 = .ok (.aload_n 0, 1) := by decide +kernel
theorem dX3_enter_16 : decode cX3_enter 16 = .ok (.getfield 23, 3) := by decide +kernel
theorem dX3_enter_19 : decode cX3_enter 19 = .ok (.iload_n 1, 1) := by decide +kernel
theorem dX3_enter_20 : decode cX3_enter 20 = .ok (.iload_n 3, 1) := by decide +kernel
theorem dX3_enter_21 : decode cX3_enter 21 = .ok (.iastore, 1) := by decide +kernel
theorem dX3_enter_22 : decode cX3_enter 22 = .ok (.aload_n 0, 1) := by decide +kernel
theorem dX3_enter_23 : decode cX3_enter 23 = .ok (.getfield 26, 3) := by decide +kernel
theorem dX3_enter_26 : decode cX3_enter 26 = .ok (.iload_n 1, 1) := by decide +kernel
theorem dX3_enter_27 : decode cX3_enter 27 = .ok (.iload 4, 2) := by decide +kernel
theorem dX3_enter_29 : decode cX3_enter 29 = .ok (.iastore, 1) := by decide +kernel
theorem dX3_enter_30 : decode cX3_enter 30 = .ok (.aload_n 0, 1) := by decide +kernel
theorem dX3_enter_31 : decode cX3_enter 31 = .ok (.getfield 29, 3) := by decide +kernel
theorem dX3_enter_34 : decode cX3_enter 34 = .ok (.iload_n 1, 1) := by decide +kernel
theorem dX3_enter_35 : decode cX3_enter 35 = .ok (.iload 5, 2) := by decide +kernel
theorem dX3_enter_37 : decode cX3_enter 37 = .ok (.iastore, 1) := by decide +kernel
theorem dX3_enter_38 : decode cX3_enter 38 = .ok (.return_, 1) := by decide +kernel
theorem dX3_retire_0 : decode cX3_retire 0 = .ok (.aload_n 0, 1) := by decide +kernel
theorem dX3_retire_1 : decode cX3_retire 1 = .ok (.iload_n 1, 1) := by decide +kernel
theorem dX3_retire_2 : decode cX3_retire 2 = .ok (.invokevirtual 45, 3) := by decide +kernel
theorem dX3_retire_5 : decode cX3_retire 5 = .ok (.ifCond .eq 11, 3) := by decide +kernel
theorem dX3_retire_8 : decode cX3_retire 8 = .ok (.aload_n 0, 1) := by decide +kernel
theorem dX3_retire_9 : decode cX3_retire 9 = .ok (.getfield 17, 3) := by decide +kernel
theorem dX3_retire_12 : decode cX3_retire 12 = .ok (.iload_n 1, 1) := by decide +kernel
theorem dX3_retire_13 : decode cX3_retire 13 = .ok (.ldc 49, 2) := by decide +kernel
theorem dX3_retire_15 : decode cX3_retire 15 = .ok (.iastore, 1) := by decide +kernel
theorem dX3_retire_16 : decode cX3_retire 16 = .ok (.return_, 1) := by decide +kernel
theorem dX3_build_0 : decode cX3_build 0 = .ok (.iconst 0, 1) := by decide +kernel
theorem dX3_build_1 : decode cX3_build 1 = .ok (.istore_n 1, 1) := by decide +kernel
theorem dX3_build_2 : decode cX3_build 2 = .ok (.iload_n 1, 1) := by decide +kernel
theorem dX3_build_3 : decode cX3_build 3 = .ok (.aload_n 0, 1) := by decide +kernel
theorem dX3_build_4 : decode cX3_build 4 = .ok (.getfield 38, 3) := by decide +kernel
theorem dX3_build_7 : decode cX3_build 7 = .ok (.if_icmp .ge 16, 3) := by decide +kernel
theorem dX3_build_10 : decode cX3_build 10 = .ok (.aload_n 0, 1) := by decide +kernel
theorem dX3_build_11 : decode cX3_build 11 = .ok (.getfield 32, 3) := by decide +kernel
theorem dX3_build_14 : decode cX3_build 14 = .ok (.iload_n 1, 1) := by decide +kernel
theorem dX3_build_15 : decode cX3_build 15 = .ok (.iconst (-1), 1) := by decide +kernel
theorem dX3_build_16 : decode cX3_build 16 = .ok (.iastore, 1) := by decide +kernel
theorem dX3_build_17 : decode cX3_build 17 = .ok (.iinc 1 1, 3) := by decide +kernel
theorem dX3_build_20 : decode cX3_build 20 = .ok (.goto (-18), 3) := by decide +kernel
theorem dX3_build_23 : decode cX3_build 23 = .ok (.iconst 0, 1) := by decide +kernel
theorem dX3_build_24 : decode cX3_build 24 = .ok (.istore_n 1, 1) := by decide +kernel
theorem dX3_build_25 : decode cX3_build 25 = .ok (.iload_n 1, 1) := by decide +kernel
theorem dX3_build_26 : decode cX3_build 26 = .ok (.aload_n 0, 1) := by decide +kernel
theorem dX3_build_27 : decode cX3_build 27 = .ok (.getfield 38, 3) := by decide +kernel
theorem dX3_build_30 : decode cX3_build 30 = .ok (.if_icmp .ge 14, 3) := by decide +kernel
theorem dX3_build_33 : decode cX3_build 33 = .ok (.aload_n 0, 1) := by decide +kernel
theorem dX3_build_34 : decode cX3_build 34 = .ok (.iload_n 1, 1) := by decide +kernel
theorem dX3_build_35 : decode cX3_build 35 = .ok (.invokevirtual 50, 3) := by decide +kernel
theorem dX3_build_38 : decode cX3_build 38 = .ok (.iinc 1 1, 3) := by decide +kernel
theorem dX3_build_41 : decode cX3_build 41 = .ok (.goto (-16), 3) := by decide +kernel
theorem dX3_build_44 : decode cX3_build 44 = .ok (.return_, 1) := by decide +kernel
theorem dX3_climb_0 : decode cX3_climb 0 = .ok (.aload_n 0, 1) := by decide +kernel
theorem dX3_climb_1 : decode cX3_climb 1 = .ok (.iload_n 1, 1) := by decide +kernel
theorem dX3_climb_2 : decode cX3_climb 2 = .ok (.invokevirtual 45, 3) := by decide +kernel
theorem dX3_climb_5 : decode cX3_climb 5 = .ok (.ifCond .ne 4, 3) := by decide +kernel
theorem dX3_climb_8 : decode cX3_climb 8 = .ok (.return_, 1) := by decide +kernel
theorem dX3_climb_9 : decode cX3_climb 9 = .ok (.iload_n 1, 1) := by decide +kernel
theorem dX3_climb_10 : decode cX3_climb 10 = .ok (.istore_n 2, 1) := by decide +kernel
theorem dX3_climb_11 : decode cX3_climb 11 = .ok (.aload_n 0, 1) := by decide +kernel
theorem dX3_climb_12 : decode cX3_climb 12 = .ok (.getfield 38, 3) := by decide +kernel
theorem dX3_climb_15 : decode cX3_climb 15 = .ok (.iload_n 1, 1) := by decide +kernel
theorem dX3_climb_16 : decode cX3_climb 16 = .ok (.iadd, 1) := by decide +kernel
theorem dX3_climb_17 : decode cX3_climb 17 = .ok (.iconst 2, 1) := by decide +kernel
theorem dX3_climb_18 : decode cX3_climb 18 = .ok (.idiv, 1) := by decide +kernel
theorem dX3_climb_19 : decode cX3_climb 19 = .ok (.istore_n 3, 1) := by decide +kernel
theorem dX3_climb_20 : decode cX3_climb 20 = .ok (.iload_n 3, 1) := by decide +kernel
theorem dX3_climb_21 : decode cX3_climb 21 = .ok (.ifCond .le 61, 3) := by decide +kernel
theorem dX3_climb_24 : decode cX3_climb 24 = .ok (.iload_n 3, 1) := by decide +kernel
theorem dX3_climb_25 : decode cX3_climb 25 = .ok (.aload_n 0, 1) := by decide +kernel
theorem dX3_climb_26 : decode cX3_climb 26 = .ok (.getfield 32, 3) := by decide +kernel
theorem dX3_climb_29 : decode cX3_climb 29 = .ok (.arraylength, 1) := by decide +kernel
theorem dX3_climb_30 : decode cX3_climb 30 = .ok (.if_icmp .ge 52, 3) := by decide +kernel
theorem dX3_climb_33 : decode cX3_climb 33 = .ok (.aload_n 0, 1) := by decide +kernel
theorem dX3_climb_34 : decode cX3_climb 34 = .ok (.getfield 32, 3) := by decide +kernel
theorem dX3_climb_37 : decode cX3_climb 37 = .ok (.iload_n 3, 1) := by decide +kernel
theorem dX3_climb_38 : decode cX3_climb 38 = .ok (.iaload, 1) := by decide +kernel
theorem dX3_climb_39 : decode cX3_climb 39 = .ok (.istore 4, 2) := by decide +kernel
theorem dX3_climb_41 : decode cX3_climb 41 = .ok (.iload 4, 2) := by decide +kernel
theorem dX3_climb_43 : decode cX3_climb 43 = .ok (.iconst (-1), 1) := by decide +kernel
theorem dX3_climb_44 : decode cX3_climb 44 = .ok (.if_icmp .ne 11, 3) := by decide +kernel
theorem dX3_climb_47 : decode cX3_climb 47 = .ok (.aload_n 0, 1) := by decide +kernel
theorem dX3_climb_48 : decode cX3_climb 48 = .ok (.getfield 32, 3) := by decide +kernel
theorem dX3_climb_51 : decode cX3_climb 51 = .ok (.iload_n 3, 1) := by decide +kernel
theorem dX3_climb_52 : decode cX3_climb 52 = .ok (.iload_n 2, 1) := by decide +kernel
theorem dX3_climb_53 : decode cX3_climb 53 = .ok (.iastore, 1) := by decide +kernel
theorem dX3_climb_54 : decode cX3_climb 54 = .ok (.return_, 1) := by decide +kernel
theorem dX3_climb_55 : decode cX3_climb 55 = .ok (.aload_n 0, 1) := by decide +kernel
theorem dX3_climb_56 : decode cX3_climb 56 = .ok (.iload 4, 2) := by decide +kernel
theorem dX3_climb_58 : decode cX3_climb 58 = .ok (.iload_n 2, 1) := by decide +kernel
theorem dX3_climb_59 : decode cX3_climb 59 = .ok (.invokevirtual 54, 3) := by decide +kernel
theorem dX3_climb_62 : decode cX3_climb 62 = .ok (.ifCond .eq 13, 3) := by decide +kernel
theorem dX3_climb_65 : decode cX3_climb 65 = .ok (.aload_n 0, 1) := by decide +kernel
theorem dX3_climb_66 : decode cX3_climb 66 = .ok (.getfield 32, 3) := by decide +kernel
theorem dX3_climb_69 : decode cX3_climb 69 = .ok (.iload_n 3, 1) := by decide +kernel
theorem dX3_climb_70 : decode cX3_climb 70 = .ok (.iload_n 2, 1) := by decide +kernel
theorem dX3_climb_71 : decode cX3_climb 71 = .ok (.iastore, 1) := by decide +kernel
theorem dX3_climb_72 : decode cX3_climb 72 = .ok (.iload 4, 2) := by decide +kernel
theorem dX3_climb_74 : decode cX3_climb 74 = .ok (.istore_n 2, 1) := by decide +kernel
theorem dX3_climb_75 : decode cX3_climb 75 = .ok (.iload_n 3, 1) := by decide +kernel
theorem dX3_climb_76 : decode cX3_climb 76 = .ok (.iconst 2, 1) := by decide +kernel
theorem dX3_climb_77 : decode cX3_climb 77 = .ok (.idiv, 1) := by decide +kernel
theorem dX3_climb_78 : decode cX3_climb 78 = .ok (.istore_n 3, 1) := by decide +kernel
theorem dX3_climb_79 : decode cX3_climb 79 = .ok (.goto (-59), 3) := by decide +kernel
theorem dX3_climb_82 : decode cX3_climb 82 = .ok (.aload_n 0, 1) := by decide +kernel
theorem dX3_climb_83 : decode cX3_climb 83 = .ok (.getfield 32, 3) := by decide +kernel
theorem dX3_climb_86 : decode cX3_climb 86 = .ok (.iconst 0, 1) := by decide +kernel
theorem dX3_climb_87 : decode cX3_climb 87 = .ok (.iload_n 2, 1) := by decide +kernel
theorem dX3_climb_88 : decode cX3_climb 88 = .ok (.iastore, 1) := by decide +kernel
theorem dX3_climb_89 : decode cX3_climb 89 = .ok (.return_, 1) := by decide +kernel
theorem dX3_winner_0 : decode cX3_winner 0 = .ok (.aload_n 0, 1) := by decide +kernel
theorem dX3_winner_1 : decode cX3_winner 1 = .ok (.getfield 38, 3) := by decide +kernel
theorem dX3_winner_4 : decode cX3_winner 4 = .ok (.ifCond .le 12, 3) := by decide +kernel
theorem dX3_winner_7 : decode cX3_winner 7 = .ok (.aload_n 0, 1) := by decide +kernel
theorem dX3_winner_8 : decode cX3_winner 8 = .ok (.getfield 32, 3) := by decide +kernel
theorem dX3_winner_11 : decode cX3_winner 11 = .ok (.iconst 0, 1) := by decide +kernel
theorem dX3_winner_12 : decode cX3_winner 12 = .ok (.iaload, 1) := by decide +kernel
theorem dX3_winner_13 : decode cX3_winner 13 = .ok (.goto 4, 3) := by decide +kernel
theorem dX3_winner_16 : decode cX3_winner 16 = .ok (.iconst (-1), 1) := by decide +kernel
theorem dX3_winner_17 : decode cX3_winner 17 = .ok (.ireturn, 1) := by decide +kernel
theorem dX3_roundOf_0 : decode cX3_roundOf 0 = .ok (.aload_n 0, 1) := by decide +kernel
theorem dX3_roundOf_1 : decode cX3_roundOf 1 = .ok (.iload_n 1, 1) := by decide +kernel
theorem dX3_roundOf_2 : decode cX3_roundOf 2 = .ok (.invokevirtual 45, 3) := by decide +kernel
theorem dX3_roundOf_5 : decode cX3_roundOf 5 = .ok (.ifCond .eq 12, 3) := by decide +kernel
theorem dX3_roundOf_8 : decode cX3_roundOf 8 = .ok (.aload_n 0, 1) := by decide +kernel
theorem dX3_roundOf_9 : decode cX3_roundOf 9 = .ok (.getfield 17, 3) := by decide +kernel
theorem dX3_roundOf_12 : decode cX3_roundOf 12 = .ok (.iload_n 1, 1) := by decide +kernel
theorem dX3_roundOf_13 : decode cX3_roundOf 13 = .ok (.iaload, 1) := by decide +kernel
theorem dX3_roundOf_14 : decode cX3_roundOf 14 = .ok (.goto 5, 3) := by decide +kernel
theorem dX3_roundOf_17 : decode cX3_roundOf 17 = .ok (.ldc 49, 2) := by decide +kernel
theorem dX3_roundOf_19 : decode cX3_roundOf 19 = .ok (.ireturn, 1) := by decide +kernel
theorem dX3_keyOf_0 : decode cX3_keyOf 0 = .ok (.aload_n 0, 1) := by decide +kernel
theorem dX3_keyOf_1 : decode cX3_keyOf 1 = .ok (.iload_n 1, 1) := by decide +kernel
theorem dX3_keyOf_2 : decode cX3_keyOf 2 = .ok (.invokevirtual 45, 3) := by decide +kernel
theorem dX3_keyOf_5 : decode cX3_keyOf 5 = .ok (.ifCond .eq 12, 3) := by decide +kernel
theorem dX3_keyOf_8 : decode cX3_keyOf 8 = .ok (.aload_n 0, 1) := by decide +kernel
theorem dX3_keyOf_9 : decode cX3_keyOf 9 = .ok (.getfield 23, 3) := by decide +kernel
theorem dX3_keyOf_12 : decode cX3_keyOf 12 = .ok (.iload_n 1, 1) := by decide +kernel
theorem dX3_keyOf_13 : decode cX3_keyOf 13 = .ok (.iaload, 1) := by decide +kernel
theorem dX3_keyOf_14 : decode cX3_keyOf 14 = .ok (.goto 4, 3) := by decide +kernel
theorem dX3_keyOf_17 : decode cX3_keyOf 17 = .ok (.iconst 0, 1) := by decide +kernel
theorem dX3_keyOf_18 : decode cX3_keyOf 18 = .ok (.ireturn, 1) := by decide +kernel
theorem dX3_tagOf_0 : decode cX3_tagOf 0 = .ok (.aload_n 0, 1) := by decide +kernel
theorem dX3_tagOf_1 : decode cX3_tagOf 1 = .ok (.iload_n 1, 1) := by decide +kernel
theorem dX3_tagOf_2 : decode cX3_tagOf 2 = .ok (.invokevirtual 45, 3) := by decide +kernel
theorem dX3_tagOf_5 : decode cX3_tagOf 5 = .ok (.ifCond .eq 12, 3) := by decide +kernel
theorem dX3_tagOf_8 : decode cX3_tagOf 8 = .ok (.aload_n 0, 1) := by decide +kernel
theorem dX3_tagOf_9 : decode cX3_tagOf 9 = .ok (.getfield 26, 3) := by decide +kernel
theorem dX3_tagOf_12 : decode cX3_tagOf 12 = .ok (.iload_n 1, 1) := by decide +kernel
theorem dX3_tagOf_13 : decode cX3_tagOf 13 = .ok (.iaload, 1) := by decide +kernel
theorem dX3_tagOf_14 : decode cX3_tagOf 14 = .ok (.goto 4, 3) := by decide +kernel
theorem dX3_tagOf_17 : decode cX3_tagOf 17 = .ok (.iconst 0, 1) := by decide +kernel
theorem dX3_tagOf_18 : decode cX3_tagOf 18 = .ok (.ireturn, 1) := by decide +kernel
theorem dX3_beats_0 : decode cX3_beats 0 = .ok (.aload_n 0, 1) := by decide +kernel
theorem dX3_beats_1 : decode cX3_beats 1 = .ok (.iload_n 1, 1) := by decide +kernel
theorem dX3_beats_2 : decode cX3_beats 2 = .ok (.invokevirtual 45, 3) := by decide +kernel
theorem dX3_beats_5 : decode cX3_beats 5 = .ok (.ifCond .eq 11, 3) := by decide +kernel
theorem dX3_beats_8 : decode cX3_beats 8 = .ok (.aload_n 0, 1) := by decide +kernel
theorem dX3_beats_9 : decode cX3_beats 9 = .ok (.iload_n 2, 1) := by decide +kernel
theorem dX3_beats_10 : decode cX3_beats 10 = .ok (.invokevirtual 45, 3) := by decide +kernel
theorem dX3_beats_13 : decode cX3_beats 13 = .ok (.ifCond .ne 5, 3) := by decide +kernel
theorem dX3_beats_16 : decode cX3_beats 16 = .ok (.iconst 0, 1) := by decide +kernel
theorem dX3_beats_17 : decode cX3_beats 17 = .ok (.ireturn, 1) := by decide +kernel
theorem dX3_beats_18 : decode cX3_beats 18 = .ok (.aload_n 0, 1) := by decide +kernel
theorem dX3_beats_19 : decode cX3_beats 19 = .ok (.getfield 17, 3) := by decide +kernel
theorem dX3_beats_22 : decode cX3_beats 22 = .ok (.iload_n 1, 1) := by decide +kernel
theorem dX3_beats_23 : decode cX3_beats 23 = .ok (.iaload, 1) := by decide +kernel
theorem dX3_beats_24 : decode cX3_beats 24 = .ok (.aload_n 0, 1) := by decide +kernel
theorem dX3_beats_25 : decode cX3_beats 25 = .ok (.getfield 17, 3) := by decide +kernel
theorem dX3_beats_28 : decode cX3_beats 28 = .ok (.iload_n 2, 1) := by decide +kernel
theorem dX3_beats_29 : decode cX3_beats 29 = .ok (.iaload, 1) := by decide +kernel
theorem dX3_beats_30 : decode cX3_beats 30 = .ok (.if_icmp .eq 24, 3) := by decide +kernel
theorem dX3_beats_33 : decode cX3_beats 33 = .ok (.aload_n 0, 1) := by decide +kernel
theorem dX3_beats_34 : decode cX3_beats 34 = .ok (.getfield 17, 3) := by decide +kernel
theorem dX3_beats_37 : decode cX3_beats 37 = .ok (.iload_n 1, 1) := by decide +kernel
theorem dX3_beats_38 : decode cX3_beats 38 = .ok (.iaload, 1) := by decide +kernel
theorem dX3_beats_39 : decode cX3_beats 39 = .ok (.aload_n 0, 1) := by decide +kernel
theorem dX3_beats_40 : decode cX3_beats 40 = .ok (.getfield 17, 3) := by decide +kernel
theorem dX3_beats_43 : decode cX3_beats 43 = .ok (.iload_n 2, 1) := by decide +kernel
theorem dX3_beats_44 : decode cX3_beats 44 = .ok (.iaload, 1) := by decide +kernel
theorem dX3_beats_45 : decode cX3_beats 45 = .ok (.if_icmp .ge 7, 3) := by decide +kernel
theorem dX3_beats_48 : decode cX3_beats 48 = .ok (.iconst 1, 1) := by decide +kernel
theorem dX3_beats_49 : decode cX3_beats 49 = .ok (.goto 4, 3) := by decide +kernel
theorem dX3_beats_52 : decode cX3_beats 52 = .ok (.iconst 0, 1) := by decide +kernel
theorem dX3_beats_53 : decode cX3_beats 53 = .ok (.ireturn, 1) := by decide +kernel
theorem dX3_beats_54 : decode cX3_beats 54 = .ok (.aload_n 0, 1) := by decide +kernel
theorem dX3_beats_55 : decode cX3_beats 55 = .ok (.getfield 42, 3) := by decide +kernel
theorem dX3_beats_58 : decode cX3_beats 58 = .ok (.aload_n 0, 1) := by decide +kernel
theorem dX3_beats_59 : decode cX3_beats 59 = .ok (.getfield 23, 3) := by decide +kernel
theorem dX3_beats_62 : decode cX3_beats 62 = .ok (.iload_n 1, 1) := by decide +kernel
theorem dX3_beats_63 : decode cX3_beats 63 = .ok (.iaload, 1) := by decide +kernel
