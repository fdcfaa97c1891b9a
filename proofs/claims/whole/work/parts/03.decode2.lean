theorem dX3_beats_64 : decode cX3_beats 64 = .ok (.aload_n 0, 1) := by decide +kernel
theorem dX3_beats_65 : decode cX3_beats 65 = .ok (.getfield 26, 3) := by decide +kernel
theorem dX3_beats_68 : decode cX3_beats 68 = .ok (.iload_n 1, 1) := by decide +kernel
theorem dX3_beats_69 : decode cX3_beats 69 = .ok (.iaload, 1) := by decide +kernel
theorem dX3_beats_70 : decode cX3_beats 70 = .ok (.aload_n 0, 1) := by decide +kernel
theorem dX3_beats_71 : decode cX3_beats 71 = .ok (.getfield 23, 3) := by decide +kernel
theorem dX3_beats_74 : decode cX3_beats 74 = .ok (.iload_n 2, 1) := by decide +kernel
theorem dX3_beats_75 : decode cX3_beats 75 = .ok (.iaload, 1) := by decide +kernel
theorem dX3_beats_76 : decode cX3_beats 76 = .ok (.aload_n 0, 1) := by decide +kernel
theorem dX3_beats_77 : decode cX3_beats 77 = .ok (.getfield 26, 3) := by decide +kernel
theorem dX3_beats_80 : decode cX3_beats 80 = .ok (.iload_n 2, 1) := by decide +kernel
theorem dX3_beats_81 : decode cX3_beats 81 = .ok (.iaload, 1) := by decide +kernel
theorem dX3_beats_82 : decode cX3_beats 82 = .ok (.invokestatic 58, 3) := by decide +kernel
theorem dX3_beats_85 : decode cX3_beats 85 = .ok (.istore_n 3, 1) := by decide +kernel
theorem dX3_beats_86 : decode cX3_beats 86 = .ok (.iload_n 3, 1) := by decide +kernel
theorem dX3_beats_87 : decode cX3_beats 87 = .ok (.ifCond .ne 26, 3) := by decide +kernel
theorem dX3_beats_90 : decode cX3_beats 90 = .ok (.aload_n 0, 1) := by decide +kernel
theorem dX3_beats_91 : decode cX3_beats 91 = .ok (.getfield 29, 3) := by decide +kernel
theorem dX3_beats_94 : decode cX3_beats 94 = .ok (.iload_n 1, 1) := by decide +kernel
theorem dX3_beats_95 : decode cX3_beats 95 = .ok (.iaload, 1) := by decide +kernel
theorem dX3_beats_96 : decode cX3_beats 96 = .ok (.aload_n 0, 1) := by decide +kernel
theorem dX3_beats_97 : decode cX3_beats 97 = .ok (.getfield 29, 3) := by decide +kernel
theorem dX3_beats_100 : decode cX3_beats 100 = .ok (.iload_n 2, 1) := by decide +kernel
theorem dX3_beats_101 : decode cX3_beats 101 = .ok (.iaload, 1) := by decide +kernel
theorem dX3_beats_102 : decode cX3_beats 102 = .ok (.if_icmp .ge 7, 3) := by decide +kernel
theorem dX3_beats_105 : decode cX3_beats 105 = .ok (.iconst 1, 1) := by decide +kernel
theorem dX3_beats_106 : decode cX3_beats 106 = .ok (.goto 16, 3) := by decide +kernel
theorem dX3_beats_109 : decode cX3_beats 109 = .ok (.iconst 0, 1) := by decide +kernel
theorem dX3_beats_110 : decode cX3_beats 110 = .ok (.goto 12, 3) := by decide +kernel
theorem dX3_beats_113 : decode cX3_beats 113 = .ok (.iload_n 3, 1) := by decide +kernel
theorem dX3_beats_114 : decode cX3_beats 114 = .ok (.ifCond .ge 7, 3) := by decide +kernel
theorem dX3_beats_117 : decode cX3_beats 117 = .ok (.iconst 1, 1) := by decide +kernel
theorem dX3_beats_118 : decode cX3_beats 118 = .ok (.goto 4, 3) := by decide +kernel
theorem dX3_beats_121 : decode cX3_beats 121 = .ok (.iconst 0, 1) := by decide +kernel
theorem dX3_beats_122 : decode cX3_beats 122 = .ok (.ireturn, 1) := by decide +kernel
theorem dX3_isLeaf_0 : decode cX3_isLeaf 0 = .ok (.iload_n 1, 1) := by decide +kernel
theorem dX3_isLeaf_1 : decode cX3_isLeaf 1 = .ok (.ifCond .lt 15, 3) := by decide +kernel
theorem dX3_isLeaf_4 : decode cX3_isLeaf 4 = .ok (.iload_n 1, 1) := by decide +kernel
theorem dX3_isLeaf_5 : decode cX3_isLeaf 5 = .ok (.aload_n 0, 1) := by decide +kernel
theorem dX3_isLeaf_6 : decode cX3_isLeaf 6 = .ok (.getfield 38, 3) := by decide +kernel
theorem dX3_isLeaf_9 : decode cX3_isLeaf 9 = .ok (.if_icmp .ge 7, 3) := by decide +kernel
theorem dX3_isLeaf_12 : decode cX3_isLeaf 12 = .ok (.iconst 1, 1) := by decide +kernel
theorem dX3_isLeaf_13 : decode cX3_isLeaf 13 = .ok (.goto 4, 3) := by decide +kernel
theorem dX3_isLeaf_16 : decode cX3_isLeaf 16 = .ok (.iconst 0, 1) := by decide +kernel
theorem dX3_isLeaf_17 : decode cX3_isLeaf 17 = .ok (.ireturn, 1) := by decide +kernel
theorem dX4_init_0 : decode cX4_init 0 = .ok (.aload_n 0, 1) := by decide +kernel
theorem dX4_init_1 : decode cX4_init 1 = .ok (.invokespecial 3, 3) := by decide +kernel
theorem dX4_init_4 : decode cX4_init 4 = .ok (.aload_n 0, 1) := by decide +kernel
theorem dX4_init_5 : decode cX4_init 5 = .ok (.aload_n 1, 1) := by decide +kernel
theorem dX4_init_6 : decode cX4_init 6 = .ok (.putfield 9, 3) := by decide +kernel
theorem dX4_init_9 : decode cX4_init 9 = .ok (.aload_n 0, 1) := by decide +kernel
theorem dX4_init_10 : decode cX4_init 10 = .ok (.aload_n 1, 1) := by decide +kernel
theorem dX4_init_11 : decode cX4_init 11 = .ok (.getfield 15, 3) := by decide +kernel
theorem dX4_init_14 : decode cX4_init 14 = .ok (.newarray .int, 2) := by decide +kernel
theorem dX4_init_16 : decode cX4_init 16 = .ok (.putfield 21, 3) := by decide +kernel
theorem dX4_init_19 : decode cX4_init 19 = .ok (.aload_n 0, 1) := by decide +kernel
theorem dX4_init_20 : decode cX4_init 20 = .ok (.aload_n 1, 1) := by decide +kernel
theorem dX4_init_21 : decode cX4_init 21 = .ok (.getfield 15, 3) := by decide +kernel
theorem dX4_init_24 : decode cX4_init 24 = .ok (.newarray .int, 2) := by decide +kernel
theorem dX4_init_26 : decode cX4_init 26 = .ok (.putfield 25, 3) := by decide +kernel
theorem dX4_init_29 : decode cX4_init 29 = .ok (.return_, 1) := by decide +kernel
theorem dX4_open_0 : decode cX4_open 0 = .ok (.aload_n 0, 1) := by decide +kernel
theorem dX4_open_1 : decode cX4_open 1 = .ok (.iload_n 1, 1) := by decide +kernel
theorem dX4_open_2 : decode cX4_open 2 = .ok (.putfield 28, 3) := by decide +kernel
theorem dX4_open_5 : decode cX4_open 5 = .ok (.aload_n 0, 1) := by decide +kernel
theorem dX4_open_6 : decode cX4_open 6 = .ok (.iconst (-1), 1) := by decide +kernel
theorem dX4_open_7 : decode cX4_open 7 = .ok (.putfield 32, 3) := by decide +kernel
theorem dX4_open_10 : decode cX4_open 10 = .ok (.aload_n 0, 1) := by decide +kernel
theorem dX4_open_11 : decode cX4_open 11 = .ok (.iconst (-1), 1) := by decide +kernel
theorem dX4_open_12 : decode cX4_open 12 = .ok (.putfield 35, 3) := by decide +kernel
theorem dX4_open_15 : decode cX4_open 15 = .ok (.aload_n 0, 1) := by decide +kernel
theorem dX4_open_16 : decode cX4_open 16 = .ok (.iconst 0, 1) := by decide +kernel
theorem dX4_open_17 : decode cX4_open 17 = .ok (.putfield 38, 3) := by decide +kernel
theorem dX4_open_20 : decode cX4_open 20 = .ok (.aload_n 0, 1) := by decide +kernel
theorem dX4_open_21 : decode cX4_open 21 = .ok (.iconst 0, 1) := by decide +kernel
theorem dX4_open_22 : decode cX4_open 22 = .ok (.putfield 41, 3) := by decide +kernel
theorem dX4_open_25 : decode cX4_open 25 = .ok (.return_, 1) := by decide +kernel
theorem dX4_put_0 : decode cX4_put 0 = .ok (.aload_n 0, 1) := by decide +kernel
theorem dX4_put_1 : decode cX4_put 1 = .ok (.getfield 28, 3) := by decide +kernel
theorem dX4_put_4 : decode cX4_put 4 = .ok (.ifCond .eq 28, 3) := by decide +kernel
theorem dX4_put_7 : decode cX4_put 7 = .ok (.aload_n 0, 1) := by decide +kernel
theorem dX4_put_8 : decode cX4_put 8 = .ok (.getfield 38, 3) := by decide +kernel
theorem dX4_put_11 : decode cX4_put 11 = .ok (.ifCond .le 21, 3) := by decide +kernel
theorem dX4_put_14 : decode cX4_put 14 = .ok (.iload_n 1, 1) := by decide +kernel
theorem dX4_put_15 : decode cX4_put 15 = .ok (.aload_n 0, 1) := by decide +kernel
theorem dX4_put_16 : decode cX4_put 16 = .ok (.getfield 44, 3) := by decide +kernel
theorem dX4_put_19 : decode cX4_put 19 = .ok (.if_icmp .ne 13, 3) := by decide +kernel
theorem dX4_put_22 : decode cX4_put 22 = .ok (.iload_n 2, 1) := by decide +kernel
theorem dX4_put_23 : decode cX4_put 23 = .ok (.aload_n 0, 1) := by decide +kernel
theorem dX4_put_24 : decode cX4_put 24 = .ok (.getfield 47, 3) := by decide +kernel
theorem dX4_put_27 : decode cX4_put 27 = .ok (.if_icmp .ne 5, 3) := by decide +kernel
theorem dX4_put_30 : decode cX4_put 30 = .ok (.iconst 1, 1) := by decide +kernel
theorem dX4_put_31 : decode cX4_put 31 = .ok (.ireturn, 1) := by decide +kernel
theorem dX4_put_32 : decode cX4_put 32 = .ok (.aload_n 0, 1) := by decide +kernel
theorem dX4_put_33 : decode cX4_put 33 = .ok (.getfield 41, 3) := by decide +kernel
theorem dX4_put_36 : decode cX4_put 36 = .ok (.ifCond .lt 45, 3) := by decide +kernel
theorem dX4_put_39 : decode cX4_put 39 = .ok (.aload_n 0, 1) := by decide +kernel
theorem dX4_put_40 : decode cX4_put 40 = .ok (.getfield 41, 3) := by decide +kernel
theorem dX4_put_43 : decode cX4_put 43 = .ok (.aload_n 0, 1) := by decide +kernel
theorem dX4_put_44 : decode cX4_put 44 = .ok (.getfield 21, 3) := by decide +kernel
theorem dX4_put_47 : decode cX4_put 47 = .ok (.arraylength, 1) := by decide +kernel
theorem dX4_put_48 : decode cX4_put 48 = .ok (.if_icmp .ge 33, 3) := by decide +kernel
theorem dX4_put_51 : decode cX4_put 51 = .ok (.aload_n 0, 1) := by decide +kernel
theorem dX4_put_52 : decode cX4_put 52 = .ok (.getfield 21, 3) := by decide +kernel
theorem dX4_put_55 : decode cX4_put 55 = .ok (.aload_n 0, 1) := by decide +kernel
theorem dX4_put_56 : decode cX4_put 56 = .ok (.getfield 41, 3) := by decide +kernel
theorem dX4_put_59 : decode cX4_put 59 = .ok (.iload_n 1, 1) := by decide +kernel
theorem dX4_put_60 : decode cX4_put 60 = .ok (.iastore, 1) := by decide +kernel
theorem dX4_put_61 : decode cX4_put 61 = .ok (.aload_n 0, 1) := by decide +kernel
theorem dX4_put_62 : decode cX4_put 62 = .ok (.getfield 25, 3) := by decide +kernel
theorem dX4_put_65 : decode cX4_put 65 = .ok (.aload_n 0, 1) := by decide +kernel
theorem dX4_put_66 : decode cX4_put 66 = .ok (.getfield 41, 3) := by decide +kernel
theorem dX4_put_69 : decode cX4_put 69 = .ok (.iload_n 2, 1) := by decide +kernel
theorem dX4_put_70 : decode cX4_put 70 = .ok (.iastore, 1) := by decide +kernel
theorem dX4_put_71 : decode cX4_put 71 = .ok (.aload_n 0, 1) := by decide +kernel
theorem dX4_put_72 : decode cX4_put 72 = .ok (.dup, 1) := by decide +kernel
theorem dX4_put_73 : decode cX4_put 73 = .ok (.getfield 41, 3) := by decide +kernel
theorem dX4_put_76 : decode cX4_put 76 = .ok (.iconst 1, 1) := by decide +kernel
theorem dX4_put_77 : decode cX4_put 77 = .ok (.iadd, 1) := by decide +kernel
theorem dX4_put_78 : decode cX4_put 78 = .ok (.putfield 41, 3) := by decide +kernel
theorem dX4_put_81 : decode cX4_put 81 = .ok (.aload_n 0, 1) := by decide +kernel
theorem dX4_put_82 : decode cX4_put 82 = .ok (.iload_n 1, 1) := by decide +kernel
theorem dX4_put_83 : decode cX4_put 83 = .ok (.putfield 44, 3) := by decide +kernel
theorem dX4_put_86 : decode cX4_put 86 = .ok (.aload_n 0, 1) := by decide +kernel
theorem dX4_put_87 : decode cX4_put 87 = .ok (.iload_n 2, 1) := by decide +kernel
theorem dX4_put_88 : decode cX4_put 88 = .ok (.putfield 47, 3) := by decide +kernel
theorem dX4_put_91 : decode cX4_put 91 = .ok (.aload_n 0, 1) := by decide +kernel
theorem dX4_put_92 : decode cX4_put 92 = .ok (.dup, 1) := by decide +kernel
theorem dX4_put_93 : decode cX4_put 93 = .ok (.getfield 38, 3) := by decide +kernel
theorem dX4_put_96 : decode cX4_put 96 = .ok (.iconst 1, 1) := by decide +kernel
theorem dX4_put_97 : decode cX4_put 97 = .ok (.iadd, 1) := by decide +kernel
theorem dX4_put_98 : decode cX4_put 98 = .ok (.putfield 38, 3) := by decide +kernel
theorem dX4_put_101 : decode cX4_put 101 = .ok (.aload_n 0, 1) := by decide +kernel
theorem dX4_put_102 : decode cX4_put 102 = .ok (.getfield 41, 3) := by decide +kernel
theorem dX4_put_105 : decode cX4_put 105 = .ok (.aload_n 0, 1) := by decide +kernel
theorem dX4_put_106 : decode cX4_put 106 = .ok (.getfield 21, 3) := by decide +kernel
theorem dX4_put_109 : decode cX4_put 109 = .ok (.arraylength, 1) := by decide +kernel
theorem dX4_put_110 : decode cX4_put 110 = .ok (.if_icmp .lt 10, 3) := by decide +kernel
theorem dX4_put_113 : decode cX4_put 113 = .ok (.aload_n 0, 1) := by decide +kernel
theorem dX4_put_114 : decode cX4_put 114 = .ok (.invokevirtual 50, 3) := by decide +kernel
theorem dX4_put_117 : decode cX4_put 117 = .ok (.ifCond .eq 7, 3) := by decide +kernel
theorem dX4_put_120 : decode cX4_put 120 = .ok (.iconst 1, 1) := by decide +kernel
theorem dX4_put_121 : decode cX4_put 121 = .ok (.goto 4, 3) := by decide +kernel
theorem dX4_put_124 : decode cX4_put 124 = .ok (.iconst 0, 1) := by decide +kernel
theorem dX4_put_125 : decode cX4_put 125 = .ok (.ireturn, 1) := by decide +kernel
theorem dX4_close_0 : decode cX4_close 0 = .ok (.aload_n 0, 1) := by decide +kernel
theorem dX4_close_1 : decode cX4_close 1 = .ok (.getfield 41, 3) := by decide +kernel
theorem dX4_close_4 : decode cX4_close 4 = .ok (.ifCond .eq 10, 3) := by decide +kernel
theorem dX4_close_7 : decode cX4_close 7 = .ok (.aload_n 0, 1) := by decide +kernel
theorem dX4_close_8 : decode cX4_close 8 = .ok (.invokevirtual 50, 3) := by decide +kernel
theorem dX4_close_11 : decode cX4_close 11 = .ok (.ifCond .eq 7, 3) := by decide +kernel
theorem dX4_close_14 : decode cX4_close 14 = .ok (.iconst 1, 1) := by decide +kernel
theorem dX4_close_15 : decode cX4_close 15 = .ok (.goto 4, 3) := by decide +kernel
theorem dX4_close_18 : decode cX4_close 18 = .ok (.iconst 0, 1) := by decide +kernel
theorem dX4_close_19 : decode cX4_close 19 = .ok (.ireturn, 1) := by decide +kernel
theorem dX4_writePage_0 : decode cX4_writePage 0 = .ok (.aload_n 0, 1) := by decide +kernel
theorem dX4_writePage_1 : decode cX4_writePage 1 = .ok (.getfield 9, 3) := by decide +kernel
theorem dX4_writePage_4 : decode cX4_writePage 4 = .ok (.bipush 6, 2) := by decide +kernel
theorem dX4_writePage_6 : decode cX4_writePage 6 = .ok (.invokevirtual 54, 3) := by decide +kernel
theorem dX4_writePage_9 : decode cX4_writePage 9 = .ok (.istore_n 1, 1) := by decide +kernel
theorem dX4_writePage_10 : decode cX4_writePage 10 = .ok (.iload_n 1, 1) := by decide +kernel
theorem dX4_writePage_11 : decode cX4_writePage 11 = .ok (.iconst (-1), 1) := by decide +kernel
theorem dX4_writePage_12 : decode cX4_writePage 12 = .ok (.if_icmp .ne 5, 3) := by decide +kernel
theorem dX4_writePage_15 : decode cX4_writePage 15 = .ok (.iconst 0, 1) := by decide +kernel
theorem dX4_writePage_16 : decode cX4_writePage 16 = .ok (.ireturn, 1) := by decide +kernel
theorem dX4_writePage_17 : decode cX4_writePage 17 = .ok (.iconst 0, 1) := by decide +kernel
theorem dX4_writePage_18 : decode cX4_writePage 18 = .ok (.istore_n 2, 1) := by decide +kernel
theorem dX4_writePage_19 : decode cX4_writePage 19 = .ok (.iload_n 2, 1) := by decide +kernel
theorem dX4_writePage_20 : decode cX4_writePage 20 = .ok (.aload_n 0, 1) := by decide +kernel
theorem dX4_writePage_21 : decode cX4_writePage 21 = .ok (.getfield 41, 3) := by decide +kernel
theorem dX4_writePage_24 : decode cX4_writePage 24 = .ok (.if_icmp .ge 39, 3) := by decide +kernel
theorem dX4_writePage_27 : decode cX4_writePage 27 = .ok (.iload_n 2, 1) := by decide +kernel
theorem dX4_writePage_28 : decode cX4_writePage 28 = .ok (.aload_n 0, 1) := by decide +kernel
theorem dX4_writePage_29 : decode cX4_writePage 29 = .ok (.getfield 21, 3) := by decide +kernel
theorem dX4_writePage_32 : decode cX4_writePage 32 = .ok (.arraylength, 1) := by decide +kernel
theorem dX4_writePage_33 : decode cX4_writePage 33 = .ok (.if_icmp .ge 30, 3) := by decide +kernel
theorem dX4_writePage_36 : decode cX4_writePage 36 = .ok (.aload_n 0, 1) := by decide +kernel
theorem dX4_writePage_37 : decode cX4_writePage 37 = .ok (.getfield 9, 3) := by decide +kernel
theorem dX4_writePage_40 : decode cX4_writePage 40 = .ok (.iload_n 1, 1) := by decide +kernel
theorem dX4_writePage_41 : decode cX4_writePage 41 = .ok (.iload_n 2, 1) := by decide +kernel
theorem dX4_writePage_42 : decode cX4_writePage 42 = .ok (.aload_n 0, 1) := by decide +kernel
theorem dX4_writePage_43 : decode cX4_writePage 43 = .ok (.getfield 21, 3) := by decide +kernel
theorem dX4_writePage_46 : decode cX4_writePage 46 = .ok (.iload_n 2, 1) := by decide +kernel
theorem dX4_writePage_47 : decode cX4_writePage 47 = .ok (.iaload, 1) := by decide +kernel
theorem dX4_writePage_48 : decode cX4_writePage 48 = .ok (.aload_n 0, 1) := by decide +kernel
theorem dX4_writePage_49 : decode cX4_writePage 49 = .ok (.getfield 25, 3) := by decide +kernel
theorem dX4_writePage_52 : decode cX4_writePage 52 = .ok (.iload_n 2, 1) := by decide +kernel
theorem dX4_writePage_53 : decode cX4_writePage 53 = .ok (.iaload, 1) := by decide +kernel
theorem dX4_writePage_54 : decode cX4_writePage 54 = .ok (.invokevirtual 58, 3) := by decide +kernel
theorem dX4_writePage_57 : decode cX4_writePage 57 = .ok (.iinc 2 1, 3) := by decide +kernel
theorem dX4_writePage_60 : decode cX4_writePage 60 = .ok (.goto (-41), 3) := by decide +kernel
theorem dX4_writePage_63 : decode cX4_writePage 63 = .ok (.aload_n 0, 1) := by decide +kernel
theorem dX4_writePage_64 : decode cX4_writePage 64 = .ok (.getfield 35, 3) := by decide +kernel
theorem dX4_writePage_67 : decode cX4_writePage 67 = .ok (.iconst (-1), 1) := by decide +kernel
theorem dX4_writePage_68 : decode cX4_writePage 68 = .ok (.if_icmp .ne 11, 3) := by decide +kernel
theorem dX4_writePage_71 : decode cX4_writePage 71 = .ok (.aload_n 0, 1) := by decide +kernel
theorem dX4_writePage_72 : decode cX4_writePage 72 = .ok (.iload_n 1, 1) := by decide +kernel
theorem dX4_writePage_73 : decode cX4_writePage 73 = .ok (.putfield 32, 3) := by decide +kernel
theorem dX4_writePage_76 : decode cX4_writePage 76 = .ok (.goto 15, 3) := by decide +kernel
theorem dX4_writePage_79 : decode cX4_writePage 79 = .ok (.aload_n 0, 1) := by decide +kernel
theorem dX4_writePage_80 : decode cX4_writePage 80 = .ok (.getfield 9, 3) := by decide +kernel
theorem dX4_writePage_83 : decode cX4_writePage 83 = .ok (.aload_n 0, 1) := by decide +kernel
theorem dX4_writePage_84 : decode cX4_writePage 84 = .ok (.getfield 35, 3) := by decide +kernel
theorem dX4_writePage_87 : decode cX4_writePage 87 = .ok (.iload_n 1, 1) := by decide +kernel
theorem dX4_writePage_88 : decode cX4_writePage 88 = .ok (.invokevirtual 62, 3) := by decide +kernel
theorem dX4_writePage_91 : decode cX4_writePage 91 = .ok (.aload_n 0, 1) := by decide +kernel
theorem dX4_writePage_92 : decode cX4_writePage 92 = .ok (.iload_n 1, 1) := by decide +kernel
theorem dX4_writePage_93 : decode cX4_writePage 93 = .ok (.putfield 35, 3) := by decide +kernel
theorem dX4_writePage_96 : decode cX4_writePage 96 = .ok (.aload_n 0, 1) := by decide +kernel
theorem dX4_writePage_97 : decode cX4_writePage 97 = .ok (.iconst 0, 1) := by decide +kernel
theorem dX4_writePage_98 : decode cX4_writePage 98 = .ok (.putfield 41, 3) := by decide +kernel
theorem dX4_writePage_101 : decode cX4_writePage 101 = .ok (.aload_n 0, 1) := by decide +kernel
theorem dX4_writePage_102 : decode cX4_writePage 102 = .ok (.getfield 9, 3) := by decide +kernel
theorem dX4_writePage_105 : decode cX4_writePage 105 = .ok (.getfield 66, 3) := by decide +kernel
theorem dX4_writePage_108 : decode cX4_writePage 108 = .ok (.dup, 1) := by decide +kernel
theorem dX4_writePage_109 : decode cX4_writePage 109 = .ok (.getfield 70, 3) := by decide +kernel
theorem dX4_writePage_112 : decode cX4_writePage 112 = .ok (.iconst 1, 1) := by decide +kernel
theorem dX4_writePage_113 : decode cX4_writePage 113 = .ok (.iadd, 1) := by decide +kernel
theorem dX4_writePage_114 : decode cX4_writePage 114 = .ok (.putfield 70, 3) := by decide +kernel
theorem dX4_writePage_117 : decode cX4_writePage 117 = .ok (.iconst 1, 1) := by decide +kernel
theorem dX4_writePage_118 : decode cX4_writePage 118 = .ok (.ireturn, 1) := by decide +kernel
theorem dX5_init_0 : decode cX5_init 0 = .ok (.aload_n 0, 1) := by decide +kernel
theorem dX5_init_1 : decode cX5_init 1 = .ok (.invokespecial 3, 3) := by decide +kernel
theorem dX5_init_4 : decode cX5_init 4 = .ok (.aload_n 0, 1) := by decide +kernel
theorem dX5_init_5 : decode cX5_init 5 = .ok (.aload_n 1, 1) := by decide +kernel
theorem dX5_init_6 : decode cX5_init 6 = .ok (.putfield 9, 3) := by decide +kernel
theorem dX5_init_9 : decode cX5_init 9 = .ok (.aload_n 0, 1) := by decide +kernel
theorem dX5_init_10 : decode cX5_init 10 = .ok (.aload_n 2, 1) := by decide +kernel
theorem dX5_init_11 : decode cX5_init 11 = .ok (.putfield 15, 3) := by decide +kernel
theorem dX5_init_14 : decode cX5_init 14 = .ok (.aload_n 0, 1) := by decide +kernel
theorem dX5_init_15 : decode cX5_init 15 = .ok (.new 19, 3) := by decide +kernel
theorem dX5_init_18 : decode cX5_init 18 = .ok (.dup, 1) := by decide +kernel
theorem dX5_init_19 : decode cX5_init 19 = .ok (.aload_n 1, 1) := by decide +kernel
theorem dX5_init_20 : decode cX5_init 20 = .ok (.invokespecial 21, 3) := by decide +kernel
theorem dX5_init_23 : decode cX5_init 23 = .ok (.putfield 24, 3) := by decide +kernel
theorem dX5_init_26 : decode cX5_init 26 = .ok (.aload_n 0, 1) := by decide +kernel
theorem dX5_init_27 : decode cX5_init 27 = .ok (.new 28, 3) := by decide +kernel
theorem dX5_init_30 : decode cX5_init 30 = .ok (.dup, 1) := by decide +kernel
theorem dX5_init_31 : decode cX5_init 31 = .ok (.bipush 15, 2) := by decide +kernel
theorem dX5_init_33 : decode cX5_init 33 = .ok (.bipush 14, 2) := by decide +kernel
theorem dX5_init_35 : decode cX5_init 35 = .ok (.aload_n 1, 1) := by decide +kernel
theorem dX5_init_36 : decode cX5_init 36 = .ok (.getfield 30, 3) := by decide +kernel
theorem dX5_init_39 : decode cX5_init 39 = .ok (.imul, 1) := by decide +kernel
theorem dX5_init_40 : decode cX5_init 40 = .ok (.invokestatic 36, 3) := by decide +kernel
theorem dX5_init_43 : decode cX5_init 43 = .ok (.invokespecial 42, 3) := by decide +kernel
theorem dX5_init_46 : decode cX5_init 46 = .ok (.putfield 45, 3) := by decide +kernel
theorem dX5_init_49 : decode cX5_init 49 = .ok (.aload_n 0, 1) := by decide +kernel
theorem dX5_init_50 : decode cX5_init 50 = .ok (.aload_n 1, 1) := by decide +kernel
theorem dX5_init_51 : decode cX5_init 51 = .ok (.getfield 49, 3) := by decide +kernel
theorem dX5_init_54 : decode cX5_init 54 = .ok (.newarray .int, 2) := by decide +kernel
theorem dX5_init_56 : decode cX5_init 56 = .ok (.putfield 52, 3) := by decide +kernel
theorem dX5_init_59 : decode cX5_init 59 = .ok (.aload_n 0, 1) := by decide +kernel
theorem dX5_init_60 : decode cX5_init 60 = .ok (.aload_n 1, 1) := by decide +kernel
theorem dX5_init_61 : decode cX5_init 61 = .ok (.getfield 49, 3) := by decide +kernel
theorem dX5_init_64 : decode cX5_init 64 = .ok (.newarray .int, 2) := by decide +kernel
theorem dX5_init_66 : decode cX5_init 66 = .ok (.putfield 56, 3) := by decide +kernel
theorem dX5_init_69 : decode cX5_init 69 = .ok (.return_, 1) := by decide +kernel
theorem dX5_prepare_0 : decode cX5_prepare 0 = .ok (.aload_n 0, 1) := by decide +kernel
theorem dX5_prepare_1 : decode cX5_prepare 1 = .ok (.iload_n 1, 1) := by decide +kernel
theorem dX5_prepare_2 : decode cX5_prepare 2 = .ok (.putfield 59, 3) := by decide +kernel
theorem dX5_prepare_5 : decode cX5_prepare 5 = .ok (.aload_n 0, 1) := by decide +kernel
theorem dX5_prepare_6 : decode cX5_prepare 6 = .ok (.iload_n 2, 1) := by decide +kernel
theorem dX5_prepare_7 : decode cX5_prepare 7 = .ok (.putfield 62, 3) := by decide +kernel
theorem dX5_prepare_10 : decode cX5_prepare 10 = .ok (.aload_n 0, 1) := by decide +kernel
theorem dX5_prepare_11 : decode cX5_prepare 11 = .ok (.iload_n 3, 1) := by decide +kernel
theorem dX5_prepare_12 : decode cX5_prepare 12 = .ok (.putfield 65, 3) := by decide +kernel
theorem dX5_prepare_15 : decode cX5_prepare 15 = .ok (.return_, 1) := by decide +kernel
theorem dX5_room_0 : decode cX5_room 0 = .ok (.aload_n 0, 1) := by decide +kernel
theorem dX5_room_1 : decode cX5_room 1 = .ok (.getfield 59, 3) := by decide +kernel
theorem dX5_room_4 : decode cX5_room 4 = .ok (.iconst 2, 1) := by decide +kernel
theorem dX5_room_5 : decode cX5_room 5 = .ok (.isub, 1) := by decide +kernel
theorem dX5_room_6 : decode cX5_room 6 = .ok (.aload_n 0, 1) := by decide +kernel
theorem dX5_room_7 : decode cX5_room 7 = .ok (.getfield 9, 3) := by decide +kernel
theorem dX5_room_10 : decode cX5_room 10 = .ok (.getfield 30, 3) := by decide +kernel
theorem dX5_room_13 : decode cX5_room 13 = .ok (.imul, 1) := by decide +kernel
theorem dX5_room_14 : decode cX5_room 14 = .ok (.ireturn, 1) := by decide +kernel
theorem dX5_arrange_0 : decode cX5_arrange 0 = .ok (.aload_n 0, 1) := by decide +kernel
theorem dX5_arrange_1 : decode cX5_arrange 1 = .ok (.iconst 0, 1) := by decide +kernel
theorem dX5_arrange_2 : decode cX5_arrange 2 = .ok (.putfield 69, 3) := by decide +kernel
theorem dX5_arrange_5 : decode cX5_arrange 5 = .ok (.aload_n 0, 1) := by decide +kernel
theorem dX5_arrange_6 : decode cX5_arrange 6 = .ok (.iload_n 1, 1) := by decide +kernel
theorem dX5_arrange_7 : decode cX5_arrange 7 = .ok (.iload_n 2, 1) := by decide +kernel
theorem dX5_arrange_8 : decode cX5_arrange 8 = .ok (.invokevirtual 72, 3) := by decide +kernel
theorem dX5_arrange_11 : decode cX5_arrange 11 = .ok (.ifCond .ne 5, 3) := by decide +kernel
theorem dX5_arrange_14 : decode cX5_arrange 14 = .ok (.iconst 0, 1) := by decide +kernel
theorem dX5_arrange_15 : decode cX5_arrange 15 = .ok (.ireturn, 1) := by decide +kernel
theorem dX5_arrange_16 : decode cX5_arrange 16 = .ok (.iconst 0, 1) := by decide +kernel
theorem dX5_arrange_17 : decode cX5_arrange 17 = .ok (.istore_n 3, 1) := by decide +kernel
theorem dX5_arrange_18 : decode cX5_arrange 18 = .ok (.iload_n 3, 1) := by decide +kernel
theorem dX5_arrange_19 : decode cX5_arrange 19 = .ok (.aload_n 0, 1) := by decide +kernel
theorem dX5_arrange_20 : decode cX5_arrange 20 = .ok (.getfield 52, 3) := by decide +kernel
theorem dX5_arrange_23 : decode cX5_arrange 23 = .ok (.arraylength, 1) := by decide +kernel
theorem dX5_arrange_24 : decode cX5_arrange 24 = .ok (.if_icmp .ge 26, 3) := by decide +kernel
theorem dX5_arrange_27 : decode cX5_arrange 27 = .ok (.aload_n 0, 1) := by decide +kernel
theorem dX5_arrange_28 : decode cX5_arrange 28 = .ok (.getfield 69, 3) := by decide +kernel
theorem dX5_arrange_31 : decode cX5_arrange 31 = .ok (.iconst 1, 1) := by decide +kernel
theorem dX5_arrange_32 : decode cX5_arrange 32 = .ok (.if_icmp .le 18, 3) := by decide +kernel
theorem dX5_arrange_35 : decode cX5_arrange 35 = .ok (.aload_n 0, 1) := by decide +kernel
theorem dX5_arrange_36 : decode cX5_arrange 36 = .ok (.invokevirtual 76, 3) := by decide +kernel
theorem dX5_arrange_39 : decode cX5_arrange 39 = .ok (.ifCond .ne 5, 3) := by decide +kernel
theorem dX5_arrange_42 : decode cX5_arrange 42 = .ok (.iconst 0, 1) := by decide +kernel
theorem dX5_arrange_43 : decode cX5_arrange 43 = .ok (.ireturn, 1) := by decide +kernel
theorem dX5_arrange_44 : decode cX5_arrange 44 = .ok (.iinc 3 1, 3) := by decide +kernel
theorem dX5_arrange_47 : decode cX5_arrange 47 = .ok (.goto (-29), 3) := by decide +kernel
theorem dX5_arrange_50 : decode cX5_arrange 50 = .ok (.aload_n 0, 1) := by decide +kernel
theorem dX5_arrange_51 : decode cX5_arrange 51 = .ok (.aload_n 0, 1) := by decide +kernel
theorem dX5_arrange_52 : decode cX5_arrange 52 = .ok (.getfield 69, 3) := by decide +kernel
theorem dX5_arrange_55 : decode cX5_arrange 55 = .ok (.ifCond .le 12, 3) := by decide +kernel
theorem dX5_arrange_58 : decode cX5_arrange 58 = .ok (.aload_n 0, 1) := by decide +kernel
theorem dX5_arrange_59 : decode cX5_arrange 59 = .ok (.getfield 52, 3) := by decide +kernel
theorem dX5_arrange_62 : decode cX5_arrange 62 = .ok (.iconst 0, 1) := by decide +kernel
theorem dX5_arrange_63 : decode cX5_arrange 63 = .ok (.iaload, 1) := by decide +kernel
theorem dX5_arrange_64 : decode cX5_arrange 64 = .ok (.goto 4, 3) := by decide +kernel
theorem dX5_arrange_67 : decode cX5_arrange 67 = .ok (.iconst (-1), 1) := by decide +kernel
theorem dX5_arrange_68 : decode cX5_arrange 68 = .ok (.putfield 80, 3) := by decide +kernel
theorem dX5_arrange_71 : decode cX5_arrange 71 = .ok (.aload_n 0, 1) := by decide +kernel
theorem dX5_arrange_72 : decode cX5_arrange 72 = .ok (.aload_n 0, 1) := by decide +kernel
theorem dX5_arrange_73 : decode cX5_arrange 73 = .ok (.getfield 69, 3) := by decide +kernel
theorem dX5_arrange_76 : decode cX5_arrange 76 = .ok (.ifCond .le 12, 3) := by decide +kernel
theorem dX5_arrange_79 : decode cX5_arrange 79 = .ok (.aload_n 0, 1) := by decide +kernel
theorem dX5_arrange_80 : decode cX5_arrange 80 = .ok (.getfield 56, 3) := by decide +kernel
theorem dX5_arrange_83 : decode cX5_arrange 83 = .ok (.iconst 0, 1) := by decide +kernel
theorem dX5_arrange_84 : decode cX5_arrange 84 = .ok (.iaload, 1) := by decide +kernel
theorem dX5_arrange_85 : decode cX5_arrange 85 = .ok (.goto 4, 3) := by decide +kernel
theorem dX5_arrange_88 : decode cX5_arrange 88 = .ok (.iconst 0, 1) := by decide +kernel
theorem dX5_arrange_89 : decode cX5_arrange 89 = .ok (.putfield 83, 3) := by decide +kernel
theorem dX5_arrange_92 : decode cX5_arrange 92 = .ok (.iconst 1, 1) := by decide +kernel
theorem dX5_arrange_93 : decode cX5_arrange 93 = .ok (.ireturn, 1) := by decide +kernel
theorem dX5_makeRuns_0 : decode cX5_makeRuns 0 = .ok (.iconst 0, 1) := by decide +kernel
theorem dX5_makeRuns_1 : decode cX5_makeRuns 1 = .ok (.istore_n 3, 1) := by decide +kernel
theorem dX5_makeRuns_2 : decode cX5_makeRuns 2 = .ok (.aload_n 0, 1) := by decide +kernel
theorem dX5_makeRuns_3 : decode cX5_makeRuns 3 = .ok (.iload_n 1, 1) := by decide +kernel
theorem dX5_makeRuns_4 : decode cX5_makeRuns 4 = .ok (.iload_n 2, 1) := by decide +kernel
theorem dX5_makeRuns_5 : decode cX5_makeRuns 5 = .ok (.invokevirtual 86, 3) := by decide +kernel
theorem dX5_makeRuns_8 : decode cX5_makeRuns 8 = .ok (.istore 4, 2) := by decide +kernel
theorem dX5_makeRuns_10 : decode cX5_makeRuns 10 = .ok (.aload_n 0, 1) := by decide +kernel
theorem dX5_makeRuns_11 : decode cX5_makeRuns 11 = .ok (.getfield 45, 3) := by decide +kernel
theorem dX5_makeRuns_14 : decode cX5_makeRuns 14 = .ok (.invokevirtual 89, 3) := by decide +kernel
theorem dX5_makeRuns_17 : decode cX5_makeRuns 17 = .ok (.aload_n 0, 1) := by decide +kernel
theorem dX5_makeRuns_18 : decode cX5_makeRuns 18 = .ok (.getfield 15, 3) := by decide +kernel
theorem dX5_makeRuns_21 : decode cX5_makeRuns 21 = .ok (.aload_n 0, 1) := by decide +kernel
theorem dX5_makeRuns_22 : decode cX5_makeRuns 22 = .ok (.getfield 65, 3) := by decide +kernel
theorem dX5_makeRuns_25 : decode cX5_makeRuns 25 = .ok (.invokevirtual 92, 3) := by decide +kernel
theorem dX5_makeRuns_28 : decode cX5_makeRuns 28 = .ok (.iconst 0, 1) := by decide +kernel
theorem dX5_makeRuns_29 : decode cX5_makeRuns 29 = .ok (.istore 5, 2) := by decide +kernel
theorem dX5_makeRuns_31 : decode cX5_makeRuns 31 = .ok (.iload 5, 2) := by decide +kernel
theorem dX5_makeRuns_33 : decode cX5_makeRuns 33 = .ok (.iload_n 2, 1) := by decide +kernel
theorem dX5_makeRuns_34 : decode cX5_makeRuns 34 = .ok (.if_icmp .ge 105, 3) := by decide +kernel
theorem dX5_makeRuns_37 : decode cX5_makeRuns 37 = .ok (.aload_n 0, 1) := by decide +kernel
theorem dX5_makeRuns_38 : decode cX5_makeRuns 38 = .ok (.getfield 45, 3) := by decide +kernel
theorem dX5_makeRuns_41 : decode cX5_makeRuns 41 = .ok (.invokevirtual 98, 3) := by decide +kernel
theorem dX5_makeRuns_44 : decode cX5_makeRuns 44 = .ok (.istore 6, 2) := by decide +kernel
theorem dX5_makeRuns_46 : decode cX5_makeRuns 46 = .ok (.aload_n 0, 1) := by decide +kernel
theorem dX5_makeRuns_47 : decode cX5_makeRuns 47 = .ok (.getfield 45, 3) := by decide +kernel
theorem dX5_makeRuns_50 : decode cX5_makeRuns 50 = .ok (.iload 6, 2) := by decide +kernel
theorem dX5_makeRuns_52 : decode cX5_makeRuns 52 = .ok (.invokevirtual 102, 3) := by decide +kernel
theorem dX5_makeRuns_55 : decode cX5_makeRuns 55 = .ok (.iload_n 3, 1) := by decide +kernel
theorem dX5_makeRuns_56 : decode cX5_makeRuns 56 = .ok (.if_icmp .eq 26, 3) := by decide +kernel
theorem dX5_makeRuns_59 : decode cX5_makeRuns 59 = .ok (.aload_n 0, 1) := by decide +kernel
theorem dX5_makeRuns_60 : decode cX5_makeRuns 60 = .ok (.invokevirtual 106, 3) := by decide +kernel
theorem dX5_makeRuns_63 : decode cX5_makeRuns 63 = .ok (.ifCond .ne 5, 3) := by decide +kernel
theorem dX5_makeRuns_66 : decode cX5_makeRuns 66 = .ok (.iconst 0, 1) := by decide +kernel
theorem dX5_makeRuns_67 : decode cX5_makeRuns 67 = .ok (.ireturn, 1) := by decide +kernel
theorem dX5_makeRuns_68 : decode cX5_makeRuns 68 = .ok (.iinc 3 1, 3) := by decide +kernel
theorem dX5_makeRuns_71 : decode cX5_makeRuns 71 = .ok (.aload_n 0, 1) := by decide +kernel
theorem dX5_makeRuns_72 : decode cX5_makeRuns 72 = .ok (.getfield 15, 3) := by decide +kernel
theorem dX5_makeRuns_75 : decode cX5_makeRuns 75 = .ok (.aload_n 0, 1) := by decide +kernel
theorem dX5_makeRuns_76 : decode cX5_makeRuns 76 = .ok (.getfield 65, 3) := by decide +kernel
theorem dX5_makeRuns_79 : decode cX5_makeRuns 79 = .ok (.invokevirtual 92, 3) := by decide +kernel
theorem dX5_makeRuns_82 : decode cX5_makeRuns 82 = .ok (.aload_n 0, 1) := by decide +kernel
theorem dX5_makeRuns_83 : decode cX5_makeRuns 83 = .ok (.getfield 15, 3) := by decide +kernel
theorem dX5_makeRuns_86 : decode cX5_makeRuns 86 = .ok (.aload_n 0, 1) := by decide +kernel
theorem dX5_makeRuns_87 : decode cX5_makeRuns 87 = .ok (.getfield 45, 3) := by decide +kernel
theorem dX5_makeRuns_90 : decode cX5_makeRuns 90 = .ok (.iload 6, 2) := by decide +kernel
theorem dX5_makeRuns_92 : decode cX5_makeRuns 92 = .ok (.invokevirtual 109, 3) := by decide +kernel
theorem dX5_makeRuns_95 : decode cX5_makeRuns 95 = .ok (.aload_n 0, 1) := by decide +kernel
theorem dX5_makeRuns_96 : decode cX5_makeRuns 96 = .ok (.getfield 45, 3) := by decide +kernel
theorem dX5_makeRuns_99 : decode cX5_makeRuns 99 = .ok (.iload 6, 2) := by decide +kernel
theorem dX5_makeRuns_101 : decode cX5_makeRuns 101 = .ok (.invokevirtual 112, 3) := by decide +kernel
theorem dX5_makeRuns_104 : decode cX5_makeRuns 104 = .ok (.invokevirtual 115, 3) := by decide +kernel
theorem dX5_makeRuns_107 : decode cX5_makeRuns 107 = .ok (.ifCond .ne 5, 3) := by decide +kernel
theorem dX5_makeRuns_110 : decode cX5_makeRuns 110 = .ok (.iconst 0, 1) := by decide +kernel
theorem dX5_makeRuns_111 : decode cX5_makeRuns 111 = .ok (.ireturn, 1) := by decide +kernel
theorem dX5_makeRuns_112 : decode cX5_makeRuns 112 = .ok (.aload_n 0, 1) := by decide +kernel
theorem dX5_makeRuns_113 : decode cX5_makeRuns 113 = .ok (.iload 6, 2) := by decide +kernel
theorem dX5_makeRuns_115 : decode cX5_makeRuns 115 = .ok (.iload_n 3, 1) := by decide +kernel
theorem dX5_makeRuns_116 : decode cX5_makeRuns 116 = .ok (.iload 4, 2) := by decide +kernel
theorem dX5_makeRuns_118 : decode cX5_makeRuns 118 = .ok (.iload 5, 2) := by decide +kernel
theorem dX5_makeRuns_120 : decode cX5_makeRuns 120 = .ok (.iadd, 1) := by decide +kernel
theorem dX5_makeRuns_121 : decode cX5_makeRuns 121 = .ok (.invokevirtual 118, 3) := by decide +kernel
theorem dX5_makeRuns_124 : decode cX5_makeRuns 124 = .ok (.aload_n 0, 1) := by decide +kernel
theorem dX5_makeRuns_125 : decode cX5_makeRuns 125 = .ok (.getfield 45, 3) := by decide +kernel
theorem dX5_makeRuns_128 : decode cX5_makeRuns 128 = .ok (.iload 6, 2) := by decide +kernel
theorem dX5_makeRuns_130 : decode cX5_makeRuns 130 = .ok (.invokevirtual 122, 3) := by decide +kernel
theorem dX5_makeRuns_133 : decode cX5_makeRuns 133 = .ok (.iinc 5 1, 3) := by decide +kernel
theorem dX5_makeRuns_136 : decode cX5_makeRuns 136 = .ok (.goto (-105), 3) := by decide +kernel
theorem dX5_makeRuns_139 : decode cX5_makeRuns 139 = .ok (.iload_n 2, 1) := by decide +kernel
theorem dX5_makeRuns_140 : decode cX5_makeRuns 140 = .ok (.iconst 1, 1) := by decide +kernel
theorem dX5_makeRuns_141 : decode cX5_makeRuns 141 = .ok (.if_icmp .lt 10, 3) := by decide +kernel
theorem dX5_makeRuns_144 : decode cX5_makeRuns 144 = .ok (.aload_n 0, 1) := by decide +kernel
theorem dX5_makeRuns_145 : decode cX5_makeRuns 145 = .ok (.invokevirtual 106, 3) := by decide +kernel
theorem dX5_makeRuns_148 : decode cX5_makeRuns 148 = .ok (.ifCond .eq 7, 3) := by decide +kernel
theorem dX5_makeRuns_151 : decode cX5_makeRuns 151 = .ok (.iconst 1, 1) := by decide +kernel
theorem dX5_makeRuns_152 : decode cX5_makeRuns 152 = .ok (.goto 4, 3) := by decide +kernel
theorem dX5_makeRuns_155 : decode cX5_makeRuns 155 = .ok (.iconst 0, 1) := by decide +kernel
theorem dX5_makeRuns_156 : decode cX5_makeRuns 156 = .ok (.ireturn, 1) := by decide +kernel
theorem dX5_fillMemory_0 : decode cX5_fillMemory 0 = .ok (.aload_n 0, 1) := by decide +kernel
theorem dX5_fillMemory_1 : decode cX5_fillMemory 1 = .ok (.invokevirtual 125, 3) := by decide +kernel
theorem dX5_fillMemory_4 : decode cX5_fillMemory 4 = .ok (.iload_n 2, 1) := by decide +kernel
theorem dX5_fillMemory_5 : decode cX5_fillMemory 5 = .ok (.invokestatic 128, 3) := by decide +kernel
theorem dX5_fillMemory_8 : decode cX5_fillMemory 8 = .ok (.istore_n 3, 1) := by decide +kernel
theorem dX5_fillMemory_9 : decode cX5_fillMemory 9 = .ok (.aload_n 0, 1) := by decide +kernel
theorem dX5_fillMemory_10 : decode cX5_fillMemory 10 = .ok (.getfield 24, 3) := by decide +kernel
theorem dX5_fillMemory_13 : decode cX5_fillMemory 13 = .ok (.iconst 0, 1) := by decide +kernel
theorem dX5_fillMemory_14 : decode cX5_fillMemory 14 = .ok (.iload_n 1, 1) := by decide +kernel
theorem dX5_fillMemory_15 : decode cX5_fillMemory 15 = .ok (.iload_n 2, 1) := by decide +kernel
theorem dX5_fillMemory_16 : decode cX5_fillMemory 16 = .ok (.invokevirtual 131, 3) := by decide +kernel
theorem dX5_fillMemory_19 : decode cX5_fillMemory 19 = .ok (.aload_n 0, 1) := by decide +kernel
theorem dX5_fillMemory_20 : decode cX5_fillMemory 20 = .ok (.getfield 45, 3) := by decide +kernel
theorem dX5_fillMemory_23 : decode cX5_fillMemory 23 = .ok (.iload_n 3, 1) := by decide +kernel
theorem dX5_fillMemory_24 : decode cX5_fillMemory 24 = .ok (.aload_n 0, 1) := by decide +kernel
theorem dX5_fillMemory_25 : decode cX5_fillMemory 25 = .ok (.getfield 62, 3) := by decide +kernel
theorem dX5_fillMemory_28 : decode cX5_fillMemory 28 = .ok (.invokevirtual 133, 3) := by decide +kernel
theorem dX5_fillMemory_31 : decode cX5_fillMemory 31 = .ok (.iconst 0, 1) := by decide +kernel
theorem dX5_fillMemory_32 : decode cX5_fillMemory 32 = .ok (.istore 4, 2) := by decide +kernel
theorem dX5_fillMemory_34 : decode cX5_fillMemory 34 = .ok (.iload 4, 2) := by decide +kernel
theorem dX5_fillMemory_36 : decode cX5_fillMemory 36 = .ok (.iload_n 3, 1) := by decide +kernel
theorem dX5_fillMemory_37 : decode cX5_fillMemory 37 = .ok (.if_icmp .ge 18, 3) := by decide +kernel
theorem dX5_fillMemory_40 : decode cX5_fillMemory 40 = .ok (.aload_n 0, 1) := by decide +kernel
theorem dX5_fillMemory_41 : decode cX5_fillMemory 41 = .ok (.iload 4, 2) := by decide +kernel
theorem dX5_fillMemory_43 : decode cX5_fillMemory 43 = .ok (.iconst 0, 1) := by decide +kernel
theorem dX5_fillMemory_44 : decode cX5_fillMemory 44 = .ok (.iload 4, 2) := by decide +kernel
theorem dX5_fillMemory_46 : decode cX5_fillMemory 46 = .ok (.invokevirtual 137, 3) := by decide +kernel
theorem dX5_fillMemory_49 : decode cX5_fillMemory 49 = .ok (.iinc 4 1, 3) := by decide +kernel
theorem dX5_fillMemory_52 : decode cX5_fillMemory 52 = .ok (.goto (-18), 3) := by decide +kernel
theorem dX5_fillMemory_55 : decode cX5_fillMemory 55 = .ok (.iload_n 3, 1) := by decide +kernel
theorem dX5_fillMemory_56 : decode cX5_fillMemory 56 = .ok (.ireturn, 1) := by decide +kernel
theorem dX5_replace_0 : decode cX5_replace 0 = .ok (.aload_n 0, 1) := by decide +kernel
theorem dX5_replace_1 : decode cX5_replace 1 = .ok (.getfield 24, 3) := by decide +kernel
theorem dX5_replace_4 : decode cX5_replace 4 = .ok (.iconst 0, 1) := by decide +kernel
theorem dX5_replace_5 : decode cX5_replace 5 = .ok (.invokevirtual 140, 3) := by decide +kernel
theorem dX5_replace_8 : decode cX5_replace 8 = .ok (.ifCond .ne 12, 3) := by decide +kernel
theorem dX5_replace_11 : decode cX5_replace 11 = .ok (.aload_n 0, 1) := by decide +kernel
theorem dX5_replace_12 : decode cX5_replace 12 = .ok (.getfield 45, 3) := by decide +kernel
theorem dX5_replace_15 : decode cX5_replace 15 = .ok (.iload_n 1, 1) := by decide +kernel
theorem dX5_replace_16 : decode cX5_replace 16 = .ok (.invokevirtual 144, 3) := by decide +kernel
theorem dX5_replace_19 : decode cX5_replace 19 = .ok (.return_, 1) := by decide +kernel
theorem dX5_replace_20 : decode cX5_replace 20 = .ok (.aload_n 0, 1) := by decide +kernel
theorem dX5_replace_21 : decode cX5_replace 21 = .ok (.iload_n 1, 1) := by decide +kernel
theorem dX5_replace_22 : decode cX5_replace 22 = .ok (.iload_n 2, 1) := by decide +kernel
theorem dX5_replace_23 : decode cX5_replace 23 = .ok (.iload_n 3, 1) := by decide +kernel
theorem dX5_replace_24 : decode cX5_replace 24 = .ok (.invokevirtual 137, 3) := by decide +kernel
theorem dX5_replace_27 : decode cX5_replace 27 = .ok (.aload_n 0, 1) := by decide +kernel
theorem dX5_replace_28 : decode cX5_replace 28 = .ok (.getfield 45, 3) := by decide +kernel
theorem dX5_replace_31 : decode cX5_replace 31 = .ok (.iload_n 1, 1) := by decide +kernel
theorem dX5_replace_32 : decode cX5_replace 32 = .ok (.invokevirtual 109, 3) := by decide +kernel
theorem dX5_replace_35 : decode cX5_replace 35 = .ok (.istore 4, 2) := by decide +kernel
theorem dX5_replace_37 : decode cX5_replace 37 = .ok (.aload_n 0, 1) := by decide +kernel
theorem dX5_replace_38 : decode cX5_replace 38 = .ok (.getfield 45, 3) := by decide +kernel
theorem dX5_replace_41 : decode cX5_replace 41 = .ok (.iload_n 1, 1) := by decide +kernel
theorem dX5_replace_42 : decode cX5_replace 42 = .ok (.invokevirtual 112, 3) := by decide +kernel
theorem dX5_replace_45 : decode cX5_replace 45 = .ok (.istore 5, 2) := by decide +kernel
theorem dX5_replace_47 : decode cX5_replace 47 = .ok (.aload_n 0, 1) := by decide +kernel
theorem dX5_replace_48 : decode cX5_replace 48 = .ok (.getfield 62, 3) := by decide +kernel
theorem dX5_replace_51 : decode cX5_replace 51 = .ok (.iload 4, 2) := by decide +kernel
theorem dX5_replace_53 : decode cX5_replace 53 = .ok (.iload 5, 2) := by decide +kernel
theorem dX5_replace_55 : decode cX5_replace 55 = .ok (.aload_n 0, 1) := by decide +kernel
theorem dX5_replace_56 : decode cX5_replace 56 = .ok (.getfield 15, 3) := by decide +kernel
theorem dX5_replace_59 : decode cX5_replace 59 = .ok (.getfield 147, 3) := by decide +kernel
theorem dX5_replace_62 : decode cX5_replace 62 = .ok (.aload_n 0, 1) := by decide +kernel
theorem dX5_replace_63 : decode cX5_replace 63 = .ok (.getfield 15, 3) := by decide +kernel
theorem dX5_replace_66 : decode cX5_replace 66 = .ok (.getfield 150, 3) := by decide +kernel
theorem dX5_replace_69 : decode cX5_replace 69 = .ok (.invokestatic 153, 3) := by decide +kernel
theorem dX5_replace_72 : decode cX5_replace 72 = .ok (.ifCond .ge 19, 3) := by decide +kernel
theorem dX5_replace_75 : decode cX5_replace 75 = .ok (.aload_n 0, 1) := by decide +kernel
theorem dX5_replace_76 : decode cX5_replace 76 = .ok (.getfield 45, 3) := by decide +kernel
theorem dX5_replace_79 : decode cX5_replace 79 = .ok (.iload_n 1, 1) := by decide +kernel
theorem dX5_replace_80 : decode cX5_replace 80 = .ok (.iload_n 2, 1) := by decide +kernel
theorem dX5_replace_81 : decode cX5_replace 81 = .ok (.iconst 1, 1) := by decide +kernel
theorem dX5_replace_82 : decode cX5_replace 82 = .ok (.iadd, 1) := by decide +kernel
theorem dX5_replace_83 : decode cX5_replace 83 = .ok (.iload 4, 2) := by decide +kernel
theorem dX5_replace_85 : decode cX5_replace 85 = .ok (.iload 5, 2) := by decide +kernel
theorem dX5_replace_87 : decode cX5_replace 87 = .ok (.iload_n 3, 1) := by decide +kernel
theorem dX5_replace_88 : decode cX5_replace 88 = .ok (.invokevirtual 157, 3) := by decide +kernel
theorem dX5_replace_91 : decode cX5_replace 91 = .ok (.return_, 1) := by decide +kernel
theorem dX5_takeInto_0 : decode cX5_takeInto 0 = .ok (.aload_n 0, 1) := by decide +kernel
theorem dX5_takeInto_1 : decode cX5_takeInto 1 = .ok (.getfield 24, 3) := by decide +kernel
theorem dX5_takeInto_4 : decode cX5_takeInto 4 = .ok (.iconst 0, 1) := by decide +kernel
theorem dX5_takeInto_5 : decode cX5_takeInto 5 = .ok (.invokevirtual 161, 3) := by decide +kernel
theorem dX5_takeInto_8 : decode cX5_takeInto 8 = .ok (.ifCond .eq 12, 3) := by decide +kernel
theorem dX5_takeInto_11 : decode cX5_takeInto 11 = .ok (.aload_n 0, 1) := by decide +kernel
theorem dX5_takeInto_12 : decode cX5_takeInto 12 = .ok (.getfield 24, 3) := by decide +kernel
theorem dX5_takeInto_15 : decode cX5_takeInto 15 = .ok (.iconst 0, 1) := by decide +kernel
theorem dX5_takeInto_16 : decode cX5_takeInto 16 = .ok (.invokevirtual 164, 3) := by decide +kernel
theorem dX5_takeInto_19 : decode cX5_takeInto 19 = .ok (.pop, 1) := by decide +kernel
theorem dX5_takeInto_20 : decode cX5_takeInto 20 = .ok (.aload_n 0, 1) := by decide +kernel
theorem dX5_takeInto_21 : decode cX5_takeInto 21 = .ok (.getfield 45, 3) := by decide +kernel
theorem dX5_takeInto_24 : decode cX5_takeInto 24 = .ok (.iload_n 1, 1) := by decide +kernel
theorem dX5_takeInto_25 : decode cX5_takeInto 25 = .ok (.iload_n 2, 1) := by decide +kernel
theorem dX5_takeInto_26 : decode cX5_takeInto 26 = .ok (.aload_n 0, 1) := by decide +kernel
theorem dX5_takeInto_27 : decode cX5_takeInto 27 = .ok (.getfield 24, 3) := by decide +kernel
theorem dX5_takeInto_30 : decode cX5_takeInto 30 = .ok (.iconst 0, 1) := by decide +kernel
theorem dX5_takeInto_31 : decode cX5_takeInto 31 = .ok (.invokevirtual 167, 3) := by decide +kernel
theorem dX5_takeInto_34 : decode cX5_takeInto 34 = .ok (.aload_n 0, 1) := by decide +kernel
theorem dX5_takeInto_35 : decode cX5_takeInto 35 = .ok (.getfield 24, 3) := by decide +kernel
theorem dX5_takeInto_38 : decode cX5_takeInto 38 = .ok (.iconst 0, 1) := by decide +kernel
theorem dX5_takeInto_39 : decode cX5_takeInto 39 = .ok (.invokevirtual 168, 3) := by decide +kernel
theorem dX5_takeInto_42 : decode cX5_takeInto 42 = .ok (.iload_n 3, 1) := by decide +kernel
theorem dX5_takeInto_43 : decode cX5_takeInto 43 = .ok (.invokevirtual 157, 3) := by decide +kernel
theorem dX5_takeInto_46 : decode cX5_takeInto 46 = .ok (.aload_n 0, 1) := by decide +kernel
theorem dX5_takeInto_47 : decode cX5_takeInto 47 = .ok (.getfield 24, 3) := by decide +kernel
theorem dX5_takeInto_50 : decode cX5_takeInto 50 = .ok (.iconst 0, 1) := by decide +kernel
theorem dX5_takeInto_51 : decode cX5_takeInto 51 = .ok (.invokevirtual 169, 3) := by decide +kernel
theorem dX5_takeInto_54 : decode cX5_takeInto 54 = .ok (.return_, 1) := by decide +kernel
theorem dX5_endRun_0 : decode cX5_endRun 0 = .ok (.aload_n 0, 1) := by decide +kernel
theorem dX5_endRun_1 : decode cX5_endRun 1 = .ok (.getfield 15, 3) := by decide +kernel
theorem dX5_endRun_4 : decode cX5_endRun 4 = .ok (.invokevirtual 172, 3) := by decide +kernel
theorem dX5_endRun_7 : decode cX5_endRun 7 = .ok (.ifCond .ne 5, 3) := by decide +kernel
theorem dX5_endRun_10 : decode cX5_endRun 10 = .ok (.iconst 0, 1) := by decide +kernel
theorem dX5_endRun_11 : decode cX5_endRun 11 = .ok (.ireturn, 1) := by decide +kernel
theorem dX5_endRun_12 : decode cX5_endRun 12 = .ok (.aload_n 0, 1) := by decide +kernel
theorem dX5_endRun_13 : decode cX5_endRun 13 = .ok (.getfield 9, 3) := by decide +kernel
theorem dX5_endRun_16 : decode cX5_endRun 16 = .ok (.getfield 175, 3) := by decide +kernel
theorem dX5_endRun_19 : decode cX5_endRun 19 = .ok (.aload_n 0, 1) := by decide +kernel
theorem dX5_endRun_20 : decode cX5_endRun 20 = .ok (.getfield 15, 3) := by decide +kernel
theorem dX5_endRun_23 : decode cX5_endRun 23 = .ok (.getfield 179, 3) := by decide +kernel
theorem dX5_endRun_26 : decode cX5_endRun 26 = .ok (.invokevirtual 182, 3) := by decide +kernel
theorem dX5_endRun_29 : decode cX5_endRun 29 = .ok (.aload_n 0, 1) := by decide +kernel
theorem dX5_endRun_30 : decode cX5_endRun 30 = .ok (.aload_n 0, 1) := by decide +kernel
theorem dX5_endRun_31 : decode cX5_endRun 31 = .ok (.getfield 69, 3) := by decide +kernel
theorem dX5_endRun_34 : decode cX5_endRun 34 = .ok (.aload_n 0, 1) := by decide +kernel
theorem dX5_endRun_35 : decode cX5_endRun 35 = .ok (.getfield 15, 3) := by decide +kernel
theorem dX5_endRun_38 : decode cX5_endRun 38 = .ok (.getfield 187, 3) := by decide +kernel
theorem dX5_endRun_41 : decode cX5_endRun 41 = .ok (.aload_n 0, 1) := by decide +kernel
theorem dX5_endRun_42 : decode cX5_endRun 42 = .ok (.getfield 15, 3) := by decide +kernel
theorem dX5_endRun_45 : decode cX5_endRun 45 = .ok (.getfield 179, 3) := by decide +kernel
theorem dX5_endRun_48 : decode cX5_endRun 48 = .ok (.invokevirtual 190, 3) := by decide +kernel
theorem dX5_endRun_51 : decode cX5_endRun 51 = .ok (.aload_n 0, 1) := by decide +kernel
theorem dX5_endRun_52 : decode cX5_endRun 52 = .ok (.dup, 1) := by decide +kernel
theorem dX5_endRun_53 : decode cX5_endRun 53 = .ok (.getfield 69, 3) := by decide +kernel
theorem dX5_endRun_56 : decode cX5_endRun 56 = .ok (.iconst 1, 1) := by decide +kernel
theorem dX5_endRun_57 : decode cX5_endRun 57 = .ok (.iadd, 1) := by decide +kernel
theorem dX5_endRun_58 : decode cX5_endRun 58 = .ok (.putfield 69, 3) := by decide +kernel
theorem dX5_endRun_61 : decode cX5_endRun 61 = .ok (.iconst 1, 1) := by decide +kernel
theorem dX5_endRun_62 : decode cX5_endRun 62 = .ok (.ireturn, 1) := by decide +kernel
theorem dX5_keepRun_0 : decode cX5_keepRun 0 = .ok (.iload_n 1, 1) := by decide +kernel
theorem dX5_keepRun_1 : decode cX5_keepRun 1 = .ok (.ifCond .lt 26, 3) := by decide +kernel
theorem dX5_keepRun_4 : decode cX5_keepRun 4 = .ok (.iload_n 1, 1) := by decide +kernel
theorem dX5_keepRun_5 : decode cX5_keepRun 5 = .ok (.aload_n 0, 1) := by decide +kernel
theorem dX5_keepRun_6 : decode cX5_keepRun 6 = .ok (.getfield 52, 3) := by decide +kernel
theorem dX5_keepRun_9 : decode cX5_keepRun 9 = .ok (.arraylength, 1) := by decide +kernel
theorem dX5_keepRun_10 : decode cX5_keepRun 10 = .ok (.if_icmp .ge 17, 3) := by decide +kernel
theorem dX5_keepRun_13 : decode cX5_keepRun 13 = .ok (.aload_n 0, 1) := by decide +kernel
theorem dX5_keepRun_14 : decode cX5_keepRun 14 = .ok (.getfield 52, 3) := by decide +kernel
theorem dX5_keepRun_17 : decode cX5_keepRun 17 = .ok (.iload_n 1, 1) := by decide +kernel
theorem dX5_keepRun_18 : decode cX5_keepRun 18 = .ok (.iload_n 2, 1) := by decide +kernel
theorem dX5_keepRun_19 : decode cX5_keepRun 19 = .ok (.iastore, 1) := by decide +kernel
theorem dX5_keepRun_20 : decode cX5_keepRun 20 = .ok (.aload_n 0, 1) := by decide +kernel
theorem dX5_keepRun_21 : decode cX5_keepRun 21 = .ok (.getfield 56, 3) := by decide +kernel
theorem dX5_keepRun_24 : decode cX5_keepRun 24 = .ok (.iload_n 1, 1) := by decide +kernel
theorem dX5_keepRun_25 : decode cX5_keepRun 25 = .ok (.iload_n 3, 1) := by decide +kernel
theorem dX5_keepRun_26 : decode cX5_keepRun 26 = .ok (.iastore, 1) := by decide +kernel
theorem dX5_keepRun_27 : decode cX5_keepRun 27 = .ok (.return_, 1) := by decide +kernel
theorem dX5_mergePass_0 : decode cX5_mergePass 0 = .ok (.iconst 2, 1) := by decide +kernel
theorem dX5_mergePass_1 : decode cX5_mergePass 1 = .ok (.aload_n 0, 1) := by decide +kernel
theorem dX5_mergePass_2 : decode cX5_mergePass 2 = .ok (.getfield 59, 3) := by decide +kernel
theorem dX5_mergePass_5 : decode cX5_mergePass 5 = .ok (.iconst 1, 1) := by decide +kernel
theorem dX5_mergePass_6 : decode cX5_mergePass 6 = .ok (.isub, 1) := by decide +kernel
theorem dX5_mergePass_7 : decode cX5_mergePass 7 = .ok (.invokestatic 36, 3) := by decide +kernel
theorem dX5_mergePass_10 : decode cX5_mergePass 10 = .ok (.istore_n 1, 1) := by decide +kernel
theorem dX5_mergePass_11 : decode cX5_mergePass 11 = .ok (.aload_n 0, 1) := by decide +kernel
theorem dX5_mergePass_12 : decode cX5_mergePass 12 = .ok (.getfield 69, 3) := by decide +kernel
theorem dX5_mergePass_15 : decode cX5_mergePass 15 = .ok (.aload_n 0, 1) := by decide +kernel
theorem dX5_mergePass_16 : decode cX5_mergePass 16 = .ok (.getfield 52, 3) := by decide +kernel
theorem dX5_mergePass_19 : decode cX5_mergePass 19 = .ok (.arraylength, 1) := by decide +kernel
theorem dX5_mergePass_20 : decode cX5_mergePass 20 = .ok (.invokestatic 128, 3) := by decide +kernel
theorem dX5_mergePass_23 : decode cX5_mergePass 23 = .ok (.istore_n 2, 1) := by decide +kernel
theorem dX5_mergePass_24 : decode cX5_mergePass 24 = .ok (.iconst 0, 1) := by decide +kernel
theorem dX5_mergePass_25 : decode cX5_mergePass 25 = .ok (.istore_n 3, 1) := by decide +kernel
theorem dX5_mergePass_26 : decode cX5_mergePass 26 = .ok (.iconst 0, 1) := by decide +kernel
theorem dX5_mergePass_27 : decode cX5_mergePass 27 = .ok (.istore 4, 2) := by decide +kernel
theorem dX5_mergePass_29 : decode cX5_mergePass 29 = .ok (.iload 4, 2) := by decide +kernel
theorem dX5_mergePass_31 : decode cX5_mergePass 31 = .ok (.iload_n 2, 1) := by decide +kernel
theorem dX5_mergePass_32 : decode cX5_mergePass 32 = .ok (.if_icmp .ge 88, 3) := by decide +kernel
theorem dX5_mergePass_35 : decode cX5_mergePass 35 = .ok (.iload_n 1, 1) := by decide +kernel
theorem dX5_mergePass_36 : decode cX5_mergePass 36 = .ok (.iload_n 2, 1) := by decide +kernel
theorem dX5_mergePass_37 : decode cX5_mergePass 37 = .ok (.iload 4, 2) := by decide +kernel
theorem dX5_mergePass_39 : decode cX5_mergePass 39 = .ok (.isub, 1) := by decide +kernel
theorem dX5_mergePass_40 : decode cX5_mergePass 40 = .ok (.invokestatic 128, 3) := by decide +kernel
theorem dX5_mergePass_43 : decode cX5_mergePass 43 = .ok (.istore 5, 2) := by decide +kernel
theorem dX5_mergePass_45 : decode cX5_mergePass 45 = .ok (.iload 5, 2) := by decide +kernel
theorem dX5_mergePass_47 : decode cX5_mergePass 47 = .ok (.iconst 1, 1) := by decide +kernel
theorem dX5_mergePass_48 : decode cX5_mergePass 48 = .ok (.if_icmp .ne 25, 3) := by decide +kernel
theorem dX5_mergePass_51 : decode cX5_mergePass 51 = .ok (.aload_n 0, 1) := by decide +kernel
theorem dX5_mergePass_52 : decode cX5_mergePass 52 = .ok (.iload_n 3, 1) := by decide +kernel
theorem dX5_mergePass_53 : decode cX5_mergePass 53 = .ok (.aload_n 0, 1) := by decide +kernel
theorem dX5_mergePass_54 : decode cX5_mergePass 54 = .ok (.getfield 52, 3) := by decide +kernel
theorem dX5_mergePass_57 : decode cX5_mergePass 57 = .ok (.iload 4, 2) := by decide +kernel
theorem dX5_mergePass_59 : decode cX5_mergePass 59 = .ok (.iaload, 1) := by decide +kernel
theorem dX5_mergePass_60 : decode cX5_mergePass 60 = .ok (.aload_n 0, 1) := by decide +kernel
theorem dX5_mergePass_61 : decode cX5_mergePass 61 = .ok (.getfield 56, 3) := by decide +kernel
theorem dX5_mergePass_64 : decode cX5_mergePass 64 = .ok (.iload 4, 2) := by decide +kernel
theorem dX5_mergePass_66 : decode cX5_mergePass 66 = .ok (.iaload, 1) := by decide +kernel
theorem dX5_mergePass_67 : decode cX5_mergePass 67 = .ok (.invokevirtual 190, 3) := by decide +kernel
theorem dX5_mergePass_70 : decode cX5_mergePass 70 = .ok (.goto 38, 3) := by decide +kernel
theorem dX5_mergePass_73 : decode cX5_mergePass 73 = .ok (.aload_n 0, 1) := by decide +kernel
theorem dX5_mergePass_74 : decode cX5_mergePass 74 = .ok (.iload 4, 2) := by decide +kernel
theorem dX5_mergePass_76 : decode cX5_mergePass 76 = .ok (.iload 5, 2) := by decide +kernel
theorem dX5_mergePass_78 : decode cX5_mergePass 78 = .ok (.invokevirtual 193, 3) := by decide +kernel
theorem dX5_mergePass_81 : decode cX5_mergePass 81 = .ok (.ifCond .eq 25, 3) := by decide +kernel
theorem dX5_mergePass_84 : decode cX5_mergePass 84 = .ok (.aload_n 0, 1) := by decide +kernel
theorem dX5_mergePass_85 : decode cX5_mergePass 85 = .ok (.iload_n 3, 1) := by decide +kernel
theorem dX5_mergePass_86 : decode cX5_mergePass 86 = .ok (.aload_n 0, 1) := by decide +kernel
theorem dX5_mergePass_87 : decode cX5_mergePass 87 = .ok (.getfield 15, 3) := by decide +kernel
theorem dX5_mergePass_90 : decode cX5_mergePass 90 = .ok (.getfield 187, 3) := by decide +kernel
theorem dX5_mergePass_93 : decode cX5_mergePass 93 = .ok (.aload_n 0, 1) := by decide +kernel
theorem dX5_mergePass_94 : decode cX5_mergePass 94 = .ok (.getfield 15, 3) := by decide +kernel
theorem dX5_mergePass_97 : decode cX5_mergePass 97 = .ok (.getfield 179, 3) := by decide +kernel
theorem dX5_mergePass_100 : decode cX5_mergePass 100 = .ok (.invokevirtual 190, 3) := by decide +kernel
theorem dX5_mergePass_103 : decode cX5_mergePass 103 = .ok (.goto 5, 3) := by decide +kernel
theorem dX5_mergePass_106 : decode cX5_mergePass 106 = .ok (.iconst 0, 1) := by decide +kernel
theorem dX5_mergePass_107 : decode cX5_mergePass 107 = .ok (.ireturn, 1) := by decide +kernel
theorem dX5_mergePass_108 : decode cX5_mergePass 108 = .ok (.iinc 3 1, 3) := by decide +kernel
theorem dX5_mergePass_111 : decode cX5_mergePass 111 = .ok (.iload 4, 2) := by decide +kernel
theorem dX5_mergePass_113 : decode cX5_mergePass 113 = .ok (.iload_n 1, 1) := by decide +kernel
theorem dX5_mergePass_114 : decode cX5_mergePass 114 = .ok (.iadd, 1) := by decide +kernel
theorem dX5_mergePass_115 : decode cX5_mergePass 115 = .ok (.istore 4, 2) := by decide +kernel
theorem dX5_mergePass_117 : decode cX5_mergePass 117 = .ok (.goto (-88), 3) := by decide +kernel
theorem dX5_mergePass_120 : decode cX5_mergePass 120 = .ok (.aload_n 0, 1) := by decide +kernel
theorem dX5_mergePass_121 : decode cX5_mergePass 121 = .ok (.iload_n 3, 1) := by decide +kernel
theorem dX5_mergePass_122 : decode cX5_mergePass 122 = .ok (.putfield 69, 3) := by decide +kernel
theorem dX5_mergePass_125 : decode cX5_mergePass 125 = .ok (.aload_n 0, 1) := by decide +kernel
theorem dX5_mergePass_126 : decode cX5_mergePass 126 = .ok (.getfield 9, 3) := by decide +kernel
theorem dX5_mergePass_129 : decode cX5_mergePass 129 = .ok (.getfield 175, 3) := by decide +kernel
theorem dX5_mergePass_132 : decode cX5_mergePass 132 = .ok (.dup, 1) := by decide +kernel
theorem dX5_mergePass_133 : decode cX5_mergePass 133 = .ok (.getfield 196, 3) := by decide +kernel
theorem dX5_mergePass_136 : decode cX5_mergePass 136 = .ok (.iconst 1, 1) := by decide +kernel
theorem dX5_mergePass_137 : decode cX5_mergePass 137 = .ok (.iadd, 1) := by decide +kernel
theorem dX5_mergePass_138 : decode cX5_mergePass 138 = .ok (.putfield 196, 3) := by decide +kernel
theorem dX5_mergePass_141 : decode cX5_mergePass 141 = .ok (.iconst 1, 1) := by decide +kernel
theorem dX5_mergePass_142 : decode cX5_mergePass 142 = .ok (.ireturn, 1) := by decide +kernel
theorem dX5_mergeRuns_0 : decode cX5_mergeRuns 0 = .ok (.aload_n 0, 1) := by decide +kernel
theorem dX5_mergeRuns_1 : decode cX5_mergeRuns 1 = .ok (.iload_n 1, 1) := by decide +kernel
theorem dX5_mergeRuns_2 : decode cX5_mergeRuns 2 = .ok (.iload_n 2, 1) := by decide +kernel
theorem dX5_mergeRuns_3 : decode cX5_mergeRuns 3 = .ok (.invokevirtual 199, 3) := by decide +kernel
theorem dX5_mergeRuns_6 : decode cX5_mergeRuns 6 = .ok (.istore_n 3, 1) := by decide +kernel
theorem dX5_mergeRuns_7 : decode cX5_mergeRuns 7 = .ok (.aload_n 0, 1) := by decide +kernel
theorem dX5_mergeRuns_8 : decode cX5_mergeRuns 8 = .ok (.getfield 45, 3) := by decide +kernel
theorem dX5_mergeRuns_11 : decode cX5_mergeRuns 11 = .ok (.invokevirtual 89, 3) := by decide +kernel
theorem dX5_mergeRuns_14 : decode cX5_mergeRuns 14 = .ok (.aload_n 0, 1) := by decide +kernel
theorem dX5_mergeRuns_15 : decode cX5_mergeRuns 15 = .ok (.getfield 15, 3) := by decide +kernel
theorem dX5_mergeRuns_18 : decode cX5_mergeRuns 18 = .ok (.aload_n 0, 1) := by decide +kernel
theorem dX5_mergeRuns_19 : decode cX5_mergeRuns 19 = .ok (.getfield 65, 3) := by decide +kernel
theorem dX5_mergeRuns_22 : decode cX5_mergeRuns 22 = .ok (.invokevirtual 92, 3) := by decide +kernel
theorem dX5_mergeRuns_25 : decode cX5_mergeRuns 25 = .ok (.iconst 0, 1) := by decide +kernel
theorem dX5_mergeRuns_26 : decode cX5_mergeRuns 26 = .ok (.istore 4, 2) := by decide +kernel
theorem dX5_mergeRuns_28 : decode cX5_mergeRuns 28 = .ok (.iload 4, 2) := by decide +kernel
theorem dX5_mergeRuns_30 : decode cX5_mergeRuns 30 = .ok (.iload_n 3, 1) := by decide +kernel
theorem dX5_mergeRuns_31 : decode cX5_mergeRuns 31 = .ok (.if_icmp .ge 108, 3) := by decide +kernel
theorem dX5_mergeRuns_34 : decode cX5_mergeRuns 34 = .ok (.aload_n 0, 1) := by decide +kernel
theorem dX5_mergeRuns_35 : decode cX5_mergeRuns 35 = .ok (.getfield 45, 3) := by decide +kernel
theorem dX5_mergeRuns_38 : decode cX5_mergeRuns 38 = .ok (.invokevirtual 98, 3) := by decide +kernel
theorem dX5_mergeRuns_41 : decode cX5_mergeRuns 41 = .ok (.istore 5, 2) := by decide +kernel
theorem dX5_mergeRuns_43 : decode cX5_mergeRuns 43 = .ok (.aload_n 0, 1) := by decide +kernel
theorem dX5_mergeRuns_44 : decode cX5_mergeRuns 44 = .ok (.getfield 45, 3) := by decide +kernel
theorem dX5_mergeRuns_47 : decode cX5_mergeRuns 47 = .ok (.iload 5, 2) := by decide +kernel
theorem dX5_mergeRuns_49 : decode cX5_mergeRuns 49 = .ok (.invokevirtual 109, 3) := by decide +kernel
theorem dX5_mergeRuns_52 : decode cX5_mergeRuns 52 = .ok (.istore 6, 2) := by decide +kernel
theorem dX5_mergeRuns_54 : decode cX5_mergeRuns 54 = .ok (.aload_n 0, 1) := by decide +kernel
theorem dX5_mergeRuns_55 : decode cX5_mergeRuns 55 = .ok (.getfield 45, 3) := by decide +kernel
theorem dX5_mergeRuns_58 : decode cX5_mergeRuns 58 = .ok (.iload 5, 2) := by decide +kernel
theorem dX5_mergeRuns_60 : decode cX5_mergeRuns 60 = .ok (.invokevirtual 112, 3) := by decide +kernel
theorem dX5_mergeRuns_63 : decode cX5_mergeRuns 63 = .ok (.istore 7, 2) := by decide +kernel
theorem dX5_mergeRuns_65 : decode cX5_mergeRuns 65 = .ok (.aload_n 0, 1) := by decide +kernel
theorem dX5_mergeRuns_66 : decode cX5_mergeRuns 66 = .ok (.getfield 24, 3) := by decide +kernel
theorem dX5_mergeRuns_69 : decode cX5_mergeRuns 69 = .ok (.iload 5, 2) := by decide +kernel
theorem dX5_mergeRuns_71 : decode cX5_mergeRuns 71 = .ok (.invokevirtual 169, 3) := by decide +kernel
theorem dX5_mergeRuns_74 : decode cX5_mergeRuns 74 = .ok (.aload_n 0, 1) := by decide +kernel
theorem dX5_mergeRuns_75 : decode cX5_mergeRuns 75 = .ok (.getfield 24, 3) := by decide +kernel
theorem dX5_mergeRuns_78 : decode cX5_mergeRuns 78 = .ok (.iload 5, 2) := by decide +kernel
theorem dX5_mergeRuns_80 : decode cX5_mergeRuns 80 = .ok (.invokevirtual 161, 3) := by decide +kernel
theorem dX5_mergeRuns_83 : decode cX5_mergeRuns 83 = .ok (.ifCond .eq 19, 3) := by decide +kernel
theorem dX5_mergeRuns_86 : decode cX5_mergeRuns 86 = .ok (.aload_n 0, 1) := by decide +kernel
theorem dX5_mergeRuns_87 : decode cX5_mergeRuns 87 = .ok (.getfield 9, 3) := by decide +kernel
theorem dX5_mergeRuns_90 : decode cX5_mergeRuns 90 = .ok (.aload_n 0, 1) := by decide +kernel
theorem dX5_mergeRuns_91 : decode cX5_mergeRuns 91 = .ok (.getfield 24, 3) := by decide +kernel
theorem dX5_mergeRuns_94 : decode cX5_mergeRuns 94 = .ok (.iload 5, 2) := by decide +kernel
theorem dX5_mergeRuns_96 : decode cX5_mergeRuns 96 = .ok (.invokevirtual 164, 3) := by decide +kernel
theorem dX5_mergeRuns_99 : decode cX5_mergeRuns 99 = .ok (.invokevirtual 202, 3) := by decide +kernel
theorem dX5_mergeRuns_102 : decode cX5_mergeRuns 102 = .ok (.aload_n 0, 1) := by decide +kernel
theorem dX5_mergeRuns_103 : decode cX5_mergeRuns 103 = .ok (.iload 5, 2) := by decide +kernel
theorem dX5_mergeRuns_105 : decode cX5_mergeRuns 105 = .ok (.invokevirtual 205, 3) := by decide +kernel
theorem dX5_mergeRuns_108 : decode cX5_mergeRuns 108 = .ok (.aload_n 0, 1) := by decide +kernel
theorem dX5_mergeRuns_109 : decode cX5_mergeRuns 109 = .ok (.getfield 45, 3) := by decide +kernel
theorem dX5_mergeRuns_112 : decode cX5_mergeRuns 112 = .ok (.iload 5, 2) := by decide +kernel
theorem dX5_mergeRuns_114 : decode cX5_mergeRuns 114 = .ok (.invokevirtual 122, 3) := by decide +kernel
theorem dX5_mergeRuns_117 : decode cX5_mergeRuns 117 = .ok (.aload_n 0, 1) := by decide +kernel
theorem dX5_mergeRuns_118 : decode cX5_mergeRuns 118 = .ok (.getfield 15, 3) := by decide +kernel
theorem dX5_mergeRuns_121 : decode cX5_mergeRuns 121 = .ok (.iload 6, 2) := by decide +kernel
theorem dX5_mergeRuns_123 : decode cX5_mergeRuns 123 = .ok (.iload 7, 2) := by decide +kernel
theorem dX5_mergeRuns_125 : decode cX5_mergeRuns 125 = .ok (.invokevirtual 115, 3) := by decide +kernel
theorem dX5_mergeRuns_128 : decode cX5_mergeRuns 128 = .ok (.ifCond .ne 5, 3) := by decide +kernel
theorem dX5_mergeRuns_131 : decode cX5_mergeRuns 131 = .ok (.iconst 0, 1) := by decide +kernel
theorem dX5_mergeRuns_132 : decode cX5_mergeRuns 132 = .ok (.ireturn, 1) := by decide +kernel
theorem dX5_mergeRuns_133 : decode cX5_mergeRuns 133 = .ok (.iinc 4 1, 3) := by decide +kernel
theorem dX5_mergeRuns_136 : decode cX5_mergeRuns 136 = .ok (.goto (-108), 3) := by decide +kernel
theorem dX5_mergeRuns_139 : decode cX5_mergeRuns 139 = .ok (.aload_n 0, 1) := by decide +kernel
theorem dX5_mergeRuns_140 : decode cX5_mergeRuns 140 = .ok (.getfield 15, 3) := by decide +kernel
theorem dX5_mergeRuns_143 : decode cX5_mergeRuns 143 = .ok (.invokevirtual 172, 3) := by decide +kernel
theorem dX5_mergeRuns_146 : decode cX5_mergeRuns 146 = .ok (.ireturn, 1) := by decide +kernel
theorem dX5_openRuns_0 : decode cX5_openRuns 0 = .ok (.iconst 0, 1) := by decide +kernel
theorem dX5_openRuns_1 : decode cX5_openRuns 1 = .ok (.istore_n 3, 1) := by decide +kernel
theorem dX5_openRuns_2 : decode cX5_openRuns 2 = .ok (.aload_n 0, 1) := by decide +kernel
theorem dX5_openRuns_3 : decode cX5_openRuns 3 = .ok (.getfield 45, 3) := by decide +kernel
theorem dX5_openRuns_6 : decode cX5_openRuns 6 = .ok (.iload_n 2, 1) := by decide +kernel
theorem dX5_openRuns_7 : decode cX5_openRuns 7 = .ok (.aload_n 0, 1) := by decide +kernel
theorem dX5_openRuns_8 : decode cX5_openRuns 8 = .ok (.getfield 62, 3) := by decide +kernel
theorem dX5_openRuns_11 : decode cX5_openRuns 11 = .ok (.invokevirtual 133, 3) := by decide +kernel
theorem dX5_openRuns_14 : decode cX5_openRuns 14 = .ok (.iconst 0, 1) := by decide +kernel
theorem dX5_openRuns_15 : decode cX5_openRuns 15 = .ok (.istore 4, 2) := by decide +kernel
theorem dX5_openRuns_17 : decode cX5_openRuns 17 = .ok (.iload 4, 2) := by decide +kernel
theorem dX5_openRuns_19 : decode cX5_openRuns 19 = .ok (.iload_n 2, 1) := by decide +kernel
theorem dX5_openRuns_20 : decode cX5_openRuns 20 = .ok (.if_icmp .ge 82, 3) := by decide +kernel
theorem dX5_openRuns_23 : decode cX5_openRuns 23 = .ok (.iload_n 1, 1) := by decide +kernel
theorem dX5_openRuns_24 : decode cX5_openRuns 24 = .ok (.iload 4, 2) := by decide +kernel
theorem dX5_openRuns_26 : decode cX5_openRuns 26 = .ok (.iadd, 1) := by decide +kernel
theorem dX5_openRuns_27 : decode cX5_openRuns 27 = .ok (.aload_n 0, 1) := by decide +kernel
theorem dX5_openRuns_28 : decode cX5_openRuns 28 = .ok (.getfield 52, 3) := by decide +kernel
theorem dX5_openRuns_31 : decode cX5_openRuns 31 = .ok (.arraylength, 1) := by decide +kernel
theorem dX5_openRuns_32 : decode cX5_openRuns 32 = .ok (.if_icmp .ge 70, 3) := by decide +kernel
theorem dX5_openRuns_35 : decode cX5_openRuns 35 = .ok (.aload_n 0, 1) := by decide +kernel
theorem dX5_openRuns_36 : decode cX5_openRuns 36 = .ok (.getfield 24, 3) := by decide +kernel
theorem dX5_openRuns_39 : decode cX5_openRuns 39 = .ok (.iload 4, 2) := by decide +kernel
theorem dX5_openRuns_41 : decode cX5_openRuns 41 = .ok (.aload_n 0, 1) := by decide +kernel
theorem dX5_openRuns_42 : decode cX5_openRuns 42 = .ok (.getfield 52, 3) := by decide +kernel
theorem dX5_openRuns_45 : decode cX5_openRuns 45 = .ok (.iload_n 1, 1) := by decide +kernel
theorem dX5_openRuns_46 : decode cX5_openRuns 46 = .ok (.iload 4, 2) := by decide +kernel
theorem dX5_openRuns_48 : decode cX5_openRuns 48 = .ok (.iadd, 1) := by decide +kernel
theorem dX5_openRuns_49 : decode cX5_openRuns 49 = .ok (.iaload, 1) := by decide +kernel
theorem dX5_openRuns_50 : decode cX5_openRuns 50 = .ok (.aload_n 0, 1) := by decide +kernel
theorem dX5_openRuns_51 : decode cX5_openRuns 51 = .ok (.getfield 56, 3) := by decide +kernel
theorem dX5_openRuns_54 : decode cX5_openRuns 54 = .ok (.iload_n 1, 1) := by decide +kernel
theorem dX5_openRuns_55 : decode cX5_openRuns 55 = .ok (.iload 4, 2) := by decide +kernel
theorem dX5_openRuns_57 : decode cX5_openRuns 57 = .ok (.iadd, 1) := by decide +kernel
theorem dX5_openRuns_58 : decode cX5_openRuns 58 = .ok (.iaload, 1) := by decide +kernel
theorem dX5_openRuns_59 : decode cX5_openRuns 59 = .ok (.invokevirtual 131, 3) := by decide +kernel
theorem dX5_openRuns_62 : decode cX5_openRuns 62 = .ok (.aload_n 0, 1) := by decide +kernel
theorem dX5_openRuns_63 : decode cX5_openRuns 63 = .ok (.getfield 9, 3) := by decide +kernel
theorem dX5_openRuns_66 : decode cX5_openRuns 66 = .ok (.aload_n 0, 1) := by decide +kernel
theorem dX5_openRuns_67 : decode cX5_openRuns 67 = .ok (.getfield 24, 3) := by decide +kernel
theorem dX5_openRuns_70 : decode cX5_openRuns 70 = .ok (.iload 4, 2) := by decide +kernel
theorem dX5_openRuns_72 : decode cX5_openRuns 72 = .ok (.invokevirtual 164, 3) := by decide +kernel
theorem dX5_openRuns_75 : decode cX5_openRuns 75 = .ok (.invokevirtual 202, 3) := by decide +kernel
theorem dX5_openRuns_78 : decode cX5_openRuns 78 = .ok (.aload_n 0, 1) := by decide +kernel
theorem dX5_openRuns_79 : decode cX5_openRuns 79 = .ok (.iload 4, 2) := by decide +kernel
theorem dX5_openRuns_81 : decode cX5_openRuns 81 = .ok (.invokevirtual 205, 3) := by decide +kernel
theorem dX5_openRuns_84 : decode cX5_openRuns 84 = .ok (.iload_n 3, 1) := by decide +kernel
theorem dX5_openRuns_85 : decode cX5_openRuns 85 = .ok (.aload_n 0, 1) := by decide +kernel
theorem dX5_openRuns_86 : decode cX5_openRuns 86 = .ok (.getfield 56, 3) := by decide +kernel
theorem dX5_openRuns_89 : decode cX5_openRuns 89 = .ok (.iload_n 1, 1) := by decide +kernel
theorem dX5_openRuns_90 : decode cX5_openRuns 90 = .ok (.iload 4, 2) := by decide +kernel
theorem dX5_openRuns_92 : decode cX5_openRuns 92 = .ok (.iadd, 1) := by decide +kernel
theorem dX5_openRuns_93 : decode cX5_openRuns 93 = .ok (.iaload, 1) := by decide +kernel
theorem dX5_openRuns_94 : decode cX5_openRuns 94 = .ok (.iadd, 1) := by decide +kernel
theorem dX5_openRuns_95 : decode cX5_openRuns 95 = .ok (.istore_n 3, 1) := by decide +kernel
theorem dX5_openRuns_96 : decode cX5_openRuns 96 = .ok (.iinc 4 1, 3) := by decide +kernel
theorem dX5_openRuns_99 : decode cX5_openRuns 99 = .ok (.goto (-82), 3) := by decide +kernel
theorem dX5_openRuns_102 : decode cX5_openRuns 102 = .ok (.iload_n 3, 1) := by decide +kernel
theorem dX5_openRuns_103 : decode cX5_openRuns 103 = .ok (.ireturn, 1) := by decide +kernel
theorem dX5_enterNext_0 : decode cX5_enterNext 0 = .ok (.aload_n 0, 1) := by decide +kernel
theorem dX5_enterNext_1 : decode cX5_enterNext 1 = .ok (.getfield 24, 3) := by decide +kernel
theorem dX5_enterNext_4 : decode cX5_enterNext 4 = .ok (.iload_n 1, 1) := by decide +kernel
theorem dX5_enterNext_5 : decode cX5_enterNext 5 = .ok (.invokevirtual 140, 3) := by decide +kernel
theorem dX5_enterNext_8 : decode cX5_enterNext 8 = .ok (.ifCond .eq 32, 3) := by decide +kernel
theorem dX5_enterNext_11 : decode cX5_enterNext 11 = .ok (.aload_n 0, 1) := by decide +kernel
theorem dX5_enterNext_12 : decode cX5_enterNext 12 = .ok (.getfield 45, 3) := by decide +kernel
theorem dX5_enterNext_15 : decode cX5_enterNext 15 = .ok (.iload_n 1, 1) := by decide +kernel
theorem dX5_enterNext_16 : decode cX5_enterNext 16 = .ok (.iconst 0, 1) := by decide +kernel
theorem dX5_enterNext_17 : decode cX5_enterNext 17 = .ok (.aload_n 0, 1) := by decide +kernel
theorem dX5_enterNext_18 : decode cX5_enterNext 18 = .ok (.getfield 24, 3) := by decide +kernel
theorem dX5_enterNext_21 : decode cX5_enterNext 21 = .ok (.iload_n 1, 1) := by decide +kernel
theorem dX5_enterNext_22 : decode cX5_enterNext 22 = .ok (.invokevirtual 167, 3) := by decide +kernel
theorem dX5_enterNext_25 : decode cX5_enterNext 25 = .ok (.aload_n 0, 1) := by decide +kernel
theorem dX5_enterNext_26 : decode cX5_enterNext 26 = .ok (.getfield 24, 3) := by decide +kernel
theorem dX5_enterNext_29 : decode cX5_enterNext 29 = .ok (.iload_n 1, 1) := by decide +kernel
theorem dX5_enterNext_30 : decode cX5_enterNext 30 = .ok (.invokevirtual 168, 3) := by decide +kernel
theorem dX5_enterNext_33 : decode cX5_enterNext 33 = .ok (.iload_n 1, 1) := by decide +kernel
theorem dX5_enterNext_34 : decode cX5_enterNext 34 = .ok (.invokevirtual 157, 3) := by decide +kernel
theorem dX5_enterNext_37 : decode cX5_enterNext 37 = .ok (.goto 11, 3) := by decide +kernel
theorem dX5_enterNext_40 : decode cX5_enterNext 40 = .ok (.aload_n 0, 1) := by decide +kernel
theorem dX5_enterNext_41 : decode cX5_enterNext 41 = .ok (.getfield 45, 3) := by decide +kernel
theorem dX5_enterNext_44 : decode cX5_enterNext 44 = .ok (.iload_n 1, 1) := by decide +kernel
theorem dX5_enterNext_45 : decode cX5_enterNext 45 = .ok (.invokevirtual 144, 3) := by decide +kernel
theorem dX5_enterNext_48 : decode cX5_enterNext 48 = .ok (.return_, 1) := by decide +kernel
theorem dX6_init_0 : decode cX6_init 0 = .ok (.aload_n 0, 1) := by decide +kernel
theorem dX6_init_1 : decode cX6_init 1 = .ok (.invokespecial 3, 3) := by decide +kernel
theorem dX6_init_4 : decode cX6_init 4 = .ok (.aload_n 0, 1) := by decide +kernel
theorem dX6_init_5 : decode cX6_init 5 = .ok (.iconst 1, 1) := by decide +kernel
theorem dX6_init_6 : decode cX6_init 6 = .ok (.iload_n 1, 1) := by decide +kernel
theorem dX6_init_7 : decode cX6_init 7 = .ok (.invokestatic 9, 3) := by decide +kernel
theorem dX6_init_10 : decode cX6_init 10 = .ok (.newarray .int, 2) := by decide +kernel
theorem dX6_init_12 : decode cX6_init 12 = .ok (.putfield 15, 3) := by decide +kernel
theorem dX6_init_15 : decode cX6_init 15 = .ok (.return_, 1) := by decide +kernel
theorem dX6_begin_0 : decode cX6_begin 0 = .ok (.aload_n 0, 1) := by decide +kernel
theorem dX6_begin_1 : decode cX6_begin 1 = .ok (.iconst 0, 1) := by decide +kernel
theorem dX6_begin_2 : decode cX6_begin 2 = .ok (.putfield 21, 3) := by decide +kernel
theorem dX6_begin_5 : decode cX6_begin 5 = .ok (.aload_n 0, 1) := by decide +kernel
theorem dX6_begin_6 : decode cX6_begin 6 = .ok (.iconst 0, 1) := by decide +kernel
theorem dX6_begin_7 : decode cX6_begin 7 = .ok (.putfield 25, 3) := by decide +kernel
theorem dX6_begin_10 : decode cX6_begin 10 = .ok (.aload_n 0, 1) := by decide +kernel
theorem dX6_begin_11 : decode cX6_begin 11 = .ok (.iconst 0, 1) := by decide +kernel
theorem dX6_begin_12 : decode cX6_begin 12 = .ok (.putfield 28, 3) := by decide +kernel
theorem dX6_begin_15 : decode cX6_begin 15 = .ok (.aload_n 0, 1) := by decide +kernel
theorem dX6_begin_16 : decode cX6_begin 16 = .ok (.iconst 0, 1) := by decide +kernel
theorem dX6_begin_17 : decode cX6_begin 17 = .ok (.putfield 31, 3) := by decide +kernel
theorem dX6_begin_20 : decode cX6_begin 20 = .ok (.aload_n 0, 1) := by decide +kernel
theorem dX6_begin_21 : decode cX6_begin 21 = .ok (.iload_n 1, 1) := by decide +kernel
theorem dX6_begin_22 : decode cX6_begin 22 = .ok (.putfield 34, 3) := by decide +kernel
theorem dX6_begin_25 : decode cX6_begin 25 = .ok (.return_, 1) := by decide +kernel
theorem dX6_addRun_0 : decode cX6_addRun 0 = .ok (.aload_n 0, 1) := by decide +kernel
theorem dX6_addRun_1 : decode cX6_addRun 1 = .ok (.getfield 28, 3) := by decide +kernel
theorem dX6_addRun_4 : decode cX6_addRun 4 = .ok (.ifCond .lt 35, 3) := by decide +kernel
theorem dX6_addRun_7 : decode cX6_addRun 7 = .ok (.aload_n 0, 1) := by decide +kernel
theorem dX6_addRun_8 : decode cX6_addRun 8 = .ok (.getfield 28, 3) := by decide +kernel
theorem dX6_addRun_11 : decode cX6_addRun 11 = .ok (.aload_n 0, 1) := by decide +kernel
theorem dX6_addRun_12 : decode cX6_addRun 12 = .ok (.getfield 15, 3) := by decide +kernel
theorem dX6_addRun_15 : decode cX6_addRun 15 = .ok (.arraylength, 1) := by decide +kernel
theorem dX6_addRun_16 : decode cX6_addRun 16 = .ok (.if_icmp .ge 23, 3) := by decide +kernel
theorem dX6_addRun_19 : decode cX6_addRun 19 = .ok (.aload_n 0, 1) := by decide +kernel
theorem dX6_addRun_20 : decode cX6_addRun 20 = .ok (.getfield 15, 3) := by decide +kernel
theorem dX6_addRun_23 : decode cX6_addRun 23 = .ok (.aload_n 0, 1) := by decide +kernel
theorem dX6_addRun_24 : decode cX6_addRun 24 = .ok (.getfield 28, 3) := by decide +kernel
theorem dX6_addRun_27 : decode cX6_addRun 27 = .ok (.iload_n 1, 1) := by decide +kernel
theorem dX6_addRun_28 : decode cX6_addRun 28 = .ok (.iastore, 1) := by decide +kernel
theorem dX6_addRun_29 : decode cX6_addRun 29 = .ok (.aload_n 0, 1) := by decide +kernel
theorem dX6_addRun_30 : decode cX6_addRun 30 = .ok (.dup, 1) := by decide +kernel
theorem dX6_addRun_31 : decode cX6_addRun 31 = .ok (.getfield 28, 3) := by decide +kernel
theorem dX6_addRun_34 : decode cX6_addRun 34 = .ok (.iconst 1, 1) := by decide +kernel
theorem dX6_addRun_35 : decode cX6_addRun 35 = .ok (.iadd, 1) := by decide +kernel
theorem dX6_addRun_36 : decode cX6_addRun 36 = .ok (.putfield 28, 3) := by decide +kernel
theorem dX6_addRun_39 : decode cX6_addRun 39 = .ok (.return_, 1) := by decide +kernel
theorem dX6_lengthOf_0 : decode cX6_lengthOf 0 = .ok (.iload_n 1, 1) := by decide +kernel
theorem dX6_lengthOf_1 : decode cX6_lengthOf 1 = .ok (.ifCond .lt 29, 3) := by decide +kernel
theorem dX6_lengthOf_4 : decode cX6_lengthOf 4 = .ok (.iload_n 1, 1) := by decide +kernel
theorem dX6_lengthOf_5 : decode cX6_lengthOf 5 = .ok (.aload_n 0, 1) := by decide +kernel
theorem dX6_lengthOf_6 : decode cX6_lengthOf 6 = .ok (.getfield 28, 3) := by decide +kernel
theorem dX6_lengthOf_9 : decode cX6_lengthOf 9 = .ok (.if_icmp .ge 21, 3) := by decide +kernel
theorem dX6_lengthOf_12 : decode cX6_lengthOf 12 = .ok (.iload_n 1, 1) := by decide +kernel
theorem dX6_lengthOf_13 : decode cX6_lengthOf 13 = .ok (.aload_n 0, 1) := by decide +kernel
theorem dX6_lengthOf_14 : decode cX6_lengthOf 14 = .ok (.getfield 15, 3) := by decide +kernel
theorem dX6_lengthOf_17 : decode cX6_lengthOf 17 = .ok (.arraylength, 1) := by decide +kernel
theorem dX6_lengthOf_18 : decode cX6_lengthOf 18 = .ok (.if_icmp .ge 12, 3) := by decide +kernel
theorem dX6_lengthOf_21 : decode cX6_lengthOf 21 = .ok (.aload_n 0, 1) := by decide +kernel
theorem dX6_lengthOf_22 : decode cX6_lengthOf 22 = .ok (.getfield 15, 3) := by decide +kernel
theorem dX6_lengthOf_25 : decode cX6_lengthOf 25 = .ok (.iload_n 1, 1) := by decide +kernel
theorem dX6_lengthOf_26 : decode cX6_lengthOf 26 = .ok (.iaload, 1) := by decide +kernel
theorem dX6_lengthOf_27 : decode cX6_lengthOf 27 = .ok (.goto 4, 3) := by decide +kernel
theorem dX6_lengthOf_30 : decode cX6_lengthOf 30 = .ok (.iconst (-1), 1) := by decide +kernel
theorem dX6_lengthOf_31 : decode cX6_lengthOf 31 = .ok (.ireturn, 1) := by decide +kernel
theorem dX6_copyFrom_0 : decode cX6_copyFrom 0 = .ok (.aload_n 0, 1) := by decide +kernel
theorem dX6_copyFrom_1 : decode cX6_copyFrom 1 = .ok (.aload_n 1, 1) := by decide +kernel
theorem dX6_copyFrom_2 : decode cX6_copyFrom 2 = .ok (.getfield 21, 3) := by decide +kernel
theorem dX6_copyFrom_5 : decode cX6_copyFrom 5 = .ok (.putfield 21, 3) := by decide +kernel
theorem dX6_copyFrom_8 : decode cX6_copyFrom 8 = .ok (.aload_n 0, 1) := by decide +kernel
theorem dX6_copyFrom_9 : decode cX6_copyFrom 9 = .ok (.aload_n 1, 1) := by decide +kernel
theorem dX6_copyFrom_10 : decode cX6_copyFrom 10 = .ok (.getfield 25, 3) := by decide +kernel
theorem dX6_copyFrom_13 : decode cX6_copyFrom 13 = .ok (.putfield 25, 3) := by decide +kernel
theorem dX6_copyFrom_16 : decode cX6_copyFrom 16 = .ok (.aload_n 0, 1) := by decide +kernel
theorem dX6_copyFrom_17 : decode cX6_copyFrom 17 = .ok (.aload_n 1, 1) := by decide +kernel
theorem dX6_copyFrom_18 : decode cX6_copyFrom 18 = .ok (.getfield 28, 3) := by decide +kernel
theorem dX6_copyFrom_21 : decode cX6_copyFrom 21 = .ok (.putfield 28, 3) := by decide +kernel
theorem dX6_copyFrom_24 : decode cX6_copyFrom 24 = .ok (.aload_n 0, 1) := by decide +kernel
theorem dX6_copyFrom_25 : decode cX6_copyFrom 25 = .ok (.aload_n 1, 1) := by decide +kernel
theorem dX6_copyFrom_26 : decode cX6_copyFrom 26 = .ok (.getfield 31, 3) := by decide +kernel
theorem dX6_copyFrom_29 : decode cX6_copyFrom 29 = .ok (.putfield 31, 3) := by decide +kernel
theorem dX6_copyFrom_32 : decode cX6_copyFrom 32 = .ok (.aload_n 0, 1) := by decide +kernel
theorem dX6_copyFrom_33 : decode cX6_copyFrom 33 = .ok (.aload_n 1, 1) := by decide +kernel
theorem dX6_copyFrom_34 : decode cX6_copyFrom 34 = .ok (.getfield 34, 3) := by decide +kernel
theorem dX6_copyFrom_37 : decode cX6_copyFrom 37 = .ok (.putfield 34, 3) := by decide +kernel
theorem dX6_copyFrom_40 : decode cX6_copyFrom 40 = .ok (.iconst 0, 1) := by decide +kernel
theorem dX6_copyFrom_41 : decode cX6_copyFrom 41 = .ok (.istore_n 2, 1) := by decide +kernel
theorem dX6_copyFrom_42 : decode cX6_copyFrom 42 = .ok (.iload_n 2, 1) := by decide +kernel
theorem dX6_copyFrom_43 : decode cX6_copyFrom 43 = .ok (.aload_n 1, 1) := by decide +kernel
theorem dX6_copyFrom_44 : decode cX6_copyFrom 44 = .ok (.getfield 28, 3) := by decide +kernel
theorem dX6_copyFrom_47 : decode cX6_copyFrom 47 = .ok (.if_icmp .ge 39, 3) := by decide +kernel
theorem dX6_copyFrom_50 : decode cX6_copyFrom 50 = .ok (.iload_n 2, 1) := by decide +kernel
theorem dX6_copyFrom_51 : decode cX6_copyFrom 51 = .ok (.aload_n 1, 1) := by decide +kernel
theorem dX6_copyFrom_52 : decode cX6_copyFrom 52 = .ok (.getfield 15, 3) := by decide +kernel
theorem dX6_copyFrom_55 : decode cX6_copyFrom 55 = .ok (.arraylength, 1) := by decide +kernel
theorem dX6_copyFrom_56 : decode cX6_copyFrom 56 = .ok (.if_icmp .ge 30, 3) := by decide +kernel
theorem dX6_copyFrom_59 : decode cX6_copyFrom 59 = .ok (.iload_n 2, 1) := by decide +kernel
theorem dX6_copyFrom_60 : decode cX6_copyFrom 60 = .ok (.aload_n 0, 1) := by decide +kernel
theorem dX6_copyFrom_61 : decode cX6_copyFrom 61 = .ok (.getfield 15, 3) := by decide +kernel
theorem dX6_copyFrom_64 : decode cX6_copyFrom 64 = .ok (.arraylength, 1) := by decide +kernel
theorem dX6_copyFrom_65 : decode cX6_copyFrom 65 = .ok (.if_icmp .ge 21, 3) := by decide +kernel
theorem dX6_copyFrom_68 : decode cX6_copyFrom 68 = .ok (.aload_n 0, 1) := by decide +kernel
theorem dX6_copyFrom_69 : decode cX6_copyFrom 69 = .ok (.getfield 15, 3) := by decide +kernel
theorem dX6_copyFrom_72 : decode cX6_copyFrom 72 = .ok (.iload_n 2, 1) := by decide +kernel
theorem dX6_copyFrom_73 : decode cX6_copyFrom 73 = .ok (.aload_n 1, 1) := by decide +kernel
theorem dX6_copyFrom_74 : decode cX6_copyFrom 74 = .ok (.getfield 15, 3) := by decide +kernel
theorem dX6_copyFrom_77 : decode cX6_copyFrom 77 = .ok (.iload_n 2, 1) := by decide +kernel
theorem dX6_copyFrom_78 : decode cX6_copyFrom 78 = .ok (.iaload, 1) := by decide +kernel
theorem dX6_copyFrom_79 : decode cX6_copyFrom 79 = .ok (.iastore, 1) := by decide +kernel
theorem dX6_copyFrom_80 : decode cX6_copyFrom 80 = .ok (.iinc 2 1, 3) := by decide +kernel
theorem dX6_copyFrom_83 : decode cX6_copyFrom 83 = .ok (.goto (-41), 3) := by decide +kernel
theorem dX6_copyFrom_86 : decode cX6_copyFrom 86 = .ok (.return_, 1) := by decide +kernel
theorem dX7_init_0 : decode cX7_init 0 = .ok (.aload_n 0, 1) := by decide +kernel
theorem dX7_init_1 : decode cX7_init 1 = .ok (.invokespecial 3, 3) := by decide +kernel
theorem dX7_init_4 : decode cX7_init 4 = .ok (.aload_n 0, 1) := by decide +kernel
theorem dX7_init_5 : decode cX7_init 5 = .ok (.bipush 6, 2) := by decide +kernel
theorem dX7_init_7 : decode cX7_init 7 = .ok (.newarray .int, 2) := by decide +kernel
theorem dX7_init_9 : decode cX7_init 9 = .ok (.putfield 9, 3) := by decide +kernel
theorem dX7_init_12 : decode cX7_init 12 = .ok (.aload_n 0, 1) := by decide +kernel
theorem dX7_init_13 : decode cX7_init 13 = .ok (.bipush 6, 2) := by decide +kernel
theorem dX7_init_15 : decode cX7_init 15 = .ok (.newarray .int, 2) := by decide +kernel
theorem dX7_init_17 : decode cX7_init 17 = .ok (.putfield 13, 3) := by decide +kernel
theorem dX7_init_20 : decode cX7_init 20 = .ok (.iconst 1, 1) := by decide +kernel
theorem dX7_init_21 : decode cX7_init 21 = .ok (.sipush 512, 3) := by decide +kernel
theorem dX7_init_24 : decode cX7_init 24 = .ok (.iload_n 1, 1) := by decide +kernel
theorem dX7_init_25 : decode cX7_init 25 = .ok (.invokestatic 16, 3) := by decide +kernel
theorem dX7_init_28 : decode cX7_init 28 = .ok (.invokestatic 22, 3) := by decide +kernel
theorem dX7_init_31 : decode cX7_init 31 = .ok (.istore_n 3, 1) := by decide +kernel
theorem dX7_init_32 : decode cX7_init 32 = .ok (.iconst 1, 1) := by decide +kernel
theorem dX7_init_33 : decode cX7_init 33 = .ok (.bipush 16, 2) := by decide +kernel
theorem dX7_init_35 : decode cX7_init 35 = .ok (.iload_n 2, 1) := by decide +kernel
theorem dX7_init_36 : decode cX7_init 36 = .ok (.invokestatic 16, 3) := by decide +kernel
theorem dX7_init_39 : decode cX7_init 39 = .ok (.invokestatic 22, 3) := by decide +kernel
theorem dX7_init_42 : decode cX7_init 42 = .ok (.istore 4, 2) := by decide +kernel
theorem dX7_init_44 : decode cX7_init 44 = .ok (.aload_n 0, 1) := by decide +kernel
theorem dX7_init_45 : decode cX7_init 45 = .ok (.new 25, 3) := by decide +kernel
theorem dX7_init_48 : decode cX7_init 48 = .ok (.dup, 1) := by decide +kernel
theorem dX7_init_49 : decode cX7_init 49 = .ok (.iconst 2, 1) := by decide +kernel
theorem dX7_init_50 : decode cX7_init 50 = .ok (.iload_n 3, 1) := by decide +kernel
theorem dX7_init_51 : decode cX7_init 51 = .ok (.imul, 1) := by decide +kernel
theorem dX7_init_52 : decode cX7_init 52 = .ok (.invokespecial 27, 3) := by decide +kernel
theorem dX7_init_55 : decode cX7_init 55 = .ok (.putfield 30, 3) := by decide +kernel
theorem dX7_init_58 : decode cX7_init 58 = .ok (.aload_n 0, 1) := by decide +kernel
theorem dX7_init_59 : decode cX7_init 59 = .ok (.new 25, 3) := by decide +kernel
theorem dX7_init_62 : decode cX7_init 62 = .ok (.dup, 1) := by decide +kernel
theorem dX7_init_63 : decode cX7_init 63 = .ok (.iconst 2, 1) := by decide +kernel
theorem dX7_init_64 : decode cX7_init 64 = .ok (.iload_n 3, 1) := by decide +kernel
theorem dX7_init_65 : decode cX7_init 65 = .ok (.imul, 1) := by decide +kernel
theorem dX7_init_66 : decode cX7_init 66 = .ok (.invokespecial 27, 3) := by decide +kernel
theorem dX7_init_69 : decode cX7_init 69 = .ok (.putfield 34, 3) := by decide +kernel
theorem dX7_init_72 : decode cX7_init 72 = .ok (.aload_n 0, 1) := by decide +kernel
theorem dX7_init_73 : decode cX7_init 73 = .ok (.new 37, 3) := by decide +kernel
theorem dX7_init_76 : decode cX7_init 76 = .ok (.dup, 1) := by decide +kernel
theorem dX7_init_77 : decode cX7_init 77 = .ok (.iload_n 3, 1) := by decide +kernel
theorem dX7_init_78 : decode cX7_init 78 = .ok (.iload 4, 2) := by decide +kernel
theorem dX7_init_80 : decode cX7_init 80 = .ok (.aload_n 0, 1) := by decide +kernel
theorem dX7_init_81 : decode cX7_init 81 = .ok (.getfield 30, 3) := by decide +kernel
theorem dX7_init_84 : decode cX7_init 84 = .ok (.invokespecial 39, 3) := by decide +kernel
theorem dX7_init_87 : decode cX7_init 87 = .ok (.putfield 42, 3) := by decide +kernel
theorem dX7_init_90 : decode cX7_init 90 = .ok (.aload_n 0, 1) := by decide +kernel
theorem dX7_init_91 : decode cX7_init 91 = .ok (.new 46, 3) := by decide +kernel
theorem dX7_init_94 : decode cX7_init 94 = .ok (.dup, 1) := by decide +kernel
theorem dX7_init_95 : decode cX7_init 95 = .ok (.aload_n 0, 1) := by decide +kernel
theorem dX7_init_96 : decode cX7_init 96 = .ok (.getfield 42, 3) := by decide +kernel
theorem dX7_init_99 : decode cX7_init 99 = .ok (.invokespecial 48, 3) := by decide +kernel
theorem dX7_init_102 : decode cX7_init 102 = .ok (.putfield 51, 3) := by decide +kernel
theorem dX7_init_105 : decode cX7_init 105 = .ok (.aload_n 0, 1) := by decide +kernel
theorem dX7_init_106 : decode cX7_init 106 = .ok (.new 55, 3) := by decide +kernel
theorem dX7_init_109 : decode cX7_init 109 = .ok (.dup, 1) := by decide +kernel
theorem dX7_init_110 : decode cX7_init 110 = .ok (.aload_n 0, 1) := by decide +kernel
theorem dX7_init_111 : decode cX7_init 111 = .ok (.getfield 42, 3) := by decide +kernel
theorem dX7_init_114 : decode cX7_init 114 = .ok (.aload_n 0, 1) := by decide +kernel
theorem dX7_init_115 : decode cX7_init 115 = .ok (.getfield 51, 3) := by decide +kernel
theorem dX7_init_118 : decode cX7_init 118 = .ok (.invokespecial 57, 3) := by decide +kernel
theorem dX7_init_121 : decode cX7_init 121 = .ok (.putfield 60, 3) := by decide +kernel
theorem dX7_init_124 : decode cX7_init 124 = .ok (.aload_n 0, 1) := by decide +kernel
theorem dX7_init_125 : decode cX7_init 125 = .ok (.new 64, 3) := by decide +kernel
theorem dX7_init_128 : decode cX7_init 128 = .ok (.dup, 1) := by decide +kernel
theorem dX7_init_129 : decode cX7_init 129 = .ok (.aload_n 0, 1) := by decide +kernel
theorem dX7_init_130 : decode cX7_init 130 = .ok (.getfield 42, 3) := by decide +kernel
theorem dX7_init_133 : decode cX7_init 133 = .ok (.aload_n 0, 1) := by decide +kernel
theorem dX7_init_134 : decode cX7_init 134 = .ok (.getfield 51, 3) := by decide +kernel
theorem dX7_init_137 : decode cX7_init 137 = .ok (.invokespecial 66, 3) := by decide +kernel
theorem dX7_init_140 : decode cX7_init 140 = .ok (.putfield 67, 3) := by decide +kernel
theorem dX7_init_143 : decode cX7_init 143 = .ok (.iconst 0, 1) := by decide +kernel
theorem dX7_init_144 : decode cX7_init 144 = .ok (.istore 5, 2) := by decide +kernel
theorem dX7_init_146 : decode cX7_init 146 = .ok (.iload 5, 2) := by decide +kernel
theorem dX7_init_148 : decode cX7_init 148 = .ok (.bipush 6, 2) := by decide +kernel
theorem dX7_init_150 : decode cX7_init 150 = .ok (.if_icmp .ge 17, 3) := by decide +kernel
theorem dX7_init_153 : decode cX7_init 153 = .ok (.aload_n 0, 1) := by decide +kernel
theorem dX7_init_154 : decode cX7_init 154 = .ok (.getfield 9, 3) := by decide +kernel
theorem dX7_init_157 : decode cX7_init 157 = .ok (.iload 5, 2) := by decide +kernel
theorem dX7_init_159 : decode cX7_init 159 = .ok (.iconst (-1), 1) := by decide +kernel
theorem dX7_init_160 : decode cX7_init 160 = .ok (.iastore, 1) := by decide +kernel
theorem dX7_init_161 : decode cX7_init 161 = .ok (.iinc 5 1, 3) := by decide +kernel
theorem dX7_init_164 : decode cX7_init 164 = .ok (.goto (-18), 3) := by decide +kernel
theorem dX7_init_167 : decode cX7_init 167 = .ok (.return_, 1) := by decide +kernel
theorem dX7_append_0 : decode cX7_append 0 = .ok (.iload_n 1, 1) := by decide +kernel
theorem dX7_append_1 : decode cX7_append 1 = .ok (.invokestatic 71, 3) := by decide +kernel
theorem dX7_append_4 : decode cX7_append 4 = .ok (.ifCond .ne 5, 3) := by decide +kernel
theorem dX7_append_7 : decode cX7_append 7 = .ok (.iconst (-1), 1) := by decide +kernel
theorem dX7_append_8 : decode cX7_append 8 = .ok (.ireturn, 1) := by decide +kernel
theorem dX7_append_9 : decode cX7_append 9 = .ok (.aload_n 0, 1) := by decide +kernel
theorem dX7_append_10 : decode cX7_append 10 = .ok (.getfield 13, 3) := by decide +kernel
theorem dX7_append_13 : decode cX7_append 13 = .ok (.iload_n 1, 1) := by decide +kernel
theorem dX7_append_14 : decode cX7_append 14 = .ok (.iaload, 1) := by decide +kernel
theorem dX7_append_15 : decode cX7_append 15 = .ok (.istore 4, 2) := by decide +kernel
theorem dX7_append_17 : decode cX7_append 17 = .ok (.aload_n 0, 1) := by decide +kernel
theorem dX7_append_18 : decode cX7_append 18 = .ok (.getfield 42, 3) := by decide +kernel
theorem dX7_append_21 : decode cX7_append 21 = .ok (.iload 4, 2) := by decide +kernel
theorem dX7_append_23 : decode cX7_append 23 = .ok (.invokevirtual 75, 3) := by decide +kernel
theorem dX7_append_26 : decode cX7_append 26 = .ok (.istore 5, 2) := by decide +kernel
theorem dX7_append_28 : decode cX7_append 28 = .ok (.iload 5, 2) := by decide +kernel
theorem dX7_append_30 : decode cX7_append 30 = .ok (.ifCond .ne 11, 3) := by decide +kernel
theorem dX7_append_33 : decode cX7_append 33 = .ok (.aload_n 0, 1) := by decide +kernel
theorem dX7_append_34 : decode cX7_append 34 = .ok (.iload_n 1, 1) := by decide +kernel
theorem dX7_append_35 : decode cX7_append 35 = .ok (.invokevirtual 79, 3) := by decide +kernel
theorem dX7_append_38 : decode cX7_append 38 = .ok (.goto 18, 3) := by decide +kernel
theorem dX7_append_41 : decode cX7_append 41 = .ok (.aload_n 0, 1) := by decide +kernel
theorem dX7_append_42 : decode cX7_append 42 = .ok (.getfield 42, 3) := by decide +kernel
theorem dX7_append_45 : decode cX7_append 45 = .ok (.aload_n 0, 1) := by decide +kernel
theorem dX7_append_46 : decode cX7_append 46 = .ok (.getfield 9, 3) := by decide +kernel
theorem dX7_append_49 : decode cX7_append 49 = .ok (.iload_n 1, 1) := by decide +kernel
theorem dX7_append_50 : decode cX7_append 50 = .ok (.iaload, 1) := by decide +kernel
theorem dX7_append_51 : decode cX7_append 51 = .ok (.iload 4, 2) := by decide +kernel
theorem dX7_append_53 : decode cX7_append 53 = .ok (.invokevirtual 82, 3) := by decide +kernel
theorem dX7_append_56 : decode cX7_append 56 = .ok (.istore 6, 2) := by decide +kernel
theorem dX7_append_58 : decode cX7_append 58 = .ok (.iload 6, 2) := by decide +kernel
theorem dX7_append_60 : decode cX7_append 60 = .ok (.iconst (-1), 1) := by decide +kernel
theorem dX7_append_61 : decode cX7_append 61 = .ok (.if_icmp .ne 5, 3) := by decide +kernel
theorem dX7_append_64 : decode cX7_append 64 = .ok (.iconst (-1), 1) := by decide +kernel
theorem dX7_append_65 : decode cX7_append 65 = .ok (.ireturn, 1) := by decide +kernel
theorem dX7_append_66 : decode cX7_append 66 = .ok (.aload_n 0, 1) := by decide +kernel
theorem dX7_append_67 : decode cX7_append 67 = .ok (.getfield 42, 3) := by decide +kernel
theorem dX7_append_70 : decode cX7_append 70 = .ok (.iload 6, 2) := by decide +kernel
theorem dX7_append_72 : decode cX7_append 72 = .ok (.iload 5, 2) := by decide +kernel
theorem dX7_append_74 : decode cX7_append 74 = .ok (.iload_n 2, 1) := by decide +kernel
theorem dX7_append_75 : decode cX7_append 75 = .ok (.iload_n 3, 1) := by decide +kernel
theorem dX7_append_76 : decode cX7_append 76 = .ok (.invokevirtual 85, 3) := by decide +kernel
theorem dX7_append_79 : decode cX7_append 79 = .ok (.aload_n 0, 1) := by decide +kernel
theorem dX7_append_80 : decode cX7_append 80 = .ok (.getfield 13, 3) := by decide +kernel
theorem dX7_append_83 : decode cX7_append 83 = .ok (.iload_n 1, 1) := by decide +kernel
theorem dX7_append_84 : decode cX7_append 84 = .ok (.iload 4, 2) := by decide +kernel
theorem dX7_append_86 : decode cX7_append 86 = .ok (.iconst 1, 1) := by decide +kernel
theorem dX7_append_87 : decode cX7_append 87 = .ok (.iadd, 1) := by decide +kernel
theorem dX7_append_88 : decode cX7_append 88 = .ok (.iastore, 1) := by decide +kernel
theorem dX7_append_89 : decode cX7_append 89 = .ok (.iload 4, 2) := by decide +kernel
theorem dX7_append_91 : decode cX7_append 91 = .ok (.iconst 1, 1) := by decide +kernel
theorem dX7_append_92 : decode cX7_append 92 = .ok (.iadd, 1) := by decide +kernel
theorem dX7_append_93 : decode cX7_append 93 = .ok (.ireturn, 1) := by decide +kernel
theorem dX7_drop_0 : decode cX7_drop 0 = .ok (.iload_n 1, 1) := by decide +kernel
theorem dX7_drop_1 : decode cX7_drop 1 = .ok (.invokestatic 71, 3) := by decide +kernel
theorem dX7_drop_4 : decode cX7_drop 4 = .ok (.ifCond .ne 5, 3) := by decide +kernel
theorem dX7_drop_7 : decode cX7_drop 7 = .ok (.iconst (-1), 1) := by decide +kernel
theorem dX7_drop_8 : decode cX7_drop 8 = .ok (.ireturn, 1) := by decide +kernel
theorem dX7_drop_9 : decode cX7_drop 9 = .ok (.aload_n 0, 1) := by decide +kernel
theorem dX7_drop_10 : decode cX7_drop 10 = .ok (.getfield 9, 3) := by decide +kernel
theorem dX7_drop_13 : decode cX7_drop 13 = .ok (.iload_n 1, 1) := by decide +kernel
theorem dX7_drop_14 : decode cX7_drop 14 = .ok (.iconst (-1), 1) := by decide +kernel
theorem dX7_drop_15 : decode cX7_drop 15 = .ok (.iastore, 1) := by decide +kernel
theorem dX7_drop_16 : decode cX7_drop 16 = .ok (.aload_n 0, 1) := by decide +kernel
theorem dX7_drop_17 : decode cX7_drop 17 = .ok (.getfield 13, 3) := by decide +kernel
theorem dX7_drop_20 : decode cX7_drop 20 = .ok (.iload_n 1, 1) := by decide +kernel
theorem dX7_drop_21 : decode cX7_drop 21 = .ok (.iconst 0, 1) := by decide +kernel
theorem dX7_drop_22 : decode cX7_drop 22 = .ok (.iastore, 1) := by decide +kernel
theorem dX7_drop_23 : decode cX7_drop 23 = .ok (.aload_n 0, 1) := by decide +kernel
theorem dX7_drop_24 : decode cX7_drop 24 = .ok (.getfield 42, 3) := by decide +kernel
theorem dX7_drop_27 : decode cX7_drop 27 = .ok (.iload_n 1, 1) := by decide +kernel
theorem dX7_drop_28 : decode cX7_drop 28 = .ok (.invokevirtual 89, 3) := by decide +kernel
theorem dX7_drop_31 : decode cX7_drop 31 = .ok (.ireturn, 1) := by decide +kernel
theorem dX7_sort_0 : decode cX7_sort 0 = .ok (.iload_n 1, 1) := by decide +kernel
theorem dX7_sort_1 : decode cX7_sort 1 = .ok (.invokestatic 71, 3) := by decide +kernel
theorem dX7_sort_4 : decode cX7_sort 4 = .ok (.ifCond .eq 25, 3) := by decide +kernel
theorem dX7_sort_7 : decode cX7_sort 7 = .ok (.iload_n 2, 1) := by decide +kernel
theorem dX7_sort_8 : decode cX7_sort 8 = .ok (.invokestatic 71, 3) := by decide +kernel
theorem dX7_sort_11 : decode cX7_sort 11 = .ok (.ifCond .eq 18, 3) := by decide +kernel
theorem dX7_sort_14 : decode cX7_sort 14 = .ok (.iload_n 3, 1) := by decide +kernel
theorem dX7_sort_15 : decode cX7_sort 15 = .ok (.invokestatic 92, 3) := by decide +kernel
theorem dX7_sort_18 : decode cX7_sort 18 = .ok (.ifCond .eq 11, 3) := by decide +kernel
theorem dX7_sort_21 : decode cX7_sort 21 = .ok (.iload 4, 2) := by decide +kernel
theorem dX7_sort_23 : decode cX7_sort 23 = .ok (.invokestatic 95, 3) := by decide +kernel
theorem dX7_sort_26 : decode cX7_sort 26 = .ok (.ifCond .ne 5, 3) := by decide +kernel
theorem dX7_sort_29 : decode cX7_sort 29 = .ok (.iconst (-1), 1) := by decide +kernel
theorem dX7_sort_30 : decode cX7_sort 30 = .ok (.ireturn, 1) := by decide +kernel
theorem dX7_sort_31 : decode cX7_sort 31 = .ok (.aload_n 0, 1) := by decide +kernel
theorem dX7_sort_32 : decode cX7_sort 32 = .ok (.iload_n 3, 1) := by decide +kernel
theorem dX7_sort_33 : decode cX7_sort 33 = .ok (.iload 4, 2) := by decide +kernel
theorem dX7_sort_35 : decode cX7_sort 35 = .ok (.iconst 0, 1) := by decide +kernel
theorem dX7_sort_36 : decode cX7_sort 36 = .ok (.invokevirtual 98, 3) := by decide +kernel
theorem dX7_sort_39 : decode cX7_sort 39 = .ok (.aload_n 0, 1) := by decide +kernel
theorem dX7_sort_40 : decode cX7_sort 40 = .ok (.iload_n 2, 1) := by decide +kernel
theorem dX7_sort_41 : decode cX7_sort 41 = .ok (.aload_n 0, 1) := by decide +kernel
theorem dX7_sort_42 : decode cX7_sort 42 = .ok (.getfield 60, 3) := by decide +kernel
theorem dX7_sort_45 : decode cX7_sort 45 = .ok (.aload_n 0, 1) := by decide +kernel
theorem dX7_sort_46 : decode cX7_sort 46 = .ok (.getfield 9, 3) := by decide +kernel
theorem dX7_sort_49 : decode cX7_sort 49 = .ok (.iload_n 1, 1) := by decide +kernel
theorem dX7_sort_50 : decode cX7_sort 50 = .ok (.iaload, 1) := by decide +kernel
theorem dX7_sort_51 : decode cX7_sort 51 = .ok (.aload_n 0, 1) := by decide +kernel
theorem dX7_sort_52 : decode cX7_sort 52 = .ok (.getfield 13, 3) := by decide +kernel
theorem dX7_sort_55 : decode cX7_sort 55 = .ok (.iload_n 1, 1) := by decide +kernel
theorem dX7_sort_56 : decode cX7_sort 56 = .ok (.iaload, 1) := by decide +kernel
theorem dX7_sort_57 : decode cX7_sort 57 = .ok (.invokevirtual 102, 3) := by decide +kernel
theorem dX7_sort_60 : decode cX7_sort 60 = .ok (.invokevirtual 106, 3) := by decide +kernel
theorem dX7_sort_63 : decode cX7_sort 63 = .ok (.ireturn, 1) := by decide +kernel
theorem dX7_distinct_0 : decode cX7_distinct 0 = .ok (.iload_n 1, 1) := by decide +kernel
theorem dX7_distinct_1 : decode cX7_distinct 1 = .ok (.invokestatic 71, 3) := by decide +kernel
theorem dX7_distinct_4 : decode cX7_distinct 4 = .ok (.ifCond .eq 17, 3) := by decide +kernel
theorem dX7_distinct_7 : decode cX7_distinct 7 = .ok (.iload_n 2, 1) := by decide +kernel
theorem dX7_distinct_8 : decode cX7_distinct 8 = .ok (.invokestatic 71, 3) := by decide +kernel
theorem dX7_distinct_11 : decode cX7_distinct 11 = .ok (.ifCond .eq 10, 3) := by decide +kernel
theorem dX7_distinct_14 : decode cX7_distinct 14 = .ok (.iload_n 3, 1) := by decide +kernel
theorem dX7_distinct_15 : decode cX7_distinct 15 = .ok (.invokestatic 92, 3) := by decide +kernel
theorem dX7_distinct_18 : decode cX7_distinct 18 = .ok (.ifCond .ne 5, 3) := by decide +kernel
theorem dX7_distinct_21 : decode cX7_distinct 21 = .ok (.iconst (-1), 1) := by decide +kernel
theorem dX7_distinct_22 : decode cX7_distinct 22 = .ok (.ireturn, 1) := by decide +kernel
theorem dX7_distinct_23 : decode cX7_distinct 23 = .ok (.aload_n 0, 1) := by decide +kernel
theorem dX7_distinct_24 : decode cX7_distinct 24 = .ok (.iload_n 3, 1) := by decide +kernel
theorem dX7_distinct_25 : decode cX7_distinct 25 = .ok (.iconst 1, 1) := by decide +kernel
theorem dX7_distinct_26 : decode cX7_distinct 26 = .ok (.iconst 1, 1) := by decide +kernel
theorem dX7_distinct_27 : decode cX7_distinct 27 = .ok (.invokevirtual 98, 3) := by decide +kernel
theorem dX7_distinct_30 : decode cX7_distinct 30 = .ok (.aload_n 0, 1) := by decide +kernel
theorem dX7_distinct_31 : decode cX7_distinct 31 = .ok (.iload_n 2, 1) := by decide +kernel
theorem dX7_distinct_32 : decode cX7_distinct 32 = .ok (.aload_n 0, 1) := by decide +kernel
theorem dX7_distinct_33 : decode cX7_distinct 33 = .ok (.getfield 60, 3) := by decide +kernel
theorem dX7_distinct_36 : decode cX7_distinct 36 = .ok (.aload_n 0, 1) := by decide +kernel
theorem dX7_distinct_37 : decode cX7_distinct 37 = .ok (.getfield 9, 3) := by decide +kernel
theorem dX7_distinct_40 : decode cX7_distinct 40 = .ok (.iload_n 1, 1) := by decide +kernel
theorem dX7_distinct_41 : decode cX7_distinct 41 = .ok (.iaload, 1) := by decide +kernel
theorem dX7_distinct_42 : decode cX7_distinct 42 = .ok (.aload_n 0, 1) := by decide +kernel
theorem dX7_distinct_43 : decode cX7_distinct 43 = .ok (.getfield 13, 3) := by decide +kernel
theorem dX7_distinct_46 : decode cX7_distinct 46 = .ok (.iload_n 1, 1) := by decide +kernel
theorem dX7_distinct_47 : decode cX7_distinct 47 = .ok (.iaload, 1) := by decide +kernel
theorem dX7_distinct_48 : decode cX7_distinct 48 = .ok (.invokevirtual 102, 3) := by decide +kernel
theorem dX7_distinct_51 : decode cX7_distinct 51 = .ok (.invokevirtual 106, 3) := by decide +kernel
theorem dX7_distinct_54 : decode cX7_distinct 54 = .ok (.ireturn, 1) := by decide +kernel
theorem dX7_join_0 : decode cX7_join 0 = .ok (.iload_n 1, 1) := by decide +kernel
theorem dX7_join_1 : decode cX7_join 1 = .ok (.invokestatic 71, 3) := by decide +kernel
theorem dX7_join_4 : decode cX7_join 4 = .ok (.ifCond .eq 25, 3) := by decide +kernel
theorem dX7_join_7 : decode cX7_join 7 = .ok (.iload_n 2, 1) := by decide +kernel
theorem dX7_join_8 : decode cX7_join 8 = .ok (.invokestatic 71, 3) := by decide +kernel
theorem dX7_join_11 : decode cX7_join 11 = .ok (.ifCond .eq 18, 3) := by decide +kernel
theorem dX7_join_14 : decode cX7_join 14 = .ok (.iload_n 3, 1) := by decide +kernel
theorem dX7_join_15 : decode cX7_join 15 = .ok (.invokestatic 71, 3) := by decide +kernel
theorem dX7_join_18 : decode cX7_join 18 = .ok (.ifCond .eq 11, 3) := by decide +kernel
theorem dX7_join_21 : decode cX7_join 21 = .ok (.iload 4, 2) := by decide +kernel
theorem dX7_join_23 : decode cX7_join 23 = .ok (.invokestatic 92, 3) := by decide +kernel
theorem dX7_join_26 : decode cX7_join 26 = .ok (.ifCond .ne 5, 3) := by decide +kernel
theorem dX7_join_29 : decode cX7_join 29 = .ok (.iconst (-1), 1) := by decide +kernel
theorem dX7_join_30 : decode cX7_join 30 = .ok (.ireturn, 1) := by decide +kernel
theorem dX7_join_31 : decode cX7_join 31 = .ok (.aload_n 0, 1) := by decide +kernel
theorem dX7_join_32 : decode cX7_join 32 = .ok (.iload 4, 2) := by decide +kernel
theorem dX7_join_34 : decode cX7_join 34 = .ok (.iconst 0, 1) := by decide +kernel
theorem dX7_join_35 : decode cX7_join 35 = .ok (.iconst 0, 1) := by decide +kernel
theorem dX7_join_36 : decode cX7_join 36 = .ok (.invokevirtual 98, 3) := by decide +kernel
theorem dX7_join_39 : decode cX7_join 39 = .ok (.aload_n 0, 1) := by decide +kernel
theorem dX7_join_40 : decode cX7_join 40 = .ok (.getfield 60, 3) := by decide +kernel
theorem dX7_join_43 : decode cX7_join 43 = .ok (.aload_n 0, 1) := by decide +kernel
theorem dX7_join_44 : decode cX7_join 44 = .ok (.getfield 9, 3) := by decide +kernel
theorem dX7_join_47 : decode cX7_join 47 = .ok (.iload_n 1, 1) := by decide +kernel
theorem dX7_join_48 : decode cX7_join 48 = .ok (.iaload, 1) := by decide +kernel
theorem dX7_join_49 : decode cX7_join 49 = .ok (.aload_n 0, 1) := by decide +kernel
theorem dX7_join_50 : decode cX7_join 50 = .ok (.getfield 13, 3) := by decide +kernel
theorem dX7_join_53 : decode cX7_join 53 = .ok (.iload_n 1, 1) := by decide +kernel
theorem dX7_join_54 : decode cX7_join 54 = .ok (.iaload, 1) := by decide +kernel
theorem dX7_join_55 : decode cX7_join 55 = .ok (.invokevirtual 102, 3) := by decide +kernel
theorem dX7_join_58 : decode cX7_join 58 = .ok (.ifCond .ne 10, 3) := by decide +kernel
theorem dX7_join_61 : decode cX7_join 61 = .ok (.aload_n 0, 1) := by decide +kernel
theorem dX7_join_62 : decode cX7_join 62 = .ok (.bipush (-2), 2) := by decide +kernel
theorem dX7_join_64 : decode cX7_join 64 = .ok (.invokevirtual 110, 3) := by decide +kernel
theorem dX7_join_67 : decode cX7_join 67 = .ok (.ireturn, 1) := by decide +kernel
theorem dX7_join_68 : decode cX7_join 68 = .ok (.aload_n 0, 1) := by decide +kernel
theorem dX7_join_69 : decode cX7_join 69 = .ok (.getfield 60, 3) := by decide +kernel
theorem dX7_join_72 : decode cX7_join 72 = .ok (.getfield 113, 3) := by decide +kernel
theorem dX7_join_75 : decode cX7_join 75 = .ok (.istore 5, 2) := by decide +kernel
theorem dX7_join_77 : decode cX7_join 77 = .ok (.aload_n 0, 1) := by decide +kernel
theorem dX7_join_78 : decode cX7_join 78 = .ok (.getfield 60, 3) := by decide +kernel
theorem dX7_join_81 : decode cX7_join 81 = .ok (.getfield 117, 3) := by decide +kernel
theorem dX7_join_84 : decode cX7_join 84 = .ok (.istore 6, 2) := by decide +kernel
theorem dX7_join_86 : decode cX7_join 86 = .ok (.aload_n 0, 1) := by decide +kernel
theorem dX7_join_87 : decode cX7_join 87 = .ok (.getfield 60, 3) := by decide +kernel
theorem dX7_join_90 : decode cX7_join 90 = .ok (.aload_n 0, 1) := by decide +kernel
theorem dX7_join_91 : decode cX7_join 91 = .ok (.getfield 9, 3) := by decide +kernel
theorem dX7_join_94 : decode cX7_join 94 = .ok (.iload_n 2, 1) := by decide +kernel
theorem dX7_join_95 : decode cX7_join 95 = .ok (.iaload, 1) := by decide +kernel
theorem dX7_join_96 : decode cX7_join 96 = .ok (.aload_n 0, 1) := by decide +kernel
theorem dX7_join_97 : decode cX7_join 97 = .ok (.getfield 13, 3) := by decide +kernel
theorem dX7_join_100 : decode cX7_join 100 = .ok (.iload_n 2, 1) := by decide +kernel
theorem dX7_join_101 : decode cX7_join 101 = .ok (.iaload, 1) := by decide +kernel
theorem dX7_join_102 : decode cX7_join 102 = .ok (.invokevirtual 102, 3) := by decide +kernel
theorem dX7_join_105 : decode cX7_join 105 = .ok (.ifCond .ne 10, 3) := by decide +kernel
theorem dX7_join_108 : decode cX7_join 108 = .ok (.aload_n 0, 1) := by decide +kernel
theorem dX7_join_109 : decode cX7_join 109 = .ok (.bipush (-2), 2) := by decide +kernel
theorem dX7_join_111 : decode cX7_join 111 = .ok (.invokevirtual 110, 3) := by decide +kernel
theorem dX7_join_114 : decode cX7_join 114 = .ok (.ireturn, 1) := by decide +kernel
theorem dX7_join_115 : decode cX7_join 115 = .ok (.aload_n 0, 1) := by decide +kernel
theorem dX7_join_116 : decode cX7_join 116 = .ok (.getfield 67, 3) := by decide +kernel
theorem dX7_join_119 : decode cX7_join 119 = .ok (.iload 5, 2) := by decide +kernel
theorem dX7_join_121 : decode cX7_join 121 = .ok (.iload 6, 2) := by decide +kernel
theorem dX7_join_123 : decode cX7_join 123 = .ok (.aload_n 0, 1) := by decide +kernel
theorem dX7_join_124 : decode cX7_join 124 = .ok (.getfield 60, 3) := by decide +kernel
theorem dX7_join_127 : decode cX7_join 127 = .ok (.getfield 113, 3) := by decide +kernel
theorem dX7_join_130 : decode cX7_join 130 = .ok (.aload_n 0, 1) := by decide +kernel
theorem dX7_join_131 : decode cX7_join 131 = .ok (.getfield 60, 3) := by decide +kernel
theorem dX7_join_134 : decode cX7_join 134 = .ok (.getfield 117, 3) := by decide +kernel
theorem dX7_join_137 : decode cX7_join 137 = .ok (.invokevirtual 120, 3) := by decide +kernel
theorem dX7_join_140 : decode cX7_join 140 = .ok (.aload_n 0, 1) := by decide +kernel
theorem dX7_join_141 : decode cX7_join 141 = .ok (.getfield 67, 3) := by decide +kernel
theorem dX7_join_144 : decode cX7_join 144 = .ok (.invokevirtual 123, 3) := by decide +kernel
theorem dX7_join_147 : decode cX7_join 147 = .ok (.aload_n 0, 1) := by decide +kernel
theorem dX7_join_148 : decode cX7_join 148 = .ok (.getfield 60, 3) := by decide +kernel
theorem dX7_join_151 : decode cX7_join 151 = .ok (.invokevirtual 127, 3) := by decide +kernel
theorem dX7_join_154 : decode cX7_join 154 = .ok (.if_icmp .le 10, 3) := by decide +kernel
theorem dX7_join_157 : decode cX7_join 157 = .ok (.aload_n 0, 1) := by decide +kernel
theorem dX7_join_158 : decode cX7_join 158 = .ok (.bipush (-3), 2) := by decide +kernel
theorem dX7_join_160 : decode cX7_join 160 = .ok (.invokevirtual 110, 3) := by decide +kernel
theorem dX7_join_163 : decode cX7_join 163 = .ok (.ireturn, 1) := by decide +kernel
theorem dX7_join_164 : decode cX7_join 164 = .ok (.aload_n 0, 1) := by decide +kernel
theorem dX7_join_165 : decode cX7_join 165 = .ok (.getfield 67, 3) := by decide +kernel
theorem dX7_join_168 : decode cX7_join 168 = .ok (.invokevirtual 130, 3) := by decide +kernel
theorem dX7_join_171 : decode cX7_join 171 = .ok (.ifCond .eq 13, 3) := by decide +kernel
theorem dX7_join_174 : decode cX7_join 174 = .ok (.aload_n 0, 1) := by decide +kernel
theorem dX7_join_175 : decode cX7_join 175 = .ok (.getfield 67, 3) := by decide +kernel
theorem dX7_join_178 : decode cX7_join 178 = .ok (.invokevirtual 134, 3) := by decide +kernel
theorem dX7_join_181 : decode cX7_join 181 = .ok (.ifCond .ne 10, 3) := by decide +kernel
theorem dX7_join_184 : decode cX7_join 184 = .ok (.aload_n 0, 1) := by decide +kernel
theorem dX7_join_185 : decode cX7_join 185 = .ok (.bipush (-2), 2) := by decide +kernel
theorem dX7_join_187 : decode cX7_join 187 = .ok (.invokevirtual 110, 3) := by decide +kernel
theorem dX7_join_190 : decode cX7_join 190 = .ok (.ireturn, 1) := by decide +kernel
theorem dX7_join_191 : decode cX7_join 191 = .ok (.aload_n 0, 1) := by decide +kernel
theorem dX7_join_192 : decode cX7_join 192 = .ok (.iload_n 3, 1) := by decide +kernel
theorem dX7_join_193 : decode cX7_join 193 = .ok (.aload_n 0, 1) := by decide +kernel
theorem dX7_join_194 : decode cX7_join 194 = .ok (.getfield 51, 3) := by decide +kernel
theorem dX7_join_197 : decode cX7_join 197 = .ok (.getfield 137, 3) := by decide +kernel
theorem dX7_join_200 : decode cX7_join 200 = .ok (.aload_n 0, 1) := by decide +kernel
theorem dX7_join_201 : decode cX7_join 201 = .ok (.getfield 51, 3) := by decide +kernel
theorem dX7_join_204 : decode cX7_join 204 = .ok (.getfield 140, 3) := by decide +kernel
theorem dX7_join_207 : decode cX7_join 207 = .ok (.invokevirtual 143, 3) := by decide +kernel
theorem dX7_join_210 : decode cX7_join 210 = .ok (.ireturn, 1) := by decide +kernel
theorem dX7_size_0 : decode cX7_size 0 = .ok (.iload_n 1, 1) := by decide +kernel
theorem dX7_size_1 : decode cX7_size 1 = .ok (.invokestatic 71, 3) := by decide +kernel
theorem dX7_size_4 : decode cX7_size 4 = .ok (.ifCond .eq 12, 3) := by decide +kernel
theorem dX7_size_7 : decode cX7_size 7 = .ok (.aload_n 0, 1) := by decide +kernel
theorem dX7_size_8 : decode cX7_size 8 = .ok (.getfield 13, 3) := by decide +kernel
theorem dX7_size_11 : decode cX7_size 11 = .ok (.iload_n 1, 1) := by decide +kernel
theorem dX7_size_12 : decode cX7_size 12 = .ok (.iaload, 1) := by decide +kernel
theorem dX7_size_13 : decode cX7_size 13 = .ok (.goto 4, 3) := by decide +kernel
theorem dX7_size_16 : decode cX7_size 16 = .ok (.iconst (-1), 1) := by decide +kernel
theorem dX7_size_17 : decode cX7_size 17 = .ok (.ireturn, 1) := by decide +kernel
theorem dX7_key_0 : decode cX7_key 0 = .ok (.aload_n 0, 1) := by decide +kernel
theorem dX7_key_1 : decode cX7_key 1 = .ok (.iload_n 1, 1) := by decide +kernel
theorem dX7_key_2 : decode cX7_key 2 = .ok (.iload_n 2, 1) := by decide +kernel
theorem dX7_key_3 : decode cX7_key 3 = .ok (.invokevirtual 147, 3) := by decide +kernel
theorem dX7_key_6 : decode cX7_key 6 = .ok (.ifCond .eq 35, 3) := by decide +kernel
theorem dX7_key_9 : decode cX7_key 9 = .ok (.aload_n 0, 1) := by decide +kernel
theorem dX7_key_10 : decode cX7_key 10 = .ok (.getfield 42, 3) := by decide +kernel
theorem dX7_key_13 : decode cX7_key 13 = .ok (.aload_n 0, 1) := by decide +kernel
theorem dX7_key_14 : decode cX7_key 14 = .ok (.getfield 42, 3) := by decide +kernel
theorem dX7_key_17 : decode cX7_key 17 = .ok (.aload_n 0, 1) := by decide +kernel
theorem dX7_key_18 : decode cX7_key 18 = .ok (.getfield 9, 3) := by decide +kernel
theorem dX7_key_21 : decode cX7_key 21 = .ok (.iload_n 1, 1) := by decide +kernel
theorem dX7_key_22 : decode cX7_key 22 = .ok (.iaload, 1) := by decide +kernel
theorem dX7_key_23 : decode cX7_key 23 = .ok (.iload_n 2, 1) := by decide +kernel
theorem dX7_key_24 : decode cX7_key 24 = .ok (.invokevirtual 82, 3) := by decide +kernel
theorem dX7_key_27 : decode cX7_key 27 = .ok (.aload_n 0, 1) := by decide +kernel
theorem dX7_key_28 : decode cX7_key 28 = .ok (.getfield 42, 3) := by decide +kernel
theorem dX7_key_31 : decode cX7_key 31 = .ok (.iload_n 2, 1) := by decide +kernel
theorem dX7_key_32 : decode cX7_key 32 = .ok (.invokevirtual 75, 3) := by decide +kernel
theorem dX7_key_35 : decode cX7_key 35 = .ok (.invokevirtual 150, 3) := by decide +kernel
theorem dX7_key_38 : decode cX7_key 38 = .ok (.goto 4, 3) := by decide +kernel
theorem dX7_key_41 : decode cX7_key 41 = .ok (.iconst 0, 1) := by decide +kernel
theorem dX7_key_42 : decode cX7_key 42 = .ok (.ireturn, 1) := by decide +kernel
theorem dX7_tag_0 : decode cX7_tag 0 = .ok (.aload_n 0, 1) := by decide +kernel
theorem dX7_tag_1 : decode cX7_tag 1 = .ok (.iload_n 1, 1) := by decide +kernel
theorem dX7_tag_2 : decode cX7_tag 2 = .ok (.iload_n 2, 1) := by decide +kernel
theorem dX7_tag_3 : decode cX7_tag 3 = .ok (.invokevirtual 147, 3) := by decide +kernel
theorem dX7_tag_6 : decode cX7_tag 6 = .ok (.ifCond .eq 35, 3) := by decide +kernel
theorem dX7_tag_9 : decode cX7_tag 9 = .ok (.aload_n 0, 1) := by decide +kernel
theorem dX7_tag_10 : decode cX7_tag 10 = .ok (.getfield 42, 3) := by decide +kernel
theorem dX7_tag_13 : decode cX7_tag 13 = .ok (.aload_n 0, 1) := by decide +kernel
theorem dX7_tag_14 : decode cX7_tag 14 = .ok (.getfield 42, 3) := by decide +kernel
theorem dX7_tag_17 : decode cX7_tag 17 = .ok (.aload_n 0, 1) := by decide +kernel
theorem dX7_tag_18 : decode cX7_tag 18 = .ok (.getfield 9, 3) := by decide +kernel
theorem dX7_tag_21 : decode cX7_tag 21 = .ok (.iload_n 1, 1) := by decide +kernel
theorem dX7_tag_22 : decode cX7_tag 22 = .ok (.iaload, 1) := by decide +kernel
theorem dX7_tag_23 : decode cX7_tag 23 = .ok (.iload_n 2, 1) := by decide +kernel
theorem dX7_tag_24 : decode cX7_tag 24 = .ok (.invokevirtual 82, 3) := by decide +kernel
theorem dX7_tag_27 : decode cX7_tag 27 = .ok (.aload_n 0, 1) := by decide +kernel
theorem dX7_tag_28 : decode cX7_tag 28 = .ok (.getfield 42, 3) := by decide +kernel
theorem dX7_tag_31 : decode cX7_tag 31 = .ok (.iload_n 2, 1) := by decide +kernel
theorem dX7_tag_32 : decode cX7_tag 32 = .ok (.invokevirtual 75, 3) := by decide +kernel
theorem dX7_tag_35 : decode cX7_tag 35 = .ok (.invokevirtual 153, 3) := by decide +kernel
theorem dX7_tag_38 : decode cX7_tag 38 = .ok (.goto 4, 3) := by decide +kernel
theorem dX7_tag_41 : decode cX7_tag 41 = .ok (.iconst 0, 1) := by decide +kernel
theorem dX7_tag_42 : decode cX7_tag 42 = .ok (.ireturn, 1) := by decide +kernel
theorem dX7_told_0 : decode cX7_told 0 = .ok (.iload_n 1, 1) := by decide +kernel
theorem dX7_told_1 : decode cX7_told 1 = .ok (.tableswitch 131 0 8 #[51, 67, 75, 83, 91, 99, 107, 115, 123], 51) := by decide +kernel
theorem dX7_told_52 : decode cX7_told 52 = .ok (.aload_n 0, 1) := by decide +kernel
theorem dX7_told_53 : decode cX7_told 53 = .ok (.getfield 34, 3) := by decide +kernel
theorem dX7_told_56 : decode cX7_told 56 = .ok (.getfield 156, 3) := by decide +kernel
theorem dX7_told_59 : decode cX7_told 59 = .ok (.aload_n 0, 1) := by decide +kernel
theorem dX7_told_60 : decode cX7_told 60 = .ok (.getfield 34, 3) := by decide +kernel
theorem dX7_told_63 : decode cX7_told 63 = .ok (.getfield 159, 3) := by decide +kernel
theorem dX7_told_66 : decode cX7_told 66 = .ok (.iadd, 1) := by decide +kernel
theorem dX7_told_67 : decode cX7_told 67 = .ok (.ireturn, 1) := by decide +kernel
theorem dX7_told_68 : decode cX7_told 68 = .ok (.aload_n 0, 1) := by decide +kernel
theorem dX7_told_69 : decode cX7_told 69 = .ok (.getfield 34, 3) := by decide +kernel
