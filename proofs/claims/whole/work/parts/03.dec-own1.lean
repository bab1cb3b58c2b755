theorem dX0_init_0 : decode cX0_init 0 = .ok (.aload_n 0, 1) := by decide +kernel
theorem dX0_init_1 : decode cX0_init 1 = .ok (.invokespecial 3, 3) := by decide +kernel
theorem dX0_init_4 : decode cX0_init 4 = .ok (.aload_n 0, 1) := by decide +kernel
theorem dX0_init_5 : decode cX0_init 5 = .ok (.bipush 8, 2) := by decide +kernel
theorem dX0_init_7 : decode cX0_init 7 = .ok (.anewarray 9, 3) := by decide +kernel
theorem dX0_init_10 : decode cX0_init 10 = .ok (.putfield 11, 3) := by decide +kernel
theorem dX0_init_13 : decode cX0_init 13 = .ok (.aload_n 0, 1) := by decide +kernel
theorem dX0_init_14 : decode cX0_init 14 = .ok (.iconst 0, 1) := by decide +kernel
theorem dX0_init_15 : decode cX0_init 15 = .ok (.putfield 17, 3) := by decide +kernel
theorem dX0_init_18 : decode cX0_init 18 = .ok (.aload_n 0, 1) := by decide +kernel
theorem dX0_init_19 : decode cX0_init 19 = .ok (.iconst 0, 1) := by decide +kernel
theorem dX0_init_20 : decode cX0_init 20 = .ok (.putfield 21, 3) := by decide +kernel
theorem dX0_init_23 : decode cX0_init 23 = .ok (.return_, 1) := by decide +kernel
theorem dX0_clear_0 : decode cX0_clear 0 = .ok (.aload_n 0, 1) := by decide +kernel
theorem dX0_clear_1 : decode cX0_clear 1 = .ok (.iconst 0, 1) := by decide +kernel
theorem dX0_clear_2 : decode cX0_clear 2 = .ok (.putfield 21, 3) := by decide +kernel
theorem dX0_clear_5 : decode cX0_clear 5 = .ok (.return_, 1) := by decide +kernel
theorem dX0_keep_0 : decode cX0_keep 0 = .ok (.aload_n 0, 1) := by decide +kernel
theorem dX0_keep_1 : decode cX0_keep 1 = .ok (.getfield 21, 3) := by decide +kernel
theorem dX0_keep_4 : decode cX0_keep 4 = .ok (.bipush 8, 2) := by decide +kernel
theorem dX0_keep_6 : decode cX0_keep 6 = .ok (.if_icmp .ne 26, 3) := by decide +kernel
theorem dX0_keep_9 : decode cX0_keep 9 = .ok (.aload_n 0, 1) := by decide +kernel
theorem dX0_keep_10 : decode cX0_keep 10 = .ok (.aload_n 0, 1) := by decide +kernel
theorem dX0_keep_11 : decode cX0_keep 11 = .ok (.getfield 17, 3) := by decide +kernel
theorem dX0_keep_14 : decode cX0_keep 14 = .ok (.iconst 1, 1) := by decide +kernel
theorem dX0_keep_15 : decode cX0_keep 15 = .ok (.iadd, 1) := by decide +kernel
theorem dX0_keep_16 : decode cX0_keep 16 = .ok (.bipush 8, 2) := by decide +kernel
theorem dX0_keep_18 : decode cX0_keep 18 = .ok (.irem, 1) := by decide +kernel
theorem dX0_keep_19 : decode cX0_keep 19 = .ok (.putfield 17, 3) := by decide +kernel
theorem dX0_keep_22 : decode cX0_keep 22 = .ok (.aload_n 0, 1) := by decide +kernel
theorem dX0_keep_23 : decode cX0_keep 23 = .ok (.dup, 1) := by decide +kernel
theorem dX0_keep_24 : decode cX0_keep 24 = .ok (.getfield 21, 3) := by decide +kernel
theorem dX0_keep_27 : decode cX0_keep 27 = .ok (.iconst 1, 1) := by decide +kernel
theorem dX0_keep_28 : decode cX0_keep 28 = .ok (.isub, 1) := by decide +kernel
theorem dX0_keep_29 : decode cX0_keep 29 = .ok (.putfield 21, 3) := by decide +kernel
theorem dX0_keep_32 : decode cX0_keep 32 = .ok (.aload_n 0, 1) := by decide +kernel
theorem dX0_keep_33 : decode cX0_keep 33 = .ok (.getfield 17, 3) := by decide +kernel
theorem dX0_keep_36 : decode cX0_keep 36 = .ok (.aload_n 0, 1) := by decide +kernel
theorem dX0_keep_37 : decode cX0_keep 37 = .ok (.getfield 21, 3) := by decide +kernel
theorem dX0_keep_40 : decode cX0_keep 40 = .ok (.iadd, 1) := by decide +kernel
theorem dX0_keep_41 : decode cX0_keep 41 = .ok (.bipush 8, 2) := by decide +kernel
theorem dX0_keep_43 : decode cX0_keep 43 = .ok (.irem, 1) := by decide +kernel
theorem dX0_keep_44 : decode cX0_keep 44 = .ok (.istore_n 2, 1) := by decide +kernel
theorem dX0_keep_45 : decode cX0_keep 45 = .ok (.aload_n 0, 1) := by decide +kernel
theorem dX0_keep_46 : decode cX0_keep 46 = .ok (.getfield 11, 3) := by decide +kernel
theorem dX0_keep_49 : decode cX0_keep 49 = .ok (.iload_n 2, 1) := by decide +kernel
theorem dX0_keep_50 : decode cX0_keep 50 = .ok (.aaload, 1) := by decide +kernel
theorem dX0_keep_51 : decode cX0_keep 51 = .ok (.ifnonnull 16, 3) := by decide +kernel
theorem dX0_keep_54 : decode cX0_keep 54 = .ok (.aload_n 0, 1) := by decide +kernel
theorem dX0_keep_55 : decode cX0_keep 55 = .ok (.getfield 11, 3) := by decide +kernel
theorem dX0_keep_58 : decode cX0_keep 58 = .ok (.iload_n 2, 1) := by decide +kernel
theorem dX0_keep_59 : decode cX0_keep 59 = .ok (.new 9, 3) := by decide +kernel
theorem dX0_keep_62 : decode cX0_keep 62 = .ok (.dup, 1) := by decide +kernel
theorem dX0_keep_63 : decode cX0_keep 63 = .ok (.invokespecial 24, 3) := by decide +kernel
theorem dX0_keep_66 : decode cX0_keep 66 = .ok (.aastore, 1) := by decide +kernel
theorem dX0_keep_67 : decode cX0_keep 67 = .ok (.aload_n 0, 1) := by decide +kernel
theorem dX0_keep_68 : decode cX0_keep 68 = .ok (.getfield 11, 3) := by decide +kernel
theorem dX0_keep_71 : decode cX0_keep 71 = .ok (.iload_n 2, 1) := by decide +kernel
theorem dX0_keep_72 : decode cX0_keep 72 = .ok (.aaload, 1) := by decide +kernel
theorem dX0_keep_73 : decode cX0_keep 73 = .ok (.aload_n 1, 1) := by decide +kernel
theorem dX0_keep_74 : decode cX0_keep 74 = .ok (.invokevirtual 25, 3) := by decide +kernel
theorem dX0_keep_77 : decode cX0_keep 77 = .ok (.aload_n 0, 1) := by decide +kernel
theorem dX0_keep_78 : decode cX0_keep 78 = .ok (.dup, 1) := by decide +kernel
theorem dX0_keep_79 : decode cX0_keep 79 = .ok (.getfield 21, 3) := by decide +kernel
theorem dX0_keep_82 : decode cX0_keep 82 = .ok (.iconst 1, 1) := by decide +kernel
theorem dX0_keep_83 : decode cX0_keep 83 = .ok (.iadd, 1) := by decide +kernel
theorem dX0_keep_84 : decode cX0_keep 84 = .ok (.putfield 21, 3) := by decide +kernel
theorem dX0_keep_87 : decode cX0_keep 87 = .ok (.return_, 1) := by decide +kernel
theorem dX0_takeBack_0 : decode cX0_takeBack 0 = .ok (.aload_n 0, 1) := by decide +kernel
theorem dX0_takeBack_1 : decode cX0_takeBack 1 = .ok (.getfield 21, 3) := by decide +kernel
theorem dX0_takeBack_4 : decode cX0_takeBack 4 = .ok (.ifCond .ne 5, 3) := by decide +kernel
theorem dX0_takeBack_7 : decode cX0_takeBack 7 = .ok (.iconst (-1), 1) := by decide +kernel
theorem dX0_takeBack_8 : decode cX0_takeBack 8 = .ok (.ireturn, 1) := by decide +kernel
theorem dX0_takeBack_9 : decode cX0_takeBack 9 = .ok (.aload_n 0, 1) := by decide +kernel
theorem dX0_takeBack_10 : decode cX0_takeBack 10 = .ok (.getfield 17, 3) := by decide +kernel
theorem dX0_takeBack_13 : decode cX0_takeBack 13 = .ok (.aload_n 0, 1) := by decide +kernel
theorem dX0_takeBack_14 : decode cX0_takeBack 14 = .ok (.getfield 21, 3) := by decide +kernel
theorem dX0_takeBack_17 : decode cX0_takeBack 17 = .ok (.iadd, 1) := by decide +kernel
theorem dX0_takeBack_18 : decode cX0_takeBack 18 = .ok (.iconst 1, 1) := by decide +kernel
theorem dX0_takeBack_19 : decode cX0_takeBack 19 = .ok (.isub, 1) := by decide +kernel
theorem dX0_takeBack_20 : decode cX0_takeBack 20 = .ok (.bipush 8, 2) := by decide +kernel
theorem dX0_takeBack_22 : decode cX0_takeBack 22 = .ok (.irem, 1) := by decide +kernel
theorem dX0_takeBack_23 : decode cX0_takeBack 23 = .ok (.istore_n 2, 1) := by decide +kernel
theorem dX0_takeBack_24 : decode cX0_takeBack 24 = .ok (.aload_n 0, 1) := by decide +kernel
theorem dX0_takeBack_25 : decode cX0_takeBack 25 = .ok (.getfield 11, 3) := by decide +kernel
theorem dX0_takeBack_28 : decode cX0_takeBack 28 = .ok (.iload_n 2, 1) := by decide +kernel
theorem dX0_takeBack_29 : decode cX0_takeBack 29 = .ok (.aaload, 1) := by decide +kernel
theorem dX0_takeBack_30 : decode cX0_takeBack 30 = .ok (.ifnonnull 5, 3) := by decide +kernel
theorem dX0_takeBack_33 : decode cX0_takeBack 33 = .ok (.iconst (-1), 1) := by decide +kernel
theorem dX0_takeBack_34 : decode cX0_takeBack 34 = .ok (.ireturn, 1) := by decide +kernel
theorem dX0_takeBack_35 : decode cX0_takeBack 35 = .ok (.aload_n 1, 1) := by decide +kernel
theorem dX0_takeBack_36 : decode cX0_takeBack 36 = .ok (.aload_n 0, 1) := by decide +kernel
theorem dX0_takeBack_37 : decode cX0_takeBack 37 = .ok (.getfield 11, 3) := by decide +kernel
theorem dX0_takeBack_40 : decode cX0_takeBack 40 = .ok (.iload_n 2, 1) := by decide +kernel
theorem dX0_takeBack_41 : decode cX0_takeBack 41 = .ok (.aaload, 1) := by decide +kernel
theorem dX0_takeBack_42 : decode cX0_takeBack 42 = .ok (.invokevirtual 25, 3) := by decide +kernel
theorem dX0_takeBack_45 : decode cX0_takeBack 45 = .ok (.aload_n 0, 1) := by decide +kernel
theorem dX0_takeBack_46 : decode cX0_takeBack 46 = .ok (.dup, 1) := by decide +kernel
theorem dX0_takeBack_47 : decode cX0_takeBack 47 = .ok (.getfield 21, 3) := by decide +kernel
theorem dX0_takeBack_50 : decode cX0_takeBack 50 = .ok (.iconst 1, 1) := by decide +kernel
theorem dX0_takeBack_51 : decode cX0_takeBack 51 = .ok (.isub, 1) := by decide +kernel
theorem dX0_takeBack_52 : decode cX0_takeBack 52 = .ok (.putfield 21, 3) := by decide +kernel
theorem dX0_takeBack_55 : decode cX0_takeBack 55 = .ok (.aload_n 0, 1) := by decide +kernel
theorem dX0_takeBack_56 : decode cX0_takeBack 56 = .ok (.getfield 21, 3) := by decide +kernel
theorem dX0_takeBack_59 : decode cX0_takeBack 59 = .ok (.ireturn, 1) := by decide +kernel
theorem dX1_init_0 : decode cX1_init 0 = .ok (.aload_n 0, 1) := by decide +kernel
theorem dX1_init_1 : decode cX1_init 1 = .ok (.invokespecial 3, 3) := by decide +kernel
theorem dX1_init_4 : decode cX1_init 4 = .ok (.aload_n 0, 1) := by decide +kernel
theorem dX1_init_5 : decode cX1_init 5 = .ok (.sipush 200, 3) := by decide +kernel
theorem dX1_init_8 : decode cX1_init 8 = .ok (.newarray .boolean, 2) := by decide +kernel
theorem dX1_init_10 : decode cX1_init 10 = .ok (.putfield 9, 3) := by decide +kernel
theorem dX1_init_13 : decode cX1_init 13 = .ok (.aload_n 0, 1) := by decide +kernel
theorem dX1_init_14 : decode cX1_init 14 = .ok (.sipush 200, 3) := by decide +kernel
theorem dX1_init_17 : decode cX1_init 17 = .ok (.newarray .int, 2) := by decide +kernel
theorem dX1_init_19 : decode cX1_init 19 = .ok (.putfield 15, 3) := by decide +kernel
theorem dX1_init_22 : decode cX1_init 22 = .ok (.aload_n 0, 1) := by decide +kernel
theorem dX1_init_23 : decode cX1_init 23 = .ok (.iconst 0, 1) := by decide +kernel
theorem dX1_init_24 : decode cX1_init 24 = .ok (.putfield 19, 3) := by decide +kernel
theorem dX1_init_27 : decode cX1_init 27 = .ok (.return_, 1) := by decide +kernel
theorem dX1_countReached_0 : decode cX1_countReached 0 = .ok (.iconst 0, 1) := by decide +kernel
theorem dX1_countReached_1 : decode cX1_countReached 1 = .ok (.istore_n 3, 1) := by decide +kernel
theorem dX1_countReached_2 : decode cX1_countReached 2 = .ok (.iload_n 3, 1) := by decide +kernel
theorem dX1_countReached_3 : decode cX1_countReached 3 = .ok (.sipush 200, 3) := by decide +kernel
theorem dX1_countReached_6 : decode cX1_countReached 6 = .ok (.if_icmp .ge 16, 3) := by decide +kernel
theorem dX1_countReached_9 : decode cX1_countReached 9 = .ok (.aload_n 0, 1) := by decide +kernel
theorem dX1_countReached_10 : decode cX1_countReached 10 = .ok (.getfield 9, 3) := by decide +kernel
theorem dX1_countReached_13 : decode cX1_countReached 13 = .ok (.iload_n 3, 1) := by decide +kernel
theorem dX1_countReached_14 : decode cX1_countReached 14 = .ok (.iconst 0, 1) := by decide +kernel
theorem dX1_countReached_15 : decode cX1_countReached 15 = .ok (.bastore, 1) := by decide +kernel
theorem dX1_countReached_16 : decode cX1_countReached 16 = .ok (.iinc 3 1, 3) := by decide +kernel
theorem dX1_countReached_19 : decode cX1_countReached 19 = .ok (.goto (-17), 3) := by decide +kernel
theorem dX1_countReached_22 : decode cX1_countReached 22 = .ok (.aload_n 0, 1) := by decide +kernel
theorem dX1_countReached_23 : decode cX1_countReached 23 = .ok (.iconst 0, 1) := by decide +kernel
theorem dX1_countReached_24 : decode cX1_countReached 24 = .ok (.putfield 19, 3) := by decide +kernel
theorem dX1_countReached_27 : decode cX1_countReached 27 = .ok (.iconst 0, 1) := by decide +kernel
theorem dX1_countReached_28 : decode cX1_countReached 28 = .ok (.istore_n 3, 1) := by decide +kernel
theorem dX1_countReached_29 : decode cX1_countReached 29 = .ok (.iload_n 3, 1) := by decide +kernel
theorem dX1_countReached_30 : decode cX1_countReached 30 = .ok (.aload_n 2, 1) := by decide +kernel
theorem dX1_countReached_31 : decode cX1_countReached 31 = .ok (.getfield 23, 3) := by decide +kernel
theorem dX1_countReached_34 : decode cX1_countReached 34 = .ok (.if_icmp .ge 66, 3) := by decide +kernel
theorem dX1_countReached_37 : decode cX1_countReached 37 = .ok (.aload_n 1, 1) := by decide +kernel
theorem dX1_countReached_38 : decode cX1_countReached 38 = .ok (.aload_n 2, 1) := by decide +kernel
theorem dX1_countReached_39 : decode cX1_countReached 39 = .ok (.getfield 28, 3) := by decide +kernel
theorem dX1_countReached_42 : decode cX1_countReached 42 = .ok (.iload_n 3, 1) := by decide +kernel
theorem dX1_countReached_43 : decode cX1_countReached 43 = .ok (.iaload, 1) := by decide +kernel
theorem dX1_countReached_44 : decode cX1_countReached 44 = .ok (.invokevirtual 31, 3) := by decide +kernel
theorem dX1_countReached_47 : decode cX1_countReached 47 = .ok (.istore 4, 2) := by decide +kernel
theorem dX1_countReached_49 : decode cX1_countReached 49 = .ok (.iconst 0, 1) := by decide +kernel
theorem dX1_countReached_50 : decode cX1_countReached 50 = .ok (.istore 5, 2) := by decide +kernel
theorem dX1_countReached_52 : decode cX1_countReached 52 = .ok (.iload 5, 2) := by decide +kernel
theorem dX1_countReached_54 : decode cX1_countReached 54 = .ok (.iload 4, 2) := by decide +kernel
theorem dX1_countReached_56 : decode cX1_countReached 56 = .ok (.if_icmp .ge 38, 3) := by decide +kernel
theorem dX1_countReached_59 : decode cX1_countReached 59 = .ok (.aload_n 0, 1) := by decide +kernel
theorem dX1_countReached_60 : decode cX1_countReached 60 = .ok (.aload_n 2, 1) := by decide +kernel
theorem dX1_countReached_61 : decode cX1_countReached 61 = .ok (.aload_n 2, 1) := by decide +kernel
theorem dX1_countReached_62 : decode cX1_countReached 62 = .ok (.getfield 37, 3) := by decide +kernel
theorem dX1_countReached_65 : decode cX1_countReached 65 = .ok (.iload_n 3, 1) := by decide +kernel
theorem dX1_countReached_66 : decode cX1_countReached 66 = .ok (.bipush 27, 2) := by decide +kernel
theorem dX1_countReached_68 : decode cX1_countReached 68 = .ok (.imul, 1) := by decide +kernel
theorem dX1_countReached_69 : decode cX1_countReached 69 = .ok (.iload 5, 2) := by decide +kernel
theorem dX1_countReached_71 : decode cX1_countReached 71 = .ok (.iadd, 1) := by decide +kernel
theorem dX1_countReached_72 : decode cX1_countReached 72 = .ok (.iaload, 1) := by decide +kernel
theorem dX1_countReached_73 : decode cX1_countReached 73 = .ok (.aload_n 2, 1) := by decide +kernel
theorem dX1_countReached_74 : decode cX1_countReached 74 = .ok (.getfield 40, 3) := by decide +kernel
theorem dX1_countReached_77 : decode cX1_countReached 77 = .ok (.iload_n 3, 1) := by decide +kernel
theorem dX1_countReached_78 : decode cX1_countReached 78 = .ok (.bipush 27, 2) := by decide +kernel
theorem dX1_countReached_80 : decode cX1_countReached 80 = .ok (.imul, 1) := by decide +kernel
theorem dX1_countReached_81 : decode cX1_countReached 81 = .ok (.iload 5, 2) := by decide +kernel
theorem dX1_countReached_83 : decode cX1_countReached 83 = .ok (.iadd, 1) := by decide +kernel
theorem dX1_countReached_84 : decode cX1_countReached 84 = .ok (.iaload, 1) := by decide +kernel
theorem dX1_countReached_85 : decode cX1_countReached 85 = .ok (.invokevirtual 43, 3) := by decide +kernel
theorem dX1_countReached_88 : decode cX1_countReached 88 = .ok (.iinc 5 1, 3) := by decide +kernel
theorem dX1_countReached_91 : decode cX1_countReached 91 = .ok (.goto (-39), 3) := by decide +kernel
theorem dX1_countReached_94 : decode cX1_countReached 94 = .ok (.iinc 3 1, 3) := by decide +kernel
theorem dX1_countReached_97 : decode cX1_countReached 97 = .ok (.goto (-68), 3) := by decide +kernel
theorem dX1_countReached_100 : decode cX1_countReached 100 = .ok (.aload_n 0, 1) := by decide +kernel
theorem dX1_countReached_101 : decode cX1_countReached 101 = .ok (.aload_n 2, 1) := by decide +kernel
theorem dX1_countReached_102 : decode cX1_countReached 102 = .ok (.aload_n 2, 1) := by decide +kernel
theorem dX1_countReached_103 : decode cX1_countReached 103 = .ok (.invokevirtual 47, 3) := by decide +kernel
theorem dX1_countReached_106 : decode cX1_countReached 106 = .ok (.aload_n 2, 1) := by decide +kernel
theorem dX1_countReached_107 : decode cX1_countReached 107 = .ok (.getfield 51, 3) := by decide +kernel
theorem dX1_countReached_110 : decode cX1_countReached 110 = .ok (.invokevirtual 43, 3) := by decide +kernel
theorem dX1_countReached_113 : decode cX1_countReached 113 = .ok (.iconst 0, 1) := by decide +kernel
theorem dX1_countReached_114 : decode cX1_countReached 114 = .ok (.istore_n 3, 1) := by decide +kernel
theorem dX1_countReached_115 : decode cX1_countReached 115 = .ok (.iload_n 3, 1) := by decide +kernel
theorem dX1_countReached_116 : decode cX1_countReached 116 = .ok (.aload_n 0, 1) := by decide +kernel
theorem dX1_countReached_117 : decode cX1_countReached 117 = .ok (.getfield 19, 3) := by decide +kernel
theorem dX1_countReached_120 : decode cX1_countReached 120 = .ok (.if_icmp .ge 67, 3) := by decide +kernel
theorem dX1_countReached_123 : decode cX1_countReached 123 = .ok (.aload_n 0, 1) := by decide +kernel
theorem dX1_countReached_124 : decode cX1_countReached 124 = .ok (.getfield 15, 3) := by decide +kernel
theorem dX1_countReached_127 : decode cX1_countReached 127 = .ok (.iload_n 3, 1) := by decide +kernel
theorem dX1_countReached_128 : decode cX1_countReached 128 = .ok (.iaload, 1) := by decide +kernel
theorem dX1_countReached_129 : decode cX1_countReached 129 = .ok (.istore 4, 2) := by decide +kernel
theorem dX1_countReached_131 : decode cX1_countReached 131 = .ok (.aload_n 0, 1) := by decide +kernel
theorem dX1_countReached_132 : decode cX1_countReached 132 = .ok (.aload_n 2, 1) := by decide +kernel
theorem dX1_countReached_133 : decode cX1_countReached 133 = .ok (.aload_n 2, 1) := by decide +kernel
theorem dX1_countReached_134 : decode cX1_countReached 134 = .ok (.getfield 54, 3) := by decide +kernel
theorem dX1_countReached_137 : decode cX1_countReached 137 = .ok (.iconst 2, 1) := by decide +kernel
theorem dX1_countReached_138 : decode cX1_countReached 138 = .ok (.iload 4, 2) := by decide +kernel
theorem dX1_countReached_140 : decode cX1_countReached 140 = .ok (.imul, 1) := by decide +kernel
theorem dX1_countReached_141 : decode cX1_countReached 141 = .ok (.iaload, 1) := by decide +kernel
theorem dX1_countReached_142 : decode cX1_countReached 142 = .ok (.aload_n 2, 1) := by decide +kernel
theorem dX1_countReached_143 : decode cX1_countReached 143 = .ok (.getfield 57, 3) := by decide +kernel
theorem dX1_countReached_146 : decode cX1_countReached 146 = .ok (.iconst 2, 1) := by decide +kernel
theorem dX1_countReached_147 : decode cX1_countReached 147 = .ok (.iload 4, 2) := by decide +kernel
theorem dX1_countReached_149 : decode cX1_countReached 149 = .ok (.imul, 1) := by decide +kernel
theorem dX1_countReached_150 : decode cX1_countReached 150 = .ok (.iaload, 1) := by decide +kernel
theorem dX1_countReached_151 : decode cX1_countReached 151 = .ok (.invokevirtual 43, 3) := by decide +kernel
theorem dX1_countReached_154 : decode cX1_countReached 154 = .ok (.aload_n 0, 1) := by decide +kernel
theorem dX1_countReached_155 : decode cX1_countReached 155 = .ok (.aload_n 2, 1) := by decide +kernel
theorem dX1_countReached_156 : decode cX1_countReached 156 = .ok (.aload_n 2, 1) := by decide +kernel
theorem dX1_countReached_157 : decode cX1_countReached 157 = .ok (.getfield 54, 3) := by decide +kernel
theorem dX1_countReached_160 : decode cX1_countReached 160 = .ok (.iconst 2, 1) := by decide +kernel
theorem dX1_countReached_161 : decode cX1_countReached 161 = .ok (.iload 4, 2) := by decide +kernel
theorem dX1_countReached_163 : decode cX1_countReached 163 = .ok (.imul, 1) := by decide +kernel
theorem dX1_countReached_164 : decode cX1_countReached 164 = .ok (.iconst 1, 1) := by decide +kernel
theorem dX1_countReached_165 : decode cX1_countReached 165 = .ok (.iadd, 1) := by decide +kernel
theorem dX1_countReached_166 : decode cX1_countReached 166 = .ok (.iaload, 1) := by decide +kernel
theorem dX1_countReached_167 : decode cX1_countReached 167 = .ok (.aload_n 2, 1) := by decide +kernel
theorem dX1_countReached_168 : decode cX1_countReached 168 = .ok (.getfield 57, 3) := by decide +kernel
theorem dX1_countReached_171 : decode cX1_countReached 171 = .ok (.iconst 2, 1) := by decide +kernel
theorem dX1_countReached_172 : decode cX1_countReached 172 = .ok (.iload 4, 2) := by decide +kernel
theorem dX1_countReached_174 : decode cX1_countReached 174 = .ok (.imul, 1) := by decide +kernel
theorem dX1_countReached_175 : decode cX1_countReached 175 = .ok (.iconst 1, 1) := by decide +kernel
theorem dX1_countReached_176 : decode cX1_countReached 176 = .ok (.iadd, 1) := by decide +kernel
theorem dX1_countReached_177 : decode cX1_countReached 177 = .ok (.iaload, 1) := by decide +kernel
theorem dX1_countReached_178 : decode cX1_countReached 178 = .ok (.invokevirtual 43, 3) := by decide +kernel
theorem dX1_countReached_181 : decode cX1_countReached 181 = .ok (.iinc 3 1, 3) := by decide +kernel
theorem dX1_countReached_184 : decode cX1_countReached 184 = .ok (.goto (-69), 3) := by decide +kernel
theorem dX1_countReached_187 : decode cX1_countReached 187 = .ok (.aload_n 0, 1) := by decide +kernel
theorem dX1_countReached_188 : decode cX1_countReached 188 = .ok (.getfield 19, 3) := by decide +kernel
theorem dX1_countReached_191 : decode cX1_countReached 191 = .ok (.ireturn, 1) := by decide +kernel
theorem dX1_come_0 : decode cX1_come 0 = .ok (.iload_n 2, 1) := by decide +kernel
theorem dX1_come_1 : decode cX1_come 1 = .ok (.iconst 2, 1) := by decide +kernel
theorem dX1_come_2 : decode cX1_come 2 = .ok (.if_icmp .ne 47, 3) := by decide +kernel
theorem dX1_come_5 : decode cX1_come 5 = .ok (.aload_n 1, 1) := by decide +kernel
theorem dX1_come_6 : decode cX1_come 6 = .ok (.iload_n 3, 1) := by decide +kernel
theorem dX1_come_7 : decode cX1_come 7 = .ok (.invokevirtual 60, 3) := by decide +kernel
theorem dX1_come_10 : decode cX1_come 10 = .ok (.ifCond .eq 39, 3) := by decide +kernel
theorem dX1_come_13 : decode cX1_come 13 = .ok (.aload_n 0, 1) := by decide +kernel
theorem dX1_come_14 : decode cX1_come 14 = .ok (.getfield 9, 3) := by decide +kernel
theorem dX1_come_17 : decode cX1_come 17 = .ok (.iload_n 3, 1) := by decide +kernel
theorem dX1_come_18 : decode cX1_come 18 = .ok (.baload, 1) := by decide +kernel
theorem dX1_come_19 : decode cX1_come 19 = .ok (.ifCond .ne 30, 3) := by decide +kernel
theorem dX1_come_22 : decode cX1_come 22 = .ok (.aload_n 0, 1) := by decide +kernel
theorem dX1_come_23 : decode cX1_come 23 = .ok (.getfield 9, 3) := by decide +kernel
theorem dX1_come_26 : decode cX1_come 26 = .ok (.iload_n 3, 1) := by decide +kernel
theorem dX1_come_27 : decode cX1_come 27 = .ok (.iconst 1, 1) := by decide +kernel
theorem dX1_come_28 : decode cX1_come 28 = .ok (.bastore, 1) := by decide +kernel
theorem dX1_come_29 : decode cX1_come 29 = .ok (.aload_n 0, 1) := by decide +kernel
theorem dX1_come_30 : decode cX1_come 30 = .ok (.getfield 15, 3) := by decide +kernel
theorem dX1_come_33 : decode cX1_come 33 = .ok (.aload_n 0, 1) := by decide +kernel
theorem dX1_come_34 : decode cX1_come 34 = .ok (.getfield 19, 3) := by decide +kernel
theorem dX1_come_37 : decode cX1_come 37 = .ok (.iload_n 3, 1) := by decide +kernel
theorem dX1_come_38 : decode cX1_come 38 = .ok (.iastore, 1) := by decide +kernel
theorem dX1_come_39 : decode cX1_come 39 = .ok (.aload_n 0, 1) := by decide +kernel
theorem dX1_come_40 : decode cX1_come 40 = .ok (.dup, 1) := by decide +kernel
theorem dX1_come_41 : decode cX1_come 41 = .ok (.getfield 19, 3) := by decide +kernel
theorem dX1_come_44 : decode cX1_come 44 = .ok (.iconst 1, 1) := by decide +kernel
theorem dX1_come_45 : decode cX1_come 45 = .ok (.iadd, 1) := by decide +kernel
theorem dX1_come_46 : decode cX1_come 46 = .ok (.putfield 19, 3) := by decide +kernel
theorem dX1_come_49 : decode cX1_come 49 = .ok (.return_, 1) := by decide +kernel
theorem dX2_init_0 : decode cX2_init 0 = .ok (.aload_n 0, 1) := by decide +kernel
theorem dX2_init_1 : decode cX2_init 1 = .ok (.invokespecial 3, 3) := by decide +kernel
theorem dX2_init_4 : decode cX2_init 4 = .ok (.aload_n 0, 1) := by decide +kernel
theorem dX2_init_5 : decode cX2_init 5 = .ok (.iconst 0, 1) := by decide +kernel
theorem dX2_init_6 : decode cX2_init 6 = .ok (.putfield 9, 3) := by decide +kernel
theorem dX2_init_9 : decode cX2_init 9 = .ok (.aload_n 0, 1) := by decide +kernel
theorem dX2_init_10 : decode cX2_init 10 = .ok (.iconst 0, 1) := by decide +kernel
theorem dX2_init_11 : decode cX2_init 11 = .ok (.putfield 15, 3) := by decide +kernel
theorem dX2_init_14 : decode cX2_init 14 = .ok (.aload_n 0, 1) := by decide +kernel
theorem dX2_init_15 : decode cX2_init 15 = .ok (.iconst 0, 1) := by decide +kernel
theorem dX2_init_16 : decode cX2_init 16 = .ok (.putfield 18, 3) := by decide +kernel
theorem dX2_init_19 : decode cX2_init 19 = .ok (.aload_n 0, 1) := by decide +kernel
theorem dX2_init_20 : decode cX2_init 20 = .ok (.iconst 0, 1) := by decide +kernel
theorem dX2_init_21 : decode cX2_init 21 = .ok (.putfield 21, 3) := by decide +kernel
theorem dX2_init_24 : decode cX2_init 24 = .ok (.aload_n 0, 1) := by decide +kernel
theorem dX2_init_25 : decode cX2_init 25 = .ok (.iconst 0, 1) := by decide +kernel
theorem dX2_init_26 : decode cX2_init 26 = .ok (.putfield 24, 3) := by decide +kernel
theorem dX2_init_29 : decode cX2_init 29 = .ok (.aload_n 0, 1) := by decide +kernel
theorem dX2_init_30 : decode cX2_init 30 = .ok (.iconst 0, 1) := by decide +kernel
theorem dX2_init_31 : decode cX2_init 31 = .ok (.putfield 27, 3) := by decide +kernel
theorem dX2_init_34 : decode cX2_init 34 = .ok (.aload_n 0, 1) := by decide +kernel
theorem dX2_init_35 : decode cX2_init 35 = .ok (.iconst 0, 1) := by decide +kernel
theorem dX2_init_36 : decode cX2_init 36 = .ok (.putfield 30, 3) := by decide +kernel
theorem dX2_init_39 : decode cX2_init 39 = .ok (.aload_n 0, 1) := by decide +kernel
theorem dX2_init_40 : decode cX2_init 40 = .ok (.iconst 0, 1) := by decide +kernel
theorem dX2_init_41 : decode cX2_init 41 = .ok (.putfield 33, 3) := by decide +kernel
theorem dX2_init_44 : decode cX2_init 44 = .ok (.aload_n 0, 1) := by decide +kernel
theorem dX2_init_45 : decode cX2_init 45 = .ok (.iconst 0, 1) := by decide +kernel
theorem dX2_init_46 : decode cX2_init 46 = .ok (.putfield 36, 3) := by decide +kernel
theorem dX2_init_49 : decode cX2_init 49 = .ok (.aload_n 0, 1) := by decide +kernel
theorem dX2_init_50 : decode cX2_init 50 = .ok (.iconst 0, 1) := by decide +kernel
theorem dX2_init_51 : decode cX2_init 51 = .ok (.putfield 39, 3) := by decide +kernel
theorem dX2_init_54 : decode cX2_init 54 = .ok (.aload_n 0, 1) := by decide +kernel
theorem dX2_init_55 : decode cX2_init 55 = .ok (.iconst 0, 1) := by decide +kernel
theorem dX2_init_56 : decode cX2_init 56 = .ok (.putfield 42, 3) := by decide +kernel
theorem dX2_init_59 : decode cX2_init 59 = .ok (.aload_n 0, 1) := by decide +kernel
theorem dX2_init_60 : decode cX2_init 60 = .ok (.iconst 0, 1) := by decide +kernel
theorem dX2_init_61 : decode cX2_init 61 = .ok (.putfield 45, 3) := by decide +kernel
theorem dX2_init_64 : decode cX2_init 64 = .ok (.aload_n 0, 1) := by decide +kernel
theorem dX2_init_65 : decode cX2_init 65 = .ok (.bipush 13, 2) := by decide +kernel
theorem dX2_init_67 : decode cX2_init 67 = .ok (.newarray .int, 2) := by decide +kernel
theorem dX2_init_69 : decode cX2_init 69 = .ok (.putfield 49, 3) := by decide +kernel
theorem dX2_init_72 : decode cX2_init 72 = .ok (.aload_n 0, 1) := by decide +kernel
theorem dX2_init_73 : decode cX2_init 73 = .ok (.bipush 13, 2) := by decide +kernel
theorem dX2_init_75 : decode cX2_init 75 = .ok (.newarray .int, 2) := by decide +kernel
theorem dX2_init_77 : decode cX2_init 77 = .ok (.putfield 53, 3) := by decide +kernel
theorem dX2_init_80 : decode cX2_init 80 = .ok (.aload_n 0, 1) := by decide +kernel
theorem dX2_init_81 : decode cX2_init 81 = .ok (.sipush 351, 3) := by decide +kernel
theorem dX2_init_84 : decode cX2_init 84 = .ok (.newarray .int, 2) := by decide +kernel
theorem dX2_init_86 : decode cX2_init 86 = .ok (.putfield 56, 3) := by decide +kernel
theorem dX2_init_89 : decode cX2_init 89 = .ok (.aload_n 0, 1) := by decide +kernel
theorem dX2_init_90 : decode cX2_init 90 = .ok (.sipush 351, 3) := by decide +kernel
theorem dX2_init_93 : decode cX2_init 93 = .ok (.newarray .int, 2) := by decide +kernel
theorem dX2_init_95 : decode cX2_init 95 = .ok (.putfield 59, 3) := by decide +kernel
theorem dX2_init_98 : decode cX2_init 98 = .ok (.aload_n 0, 1) := by decide +kernel
theorem dX2_init_99 : decode cX2_init 99 = .ok (.sipush 312, 3) := by decide +kernel
theorem dX2_init_102 : decode cX2_init 102 = .ok (.newarray .int, 2) := by decide +kernel
theorem dX2_init_104 : decode cX2_init 104 = .ok (.putfield 62, 3) := by decide +kernel
theorem dX2_init_107 : decode cX2_init 107 = .ok (.aload_n 0, 1) := by decide +kernel
theorem dX2_init_108 : decode cX2_init 108 = .ok (.sipush 200, 3) := by decide +kernel
theorem dX2_init_111 : decode cX2_init 111 = .ok (.newarray .int, 2) := by decide +kernel
theorem dX2_init_113 : decode cX2_init 113 = .ok (.putfield 65, 3) := by decide +kernel
theorem dX2_init_116 : decode cX2_init 116 = .ok (.aload_n 0, 1) := by decide +kernel
theorem dX2_init_117 : decode cX2_init 117 = .ok (.sipush 400, 3) := by decide +kernel
theorem dX2_init_120 : decode cX2_init 120 = .ok (.newarray .int, 2) := by decide +kernel
theorem dX2_init_122 : decode cX2_init 122 = .ok (.putfield 68, 3) := by decide +kernel
theorem dX2_init_125 : decode cX2_init 125 = .ok (.aload_n 0, 1) := by decide +kernel
theorem dX2_init_126 : decode cX2_init 126 = .ok (.sipush 400, 3) := by decide +kernel
theorem dX2_init_129 : decode cX2_init 129 = .ok (.newarray .int, 2) := by decide +kernel
theorem dX2_init_131 : decode cX2_init 131 = .ok (.putfield 71, 3) := by decide +kernel
theorem dX2_init_134 : decode cX2_init 134 = .ok (.aload_n 0, 1) := by decide +kernel
theorem dX2_init_135 : decode cX2_init 135 = .ok (.getfield 65, 3) := by decide +kernel
theorem dX2_init_138 : decode cX2_init 138 = .ok (.iconst (-1), 1) := by decide +kernel
theorem dX2_init_139 : decode cX2_init 139 = .ok (.invokestatic 74, 3) := by decide +kernel
theorem dX2_init_142 : decode cX2_init 142 = .ok (.return_, 1) := by decide +kernel
theorem dX2_clear_0 : decode cX2_clear 0 = .ok (.aload_n 0, 1) := by decide +kernel
theorem dX2_clear_1 : decode cX2_clear 1 = .ok (.iconst 0, 1) := by decide +kernel
theorem dX2_clear_2 : decode cX2_clear 2 = .ok (.putfield 9, 3) := by decide +kernel
theorem dX2_clear_5 : decode cX2_clear 5 = .ok (.aload_n 0, 1) := by decide +kernel
theorem dX2_clear_6 : decode cX2_clear 6 = .ok (.iconst 0, 1) := by decide +kernel
theorem dX2_clear_7 : decode cX2_clear 7 = .ok (.putfield 15, 3) := by decide +kernel
theorem dX2_clear_10 : decode cX2_clear 10 = .ok (.aload_n 0, 1) := by decide +kernel
theorem dX2_clear_11 : decode cX2_clear 11 = .ok (.iconst 0, 1) := by decide +kernel
theorem dX2_clear_12 : decode cX2_clear 12 = .ok (.putfield 18, 3) := by decide +kernel
theorem dX2_clear_15 : decode cX2_clear 15 = .ok (.aload_n 0, 1) := by decide +kernel
theorem dX2_clear_16 : decode cX2_clear 16 = .ok (.iconst 0, 1) := by decide +kernel
theorem dX2_clear_17 : decode cX2_clear 17 = .ok (.putfield 21, 3) := by decide +kernel
theorem dX2_clear_20 : decode cX2_clear 20 = .ok (.aload_n 0, 1) := by decide +kernel
theorem dX2_clear_21 : decode cX2_clear 21 = .ok (.iconst 0, 1) := by decide +kernel
theorem dX2_clear_22 : decode cX2_clear 22 = .ok (.putfield 24, 3) := by decide +kernel
theorem dX2_clear_25 : decode cX2_clear 25 = .ok (.aload_n 0, 1) := by decide +kernel
theorem dX2_clear_26 : decode cX2_clear 26 = .ok (.iconst 0, 1) := by decide +kernel
theorem dX2_clear_27 : decode cX2_clear 27 = .ok (.putfield 27, 3) := by decide +kernel
theorem dX2_clear_30 : decode cX2_clear 30 = .ok (.aload_n 0, 1) := by decide +kernel
theorem dX2_clear_31 : decode cX2_clear 31 = .ok (.iconst 0, 1) := by decide +kernel
theorem dX2_clear_32 : decode cX2_clear 32 = .ok (.putfield 30, 3) := by decide +kernel
theorem dX2_clear_35 : decode cX2_clear 35 = .ok (.aload_n 0, 1) := by decide +kernel
theorem dX2_clear_36 : decode cX2_clear 36 = .ok (.iconst 0, 1) := by decide +kernel
theorem dX2_clear_37 : decode cX2_clear 37 = .ok (.putfield 33, 3) := by decide +kernel
theorem dX2_clear_40 : decode cX2_clear 40 = .ok (.aload_n 0, 1) := by decide +kernel
theorem dX2_clear_41 : decode cX2_clear 41 = .ok (.iconst 0, 1) := by decide +kernel
theorem dX2_clear_42 : decode cX2_clear 42 = .ok (.putfield 36, 3) := by decide +kernel
theorem dX2_clear_45 : decode cX2_clear 45 = .ok (.aload_n 0, 1) := by decide +kernel
theorem dX2_clear_46 : decode cX2_clear 46 = .ok (.iconst 0, 1) := by decide +kernel
theorem dX2_clear_47 : decode cX2_clear 47 = .ok (.putfield 39, 3) := by decide +kernel
theorem dX2_clear_50 : decode cX2_clear 50 = .ok (.aload_n 0, 1) := by decide +kernel
theorem dX2_clear_51 : decode cX2_clear 51 = .ok (.iconst 0, 1) := by decide +kernel
theorem dX2_clear_52 : decode cX2_clear 52 = .ok (.putfield 42, 3) := by decide +kernel
theorem dX2_clear_55 : decode cX2_clear 55 = .ok (.aload_n 0, 1) := by decide +kernel
theorem dX2_clear_56 : decode cX2_clear 56 = .ok (.iconst 0, 1) := by decide +kernel
theorem dX2_clear_57 : decode cX2_clear 57 = .ok (.putfield 45, 3) := by decide +kernel
theorem dX2_clear_60 : decode cX2_clear 60 = .ok (.aload_n 0, 1) := by decide +kernel
theorem dX2_clear_61 : decode cX2_clear 61 = .ok (.getfield 65, 3) := by decide +kernel
theorem dX2_clear_64 : decode cX2_clear 64 = .ok (.iconst (-1), 1) := by decide +kernel
theorem dX2_clear_65 : decode cX2_clear 65 = .ok (.invokestatic 74, 3) := by decide +kernel
theorem dX2_clear_68 : decode cX2_clear 68 = .ok (.return_, 1) := by decide +kernel
theorem dX2_copyFrom_0 : decode cX2_copyFrom 0 = .ok (.aload_n 0, 1) := by decide +kernel
theorem dX2_copyFrom_1 : decode cX2_copyFrom 1 = .ok (.aload_n 1, 1) := by decide +kernel
theorem dX2_copyFrom_2 : decode cX2_copyFrom 2 = .ok (.getfield 9, 3) := by decide +kernel
theorem dX2_copyFrom_5 : decode cX2_copyFrom 5 = .ok (.putfield 9, 3) := by decide +kernel
theorem dX2_copyFrom_8 : decode cX2_copyFrom 8 = .ok (.aload_n 0, 1) := by decide +kernel
theorem dX2_copyFrom_9 : decode cX2_copyFrom 9 = .ok (.aload_n 1, 1) := by decide +kernel
theorem dX2_copyFrom_10 : decode cX2_copyFrom 10 = .ok (.getfield 15, 3) := by decide +kernel
theorem dX2_copyFrom_13 : decode cX2_copyFrom 13 = .ok (.putfield 15, 3) := by decide +kernel
theorem dX2_copyFrom_16 : decode cX2_copyFrom 16 = .ok (.aload_n 0, 1) := by decide +kernel
theorem dX2_copyFrom_17 : decode cX2_copyFrom 17 = .ok (.aload_n 1, 1) := by decide +kernel
theorem dX2_copyFrom_18 : decode cX2_copyFrom 18 = .ok (.getfield 18, 3) := by decide +kernel
theorem dX2_copyFrom_21 : decode cX2_copyFrom 21 = .ok (.putfield 18, 3) := by decide +kernel
theorem dX2_copyFrom_24 : decode cX2_copyFrom 24 = .ok (.aload_n 0, 1) := by decide +kernel
theorem dX2_copyFrom_25 : decode cX2_copyFrom 25 = .ok (.aload_n 1, 1) := by decide +kernel
theorem dX2_copyFrom_26 : decode cX2_copyFrom 26 = .ok (.getfield 21, 3) := by decide +kernel
theorem dX2_copyFrom_29 : decode cX2_copyFrom 29 = .ok (.putfield 21, 3) := by decide +kernel
theorem dX2_copyFrom_32 : decode cX2_copyFrom 32 = .ok (.aload_n 0, 1) := by decide +kernel
theorem dX2_copyFrom_33 : decode cX2_copyFrom 33 = .ok (.aload_n 1, 1) := by decide +kernel
theorem dX2_copyFrom_34 : decode cX2_copyFrom 34 = .ok (.getfield 24, 3) := by decide +kernel
theorem dX2_copyFrom_37 : decode cX2_copyFrom 37 = .ok (.putfield 24, 3) := by decide +kernel
theorem dX2_copyFrom_40 : decode cX2_copyFrom 40 = .ok (.aload_n 0, 1) := by decide +kernel
theorem dX2_copyFrom_41 : decode cX2_copyFrom 41 = .ok (.aload_n 1, 1) := by decide +kernel
theorem dX2_copyFrom_42 : decode cX2_copyFrom 42 = .ok (.getfield 27, 3) := by decide +kernel
theorem dX2_copyFrom_45 : decode cX2_copyFrom 45 = .ok (.putfield 27, 3) := by decide +kernel
theorem dX2_copyFrom_48 : decode cX2_copyFrom 48 = .ok (.aload_n 0, 1) := by decide +kernel
theorem dX2_copyFrom_49 : decode cX2_copyFrom 49 = .ok (.aload_n 1, 1) := by decide +kernel
theorem dX2_copyFrom_50 : decode cX2_copyFrom 50 = .ok (.getfield 30, 3) := by decide +kernel
theorem dX2_copyFrom_53 : decode cX2_copyFrom 53 = .ok (.putfield 30, 3) := by decide +kernel
theorem dX2_copyFrom_56 : decode cX2_copyFrom 56 = .ok (.aload_n 0, 1) := by decide +kernel
theorem dX2_copyFrom_57 : decode cX2_copyFrom 57 = .ok (.aload_n 1, 1) := by decide +kernel
theorem dX2_copyFrom_58 : decode cX2_copyFrom 58 = .ok (.getfield 33, 3) := by decide +kernel
theorem dX2_copyFrom_61 : decode cX2_copyFrom 61 = .ok (.putfield 33, 3) := by decide +kernel
theorem dX2_copyFrom_64 : decode cX2_copyFrom 64 = .ok (.aload_n 0, 1) := by decide +kernel
theorem dX2_copyFrom_65 : decode cX2_copyFrom 65 = .ok (.aload_n 1, 1) := by decide +kernel
theorem dX2_copyFrom_66 : decode cX2_copyFrom 66 = .ok (.getfield 36, 3) := by decide +kernel
theorem dX2_copyFrom_69 : decode cX2_copyFrom 69 = .ok (.putfield 36, 3) := by decide +kernel
theorem dX2_copyFrom_72 : decode cX2_copyFrom 72 = .ok (.aload_n 0, 1) := by decide +kernel
theorem dX2_copyFrom_73 : decode cX2_copyFrom 73 = .ok (.aload_n 1, 1) := by decide +kernel
theorem dX2_copyFrom_74 : decode cX2_copyFrom 74 = .ok (.getfield 39, 3) := by decide +kernel
theorem dX2_copyFrom_77 : decode cX2_copyFrom 77 = .ok (.putfield 39, 3) := by decide +kernel
theorem dX2_copyFrom_80 : decode cX2_copyFrom 80 = .ok (.aload_n 0, 1) := by decide +kernel
theorem dX2_copyFrom_81 : decode cX2_copyFrom 81 = .ok (.aload_n 1, 1) := by decide +kernel
theorem dX2_copyFrom_82 : decode cX2_copyFrom 82 = .ok (.getfield 42, 3) := by decide +kernel
theorem dX2_copyFrom_85 : decode cX2_copyFrom 85 = .ok (.putfield 42, 3) := by decide +kernel
theorem dX2_copyFrom_88 : decode cX2_copyFrom 88 = .ok (.aload_n 0, 1) := by decide +kernel
theorem dX2_copyFrom_89 : decode cX2_copyFrom 89 = .ok (.aload_n 1, 1) := by decide +kernel
theorem dX2_copyFrom_90 : decode cX2_copyFrom 90 = .ok (.getfield 45, 3) := by decide +kernel
theorem dX2_copyFrom_93 : decode cX2_copyFrom 93 = .ok (.putfield 45, 3) := by decide +kernel
theorem dX2_copyFrom_96 : decode cX2_copyFrom 96 = .ok (.aload_n 1, 1) := by decide +kernel
theorem dX2_copyFrom_97 : decode cX2_copyFrom 97 = .ok (.getfield 49, 3) := by decide +kernel
theorem dX2_copyFrom_100 : decode cX2_copyFrom 100 = .ok (.iconst 0, 1) := by decide +kernel
theorem dX2_copyFrom_101 : decode cX2_copyFrom 101 = .ok (.aload_n 0, 1) := by decide +kernel
theorem dX2_copyFrom_102 : decode cX2_copyFrom 102 = .ok (.getfield 49, 3) := by decide +kernel
theorem dX2_copyFrom_105 : decode cX2_copyFrom 105 = .ok (.iconst 0, 1) := by decide +kernel
theorem dX2_copyFrom_106 : decode cX2_copyFrom 106 = .ok (.aload_n 0, 1) := by decide +kernel
theorem dX2_copyFrom_107 : decode cX2_copyFrom 107 = .ok (.getfield 49, 3) := by decide +kernel
theorem dX2_copyFrom_110 : decode cX2_copyFrom 110 = .ok (.arraylength, 1) := by decide +kernel
theorem dX2_copyFrom_111 : decode cX2_copyFrom 111 = .ok (.invokestatic 80, 3) := by decide +kernel
theorem dX2_copyFrom_114 : decode cX2_copyFrom 114 = .ok (.aload_n 1, 1) := by decide +kernel
theorem dX2_copyFrom_115 : decode cX2_copyFrom 115 = .ok (.getfield 53, 3) := by decide +kernel
theorem dX2_copyFrom_118 : decode cX2_copyFrom 118 = .ok (.iconst 0, 1) := by decide +kernel
theorem dX2_copyFrom_119 : decode cX2_copyFrom 119 = .ok (.aload_n 0, 1) := by decide +kernel
theorem dX2_copyFrom_120 : decode cX2_copyFrom 120 = .ok (.getfield 53, 3) := by decide +kernel
theorem dX2_copyFrom_123 : decode cX2_copyFrom 123 = .ok (.iconst 0, 1) := by decide +kernel
theorem dX2_copyFrom_124 : decode cX2_copyFrom 124 = .ok (.aload_n 0, 1) := by decide +kernel
theorem dX2_copyFrom_125 : decode cX2_copyFrom 125 = .ok (.getfield 53, 3) := by decide +kernel
theorem dX2_copyFrom_128 : decode cX2_copyFrom 128 = .ok (.arraylength, 1) := by decide +kernel
theorem dX2_copyFrom_129 : decode cX2_copyFrom 129 = .ok (.invokestatic 80, 3) := by decide +kernel
theorem dX2_copyFrom_132 : decode cX2_copyFrom 132 = .ok (.aload_n 1, 1) := by decide +kernel
theorem dX2_copyFrom_133 : decode cX2_copyFrom 133 = .ok (.getfield 56, 3) := by decide +kernel
theorem dX2_copyFrom_136 : decode cX2_copyFrom 136 = .ok (.iconst 0, 1) := by decide +kernel
theorem dX2_copyFrom_137 : decode cX2_copyFrom 137 = .ok (.aload_n 0, 1) := by decide +kernel
theorem dX2_copyFrom_138 : decode cX2_copyFrom 138 = .ok (.getfield 56, 3) := by decide +kernel
theorem dX2_copyFrom_141 : decode cX2_copyFrom 141 = .ok (.iconst 0, 1) := by decide +kernel
theorem dX2_copyFrom_142 : decode cX2_copyFrom 142 = .ok (.aload_n 0, 1) := by decide +kernel
theorem dX2_copyFrom_143 : decode cX2_copyFrom 143 = .ok (.getfield 56, 3) := by decide +kernel
theorem dX2_copyFrom_146 : decode cX2_copyFrom 146 = .ok (.arraylength, 1) := by decide +kernel
theorem dX2_copyFrom_147 : decode cX2_copyFrom 147 = .ok (.invokestatic 80, 3) := by decide +kernel
theorem dX2_copyFrom_150 : decode cX2_copyFrom 150 = .ok (.aload_n 1, 1) := by decide +kernel
theorem dX2_copyFrom_151 : decode cX2_copyFrom 151 = .ok (.getfield 59, 3) := by decide +kernel
theorem dX2_copyFrom_154 : decode cX2_copyFrom 154 = .ok (.iconst 0, 1) := by decide +kernel
theorem dX2_copyFrom_155 : decode cX2_copyFrom 155 = .ok (.aload_n 0, 1) := by decide +kernel
theorem dX2_copyFrom_156 : decode cX2_copyFrom 156 = .ok (.getfield 59, 3) := by decide +kernel
theorem dX2_copyFrom_159 : decode cX2_copyFrom 159 = .ok (.iconst 0, 1) := by decide +kernel
theorem dX2_copyFrom_160 : decode cX2_copyFrom 160 = .ok (.aload_n 0, 1) := by decide +kernel
theorem dX2_copyFrom_161 : decode cX2_copyFrom 161 = .ok (.getfield 59, 3) := by decide +kernel
theorem dX2_copyFrom_164 : decode cX2_copyFrom 164 = .ok (.arraylength, 1) := by decide +kernel
theorem dX2_copyFrom_165 : decode cX2_copyFrom 165 = .ok (.invokestatic 80, 3) := by decide +kernel
theorem dX2_copyFrom_168 : decode cX2_copyFrom 168 = .ok (.aload_n 1, 1) := by decide +kernel
theorem dX2_copyFrom_169 : decode cX2_copyFrom 169 = .ok (.getfield 62, 3) := by decide +kernel
theorem dX2_copyFrom_172 : decode cX2_copyFrom 172 = .ok (.iconst 0, 1) := by decide +kernel
theorem dX2_copyFrom_173 : decode cX2_copyFrom 173 = .ok (.aload_n 0, 1) := by decide +kernel
theorem dX2_copyFrom_174 : decode cX2_copyFrom 174 = .ok (.getfield 62, 3) := by decide +kernel
theorem dX2_copyFrom_177 : decode cX2_copyFrom 177 = .ok (.iconst 0, 1) := by decide +kernel
theorem dX2_copyFrom_178 : decode cX2_copyFrom 178 = .ok (.aload_n 0, 1) := by decide +kernel
theorem dX2_copyFrom_179 : decode cX2_copyFrom 179 = .ok (.getfield 62, 3) := by decide +kernel
theorem dX2_copyFrom_182 : decode cX2_copyFrom 182 = .ok (.arraylength, 1) := by decide +kernel
theorem dX2_copyFrom_183 : decode cX2_copyFrom 183 = .ok (.invokestatic 80, 3) := by decide +kernel
theorem dX2_copyFrom_186 : decode cX2_copyFrom 186 = .ok (.aload_n 1, 1) := by decide +kernel
theorem dX2_copyFrom_187 : decode cX2_copyFrom 187 = .ok (.getfield 65, 3) := by decide +kernel
theorem dX2_copyFrom_190 : decode cX2_copyFrom 190 = .ok (.iconst 0, 1) := by decide +kernel
theorem dX2_copyFrom_191 : decode cX2_copyFrom 191 = .ok (.aload_n 0, 1) := by decide +kernel
theorem dX2_copyFrom_192 : decode cX2_copyFrom 192 = .ok (.getfield 65, 3) := by decide +kernel
theorem dX2_copyFrom_195 : decode cX2_copyFrom 195 = .ok (.iconst 0, 1) := by decide +kernel
theorem dX2_copyFrom_196 : decode cX2_copyFrom 196 = .ok (.aload_n 0, 1) := by decide +kernel
theorem dX2_copyFrom_197 : decode cX2_copyFrom 197 = .ok (.getfield 65, 3) := by decide +kernel
theorem dX2_copyFrom_200 : decode cX2_copyFrom 200 = .ok (.arraylength, 1) := by decide +kernel
theorem dX2_copyFrom_201 : decode cX2_copyFrom 201 = .ok (.invokestatic 80, 3) := by decide +kernel
theorem dX2_copyFrom_204 : decode cX2_copyFrom 204 = .ok (.aload_n 1, 1) := by decide +kernel
theorem dX2_copyFrom_205 : decode cX2_copyFrom 205 = .ok (.getfield 68, 3) := by decide +kernel
theorem dX2_copyFrom_208 : decode cX2_copyFrom 208 = .ok (.iconst 0, 1) := by decide +kernel
theorem dX2_copyFrom_209 : decode cX2_copyFrom 209 = .ok (.aload_n 0, 1) := by decide +kernel
theorem dX2_copyFrom_210 : decode cX2_copyFrom 210 = .ok (.getfield 68, 3) := by decide +kernel
theorem dX2_copyFrom_213 : decode cX2_copyFrom 213 = .ok (.iconst 0, 1) := by decide +kernel
theorem dX2_copyFrom_214 : decode cX2_copyFrom 214 = .ok (.aload_n 0, 1) := by decide +kernel
theorem dX2_copyFrom_215 : decode cX2_copyFrom 215 = .ok (.getfield 68, 3) := by decide +kernel
theorem dX2_copyFrom_218 : decode cX2_copyFrom 218 = .ok (.arraylength, 1) := by decide +kernel
theorem dX2_copyFrom_219 : decode cX2_copyFrom 219 = .ok (.invokestatic 80, 3) := by decide +kernel
theorem dX2_copyFrom_222 : decode cX2_copyFrom 222 = .ok (.aload_n 1, 1) := by decide +kernel
theorem dX2_copyFrom_223 : decode cX2_copyFrom 223 = .ok (.getfield 71, 3) := by decide +kernel
theorem dX2_copyFrom_226 : decode cX2_copyFrom 226 = .ok (.iconst 0, 1) := by decide +kernel
theorem dX2_copyFrom_227 : decode cX2_copyFrom 227 = .ok (.aload_n 0, 1) := by decide +kernel
theorem dX2_copyFrom_228 : decode cX2_copyFrom 228 = .ok (.getfield 71, 3) := by decide +kernel
theorem dX2_copyFrom_231 : decode cX2_copyFrom 231 = .ok (.iconst 0, 1) := by decide +kernel
theorem dX2_copyFrom_232 : decode cX2_copyFrom 232 = .ok (.aload_n 0, 1) := by decide +kernel
theorem dX2_copyFrom_233 : decode cX2_copyFrom 233 = .ok (.getfield 71, 3) := by decide +kernel
theorem dX2_copyFrom_236 : decode cX2_copyFrom 236 = .ok (.arraylength, 1) := by decide +kernel
theorem dX2_copyFrom_237 : decode cX2_copyFrom 237 = .ok (.invokestatic 80, 3) := by decide +kernel
theorem dX2_copyFrom_240 : decode cX2_copyFrom 240 = .ok (.return_, 1) := by decide +kernel
theorem dX2_begin_0 : decode cX2_begin 0 = .ok (.aload_n 0, 1) := by decide +kernel
theorem dX2_begin_1 : decode cX2_begin 1 = .ok (.invokevirtual 86, 3) := by decide +kernel
theorem dX2_begin_4 : decode cX2_begin 4 = .ok (.aload_n 1, 1) := by decide +kernel
theorem dX2_begin_5 : decode cX2_begin 5 = .ok (.getfield 89, 3) := by decide +kernel
theorem dX2_begin_8 : decode cX2_begin 8 = .ok (.ifCond .ne 4, 3) := by decide +kernel
theorem dX2_begin_11 : decode cX2_begin 11 = .ok (.return_, 1) := by decide +kernel
theorem dX2_begin_12 : decode cX2_begin 12 = .ok (.aload_n 0, 1) := by decide +kernel
theorem dX2_begin_13 : decode cX2_begin 13 = .ok (.aload_n 1, 1) := by decide +kernel
theorem dX2_begin_14 : decode cX2_begin 14 = .ok (.getfield 94, 3) := by decide +kernel
theorem dX2_begin_17 : decode cX2_begin 17 = .ok (.getfield 98, 3) := by decide +kernel
theorem dX2_begin_20 : decode cX2_begin 20 = .ok (.aload_n 1, 1) := by decide +kernel
theorem dX2_begin_21 : decode cX2_begin 21 = .ok (.getfield 89, 3) := by decide +kernel
theorem dX2_begin_24 : decode cX2_begin 24 = .ok (.iconst 1, 1) := by decide +kernel
theorem dX2_begin_25 : decode cX2_begin 25 = .ok (.isub, 1) := by decide +kernel
theorem dX2_begin_26 : decode cX2_begin 26 = .ok (.iaload, 1) := by decide +kernel
theorem dX2_begin_27 : decode cX2_begin 27 = .ok (.invokevirtual 103, 3) := by decide +kernel
theorem dX2_begin_30 : decode cX2_begin 30 = .ok (.aload_n 0, 1) := by decide +kernel
theorem dX2_begin_31 : decode cX2_begin 31 = .ok (.iconst 0, 1) := by decide +kernel
theorem dX2_begin_32 : decode cX2_begin 32 = .ok (.aload_n 1, 1) := by decide +kernel
theorem dX2_begin_33 : decode cX2_begin 33 = .ok (.getfield 89, 3) := by decide +kernel
theorem dX2_begin_36 : decode cX2_begin 36 = .ok (.iconst 1, 1) := by decide +kernel
theorem dX2_begin_37 : decode cX2_begin 37 = .ok (.isub, 1) := by decide +kernel
theorem dX2_begin_38 : decode cX2_begin 38 = .ok (.invokevirtual 107, 3) := by decide +kernel
theorem dX2_begin_41 : decode cX2_begin 41 = .ok (.aload_n 0, 1) := by decide +kernel
theorem dX2_begin_42 : decode cX2_begin 42 = .ok (.iconst 1, 1) := by decide +kernel
theorem dX2_begin_43 : decode cX2_begin 43 = .ok (.putfield 18, 3) := by decide +kernel
theorem dX2_begin_46 : decode cX2_begin 46 = .ok (.aload_n 0, 1) := by decide +kernel
theorem dX2_begin_47 : decode cX2_begin 47 = .ok (.iconst 1, 1) := by decide +kernel
theorem dX2_begin_48 : decode cX2_begin 48 = .ok (.putfield 9, 3) := by decide +kernel
theorem dX2_begin_51 : decode cX2_begin 51 = .ok (.return_, 1) := by decide +kernel
theorem dX2_hasVar_0 : decode cX2_hasVar 0 = .ok (.iload_n 2, 1) := by decide +kernel
theorem dX2_hasVar_1 : decode cX2_hasVar 1 = .ok (.ifCond .lt 29, 3) := by decide +kernel
theorem dX2_hasVar_4 : decode cX2_hasVar 4 = .ok (.iload_n 2, 1) := by decide +kernel
theorem dX2_hasVar_5 : decode cX2_hasVar 5 = .ok (.aload_n 0, 1) := by decide +kernel
theorem dX2_hasVar_6 : decode cX2_hasVar 6 = .ok (.getfield 18, 3) := by decide +kernel
theorem dX2_hasVar_9 : decode cX2_hasVar 9 = .ok (.if_icmp .ge 21, 3) := by decide +kernel
theorem dX2_hasVar_12 : decode cX2_hasVar 12 = .ok (.aload_n 1, 1) := by decide +kernel
theorem dX2_hasVar_13 : decode cX2_hasVar 13 = .ok (.aload_n 0, 1) := by decide +kernel
theorem dX2_hasVar_14 : decode cX2_hasVar 14 = .ok (.getfield 49, 3) := by decide +kernel
theorem dX2_hasVar_17 : decode cX2_hasVar 17 = .ok (.iload_n 2, 1) := by decide +kernel
theorem dX2_hasVar_18 : decode cX2_hasVar 18 = .ok (.iaload, 1) := by decide +kernel
theorem dX2_hasVar_19 : decode cX2_hasVar 19 = .ok (.iload_n 3, 1) := by decide +kernel
theorem dX2_hasVar_20 : decode cX2_hasVar 20 = .ok (.invokevirtual 111, 3) := by decide +kernel
theorem dX2_hasVar_23 : decode cX2_hasVar 23 = .ok (.ifCond .eq 7, 3) := by decide +kernel
theorem dX2_hasVar_26 : decode cX2_hasVar 26 = .ok (.iconst 1, 1) := by decide +kernel
theorem dX2_hasVar_27 : decode cX2_hasVar 27 = .ok (.goto 4, 3) := by decide +kernel
theorem dX2_hasVar_30 : decode cX2_hasVar 30 = .ok (.iconst 0, 1) := by decide +kernel
theorem dX2_hasVar_31 : decode cX2_hasVar 31 = .ok (.ireturn, 1) := by decide +kernel
theorem dX2_hasRoom_0 : decode cX2_hasRoom 0 = .ok (.iload_n 1, 1) := by decide +kernel
theorem dX2_hasRoom_1 : decode cX2_hasRoom 1 = .ok (.ifCond .lt 15, 3) := by decide +kernel
theorem dX2_hasRoom_4 : decode cX2_hasRoom 4 = .ok (.iload_n 1, 1) := by decide +kernel
theorem dX2_hasRoom_5 : decode cX2_hasRoom 5 = .ok (.aload_n 0, 1) := by decide +kernel
theorem dX2_hasRoom_6 : decode cX2_hasRoom 6 = .ok (.getfield 21, 3) := by decide +kernel
theorem dX2_hasRoom_9 : decode cX2_hasRoom 9 = .ok (.if_icmp .ge 7, 3) := by decide +kernel
theorem dX2_hasRoom_12 : decode cX2_hasRoom 12 = .ok (.iconst 1, 1) := by decide +kernel
theorem dX2_hasRoom_13 : decode cX2_hasRoom 13 = .ok (.goto 4, 3) := by decide +kernel
theorem dX2_hasRoom_16 : decode cX2_hasRoom 16 = .ok (.iconst 0, 1) := by decide +kernel
theorem dX2_hasRoom_17 : decode cX2_hasRoom 17 = .ok (.ireturn, 1) := by decide +kernel
theorem dX2_hasCell_0 : decode cX2_hasCell 0 = .ok (.iload_n 1, 1) := by decide +kernel
theorem dX2_hasCell_1 : decode cX2_hasCell 1 = .ok (.ifCond .lt 24, 3) := by decide +kernel
theorem dX2_hasCell_4 : decode cX2_hasCell 4 = .ok (.iload_n 1, 1) := by decide +kernel
theorem dX2_hasCell_5 : decode cX2_hasCell 5 = .ok (.sipush 200, 3) := by decide +kernel
theorem dX2_hasCell_8 : decode cX2_hasCell 8 = .ok (.if_icmp .ge 17, 3) := by decide +kernel
theorem dX2_hasCell_11 : decode cX2_hasCell 11 = .ok (.aload_n 0, 1) := by decide +kernel
theorem dX2_hasCell_12 : decode cX2_hasCell 12 = .ok (.getfield 65, 3) := by decide +kernel
theorem dX2_hasCell_15 : decode cX2_hasCell 15 = .ok (.iload_n 1, 1) := by decide +kernel
theorem dX2_hasCell_16 : decode cX2_hasCell 16 = .ok (.iaload, 1) := by decide +kernel
theorem dX2_hasCell_17 : decode cX2_hasCell 17 = .ok (.iconst (-1), 1) := by decide +kernel
theorem dX2_hasCell_18 : decode cX2_hasCell 18 = .ok (.if_icmp .eq 7, 3) := by decide +kernel
theorem dX2_hasCell_21 : decode cX2_hasCell 21 = .ok (.iconst 1, 1) := by decide +kernel
theorem dX2_hasCell_22 : decode cX2_hasCell 22 = .ok (.goto 4, 3) := by decide +kernel
theorem dX2_hasCell_25 : decode cX2_hasCell 25 = .ok (.iconst 0, 1) := by decide +kernel
theorem dX2_hasCell_26 : decode cX2_hasCell 26 = .ok (.ireturn, 1) := by decide +kernel
theorem dX2_resultKind_0 : decode cX2_resultKind 0 = .ok (.aload_n 0, 1) := by decide +kernel
theorem dX2_resultKind_1 : decode cX2_resultKind 1 = .ok (.getfield 9, 3) := by decide +kernel
theorem dX2_resultKind_4 : decode cX2_resultKind 4 = .ok (.iconst 2, 1) := by decide +kernel
theorem dX2_resultKind_5 : decode cX2_resultKind 5 = .ok (.if_icmp .ne 10, 3) := by decide +kernel
theorem dX2_resultKind_8 : decode cX2_resultKind 8 = .ok (.aload_n 0, 1) := by decide +kernel
theorem dX2_resultKind_9 : decode cX2_resultKind 9 = .ok (.getfield 39, 3) := by decide +kernel
theorem dX2_resultKind_12 : decode cX2_resultKind 12 = .ok (.goto 4, 3) := by decide +kernel
theorem dX2_resultKind_15 : decode cX2_resultKind 15 = .ok (.iconst 0, 1) := by decide +kernel
theorem dX2_resultKind_16 : decode cX2_resultKind 16 = .ok (.ireturn, 1) := by decide +kernel
theorem dX2_latestFun_0 : decode cX2_latestFun 0 = .ok (.aload_n 0, 1) := by decide +kernel
theorem dX2_latestFun_1 : decode cX2_latestFun 1 = .ok (.getfield 18, 3) := by decide +kernel
theorem dX2_latestFun_4 : decode cX2_latestFun 4 = .ok (.ifCond .le 17, 3) := by decide +kernel
theorem dX2_latestFun_7 : decode cX2_latestFun 7 = .ok (.aload_n 0, 1) := by decide +kernel
theorem dX2_latestFun_8 : decode cX2_latestFun 8 = .ok (.getfield 49, 3) := by decide +kernel
theorem dX2_latestFun_11 : decode cX2_latestFun 11 = .ok (.aload_n 0, 1) := by decide +kernel
theorem dX2_latestFun_12 : decode cX2_latestFun 12 = .ok (.getfield 18, 3) := by decide +kernel
theorem dX2_latestFun_15 : decode cX2_latestFun 15 = .ok (.iconst 1, 1) := by decide +kernel
theorem dX2_latestFun_16 : decode cX2_latestFun 16 = .ok (.isub, 1) := by decide +kernel
theorem dX2_latestFun_17 : decode cX2_latestFun 17 = .ok (.iaload, 1) := by decide +kernel
theorem dX2_latestFun_18 : decode cX2_latestFun 18 = .ok (.goto 4, 3) := by decide +kernel
theorem dX2_latestFun_21 : decode cX2_latestFun 21 = .ok (.iconst (-1), 1) := by decide +kernel
theorem dX2_latestFun_22 : decode cX2_latestFun 22 = .ok (.ireturn, 1) := by decide +kernel
theorem dX2_latestLine_0 : decode cX2_latestLine 0 = .ok (.aload_n 0, 1) := by decide +kernel
theorem dX2_latestLine_1 : decode cX2_latestLine 1 = .ok (.getfield 18, 3) := by decide +kernel
theorem dX2_latestLine_4 : decode cX2_latestLine 4 = .ok (.ifCond .le 17, 3) := by decide +kernel
theorem dX2_latestLine_7 : decode cX2_latestLine 7 = .ok (.aload_n 0, 1) := by decide +kernel
theorem dX2_latestLine_8 : decode cX2_latestLine 8 = .ok (.getfield 53, 3) := by decide +kernel
theorem dX2_latestLine_11 : decode cX2_latestLine 11 = .ok (.aload_n 0, 1) := by decide +kernel
theorem dX2_latestLine_12 : decode cX2_latestLine 12 = .ok (.getfield 18, 3) := by decide +kernel
theorem dX2_latestLine_15 : decode cX2_latestLine 15 = .ok (.iconst 1, 1) := by decide +kernel
theorem dX2_latestLine_16 : decode cX2_latestLine 16 = .ok (.isub, 1) := by decide +kernel
theorem dX2_latestLine_17 : decode cX2_latestLine 17 = .ok (.iaload, 1) := by decide +kernel
theorem dX2_latestLine_18 : decode cX2_latestLine 18 = .ok (.goto 4, 3) := by decide +kernel
theorem dX2_latestLine_21 : decode cX2_latestLine 21 = .ok (.iconst (-1), 1) := by decide +kernel
theorem dX2_latestLine_22 : decode cX2_latestLine 22 = .ok (.ireturn, 1) := by decide +kernel
theorem dX2_regionOfCell_0 : decode cX2_regionOfCell 0 = .ok (.aload_n 0, 1) := by decide +kernel
theorem dX2_regionOfCell_1 : decode cX2_regionOfCell 1 = .ok (.iload_n 1, 1) := by decide +kernel
theorem dX2_regionOfCell_2 : decode cX2_regionOfCell 2 = .ok (.invokevirtual 115, 3) := by decide +kernel
theorem dX2_regionOfCell_5 : decode cX2_regionOfCell 5 = .ok (.ifCond .eq 30, 3) := by decide +kernel
theorem dX2_regionOfCell_8 : decode cX2_regionOfCell 8 = .ok (.aload_n 0, 1) := by decide +kernel
theorem dX2_regionOfCell_9 : decode cX2_regionOfCell 9 = .ok (.aload_n 0, 1) := by decide +kernel
theorem dX2_regionOfCell_10 : decode cX2_regionOfCell 10 = .ok (.getfield 65, 3) := by decide +kernel
theorem dX2_regionOfCell_13 : decode cX2_regionOfCell 13 = .ok (.iload_n 1, 1) := by decide +kernel
theorem dX2_regionOfCell_14 : decode cX2_regionOfCell 14 = .ok (.iaload, 1) := by decide +kernel
theorem dX2_regionOfCell_15 : decode cX2_regionOfCell 15 = .ok (.invokevirtual 119, 3) := by decide +kernel
theorem dX2_regionOfCell_18 : decode cX2_regionOfCell 18 = .ok (.ifCond .eq 17, 3) := by decide +kernel
theorem dX2_regionOfCell_21 : decode cX2_regionOfCell 21 = .ok (.aload_n 0, 1) := by decide +kernel
theorem dX2_regionOfCell_22 : decode cX2_regionOfCell 22 = .ok (.getfield 62, 3) := by decide +kernel
theorem dX2_regionOfCell_25 : decode cX2_regionOfCell 25 = .ok (.aload_n 0, 1) := by decide +kernel
theorem dX2_regionOfCell_26 : decode cX2_regionOfCell 26 = .ok (.getfield 65, 3) := by decide +kernel
theorem dX2_regionOfCell_29 : decode cX2_regionOfCell 29 = .ok (.iload_n 1, 1) := by decide +kernel
theorem dX2_regionOfCell_30 : decode cX2_regionOfCell 30 = .ok (.iaload, 1) := by decide +kernel
theorem dX2_regionOfCell_31 : decode cX2_regionOfCell 31 = .ok (.iaload, 1) := by decide +kernel
theorem dX2_regionOfCell_32 : decode cX2_regionOfCell 32 = .ok (.goto 4, 3) := by decide +kernel
theorem dX2_regionOfCell_35 : decode cX2_regionOfCell 35 = .ok (.iconst (-1), 1) := by decide +kernel
theorem dX2_regionOfCell_36 : decode cX2_regionOfCell 36 = .ok (.ireturn, 1) := by decide +kernel
theorem dX2_roomsOf_0 : decode cX2_roomsOf 0 = .ok (.iconst 0, 1) := by decide +kernel
theorem dX2_roomsOf_1 : decode cX2_roomsOf 1 = .ok (.istore_n 2, 1) := by decide +kernel
theorem dX2_roomsOf_2 : decode cX2_roomsOf 2 = .ok (.iconst 0, 1) := by decide +kernel
theorem dX2_roomsOf_3 : decode cX2_roomsOf 3 = .ok (.istore_n 3, 1) := by decide +kernel
theorem dX2_roomsOf_4 : decode cX2_roomsOf 4 = .ok (.iload_n 3, 1) := by decide +kernel
theorem dX2_roomsOf_5 : decode cX2_roomsOf 5 = .ok (.aload_n 0, 1) := by decide +kernel
theorem dX2_roomsOf_6 : decode cX2_roomsOf 6 = .ok (.getfield 21, 3) := by decide +kernel
theorem dX2_roomsOf_9 : decode cX2_roomsOf 9 = .ok (.if_icmp .ge 22, 3) := by decide +kernel
theorem dX2_roomsOf_12 : decode cX2_roomsOf 12 = .ok (.aload_n 0, 1) := by decide +kernel
theorem dX2_roomsOf_13 : decode cX2_roomsOf 13 = .ok (.getfield 62, 3) := by decide +kernel
theorem dX2_roomsOf_16 : decode cX2_roomsOf 16 = .ok (.iload_n 3, 1) := by decide +kernel
theorem dX2_roomsOf_17 : decode cX2_roomsOf 17 = .ok (.iaload, 1) := by decide +kernel
theorem dX2_roomsOf_18 : decode cX2_roomsOf 18 = .ok (.iload_n 1, 1) := by decide +kernel
theorem dX2_roomsOf_19 : decode cX2_roomsOf 19 = .ok (.if_icmp .ne 6, 3) := by decide +kernel
theorem dX2_roomsOf_22 : decode cX2_roomsOf 22 = .ok (.iinc 2 1, 3) := by decide +kernel
theorem dX2_roomsOf_25 : decode cX2_roomsOf 25 = .ok (.iinc 3 1, 3) := by decide +kernel
theorem dX2_roomsOf_28 : decode cX2_roomsOf 28 = .ok (.goto (-24), 3) := by decide +kernel
theorem dX2_roomsOf_31 : decode cX2_roomsOf 31 = .ok (.iload_n 2, 1) := by decide +kernel
theorem dX2_roomsOf_32 : decode cX2_roomsOf 32 = .ok (.ireturn, 1) := by decide +kernel
theorem dX2_cellsOf_0 : decode cX2_cellsOf 0 = .ok (.iconst 0, 1) := by decide +kernel
theorem dX2_cellsOf_1 : decode cX2_cellsOf 1 = .ok (.istore_n 2, 1) := by decide +kernel
theorem dX2_cellsOf_2 : decode cX2_cellsOf 2 = .ok (.iconst 0, 1) := by decide +kernel
theorem dX2_cellsOf_3 : decode cX2_cellsOf 3 = .ok (.istore_n 3, 1) := by decide +kernel
theorem dX2_cellsOf_4 : decode cX2_cellsOf 4 = .ok (.iload_n 3, 1) := by decide +kernel
theorem dX2_cellsOf_5 : decode cX2_cellsOf 5 = .ok (.sipush 200, 3) := by decide +kernel
theorem dX2_cellsOf_8 : decode cX2_cellsOf 8 = .ok (.if_icmp .ge 29, 3) := by decide +kernel
theorem dX2_cellsOf_11 : decode cX2_cellsOf 11 = .ok (.aload_n 0, 1) := by decide +kernel
theorem dX2_cellsOf_12 : decode cX2_cellsOf 12 = .ok (.iload_n 3, 1) := by decide +kernel
theorem dX2_cellsOf_13 : decode cX2_cellsOf 13 = .ok (.invokevirtual 115, 3) := by decide +kernel
theorem dX2_cellsOf_16 : decode cX2_cellsOf 16 = .ok (.ifCond .eq 15, 3) := by decide +kernel
theorem dX2_cellsOf_19 : decode cX2_cellsOf 19 = .ok (.aload_n 0, 1) := by decide +kernel
theorem dX2_cellsOf_20 : decode cX2_cellsOf 20 = .ok (.iload_n 3, 1) := by decide +kernel
theorem dX2_cellsOf_21 : decode cX2_cellsOf 21 = .ok (.invokevirtual 122, 3) := by decide +kernel
theorem dX2_cellsOf_24 : decode cX2_cellsOf 24 = .ok (.iload_n 1, 1) := by decide +kernel
theorem dX2_cellsOf_25 : decode cX2_cellsOf 25 = .ok (.if_icmp .ne 6, 3) := by decide +kernel
theorem dX2_cellsOf_28 : decode cX2_cellsOf 28 = .ok (.iinc 2 1, 3) := by decide +kernel
theorem dX2_cellsOf_31 : decode cX2_cellsOf 31 = .ok (.iinc 3 1, 3) := by decide +kernel
theorem dX2_cellsOf_34 : decode cX2_cellsOf 34 = .ok (.goto (-30), 3) := by decide +kernel
theorem dX2_cellsOf_37 : decode cX2_cellsOf 37 = .ok (.iload_n 2, 1) := by decide +kernel
theorem dX2_cellsOf_38 : decode cX2_cellsOf 38 = .ok (.ireturn, 1) := by decide +kernel
theorem dX2_cellsIn_0 : decode cX2_cellsIn 0 = .ok (.iconst 0, 1) := by decide +kernel
theorem dX2_cellsIn_1 : decode cX2_cellsIn 1 = .ok (.istore_n 2, 1) := by decide +kernel
theorem dX2_cellsIn_2 : decode cX2_cellsIn 2 = .ok (.iconst 0, 1) := by decide +kernel
theorem dX2_cellsIn_3 : decode cX2_cellsIn 3 = .ok (.istore_n 3, 1) := by decide +kernel
theorem dX2_cellsIn_4 : decode cX2_cellsIn 4 = .ok (.iload_n 3, 1) := by decide +kernel
theorem dX2_cellsIn_5 : decode cX2_cellsIn 5 = .ok (.sipush 200, 3) := by decide +kernel
theorem dX2_cellsIn_8 : decode cX2_cellsIn 8 = .ok (.if_icmp .ge 22, 3) := by decide +kernel
theorem dX2_cellsIn_11 : decode cX2_cellsIn 11 = .ok (.aload_n 0, 1) := by decide +kernel
theorem dX2_cellsIn_12 : decode cX2_cellsIn 12 = .ok (.getfield 65, 3) := by decide +kernel
theorem dX2_cellsIn_15 : decode cX2_cellsIn 15 = .ok (.iload_n 3, 1) := by decide +kernel
theorem dX2_cellsIn_16 : decode cX2_cellsIn 16 = .ok (.iaload, 1) := by decide +kernel
theorem dX2_cellsIn_17 : decode cX2_cellsIn 17 = .ok (.iload_n 1, 1) := by decide +kernel
theorem dX2_cellsIn_18 : decode cX2_cellsIn 18 = .ok (.if_icmp .ne 6, 3) := by decide +kernel
theorem dX2_cellsIn_21 : decode cX2_cellsIn 21 = .ok (.iinc 2 1, 3) := by decide +kernel
theorem dX2_cellsIn_24 : decode cX2_cellsIn 24 = .ok (.iinc 3 1, 3) := by decide +kernel
theorem dX2_cellsIn_27 : decode cX2_cellsIn 27 = .ok (.goto (-23), 3) := by decide +kernel
theorem dX2_cellsIn_30 : decode cX2_cellsIn 30 = .ok (.iload_n 2, 1) := by decide +kernel
theorem dX2_cellsIn_31 : decode cX2_cellsIn 31 = .ok (.ireturn, 1) := by decide +kernel
theorem dX2_setVar_0 : decode cX2_setVar 0 = .ok (.aload_n 0, 1) := by decide +kernel
theorem dX2_setVar_1 : decode cX2_setVar 1 = .ok (.getfield 56, 3) := by decide +kernel
theorem dX2_setVar_4 : decode cX2_setVar 4 = .ok (.iload_n 1, 1) := by decide +kernel
theorem dX2_setVar_5 : decode cX2_setVar 5 = .ok (.bipush 27, 2) := by decide +kernel
theorem dX2_setVar_7 : decode cX2_setVar 7 = .ok (.imul, 1) := by decide +kernel
theorem dX2_setVar_8 : decode cX2_setVar 8 = .ok (.iload_n 2, 1) := by decide +kernel
theorem dX2_setVar_9 : decode cX2_setVar 9 = .ok (.iadd, 1) := by decide +kernel
theorem dX2_setVar_10 : decode cX2_setVar 10 = .ok (.iload_n 3, 1) := by decide +kernel
theorem dX2_setVar_11 : decode cX2_setVar 11 = .ok (.iastore, 1) := by decide +kernel
theorem dX2_setVar_12 : decode cX2_setVar 12 = .ok (.aload_n 0, 1) := by decide +kernel
theorem dX2_setVar_13 : decode cX2_setVar 13 = .ok (.getfield 59, 3) := by decide +kernel
theorem dX2_setVar_16 : decode cX2_setVar 16 = .ok (.iload_n 1, 1) := by decide +kernel
theorem dX2_setVar_17 : decode cX2_setVar 17 = .ok (.bipush 27, 2) := by decide +kernel
theorem dX2_setVar_19 : decode cX2_setVar 19 = .ok (.imul, 1) := by decide +kernel
theorem dX2_setVar_20 : decode cX2_setVar 20 = .ok (.iload_n 2, 1) := by decide +kernel
theorem dX2_setVar_21 : decode cX2_setVar 21 = .ok (.iadd, 1) := by decide +kernel
theorem dX2_setVar_22 : decode cX2_setVar 22 = .ok (.iload 4, 2) := by decide +kernel
theorem dX2_setVar_24 : decode cX2_setVar 24 = .ok (.iastore, 1) := by decide +kernel
theorem dX2_setVar_25 : decode cX2_setVar 25 = .ok (.return_, 1) := by decide +kernel
theorem dX2_makeStep_0 : decode cX2_makeStep 0 = .ok (.aload_n 0, 1) := by decide +kernel
theorem dX2_makeStep_1 : decode cX2_makeStep 1 = .ok (.getfield 9, 3) := by decide +kernel
theorem dX2_makeStep_4 : decode cX2_makeStep 4 = .ok (.iconst 1, 1) := by decide +kernel
theorem dX2_makeStep_5 : decode cX2_makeStep 5 = .ok (.if_icmp .ne 10, 3) := by decide +kernel
theorem dX2_makeStep_8 : decode cX2_makeStep 8 = .ok (.aload_n 0, 1) := by decide +kernel
theorem dX2_makeStep_9 : decode cX2_makeStep 9 = .ok (.getfield 18, 3) := by decide +kernel
theorem dX2_makeStep_12 : decode cX2_makeStep 12 = .ok (.ifCond .ne 4, 3) := by decide +kernel
theorem dX2_makeStep_15 : decode cX2_makeStep 15 = .ok (.return_, 1) := by decide +kernel
theorem dX2_makeStep_16 : decode cX2_makeStep 16 = .ok (.aload_n 0, 1) := by decide +kernel
theorem dX2_makeStep_17 : decode cX2_makeStep 17 = .ok (.iconst 0, 1) := by decide +kernel
theorem dX2_makeStep_18 : decode cX2_makeStep 18 = .ok (.putfield 45, 3) := by decide +kernel
theorem dX2_makeStep_21 : decode cX2_makeStep 21 = .ok (.aload_n 0, 1) := by decide +kernel
theorem dX2_makeStep_22 : decode cX2_makeStep 22 = .ok (.getfield 49, 3) := by decide +kernel
theorem dX2_makeStep_25 : decode cX2_makeStep 25 = .ok (.aload_n 0, 1) := by decide +kernel
theorem dX2_makeStep_26 : decode cX2_makeStep 26 = .ok (.getfield 18, 3) := by decide +kernel
theorem dX2_makeStep_29 : decode cX2_makeStep 29 = .ok (.iconst 1, 1) := by decide +kernel
theorem dX2_makeStep_30 : decode cX2_makeStep 30 = .ok (.isub, 1) := by decide +kernel
theorem dX2_makeStep_31 : decode cX2_makeStep 31 = .ok (.iaload, 1) := by decide +kernel
theorem dX2_makeStep_32 : decode cX2_makeStep 32 = .ok (.istore_n 2, 1) := by decide +kernel
theorem dX2_makeStep_33 : decode cX2_makeStep 33 = .ok (.aload_n 1, 1) := by decide +kernel
theorem dX2_makeStep_34 : decode cX2_makeStep 34 = .ok (.getfield 126, 3) := by decide +kernel
theorem dX2_makeStep_37 : decode cX2_makeStep 37 = .ok (.iload_n 2, 1) := by decide +kernel
theorem dX2_makeStep_38 : decode cX2_makeStep 38 = .ok (.iaload, 1) := by decide +kernel
theorem dX2_makeStep_39 : decode cX2_makeStep 39 = .ok (.aload_n 0, 1) := by decide +kernel
theorem dX2_makeStep_40 : decode cX2_makeStep 40 = .ok (.getfield 53, 3) := by decide +kernel
theorem dX2_makeStep_43 : decode cX2_makeStep 43 = .ok (.aload_n 0, 1) := by decide +kernel
theorem dX2_makeStep_44 : decode cX2_makeStep 44 = .ok (.getfield 18, 3) := by decide +kernel
theorem dX2_makeStep_47 : decode cX2_makeStep 47 = .ok (.iconst 1, 1) := by decide +kernel
theorem dX2_makeStep_48 : decode cX2_makeStep 48 = .ok (.isub, 1) := by decide +kernel
theorem dX2_makeStep_49 : decode cX2_makeStep 49 = .ok (.iaload, 1) := by decide +kernel
theorem dX2_makeStep_50 : decode cX2_makeStep 50 = .ok (.iadd, 1) := by decide +kernel
theorem dX2_makeStep_51 : decode cX2_makeStep 51 = .ok (.istore_n 3, 1) := by decide +kernel
theorem dX2_makeStep_52 : decode cX2_makeStep 52 = .ok (.aload_n 0, 1) := by decide +kernel
theorem dX2_makeStep_53 : decode cX2_makeStep 53 = .ok (.aload_n 1, 1) := by decide +kernel
theorem dX2_makeStep_54 : decode cX2_makeStep 54 = .ok (.getfield 94, 3) := by decide +kernel
theorem dX2_makeStep_57 : decode cX2_makeStep 57 = .ok (.getfield 129, 3) := by decide +kernel
theorem dX2_makeStep_60 : decode cX2_makeStep 60 = .ok (.iload_n 3, 1) := by decide +kernel
theorem dX2_makeStep_61 : decode cX2_makeStep 61 = .ok (.iaload, 1) := by decide +kernel
theorem dX2_makeStep_62 : decode cX2_makeStep 62 = .ok (.invokevirtual 103, 3) := by decide +kernel
theorem dX2_makeStep_65 : decode cX2_makeStep 65 = .ok (.aload_n 0, 1) := by decide +kernel
theorem dX2_makeStep_66 : decode cX2_makeStep 66 = .ok (.aload_n 1, 1) := by decide +kernel
theorem dX2_makeStep_67 : decode cX2_makeStep 67 = .ok (.iload_n 2, 1) := by decide +kernel
theorem dX2_makeStep_68 : decode cX2_makeStep 68 = .ok (.iload_n 3, 1) := by decide +kernel
theorem dX2_makeStep_69 : decode cX2_makeStep 69 = .ok (.invokevirtual 132, 3) := by decide +kernel
theorem dX2_makeStep_72 : decode cX2_makeStep 72 = .ok (.istore 4, 2) := by decide +kernel
theorem dX2_makeStep_74 : decode cX2_makeStep 74 = .ok (.aload_n 0, 1) := by decide +kernel
theorem dX2_makeStep_75 : decode cX2_makeStep 75 = .ok (.dup, 1) := by decide +kernel
theorem dX2_makeStep_76 : decode cX2_makeStep 76 = .ok (.getfield 30, 3) := by decide +kernel
theorem dX2_makeStep_79 : decode cX2_makeStep 79 = .ok (.iconst 1, 1) := by decide +kernel
theorem dX2_makeStep_80 : decode cX2_makeStep 80 = .ok (.iadd, 1) := by decide +kernel
theorem dX2_makeStep_81 : decode cX2_makeStep 81 = .ok (.putfield 30, 3) := by decide +kernel
theorem dX2_makeStep_84 : decode cX2_makeStep 84 = .ok (.iload 4, 2) := by decide +kernel
theorem dX2_makeStep_86 : decode cX2_makeStep 86 = .ok (.ifCond .eq 17, 3) := by decide +kernel
theorem dX2_makeStep_89 : decode cX2_makeStep 89 = .ok (.aload_n 0, 1) := by decide +kernel
theorem dX2_makeStep_90 : decode cX2_makeStep 90 = .ok (.iconst 3, 1) := by decide +kernel
theorem dX2_makeStep_91 : decode cX2_makeStep 91 = .ok (.putfield 9, 3) := by decide +kernel
theorem dX2_makeStep_94 : decode cX2_makeStep 94 = .ok (.aload_n 0, 1) := by decide +kernel
theorem dX2_makeStep_95 : decode cX2_makeStep 95 = .ok (.iload 4, 2) := by decide +kernel
theorem dX2_makeStep_97 : decode cX2_makeStep 97 = .ok (.putfield 15, 3) := by decide +kernel
theorem dX2_makeStep_100 : decode cX2_makeStep 100 = .ok (.goto 34, 3) := by decide +kernel
theorem dX2_makeStep_103 : decode cX2_makeStep 103 = .ok (.aload_n 0, 1) := by decide +kernel
theorem dX2_makeStep_104 : decode cX2_makeStep 104 = .ok (.aload_n 1, 1) := by decide +kernel
theorem dX2_makeStep_105 : decode cX2_makeStep 105 = .ok (.iload_n 3, 1) := by decide +kernel
theorem dX2_makeStep_106 : decode cX2_makeStep 106 = .ok (.invokevirtual 136, 3) := by decide +kernel
theorem dX2_makeStep_109 : decode cX2_makeStep 109 = .ok (.ifCond .eq 13, 3) := by decide +kernel
theorem dX2_makeStep_112 : decode cX2_makeStep 112 = .ok (.aload_n 0, 1) := by decide +kernel
theorem dX2_makeStep_113 : decode cX2_makeStep 113 = .ok (.aload_n 1, 1) := by decide +kernel
theorem dX2_makeStep_114 : decode cX2_makeStep 114 = .ok (.iload_n 2, 1) := by decide +kernel
theorem dX2_makeStep_115 : decode cX2_makeStep 115 = .ok (.iload_n 3, 1) := by decide +kernel
theorem dX2_makeStep_116 : decode cX2_makeStep 116 = .ok (.invokevirtual 140, 3) := by decide +kernel
theorem dX2_makeStep_119 : decode cX2_makeStep 119 = .ok (.goto 15, 3) := by decide +kernel
theorem dX2_makeStep_122 : decode cX2_makeStep 122 = .ok (.aload_n 0, 1) := by decide +kernel
theorem dX2_makeStep_123 : decode cX2_makeStep 123 = .ok (.aload_n 1, 1) := by decide +kernel
theorem dX2_makeStep_124 : decode cX2_makeStep 124 = .ok (.iload_n 2, 1) := by decide +kernel
theorem dX2_makeStep_125 : decode cX2_makeStep 125 = .ok (.iload_n 3, 1) := by decide +kernel
theorem dX2_makeStep_126 : decode cX2_makeStep 126 = .ok (.invokevirtual 144, 3) := by decide +kernel
theorem dX2_makeStep_129 : decode cX2_makeStep 129 = .ok (.aload_n 0, 1) := by decide +kernel
theorem dX2_makeStep_130 : decode cX2_makeStep 130 = .ok (.aload_n 1, 1) := by decide +kernel
theorem dX2_makeStep_131 : decode cX2_makeStep 131 = .ok (.invokevirtual 147, 3) := by decide +kernel
theorem dX2_makeStep_134 : decode cX2_makeStep 134 = .ok (.return_, 1) := by decide +kernel
theorem dX2_makeRooms_0 : decode cX2_makeRooms 0 = .ok (.iload_n 1, 1) := by decide +kernel
theorem dX2_makeRooms_1 : decode cX2_makeRooms 1 = .ok (.ifCond .ne 4, 3) := by decide +kernel
theorem dX2_makeRooms_4 : decode cX2_makeRooms 4 = .ok (.return_, 1) := by decide +kernel
theorem dX2_makeRooms_5 : decode cX2_makeRooms 5 = .ok (.iconst 0, 1) := by decide +kernel
theorem dX2_makeRooms_6 : decode cX2_makeRooms 6 = .ok (.istore_n 2, 1) := by decide +kernel
theorem dX2_makeRooms_7 : decode cX2_makeRooms 7 = .ok (.iload_n 2, 1) := by decide +kernel
theorem dX2_makeRooms_8 : decode cX2_makeRooms 8 = .ok (.bipush 24, 2) := by decide +kernel
theorem dX2_makeRooms_10 : decode cX2_makeRooms 10 = .ok (.if_icmp .ge 47, 3) := by decide +kernel
theorem dX2_makeRooms_13 : decode cX2_makeRooms 13 = .ok (.iload_n 1, 1) := by decide +kernel
theorem dX2_makeRooms_14 : decode cX2_makeRooms 14 = .ok (.iload_n 2, 1) := by decide +kernel
theorem dX2_makeRooms_15 : decode cX2_makeRooms 15 = .ok (.ishr, 1) := by decide +kernel
theorem dX2_makeRooms_16 : decode cX2_makeRooms 16 = .ok (.iconst 1, 1) := by decide +kernel
theorem dX2_makeRooms_17 : decode cX2_makeRooms 17 = .ok (.iand, 1) := by decide +kernel
theorem dX2_makeRooms_18 : decode cX2_makeRooms 18 = .ok (.ifCond .eq 33, 3) := by decide +kernel
theorem dX2_makeRooms_21 : decode cX2_makeRooms 21 = .ok (.aload_n 0, 1) := by decide +kernel
theorem dX2_makeRooms_22 : decode cX2_makeRooms 22 = .ok (.getfield 21, 3) := by decide +kernel
theorem dX2_makeRooms_25 : decode cX2_makeRooms 25 = .ok (.sipush 312, 3) := by decide +kernel
theorem dX2_makeRooms_28 : decode cX2_makeRooms 28 = .ok (.if_icmp .ge 23, 3) := by decide +kernel
theorem dX2_makeRooms_31 : decode cX2_makeRooms 31 = .ok (.aload_n 0, 1) := by decide +kernel
theorem dX2_makeRooms_32 : decode cX2_makeRooms 32 = .ok (.getfield 62, 3) := by decide +kernel
theorem dX2_makeRooms_35 : decode cX2_makeRooms 35 = .ok (.aload_n 0, 1) := by decide +kernel
theorem dX2_makeRooms_36 : decode cX2_makeRooms 36 = .ok (.getfield 21, 3) := by decide +kernel
theorem dX2_makeRooms_39 : decode cX2_makeRooms 39 = .ok (.iload_n 2, 1) := by decide +kernel
theorem dX2_makeRooms_40 : decode cX2_makeRooms 40 = .ok (.iastore, 1) := by decide +kernel
theorem dX2_makeRooms_41 : decode cX2_makeRooms 41 = .ok (.aload_n 0, 1) := by decide +kernel
theorem dX2_makeRooms_42 : decode cX2_makeRooms 42 = .ok (.dup, 1) := by decide +kernel
theorem dX2_makeRooms_43 : decode cX2_makeRooms 43 = .ok (.getfield 21, 3) := by decide +kernel
theorem dX2_makeRooms_46 : decode cX2_makeRooms 46 = .ok (.iconst 1, 1) := by decide +kernel
theorem dX2_makeRooms_47 : decode cX2_makeRooms 47 = .ok (.iadd, 1) := by decide +kernel
theorem dX2_makeRooms_48 : decode cX2_makeRooms 48 = .ok (.putfield 21, 3) := by decide +kernel
theorem dX2_makeRooms_51 : decode cX2_makeRooms 51 = .ok (.iinc 2 1, 3) := by decide +kernel
theorem dX2_makeRooms_54 : decode cX2_makeRooms 54 = .ok (.goto (-47), 3) := by decide +kernel
theorem dX2_makeRooms_57 : decode cX2_makeRooms 57 = .ok (.return_, 1) := by decide +kernel
theorem dX2_stopReason_0 : decode cX2_stopReason 0 = .ok (.aload_n 1, 1) := by decide +kernel
theorem dX2_stopReason_1 : decode cX2_stopReason 1 = .ok (.getfield 151, 3) := by decide +kernel
theorem dX2_stopReason_4 : decode cX2_stopReason 4 = .ok (.iload_n 3, 1) := by decide +kernel
theorem dX2_stopReason_5 : decode cX2_stopReason 5 = .ok (.iaload, 1) := by decide +kernel
theorem dX2_stopReason_6 : decode cX2_stopReason 6 = .ok (.istore 4, 2) := by decide +kernel
theorem dX2_stopReason_8 : decode cX2_stopReason 8 = .ok (.iload 4, 2) := by decide +kernel
theorem dX2_stopReason_10 : decode cX2_stopReason 10 = .ok (.iconst 3, 1) := by decide +kernel
theorem dX2_stopReason_11 : decode cX2_stopReason 11 = .ok (.if_icmp .eq 9, 3) := by decide +kernel
theorem dX2_stopReason_14 : decode cX2_stopReason 14 = .ok (.iload 4, 2) := by decide +kernel
theorem dX2_stopReason_16 : decode cX2_stopReason 16 = .ok (.iconst 4, 1) := by decide +kernel
theorem dX2_stopReason_17 : decode cX2_stopReason 17 = .ok (.if_icmp .ne 16, 3) := by decide +kernel
theorem dX2_stopReason_20 : decode cX2_stopReason 20 = .ok (.aload_n 0, 1) := by decide +kernel
theorem dX2_stopReason_21 : decode cX2_stopReason 21 = .ok (.aload_n 1, 1) := by decide +kernel
theorem dX2_stopReason_22 : decode cX2_stopReason 22 = .ok (.iload_n 3, 1) := by decide +kernel
theorem dX2_stopReason_23 : decode cX2_stopReason 23 = .ok (.iconst 0, 1) := by decide +kernel
theorem dX2_stopReason_24 : decode cX2_stopReason 24 = .ok (.invokevirtual 154, 3) := by decide +kernel
theorem dX2_stopReason_27 : decode cX2_stopReason 27 = .ok (.iconst 2, 1) := by decide +kernel
theorem dX2_stopReason_28 : decode cX2_stopReason 28 = .ok (.if_icmp .eq 5, 3) := by decide +kernel
theorem dX2_stopReason_31 : decode cX2_stopReason 31 = .ok (.iconst 1, 1) := by decide +kernel
theorem dX2_stopReason_32 : decode cX2_stopReason 32 = .ok (.ireturn, 1) := by decide +kernel
theorem dX2_stopReason_33 : decode cX2_stopReason 33 = .ok (.aload_n 0, 1) := by decide +kernel
theorem dX2_stopReason_34 : decode cX2_stopReason 34 = .ok (.aload_n 1, 1) := by decide +kernel
theorem dX2_stopReason_35 : decode cX2_stopReason 35 = .ok (.iload_n 3, 1) := by decide +kernel
theorem dX2_stopReason_36 : decode cX2_stopReason 36 = .ok (.invokevirtual 157, 3) := by decide +kernel
theorem dX2_stopReason_39 : decode cX2_stopReason 39 = .ok (.ifCond .eq 5, 3) := by decide +kernel
theorem dX2_stopReason_42 : decode cX2_stopReason 42 = .ok (.iconst 2, 1) := by decide +kernel
theorem dX2_stopReason_43 : decode cX2_stopReason 43 = .ok (.ireturn, 1) := by decide +kernel
theorem dX2_stopReason_44 : decode cX2_stopReason 44 = .ok (.aload_n 0, 1) := by decide +kernel
theorem dX2_stopReason_45 : decode cX2_stopReason 45 = .ok (.aload_n 1, 1) := by decide +kernel
theorem dX2_stopReason_46 : decode cX2_stopReason 46 = .ok (.iload_n 3, 1) := by decide +kernel
theorem dX2_stopReason_47 : decode cX2_stopReason 47 = .ok (.invokevirtual 136, 3) := by decide +kernel
theorem dX2_stopReason_50 : decode cX2_stopReason 50 = .ok (.ifCond .eq 23, 3) := by decide +kernel
theorem dX2_stopReason_53 : decode cX2_stopReason 53 = .ok (.aload_n 0, 1) := by decide +kernel
theorem dX2_stopReason_54 : decode cX2_stopReason 54 = .ok (.getfield 18, 3) := by decide +kernel
theorem dX2_stopReason_57 : decode cX2_stopReason 57 = .ok (.bipush 12, 2) := by decide +kernel
theorem dX2_stopReason_59 : decode cX2_stopReason 59 = .ok (.if_icmp .lt 14, 3) := by decide +kernel
theorem dX2_stopReason_62 : decode cX2_stopReason 62 = .ok (.aload_n 1, 1) := by decide +kernel
theorem dX2_stopReason_63 : decode cX2_stopReason 63 = .ok (.iload_n 2, 1) := by decide +kernel
theorem dX2_stopReason_64 : decode cX2_stopReason 64 = .ok (.iload_n 3, 1) := by decide +kernel
theorem dX2_stopReason_65 : decode cX2_stopReason 65 = .ok (.invokevirtual 160, 3) := by decide +kernel
theorem dX2_stopReason_68 : decode cX2_stopReason 68 = .ok (.ifCond .ne 5, 3) := by decide +kernel
theorem dX2_stopReason_71 : decode cX2_stopReason 71 = .ok (.iconst 3, 1) := by decide +kernel
theorem dX2_stopReason_72 : decode cX2_stopReason 72 = .ok (.ireturn, 1) := by decide +kernel
theorem dX2_stopReason_73 : decode cX2_stopReason 73 = .ok (.iload 4, 2) := by decide +kernel
theorem dX2_stopReason_75 : decode cX2_stopReason 75 = .ok (.iconst 2, 1) := by decide +kernel
theorem dX2_stopReason_76 : decode cX2_stopReason 76 = .ok (.if_icmp .ne 15, 3) := by decide +kernel
theorem dX2_stopReason_79 : decode cX2_stopReason 79 = .ok (.aload_n 0, 1) := by decide +kernel
theorem dX2_stopReason_80 : decode cX2_stopReason 80 = .ok (.getfield 24, 3) := by decide +kernel
theorem dX2_stopReason_83 : decode cX2_stopReason 83 = .ok (.sipush 200, 3) := by decide +kernel
theorem dX2_stopReason_86 : decode cX2_stopReason 86 = .ok (.if_icmp .lt 5, 3) := by decide +kernel
theorem dX2_stopReason_89 : decode cX2_stopReason 89 = .ok (.iconst 4, 1) := by decide +kernel
theorem dX2_stopReason_90 : decode cX2_stopReason 90 = .ok (.ireturn, 1) := by decide +kernel
theorem dX2_stopReason_91 : decode cX2_stopReason 91 = .ok (.aload_n 0, 1) := by decide +kernel
theorem dX2_stopReason_92 : decode cX2_stopReason 92 = .ok (.getfield 30, 3) := by decide +kernel
theorem dX2_stopReason_95 : decode cX2_stopReason 95 = .ok (.sipush 5000, 3) := by decide +kernel
theorem dX2_stopReason_98 : decode cX2_stopReason 98 = .ok (.if_icmp .lt 7, 3) := by decide +kernel
theorem dX2_stopReason_101 : decode cX2_stopReason 101 = .ok (.iconst 5, 1) := by decide +kernel
theorem dX2_stopReason_102 : decode cX2_stopReason 102 = .ok (.goto 4, 3) := by decide +kernel
theorem dX2_stopReason_105 : decode cX2_stopReason 105 = .ok (.iconst 0, 1) := by decide +kernel
theorem dX2_stopReason_106 : decode cX2_stopReason 106 = .ok (.ireturn, 1) := by decide +kernel
theorem dX2_hasPairForNumber_0 : decode cX2_hasPairForNumber 0 = .ok (.aload_n 1, 1) := by decide +kernel
theorem dX2_hasPairForNumber_1 : decode cX2_hasPairForNumber 1 = .ok (.getfield 151, 3) := by decide +kernel
theorem dX2_hasPairForNumber_4 : decode cX2_hasPairForNumber 4 = .ok (.iload_n 2, 1) := by decide +kernel
theorem dX2_hasPairForNumber_5 : decode cX2_hasPairForNumber 5 = .ok (.iaload, 1) := by decide +kernel
theorem dX2_hasPairForNumber_6 : decode cX2_hasPairForNumber 6 = .ok (.tableswitch 100 5 9 #[34, 34, 62, 100, 79], 34) := by decide +kernel
theorem dX2_hasPairForNumber_40 : decode cX2_hasPairForNumber 40 = .ok (.aload_n 0, 1) := by decide +kernel
theorem dX2_hasPairForNumber_41 : decode cX2_hasPairForNumber 41 = .ok (.aload_n 1, 1) := by decide +kernel
theorem dX2_hasPairForNumber_42 : decode cX2_hasPairForNumber 42 = .ok (.iload_n 2, 1) := by decide +kernel
theorem dX2_hasPairForNumber_43 : decode cX2_hasPairForNumber 43 = .ok (.iconst 0, 1) := by decide +kernel
theorem dX2_hasPairForNumber_44 : decode cX2_hasPairForNumber 44 = .ok (.invokevirtual 154, 3) := by decide +kernel
theorem dX2_hasPairForNumber_47 : decode cX2_hasPairForNumber 47 = .ok (.iconst 2, 1) := by decide +kernel
theorem dX2_hasPairForNumber_48 : decode cX2_hasPairForNumber 48 = .ok (.if_icmp .eq 14, 3) := by decide +kernel
theorem dX2_hasPairForNumber_51 : decode cX2_hasPairForNumber 51 = .ok (.aload_n 0, 1) := by decide +kernel
theorem dX2_hasPairForNumber_52 : decode cX2_hasPairForNumber 52 = .ok (.aload_n 1, 1) := by decide +kernel
theorem dX2_hasPairForNumber_53 : decode cX2_hasPairForNumber 53 = .ok (.iload_n 2, 1) := by decide +kernel
theorem dX2_hasPairForNumber_54 : decode cX2_hasPairForNumber 54 = .ok (.iconst 1, 1) := by decide +kernel
theorem dX2_hasPairForNumber_55 : decode cX2_hasPairForNumber 55 = .ok (.invokevirtual 154, 3) := by decide +kernel
theorem dX2_hasPairForNumber_58 : decode cX2_hasPairForNumber 58 = .ok (.iconst 2, 1) := by decide +kernel
theorem dX2_hasPairForNumber_59 : decode cX2_hasPairForNumber 59 = .ok (.if_icmp .ne 7, 3) := by decide +kernel
theorem dX2_hasPairForNumber_62 : decode cX2_hasPairForNumber 62 = .ok (.iconst 1, 1) := by decide +kernel
theorem dX2_hasPairForNumber_63 : decode cX2_hasPairForNumber 63 = .ok (.goto 4, 3) := by decide +kernel
theorem dX2_hasPairForNumber_66 : decode cX2_hasPairForNumber 66 = .ok (.iconst 0, 1) := by decide +kernel
theorem dX2_hasPairForNumber_67 : decode cX2_hasPairForNumber 67 = .ok (.ireturn, 1) := by decide +kernel
theorem dX2_hasPairForNumber_68 : decode cX2_hasPairForNumber 68 = .ok (.aload_n 0, 1) := by decide +kernel
theorem dX2_hasPairForNumber_69 : decode cX2_hasPairForNumber 69 = .ok (.aload_n 1, 1) := by decide +kernel
theorem dX2_hasPairForNumber_70 : decode cX2_hasPairForNumber 70 = .ok (.iload_n 2, 1) := by decide +kernel
theorem dX2_hasPairForNumber_71 : decode cX2_hasPairForNumber 71 = .ok (.iconst 0, 1) := by decide +kernel
theorem dX2_hasPairForNumber_72 : decode cX2_hasPairForNumber 72 = .ok (.invokevirtual 154, 3) := by decide +kernel
theorem dX2_hasPairForNumber_75 : decode cX2_hasPairForNumber 75 = .ok (.iconst 2, 1) := by decide +kernel
theorem dX2_hasPairForNumber_76 : decode cX2_hasPairForNumber 76 = .ok (.if_icmp .ne 7, 3) := by decide +kernel
theorem dX2_hasPairForNumber_79 : decode cX2_hasPairForNumber 79 = .ok (.iconst 1, 1) := by decide +kernel
theorem dX2_hasPairForNumber_80 : decode cX2_hasPairForNumber 80 = .ok (.goto 4, 3) := by decide +kernel
theorem dX2_hasPairForNumber_83 : decode cX2_hasPairForNumber 83 = .ok (.iconst 0, 1) := by decide +kernel
theorem dX2_hasPairForNumber_84 : decode cX2_hasPairForNumber 84 = .ok (.ireturn, 1) := by decide +kernel
theorem dX2_hasPairForNumber_85 : decode cX2_hasPairForNumber 85 = .ok (.aload_n 0, 1) := by decide +kernel
theorem dX2_hasPairForNumber_86 : decode cX2_hasPairForNumber 86 = .ok (.aload_n 1, 1) := by decide +kernel
theorem dX2_hasPairForNumber_87 : decode cX2_hasPairForNumber 87 = .ok (.iload_n 2, 1) := by decide +kernel
theorem dX2_hasPairForNumber_88 : decode cX2_hasPairForNumber 88 = .ok (.aload_n 1, 1) := by decide +kernel
theorem dX2_hasPairForNumber_89 : decode cX2_hasPairForNumber 89 = .ok (.iload_n 2, 1) := by decide +kernel
theorem dX2_hasPairForNumber_90 : decode cX2_hasPairForNumber 90 = .ok (.invokevirtual 163, 3) := by decide +kernel
theorem dX2_hasPairForNumber_93 : decode cX2_hasPairForNumber 93 = .ok (.invokevirtual 154, 3) := by decide +kernel
theorem dX2_hasPairForNumber_96 : decode cX2_hasPairForNumber 96 = .ok (.iconst 2, 1) := by decide +kernel
theorem dX2_hasPairForNumber_97 : decode cX2_hasPairForNumber 97 = .ok (.if_icmp .ne 7, 3) := by decide +kernel
theorem dX2_hasPairForNumber_100 : decode cX2_hasPairForNumber 100 = .ok (.iconst 1, 1) := by decide +kernel
theorem dX2_hasPairForNumber_101 : decode cX2_hasPairForNumber 101 = .ok (.goto 4, 3) := by decide +kernel
theorem dX2_hasPairForNumber_104 : decode cX2_hasPairForNumber 104 = .ok (.iconst 0, 1) := by decide +kernel
theorem dX2_hasPairForNumber_105 : decode cX2_hasPairForNumber 105 = .ok (.ireturn, 1) := by decide +kernel
theorem dX2_hasPairForNumber_106 : decode cX2_hasPairForNumber 106 = .ok (.iconst 0, 1) := by decide +kernel
theorem dX2_hasPairForNumber_107 : decode cX2_hasPairForNumber 107 = .ok (.ireturn, 1) := by decide +kernel
theorem dX2_callsNow_0 : decode cX2_callsNow 0 = .ok (.aload_n 1, 1) := by decide +kernel
theorem dX2_callsNow_1 : decode cX2_callsNow 1 = .ok (.getfield 151, 3) := by decide +kernel
theorem dX2_callsNow_4 : decode cX2_callsNow 4 = .ok (.iload_n 2, 1) := by decide +kernel
theorem dX2_callsNow_5 : decode cX2_callsNow 5 = .ok (.iaload, 1) := by decide +kernel
theorem dX2_callsNow_6 : decode cX2_callsNow 6 = .ok (.bipush 9, 2) := by decide +kernel
theorem dX2_callsNow_8 : decode cX2_callsNow 8 = .ok (.if_icmp .ne 23, 3) := by decide +kernel
theorem dX2_callsNow_11 : decode cX2_callsNow 11 = .ok (.aload_n 0, 1) := by decide +kernel
theorem dX2_callsNow_12 : decode cX2_callsNow 12 = .ok (.aload_n 1, 1) := by decide +kernel
theorem dX2_callsNow_13 : decode cX2_callsNow 13 = .ok (.iload_n 2, 1) := by decide +kernel
theorem dX2_callsNow_14 : decode cX2_callsNow 14 = .ok (.aload_n 1, 1) := by decide +kernel
theorem dX2_callsNow_15 : decode cX2_callsNow 15 = .ok (.iload_n 2, 1) := by decide +kernel
theorem dX2_callsNow_16 : decode cX2_callsNow 16 = .ok (.invokevirtual 163, 3) := by decide +kernel
theorem dX2_callsNow_19 : decode cX2_callsNow 19 = .ok (.invokevirtual 166, 3) := by decide +kernel
theorem dX2_callsNow_22 : decode cX2_callsNow 22 = .ok (.ifCond .eq 7, 3) := by decide +kernel
theorem dX2_callsNow_25 : decode cX2_callsNow 25 = .ok (.iconst 1, 1) := by decide +kernel
theorem dX2_callsNow_26 : decode cX2_callsNow 26 = .ok (.goto 4, 3) := by decide +kernel
theorem dX2_callsNow_29 : decode cX2_callsNow 29 = .ok (.iconst 0, 1) := by decide +kernel
theorem dX2_callsNow_30 : decode cX2_callsNow 30 = .ok (.ireturn, 1) := by decide +kernel
theorem dX2_callsNow_31 : decode cX2_callsNow 31 = .ok (.aload_n 1, 1) := by decide +kernel
theorem dX2_callsNow_32 : decode cX2_callsNow 32 = .ok (.getfield 151, 3) := by decide +kernel
theorem dX2_callsNow_35 : decode cX2_callsNow 35 = .ok (.iload_n 2, 1) := by decide +kernel
theorem dX2_callsNow_36 : decode cX2_callsNow 36 = .ok (.iaload, 1) := by decide +kernel
theorem dX2_callsNow_37 : decode cX2_callsNow 37 = .ok (.bipush 8, 2) := by decide +kernel
theorem dX2_callsNow_39 : decode cX2_callsNow 39 = .ok (.if_icmp .ne 7, 3) := by decide +kernel
theorem dX2_callsNow_42 : decode cX2_callsNow 42 = .ok (.iconst 1, 1) := by decide +kernel
theorem dX2_callsNow_43 : decode cX2_callsNow 43 = .ok (.goto 4, 3) := by decide +kernel
theorem dX2_callsNow_46 : decode cX2_callsNow 46 = .ok (.iconst 0, 1) := by decide +kernel
theorem dX2_callsNow_47 : decode cX2_callsNow 47 = .ok (.ireturn, 1) := by decide +kernel
theorem dX2_kindAt_0 : decode cX2_kindAt 0 = .ok (.aload_n 0, 1) := by decide +kernel
theorem dX2_kindAt_1 : decode cX2_kindAt 1 = .ok (.getfield 56, 3) := by decide +kernel
theorem dX2_kindAt_4 : decode cX2_kindAt 4 = .ok (.aload_n 0, 1) := by decide +kernel
theorem dX2_kindAt_5 : decode cX2_kindAt 5 = .ok (.getfield 18, 3) := by decide +kernel
theorem dX2_kindAt_8 : decode cX2_kindAt 8 = .ok (.iconst 1, 1) := by decide +kernel
theorem dX2_kindAt_9 : decode cX2_kindAt 9 = .ok (.isub, 1) := by decide +kernel
theorem dX2_kindAt_10 : decode cX2_kindAt 10 = .ok (.bipush 27, 2) := by decide +kernel
theorem dX2_kindAt_12 : decode cX2_kindAt 12 = .ok (.imul, 1) := by decide +kernel
theorem dX2_kindAt_13 : decode cX2_kindAt 13 = .ok (.aload_n 1, 1) := by decide +kernel
theorem dX2_kindAt_14 : decode cX2_kindAt 14 = .ok (.iload_n 2, 1) := by decide +kernel
theorem dX2_kindAt_15 : decode cX2_kindAt 15 = .ok (.iload_n 3, 1) := by decide +kernel
theorem dX2_kindAt_16 : decode cX2_kindAt 16 = .ok (.invokevirtual 169, 3) := by decide +kernel
theorem dX2_kindAt_19 : decode cX2_kindAt 19 = .ok (.iadd, 1) := by decide +kernel
theorem dX2_kindAt_20 : decode cX2_kindAt 20 = .ok (.iaload, 1) := by decide +kernel
theorem dX2_kindAt_21 : decode cX2_kindAt 21 = .ok (.ireturn, 1) := by decide +kernel
theorem dX2_valueAt_0 : decode cX2_valueAt 0 = .ok (.aload_n 0, 1) := by decide +kernel
theorem dX2_valueAt_1 : decode cX2_valueAt 1 = .ok (.getfield 59, 3) := by decide +kernel
theorem dX2_valueAt_4 : decode cX2_valueAt 4 = .ok (.aload_n 0, 1) := by decide +kernel
theorem dX2_valueAt_5 : decode cX2_valueAt 5 = .ok (.getfield 18, 3) := by decide +kernel
theorem dX2_valueAt_8 : decode cX2_valueAt 8 = .ok (.iconst 1, 1) := by decide +kernel
theorem dX2_valueAt_9 : decode cX2_valueAt 9 = .ok (.isub, 1) := by decide +kernel
theorem dX2_valueAt_10 : decode cX2_valueAt 10 = .ok (.bipush 27, 2) := by decide +kernel
theorem dX2_valueAt_12 : decode cX2_valueAt 12 = .ok (.imul, 1) := by decide +kernel
theorem dX2_valueAt_13 : decode cX2_valueAt 13 = .ok (.aload_n 1, 1) := by decide +kernel
theorem dX2_valueAt_14 : decode cX2_valueAt 14 = .ok (.iload_n 2, 1) := by decide +kernel
theorem dX2_valueAt_15 : decode cX2_valueAt 15 = .ok (.iload_n 3, 1) := by decide +kernel
theorem dX2_valueAt_16 : decode cX2_valueAt 16 = .ok (.invokevirtual 169, 3) := by decide +kernel
theorem dX2_valueAt_19 : decode cX2_valueAt 19 = .ok (.iadd, 1) := by decide +kernel
theorem dX2_valueAt_20 : decode cX2_valueAt 20 = .ok (.iaload, 1) := by decide +kernel
theorem dX2_valueAt_21 : decode cX2_valueAt 21 = .ok (.ireturn, 1) := by decide +kernel
theorem dX2_openFrame_0 : decode cX2_openFrame 0 = .ok (.aload_n 0, 1) := by decide +kernel
theorem dX2_openFrame_1 : decode cX2_openFrame 1 = .ok (.getfield 49, 3) := by decide +kernel
theorem dX2_openFrame_4 : decode cX2_openFrame 4 = .ok (.iload_n 1, 1) := by decide +kernel
theorem dX2_openFrame_5 : decode cX2_openFrame 5 = .ok (.iload_n 2, 1) := by decide +kernel
theorem dX2_openFrame_6 : decode cX2_openFrame 6 = .ok (.iastore, 1) := by decide +kernel
theorem dX2_openFrame_7 : decode cX2_openFrame 7 = .ok (.aload_n 0, 1) := by decide +kernel
theorem dX2_openFrame_8 : decode cX2_openFrame 8 = .ok (.getfield 53, 3) := by decide +kernel
theorem dX2_openFrame_11 : decode cX2_openFrame 11 = .ok (.iload_n 1, 1) := by decide +kernel
theorem dX2_openFrame_12 : decode cX2_openFrame 12 = .ok (.iconst 0, 1) := by decide +kernel
theorem dX2_openFrame_13 : decode cX2_openFrame 13 = .ok (.iastore, 1) := by decide +kernel
theorem dX2_openFrame_14 : decode cX2_openFrame 14 = .ok (.iconst 0, 1) := by decide +kernel
theorem dX2_openFrame_15 : decode cX2_openFrame 15 = .ok (.istore_n 3, 1) := by decide +kernel
theorem dX2_openFrame_16 : decode cX2_openFrame 16 = .ok (.iload_n 3, 1) := by decide +kernel
theorem dX2_openFrame_17 : decode cX2_openFrame 17 = .ok (.bipush 27, 2) := by decide +kernel
theorem dX2_openFrame_19 : decode cX2_openFrame 19 = .ok (.if_icmp .ge 17, 3) := by decide +kernel
theorem dX2_openFrame_22 : decode cX2_openFrame 22 = .ok (.aload_n 0, 1) := by decide +kernel
theorem dX2_openFrame_23 : decode cX2_openFrame 23 = .ok (.iload_n 1, 1) := by decide +kernel
theorem dX2_openFrame_24 : decode cX2_openFrame 24 = .ok (.iload_n 3, 1) := by decide +kernel
theorem dX2_openFrame_25 : decode cX2_openFrame 25 = .ok (.iconst 0, 1) := by decide +kernel
theorem dX2_openFrame_26 : decode cX2_openFrame 26 = .ok (.iconst 0, 1) := by decide +kernel
theorem dX2_openFrame_27 : decode cX2_openFrame 27 = .ok (.invokevirtual 173, 3) := by decide +kernel
theorem dX2_openFrame_30 : decode cX2_openFrame 30 = .ok (.iinc 3 1, 3) := by decide +kernel
theorem dX2_openFrame_33 : decode cX2_openFrame 33 = .ok (.goto (-17), 3) := by decide +kernel
theorem dX2_openFrame_36 : decode cX2_openFrame 36 = .ok (.return_, 1) := by decide +kernel
theorem dX2_callBy_0 : decode cX2_callBy 0 = .ok (.aload_n 0, 1) := by decide +kernel
theorem dX2_callBy_1 : decode cX2_callBy 1 = .ok (.aload_n 0, 1) := by decide +kernel
theorem dX2_callBy_2 : decode cX2_callBy 2 = .ok (.getfield 18, 3) := by decide +kernel
theorem dX2_callBy_5 : decode cX2_callBy 5 = .ok (.aload_n 1, 1) := by decide +kernel
theorem dX2_callBy_6 : decode cX2_callBy 6 = .ok (.getfield 177, 3) := by decide +kernel
theorem dX2_callBy_9 : decode cX2_callBy 9 = .ok (.iload_n 3, 1) := by decide +kernel
theorem dX2_callBy_10 : decode cX2_callBy 10 = .ok (.iaload, 1) := by decide +kernel
theorem dX2_callBy_11 : decode cX2_callBy 11 = .ok (.invokevirtual 107, 3) := by decide +kernel
theorem dX2_callBy_14 : decode cX2_callBy 14 = .ok (.iconst 0, 1) := by decide +kernel
theorem dX2_callBy_15 : decode cX2_callBy 15 = .ok (.istore 4, 2) := by decide +kernel
theorem dX2_callBy_17 : decode cX2_callBy 17 = .ok (.iload 4, 2) := by decide +kernel
theorem dX2_callBy_19 : decode cX2_callBy 19 = .ok (.aload_n 1, 1) := by decide +kernel
theorem dX2_callBy_20 : decode cX2_callBy 20 = .ok (.iload_n 3, 1) := by decide +kernel
theorem dX2_callBy_21 : decode cX2_callBy 21 = .ok (.invokevirtual 180, 3) := by decide +kernel
theorem dX2_callBy_24 : decode cX2_callBy 24 = .ok (.if_icmp .ge 35, 3) := by decide +kernel
theorem dX2_callBy_27 : decode cX2_callBy 27 = .ok (.aload_n 0, 1) := by decide +kernel
theorem dX2_callBy_28 : decode cX2_callBy 28 = .ok (.aload_n 0, 1) := by decide +kernel
theorem dX2_callBy_29 : decode cX2_callBy 29 = .ok (.getfield 18, 3) := by decide +kernel
theorem dX2_callBy_32 : decode cX2_callBy 32 = .ok (.iload 4, 2) := by decide +kernel
theorem dX2_callBy_34 : decode cX2_callBy 34 = .ok (.aload_n 0, 1) := by decide +kernel
theorem dX2_callBy_35 : decode cX2_callBy 35 = .ok (.aload_n 1, 1) := by decide +kernel
theorem dX2_callBy_36 : decode cX2_callBy 36 = .ok (.iload_n 3, 1) := by decide +kernel
theorem dX2_callBy_37 : decode cX2_callBy 37 = .ok (.iload 4, 2) := by decide +kernel
theorem dX2_callBy_39 : decode cX2_callBy 39 = .ok (.invokevirtual 154, 3) := by decide +kernel
theorem dX2_callBy_42 : decode cX2_callBy 42 = .ok (.aload_n 0, 1) := by decide +kernel
theorem dX2_callBy_43 : decode cX2_callBy 43 = .ok (.aload_n 1, 1) := by decide +kernel
theorem dX2_callBy_44 : decode cX2_callBy 44 = .ok (.iload_n 3, 1) := by decide +kernel
theorem dX2_callBy_45 : decode cX2_callBy 45 = .ok (.iload 4, 2) := by decide +kernel
theorem dX2_callBy_47 : decode cX2_callBy 47 = .ok (.invokevirtual 166, 3) := by decide +kernel
theorem dX2_callBy_50 : decode cX2_callBy 50 = .ok (.invokevirtual 173, 3) := by decide +kernel
theorem dX2_callBy_53 : decode cX2_callBy 53 = .ok (.iinc 4 1, 3) := by decide +kernel
theorem dX2_callBy_56 : decode cX2_callBy 56 = .ok (.goto (-39), 3) := by decide +kernel
theorem dX2_callBy_59 : decode cX2_callBy 59 = .ok (.aload_n 1, 1) := by decide +kernel
theorem dX2_callBy_60 : decode cX2_callBy 60 = .ok (.iload_n 2, 1) := by decide +kernel
theorem dX2_callBy_61 : decode cX2_callBy 61 = .ok (.iload_n 3, 1) := by decide +kernel
theorem dX2_callBy_62 : decode cX2_callBy 62 = .ok (.invokevirtual 160, 3) := by decide +kernel
theorem dX2_callBy_65 : decode cX2_callBy 65 = .ok (.ifCond .eq 35, 3) := by decide +kernel
theorem dX2_callBy_68 : decode cX2_callBy 68 = .ok (.aload_n 0, 1) := by decide +kernel
theorem dX2_callBy_69 : decode cX2_callBy 69 = .ok (.aload_n 0, 1) := by decide +kernel
theorem dX2_callBy_70 : decode cX2_callBy 70 = .ok (.getfield 18, 3) := by decide +kernel
theorem dX2_callBy_73 : decode cX2_callBy 73 = .ok (.aload_n 0, 1) := by decide +kernel
theorem dX2_callBy_74 : decode cX2_callBy 74 = .ok (.getfield 18, 3) := by decide +kernel
theorem dX2_callBy_77 : decode cX2_callBy 77 = .ok (.iconst 1, 1) := by decide +kernel
theorem dX2_callBy_78 : decode cX2_callBy 78 = .ok (.isub, 1) := by decide +kernel
theorem dX2_callBy_79 : decode cX2_callBy 79 = .ok (.invokevirtual 183, 3) := by decide +kernel
theorem dX2_callBy_82 : decode cX2_callBy 82 = .ok (.aload_n 0, 1) := by decide +kernel
theorem dX2_callBy_83 : decode cX2_callBy 83 = .ok (.iconst 1, 1) := by decide +kernel
theorem dX2_callBy_84 : decode cX2_callBy 84 = .ok (.putfield 45, 3) := by decide +kernel
theorem dX2_callBy_87 : decode cX2_callBy 87 = .ok (.aload_n 0, 1) := by decide +kernel
theorem dX2_callBy_88 : decode cX2_callBy 88 = .ok (.dup, 1) := by decide +kernel
theorem dX2_callBy_89 : decode cX2_callBy 89 = .ok (.getfield 36, 3) := by decide +kernel
theorem dX2_callBy_92 : decode cX2_callBy 92 = .ok (.iconst 1, 1) := by decide +kernel
theorem dX2_callBy_93 : decode cX2_callBy 93 = .ok (.iadd, 1) := by decide +kernel
theorem dX2_callBy_94 : decode cX2_callBy 94 = .ok (.putfield 36, 3) := by decide +kernel
theorem dX2_callBy_97 : decode cX2_callBy 97 = .ok (.goto 13, 3) := by decide +kernel
theorem dX2_callBy_100 : decode cX2_callBy 100 = .ok (.aload_n 0, 1) := by decide +kernel
theorem dX2_callBy_101 : decode cX2_callBy 101 = .ok (.dup, 1) := by decide +kernel
theorem dX2_callBy_102 : decode cX2_callBy 102 = .ok (.getfield 18, 3) := by decide +kernel
theorem dX2_callBy_105 : decode cX2_callBy 105 = .ok (.iconst 1, 1) := by decide +kernel
theorem dX2_callBy_106 : decode cX2_callBy 106 = .ok (.iadd, 1) := by decide +kernel
theorem dX2_callBy_107 : decode cX2_callBy 107 = .ok (.putfield 18, 3) := by decide +kernel
theorem dX2_callBy_110 : decode cX2_callBy 110 = .ok (.return_, 1) := by decide +kernel
theorem dX2_moveFrame_0 : decode cX2_moveFrame 0 = .ok (.aload_n 0, 1) := by decide +kernel
theorem dX2_moveFrame_1 : decode cX2_moveFrame 1 = .ok (.getfield 49, 3) := by decide +kernel
theorem dX2_moveFrame_4 : decode cX2_moveFrame 4 = .ok (.iload_n 2, 1) := by decide +kernel
theorem dX2_moveFrame_5 : decode cX2_moveFrame 5 = .ok (.aload_n 0, 1) := by decide +kernel
theorem dX2_moveFrame_6 : decode cX2_moveFrame 6 = .ok (.getfield 49, 3) := by decide +kernel
theorem dX2_moveFrame_9 : decode cX2_moveFrame 9 = .ok (.iload_n 1, 1) := by decide +kernel
theorem dX2_moveFrame_10 : decode cX2_moveFrame 10 = .ok (.iaload, 1) := by decide +kernel
theorem dX2_moveFrame_11 : decode cX2_moveFrame 11 = .ok (.iastore, 1) := by decide +kernel
theorem dX2_moveFrame_12 : decode cX2_moveFrame 12 = .ok (.aload_n 0, 1) := by decide +kernel
theorem dX2_moveFrame_13 : decode cX2_moveFrame 13 = .ok (.getfield 53, 3) := by decide +kernel
theorem dX2_moveFrame_16 : decode cX2_moveFrame 16 = .ok (.iload_n 2, 1) := by decide +kernel
theorem dX2_moveFrame_17 : decode cX2_moveFrame 17 = .ok (.aload_n 0, 1) := by decide +kernel
theorem dX2_moveFrame_18 : decode cX2_moveFrame 18 = .ok (.getfield 53, 3) := by decide +kernel
theorem dX2_moveFrame_21 : decode cX2_moveFrame 21 = .ok (.iload_n 1, 1) := by decide +kernel
theorem dX2_moveFrame_22 : decode cX2_moveFrame 22 = .ok (.iaload, 1) := by decide +kernel
theorem dX2_moveFrame_23 : decode cX2_moveFrame 23 = .ok (.iastore, 1) := by decide +kernel
theorem dX2_moveFrame_24 : decode cX2_moveFrame 24 = .ok (.aload_n 0, 1) := by decide +kernel
theorem dX2_moveFrame_25 : decode cX2_moveFrame 25 = .ok (.getfield 56, 3) := by decide +kernel
theorem dX2_moveFrame_28 : decode cX2_moveFrame 28 = .ok (.iload_n 1, 1) := by decide +kernel
theorem dX2_moveFrame_29 : decode cX2_moveFrame 29 = .ok (.bipush 27, 2) := by decide +kernel
theorem dX2_moveFrame_31 : decode cX2_moveFrame 31 = .ok (.imul, 1) := by decide +kernel
theorem dX2_moveFrame_32 : decode cX2_moveFrame 32 = .ok (.aload_n 0, 1) := by decide +kernel
theorem dX2_moveFrame_33 : decode cX2_moveFrame 33 = .ok (.getfield 56, 3) := by decide +kernel
theorem dX2_moveFrame_36 : decode cX2_moveFrame 36 = .ok (.iload_n 2, 1) := by decide +kernel
theorem dX2_moveFrame_37 : decode cX2_moveFrame 37 = .ok (.bipush 27, 2) := by decide +kernel
theorem dX2_moveFrame_39 : decode cX2_moveFrame 39 = .ok (.imul, 1) := by decide +kernel
theorem dX2_moveFrame_40 : decode cX2_moveFrame 40 = .ok (.bipush 27, 2) := by decide +kernel
theorem dX2_moveFrame_42 : decode cX2_moveFrame 42 = .ok (.invokestatic 80, 3) := by decide +kernel
theorem dX2_moveFrame_45 : decode cX2_moveFrame 45 = .ok (.aload_n 0, 1) := by decide +kernel
theorem dX2_moveFrame_46 : decode cX2_moveFrame 46 = .ok (.getfield 59, 3) := by decide +kernel
theorem dX2_moveFrame_49 : decode cX2_moveFrame 49 = .ok (.iload_n 1, 1) := by decide +kernel
theorem dX2_moveFrame_50 : decode cX2_moveFrame 50 = .ok (.bipush 27, 2) := by decide +kernel
theorem dX2_moveFrame_52 : decode cX2_moveFrame 52 = .ok (.imul, 1) := by decide +kernel
theorem dX2_moveFrame_53 : decode cX2_moveFrame 53 = .ok (.aload_n 0, 1) := by decide +kernel
theorem dX2_moveFrame_54 : decode cX2_moveFrame 54 = .ok (.getfield 59, 3) := by decide +kernel
theorem dX2_moveFrame_57 : decode cX2_moveFrame 57 = .ok (.iload_n 2, 1) := by decide +kernel
theorem dX2_moveFrame_58 : decode cX2_moveFrame 58 = .ok (.bipush 27, 2) := by decide +kernel
theorem dX2_moveFrame_60 : decode cX2_moveFrame 60 = .ok (.imul, 1) := by decide +kernel
theorem dX2_moveFrame_61 : decode cX2_moveFrame 61 = .ok (.bipush 27, 2) := by decide +kernel
theorem dX2_moveFrame_63 : decode cX2_moveFrame 63 = .ok (.invokestatic 80, 3) := by decide +kernel
theorem dX2_moveFrame_66 : decode cX2_moveFrame 66 = .ok (.return_, 1) := by decide +kernel
theorem dX2_work_0 : decode cX2_work 0 = .ok (.aload_n 1, 1) := by decide +kernel
theorem dX2_work_1 : decode cX2_work 1 = .ok (.getfield 151, 3) := by decide +kernel
theorem dX2_work_4 : decode cX2_work 4 = .ok (.iload_n 3, 1) := by decide +kernel
theorem dX2_work_5 : decode cX2_work 5 = .ok (.iaload, 1) := by decide +kernel
theorem dX2_work_6 : decode cX2_work 6 = .ok (.tableswitch 248 2 22 #[112, 127, 142, 157, 180, 210, 248, 234, 248, 248, 248, 248, 248, 248, 248, 248, 248, 248, 248, 248, 98], 98) := by decide +kernel
theorem dX2_work_104 : decode cX2_work 104 = .ok (.aload_n 0, 1) := by decide +kernel
theorem dX2_work_105 : decode cX2_work 105 = .ok (.iconst 1, 1) := by decide +kernel
theorem dX2_work_106 : decode cX2_work 106 = .ok (.aload_n 1, 1) := by decide +kernel
theorem dX2_work_107 : decode cX2_work 107 = .ok (.iload_n 3, 1) := by decide +kernel
theorem dX2_work_108 : decode cX2_work 108 = .ok (.iconst 0, 1) := by decide +kernel
theorem dX2_work_109 : decode cX2_work 109 = .ok (.invokevirtual 169, 3) := by decide +kernel
theorem dX2_work_112 : decode cX2_work 112 = .ok (.invokevirtual 186, 3) := by decide +kernel
theorem dX2_work_115 : decode cX2_work 115 = .ok (.goto 146, 3) := by decide +kernel
theorem dX2_work_118 : decode cX2_work 118 = .ok (.aload_n 0, 1) := by decide +kernel
theorem dX2_work_119 : decode cX2_work 119 = .ok (.iconst 2, 1) := by decide +kernel
theorem dX2_work_120 : decode cX2_work 120 = .ok (.aload_n 0, 1) := by decide +kernel
theorem dX2_work_121 : decode cX2_work 121 = .ok (.aload_n 1, 1) := by decide +kernel
theorem dX2_work_122 : decode cX2_work 122 = .ok (.iload_n 2, 1) := by decide +kernel
theorem dX2_work_123 : decode cX2_work 123 = .ok (.iload_n 3, 1) := by decide +kernel
theorem dX2_work_124 : decode cX2_work 124 = .ok (.invokevirtual 189, 3) := by decide +kernel
theorem dX2_work_127 : decode cX2_work 127 = .ok (.invokevirtual 186, 3) := by decide +kernel
theorem dX2_work_130 : decode cX2_work 130 = .ok (.goto 131, 3) := by decide +kernel
theorem dX2_work_133 : decode cX2_work 133 = .ok (.aload_n 0, 1) := by decide +kernel
theorem dX2_work_134 : decode cX2_work 134 = .ok (.aload_n 0, 1) := by decide +kernel
theorem dX2_work_135 : decode cX2_work 135 = .ok (.aload_n 1, 1) := by decide +kernel
theorem dX2_work_136 : decode cX2_work 136 = .ok (.iload_n 3, 1) := by decide +kernel
theorem dX2_work_137 : decode cX2_work 137 = .ok (.iconst 0, 1) := by decide +kernel
theorem dX2_work_138 : decode cX2_work 138 = .ok (.invokevirtual 166, 3) := by decide +kernel
theorem dX2_work_141 : decode cX2_work 141 = .ok (.iconst 0, 1) := by decide +kernel
theorem dX2_work_142 : decode cX2_work 142 = .ok (.invokevirtual 192, 3) := by decide +kernel
theorem dX2_work_145 : decode cX2_work 145 = .ok (.goto 116, 3) := by decide +kernel
theorem dX2_work_148 : decode cX2_work 148 = .ok (.aload_n 0, 1) := by decide +kernel
theorem dX2_work_149 : decode cX2_work 149 = .ok (.aload_n 0, 1) := by decide +kernel
theorem dX2_work_150 : decode cX2_work 150 = .ok (.aload_n 1, 1) := by decide +kernel
theorem dX2_work_151 : decode cX2_work 151 = .ok (.iload_n 3, 1) := by decide +kernel
theorem dX2_work_152 : decode cX2_work 152 = .ok (.iconst 0, 1) := by decide +kernel
theorem dX2_work_153 : decode cX2_work 153 = .ok (.invokevirtual 166, 3) := by decide +kernel
theorem dX2_work_156 : decode cX2_work 156 = .ok (.iconst 1, 1) := by decide +kernel
theorem dX2_work_157 : decode cX2_work 157 = .ok (.invokevirtual 192, 3) := by decide +kernel
theorem dX2_work_160 : decode cX2_work 160 = .ok (.goto 101, 3) := by decide +kernel
theorem dX2_work_163 : decode cX2_work 163 = .ok (.aload_n 0, 1) := by decide +kernel
theorem dX2_work_164 : decode cX2_work 164 = .ok (.iconst 1, 1) := by decide +kernel
theorem dX2_work_165 : decode cX2_work 165 = .ok (.aload_n 0, 1) := by decide +kernel
theorem dX2_work_166 : decode cX2_work 166 = .ok (.aload_n 1, 1) := by decide +kernel
theorem dX2_work_167 : decode cX2_work 167 = .ok (.iload_n 3, 1) := by decide +kernel
theorem dX2_work_168 : decode cX2_work 168 = .ok (.iconst 0, 1) := by decide +kernel
theorem dX2_work_169 : decode cX2_work 169 = .ok (.invokevirtual 166, 3) := by decide +kernel
theorem dX2_work_172 : decode cX2_work 172 = .ok (.aload_n 0, 1) := by decide +kernel
theorem dX2_work_173 : decode cX2_work 173 = .ok (.aload_n 1, 1) := by decide +kernel
theorem dX2_work_174 : decode cX2_work 174 = .ok (.iload_n 3, 1) := by decide +kernel
theorem dX2_work_175 : decode cX2_work 175 = .ok (.iconst 1, 1) := by decide +kernel
theorem dX2_work_176 : decode cX2_work 176 = .ok (.invokevirtual 166, 3) := by decide +kernel
theorem dX2_work_179 : decode cX2_work 179 = .ok (.iadd, 1) := by decide +kernel
theorem dX2_work_180 : decode cX2_work 180 = .ok (.invokevirtual 186, 3) := by decide +kernel
theorem dX2_work_183 : decode cX2_work 183 = .ok (.goto 78, 3) := by decide +kernel
theorem dX2_work_186 : decode cX2_work 186 = .ok (.aload_n 0, 1) := by decide +kernel
theorem dX2_work_187 : decode cX2_work 187 = .ok (.iconst 1, 1) := by decide +kernel
theorem dX2_work_188 : decode cX2_work 188 = .ok (.aload_n 0, 1) := by decide +kernel
theorem dX2_work_189 : decode cX2_work 189 = .ok (.aload_n 1, 1) := by decide +kernel
theorem dX2_work_190 : decode cX2_work 190 = .ok (.iload_n 3, 1) := by decide +kernel
theorem dX2_work_191 : decode cX2_work 191 = .ok (.iconst 0, 1) := by decide +kernel
theorem dX2_work_192 : decode cX2_work 192 = .ok (.invokevirtual 166, 3) := by decide +kernel
theorem dX2_work_195 : decode cX2_work 195 = .ok (.aload_n 0, 1) := by decide +kernel
theorem dX2_work_196 : decode cX2_work 196 = .ok (.aload_n 1, 1) := by decide +kernel
theorem dX2_work_197 : decode cX2_work 197 = .ok (.iload_n 3, 1) := by decide +kernel
theorem dX2_work_198 : decode cX2_work 198 = .ok (.iconst 1, 1) := by decide +kernel
theorem dX2_work_199 : decode cX2_work 199 = .ok (.invokevirtual 166, 3) := by decide +kernel
theorem dX2_work_202 : decode cX2_work 202 = .ok (.if_icmp .ge 7, 3) := by decide +kernel
theorem dX2_work_205 : decode cX2_work 205 = .ok (.iconst 1, 1) := by decide +kernel
theorem dX2_work_206 : decode cX2_work 206 = .ok (.goto 4, 3) := by decide +kernel
theorem dX2_work_209 : decode cX2_work 209 = .ok (.iconst 0, 1) := by decide +kernel
theorem dX2_work_210 : decode cX2_work 210 = .ok (.invokevirtual 186, 3) := by decide +kernel
theorem dX2_work_213 : decode cX2_work 213 = .ok (.goto 48, 3) := by decide +kernel
theorem dX2_work_216 : decode cX2_work 216 = .ok (.aload_n 0, 1) := by decide +kernel
theorem dX2_work_217 : decode cX2_work 217 = .ok (.aload_n 1, 1) := by decide +kernel
theorem dX2_work_218 : decode cX2_work 218 = .ok (.iload_n 3, 1) := by decide +kernel
theorem dX2_work_219 : decode cX2_work 219 = .ok (.aload_n 0, 1) := by decide +kernel
theorem dX2_work_220 : decode cX2_work 220 = .ok (.aload_n 1, 1) := by decide +kernel
theorem dX2_work_221 : decode cX2_work 221 = .ok (.iload_n 3, 1) := by decide +kernel
theorem dX2_work_222 : decode cX2_work 222 = .ok (.iconst 0, 1) := by decide +kernel
theorem dX2_work_223 : decode cX2_work 223 = .ok (.invokevirtual 166, 3) := by decide +kernel
theorem dX2_work_226 : decode cX2_work 226 = .ok (.ifCond .eq 7, 3) := by decide +kernel
theorem dX2_work_229 : decode cX2_work 229 = .ok (.iconst 1, 1) := by decide +kernel
theorem dX2_work_230 : decode cX2_work 230 = .ok (.goto 4, 3) := by decide +kernel
theorem dX2_work_233 : decode cX2_work 233 = .ok (.iconst 2, 1) := by decide +kernel
theorem dX2_work_234 : decode cX2_work 234 = .ok (.invokevirtual 195, 3) := by decide +kernel
theorem dX2_work_237 : decode cX2_work 237 = .ok (.goto 24, 3) := by decide +kernel
theorem dX2_work_240 : decode cX2_work 240 = .ok (.aload_n 0, 1) := by decide +kernel
theorem dX2_work_241 : decode cX2_work 241 = .ok (.aload_n 1, 1) := by decide +kernel
theorem dX2_work_242 : decode cX2_work 242 = .ok (.iload_n 3, 1) := by decide +kernel
theorem dX2_work_243 : decode cX2_work 243 = .ok (.aload_n 1, 1) := by decide +kernel
theorem dX2_work_244 : decode cX2_work 244 = .ok (.iload_n 3, 1) := by decide +kernel
theorem dX2_work_245 : decode cX2_work 245 = .ok (.invokevirtual 198, 3) := by decide +kernel
theorem dX2_work_248 : decode cX2_work 248 = .ok (.invokevirtual 195, 3) := by decide +kernel
theorem dX2_work_251 : decode cX2_work 251 = .ok (.goto 10, 3) := by decide +kernel
theorem dX2_work_254 : decode cX2_work 254 = .ok (.aload_n 0, 1) := by decide +kernel
theorem dX2_work_255 : decode cX2_work 255 = .ok (.aload_n 1, 1) := by decide +kernel
theorem dX2_work_256 : decode cX2_work 256 = .ok (.iload_n 3, 1) := by decide +kernel
theorem dX2_work_257 : decode cX2_work 257 = .ok (.iconst 0, 1) := by decide +kernel
theorem dX2_work_258 : decode cX2_work 258 = .ok (.invokevirtual 195, 3) := by decide +kernel
theorem dX2_work_261 : decode cX2_work 261 = .ok (.return_, 1) := by decide +kernel
theorem dX2_give_0 : decode cX2_give 0 = .ok (.aload_n 0, 1) := by decide +kernel
theorem dX2_give_1 : decode cX2_give 1 = .ok (.iload_n 1, 1) := by decide +kernel
theorem dX2_give_2 : decode cX2_give 2 = .ok (.putfield 39, 3) := by decide +kernel
theorem dX2_give_5 : decode cX2_give 5 = .ok (.aload_n 0, 1) := by decide +kernel
theorem dX2_give_6 : decode cX2_give 6 = .ok (.iload_n 2, 1) := by decide +kernel
theorem dX2_give_7 : decode cX2_give 7 = .ok (.putfield 42, 3) := by decide +kernel
theorem dX2_give_10 : decode cX2_give 10 = .ok (.return_, 1) := by decide +kernel
theorem dX2_giveVar_0 : decode cX2_giveVar 0 = .ok (.aload_n 0, 1) := by decide +kernel
theorem dX2_giveVar_1 : decode cX2_giveVar 1 = .ok (.aload_n 0, 1) := by decide +kernel
theorem dX2_giveVar_2 : decode cX2_giveVar 2 = .ok (.aload_n 1, 1) := by decide +kernel
theorem dX2_giveVar_3 : decode cX2_giveVar 3 = .ok (.iload_n 2, 1) := by decide +kernel
theorem dX2_giveVar_4 : decode cX2_giveVar 4 = .ok (.iload_n 3, 1) := by decide +kernel
theorem dX2_giveVar_5 : decode cX2_giveVar 5 = .ok (.invokevirtual 154, 3) := by decide +kernel
theorem dX2_giveVar_8 : decode cX2_giveVar 8 = .ok (.aload_n 0, 1) := by decide +kernel
theorem dX2_giveVar_9 : decode cX2_giveVar 9 = .ok (.aload_n 1, 1) := by decide +kernel
theorem dX2_giveVar_10 : decode cX2_giveVar 10 = .ok (.iload_n 2, 1) := by decide +kernel
theorem dX2_giveVar_11 : decode cX2_giveVar 11 = .ok (.iload_n 3, 1) := by decide +kernel
theorem dX2_giveVar_12 : decode cX2_giveVar 12 = .ok (.invokevirtual 166, 3) := by decide +kernel
theorem dX2_giveVar_15 : decode cX2_giveVar 15 = .ok (.invokevirtual 186, 3) := by decide +kernel
theorem dX2_giveVar_18 : decode cX2_giveVar 18 = .ok (.return_, 1) := by decide +kernel
theorem dX2_giveSide_0 : decode cX2_giveSide 0 = .ok (.aload_n 0, 1) := by decide +kernel
theorem dX2_giveSide_1 : decode cX2_giveSide 1 = .ok (.iload_n 1, 1) := by decide +kernel
theorem dX2_giveSide_2 : decode cX2_giveSide 2 = .ok (.invokevirtual 115, 3) := by decide +kernel
theorem dX2_giveSide_5 : decode cX2_giveSide 5 = .ok (.istore_n 3, 1) := by decide +kernel
theorem dX2_giveSide_6 : decode cX2_giveSide 6 = .ok (.aload_n 0, 1) := by decide +kernel
theorem dX2_giveSide_7 : decode cX2_giveSide 7 = .ok (.iload_n 3, 1) := by decide +kernel
theorem dX2_giveSide_8 : decode cX2_giveSide 8 = .ok (.ifCond .eq 16, 3) := by decide +kernel
theorem dX2_giveSide_11 : decode cX2_giveSide 11 = .ok (.aload_n 0, 1) := by decide +kernel
theorem dX2_giveSide_12 : decode cX2_giveSide 12 = .ok (.getfield 68, 3) := by decide +kernel
theorem dX2_giveSide_15 : decode cX2_giveSide 15 = .ok (.iconst 2, 1) := by decide +kernel
theorem dX2_giveSide_16 : decode cX2_giveSide 16 = .ok (.iload_n 1, 1) := by decide +kernel
theorem dX2_giveSide_17 : decode cX2_giveSide 17 = .ok (.imul, 1) := by decide +kernel
theorem dX2_giveSide_18 : decode cX2_giveSide 18 = .ok (.iload_n 2, 1) := by decide +kernel
theorem dX2_giveSide_19 : decode cX2_giveSide 19 = .ok (.iadd, 1) := by decide +kernel
theorem dX2_giveSide_20 : decode cX2_giveSide 20 = .ok (.iaload, 1) := by decide +kernel
theorem dX2_giveSide_21 : decode cX2_giveSide 21 = .ok (.goto 4, 3) := by decide +kernel
theorem dX2_giveSide_24 : decode cX2_giveSide 24 = .ok (.iconst 1, 1) := by decide +kernel
theorem dX2_giveSide_25 : decode cX2_giveSide 25 = .ok (.iload_n 3, 1) := by decide +kernel
theorem dX2_giveSide_26 : decode cX2_giveSide 26 = .ok (.ifCond .eq 16, 3) := by decide +kernel
theorem dX2_giveSide_29 : decode cX2_giveSide 29 = .ok (.aload_n 0, 1) := by decide +kernel
theorem dX2_giveSide_30 : decode cX2_giveSide 30 = .ok (.getfield 71, 3) := by decide +kernel
theorem dX2_giveSide_33 : decode cX2_giveSide 33 = .ok (.iconst 2, 1) := by decide +kernel
theorem dX2_giveSide_34 : decode cX2_giveSide 34 = .ok (.iload_n 1, 1) := by decide +kernel
theorem dX2_giveSide_35 : decode cX2_giveSide 35 = .ok (.imul, 1) := by decide +kernel
theorem dX2_giveSide_36 : decode cX2_giveSide 36 = .ok (.iload_n 2, 1) := by decide +kernel
theorem dX2_giveSide_37 : decode cX2_giveSide 37 = .ok (.iadd, 1) := by decide +kernel
theorem dX2_giveSide_38 : decode cX2_giveSide 38 = .ok (.iaload, 1) := by decide +kernel
theorem dX2_giveSide_39 : decode cX2_giveSide 39 = .ok (.goto 4, 3) := by decide +kernel
theorem dX2_giveSide_42 : decode cX2_giveSide 42 = .ok (.iconst 0, 1) := by decide +kernel
theorem dX2_giveSide_43 : decode cX2_giveSide 43 = .ok (.invokevirtual 186, 3) := by decide +kernel
theorem dX2_giveSide_46 : decode cX2_giveSide 46 = .ok (.return_, 1) := by decide +kernel
theorem dX2_layCell_0 : decode cX2_layCell 0 = .ok (.aload_n 0, 1) := by decide +kernel
theorem dX2_layCell_1 : decode cX2_layCell 1 = .ok (.invokevirtual 201, 3) := by decide +kernel
theorem dX2_layCell_4 : decode cX2_layCell 4 = .ok (.istore 4, 2) := by decide +kernel
theorem dX2_layCell_6 : decode cX2_layCell 6 = .ok (.aload_n 0, 1) := by decide +kernel
theorem dX2_layCell_7 : decode cX2_layCell 7 = .ok (.aload_n 1, 1) := by decide +kernel
theorem dX2_layCell_8 : decode cX2_layCell 8 = .ok (.getfield 94, 3) := by decide +kernel
theorem dX2_layCell_11 : decode cX2_layCell 11 = .ok (.iload_n 2, 1) := by decide +kernel
theorem dX2_layCell_12 : decode cX2_layCell 12 = .ok (.aload_n 1, 1) := by decide +kernel
theorem dX2_layCell_13 : decode cX2_layCell 13 = .ok (.iload_n 2, 1) := by decide +kernel
theorem dX2_layCell_14 : decode cX2_layCell 14 = .ok (.iload_n 3, 1) := by decide +kernel
theorem dX2_layCell_15 : decode cX2_layCell 15 = .ok (.invokevirtual 205, 3) := by decide +kernel
theorem dX2_layCell_18 : decode cX2_layCell 18 = .ok (.invokevirtual 208, 3) := by decide +kernel
theorem dX2_layCell_21 : decode cX2_layCell 21 = .ok (.invokevirtual 211, 3) := by decide +kernel
theorem dX2_layCell_24 : decode cX2_layCell 24 = .ok (.istore 5, 2) := by decide +kernel
theorem dX2_layCell_26 : decode cX2_layCell 26 = .ok (.iload 4, 2) := by decide +kernel
theorem dX2_layCell_28 : decode cX2_layCell 28 = .ok (.iconst (-1), 1) := by decide +kernel
theorem dX2_layCell_29 : decode cX2_layCell 29 = .ok (.if_icmp .eq 9, 3) := by decide +kernel
theorem dX2_layCell_32 : decode cX2_layCell 32 = .ok (.iload 5, 2) := by decide +kernel
theorem dX2_layCell_34 : decode cX2_layCell 34 = .ok (.iconst (-1), 1) := by decide +kernel
theorem dX2_layCell_35 : decode cX2_layCell 35 = .ok (.if_icmp .ne 5, 3) := by decide +kernel
theorem dX2_layCell_38 : decode cX2_layCell 38 = .ok (.iconst (-1), 1) := by decide +kernel
theorem dX2_layCell_39 : decode cX2_layCell 39 = .ok (.ireturn, 1) := by decide +kernel
theorem dX2_layCell_40 : decode cX2_layCell 40 = .ok (.aload_n 0, 1) := by decide +kernel
theorem dX2_layCell_41 : decode cX2_layCell 41 = .ok (.getfield 65, 3) := by decide +kernel
theorem dX2_layCell_44 : decode cX2_layCell 44 = .ok (.iload 4, 2) := by decide +kernel
theorem dX2_layCell_46 : decode cX2_layCell 46 = .ok (.iload 5, 2) := by decide +kernel
theorem dX2_layCell_48 : decode cX2_layCell 48 = .ok (.iastore, 1) := by decide +kernel
theorem dX2_layCell_49 : decode cX2_layCell 49 = .ok (.iconst 0, 1) := by decide +kernel
theorem dX2_layCell_50 : decode cX2_layCell 50 = .ok (.istore 6, 2) := by decide +kernel
theorem dX2_layCell_52 : decode cX2_layCell 52 = .ok (.iload 6, 2) := by decide +kernel
theorem dX2_layCell_54 : decode cX2_layCell 54 = .ok (.iconst 2, 1) := by decide +kernel
theorem dX2_layCell_55 : decode cX2_layCell 55 = .ok (.if_icmp .ge 49, 3) := by decide +kernel
theorem dX2_layCell_58 : decode cX2_layCell 58 = .ok (.aload_n 0, 1) := by decide +kernel
theorem dX2_layCell_59 : decode cX2_layCell 59 = .ok (.getfield 68, 3) := by decide +kernel
theorem dX2_layCell_62 : decode cX2_layCell 62 = .ok (.iconst 2, 1) := by decide +kernel
theorem dX2_layCell_63 : decode cX2_layCell 63 = .ok (.iload 4, 2) := by decide +kernel
theorem dX2_layCell_65 : decode cX2_layCell 65 = .ok (.imul, 1) := by decide +kernel
theorem dX2_layCell_66 : decode cX2_layCell 66 = .ok (.iload 6, 2) := by decide +kernel
theorem dX2_layCell_68 : decode cX2_layCell 68 = .ok (.iadd, 1) := by decide +kernel
theorem dX2_layCell_69 : decode cX2_layCell 69 = .ok (.aload_n 0, 1) := by decide +kernel
theorem dX2_layCell_70 : decode cX2_layCell 70 = .ok (.aload_n 1, 1) := by decide +kernel
theorem dX2_layCell_71 : decode cX2_layCell 71 = .ok (.iload_n 3, 1) := by decide +kernel
theorem dX2_layCell_72 : decode cX2_layCell 72 = .ok (.iload 6, 2) := by decide +kernel
theorem dX2_layCell_74 : decode cX2_layCell 74 = .ok (.invokevirtual 154, 3) := by decide +kernel
theorem dX2_layCell_77 : decode cX2_layCell 77 = .ok (.iastore, 1) := by decide +kernel
theorem dX2_layCell_78 : decode cX2_layCell 78 = .ok (.aload_n 0, 1) := by decide +kernel
theorem dX2_layCell_79 : decode cX2_layCell 79 = .ok (.getfield 71, 3) := by decide +kernel
theorem dX2_layCell_82 : decode cX2_layCell 82 = .ok (.iconst 2, 1) := by decide +kernel
theorem dX2_layCell_83 : decode cX2_layCell 83 = .ok (.iload 4, 2) := by decide +kernel
theorem dX2_layCell_85 : decode cX2_layCell 85 = .ok (.imul, 1) := by decide +kernel
theorem dX2_layCell_86 : decode cX2_layCell 86 = .ok (.iload 6, 2) := by decide +kernel
theorem dX2_layCell_88 : decode cX2_layCell 88 = .ok (.iadd, 1) := by decide +kernel
theorem dX2_layCell_89 : decode cX2_layCell 89 = .ok (.aload_n 0, 1) := by decide +kernel
theorem dX2_layCell_90 : decode cX2_layCell 90 = .ok (.aload_n 1, 1) := by decide +kernel
theorem dX2_layCell_91 : decode cX2_layCell 91 = .ok (.iload_n 3, 1) := by decide +kernel
theorem dX2_layCell_92 : decode cX2_layCell 92 = .ok (.iload 6, 2) := by decide +kernel
theorem dX2_layCell_94 : decode cX2_layCell 94 = .ok (.invokevirtual 166, 3) := by decide +kernel
theorem dX2_layCell_97 : decode cX2_layCell 97 = .ok (.iastore, 1) := by decide +kernel
theorem dX2_layCell_98 : decode cX2_layCell 98 = .ok (.iinc 6 1, 3) := by decide +kernel
theorem dX2_layCell_101 : decode cX2_layCell 101 = .ok (.goto (-49), 3) := by decide +kernel
theorem dX2_layCell_104 : decode cX2_layCell 104 = .ok (.aload_n 0, 1) := by decide +kernel
theorem dX2_layCell_105 : decode cX2_layCell 105 = .ok (.dup, 1) := by decide +kernel
theorem dX2_layCell_106 : decode cX2_layCell 106 = .ok (.getfield 24, 3) := by decide +kernel
theorem dX2_layCell_109 : decode cX2_layCell 109 = .ok (.iconst 1, 1) := by decide +kernel
theorem dX2_layCell_110 : decode cX2_layCell 110 = .ok (.iadd, 1) := by decide +kernel
theorem dX2_layCell_111 : decode cX2_layCell 111 = .ok (.putfield 24, 3) := by decide +kernel
theorem dX2_layCell_114 : decode cX2_layCell 114 = .ok (.aload_n 0, 1) := by decide +kernel
theorem dX2_layCell_115 : decode cX2_layCell 115 = .ok (.dup, 1) := by decide +kernel
theorem dX2_layCell_116 : decode cX2_layCell 116 = .ok (.getfield 33, 3) := by decide +kernel
theorem dX2_layCell_119 : decode cX2_layCell 119 = .ok (.iconst 1, 1) := by decide +kernel
theorem dX2_layCell_120 : decode cX2_layCell 120 = .ok (.iadd, 1) := by decide +kernel
theorem dX2_layCell_121 : decode cX2_layCell 121 = .ok (.putfield 33, 3) := by decide +kernel
theorem dX2_layCell_124 : decode cX2_layCell 124 = .ok (.aload_n 0, 1) := by decide +kernel
theorem dX2_layCell_125 : decode cX2_layCell 125 = .ok (.aload_n 0, 1) := by decide +kernel
theorem dX2_layCell_126 : decode cX2_layCell 126 = .ok (.getfield 27, 3) := by decide +kernel
theorem dX2_layCell_129 : decode cX2_layCell 129 = .ok (.aload_n 0, 1) := by decide +kernel
theorem dX2_layCell_130 : decode cX2_layCell 130 = .ok (.getfield 24, 3) := by decide +kernel
theorem dX2_layCell_133 : decode cX2_layCell 133 = .ok (.invokestatic 214, 3) := by decide +kernel
theorem dX2_layCell_136 : decode cX2_layCell 136 = .ok (.putfield 27, 3) := by decide +kernel
theorem dX2_layCell_139 : decode cX2_layCell 139 = .ok (.iload 4, 2) := by decide +kernel
theorem dX2_layCell_141 : decode cX2_layCell 141 = .ok (.ireturn, 1) := by decide +kernel
theorem dX2_freeCell_0 : decode cX2_freeCell 0 = .ok (.iconst 0, 1) := by decide +kernel
theorem dX2_freeCell_1 : decode cX2_freeCell 1 = .ok (.istore_n 1, 1) := by decide +kernel
theorem dX2_freeCell_2 : decode cX2_freeCell 2 = .ok (.iload_n 1, 1) := by decide +kernel
theorem dX2_freeCell_3 : decode cX2_freeCell 3 = .ok (.sipush 200, 3) := by decide +kernel
theorem dX2_freeCell_6 : decode cX2_freeCell 6 = .ok (.if_icmp .ge 21, 3) := by decide +kernel
theorem dX2_freeCell_9 : decode cX2_freeCell 9 = .ok (.aload_n 0, 1) := by decide +kernel
theorem dX2_freeCell_10 : decode cX2_freeCell 10 = .ok (.getfield 65, 3) := by decide +kernel
theorem dX2_freeCell_13 : decode cX2_freeCell 13 = .ok (.iload_n 1, 1) := by decide +kernel
theorem dX2_freeCell_14 : decode cX2_freeCell 14 = .ok (.iaload, 1) := by decide +kernel
theorem dX2_freeCell_15 : decode cX2_freeCell 15 = .ok (.iconst (-1), 1) := by decide +kernel
theorem dX2_freeCell_16 : decode cX2_freeCell 16 = .ok (.if_icmp .ne 5, 3) := by decide +kernel
theorem dX2_freeCell_19 : decode cX2_freeCell 19 = .ok (.iload_n 1, 1) := by decide +kernel
theorem dX2_freeCell_20 : decode cX2_freeCell 20 = .ok (.ireturn, 1) := by decide +kernel
theorem dX2_freeCell_21 : decode cX2_freeCell 21 = .ok (.iinc 1 1, 3) := by decide +kernel
theorem dX2_freeCell_24 : decode cX2_freeCell 24 = .ok (.goto (-22), 3) := by decide +kernel
theorem dX2_freeCell_27 : decode cX2_freeCell 27 = .ok (.iconst (-1), 1) := by decide +kernel
theorem dX2_freeCell_28 : decode cX2_freeCell 28 = .ok (.ireturn, 1) := by decide +kernel
theorem dX2_latestRoom_0 : decode cX2_latestRoom 0 = .ok (.aload_n 0, 1) := by decide +kernel
theorem dX2_latestRoom_1 : decode cX2_latestRoom 1 = .ok (.getfield 21, 3) := by decide +kernel
theorem dX2_latestRoom_4 : decode cX2_latestRoom 4 = .ok (.iconst 1, 1) := by decide +kernel
theorem dX2_latestRoom_5 : decode cX2_latestRoom 5 = .ok (.isub, 1) := by decide +kernel
theorem dX2_latestRoom_6 : decode cX2_latestRoom 6 = .ok (.istore_n 2, 1) := by decide +kernel
theorem dX2_latestRoom_7 : decode cX2_latestRoom 7 = .ok (.iload_n 2, 1) := by decide +kernel
theorem dX2_latestRoom_8 : decode cX2_latestRoom 8 = .ok (.ifCond .lt 21, 3) := by decide +kernel
theorem dX2_latestRoom_11 : decode cX2_latestRoom 11 = .ok (.aload_n 0, 1) := by decide +kernel
theorem dX2_latestRoom_12 : decode cX2_latestRoom 12 = .ok (.getfield 62, 3) := by decide +kernel
theorem dX2_latestRoom_15 : decode cX2_latestRoom 15 = .ok (.iload_n 2, 1) := by decide +kernel
theorem dX2_latestRoom_16 : decode cX2_latestRoom 16 = .ok (.iaload, 1) := by decide +kernel
theorem dX2_latestRoom_17 : decode cX2_latestRoom 17 = .ok (.iload_n 1, 1) := by decide +kernel
theorem dX2_latestRoom_18 : decode cX2_latestRoom 18 = .ok (.if_icmp .ne 5, 3) := by decide +kernel
theorem dX2_latestRoom_21 : decode cX2_latestRoom 21 = .ok (.iload_n 2, 1) := by decide +kernel
theorem dX2_latestRoom_22 : decode cX2_latestRoom 22 = .ok (.ireturn, 1) := by decide +kernel
theorem dX2_latestRoom_23 : decode cX2_latestRoom 23 = .ok (.iinc 2 (-1), 3) := by decide +kernel
theorem dX2_latestRoom_26 : decode cX2_latestRoom 26 = .ok (.goto (-19), 3) := by decide +kernel
theorem dX2_latestRoom_29 : decode cX2_latestRoom 29 = .ok (.iconst (-1), 1) := by decide +kernel
theorem dX2_latestRoom_30 : decode cX2_latestRoom 30 = .ok (.ireturn, 1) := by decide +kernel
theorem dX2_settle_0 : decode cX2_settle 0 = .ok (.iconst 0, 1) := by decide +kernel
theorem dX2_settle_1 : decode cX2_settle 1 = .ok (.istore_n 2, 1) := by decide +kernel
theorem dX2_settle_2 : decode cX2_settle 2 = .ok (.iload_n 2, 1) := by decide +kernel
theorem dX2_settle_3 : decode cX2_settle 3 = .ok (.bipush 12, 2) := by decide +kernel
theorem dX2_settle_5 : decode cX2_settle 5 = .ok (.if_icmp .ge 128, 3) := by decide +kernel
theorem dX2_settle_8 : decode cX2_settle 8 = .ok (.aload_n 0, 1) := by decide +kernel
theorem dX2_settle_9 : decode cX2_settle 9 = .ok (.getfield 18, 3) := by decide +kernel
theorem dX2_settle_12 : decode cX2_settle 12 = .ok (.ifCond .le 121, 3) := by decide +kernel
theorem dX2_settle_15 : decode cX2_settle 15 = .ok (.aload_n 0, 1) := by decide +kernel
theorem dX2_settle_16 : decode cX2_settle 16 = .ok (.getfield 18, 3) := by decide +kernel
theorem dX2_settle_19 : decode cX2_settle 19 = .ok (.iconst 1, 1) := by decide +kernel
theorem dX2_settle_20 : decode cX2_settle 20 = .ok (.isub, 1) := by decide +kernel
theorem dX2_settle_21 : decode cX2_settle 21 = .ok (.istore_n 3, 1) := by decide +kernel
theorem dX2_settle_22 : decode cX2_settle 22 = .ok (.aload_n 0, 1) := by decide +kernel
theorem dX2_settle_23 : decode cX2_settle 23 = .ok (.getfield 49, 3) := by decide +kernel
theorem dX2_settle_26 : decode cX2_settle 26 = .ok (.iload_n 3, 1) := by decide +kernel
theorem dX2_settle_27 : decode cX2_settle 27 = .ok (.iaload, 1) := by decide +kernel
theorem dX2_settle_28 : decode cX2_settle 28 = .ok (.istore 4, 2) := by decide +kernel
theorem dX2_settle_30 : decode cX2_settle 30 = .ok (.aload_n 0, 1) := by decide +kernel
theorem dX2_settle_31 : decode cX2_settle 31 = .ok (.iload_n 3, 1) := by decide +kernel
theorem dX2_settle_32 : decode cX2_settle 32 = .ok (.aload_n 1, 1) := by decide +kernel
theorem dX2_settle_33 : decode cX2_settle 33 = .ok (.getfield 219, 3) := by decide +kernel
theorem dX2_settle_36 : decode cX2_settle 36 = .ok (.iload 4, 2) := by decide +kernel
theorem dX2_settle_38 : decode cX2_settle 38 = .ok (.iaload, 1) := by decide +kernel
theorem dX2_settle_39 : decode cX2_settle 39 = .ok (.aload_n 0, 1) := by decide +kernel
theorem dX2_settle_40 : decode cX2_settle 40 = .ok (.getfield 53, 3) := by decide +kernel
theorem dX2_settle_43 : decode cX2_settle 43 = .ok (.iload_n 3, 1) := by decide +kernel
theorem dX2_settle_44 : decode cX2_settle 44 = .ok (.iaload, 1) := by decide +kernel
theorem dX2_settle_45 : decode cX2_settle 45 = .ok (.iadd, 1) := by decide +kernel
theorem dX2_settle_46 : decode cX2_settle 46 = .ok (.aload_n 0, 1) := by decide +kernel
theorem dX2_settle_47 : decode cX2_settle 47 = .ok (.getfield 39, 3) := by decide +kernel
theorem dX2_settle_50 : decode cX2_settle 50 = .ok (.aload_n 0, 1) := by decide +kernel
theorem dX2_settle_51 : decode cX2_settle 51 = .ok (.getfield 42, 3) := by decide +kernel
theorem dX2_settle_54 : decode cX2_settle 54 = .ok (.invokevirtual 173, 3) := by decide +kernel
theorem dX2_settle_57 : decode cX2_settle 57 = .ok (.aload_n 0, 1) := by decide +kernel
theorem dX2_settle_58 : decode cX2_settle 58 = .ok (.aload_n 1, 1) := by decide +kernel
theorem dX2_settle_59 : decode cX2_settle 59 = .ok (.iload_n 3, 1) := by decide +kernel
theorem dX2_settle_60 : decode cX2_settle 60 = .ok (.aload_n 1, 1) := by decide +kernel
theorem dX2_settle_61 : decode cX2_settle 61 = .ok (.getfield 94, 3) := by decide +kernel
theorem dX2_settle_64 : decode cX2_settle 64 = .ok (.getfield 222, 3) := by decide +kernel
theorem dX2_settle_67 : decode cX2_settle 67 = .ok (.aload_n 1, 1) := by decide +kernel
theorem dX2_settle_68 : decode cX2_settle 68 = .ok (.getfield 126, 3) := by decide +kernel
theorem dX2_settle_71 : decode cX2_settle 71 = .ok (.iload 4, 2) := by decide +kernel
theorem dX2_settle_73 : decode cX2_settle 73 = .ok (.iaload, 1) := by decide +kernel
theorem dX2_settle_74 : decode cX2_settle 74 = .ok (.aload_n 0, 1) := by decide +kernel
theorem dX2_settle_75 : decode cX2_settle 75 = .ok (.getfield 53, 3) := by decide +kernel
theorem dX2_settle_78 : decode cX2_settle 78 = .ok (.iload_n 3, 1) := by decide +kernel
theorem dX2_settle_79 : decode cX2_settle 79 = .ok (.iaload, 1) := by decide +kernel
theorem dX2_settle_80 : decode cX2_settle 80 = .ok (.iadd, 1) := by decide +kernel
theorem dX2_settle_81 : decode cX2_settle 81 = .ok (.iaload, 1) := by decide +kernel
theorem dX2_settle_82 : decode cX2_settle 82 = .ok (.invokevirtual 225, 3) := by decide +kernel
theorem dX2_settle_85 : decode cX2_settle 85 = .ok (.aload_n 0, 1) := by decide +kernel
theorem dX2_settle_86 : decode cX2_settle 86 = .ok (.getfield 53, 3) := by decide +kernel
theorem dX2_settle_89 : decode cX2_settle 89 = .ok (.iload_n 3, 1) := by decide +kernel
theorem dX2_settle_90 : decode cX2_settle 90 = .ok (.dup2, 1) := by decide +kernel
theorem dX2_settle_91 : decode cX2_settle 91 = .ok (.iaload, 1) := by decide +kernel
theorem dX2_settle_92 : decode cX2_settle 92 = .ok (.iconst 1, 1) := by decide +kernel
theorem dX2_settle_93 : decode cX2_settle 93 = .ok (.iadd, 1) := by decide +kernel
theorem dX2_settle_94 : decode cX2_settle 94 = .ok (.iastore, 1) := by decide +kernel
theorem dX2_settle_95 : decode cX2_settle 95 = .ok (.aload_n 0, 1) := by decide +kernel
theorem dX2_settle_96 : decode cX2_settle 96 = .ok (.getfield 53, 3) := by decide +kernel
theorem dX2_settle_99 : decode cX2_settle 99 = .ok (.iload_n 3, 1) := by decide +kernel
theorem dX2_settle_100 : decode cX2_settle 100 = .ok (.iaload, 1) := by decide +kernel
theorem dX2_settle_101 : decode cX2_settle 101 = .ok (.aload_n 1, 1) := by decide +kernel
theorem dX2_settle_102 : decode cX2_settle 102 = .ok (.getfield 228, 3) := by decide +kernel
theorem dX2_settle_105 : decode cX2_settle 105 = .ok (.iload 4, 2) := by decide +kernel
theorem dX2_settle_107 : decode cX2_settle 107 = .ok (.iaload, 1) := by decide +kernel
theorem dX2_settle_108 : decode cX2_settle 108 = .ok (.if_icmp .ge 4, 3) := by decide +kernel
theorem dX2_settle_111 : decode cX2_settle 111 = .ok (.return_, 1) := by decide +kernel
theorem dX2_settle_112 : decode cX2_settle 112 = .ok (.aload_n 0, 1) := by decide +kernel
theorem dX2_settle_113 : decode cX2_settle 113 = .ok (.dup, 1) := by decide +kernel
theorem dX2_settle_114 : decode cX2_settle 114 = .ok (.getfield 18, 3) := by decide +kernel
theorem dX2_settle_117 : decode cX2_settle 117 = .ok (.iconst 1, 1) := by decide +kernel
theorem dX2_settle_118 : decode cX2_settle 118 = .ok (.isub, 1) := by decide +kernel
theorem dX2_settle_119 : decode cX2_settle 119 = .ok (.putfield 18, 3) := by decide +kernel
theorem dX2_settle_122 : decode cX2_settle 122 = .ok (.aload_n 0, 1) := by decide +kernel
theorem dX2_settle_123 : decode cX2_settle 123 = .ok (.iconst 1, 1) := by decide +kernel
theorem dX2_settle_124 : decode cX2_settle 124 = .ok (.putfield 45, 3) := by decide +kernel
theorem dX2_settle_127 : decode cX2_settle 127 = .ok (.iinc 2 1, 3) := by decide +kernel
theorem dX2_settle_130 : decode cX2_settle 130 = .ok (.goto (-128), 3) := by decide +kernel
theorem dX2_settle_133 : decode cX2_settle 133 = .ok (.aload_n 0, 1) := by decide +kernel
theorem dX2_settle_134 : decode cX2_settle 134 = .ok (.iconst 2, 1) := by decide +kernel
theorem dX2_settle_135 : decode cX2_settle 135 = .ok (.putfield 9, 3) := by decide +kernel
theorem dX2_settle_138 : decode cX2_settle 138 = .ok (.return_, 1) := by decide +kernel
theorem dX2_freeRooms_0 : decode cX2_freeRooms 0 = .ok (.iload_n 3, 1) := by decide +kernel
theorem dX2_freeRooms_1 : decode cX2_freeRooms 1 = .ok (.ifCond .ne 4, 3) := by decide +kernel
theorem dX2_freeRooms_4 : decode cX2_freeRooms 4 = .ok (.return_, 1) := by decide +kernel
theorem dX2_freeRooms_5 : decode cX2_freeRooms 5 = .ok (.aload_n 0, 1) := by decide +kernel
theorem dX2_freeRooms_6 : decode cX2_freeRooms 6 = .ok (.iconst 1, 1) := by decide +kernel
theorem dX2_freeRooms_7 : decode cX2_freeRooms 7 = .ok (.putfield 45, 3) := by decide +kernel
theorem dX2_freeRooms_10 : decode cX2_freeRooms 10 = .ok (.iconst 0, 1) := by decide +kernel
theorem dX2_freeRooms_11 : decode cX2_freeRooms 11 = .ok (.istore 4, 2) := by decide +kernel
theorem dX2_freeRooms_13 : decode cX2_freeRooms 13 = .ok (.iload 4, 2) := by decide +kernel
theorem dX2_freeRooms_15 : decode cX2_freeRooms 15 = .ok (.bipush 24, 2) := by decide +kernel
theorem dX2_freeRooms_17 : decode cX2_freeRooms 17 = .ok (.if_icmp .ge 28, 3) := by decide +kernel
theorem dX2_freeRooms_20 : decode cX2_freeRooms 20 = .ok (.iload_n 3, 1) := by decide +kernel
theorem dX2_freeRooms_21 : decode cX2_freeRooms 21 = .ok (.iload 4, 2) := by decide +kernel
theorem dX2_freeRooms_23 : decode cX2_freeRooms 23 = .ok (.ishr, 1) := by decide +kernel
theorem dX2_freeRooms_24 : decode cX2_freeRooms 24 = .ok (.iconst 1, 1) := by decide +kernel
theorem dX2_freeRooms_25 : decode cX2_freeRooms 25 = .ok (.iand, 1) := by decide +kernel
theorem dX2_freeRooms_26 : decode cX2_freeRooms 26 = .ok (.ifCond .eq 13, 3) := by decide +kernel
theorem dX2_freeRooms_29 : decode cX2_freeRooms 29 = .ok (.aload_n 0, 1) := by decide +kernel
theorem dX2_freeRooms_30 : decode cX2_freeRooms 30 = .ok (.aload_n 0, 1) := by decide +kernel
theorem dX2_freeRooms_31 : decode cX2_freeRooms 31 = .ok (.iload 4, 2) := by decide +kernel
theorem dX2_freeRooms_33 : decode cX2_freeRooms 33 = .ok (.invokevirtual 211, 3) := by decide +kernel
theorem dX2_freeRooms_36 : decode cX2_freeRooms 36 = .ok (.invokevirtual 231, 3) := by decide +kernel
theorem dX2_freeRooms_39 : decode cX2_freeRooms 39 = .ok (.iinc 4 1, 3) := by decide +kernel
theorem dX2_freeRooms_42 : decode cX2_freeRooms 42 = .ok (.goto (-29), 3) := by decide +kernel
theorem dX2_freeRooms_45 : decode cX2_freeRooms 45 = .ok (.aload_n 0, 1) := by decide +kernel
theorem dX2_freeRooms_46 : decode cX2_freeRooms 46 = .ok (.getfield 49, 3) := by decide +kernel
theorem dX2_freeRooms_49 : decode cX2_freeRooms 49 = .ok (.iload_n 2, 1) := by decide +kernel
theorem dX2_freeRooms_50 : decode cX2_freeRooms 50 = .ok (.iaload, 1) := by decide +kernel
theorem dX2_freeRooms_51 : decode cX2_freeRooms 51 = .ok (.istore 4, 2) := by decide +kernel
theorem dX2_freeRooms_53 : decode cX2_freeRooms 53 = .ok (.iconst 0, 1) := by decide +kernel
theorem dX2_freeRooms_54 : decode cX2_freeRooms 54 = .ok (.istore 5, 2) := by decide +kernel
theorem dX2_freeRooms_56 : decode cX2_freeRooms 56 = .ok (.iload 5, 2) := by decide +kernel
theorem dX2_freeRooms_58 : decode cX2_freeRooms 58 = .ok (.aload_n 1, 1) := by decide +kernel
theorem dX2_freeRooms_59 : decode cX2_freeRooms 59 = .ok (.iload 4, 2) := by decide +kernel
theorem dX2_freeRooms_61 : decode cX2_freeRooms 61 = .ok (.invokevirtual 234, 3) := by decide +kernel
theorem dX2_freeRooms_64 : decode cX2_freeRooms 64 = .ok (.if_icmp .ge 34, 3) := by decide +kernel
theorem dX2_freeRooms_67 : decode cX2_freeRooms 67 = .ok (.aload_n 1, 1) := by decide +kernel
theorem dX2_freeRooms_68 : decode cX2_freeRooms 68 = .ok (.getfield 94, 3) := by decide +kernel
theorem dX2_freeRooms_71 : decode cX2_freeRooms 71 = .ok (.iload 4, 2) := by decide +kernel
theorem dX2_freeRooms_73 : decode cX2_freeRooms 73 = .ok (.iload 5, 2) := by decide +kernel
theorem dX2_freeRooms_75 : decode cX2_freeRooms 75 = .ok (.invokevirtual 237, 3) := by decide +kernel
theorem dX2_freeRooms_78 : decode cX2_freeRooms 78 = .ok (.iload_n 3, 1) := by decide +kernel
theorem dX2_freeRooms_79 : decode cX2_freeRooms 79 = .ok (.iand, 1) := by decide +kernel
theorem dX2_freeRooms_80 : decode cX2_freeRooms 80 = .ok (.ifCond .eq 12, 3) := by decide +kernel
theorem dX2_freeRooms_83 : decode cX2_freeRooms 83 = .ok (.aload_n 0, 1) := by decide +kernel
theorem dX2_freeRooms_84 : decode cX2_freeRooms 84 = .ok (.iload_n 2, 1) := by decide +kernel
theorem dX2_freeRooms_85 : decode cX2_freeRooms 85 = .ok (.iload 5, 2) := by decide +kernel
theorem dX2_freeRooms_87 : decode cX2_freeRooms 87 = .ok (.iconst 0, 1) := by decide +kernel
theorem dX2_freeRooms_88 : decode cX2_freeRooms 88 = .ok (.iconst 0, 1) := by decide +kernel
theorem dX2_freeRooms_89 : decode cX2_freeRooms 89 = .ok (.invokevirtual 173, 3) := by decide +kernel
theorem dX2_freeRooms_92 : decode cX2_freeRooms 92 = .ok (.iinc 5 1, 3) := by decide +kernel
theorem dX2_freeRooms_95 : decode cX2_freeRooms 95 = .ok (.goto (-39), 3) := by decide +kernel
theorem dX2_freeRooms_98 : decode cX2_freeRooms 98 = .ok (.return_, 1) := by decide +kernel
theorem dX2_freeRoom_0 : decode cX2_freeRoom 0 = .ok (.aload_n 0, 1) := by decide +kernel
theorem dX2_freeRoom_1 : decode cX2_freeRoom 1 = .ok (.iload_n 1, 1) := by decide +kernel
theorem dX2_freeRoom_2 : decode cX2_freeRoom 2 = .ok (.invokevirtual 119, 3) := by decide +kernel
theorem dX2_freeRoom_5 : decode cX2_freeRoom 5 = .ok (.ifCond .ne 4, 3) := by decide +kernel
theorem dX2_freeRoom_8 : decode cX2_freeRoom 8 = .ok (.return_, 1) := by decide +kernel
theorem dX2_freeRoom_9 : decode cX2_freeRoom 9 = .ok (.iconst 0, 1) := by decide +kernel
theorem dX2_freeRoom_10 : decode cX2_freeRoom 10 = .ok (.istore_n 2, 1) := by decide +kernel
theorem dX2_freeRoom_11 : decode cX2_freeRoom 11 = .ok (.iload_n 2, 1) := by decide +kernel
theorem dX2_freeRoom_12 : decode cX2_freeRoom 12 = .ok (.sipush 200, 3) := by decide +kernel
theorem dX2_freeRoom_15 : decode cX2_freeRoom 15 = .ok (.if_icmp .ge 59, 3) := by decide +kernel
theorem dX2_freeRoom_18 : decode cX2_freeRoom 18 = .ok (.aload_n 0, 1) := by decide +kernel
theorem dX2_freeRoom_19 : decode cX2_freeRoom 19 = .ok (.getfield 65, 3) := by decide +kernel
theorem dX2_freeRoom_22 : decode cX2_freeRoom 22 = .ok (.iload_n 2, 1) := by decide +kernel
theorem dX2_freeRoom_23 : decode cX2_freeRoom 23 = .ok (.iaload, 1) := by decide +kernel
theorem dX2_freeRoom_24 : decode cX2_freeRoom 24 = .ok (.iload_n 1, 1) := by decide +kernel
theorem dX2_freeRoom_25 : decode cX2_freeRoom 25 = .ok (.if_icmp .ne 23, 3) := by decide +kernel
theorem dX2_freeRoom_28 : decode cX2_freeRoom 28 = .ok (.aload_n 0, 1) := by decide +kernel
theorem dX2_freeRoom_29 : decode cX2_freeRoom 29 = .ok (.getfield 65, 3) := by decide +kernel
theorem dX2_freeRoom_32 : decode cX2_freeRoom 32 = .ok (.iload_n 2, 1) := by decide +kernel
theorem dX2_freeRoom_33 : decode cX2_freeRoom 33 = .ok (.iconst (-1), 1) := by decide +kernel
theorem dX2_freeRoom_34 : decode cX2_freeRoom 34 = .ok (.iastore, 1) := by decide +kernel
theorem dX2_freeRoom_35 : decode cX2_freeRoom 35 = .ok (.aload_n 0, 1) := by decide +kernel
theorem dX2_freeRoom_36 : decode cX2_freeRoom 36 = .ok (.dup, 1) := by decide +kernel
theorem dX2_freeRoom_37 : decode cX2_freeRoom 37 = .ok (.getfield 24, 3) := by decide +kernel
theorem dX2_freeRoom_40 : decode cX2_freeRoom 40 = .ok (.iconst 1, 1) := by decide +kernel
theorem dX2_freeRoom_41 : decode cX2_freeRoom 41 = .ok (.isub, 1) := by decide +kernel
theorem dX2_freeRoom_42 : decode cX2_freeRoom 42 = .ok (.putfield 24, 3) := by decide +kernel
theorem dX2_freeRoom_45 : decode cX2_freeRoom 45 = .ok (.goto 23, 3) := by decide +kernel
theorem dX2_freeRoom_48 : decode cX2_freeRoom 48 = .ok (.aload_n 0, 1) := by decide +kernel
theorem dX2_freeRoom_49 : decode cX2_freeRoom 49 = .ok (.getfield 65, 3) := by decide +kernel
theorem dX2_freeRoom_52 : decode cX2_freeRoom 52 = .ok (.iload_n 2, 1) := by decide +kernel
theorem dX2_freeRoom_53 : decode cX2_freeRoom 53 = .ok (.iaload, 1) := by decide +kernel
theorem dX2_freeRoom_54 : decode cX2_freeRoom 54 = .ok (.iload_n 1, 1) := by decide +kernel
theorem dX2_freeRoom_55 : decode cX2_freeRoom 55 = .ok (.if_icmp .le 13, 3) := by decide +kernel
theorem dX2_freeRoom_58 : decode cX2_freeRoom 58 = .ok (.aload_n 0, 1) := by decide +kernel
theorem dX2_freeRoom_59 : decode cX2_freeRoom 59 = .ok (.getfield 65, 3) := by decide +kernel
theorem dX2_freeRoom_62 : decode cX2_freeRoom 62 = .ok (.iload_n 2, 1) := by decide +kernel
theorem dX2_freeRoom_63 : decode cX2_freeRoom 63 = .ok (.dup2, 1) := by decide +kernel
theorem dX2_freeRoom_64 : decode cX2_freeRoom 64 = .ok (.iaload, 1) := by decide +kernel
theorem dX2_freeRoom_65 : decode cX2_freeRoom 65 = .ok (.iconst 1, 1) := by decide +kernel
theorem dX2_freeRoom_66 : decode cX2_freeRoom 66 = .ok (.isub, 1) := by decide +kernel
theorem dX2_freeRoom_67 : decode cX2_freeRoom 67 = .ok (.iastore, 1) := by decide +kernel
theorem dX2_freeRoom_68 : decode cX2_freeRoom 68 = .ok (.iinc 2 1, 3) := by decide +kernel
theorem dX2_freeRoom_71 : decode cX2_freeRoom 71 = .ok (.goto (-60), 3) := by decide +kernel
theorem dX2_freeRoom_74 : decode cX2_freeRoom 74 = .ok (.aload_n 0, 1) := by decide +kernel
theorem dX2_freeRoom_75 : decode cX2_freeRoom 75 = .ok (.getfield 62, 3) := by decide +kernel
theorem dX2_freeRoom_78 : decode cX2_freeRoom 78 = .ok (.iload_n 1, 1) := by decide +kernel
theorem dX2_freeRoom_79 : decode cX2_freeRoom 79 = .ok (.iconst 1, 1) := by decide +kernel
theorem dX2_freeRoom_80 : decode cX2_freeRoom 80 = .ok (.iadd, 1) := by decide +kernel
theorem dX2_freeRoom_81 : decode cX2_freeRoom 81 = .ok (.aload_n 0, 1) := by decide +kernel
theorem dX2_freeRoom_82 : decode cX2_freeRoom 82 = .ok (.getfield 62, 3) := by decide +kernel
theorem dX2_freeRoom_85 : decode cX2_freeRoom 85 = .ok (.iload_n 1, 1) := by decide +kernel
theorem dX2_freeRoom_86 : decode cX2_freeRoom 86 = .ok (.aload_n 0, 1) := by decide +kernel
theorem dX2_freeRoom_87 : decode cX2_freeRoom 87 = .ok (.getfield 21, 3) := by decide +kernel
theorem dX2_freeRoom_90 : decode cX2_freeRoom 90 = .ok (.iload_n 1, 1) := by decide +kernel
theorem dX2_freeRoom_91 : decode cX2_freeRoom 91 = .ok (.isub, 1) := by decide +kernel
theorem dX2_freeRoom_92 : decode cX2_freeRoom 92 = .ok (.iconst 1, 1) := by decide +kernel
theorem dX2_freeRoom_93 : decode cX2_freeRoom 93 = .ok (.isub, 1) := by decide +kernel
theorem dX2_freeRoom_94 : decode cX2_freeRoom 94 = .ok (.invokestatic 80, 3) := by decide +kernel
theorem dX2_freeRoom_97 : decode cX2_freeRoom 97 = .ok (.aload_n 0, 1) := by decide +kernel
theorem dX2_freeRoom_98 : decode cX2_freeRoom 98 = .ok (.dup, 1) := by decide +kernel
theorem dX2_freeRoom_99 : decode cX2_freeRoom 99 = .ok (.getfield 21, 3) := by decide +kernel
theorem dX2_freeRoom_102 : decode cX2_freeRoom 102 = .ok (.iconst 1, 1) := by decide +kernel
theorem dX2_freeRoom_103 : decode cX2_freeRoom 103 = .ok (.isub, 1) := by decide +kernel
theorem dX2_freeRoom_104 : decode cX2_freeRoom 104 = .ok (.putfield 21, 3) := by decide +kernel
theorem dX2_freeRoom_107 : decode cX2_freeRoom 107 = .ok (.return_, 1) := by decide +kernel
theorem dX3_init_0 : decode cX3_init 0 = .ok (.aload_n 0, 1) := by decide +kernel
theorem dX3_init_1 : decode cX3_init 1 = .ok (.invokespecial 3, 3) := by decide +kernel
theorem dX3_init_4 : decode cX3_init 4 = .ok (.aload_n 0, 1) := by decide +kernel
theorem dX3_init_5 : decode cX3_init 5 = .ok (.iconst 0, 1) := by decide +kernel
theorem dX3_init_6 : decode cX3_init 6 = .ok (.putfield 9, 3) := by decide +kernel
theorem dX3_init_9 : decode cX3_init 9 = .ok (.aload_n 0, 1) := by decide +kernel
theorem dX3_init_10 : decode cX3_init 10 = .ok (.iconst 0, 1) := by decide +kernel
theorem dX3_init_11 : decode cX3_init 11 = .ok (.putfield 15, 3) := by decide +kernel
theorem dX3_init_14 : decode cX3_init 14 = .ok (.aload_n 0, 1) := by decide +kernel
theorem dX3_init_15 : decode cX3_init 15 = .ok (.iconst 5, 1) := by decide +kernel
theorem dX3_init_16 : decode cX3_init 16 = .ok (.newarray .long, 2) := by decide +kernel
theorem dX3_init_18 : decode cX3_init 18 = .ok (.putfield 18, 3) := by decide +kernel
theorem dX3_init_21 : decode cX3_init 21 = .ok (.aload_n 0, 1) := by decide +kernel
theorem dX3_init_22 : decode cX3_init 22 = .ok (.iconst 5, 1) := by decide +kernel
theorem dX3_init_23 : decode cX3_init 23 = .ok (.newarray .int, 2) := by decide +kernel
theorem dX3_init_25 : decode cX3_init 25 = .ok (.putfield 22, 3) := by decide +kernel
theorem dX3_init_28 : decode cX3_init 28 = .ok (.aload_n 0, 1) := by decide +kernel
theorem dX3_init_29 : decode cX3_init 29 = .ok (.iconst 5, 1) := by decide +kernel
theorem dX3_init_30 : decode cX3_init 30 = .ok (.newarray .int, 2) := by decide +kernel
theorem dX3_init_32 : decode cX3_init 32 = .ok (.putfield 26, 3) := by decide +kernel
theorem dX3_init_35 : decode cX3_init 35 = .ok (.aload_n 0, 1) := by decide +kernel
theorem dX3_init_36 : decode cX3_init 36 = .ok (.iconst 5, 1) := by decide +kernel
theorem dX3_init_37 : decode cX3_init 37 = .ok (.newarray .int, 2) := by decide +kernel
theorem dX3_init_39 : decode cX3_init 39 = .ok (.putfield 29, 3) := by decide +kernel
theorem dX3_init_42 : decode cX3_init 42 = .ok (.aload_n 0, 1) := by decide +kernel
theorem dX3_init_43 : decode cX3_init 43 = .ok (.bipush 24, 2) := by decide +kernel
theorem dX3_init_45 : decode cX3_init 45 = .ok (.newarray .int, 2) := by decide +kernel
theorem dX3_init_47 : decode cX3_init 47 = .ok (.putfield 32, 3) := by decide +kernel
theorem dX3_init_50 : decode cX3_init 50 = .ok (.aload_n 0, 1) := by decide +kernel
theorem dX3_init_51 : decode cX3_init 51 = .ok (.bipush 24, 2) := by decide +kernel
theorem dX3_init_53 : decode cX3_init 53 = .ok (.newarray .int, 2) := by decide +kernel
theorem dX3_init_55 : decode cX3_init 55 = .ok (.putfield 35, 3) := by decide +kernel
theorem dX3_init_58 : decode cX3_init 58 = .ok (.aload_n 0, 1) := by decide +kernel
theorem dX3_init_59 : decode cX3_init 59 = .ok (.bipush 120, 2) := by decide +kernel
theorem dX3_init_61 : decode cX3_init 61 = .ok (.newarray .int, 2) := by decide +kernel
theorem dX3_init_63 : decode cX3_init 63 = .ok (.putfield 38, 3) := by decide +kernel
theorem dX3_init_66 : decode cX3_init 66 = .ok (.aload_n 0, 1) := by decide +kernel
theorem dX3_init_67 : decode cX3_init 67 = .ok (.new 41, 3) := by decide +kernel
theorem dX3_init_70 : decode cX3_init 70 = .ok (.dup, 1) := by decide +kernel
theorem dX3_init_71 : decode cX3_init 71 = .ok (.invokespecial 43, 3) := by decide +kernel
theorem dX3_init_74 : decode cX3_init 74 = .ok (.putfield 44, 3) := by decide +kernel
theorem dX3_init_77 : decode cX3_init 77 = .ok (.return_, 1) := by decide +kernel
theorem dX3_clear_0 : decode cX3_clear 0 = .ok (.aload_n 0, 1) := by decide +kernel
theorem dX3_clear_1 : decode cX3_clear 1 = .ok (.iconst 0, 1) := by decide +kernel
theorem dX3_clear_2 : decode cX3_clear 2 = .ok (.putfield 9, 3) := by decide +kernel
theorem dX3_clear_5 : decode cX3_clear 5 = .ok (.aload_n 0, 1) := by decide +kernel
theorem dX3_clear_6 : decode cX3_clear 6 = .ok (.iconst 0, 1) := by decide +kernel
theorem dX3_clear_7 : decode cX3_clear 7 = .ok (.putfield 15, 3) := by decide +kernel
theorem dX3_clear_10 : decode cX3_clear 10 = .ok (.return_, 1) := by decide +kernel
theorem dX3_copyFrom_0 : decode cX3_copyFrom 0 = .ok (.aload_n 0, 1) := by decide +kernel
theorem dX3_copyFrom_1 : decode cX3_copyFrom 1 = .ok (.aload_n 1, 1) := by decide +kernel
theorem dX3_copyFrom_2 : decode cX3_copyFrom 2 = .ok (.getfield 9, 3) := by decide +kernel
theorem dX3_copyFrom_5 : decode cX3_copyFrom 5 = .ok (.putfield 9, 3) := by decide +kernel
theorem dX3_copyFrom_8 : decode cX3_copyFrom 8 = .ok (.aload_n 0, 1) := by decide +kernel
theorem dX3_copyFrom_9 : decode cX3_copyFrom 9 = .ok (.aload_n 1, 1) := by decide +kernel
theorem dX3_copyFrom_10 : decode cX3_copyFrom 10 = .ok (.getfield 15, 3) := by decide +kernel
theorem dX3_copyFrom_13 : decode cX3_copyFrom 13 = .ok (.putfield 15, 3) := by decide +kernel
theorem dX3_copyFrom_16 : decode cX3_copyFrom 16 = .ok (.aload_n 1, 1) := by decide +kernel
theorem dX3_copyFrom_17 : decode cX3_copyFrom 17 = .ok (.getfield 18, 3) := by decide +kernel
theorem dX3_copyFrom_20 : decode cX3_copyFrom 20 = .ok (.iconst 0, 1) := by decide +kernel
theorem dX3_copyFrom_21 : decode cX3_copyFrom 21 = .ok (.aload_n 0, 1) := by decide +kernel
theorem dX3_copyFrom_22 : decode cX3_copyFrom 22 = .ok (.getfield 18, 3) := by decide +kernel
theorem dX3_copyFrom_25 : decode cX3_copyFrom 25 = .ok (.iconst 0, 1) := by decide +kernel
theorem dX3_copyFrom_26 : decode cX3_copyFrom 26 = .ok (.aload_n 0, 1) := by decide +kernel
theorem dX3_copyFrom_27 : decode cX3_copyFrom 27 = .ok (.getfield 18, 3) := by decide +kernel
theorem dX3_copyFrom_30 : decode cX3_copyFrom 30 = .ok (.arraylength, 1) := by decide +kernel
theorem dX3_copyFrom_31 : decode cX3_copyFrom 31 = .ok (.invokestatic 48, 3) := by decide +kernel
theorem dX3_copyFrom_34 : decode cX3_copyFrom 34 = .ok (.aload_n 1, 1) := by decide +kernel
theorem dX3_copyFrom_35 : decode cX3_copyFrom 35 = .ok (.getfield 22, 3) := by decide +kernel
theorem dX3_copyFrom_38 : decode cX3_copyFrom 38 = .ok (.iconst 0, 1) := by decide +kernel
theorem dX3_copyFrom_39 : decode cX3_copyFrom 39 = .ok (.aload_n 0, 1) := by decide +kernel
theorem dX3_copyFrom_40 : decode cX3_copyFrom 40 = .ok (.getfield 22, 3) := by decide +kernel
theorem dX3_copyFrom_43 : decode cX3_copyFrom 43 = .ok (.iconst 0, 1) := by decide +kernel
theorem dX3_copyFrom_44 : decode cX3_copyFrom 44 = .ok (.aload_n 0, 1) := by decide +kernel
theorem dX3_copyFrom_45 : decode cX3_copyFrom 45 = .ok (.getfield 22, 3) := by decide +kernel
theorem dX3_copyFrom_48 : decode cX3_copyFrom 48 = .ok (.arraylength, 1) := by decide +kernel
theorem dX3_copyFrom_49 : decode cX3_copyFrom 49 = .ok (.invokestatic 48, 3) := by decide +kernel
theorem dX3_copyFrom_52 : decode cX3_copyFrom 52 = .ok (.aload_n 1, 1) := by decide +kernel
theorem dX3_copyFrom_53 : decode cX3_copyFrom 53 = .ok (.getfield 26, 3) := by decide +kernel
theorem dX3_copyFrom_56 : decode cX3_copyFrom 56 = .ok (.iconst 0, 1) := by decide +kernel
theorem dX3_copyFrom_57 : decode cX3_copyFrom 57 = .ok (.aload_n 0, 1) := by decide +kernel
theorem dX3_copyFrom_58 : decode cX3_copyFrom 58 = .ok (.getfield 26, 3) := by decide +kernel
theorem dX3_copyFrom_61 : decode cX3_copyFrom 61 = .ok (.iconst 0, 1) := by decide +kernel
theorem dX3_copyFrom_62 : decode cX3_copyFrom 62 = .ok (.aload_n 0, 1) := by decide +kernel
theorem dX3_copyFrom_63 : decode cX3_copyFrom 63 = .ok (.getfield 26, 3) := by decide +kernel
theorem dX3_copyFrom_66 : decode cX3_copyFrom 66 = .ok (.arraylength, 1) := by decide +kernel
theorem dX3_copyFrom_67 : decode cX3_copyFrom 67 = .ok (.invokestatic 48, 3) := by decide +kernel
theorem dX3_copyFrom_70 : decode cX3_copyFrom 70 = .ok (.aload_n 1, 1) := by decide +kernel
theorem dX3_copyFrom_71 : decode cX3_copyFrom 71 = .ok (.getfield 29, 3) := by decide +kernel
theorem dX3_copyFrom_74 : decode cX3_copyFrom 74 = .ok (.iconst 0, 1) := by decide +kernel
theorem dX3_copyFrom_75 : decode cX3_copyFrom 75 = .ok (.aload_n 0, 1) := by decide +kernel
theorem dX3_copyFrom_76 : decode cX3_copyFrom 76 = .ok (.getfield 29, 3) := by decide +kernel
theorem dX3_copyFrom_79 : decode cX3_copyFrom 79 = .ok (.iconst 0, 1) := by decide +kernel
theorem dX3_copyFrom_80 : decode cX3_copyFrom 80 = .ok (.aload_n 0, 1) := by decide +kernel
theorem dX3_copyFrom_81 : decode cX3_copyFrom 81 = .ok (.getfield 29, 3) := by decide +kernel
theorem dX3_copyFrom_84 : decode cX3_copyFrom 84 = .ok (.arraylength, 1) := by decide +kernel
theorem dX3_copyFrom_85 : decode cX3_copyFrom 85 = .ok (.invokestatic 48, 3) := by decide +kernel
theorem dX3_copyFrom_88 : decode cX3_copyFrom 88 = .ok (.aload_n 1, 1) := by decide +kernel
theorem dX3_copyFrom_89 : decode cX3_copyFrom 89 = .ok (.getfield 32, 3) := by decide +kernel
theorem dX3_copyFrom_92 : decode cX3_copyFrom 92 = .ok (.iconst 0, 1) := by decide +kernel
theorem dX3_copyFrom_93 : decode cX3_copyFrom 93 = .ok (.aload_n 0, 1) := by decide +kernel
theorem dX3_copyFrom_94 : decode cX3_copyFrom 94 = .ok (.getfield 32, 3) := by decide +kernel
theorem dX3_copyFrom_97 : decode cX3_copyFrom 97 = .ok (.iconst 0, 1) := by decide +kernel
theorem dX3_copyFrom_98 : decode cX3_copyFrom 98 = .ok (.aload_n 0, 1) := by decide +kernel
theorem dX3_copyFrom_99 : decode cX3_copyFrom 99 = .ok (.getfield 32, 3) := by decide +kernel
theorem dX3_copyFrom_102 : decode cX3_copyFrom 102 = .ok (.arraylength, 1) := by decide +kernel
theorem dX3_copyFrom_103 : decode cX3_copyFrom 103 = .ok (.invokestatic 48, 3) := by decide +kernel
theorem dX3_copyFrom_106 : decode cX3_copyFrom 106 = .ok (.aload_n 1, 1) := by decide +kernel
