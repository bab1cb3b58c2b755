theorem dX12_thrown_0 : decode cX12_thrown 0 = .ok (.aload_n 0, 1) := by decide +kernel
theorem dX12_thrown_1 : decode cX12_thrown 1 = .ok (.getfield 1, 3) := by decide +kernel
theorem dX12_thrown_4 : decode cX12_thrown 4 = .ok (.ireturn, 1) := by decide +kernel
theorem dX12_refuse_0 : decode cX12_refuse 0 = .ok (.aload_n 0, 1) := by decide +kernel
theorem dX12_refuse_1 : decode cX12_refuse 1 = .ok (.iconst 1, 1) := by decide +kernel
theorem dX12_refuse_2 : decode cX12_refuse 2 = .ok (.putfield 1, 3) := by decide +kernel
theorem dX12_refuse_5 : decode cX12_refuse 5 = .ok (.iconst 0, 1) := by decide +kernel
theorem dX12_refuse_6 : decode cX12_refuse 6 = .ok (.ireturn, 1) := by decide +kernel
theorem dX12_come_0 : decode cX12_come 0 = .ok (.bipush 24, 2) := by decide +kernel
theorem dX12_come_2 : decode cX12_come 2 = .ok (.istore_n 2, 1) := by decide +kernel
theorem dX12_come_3 : decode cX12_come 3 = .ok (.iload_n 2, 1) := by decide +kernel
theorem dX12_come_4 : decode cX12_come 4 = .ok (.ifCond .lt 35, 3) := by decide +kernel
theorem dX12_come_7 : decode cX12_come 7 = .ok (.aload_n 0, 1) := by decide +kernel
theorem dX12_come_8 : decode cX12_come 8 = .ok (.getfield 7, 3) := by decide +kernel
theorem dX12_come_11 : decode cX12_come 11 = .ok (.aload_n 0, 1) := by decide +kernel
theorem dX12_come_12 : decode cX12_come 12 = .ok (.getfield 11, 3) := by decide +kernel
theorem dX12_come_15 : decode cX12_come 15 = .ok (.iload_n 1, 1) := by decide +kernel
theorem dX12_come_16 : decode cX12_come 16 = .ok (.iload_n 2, 1) := by decide +kernel
theorem dX12_come_17 : decode cX12_come 17 = .ok (.iushr, 1) := by decide +kernel
theorem dX12_come_18 : decode cX12_come 18 = .ok (.sipush 255, 3) := by decide +kernel
theorem dX12_come_21 : decode cX12_come 21 = .ok (.iand, 1) := by decide +kernel
theorem dX12_come_22 : decode cX12_come 22 = .ok (.iastore, 1) := by decide +kernel
theorem dX12_come_23 : decode cX12_come 23 = .ok (.aload_n 0, 1) := by decide +kernel
theorem dX12_come_24 : decode cX12_come 24 = .ok (.dup, 1) := by decide +kernel
theorem dX12_come_25 : decode cX12_come 25 = .ok (.getfield 11, 3) := by decide +kernel
theorem dX12_come_28 : decode cX12_come 28 = .ok (.iconst 1, 1) := by decide +kernel
theorem dX12_come_29 : decode cX12_come 29 = .ok (.iadd, 1) := by decide +kernel
theorem dX12_come_30 : decode cX12_come 30 = .ok (.putfield 11, 3) := by decide +kernel
theorem dX12_come_33 : decode cX12_come 33 = .ok (.iinc 2 (-8), 3) := by decide +kernel
theorem dX12_come_36 : decode cX12_come 36 = .ok (.goto (-33), 3) := by decide +kernel
theorem dX12_come_39 : decode cX12_come 39 = .ok (.return_, 1) := by decide +kernel
theorem dX12_feed_0 : decode cX12_feed 0 = .ok (.aload_n 0, 1) := by decide +kernel
theorem dX12_feed_1 : decode cX12_feed 1 = .ok (.iconst 0, 1) := by decide +kernel
theorem dX12_feed_2 : decode cX12_feed 2 = .ok (.putfield 1, 3) := by decide +kernel
theorem dX12_feed_5 : decode cX12_feed 5 = .ok (.aload_n 0, 1) := by decide +kernel
theorem dX12_feed_6 : decode cX12_feed 6 = .ok (.getfield 11, 3) := by decide +kernel
theorem dX12_feed_9 : decode cX12_feed 9 = .ok (.bipush 20, 2) := by decide +kernel
theorem dX12_feed_11 : decode cX12_feed 11 = .ok (.iadd, 1) := by decide +kernel
theorem dX12_feed_12 : decode cX12_feed 12 = .ok (.sipush 940, 3) := by decide +kernel
theorem dX12_feed_15 : decode cX12_feed 15 = .ok (.if_icmp .le 5, 3) := by decide +kernel
theorem dX12_feed_18 : decode cX12_feed 18 = .ok (.iconst (-1), 1) := by decide +kernel
theorem dX12_feed_19 : decode cX12_feed 19 = .ok (.ireturn, 1) := by decide +kernel
theorem dX12_feed_20 : decode cX12_feed 20 = .ok (.aload_n 0, 1) := by decide +kernel
theorem dX12_feed_21 : decode cX12_feed 21 = .ok (.iload_n 1, 1) := by decide +kernel
theorem dX12_feed_22 : decode cX12_feed 22 = .ok (.invokevirtual 14, 3) := by decide +kernel
theorem dX12_feed_25 : decode cX12_feed 25 = .ok (.aload_n 0, 1) := by decide +kernel
theorem dX12_feed_26 : decode cX12_feed 26 = .ok (.iload_n 2, 1) := by decide +kernel
theorem dX12_feed_27 : decode cX12_feed 27 = .ok (.invokevirtual 14, 3) := by decide +kernel
theorem dX12_feed_30 : decode cX12_feed 30 = .ok (.aload_n 0, 1) := by decide +kernel
theorem dX12_feed_31 : decode cX12_feed 31 = .ok (.iload_n 3, 1) := by decide +kernel
theorem dX12_feed_32 : decode cX12_feed 32 = .ok (.invokevirtual 14, 3) := by decide +kernel
theorem dX12_feed_35 : decode cX12_feed 35 = .ok (.aload_n 0, 1) := by decide +kernel
theorem dX12_feed_36 : decode cX12_feed 36 = .ok (.iload 4, 2) := by decide +kernel
theorem dX12_feed_38 : decode cX12_feed 38 = .ok (.invokevirtual 14, 3) := by decide +kernel
theorem dX12_feed_41 : decode cX12_feed 41 = .ok (.aload_n 0, 1) := by decide +kernel
theorem dX12_feed_42 : decode cX12_feed 42 = .ok (.iload 5, 2) := by decide +kernel
theorem dX12_feed_44 : decode cX12_feed 44 = .ok (.invokevirtual 14, 3) := by decide +kernel
theorem dX12_feed_47 : decode cX12_feed 47 = .ok (.aload_n 0, 1) := by decide +kernel
theorem dX12_feed_48 : decode cX12_feed 48 = .ok (.getfield 11, 3) := by decide +kernel
theorem dX12_feed_51 : decode cX12_feed 51 = .ok (.ireturn, 1) := by decide +kernel
theorem dX12_end_0 : decode cX12_end 0 = .ok (.aload_n 0, 1) := by decide +kernel
theorem dX12_end_1 : decode cX12_end 1 = .ok (.iconst 0, 1) := by decide +kernel
theorem dX12_end_2 : decode cX12_end 2 = .ok (.putfield 1, 3) := by decide +kernel
theorem dX12_end_5 : decode cX12_end 5 = .ok (.iload_n 1, 1) := by decide +kernel
theorem dX12_end_6 : decode cX12_end 6 = .ok (.ifCond .lt 11, 3) := by decide +kernel
theorem dX12_end_9 : decode cX12_end 9 = .ok (.iload_n 1, 1) := by decide +kernel
theorem dX12_end_10 : decode cX12_end 10 = .ok (.aload_n 0, 1) := by decide +kernel
theorem dX12_end_11 : decode cX12_end 11 = .ok (.getfield 11, 3) := by decide +kernel
theorem dX12_end_14 : decode cX12_end 14 = .ok (.if_icmp .le 5, 3) := by decide +kernel
theorem dX12_end_17 : decode cX12_end 17 = .ok (.iconst 0, 1) := by decide +kernel
theorem dX12_end_18 : decode cX12_end 18 = .ok (.ireturn, 1) := by decide +kernel
theorem dX12_end_19 : decode cX12_end 19 = .ok (.aload_n 0, 1) := by decide +kernel
theorem dX12_end_20 : decode cX12_end 20 = .ok (.iload_n 1, 1) := by decide +kernel
theorem dX12_end_21 : decode cX12_end 21 = .ok (.putfield 11, 3) := by decide +kernel
theorem dX12_end_24 : decode cX12_end 24 = .ok (.iconst 1, 1) := by decide +kernel
theorem dX12_end_25 : decode cX12_end 25 = .ok (.ireturn, 1) := by decide +kernel
theorem dX12_take_0 : decode cX12_take 0 = .ok (.aload_n 0, 1) := by decide +kernel
theorem dX12_take_1 : decode cX12_take 1 = .ok (.getfield 11, 3) := by decide +kernel
theorem dX12_take_4 : decode cX12_take 4 = .ok (.istore_n 1, 1) := by decide +kernel
theorem dX12_take_5 : decode cX12_take 5 = .ok (.aload_n 0, 1) := by decide +kernel
theorem dX12_take_6 : decode cX12_take 6 = .ok (.iconst 0, 1) := by decide +kernel
theorem dX12_take_7 : decode cX12_take 7 = .ok (.putfield 11, 3) := by decide +kernel
theorem dX12_take_10 : decode cX12_take 10 = .ok (.iload_n 1, 1) := by decide +kernel
theorem dX12_take_11 : decode cX12_take 11 = .ok (.ireturn, 1) := by decide +kernel
theorem dX12_isIn_0 : decode cX12_isIn 0 = .ok (.iload_n 0, 1) := by decide +kernel
theorem dX12_isIn_1 : decode cX12_isIn 1 = .ok (.iload_n 1, 1) := by decide +kernel
theorem dX12_isIn_2 : decode cX12_isIn 2 = .ok (.if_icmp .lt 12, 3) := by decide +kernel
theorem dX12_isIn_5 : decode cX12_isIn 5 = .ok (.iload_n 0, 1) := by decide +kernel
theorem dX12_isIn_6 : decode cX12_isIn 6 = .ok (.iload_n 2, 1) := by decide +kernel
theorem dX12_isIn_7 : decode cX12_isIn 7 = .ok (.if_icmp .gt 7, 3) := by decide +kernel
theorem dX12_isIn_10 : decode cX12_isIn 10 = .ok (.iconst 1, 1) := by decide +kernel
theorem dX12_isIn_11 : decode cX12_isIn 11 = .ok (.goto 4, 3) := by decide +kernel
theorem dX12_isIn_14 : decode cX12_isIn 14 = .ok (.iconst 0, 1) := by decide +kernel
theorem dX12_isIn_15 : decode cX12_isIn 15 = .ok (.ireturn, 1) := by decide +kernel
theorem dX12_has_0 : decode cX12_has 0 = .ok (.iload_n 0, 1) := by decide +kernel
theorem dX12_has_1 : decode cX12_has 1 = .ok (.iload_n 1, 1) := by decide +kernel
theorem dX12_has_2 : decode cX12_has 2 = .ok (.ishr, 1) := by decide +kernel
theorem dX12_has_3 : decode cX12_has 3 = .ok (.iconst 1, 1) := by decide +kernel
theorem dX12_has_4 : decode cX12_has 4 = .ok (.iand, 1) := by decide +kernel
theorem dX12_has_5 : decode cX12_has 5 = .ok (.iconst 1, 1) := by decide +kernel
theorem dX12_has_6 : decode cX12_has 6 = .ok (.if_icmp .ne 7, 3) := by decide +kernel
theorem dX12_has_9 : decode cX12_has 9 = .ok (.iconst 1, 1) := by decide +kernel
theorem dX12_has_10 : decode cX12_has 10 = .ok (.goto 4, 3) := by decide +kernel
theorem dX12_has_13 : decode cX12_has 13 = .ok (.iconst 0, 1) := by decide +kernel
theorem dX12_has_14 : decode cX12_has 14 = .ok (.ireturn, 1) := by decide +kernel
theorem dX12_bits_0 : decode cX12_bits 0 = .ok (.iconst 0, 1) := by decide +kernel
theorem dX12_bits_1 : decode cX12_bits 1 = .ok (.istore_n 1, 1) := by decide +kernel
theorem dX12_bits_2 : decode cX12_bits 2 = .ok (.iload_n 0, 1) := by decide +kernel
theorem dX12_bits_3 : decode cX12_bits 3 = .ok (.istore_n 2, 1) := by decide +kernel
theorem dX12_bits_4 : decode cX12_bits 4 = .ok (.iload_n 2, 1) := by decide +kernel
theorem dX12_bits_5 : decode cX12_bits 5 = .ok (.ifCond .eq 15, 3) := by decide +kernel
theorem dX12_bits_8 : decode cX12_bits 8 = .ok (.iinc 1 1, 3) := by decide +kernel
theorem dX12_bits_11 : decode cX12_bits 11 = .ok (.iload_n 2, 1) := by decide +kernel
theorem dX12_bits_12 : decode cX12_bits 12 = .ok (.iload_n 2, 1) := by decide +kernel
theorem dX12_bits_13 : decode cX12_bits 13 = .ok (.iconst 1, 1) := by decide +kernel
theorem dX12_bits_14 : decode cX12_bits 14 = .ok (.isub, 1) := by decide +kernel
theorem dX12_bits_15 : decode cX12_bits 15 = .ok (.iand, 1) := by decide +kernel
theorem dX12_bits_16 : decode cX12_bits 16 = .ok (.istore_n 2, 1) := by decide +kernel
theorem dX12_bits_17 : decode cX12_bits 17 = .ok (.goto (-13), 3) := by decide +kernel
theorem dX12_bits_20 : decode cX12_bits 20 = .ok (.iload_n 1, 1) := by decide +kernel
theorem dX12_bits_21 : decode cX12_bits 21 = .ok (.ireturn, 1) := by decide +kernel
theorem dX12_tapeAt_0 : decode cX12_tapeAt 0 = .ok (.iload_n 1, 1) := by decide +kernel
theorem dX12_tapeAt_1 : decode cX12_tapeAt 1 = .ok (.aload_n 0, 1) := by decide +kernel
theorem dX12_tapeAt_2 : decode cX12_tapeAt 2 = .ok (.getfield 18, 3) := by decide +kernel
theorem dX12_tapeAt_5 : decode cX12_tapeAt 5 = .ok (.if_icmp .ge 12, 3) := by decide +kernel
theorem dX12_tapeAt_8 : decode cX12_tapeAt 8 = .ok (.aload_n 0, 1) := by decide +kernel
theorem dX12_tapeAt_9 : decode cX12_tapeAt 9 = .ok (.getfield 7, 3) := by decide +kernel
theorem dX12_tapeAt_12 : decode cX12_tapeAt 12 = .ok (.iload_n 1, 1) := by decide +kernel
theorem dX12_tapeAt_13 : decode cX12_tapeAt 13 = .ok (.iaload, 1) := by decide +kernel
theorem dX12_tapeAt_14 : decode cX12_tapeAt 14 = .ok (.goto 4, 3) := by decide +kernel
theorem dX12_tapeAt_17 : decode cX12_tapeAt 17 = .ok (.iconst 0, 1) := by decide +kernel
theorem dX12_tapeAt_18 : decode cX12_tapeAt 18 = .ok (.ireturn, 1) := by decide +kernel
theorem dX12_isDigit_0 : decode cX12_isDigit 0 = .ok (.iload_n 0, 1) := by decide +kernel
theorem dX12_isDigit_1 : decode cX12_isDigit 1 = .ok (.bipush 48, 2) := by decide +kernel
theorem dX12_isDigit_3 : decode cX12_isDigit 3 = .ok (.if_icmp .lt 13, 3) := by decide +kernel
theorem dX12_isDigit_6 : decode cX12_isDigit 6 = .ok (.iload_n 0, 1) := by decide +kernel
theorem dX12_isDigit_7 : decode cX12_isDigit 7 = .ok (.bipush 57, 2) := by decide +kernel
theorem dX12_isDigit_9 : decode cX12_isDigit 9 = .ok (.if_icmp .gt 7, 3) := by decide +kernel
theorem dX12_isDigit_12 : decode cX12_isDigit 12 = .ok (.iconst 1, 1) := by decide +kernel
theorem dX12_isDigit_13 : decode cX12_isDigit 13 = .ok (.goto 4, 3) := by decide +kernel
theorem dX12_isDigit_16 : decode cX12_isDigit 16 = .ok (.iconst 0, 1) := by decide +kernel
theorem dX12_isDigit_17 : decode cX12_isDigit 17 = .ok (.ireturn, 1) := by decide +kernel
theorem dX12_isLetter_0 : decode cX12_isLetter 0 = .ok (.iload_n 0, 1) := by decide +kernel
theorem dX12_isLetter_1 : decode cX12_isLetter 1 = .ok (.bipush 97, 2) := by decide +kernel
theorem dX12_isLetter_3 : decode cX12_isLetter 3 = .ok (.if_icmp .lt 13, 3) := by decide +kernel
theorem dX12_isLetter_6 : decode cX12_isLetter 6 = .ok (.iload_n 0, 1) := by decide +kernel
theorem dX12_isLetter_7 : decode cX12_isLetter 7 = .ok (.bipush 122, 2) := by decide +kernel
theorem dX12_isLetter_9 : decode cX12_isLetter 9 = .ok (.if_icmp .gt 7, 3) := by decide +kernel
theorem dX12_isLetter_12 : decode cX12_isLetter 12 = .ok (.iconst 1, 1) := by decide +kernel
theorem dX12_isLetter_13 : decode cX12_isLetter 13 = .ok (.goto 4, 3) := by decide +kernel
theorem dX12_isLetter_16 : decode cX12_isLetter 16 = .ok (.iconst 0, 1) := by decide +kernel
theorem dX12_isLetter_17 : decode cX12_isLetter 17 = .ok (.ireturn, 1) := by decide +kernel
theorem dX12_go_0 : decode cX12_go 0 = .ok (.aload_n 0, 1) := by decide +kernel
theorem dX12_go_1 : decode cX12_go 1 = .ok (.getfield 21, 3) := by decide +kernel
theorem dX12_go_4 : decode cX12_go 4 = .ok (.aload_n 0, 1) := by decide +kernel
theorem dX12_go_5 : decode cX12_go 5 = .ok (.getfield 18, 3) := by decide +kernel
theorem dX12_go_8 : decode cX12_go 8 = .ok (.if_icmp .ge 44, 3) := by decide +kernel
theorem dX12_go_11 : decode cX12_go 11 = .ok (.aload_n 0, 1) := by decide +kernel
theorem dX12_go_12 : decode cX12_go 12 = .ok (.getfield 7, 3) := by decide +kernel
theorem dX12_go_15 : decode cX12_go 15 = .ok (.aload_n 0, 1) := by decide +kernel
theorem dX12_go_16 : decode cX12_go 16 = .ok (.getfield 21, 3) := by decide +kernel
theorem dX12_go_19 : decode cX12_go 19 = .ok (.iaload, 1) := by decide +kernel
theorem dX12_go_20 : decode cX12_go 20 = .ok (.bipush 32, 2) := by decide +kernel
theorem dX12_go_22 : decode cX12_go 22 = .ok (.if_icmp .eq 17, 3) := by decide +kernel
theorem dX12_go_25 : decode cX12_go 25 = .ok (.aload_n 0, 1) := by decide +kernel
theorem dX12_go_26 : decode cX12_go 26 = .ok (.getfield 7, 3) := by decide +kernel
theorem dX12_go_29 : decode cX12_go 29 = .ok (.aload_n 0, 1) := by decide +kernel
theorem dX12_go_30 : decode cX12_go 30 = .ok (.getfield 21, 3) := by decide +kernel
theorem dX12_go_33 : decode cX12_go 33 = .ok (.iaload, 1) := by decide +kernel
theorem dX12_go_34 : decode cX12_go 34 = .ok (.bipush 10, 2) := by decide +kernel
theorem dX12_go_36 : decode cX12_go 36 = .ok (.if_icmp .ne 16, 3) := by decide +kernel
theorem dX12_go_39 : decode cX12_go 39 = .ok (.aload_n 0, 1) := by decide +kernel
theorem dX12_go_40 : decode cX12_go 40 = .ok (.dup, 1) := by decide +kernel
theorem dX12_go_41 : decode cX12_go 41 = .ok (.getfield 21, 3) := by decide +kernel
theorem dX12_go_44 : decode cX12_go 44 = .ok (.iconst 1, 1) := by decide +kernel
theorem dX12_go_45 : decode cX12_go 45 = .ok (.iadd, 1) := by decide +kernel
theorem dX12_go_46 : decode cX12_go 46 = .ok (.putfield 21, 3) := by decide +kernel
theorem dX12_go_49 : decode cX12_go 49 = .ok (.goto (-49), 3) := by decide +kernel
theorem dX12_go_52 : decode cX12_go 52 = .ok (.aload_n 0, 1) := by decide +kernel
theorem dX12_go_53 : decode cX12_go 53 = .ok (.aload_n 0, 1) := by decide +kernel
theorem dX12_go_54 : decode cX12_go 54 = .ok (.getfield 21, 3) := by decide +kernel
theorem dX12_go_57 : decode cX12_go 57 = .ok (.putfield 24, 3) := by decide +kernel
theorem dX12_go_60 : decode cX12_go 60 = .ok (.aload_n 0, 1) := by decide +kernel
theorem dX12_go_61 : decode cX12_go 61 = .ok (.getfield 18, 3) := by decide +kernel
theorem dX12_go_64 : decode cX12_go 64 = .ok (.aload_n 0, 1) := by decide +kernel
theorem dX12_go_65 : decode cX12_go 65 = .ok (.getfield 27, 3) := by decide +kernel
theorem dX12_go_68 : decode cX12_go 68 = .ok (.if_icmp .le 28, 3) := by decide +kernel
theorem dX12_go_71 : decode cX12_go 71 = .ok (.aload_n 0, 1) := by decide +kernel
theorem dX12_go_72 : decode cX12_go 72 = .ok (.getfield 24, 3) := by decide +kernel
theorem dX12_go_75 : decode cX12_go 75 = .ok (.aload_n 0, 1) := by decide +kernel
theorem dX12_go_76 : decode cX12_go 76 = .ok (.getfield 27, 3) := by decide +kernel
theorem dX12_go_79 : decode cX12_go 79 = .ok (.if_icmp .lt 17, 3) := by decide +kernel
theorem dX12_go_82 : decode cX12_go 82 = .ok (.aload_n 0, 1) := by decide +kernel
theorem dX12_go_83 : decode cX12_go 83 = .ok (.aload_n 0, 1) := by decide +kernel
theorem dX12_go_84 : decode cX12_go 84 = .ok (.getfield 27, 3) := by decide +kernel
theorem dX12_go_87 : decode cX12_go 87 = .ok (.putfield 24, 3) := by decide +kernel
theorem dX12_go_90 : decode cX12_go 90 = .ok (.aload_n 0, 1) := by decide +kernel
theorem dX12_go_91 : decode cX12_go 91 = .ok (.iconst 1, 1) := by decide +kernel
theorem dX12_go_92 : decode cX12_go 92 = .ok (.putfield 30, 3) := by decide +kernel
theorem dX12_go_95 : decode cX12_go 95 = .ok (.return_, 1) := by decide +kernel
theorem dX12_go_96 : decode cX12_go 96 = .ok (.aload_n 0, 1) := by decide +kernel
theorem dX12_go_97 : decode cX12_go 97 = .ok (.getfield 21, 3) := by decide +kernel
theorem dX12_go_100 : decode cX12_go 100 = .ok (.aload_n 0, 1) := by decide +kernel
theorem dX12_go_101 : decode cX12_go 101 = .ok (.getfield 18, 3) := by decide +kernel
theorem dX12_go_104 : decode cX12_go 104 = .ok (.if_icmp .lt 9, 3) := by decide +kernel
theorem dX12_go_107 : decode cX12_go 107 = .ok (.aload_n 0, 1) := by decide +kernel
theorem dX12_go_108 : decode cX12_go 108 = .ok (.iconst 0, 1) := by decide +kernel
theorem dX12_go_109 : decode cX12_go 109 = .ok (.putfield 30, 3) := by decide +kernel
theorem dX12_go_112 : decode cX12_go 112 = .ok (.return_, 1) := by decide +kernel
theorem dX12_go_113 : decode cX12_go 113 = .ok (.aload_n 0, 1) := by decide +kernel
theorem dX12_go_114 : decode cX12_go 114 = .ok (.getfield 7, 3) := by decide +kernel
theorem dX12_go_117 : decode cX12_go 117 = .ok (.aload_n 0, 1) := by decide +kernel
theorem dX12_go_118 : decode cX12_go 118 = .ok (.getfield 21, 3) := by decide +kernel
theorem dX12_go_121 : decode cX12_go 121 = .ok (.iaload, 1) := by decide +kernel
theorem dX12_go_122 : decode cX12_go 122 = .ok (.istore_n 1, 1) := by decide +kernel
theorem dX12_go_123 : decode cX12_go 123 = .ok (.iload_n 1, 1) := by decide +kernel
theorem dX12_go_124 : decode cX12_go 124 = .ok (.invokestatic 33, 3) := by decide +kernel
theorem dX12_go_127 : decode cX12_go 127 = .ok (.ifCond .ne 71, 3) := by decide +kernel
theorem dX12_go_130 : decode cX12_go 130 = .ok (.iload_n 1, 1) := by decide +kernel
theorem dX12_go_131 : decode cX12_go 131 = .ok (.invokestatic 37, 3) := by decide +kernel
theorem dX12_go_134 : decode cX12_go 134 = .ok (.ifCond .ne 64, 3) := by decide +kernel
theorem dX12_go_137 : decode cX12_go 137 = .ok (.aload_n 0, 1) := by decide +kernel
theorem dX12_go_138 : decode cX12_go 138 = .ok (.iload_n 1, 1) := by decide +kernel
theorem dX12_go_139 : decode cX12_go 139 = .ok (.bipush 59, 2) := by decide +kernel
theorem dX12_go_141 : decode cX12_go 141 = .ok (.if_icmp .eq 33, 3) := by decide +kernel
theorem dX12_go_144 : decode cX12_go 144 = .ok (.iload_n 1, 1) := by decide +kernel
theorem dX12_go_145 : decode cX12_go 145 = .ok (.bipush 60, 2) := by decide +kernel
theorem dX12_go_147 : decode cX12_go 147 = .ok (.if_icmp .eq 27, 3) := by decide +kernel
theorem dX12_go_150 : decode cX12_go 150 = .ok (.iload_n 1, 1) := by decide +kernel
theorem dX12_go_151 : decode cX12_go 151 = .ok (.bipush 61, 2) := by decide +kernel
theorem dX12_go_153 : decode cX12_go 153 = .ok (.if_icmp .eq 21, 3) := by decide +kernel
theorem dX12_go_156 : decode cX12_go 156 = .ok (.iload_n 1, 1) := by decide +kernel
theorem dX12_go_157 : decode cX12_go 157 = .ok (.bipush 62, 2) := by decide +kernel
theorem dX12_go_159 : decode cX12_go 159 = .ok (.if_icmp .eq 15, 3) := by decide +kernel
theorem dX12_go_162 : decode cX12_go 162 = .ok (.iload_n 1, 1) := by decide +kernel
theorem dX12_go_163 : decode cX12_go 163 = .ok (.bipush 40, 2) := by decide +kernel
theorem dX12_go_165 : decode cX12_go 165 = .ok (.if_icmp .eq 9, 3) := by decide +kernel
theorem dX12_go_168 : decode cX12_go 168 = .ok (.iload_n 1, 1) := by decide +kernel
theorem dX12_go_169 : decode cX12_go 169 = .ok (.bipush 41, 2) := by decide +kernel
theorem dX12_go_171 : decode cX12_go 171 = .ok (.if_icmp .ne 7, 3) := by decide +kernel
theorem dX12_go_174 : decode cX12_go 174 = .ok (.iconst 4, 1) := by decide +kernel
theorem dX12_go_175 : decode cX12_go 175 = .ok (.goto 4, 3) := by decide +kernel
theorem dX12_go_178 : decode cX12_go 178 = .ok (.iconst 1, 1) := by decide +kernel
theorem dX12_go_179 : decode cX12_go 179 = .ok (.putfield 30, 3) := by decide +kernel
theorem dX12_go_182 : decode cX12_go 182 = .ok (.aload_n 0, 1) := by decide +kernel
theorem dX12_go_183 : decode cX12_go 183 = .ok (.iload_n 1, 1) := by decide +kernel
theorem dX12_go_184 : decode cX12_go 184 = .ok (.putfield 40, 3) := by decide +kernel
theorem dX12_go_187 : decode cX12_go 187 = .ok (.aload_n 0, 1) := by decide +kernel
theorem dX12_go_188 : decode cX12_go 188 = .ok (.dup, 1) := by decide +kernel
theorem dX12_go_189 : decode cX12_go 189 = .ok (.getfield 21, 3) := by decide +kernel
theorem dX12_go_192 : decode cX12_go 192 = .ok (.iconst 1, 1) := by decide +kernel
theorem dX12_go_193 : decode cX12_go 193 = .ok (.iadd, 1) := by decide +kernel
theorem dX12_go_194 : decode cX12_go 194 = .ok (.putfield 21, 3) := by decide +kernel
theorem dX12_go_197 : decode cX12_go 197 = .ok (.return_, 1) := by decide +kernel
theorem dX12_go_198 : decode cX12_go 198 = .ok (.iload_n 1, 1) := by decide +kernel
theorem dX12_go_199 : decode cX12_go 199 = .ok (.invokestatic 33, 3) := by decide +kernel
theorem dX12_go_202 : decode cX12_go 202 = .ok (.istore_n 2, 1) := by decide +kernel
theorem dX12_go_203 : decode cX12_go 203 = .ok (.iconst 1, 1) := by decide +kernel
theorem dX12_go_204 : decode cX12_go 204 = .ok (.istore_n 3, 1) := by decide +kernel
theorem dX12_go_205 : decode cX12_go 205 = .ok (.aload_n 0, 1) := by decide +kernel
theorem dX12_go_206 : decode cX12_go 206 = .ok (.lconst 0, 1) := by decide +kernel
theorem dX12_go_207 : decode cX12_go 207 = .ok (.putfield 43, 3) := by decide +kernel
theorem dX12_go_210 : decode cX12_go 210 = .ok (.aload_n 0, 1) := by decide +kernel
theorem dX12_go_211 : decode cX12_go 211 = .ok (.iconst 0, 1) := by decide +kernel
theorem dX12_go_212 : decode cX12_go 212 = .ok (.putfield 47, 3) := by decide +kernel
theorem dX12_go_215 : decode cX12_go 215 = .ok (.aload_n 0, 1) := by decide +kernel
theorem dX12_go_216 : decode cX12_go 216 = .ok (.aload_n 0, 1) := by decide +kernel
theorem dX12_go_217 : decode cX12_go 217 = .ok (.getfield 21, 3) := by decide +kernel
theorem dX12_go_220 : decode cX12_go 220 = .ok (.invokevirtual 50, 3) := by decide +kernel
theorem dX12_go_223 : decode cX12_go 223 = .ok (.invokestatic 33, 3) := by decide +kernel
theorem dX12_go_226 : decode cX12_go 226 = .ok (.ifCond .ne 17, 3) := by decide +kernel
theorem dX12_go_229 : decode cX12_go 229 = .ok (.aload_n 0, 1) := by decide +kernel
theorem dX12_go_230 : decode cX12_go 230 = .ok (.aload_n 0, 1) := by decide +kernel
theorem dX12_go_231 : decode cX12_go 231 = .ok (.getfield 21, 3) := by decide +kernel
theorem dX12_go_234 : decode cX12_go 234 = .ok (.invokevirtual 50, 3) := by decide +kernel
theorem dX12_go_237 : decode cX12_go 237 = .ok (.invokestatic 37, 3) := by decide +kernel
theorem dX12_go_240 : decode cX12_go 240 = .ok (.ifCond .eq 110, 3) := by decide +kernel
theorem dX12_go_243 : decode cX12_go 243 = .ok (.aload_n 0, 1) := by decide +kernel
theorem dX12_go_244 : decode cX12_go 244 = .ok (.getfield 7, 3) := by decide +kernel
theorem dX12_go_247 : decode cX12_go 247 = .ok (.aload_n 0, 1) := by decide +kernel
theorem dX12_go_248 : decode cX12_go 248 = .ok (.getfield 21, 3) := by decide +kernel
theorem dX12_go_251 : decode cX12_go 251 = .ok (.iaload, 1) := by decide +kernel
theorem dX12_go_252 : decode cX12_go 252 = .ok (.istore 4, 2) := by decide +kernel
theorem dX12_go_254 : decode cX12_go 254 = .ok (.iload_n 3, 1) := by decide +kernel
theorem dX12_go_255 : decode cX12_go 255 = .ok (.ifCond .eq 16, 3) := by decide +kernel
theorem dX12_go_258 : decode cX12_go 258 = .ok (.iload 4, 2) := by decide +kernel
theorem dX12_go_260 : decode cX12_go 260 = .ok (.invokestatic 33, 3) := by decide +kernel
theorem dX12_go_263 : decode cX12_go 263 = .ok (.iload_n 2, 1) := by decide +kernel
theorem dX12_go_264 : decode cX12_go 264 = .ok (.if_icmp .ne 7, 3) := by decide +kernel
theorem dX12_go_267 : decode cX12_go 267 = .ok (.iconst 1, 1) := by decide +kernel
theorem dX12_go_268 : decode cX12_go 268 = .ok (.goto 4, 3) := by decide +kernel
theorem dX12_go_271 : decode cX12_go 271 = .ok (.iconst 0, 1) := by decide +kernel
theorem dX12_go_272 : decode cX12_go 272 = .ok (.istore_n 3, 1) := by decide +kernel
theorem dX12_go_273 : decode cX12_go 273 = .ok (.aload_n 0, 1) := by decide +kernel
theorem dX12_go_274 : decode cX12_go 274 = .ok (.getfield 21, 3) := by decide +kernel
theorem dX12_go_277 : decode cX12_go 277 = .ok (.aload_n 0, 1) := by decide +kernel
theorem dX12_go_278 : decode cX12_go 278 = .ok (.getfield 24, 3) := by decide +kernel
theorem dX12_go_281 : decode cX12_go 281 = .ok (.isub, 1) := by decide +kernel
theorem dX12_go_282 : decode cX12_go 282 = .ok (.bipush 7, 2) := by decide +kernel
theorem dX12_go_284 : decode cX12_go 284 = .ok (.if_icmp .ge 23, 3) := by decide +kernel
theorem dX12_go_287 : decode cX12_go 287 = .ok (.aload_n 0, 1) := by decide +kernel
theorem dX12_go_288 : decode cX12_go 288 = .ok (.ldc2_w 54, 3) := by decide +kernel
theorem dX12_go_291 : decode cX12_go 291 = .ok (.aload_n 0, 1) := by decide +kernel
theorem dX12_go_292 : decode cX12_go 292 = .ok (.getfield 43, 3) := by decide +kernel
theorem dX12_go_295 : decode cX12_go 295 = .ok (.lmul, 1) := by decide +kernel
theorem dX12_go_296 : decode cX12_go 296 = .ok (.iload 4, 2) := by decide +kernel
theorem dX12_go_298 : decode cX12_go 298 = .ok (.i2l, 1) := by decide +kernel
theorem dX12_go_299 : decode cX12_go 299 = .ok (.ladd, 1) := by decide +kernel
theorem dX12_go_300 : decode cX12_go 300 = .ok (.ldc2_w 56, 3) := by decide +kernel
theorem dX12_go_303 : decode cX12_go 303 = .ok (.lsub, 1) := by decide +kernel
theorem dX12_go_304 : decode cX12_go 304 = .ok (.putfield 43, 3) := by decide +kernel
theorem dX12_go_307 : decode cX12_go 307 = .ok (.aload_n 0, 1) := by decide +kernel
theorem dX12_go_308 : decode cX12_go 308 = .ok (.getfield 21, 3) := by decide +kernel
theorem dX12_go_311 : decode cX12_go 311 = .ok (.aload_n 0, 1) := by decide +kernel
theorem dX12_go_312 : decode cX12_go 312 = .ok (.getfield 24, 3) := by decide +kernel
theorem dX12_go_315 : decode cX12_go 315 = .ok (.isub, 1) := by decide +kernel
theorem dX12_go_316 : decode cX12_go 316 = .ok (.iconst 3, 1) := by decide +kernel
theorem dX12_go_317 : decode cX12_go 317 = .ok (.if_icmp .ge 20, 3) := by decide +kernel
theorem dX12_go_320 : decode cX12_go 320 = .ok (.aload_n 0, 1) := by decide +kernel
theorem dX12_go_321 : decode cX12_go 321 = .ok (.bipush 10, 2) := by decide +kernel
theorem dX12_go_323 : decode cX12_go 323 = .ok (.aload_n 0, 1) := by decide +kernel
theorem dX12_go_324 : decode cX12_go 324 = .ok (.getfield 47, 3) := by decide +kernel
theorem dX12_go_327 : decode cX12_go 327 = .ok (.imul, 1) := by decide +kernel
theorem dX12_go_328 : decode cX12_go 328 = .ok (.iload 4, 2) := by decide +kernel
theorem dX12_go_330 : decode cX12_go 330 = .ok (.iadd, 1) := by decide +kernel
theorem dX12_go_331 : decode cX12_go 331 = .ok (.bipush 48, 2) := by decide +kernel
theorem dX12_go_333 : decode cX12_go 333 = .ok (.isub, 1) := by decide +kernel
theorem dX12_go_334 : decode cX12_go 334 = .ok (.putfield 47, 3) := by decide +kernel
theorem dX12_go_337 : decode cX12_go 337 = .ok (.aload_n 0, 1) := by decide +kernel
theorem dX12_go_338 : decode cX12_go 338 = .ok (.dup, 1) := by decide +kernel
theorem dX12_go_339 : decode cX12_go 339 = .ok (.getfield 21, 3) := by decide +kernel
theorem dX12_go_342 : decode cX12_go 342 = .ok (.iconst 1, 1) := by decide +kernel
theorem dX12_go_343 : decode cX12_go 343 = .ok (.iadd, 1) := by decide +kernel
theorem dX12_go_344 : decode cX12_go 344 = .ok (.putfield 21, 3) := by decide +kernel
theorem dX12_go_347 : decode cX12_go 347 = .ok (.goto (-132), 3) := by decide +kernel
theorem dX12_go_350 : decode cX12_go 350 = .ok (.aload_n 0, 1) := by decide +kernel
theorem dX12_go_351 : decode cX12_go 351 = .ok (.iload_n 3, 1) := by decide +kernel
theorem dX12_go_352 : decode cX12_go 352 = .ok (.ifCond .eq 25, 3) := by decide +kernel
theorem dX12_go_355 : decode cX12_go 355 = .ok (.aload_n 0, 1) := by decide +kernel
theorem dX12_go_356 : decode cX12_go 356 = .ok (.getfield 21, 3) := by decide +kernel
theorem dX12_go_359 : decode cX12_go 359 = .ok (.aload_n 0, 1) := by decide +kernel
theorem dX12_go_360 : decode cX12_go 360 = .ok (.getfield 24, 3) := by decide +kernel
theorem dX12_go_363 : decode cX12_go 363 = .ok (.isub, 1) := by decide +kernel
theorem dX12_go_364 : decode cX12_go 364 = .ok (.iload_n 2, 1) := by decide +kernel
theorem dX12_go_365 : decode cX12_go 365 = .ok (.ifCond .eq 8, 3) := by decide +kernel
theorem dX12_go_368 : decode cX12_go 368 = .ok (.bipush 7, 2) := by decide +kernel
theorem dX12_go_370 : decode cX12_go 370 = .ok (.goto 4, 3) := by decide +kernel
theorem dX12_go_373 : decode cX12_go 373 = .ok (.iconst 3, 1) := by decide +kernel
theorem dX12_go_374 : decode cX12_go 374 = .ok (.if_icmp .le 7, 3) := by decide +kernel
theorem dX12_go_377 : decode cX12_go 377 = .ok (.iconst 1, 1) := by decide +kernel
theorem dX12_go_378 : decode cX12_go 378 = .ok (.goto 12, 3) := by decide +kernel
theorem dX12_go_381 : decode cX12_go 381 = .ok (.iload_n 2, 1) := by decide +kernel
theorem dX12_go_382 : decode cX12_go 382 = .ok (.ifCond .eq 7, 3) := by decide +kernel
theorem dX12_go_385 : decode cX12_go 385 = .ok (.iconst 2, 1) := by decide +kernel
theorem dX12_go_386 : decode cX12_go 386 = .ok (.goto 4, 3) := by decide +kernel
theorem dX12_go_389 : decode cX12_go 389 = .ok (.iconst 3, 1) := by decide +kernel
theorem dX12_go_390 : decode cX12_go 390 = .ok (.putfield 30, 3) := by decide +kernel
theorem dX12_go_393 : decode cX12_go 393 = .ok (.return_, 1) := by decide +kernel
theorem dX12_spelt_0 : decode cX12_spelt 0 = .ok (.ldc2_w 54, 3) := by decide +kernel
theorem dX12_spelt_3 : decode cX12_spelt 3 = .ok (.iload_n 0, 1) := by decide +kernel
theorem dX12_spelt_4 : decode cX12_spelt 4 = .ok (.i2l, 1) := by decide +kernel
theorem dX12_spelt_5 : decode cX12_spelt 5 = .ok (.ldc2_w 56, 3) := by decide +kernel
theorem dX12_spelt_8 : decode cX12_spelt 8 = .ok (.lsub, 1) := by decide +kernel
theorem dX12_spelt_9 : decode cX12_spelt 9 = .ok (.lmul, 1) := by decide +kernel
theorem dX12_spelt_10 : decode cX12_spelt 10 = .ok (.iload_n 1, 1) := by decide +kernel
theorem dX12_spelt_11 : decode cX12_spelt 11 = .ok (.i2l, 1) := by decide +kernel
theorem dX12_spelt_12 : decode cX12_spelt 12 = .ok (.ladd, 1) := by decide +kernel
theorem dX12_spelt_13 : decode cX12_spelt 13 = .ok (.ldc2_w 56, 3) := by decide +kernel
theorem dX12_spelt_16 : decode cX12_spelt 16 = .ok (.lsub, 1) := by decide +kernel
theorem dX12_spelt_17 : decode cX12_spelt 17 = .ok (.lstore 6, 2) := by decide +kernel
theorem dX12_spelt_19 : decode cX12_spelt 19 = .ok (.iload_n 2, 1) := by decide +kernel
theorem dX12_spelt_20 : decode cX12_spelt 20 = .ok (.ifCond .le 18, 3) := by decide +kernel
theorem dX12_spelt_23 : decode cX12_spelt 23 = .ok (.ldc2_w 54, 3) := by decide +kernel
theorem dX12_spelt_26 : decode cX12_spelt 26 = .ok (.lload 6, 2) := by decide +kernel
theorem dX12_spelt_28 : decode cX12_spelt 28 = .ok (.lmul, 1) := by decide +kernel
theorem dX12_spelt_29 : decode cX12_spelt 29 = .ok (.iload_n 2, 1) := by decide +kernel
theorem dX12_spelt_30 : decode cX12_spelt 30 = .ok (.i2l, 1) := by decide +kernel
theorem dX12_spelt_31 : decode cX12_spelt 31 = .ok (.ladd, 1) := by decide +kernel
theorem dX12_spelt_32 : decode cX12_spelt 32 = .ok (.ldc2_w 56, 3) := by decide +kernel
theorem dX12_spelt_35 : decode cX12_spelt 35 = .ok (.lsub, 1) := by decide +kernel
theorem dX12_spelt_36 : decode cX12_spelt 36 = .ok (.lstore 6, 2) := by decide +kernel
theorem dX12_spelt_38 : decode cX12_spelt 38 = .ok (.iload_n 3, 1) := by decide +kernel
theorem dX12_spelt_39 : decode cX12_spelt 39 = .ok (.ifCond .le 18, 3) := by decide +kernel
theorem dX12_spelt_42 : decode cX12_spelt 42 = .ok (.ldc2_w 54, 3) := by decide +kernel
theorem dX12_spelt_45 : decode cX12_spelt 45 = .ok (.lload 6, 2) := by decide +kernel
theorem dX12_spelt_47 : decode cX12_spelt 47 = .ok (.lmul, 1) := by decide +kernel
theorem dX12_spelt_48 : decode cX12_spelt 48 = .ok (.iload_n 3, 1) := by decide +kernel
theorem dX12_spelt_49 : decode cX12_spelt 49 = .ok (.i2l, 1) := by decide +kernel
theorem dX12_spelt_50 : decode cX12_spelt 50 = .ok (.ladd, 1) := by decide +kernel
theorem dX12_spelt_51 : decode cX12_spelt 51 = .ok (.ldc2_w 56, 3) := by decide +kernel
theorem dX12_spelt_54 : decode cX12_spelt 54 = .ok (.lsub, 1) := by decide +kernel
theorem dX12_spelt_55 : decode cX12_spelt 55 = .ok (.lstore 6, 2) := by decide +kernel
theorem dX12_spelt_57 : decode cX12_spelt 57 = .ok (.iload 4, 2) := by decide +kernel
theorem dX12_spelt_59 : decode cX12_spelt 59 = .ok (.ifCond .le 19, 3) := by decide +kernel
theorem dX12_spelt_62 : decode cX12_spelt 62 = .ok (.ldc2_w 54, 3) := by decide +kernel
theorem dX12_spelt_65 : decode cX12_spelt 65 = .ok (.lload 6, 2) := by decide +kernel
theorem dX12_spelt_67 : decode cX12_spelt 67 = .ok (.lmul, 1) := by decide +kernel
theorem dX12_spelt_68 : decode cX12_spelt 68 = .ok (.iload 4, 2) := by decide +kernel
theorem dX12_spelt_70 : decode cX12_spelt 70 = .ok (.i2l, 1) := by decide +kernel
theorem dX12_spelt_71 : decode cX12_spelt 71 = .ok (.ladd, 1) := by decide +kernel
theorem dX12_spelt_72 : decode cX12_spelt 72 = .ok (.ldc2_w 56, 3) := by decide +kernel
theorem dX12_spelt_75 : decode cX12_spelt 75 = .ok (.lsub, 1) := by decide +kernel
theorem dX12_spelt_76 : decode cX12_spelt 76 = .ok (.lstore 6, 2) := by decide +kernel
theorem dX12_spelt_78 : decode cX12_spelt 78 = .ok (.iload 5, 2) := by decide +kernel
theorem dX12_spelt_80 : decode cX12_spelt 80 = .ok (.ifCond .le 19, 3) := by decide +kernel
theorem dX12_spelt_83 : decode cX12_spelt 83 = .ok (.ldc2_w 54, 3) := by decide +kernel
theorem dX12_spelt_86 : decode cX12_spelt 86 = .ok (.lload 6, 2) := by decide +kernel
theorem dX12_spelt_88 : decode cX12_spelt 88 = .ok (.lmul, 1) := by decide +kernel
theorem dX12_spelt_89 : decode cX12_spelt 89 = .ok (.iload 5, 2) := by decide +kernel
theorem dX12_spelt_91 : decode cX12_spelt 91 = .ok (.i2l, 1) := by decide +kernel
theorem dX12_spelt_92 : decode cX12_spelt 92 = .ok (.ladd, 1) := by decide +kernel
theorem dX12_spelt_93 : decode cX12_spelt 93 = .ok (.ldc2_w 56, 3) := by decide +kernel
theorem dX12_spelt_96 : decode cX12_spelt 96 = .ok (.lsub, 1) := by decide +kernel
theorem dX12_spelt_97 : decode cX12_spelt 97 = .ok (.lstore 6, 2) := by decide +kernel
theorem dX12_spelt_99 : decode cX12_spelt 99 = .ok (.lload 6, 2) := by decide +kernel
theorem dX12_spelt_101 : decode cX12_spelt 101 = .ok (.lreturn, 1) := by decide +kernel
theorem dX12_wordOf_0 : decode cX12_wordOf 0 = .ok (.iload_n 0, 1) := by decide +kernel
theorem dX12_wordOf_1 : decode cX12_wordOf 1 = .ok (.tableswitch 394 0 20 #[99, 112, 124, 138, 152, 167, 180, 194, 208, 222, 236, 250, 262, 275, 288, 304, 319, 333, 348, 364, 379], 99) := by decide +kernel
theorem dX12_wordOf_100 : decode cX12_wordOf 100 = .ok (.bipush 102, 2) := by decide +kernel
theorem dX12_wordOf_102 : decode cX12_wordOf 102 = .ok (.bipush 117, 2) := by decide +kernel
theorem dX12_wordOf_104 : decode cX12_wordOf 104 = .ok (.bipush 110, 2) := by decide +kernel
theorem dX12_wordOf_106 : decode cX12_wordOf 106 = .ok (.iconst 0, 1) := by decide +kernel
theorem dX12_wordOf_107 : decode cX12_wordOf 107 = .ok (.iconst 0, 1) := by decide +kernel
theorem dX12_wordOf_108 : decode cX12_wordOf 108 = .ok (.iconst 0, 1) := by decide +kernel
theorem dX12_wordOf_109 : decode cX12_wordOf 109 = .ok (.invokestatic 58, 3) := by decide +kernel
theorem dX12_wordOf_112 : decode cX12_wordOf 112 = .ok (.lreturn, 1) := by decide +kernel
theorem dX12_wordOf_113 : decode cX12_wordOf 113 = .ok (.bipush 105, 2) := by decide +kernel
theorem dX12_wordOf_115 : decode cX12_wordOf 115 = .ok (.bipush 115, 2) := by decide +kernel
theorem dX12_wordOf_117 : decode cX12_wordOf 117 = .ok (.iconst 0, 1) := by decide +kernel
theorem dX12_wordOf_118 : decode cX12_wordOf 118 = .ok (.iconst 0, 1) := by decide +kernel
theorem dX12_wordOf_119 : decode cX12_wordOf 119 = .ok (.iconst 0, 1) := by decide +kernel
theorem dX12_wordOf_120 : decode cX12_wordOf 120 = .ok (.iconst 0, 1) := by decide +kernel
theorem dX12_wordOf_121 : decode cX12_wordOf 121 = .ok (.invokestatic 58, 3) := by decide +kernel
theorem dX12_wordOf_124 : decode cX12_wordOf 124 = .ok (.lreturn, 1) := by decide +kernel
theorem dX12_wordOf_125 : decode cX12_wordOf 125 = .ok (.bipush 112, 2) := by decide +kernel
theorem dX12_wordOf_127 : decode cX12_wordOf 127 = .ok (.bipush 97, 2) := by decide +kernel
theorem dX12_wordOf_129 : decode cX12_wordOf 129 = .ok (.bipush 105, 2) := by decide +kernel
theorem dX12_wordOf_131 : decode cX12_wordOf 131 = .ok (.bipush 114, 2) := by decide +kernel
theorem dX12_wordOf_133 : decode cX12_wordOf 133 = .ok (.iconst 0, 1) := by decide +kernel
theorem dX12_wordOf_134 : decode cX12_wordOf 134 = .ok (.iconst 0, 1) := by decide +kernel
theorem dX12_wordOf_135 : decode cX12_wordOf 135 = .ok (.invokestatic 58, 3) := by decide +kernel
theorem dX12_wordOf_138 : decode cX12_wordOf 138 = .ok (.lreturn, 1) := by decide +kernel
theorem dX12_wordOf_139 : decode cX12_wordOf 139 = .ok (.bipush 108, 2) := by decide +kernel
theorem dX12_wordOf_141 : decode cX12_wordOf 141 = .ok (.bipush 101, 2) := by decide +kernel
theorem dX12_wordOf_143 : decode cX12_wordOf 143 = .ok (.bipush 102, 2) := by decide +kernel
theorem dX12_wordOf_145 : decode cX12_wordOf 145 = .ok (.bipush 116, 2) := by decide +kernel
theorem dX12_wordOf_147 : decode cX12_wordOf 147 = .ok (.iconst 0, 1) := by decide +kernel
theorem dX12_wordOf_148 : decode cX12_wordOf 148 = .ok (.iconst 0, 1) := by decide +kernel
theorem dX12_wordOf_149 : decode cX12_wordOf 149 = .ok (.invokestatic 58, 3) := by decide +kernel
theorem dX12_wordOf_152 : decode cX12_wordOf 152 = .ok (.lreturn, 1) := by decide +kernel
theorem dX12_wordOf_153 : decode cX12_wordOf 153 = .ok (.bipush 114, 2) := by decide +kernel
theorem dX12_wordOf_155 : decode cX12_wordOf 155 = .ok (.bipush 105, 2) := by decide +kernel
theorem dX12_wordOf_157 : decode cX12_wordOf 157 = .ok (.bipush 103, 2) := by decide +kernel
theorem dX12_wordOf_159 : decode cX12_wordOf 159 = .ok (.bipush 104, 2) := by decide +kernel
theorem dX12_wordOf_161 : decode cX12_wordOf 161 = .ok (.bipush 116, 2) := by decide +kernel
theorem dX12_wordOf_163 : decode cX12_wordOf 163 = .ok (.iconst 0, 1) := by decide +kernel
theorem dX12_wordOf_164 : decode cX12_wordOf 164 = .ok (.invokestatic 58, 3) := by decide +kernel
theorem dX12_wordOf_167 : decode cX12_wordOf 167 = .ok (.lreturn, 1) := by decide +kernel
theorem dX12_wordOf_168 : decode cX12_wordOf 168 = .ok (.bipush 115, 2) := by decide +kernel
theorem dX12_wordOf_170 : decode cX12_wordOf 170 = .ok (.bipush 117, 2) := by decide +kernel
theorem dX12_wordOf_172 : decode cX12_wordOf 172 = .ok (.bipush 109, 2) := by decide +kernel
theorem dX12_wordOf_174 : decode cX12_wordOf 174 = .ok (.iconst 0, 1) := by decide +kernel
theorem dX12_wordOf_175 : decode cX12_wordOf 175 = .ok (.iconst 0, 1) := by decide +kernel
theorem dX12_wordOf_176 : decode cX12_wordOf 176 = .ok (.iconst 0, 1) := by decide +kernel
theorem dX12_wordOf_177 : decode cX12_wordOf 177 = .ok (.invokestatic 58, 3) := by decide +kernel
theorem dX12_wordOf_180 : decode cX12_wordOf 180 = .ok (.lreturn, 1) := by decide +kernel
theorem dX12_wordOf_181 : decode cX12_wordOf 181 = .ok (.bipush 108, 2) := by decide +kernel
theorem dX12_wordOf_183 : decode cX12_wordOf 183 = .ok (.bipush 101, 2) := by decide +kernel
theorem dX12_wordOf_185 : decode cX12_wordOf 185 = .ok (.bipush 115, 2) := by decide +kernel
theorem dX12_wordOf_187 : decode cX12_wordOf 187 = .ok (.bipush 115, 2) := by decide +kernel
theorem dX12_wordOf_189 : decode cX12_wordOf 189 = .ok (.iconst 0, 1) := by decide +kernel
theorem dX12_wordOf_190 : decode cX12_wordOf 190 = .ok (.iconst 0, 1) := by decide +kernel
theorem dX12_wordOf_191 : decode cX12_wordOf 191 = .ok (.invokestatic 58, 3) := by decide +kernel
theorem dX12_wordOf_194 : decode cX12_wordOf 194 = .ok (.lreturn, 1) := by decide +kernel
theorem dX12_wordOf_195 : decode cX12_wordOf 195 = .ok (.bipush 112, 2) := by decide +kernel
theorem dX12_wordOf_197 : decode cX12_wordOf 197 = .ok (.bipush 105, 2) := by decide +kernel
theorem dX12_wordOf_199 : decode cX12_wordOf 199 = .ok (.bipush 99, 2) := by decide +kernel
theorem dX12_wordOf_201 : decode cX12_wordOf 201 = .ok (.bipush 107, 2) := by decide +kernel
theorem dX12_wordOf_203 : decode cX12_wordOf 203 = .ok (.iconst 0, 1) := by decide +kernel
theorem dX12_wordOf_204 : decode cX12_wordOf 204 = .ok (.iconst 0, 1) := by decide +kernel
theorem dX12_wordOf_205 : decode cX12_wordOf 205 = .ok (.invokestatic 58, 3) := by decide +kernel
theorem dX12_wordOf_208 : decode cX12_wordOf 208 = .ok (.lreturn, 1) := by decide +kernel
theorem dX12_wordOf_209 : decode cX12_wordOf 209 = .ok (.bipush 99, 2) := by decide +kernel
theorem dX12_wordOf_211 : decode cX12_wordOf 211 = .ok (.bipush 97, 2) := by decide +kernel
theorem dX12_wordOf_213 : decode cX12_wordOf 213 = .ok (.bipush 108, 2) := by decide +kernel
theorem dX12_wordOf_215 : decode cX12_wordOf 215 = .ok (.bipush 108, 2) := by decide +kernel
theorem dX12_wordOf_217 : decode cX12_wordOf 217 = .ok (.iconst 0, 1) := by decide +kernel
theorem dX12_wordOf_218 : decode cX12_wordOf 218 = .ok (.iconst 0, 1) := by decide +kernel
theorem dX12_wordOf_219 : decode cX12_wordOf 219 = .ok (.invokestatic 58, 3) := by decide +kernel
theorem dX12_wordOf_222 : decode cX12_wordOf 222 = .ok (.lreturn, 1) := by decide +kernel
theorem dX12_wordOf_223 : decode cX12_wordOf 223 = .ok (.bipush 119, 2) := by decide +kernel
theorem dX12_wordOf_225 : decode cX12_wordOf 225 = .ok (.bipush 104, 2) := by decide +kernel
theorem dX12_wordOf_227 : decode cX12_wordOf 227 = .ok (.bipush 101, 2) := by decide +kernel
theorem dX12_wordOf_229 : decode cX12_wordOf 229 = .ok (.bipush 110, 2) := by decide +kernel
theorem dX12_wordOf_231 : decode cX12_wordOf 231 = .ok (.iconst 0, 1) := by decide +kernel
theorem dX12_wordOf_232 : decode cX12_wordOf 232 = .ok (.iconst 0, 1) := by decide +kernel
theorem dX12_wordOf_233 : decode cX12_wordOf 233 = .ok (.invokestatic 58, 3) := by decide +kernel
theorem dX12_wordOf_236 : decode cX12_wordOf 236 = .ok (.lreturn, 1) := by decide +kernel
theorem dX12_wordOf_237 : decode cX12_wordOf 237 = .ok (.bipush 101, 2) := by decide +kernel
theorem dX12_wordOf_239 : decode cX12_wordOf 239 = .ok (.bipush 108, 2) := by decide +kernel
theorem dX12_wordOf_241 : decode cX12_wordOf 241 = .ok (.bipush 115, 2) := by decide +kernel
theorem dX12_wordOf_243 : decode cX12_wordOf 243 = .ok (.bipush 101, 2) := by decide +kernel
theorem dX12_wordOf_245 : decode cX12_wordOf 245 = .ok (.iconst 0, 1) := by decide +kernel
theorem dX12_wordOf_246 : decode cX12_wordOf 246 = .ok (.iconst 0, 1) := by decide +kernel
theorem dX12_wordOf_247 : decode cX12_wordOf 247 = .ok (.invokestatic 58, 3) := by decide +kernel
theorem dX12_wordOf_250 : decode cX12_wordOf 250 = .ok (.lreturn, 1) := by decide +kernel
theorem dX12_wordOf_251 : decode cX12_wordOf 251 = .ok (.bipush 111, 2) := by decide +kernel
theorem dX12_wordOf_253 : decode cX12_wordOf 253 = .ok (.bipush 114, 2) := by decide +kernel
theorem dX12_wordOf_255 : decode cX12_wordOf 255 = .ok (.iconst 0, 1) := by decide +kernel
theorem dX12_wordOf_256 : decode cX12_wordOf 256 = .ok (.iconst 0, 1) := by decide +kernel
theorem dX12_wordOf_257 : decode cX12_wordOf 257 = .ok (.iconst 0, 1) := by decide +kernel
theorem dX12_wordOf_258 : decode cX12_wordOf 258 = .ok (.iconst 0, 1) := by decide +kernel
theorem dX12_wordOf_259 : decode cX12_wordOf 259 = .ok (.invokestatic 58, 3) := by decide +kernel
theorem dX12_wordOf_262 : decode cX12_wordOf 262 = .ok (.lreturn, 1) := by decide +kernel
theorem dX12_wordOf_263 : decode cX12_wordOf 263 = .ok (.bipush 97, 2) := by decide +kernel
theorem dX12_wordOf_265 : decode cX12_wordOf 265 = .ok (.bipush 110, 2) := by decide +kernel
theorem dX12_wordOf_267 : decode cX12_wordOf 267 = .ok (.bipush 100, 2) := by decide +kernel
theorem dX12_wordOf_269 : decode cX12_wordOf 269 = .ok (.iconst 0, 1) := by decide +kernel
theorem dX12_wordOf_270 : decode cX12_wordOf 270 = .ok (.iconst 0, 1) := by decide +kernel
theorem dX12_wordOf_271 : decode cX12_wordOf 271 = .ok (.iconst 0, 1) := by decide +kernel
theorem dX12_wordOf_272 : decode cX12_wordOf 272 = .ok (.invokestatic 58, 3) := by decide +kernel
theorem dX12_wordOf_275 : decode cX12_wordOf 275 = .ok (.lreturn, 1) := by decide +kernel
theorem dX12_wordOf_276 : decode cX12_wordOf 276 = .ok (.bipush 110, 2) := by decide +kernel
theorem dX12_wordOf_278 : decode cX12_wordOf 278 = .ok (.bipush 111, 2) := by decide +kernel
theorem dX12_wordOf_280 : decode cX12_wordOf 280 = .ok (.bipush 116, 2) := by decide +kernel
theorem dX12_wordOf_282 : decode cX12_wordOf 282 = .ok (.iconst 0, 1) := by decide +kernel
theorem dX12_wordOf_283 : decode cX12_wordOf 283 = .ok (.iconst 0, 1) := by decide +kernel
theorem dX12_wordOf_284 : decode cX12_wordOf 284 = .ok (.iconst 0, 1) := by decide +kernel
theorem dX12_wordOf_285 : decode cX12_wordOf 285 = .ok (.invokestatic 58, 3) := by decide +kernel
theorem dX12_wordOf_288 : decode cX12_wordOf 288 = .ok (.lreturn, 1) := by decide +kernel
theorem dX12_wordOf_289 : decode cX12_wordOf 289 = .ok (.bipush 102, 2) := by decide +kernel
theorem dX12_wordOf_291 : decode cX12_wordOf 291 = .ok (.bipush 105, 2) := by decide +kernel
theorem dX12_wordOf_293 : decode cX12_wordOf 293 = .ok (.bipush 110, 2) := by decide +kernel
theorem dX12_wordOf_295 : decode cX12_wordOf 295 = .ok (.bipush 105, 2) := by decide +kernel
theorem dX12_wordOf_297 : decode cX12_wordOf 297 = .ok (.bipush 116, 2) := by decide +kernel
theorem dX12_wordOf_299 : decode cX12_wordOf 299 = .ok (.bipush 101, 2) := by decide +kernel
theorem dX12_wordOf_301 : decode cX12_wordOf 301 = .ok (.invokestatic 58, 3) := by decide +kernel
theorem dX12_wordOf_304 : decode cX12_wordOf 304 = .ok (.lreturn, 1) := by decide +kernel
theorem dX12_wordOf_305 : decode cX12_wordOf 305 = .ok (.bipush 111, 2) := by decide +kernel
theorem dX12_wordOf_307 : decode cX12_wordOf 307 = .ok (.bipush 117, 2) := by decide +kernel
theorem dX12_wordOf_309 : decode cX12_wordOf 309 = .ok (.bipush 116, 2) := by decide +kernel
theorem dX12_wordOf_311 : decode cX12_wordOf 311 = .ok (.bipush 101, 2) := by decide +kernel
theorem dX12_wordOf_313 : decode cX12_wordOf 313 = .ok (.bipush 114, 2) := by decide +kernel
theorem dX12_wordOf_315 : decode cX12_wordOf 315 = .ok (.iconst 0, 1) := by decide +kernel
theorem dX12_wordOf_316 : decode cX12_wordOf 316 = .ok (.invokestatic 58, 3) := by decide +kernel
theorem dX12_wordOf_319 : decode cX12_wordOf 319 = .ok (.lreturn, 1) := by decide +kernel
theorem dX12_wordOf_320 : decode cX12_wordOf 320 = .ok (.bipush 108, 2) := by decide +kernel
theorem dX12_wordOf_322 : decode cX12_wordOf 322 = .ok (.bipush 105, 2) := by decide +kernel
theorem dX12_wordOf_324 : decode cX12_wordOf 324 = .ok (.bipush 118, 2) := by decide +kernel
theorem dX12_wordOf_326 : decode cX12_wordOf 326 = .ok (.bipush 101, 2) := by decide +kernel
theorem dX12_wordOf_328 : decode cX12_wordOf 328 = .ok (.iconst 0, 1) := by decide +kernel
theorem dX12_wordOf_329 : decode cX12_wordOf 329 = .ok (.iconst 0, 1) := by decide +kernel
theorem dX12_wordOf_330 : decode cX12_wordOf 330 = .ok (.invokestatic 58, 3) := by decide +kernel
theorem dX12_wordOf_333 : decode cX12_wordOf 333 = .ok (.lreturn, 1) := by decide +kernel
theorem dX12_wordOf_334 : decode cX12_wordOf 334 = .ok (.bipush 111, 2) := by decide +kernel
theorem dX12_wordOf_336 : decode cX12_wordOf 336 = .ok (.bipush 119, 2) := by decide +kernel
theorem dX12_wordOf_338 : decode cX12_wordOf 338 = .ok (.bipush 110, 2) := by decide +kernel
theorem dX12_wordOf_340 : decode cX12_wordOf 340 = .ok (.bipush 101, 2) := by decide +kernel
theorem dX12_wordOf_342 : decode cX12_wordOf 342 = .ok (.bipush 100, 2) := by decide +kernel
theorem dX12_wordOf_344 : decode cX12_wordOf 344 = .ok (.iconst 0, 1) := by decide +kernel
theorem dX12_wordOf_345 : decode cX12_wordOf 345 = .ok (.invokestatic 58, 3) := by decide +kernel
theorem dX12_wordOf_348 : decode cX12_wordOf 348 = .ok (.lreturn, 1) := by decide +kernel
theorem dX12_wordOf_349 : decode cX12_wordOf 349 = .ok (.bipush 102, 2) := by decide +kernel
theorem dX12_wordOf_351 : decode cX12_wordOf 351 = .ok (.bipush 105, 2) := by decide +kernel
theorem dX12_wordOf_353 : decode cX12_wordOf 353 = .ok (.bipush 108, 2) := by decide +kernel
theorem dX12_wordOf_355 : decode cX12_wordOf 355 = .ok (.bipush 108, 2) := by decide +kernel
theorem dX12_wordOf_357 : decode cX12_wordOf 357 = .ok (.bipush 101, 2) := by decide +kernel
theorem dX12_wordOf_359 : decode cX12_wordOf 359 = .ok (.bipush 100, 2) := by decide +kernel
theorem dX12_wordOf_361 : decode cX12_wordOf 361 = .ok (.invokestatic 58, 3) := by decide +kernel
theorem dX12_wordOf_364 : decode cX12_wordOf 364 = .ok (.lreturn, 1) := by decide +kernel
theorem dX12_wordOf_365 : decode cX12_wordOf 365 = .ok (.bipush 99, 2) := by decide +kernel
theorem dX12_wordOf_367 : decode cX12_wordOf 367 = .ok (.bipush 101, 2) := by decide +kernel
theorem dX12_wordOf_369 : decode cX12_wordOf 369 = .ok (.bipush 108, 2) := by decide +kernel
theorem dX12_wordOf_371 : decode cX12_wordOf 371 = .ok (.bipush 108, 2) := by decide +kernel
theorem dX12_wordOf_373 : decode cX12_wordOf 373 = .ok (.bipush 115, 2) := by decide +kernel
theorem dX12_wordOf_375 : decode cX12_wordOf 375 = .ok (.iconst 0, 1) := by decide +kernel
theorem dX12_wordOf_376 : decode cX12_wordOf 376 = .ok (.invokestatic 58, 3) := by decide +kernel
theorem dX12_wordOf_379 : decode cX12_wordOf 379 = .ok (.lreturn, 1) := by decide +kernel
theorem dX12_wordOf_380 : decode cX12_wordOf 380 = .ok (.bipush 114, 2) := by decide +kernel
theorem dX12_wordOf_382 : decode cX12_wordOf 382 = .ok (.bipush 111, 2) := by decide +kernel
theorem dX12_wordOf_384 : decode cX12_wordOf 384 = .ok (.bipush 111, 2) := by decide +kernel
theorem dX12_wordOf_386 : decode cX12_wordOf 386 = .ok (.bipush 109, 2) := by decide +kernel
theorem dX12_wordOf_388 : decode cX12_wordOf 388 = .ok (.bipush 115, 2) := by decide +kernel
theorem dX12_wordOf_390 : decode cX12_wordOf 390 = .ok (.iconst 0, 1) := by decide +kernel
theorem dX12_wordOf_391 : decode cX12_wordOf 391 = .ok (.invokestatic 58, 3) := by decide +kernel
theorem dX12_wordOf_394 : decode cX12_wordOf 394 = .ok (.lreturn, 1) := by decide +kernel
theorem dX12_wordOf_395 : decode cX12_wordOf 395 = .ok (.bipush 110, 2) := by decide +kernel
theorem dX12_wordOf_397 : decode cX12_wordOf 397 = .ok (.bipush 117, 2) := by decide +kernel
theorem dX12_wordOf_399 : decode cX12_wordOf 399 = .ok (.bipush 109, 2) := by decide +kernel
theorem dX12_wordOf_401 : decode cX12_wordOf 401 = .ok (.bipush 98, 2) := by decide +kernel
theorem dX12_wordOf_403 : decode cX12_wordOf 403 = .ok (.bipush 101, 2) := by decide +kernel
theorem dX12_wordOf_405 : decode cX12_wordOf 405 = .ok (.bipush 114, 2) := by decide +kernel
theorem dX12_wordOf_407 : decode cX12_wordOf 407 = .ok (.invokestatic 58, 3) := by decide +kernel
theorem dX12_wordOf_410 : decode cX12_wordOf 410 = .ok (.lreturn, 1) := by decide +kernel
theorem dX12_isWord_0 : decode cX12_isWord 0 = .ok (.aload_n 0, 1) := by decide +kernel
theorem dX12_isWord_1 : decode cX12_isWord 1 = .ok (.getfield 30, 3) := by decide +kernel
theorem dX12_isWord_4 : decode cX12_isWord 4 = .ok (.iconst 2, 1) := by decide +kernel
theorem dX12_isWord_5 : decode cX12_isWord 5 = .ok (.if_icmp .ne 19, 3) := by decide +kernel
theorem dX12_isWord_8 : decode cX12_isWord 8 = .ok (.aload_n 0, 1) := by decide +kernel
theorem dX12_isWord_9 : decode cX12_isWord 9 = .ok (.getfield 43, 3) := by decide +kernel
theorem dX12_isWord_12 : decode cX12_isWord 12 = .ok (.iload_n 1, 1) := by decide +kernel
theorem dX12_isWord_13 : decode cX12_isWord 13 = .ok (.invokestatic 62, 3) := by decide +kernel
theorem dX12_isWord_16 : decode cX12_isWord 16 = .ok (.lcmp, 1) := by decide +kernel
theorem dX12_isWord_17 : decode cX12_isWord 17 = .ok (.ifCond .ne 7, 3) := by decide +kernel
theorem dX12_isWord_20 : decode cX12_isWord 20 = .ok (.iconst 1, 1) := by decide +kernel
theorem dX12_isWord_21 : decode cX12_isWord 21 = .ok (.goto 4, 3) := by decide +kernel
theorem dX12_isWord_24 : decode cX12_isWord 24 = .ok (.iconst 0, 1) := by decide +kernel
theorem dX12_isWord_25 : decode cX12_isWord 25 = .ok (.ireturn, 1) := by decide +kernel
theorem dX12_isSign_0 : decode cX12_isSign 0 = .ok (.aload_n 0, 1) := by decide +kernel
theorem dX12_isSign_1 : decode cX12_isSign 1 = .ok (.getfield 30, 3) := by decide +kernel
theorem dX12_isSign_4 : decode cX12_isSign 4 = .ok (.iconst 4, 1) := by decide +kernel
theorem dX12_isSign_5 : decode cX12_isSign 5 = .ok (.if_icmp .ne 15, 3) := by decide +kernel
theorem dX12_isSign_8 : decode cX12_isSign 8 = .ok (.aload_n 0, 1) := by decide +kernel
theorem dX12_isSign_9 : decode cX12_isSign 9 = .ok (.getfield 40, 3) := by decide +kernel
theorem dX12_isSign_12 : decode cX12_isSign 12 = .ok (.iload_n 1, 1) := by decide +kernel
theorem dX12_isSign_13 : decode cX12_isSign 13 = .ok (.if_icmp .ne 7, 3) := by decide +kernel
theorem dX12_isSign_16 : decode cX12_isSign 16 = .ok (.iconst 1, 1) := by decide +kernel
theorem dX12_isSign_17 : decode cX12_isSign 17 = .ok (.goto 4, 3) := by decide +kernel
theorem dX12_isSign_20 : decode cX12_isSign 20 = .ok (.iconst 0, 1) := by decide +kernel
theorem dX12_isSign_21 : decode cX12_isSign 21 = .ok (.ireturn, 1) := by decide +kernel
theorem dX12_isName_0 : decode cX12_isName 0 = .ok (.aload_n 0, 1) := by decide +kernel
theorem dX12_isName_1 : decode cX12_isName 1 = .ok (.getfield 30, 3) := by decide +kernel
theorem dX12_isName_4 : decode cX12_isName 4 = .ok (.iconst 2, 1) := by decide +kernel
theorem dX12_isName_5 : decode cX12_isName 5 = .ok (.if_icmp .eq 5, 3) := by decide +kernel
theorem dX12_isName_8 : decode cX12_isName 8 = .ok (.iconst 0, 1) := by decide +kernel
theorem dX12_isName_9 : decode cX12_isName 9 = .ok (.ireturn, 1) := by decide +kernel
theorem dX12_isName_10 : decode cX12_isName 10 = .ok (.iconst 0, 1) := by decide +kernel
theorem dX12_isName_11 : decode cX12_isName 11 = .ok (.istore_n 1, 1) := by decide +kernel
theorem dX12_isName_12 : decode cX12_isName 12 = .ok (.iload_n 1, 1) := by decide +kernel
theorem dX12_isName_13 : decode cX12_isName 13 = .ok (.bipush 21, 2) := by decide +kernel
theorem dX12_isName_15 : decode cX12_isName 15 = .ok (.if_icmp .gt 23, 3) := by decide +kernel
theorem dX12_isName_18 : decode cX12_isName 18 = .ok (.aload_n 0, 1) := by decide +kernel
theorem dX12_isName_19 : decode cX12_isName 19 = .ok (.getfield 43, 3) := by decide +kernel
theorem dX12_isName_22 : decode cX12_isName 22 = .ok (.iload_n 1, 1) := by decide +kernel
theorem dX12_isName_23 : decode cX12_isName 23 = .ok (.invokestatic 62, 3) := by decide +kernel
theorem dX12_isName_26 : decode cX12_isName 26 = .ok (.lcmp, 1) := by decide +kernel
theorem dX12_isName_27 : decode cX12_isName 27 = .ok (.ifCond .ne 5, 3) := by decide +kernel
theorem dX12_isName_30 : decode cX12_isName 30 = .ok (.iconst 0, 1) := by decide +kernel
theorem dX12_isName_31 : decode cX12_isName 31 = .ok (.ireturn, 1) := by decide +kernel
theorem dX12_isName_32 : decode cX12_isName 32 = .ok (.iinc 1 1, 3) := by decide +kernel
theorem dX12_isName_35 : decode cX12_isName 35 = .ok (.goto (-23), 3) := by decide +kernel
theorem dX12_isName_38 : decode cX12_isName 38 = .ok (.iconst 1, 1) := by decide +kernel
theorem dX12_isName_39 : decode cX12_isName 39 = .ok (.ireturn, 1) := by decide +kernel
theorem dX12_bad_0 : decode cX12_bad 0 = .ok (.aload_n 0, 1) := by decide +kernel
theorem dX12_bad_1 : decode cX12_bad 1 = .ok (.aload_n 0, 1) := by decide +kernel
theorem dX12_bad_2 : decode cX12_bad 2 = .ok (.getfield 30, 3) := by decide +kernel
theorem dX12_bad_5 : decode cX12_bad 5 = .ok (.iconst 1, 1) := by decide +kernel
theorem dX12_bad_6 : decode cX12_bad 6 = .ok (.if_icmp .ne 7, 3) := by decide +kernel
theorem dX12_bad_9 : decode cX12_bad 9 = .ok (.iconst 1, 1) := by decide +kernel
theorem dX12_bad_10 : decode cX12_bad 10 = .ok (.goto 4, 3) := by decide +kernel
theorem dX12_bad_13 : decode cX12_bad 13 = .ok (.iload_n 1, 1) := by decide +kernel
theorem dX12_bad_14 : decode cX12_bad 14 = .ok (.putfield 66, 3) := by decide +kernel
theorem dX12_bad_17 : decode cX12_bad 17 = .ok (.aload_n 0, 1) := by decide +kernel
theorem dX12_bad_18 : decode cX12_bad 18 = .ok (.aload_n 0, 1) := by decide +kernel
theorem dX12_bad_19 : decode cX12_bad 19 = .ok (.getfield 24, 3) := by decide +kernel
theorem dX12_bad_22 : decode cX12_bad 22 = .ok (.putfield 69, 3) := by decide +kernel
theorem dX12_bad_25 : decode cX12_bad 25 = .ok (.iconst 0, 1) := by decide +kernel
theorem dX12_bad_26 : decode cX12_bad 26 = .ok (.ireturn, 1) := by decide +kernel
theorem dX12_readNumber_0 : decode cX12_readNumber 0 = .ok (.aload_n 0, 1) := by decide +kernel
theorem dX12_readNumber_1 : decode cX12_readNumber 1 = .ok (.getfield 30, 3) := by decide +kernel
theorem dX12_readNumber_4 : decode cX12_readNumber 4 = .ok (.iconst 3, 1) := by decide +kernel
theorem dX12_readNumber_5 : decode cX12_readNumber 5 = .ok (.if_icmp .eq 9, 3) := by decide +kernel
theorem dX12_readNumber_8 : decode cX12_readNumber 8 = .ok (.aload_n 0, 1) := by decide +kernel
theorem dX12_readNumber_9 : decode cX12_readNumber 9 = .ok (.iconst 1, 1) := by decide +kernel
theorem dX12_readNumber_10 : decode cX12_readNumber 10 = .ok (.invokevirtual 72, 3) := by decide +kernel
theorem dX12_readNumber_13 : decode cX12_readNumber 13 = .ok (.ireturn, 1) := by decide +kernel
theorem dX12_readNumber_14 : decode cX12_readNumber 14 = .ok (.aload_n 0, 1) := by decide +kernel
theorem dX12_readNumber_15 : decode cX12_readNumber 15 = .ok (.getfield 47, 3) := by decide +kernel
theorem dX12_readNumber_18 : decode cX12_readNumber 18 = .ok (.iload_n 1, 1) := by decide +kernel
theorem dX12_readNumber_19 : decode cX12_readNumber 19 = .ok (.iload_n 2, 1) := by decide +kernel
theorem dX12_readNumber_20 : decode cX12_readNumber 20 = .ok (.invokestatic 75, 3) := by decide +kernel
theorem dX12_readNumber_23 : decode cX12_readNumber 23 = .ok (.ifCond .ne 9, 3) := by decide +kernel
theorem dX12_readNumber_26 : decode cX12_readNumber 26 = .ok (.aload_n 0, 1) := by decide +kernel
theorem dX12_readNumber_27 : decode cX12_readNumber 27 = .ok (.iconst 2, 1) := by decide +kernel
theorem dX12_readNumber_28 : decode cX12_readNumber 28 = .ok (.invokevirtual 72, 3) := by decide +kernel
theorem dX12_readNumber_31 : decode cX12_readNumber 31 = .ok (.ireturn, 1) := by decide +kernel
theorem dX12_readNumber_32 : decode cX12_readNumber 32 = .ok (.aload_n 0, 1) := by decide +kernel
theorem dX12_readNumber_33 : decode cX12_readNumber 33 = .ok (.aload_n 0, 1) := by decide +kernel
theorem dX12_readNumber_34 : decode cX12_readNumber 34 = .ok (.getfield 47, 3) := by decide +kernel
theorem dX12_readNumber_37 : decode cX12_readNumber 37 = .ok (.putfield 79, 3) := by decide +kernel
theorem dX12_readNumber_40 : decode cX12_readNumber 40 = .ok (.aload_n 0, 1) := by decide +kernel
theorem dX12_readNumber_41 : decode cX12_readNumber 41 = .ok (.invokevirtual 82, 3) := by decide +kernel
theorem dX12_readNumber_44 : decode cX12_readNumber 44 = .ok (.iconst 1, 1) := by decide +kernel
theorem dX12_readNumber_45 : decode cX12_readNumber 45 = .ok (.ireturn, 1) := by decide +kernel
theorem dX12_readEnd_0 : decode cX12_readEnd 0 = .ok (.aload_n 0, 1) := by decide +kernel
theorem dX12_readEnd_1 : decode cX12_readEnd 1 = .ok (.bipush 59, 2) := by decide +kernel
theorem dX12_readEnd_3 : decode cX12_readEnd 3 = .ok (.invokevirtual 86, 3) := by decide +kernel
theorem dX12_readEnd_6 : decode cX12_readEnd 6 = .ok (.ifCond .ne 9, 3) := by decide +kernel
theorem dX12_readEnd_9 : decode cX12_readEnd 9 = .ok (.aload_n 0, 1) := by decide +kernel
theorem dX12_readEnd_10 : decode cX12_readEnd 10 = .ok (.iconst 1, 1) := by decide +kernel
theorem dX12_readEnd_11 : decode cX12_readEnd 11 = .ok (.invokevirtual 72, 3) := by decide +kernel
theorem dX12_readEnd_14 : decode cX12_readEnd 14 = .ok (.ireturn, 1) := by decide +kernel
theorem dX12_readEnd_15 : decode cX12_readEnd 15 = .ok (.aload_n 0, 1) := by decide +kernel
theorem dX12_readEnd_16 : decode cX12_readEnd 16 = .ok (.invokevirtual 82, 3) := by decide +kernel
theorem dX12_readEnd_19 : decode cX12_readEnd 19 = .ok (.iconst 1, 1) := by decide +kernel
theorem dX12_readEnd_20 : decode cX12_readEnd 20 = .ok (.ireturn, 1) := by decide +kernel
theorem dX12_begin_0 : decode cX12_begin 0 = .ok (.aload_n 0, 1) := by decide +kernel
theorem dX12_begin_1 : decode cX12_begin 1 = .ok (.iconst 0, 1) := by decide +kernel
theorem dX12_begin_2 : decode cX12_begin 2 = .ok (.putfield 1, 3) := by decide +kernel
theorem dX12_begin_5 : decode cX12_begin 5 = .ok (.aload_n 0, 1) := by decide +kernel
theorem dX12_begin_6 : decode cX12_begin 6 = .ok (.aload_n 0, 1) := by decide +kernel
theorem dX12_begin_7 : decode cX12_begin 7 = .ok (.invokevirtual 89, 3) := by decide +kernel
theorem dX12_begin_10 : decode cX12_begin 10 = .ok (.putfield 18, 3) := by decide +kernel
theorem dX12_begin_13 : decode cX12_begin 13 = .ok (.aload_n 0, 1) := by decide +kernel
theorem dX12_begin_14 : decode cX12_begin 14 = .ok (.iload_n 1, 1) := by decide +kernel
theorem dX12_begin_15 : decode cX12_begin 15 = .ok (.putfield 27, 3) := by decide +kernel
theorem dX12_begin_18 : decode cX12_begin 18 = .ok (.aload_n 0, 1) := by decide +kernel
theorem dX12_begin_19 : decode cX12_begin 19 = .ok (.iconst 0, 1) := by decide +kernel
theorem dX12_begin_20 : decode cX12_begin 20 = .ok (.putfield 66, 3) := by decide +kernel
theorem dX12_begin_23 : decode cX12_begin 23 = .ok (.aload_n 0, 1) := by decide +kernel
theorem dX12_begin_24 : decode cX12_begin 24 = .ok (.iconst 0, 1) := by decide +kernel
theorem dX12_begin_25 : decode cX12_begin 25 = .ok (.putfield 21, 3) := by decide +kernel
theorem dX12_begin_28 : decode cX12_begin 28 = .ok (.aload_n 0, 1) := by decide +kernel
theorem dX12_begin_29 : decode cX12_begin 29 = .ok (.invokevirtual 82, 3) := by decide +kernel
theorem dX12_begin_32 : decode cX12_begin 32 = .ok (.return_, 1) := by decide +kernel
theorem dX12_init_0 : decode cX12_init 0 = .ok (.aload_n 0, 1) := by decide +kernel
theorem dX12_init_1 : decode cX12_init 1 = .ok (.invokespecial 93, 3) := by decide +kernel
theorem dX12_init_4 : decode cX12_init 4 = .ok (.aload_n 0, 1) := by decide +kernel
theorem dX12_init_5 : decode cX12_init 5 = .ok (.sipush 940, 3) := by decide +kernel
theorem dX12_init_8 : decode cX12_init 8 = .ok (.newarray .int, 2) := by decide +kernel
theorem dX12_init_10 : decode cX12_init 10 = .ok (.putfield 7, 3) := by decide +kernel
theorem dX12_init_13 : decode cX12_init 13 = .ok (.aload_n 0, 1) := by decide +kernel
theorem dX12_init_14 : decode cX12_init 14 = .ok (.sipush 2647, 3) := by decide +kernel
theorem dX12_init_17 : decode cX12_init 17 = .ok (.newarray .int, 2) := by decide +kernel
theorem dX12_init_19 : decode cX12_init 19 = .ok (.putfield 98, 3) := by decide +kernel
theorem dX12_init_22 : decode cX12_init 22 = .ok (.aload_n 0, 1) := by decide +kernel
theorem dX12_init_23 : decode cX12_init 23 = .ok (.sipush 210, 3) := by decide +kernel
theorem dX12_init_26 : decode cX12_init 26 = .ok (.newarray .int, 2) := by decide +kernel
theorem dX12_init_28 : decode cX12_init 28 = .ok (.putfield 101, 3) := by decide +kernel
theorem dX12_init_31 : decode cX12_init 31 = .ok (.aload_n 0, 1) := by decide +kernel
theorem dX12_init_32 : decode cX12_init 32 = .ok (.sipush 5294, 3) := by decide +kernel
theorem dX12_init_35 : decode cX12_init 35 = .ok (.newarray .int, 2) := by decide +kernel
theorem dX12_init_37 : decode cX12_init 37 = .ok (.putfield 104, 3) := by decide +kernel
theorem dX12_init_40 : decode cX12_init 40 = .ok (.aload_n 0, 1) := by decide +kernel
theorem dX12_init_41 : decode cX12_init 41 = .ok (.sipush 17560, 3) := by decide +kernel
theorem dX12_init_44 : decode cX12_init 44 = .ok (.newarray .int, 2) := by decide +kernel
theorem dX12_init_46 : decode cX12_init 46 = .ok (.putfield 107, 3) := by decide +kernel
theorem dX12_init_49 : decode cX12_init 49 = .ok (.aload_n 0, 1) := by decide +kernel
theorem dX12_init_50 : decode cX12_init 50 = .ok (.sipush 2195, 3) := by decide +kernel
theorem dX12_init_53 : decode cX12_init 53 = .ok (.newarray .int, 2) := by decide +kernel
theorem dX12_init_55 : decode cX12_init 55 = .ok (.putfield 110, 3) := by decide +kernel
theorem dX12_init_58 : decode cX12_init 58 = .ok (.aload_n 0, 1) := by decide +kernel
theorem dX12_init_59 : decode cX12_init 59 = .ok (.iconst 5, 1) := by decide +kernel
theorem dX12_init_60 : decode cX12_init 60 = .ok (.newarray .long, 2) := by decide +kernel
theorem dX12_init_62 : decode cX12_init 62 = .ok (.putfield 113, 3) := by decide +kernel
theorem dX12_init_65 : decode cX12_init 65 = .ok (.aload_n 0, 1) := by decide +kernel
theorem dX12_init_66 : decode cX12_init 66 = .ok (.iconst 5, 1) := by decide +kernel
theorem dX12_init_67 : decode cX12_init 67 = .ok (.newarray .long, 2) := by decide +kernel
theorem dX12_init_69 : decode cX12_init 69 = .ok (.putfield 117, 3) := by decide +kernel
theorem dX12_init_72 : decode cX12_init 72 = .ok (.aload_n 0, 1) := by decide +kernel
theorem dX12_init_73 : decode cX12_init 73 = .ok (.bipush 10, 2) := by decide +kernel
theorem dX12_init_75 : decode cX12_init 75 = .ok (.newarray .long, 2) := by decide +kernel
theorem dX12_init_77 : decode cX12_init 77 = .ok (.putfield 120, 3) := by decide +kernel
theorem dX12_init_80 : decode cX12_init 80 = .ok (.aload_n 0, 1) := by decide +kernel
theorem dX12_init_81 : decode cX12_init 81 = .ok (.sipush 135, 3) := by decide +kernel
theorem dX12_init_84 : decode cX12_init 84 = .ok (.newarray .long, 2) := by decide +kernel
theorem dX12_init_86 : decode cX12_init 86 = .ok (.putfield 123, 3) := by decide +kernel
theorem dX12_init_89 : decode cX12_init 89 = .ok (.aload_n 0, 1) := by decide +kernel
theorem dX12_init_90 : decode cX12_init 90 = .ok (.iconst 2, 1) := by decide +kernel
theorem dX12_init_91 : decode cX12_init 91 = .ok (.newarray .boolean, 2) := by decide +kernel
theorem dX12_init_93 : decode cX12_init 93 = .ok (.putfield 126, 3) := by decide +kernel
theorem dX12_init_96 : decode cX12_init 96 = .ok (.aload_n 0, 1) := by decide +kernel
theorem dX12_init_97 : decode cX12_init 97 = .ok (.sipush 183, 3) := by decide +kernel
theorem dX12_init_100 : decode cX12_init 100 = .ok (.newarray .int, 2) := by decide +kernel
theorem dX12_init_102 : decode cX12_init 102 = .ok (.putfield 130, 3) := by decide +kernel
theorem dX12_init_105 : decode cX12_init 105 = .ok (.aload_n 0, 1) := by decide +kernel
theorem dX12_init_106 : decode cX12_init 106 = .ok (.sipush 183, 3) := by decide +kernel
theorem dX12_init_109 : decode cX12_init 109 = .ok (.newarray .int, 2) := by decide +kernel
theorem dX12_init_111 : decode cX12_init 111 = .ok (.putfield 133, 3) := by decide +kernel
theorem dX12_init_114 : decode cX12_init 114 = .ok (.aload_n 0, 1) := by decide +kernel
theorem dX12_init_115 : decode cX12_init 115 = .ok (.bipush 24, 2) := by decide +kernel
theorem dX12_init_117 : decode cX12_init 117 = .ok (.newarray .int, 2) := by decide +kernel
theorem dX12_init_119 : decode cX12_init 119 = .ok (.putfield 136, 3) := by decide +kernel
theorem dX12_init_122 : decode cX12_init 122 = .ok (.aload_n 0, 1) := by decide +kernel
theorem dX12_init_123 : decode cX12_init 123 = .ok (.sipush 135, 3) := by decide +kernel
theorem dX12_init_126 : decode cX12_init 126 = .ok (.newarray .int, 2) := by decide +kernel
theorem dX12_init_128 : decode cX12_init 128 = .ok (.putfield 139, 3) := by decide +kernel
theorem dX12_init_131 : decode cX12_init 131 = .ok (.aload_n 0, 1) := by decide +kernel
theorem dX12_init_132 : decode cX12_init 132 = .ok (.sipush 135, 3) := by decide +kernel
theorem dX12_init_135 : decode cX12_init 135 = .ok (.newarray .int, 2) := by decide +kernel
theorem dX12_init_137 : decode cX12_init 137 = .ok (.putfield 142, 3) := by decide +kernel
theorem dX12_init_140 : decode cX12_init 140 = .ok (.aload_n 0, 1) := by decide +kernel
theorem dX12_init_141 : decode cX12_init 141 = .ok (.bipush 48, 2) := by decide +kernel
theorem dX12_init_143 : decode cX12_init 143 = .ok (.newarray .int, 2) := by decide +kernel
theorem dX12_init_145 : decode cX12_init 145 = .ok (.putfield 145, 3) := by decide +kernel
theorem dX12_init_148 : decode cX12_init 148 = .ok (.aload_n 0, 1) := by decide +kernel
theorem dX12_init_149 : decode cX12_init 149 = .ok (.iconst 5, 1) := by decide +kernel
theorem dX12_init_150 : decode cX12_init 150 = .ok (.newarray .int, 2) := by decide +kernel
theorem dX12_init_152 : decode cX12_init 152 = .ok (.putfield 148, 3) := by decide +kernel
theorem dX12_init_155 : decode cX12_init 155 = .ok (.aload_n 0, 1) := by decide +kernel
theorem dX12_init_156 : decode cX12_init 156 = .ok (.iconst 5, 1) := by decide +kernel
theorem dX12_init_157 : decode cX12_init 157 = .ok (.newarray .int, 2) := by decide +kernel
theorem dX12_init_159 : decode cX12_init 159 = .ok (.putfield 151, 3) := by decide +kernel
theorem dX12_init_162 : decode cX12_init 162 = .ok (.aload_n 0, 1) := by decide +kernel
theorem dX12_init_163 : decode cX12_init 163 = .ok (.bipush 120, 2) := by decide +kernel
theorem dX12_init_165 : decode cX12_init 165 = .ok (.newarray .int, 2) := by decide +kernel
theorem dX12_init_167 : decode cX12_init 167 = .ok (.putfield 154, 3) := by decide +kernel
theorem dX12_init_170 : decode cX12_init 170 = .ok (.aload_n 0, 1) := by decide +kernel
theorem dX12_init_171 : decode cX12_init 171 = .ok (.bipush 120, 2) := by decide +kernel
theorem dX12_init_173 : decode cX12_init 173 = .ok (.newarray .int, 2) := by decide +kernel
theorem dX12_init_175 : decode cX12_init 175 = .ok (.putfield 157, 3) := by decide +kernel
theorem dX12_init_178 : decode cX12_init 178 = .ok (.aload_n 0, 1) := by decide +kernel
theorem dX12_init_179 : decode cX12_init 179 = .ok (.bipush 24, 2) := by decide +kernel
theorem dX12_init_181 : decode cX12_init 181 = .ok (.newarray .int, 2) := by decide +kernel
theorem dX12_init_183 : decode cX12_init 183 = .ok (.putfield 160, 3) := by decide +kernel
theorem dX12_init_186 : decode cX12_init 186 = .ok (.aload_n 0, 1) := by decide +kernel
theorem dX12_init_187 : decode cX12_init 187 = .ok (.iconst 3, 1) := by decide +kernel
theorem dX12_init_188 : decode cX12_init 188 = .ok (.newarray .int, 2) := by decide +kernel
theorem dX12_init_190 : decode cX12_init 190 = .ok (.putfield 163, 3) := by decide +kernel
theorem dX12_init_193 : decode cX12_init 193 = .ok (.aload_n 0, 1) := by decide +kernel
theorem dX12_init_194 : decode cX12_init 194 = .ok (.iconst 3, 1) := by decide +kernel
theorem dX12_init_195 : decode cX12_init 195 = .ok (.newarray .int, 2) := by decide +kernel
theorem dX12_init_197 : decode cX12_init 197 = .ok (.putfield 166, 3) := by decide +kernel
theorem dX12_init_200 : decode cX12_init 200 = .ok (.aload_n 0, 1) := by decide +kernel
theorem dX12_init_201 : decode cX12_init 201 = .ok (.sipush 200, 3) := by decide +kernel
theorem dX12_init_204 : decode cX12_init 204 = .ok (.newarray .boolean, 2) := by decide +kernel
theorem dX12_init_206 : decode cX12_init 206 = .ok (.putfield 169, 3) := by decide +kernel
theorem dX12_init_209 : decode cX12_init 209 = .ok (.aload_n 0, 1) := by decide +kernel
theorem dX12_init_210 : decode cX12_init 210 = .ok (.sipush 200, 3) := by decide +kernel
theorem dX12_init_213 : decode cX12_init 213 = .ok (.newarray .int, 2) := by decide +kernel
theorem dX12_init_215 : decode cX12_init 215 = .ok (.putfield 172, 3) := by decide +kernel
theorem dX12_init_218 : decode cX12_init 218 = .ok (.aload_n 0, 1) := by decide +kernel
theorem dX12_init_219 : decode cX12_init 219 = .ok (.bipush 8, 2) := by decide +kernel
theorem dX12_init_221 : decode cX12_init 221 = .ok (.newarray .int, 2) := by decide +kernel
theorem dX12_init_223 : decode cX12_init 223 = .ok (.putfield 175, 3) := by decide +kernel
theorem dX12_init_226 : decode cX12_init 226 = .ok (.aload_n 0, 1) := by decide +kernel
theorem dX12_init_227 : decode cX12_init 227 = .ok (.iconst 3, 1) := by decide +kernel
theorem dX12_init_228 : decode cX12_init 228 = .ok (.newarray .int, 2) := by decide +kernel
theorem dX12_init_230 : decode cX12_init 230 = .ok (.putfield 178, 3) := by decide +kernel
theorem dX12_init_233 : decode cX12_init 233 = .ok (.aload_n 0, 1) := by decide +kernel
theorem dX12_init_234 : decode cX12_init 234 = .ok (.sipush 240, 3) := by decide +kernel
theorem dX12_init_237 : decode cX12_init 237 = .ok (.newarray .int, 2) := by decide +kernel
theorem dX12_init_239 : decode cX12_init 239 = .ok (.putfield 181, 3) := by decide +kernel
theorem dX12_init_242 : decode cX12_init 242 = .ok (.aload_n 0, 1) := by decide +kernel
theorem dX12_init_243 : decode cX12_init 243 = .ok (.invokevirtual 184, 3) := by decide +kernel
theorem dX12_init_246 : decode cX12_init 246 = .ok (.return_, 1) := by decide +kernel
theorem dX12_startSo_0 : decode cX12_startSo 0 = .ok (.sipush 210, 3) := by decide +kernel
theorem dX12_startSo_3 : decode cX12_startSo 3 = .ok (.istore_n 1, 1) := by decide +kernel
theorem dX12_startSo_4 : decode cX12_startSo 4 = .ok (.iload_n 1, 1) := by decide +kernel
theorem dX12_startSo_5 : decode cX12_startSo 5 = .ok (.sipush 2647, 3) := by decide +kernel
theorem dX12_startSo_8 : decode cX12_startSo 8 = .ok (.if_icmp .ge 16, 3) := by decide +kernel
theorem dX12_startSo_11 : decode cX12_startSo 11 = .ok (.aload_n 0, 1) := by decide +kernel
theorem dX12_startSo_12 : decode cX12_startSo 12 = .ok (.getfield 98, 3) := by decide +kernel
theorem dX12_startSo_15 : decode cX12_startSo 15 = .ok (.iload_n 1, 1) := by decide +kernel
theorem dX12_startSo_16 : decode cX12_startSo 16 = .ok (.iconst 0, 1) := by decide +kernel
theorem dX12_startSo_17 : decode cX12_startSo 17 = .ok (.iastore, 1) := by decide +kernel
theorem dX12_startSo_18 : decode cX12_startSo 18 = .ok (.iinc 1 1, 3) := by decide +kernel
theorem dX12_startSo_21 : decode cX12_startSo 21 = .ok (.goto (-17), 3) := by decide +kernel
theorem dX12_startSo_24 : decode cX12_startSo 24 = .ok (.iconst 0, 1) := by decide +kernel
theorem dX12_startSo_25 : decode cX12_startSo 25 = .ok (.istore_n 1, 1) := by decide +kernel
theorem dX12_startSo_26 : decode cX12_startSo 26 = .ok (.iload_n 1, 1) := by decide +kernel
theorem dX12_startSo_27 : decode cX12_startSo 27 = .ok (.sipush 200, 3) := by decide +kernel
theorem dX12_startSo_30 : decode cX12_startSo 30 = .ok (.if_icmp .ge 20, 3) := by decide +kernel
theorem dX12_startSo_33 : decode cX12_startSo 33 = .ok (.aload_n 0, 1) := by decide +kernel
theorem dX12_startSo_34 : decode cX12_startSo 34 = .ok (.getfield 98, 3) := by decide +kernel
theorem dX12_startSo_37 : decode cX12_startSo 37 = .ok (.sipush 893, 3) := by decide +kernel
theorem dX12_startSo_40 : decode cX12_startSo 40 = .ok (.iload_n 1, 1) := by decide +kernel
theorem dX12_startSo_41 : decode cX12_startSo 41 = .ok (.iadd, 1) := by decide +kernel
theorem dX12_startSo_42 : decode cX12_startSo 42 = .ok (.iconst (-1), 1) := by decide +kernel
theorem dX12_startSo_43 : decode cX12_startSo 43 = .ok (.iastore, 1) := by decide +kernel
theorem dX12_startSo_44 : decode cX12_startSo 44 = .ok (.iinc 1 1, 3) := by decide +kernel
theorem dX12_startSo_47 : decode cX12_startSo 47 = .ok (.goto (-21), 3) := by decide +kernel
theorem dX12_startSo_50 : decode cX12_startSo 50 = .ok (.aload_n 0, 1) := by decide +kernel
theorem dX12_startSo_51 : decode cX12_startSo 51 = .ok (.invokevirtual 187, 3) := by decide +kernel
theorem dX12_startSo_54 : decode cX12_startSo 54 = .ok (.return_, 1) := by decide +kernel
theorem dX12_funNow_0 : decode cX12_funNow 0 = .ok (.aload_n 0, 1) := by decide +kernel
theorem dX12_funNow_1 : decode cX12_funNow 1 = .ok (.getfield 101, 3) := by decide +kernel
theorem dX12_funNow_4 : decode cX12_funNow 4 = .ok (.iconst 0, 1) := by decide +kernel
theorem dX12_funNow_5 : decode cX12_funNow 5 = .ok (.iaload, 1) := by decide +kernel
theorem dX12_funNow_6 : decode cX12_funNow 6 = .ok (.iconst 1, 1) := by decide +kernel
theorem dX12_funNow_7 : decode cX12_funNow 7 = .ok (.isub, 1) := by decide +kernel
theorem dX12_funNow_8 : decode cX12_funNow 8 = .ok (.ireturn, 1) := by decide +kernel
theorem dX12_varsOf_0 : decode cX12_varsOf 0 = .ok (.aload_n 1, 1) := by decide +kernel
theorem dX12_varsOf_1 : decode cX12_varsOf 1 = .ok (.iconst 3, 1) := by decide +kernel
theorem dX12_varsOf_2 : decode cX12_varsOf 2 = .ok (.iload_n 2, 1) := by decide +kernel
theorem dX12_varsOf_3 : decode cX12_varsOf 3 = .ok (.iadd, 1) := by decide +kernel
theorem dX12_varsOf_4 : decode cX12_varsOf 4 = .ok (.iaload, 1) := by decide +kernel
theorem dX12_varsOf_5 : decode cX12_varsOf 5 = .ok (.aload_n 1, 1) := by decide +kernel
theorem dX12_varsOf_6 : decode cX12_varsOf 6 = .ok (.bipush 13, 2) := by decide +kernel
theorem dX12_varsOf_8 : decode cX12_varsOf 8 = .ok (.iload_n 2, 1) := by decide +kernel
theorem dX12_varsOf_9 : decode cX12_varsOf 9 = .ok (.iadd, 1) := by decide +kernel
theorem dX12_varsOf_10 : decode cX12_varsOf 10 = .ok (.iaload, 1) := by decide +kernel
theorem dX12_varsOf_11 : decode cX12_varsOf 11 = .ok (.iadd, 1) := by decide +kernel
theorem dX12_varsOf_12 : decode cX12_varsOf 12 = .ok (.ireturn, 1) := by decide +kernel
theorem dX12_findIn_0 : decode cX12_findIn 0 = .ok (.iconst 0, 1) := by decide +kernel
theorem dX12_findIn_1 : decode cX12_findIn 1 = .ok (.istore 5, 2) := by decide +kernel
theorem dX12_findIn_3 : decode cX12_findIn 3 = .ok (.iload 5, 2) := by decide +kernel
theorem dX12_findIn_5 : decode cX12_findIn 5 = .ok (.iload_n 2, 1) := by decide +kernel
theorem dX12_findIn_6 : decode cX12_findIn 6 = .ok (.if_icmp .ge 23, 3) := by decide +kernel
theorem dX12_findIn_9 : decode cX12_findIn 9 = .ok (.aload_n 0, 1) := by decide +kernel
theorem dX12_findIn_10 : decode cX12_findIn 10 = .ok (.iload_n 1, 1) := by decide +kernel
theorem dX12_findIn_11 : decode cX12_findIn 11 = .ok (.iload 5, 2) := by decide +kernel
theorem dX12_findIn_13 : decode cX12_findIn 13 = .ok (.iadd, 1) := by decide +kernel
theorem dX12_findIn_14 : decode cX12_findIn 14 = .ok (.laload, 1) := by decide +kernel
theorem dX12_findIn_15 : decode cX12_findIn 15 = .ok (.lload_n 3, 1) := by decide +kernel
theorem dX12_findIn_16 : decode cX12_findIn 16 = .ok (.lcmp, 1) := by decide +kernel
theorem dX12_findIn_17 : decode cX12_findIn 17 = .ok (.ifCond .ne 6, 3) := by decide +kernel
theorem dX12_findIn_20 : decode cX12_findIn 20 = .ok (.iload 5, 2) := by decide +kernel
theorem dX12_findIn_22 : decode cX12_findIn 22 = .ok (.ireturn, 1) := by decide +kernel
theorem dX12_findIn_23 : decode cX12_findIn 23 = .ok (.iinc 5 1, 3) := by decide +kernel
theorem dX12_findIn_26 : decode cX12_findIn 26 = .ok (.goto (-23), 3) := by decide +kernel
theorem dX12_findIn_29 : decode cX12_findIn 29 = .ok (.iconst (-1), 1) := by decide +kernel
theorem dX12_findIn_30 : decode cX12_findIn 30 = .ok (.ireturn, 1) := by decide +kernel
theorem dX12_findVar_0 : decode cX12_findVar 0 = .ok (.aload_n 0, 1) := by decide +kernel
theorem dX12_findVar_1 : decode cX12_findVar 1 = .ok (.getfield 123, 3) := by decide +kernel
theorem dX12_findVar_4 : decode cX12_findVar 4 = .ok (.bipush 27, 2) := by decide +kernel
theorem dX12_findVar_6 : decode cX12_findVar 6 = .ok (.aload_n 0, 1) := by decide +kernel
theorem dX12_findVar_7 : decode cX12_findVar 7 = .ok (.invokevirtual 190, 3) := by decide +kernel
theorem dX12_findVar_10 : decode cX12_findVar 10 = .ok (.imul, 1) := by decide +kernel
theorem dX12_findVar_11 : decode cX12_findVar 11 = .ok (.aload_n 0, 1) := by decide +kernel
theorem dX12_findVar_12 : decode cX12_findVar 12 = .ok (.aload_n 0, 1) := by decide +kernel
theorem dX12_findVar_13 : decode cX12_findVar 13 = .ok (.getfield 101, 3) := by decide +kernel
theorem dX12_findVar_16 : decode cX12_findVar 16 = .ok (.aload_n 0, 1) := by decide +kernel
theorem dX12_findVar_17 : decode cX12_findVar 17 = .ok (.invokevirtual 190, 3) := by decide +kernel
theorem dX12_findVar_20 : decode cX12_findVar 20 = .ok (.invokevirtual 193, 3) := by decide +kernel
theorem dX12_findVar_23 : decode cX12_findVar 23 = .ok (.aload_n 0, 1) := by decide +kernel
theorem dX12_findVar_24 : decode cX12_findVar 24 = .ok (.getfield 43, 3) := by decide +kernel
theorem dX12_findVar_27 : decode cX12_findVar 27 = .ok (.invokestatic 197, 3) := by decide +kernel
theorem dX12_findVar_30 : decode cX12_findVar 30 = .ok (.ireturn, 1) := by decide +kernel
theorem dX12_readParameter_0 : decode cX12_readParameter 0 = .ok (.aload_n 0, 1) := by decide +kernel
theorem dX12_readParameter_1 : decode cX12_readParameter 1 = .ok (.invokevirtual 190, 3) := by decide +kernel
theorem dX12_readParameter_4 : decode cX12_readParameter 4 = .ok (.istore_n 1, 1) := by decide +kernel
theorem dX12_readParameter_5 : decode cX12_readParameter 5 = .ok (.aload_n 0, 1) := by decide +kernel
theorem dX12_readParameter_6 : decode cX12_readParameter 6 = .ok (.invokevirtual 201, 3) := by decide +kernel
theorem dX12_readParameter_9 : decode cX12_readParameter 9 = .ok (.iconst (-1), 1) := by decide +kernel
theorem dX12_readParameter_10 : decode cX12_readParameter 10 = .ok (.if_icmp .eq 9, 3) := by decide +kernel
theorem dX12_readParameter_13 : decode cX12_readParameter 13 = .ok (.aload_n 0, 1) := by decide +kernel
theorem dX12_readParameter_14 : decode cX12_readParameter 14 = .ok (.iconst 3, 1) := by decide +kernel
theorem dX12_readParameter_15 : decode cX12_readParameter 15 = .ok (.invokevirtual 72, 3) := by decide +kernel
theorem dX12_readParameter_18 : decode cX12_readParameter 18 = .ok (.ireturn, 1) := by decide +kernel
theorem dX12_readParameter_19 : decode cX12_readParameter 19 = .ok (.aload_n 0, 1) := by decide +kernel
theorem dX12_readParameter_20 : decode cX12_readParameter 20 = .ok (.getfield 101, 3) := by decide +kernel
theorem dX12_readParameter_23 : decode cX12_readParameter 23 = .ok (.iconst 3, 1) := by decide +kernel
theorem dX12_readParameter_24 : decode cX12_readParameter 24 = .ok (.iload_n 1, 1) := by decide +kernel
theorem dX12_readParameter_25 : decode cX12_readParameter 25 = .ok (.iadd, 1) := by decide +kernel
theorem dX12_readParameter_26 : decode cX12_readParameter 26 = .ok (.iaload, 1) := by decide +kernel
theorem dX12_readParameter_27 : decode cX12_readParameter 27 = .ok (.iconst 3, 1) := by decide +kernel
theorem dX12_readParameter_28 : decode cX12_readParameter 28 = .ok (.if_icmp .ne 9, 3) := by decide +kernel
theorem dX12_readParameter_31 : decode cX12_readParameter 31 = .ok (.aload_n 0, 1) := by decide +kernel
theorem dX12_readParameter_32 : decode cX12_readParameter 32 = .ok (.iconst 4, 1) := by decide +kernel
theorem dX12_readParameter_33 : decode cX12_readParameter 33 = .ok (.invokevirtual 72, 3) := by decide +kernel
theorem dX12_readParameter_36 : decode cX12_readParameter 36 = .ok (.ireturn, 1) := by decide +kernel
theorem dX12_readParameter_37 : decode cX12_readParameter 37 = .ok (.aload_n 0, 1) := by decide +kernel
theorem dX12_readParameter_38 : decode cX12_readParameter 38 = .ok (.getfield 123, 3) := by decide +kernel
theorem dX12_readParameter_41 : decode cX12_readParameter 41 = .ok (.bipush 27, 2) := by decide +kernel
theorem dX12_readParameter_43 : decode cX12_readParameter 43 = .ok (.iload_n 1, 1) := by decide +kernel
theorem dX12_readParameter_44 : decode cX12_readParameter 44 = .ok (.imul, 1) := by decide +kernel
theorem dX12_readParameter_45 : decode cX12_readParameter 45 = .ok (.aload_n 0, 1) := by decide +kernel
theorem dX12_readParameter_46 : decode cX12_readParameter 46 = .ok (.getfield 101, 3) := by decide +kernel
theorem dX12_readParameter_49 : decode cX12_readParameter 49 = .ok (.iconst 3, 1) := by decide +kernel
theorem dX12_readParameter_50 : decode cX12_readParameter 50 = .ok (.iload_n 1, 1) := by decide +kernel
theorem dX12_readParameter_51 : decode cX12_readParameter 51 = .ok (.iadd, 1) := by decide +kernel
theorem dX12_readParameter_52 : decode cX12_readParameter 52 = .ok (.iaload, 1) := by decide +kernel
theorem dX12_readParameter_53 : decode cX12_readParameter 53 = .ok (.iadd, 1) := by decide +kernel
theorem dX12_readParameter_54 : decode cX12_readParameter 54 = .ok (.aload_n 0, 1) := by decide +kernel
theorem dX12_readParameter_55 : decode cX12_readParameter 55 = .ok (.getfield 43, 3) := by decide +kernel
theorem dX12_readParameter_58 : decode cX12_readParameter 58 = .ok (.lastore, 1) := by decide +kernel
theorem dX12_readParameter_59 : decode cX12_readParameter 59 = .ok (.aload_n 0, 1) := by decide +kernel
theorem dX12_readParameter_60 : decode cX12_readParameter 60 = .ok (.getfield 101, 3) := by decide +kernel
theorem dX12_readParameter_63 : decode cX12_readParameter 63 = .ok (.iconst 3, 1) := by decide +kernel
theorem dX12_readParameter_64 : decode cX12_readParameter 64 = .ok (.iload_n 1, 1) := by decide +kernel
theorem dX12_readParameter_65 : decode cX12_readParameter 65 = .ok (.iadd, 1) := by decide +kernel
theorem dX12_readParameter_66 : decode cX12_readParameter 66 = .ok (.dup2, 1) := by decide +kernel
theorem dX12_readParameter_67 : decode cX12_readParameter 67 = .ok (.iaload, 1) := by decide +kernel
theorem dX12_readParameter_68 : decode cX12_readParameter 68 = .ok (.iconst 1, 1) := by decide +kernel
theorem dX12_readParameter_69 : decode cX12_readParameter 69 = .ok (.iadd, 1) := by decide +kernel
theorem dX12_readParameter_70 : decode cX12_readParameter 70 = .ok (.iastore, 1) := by decide +kernel
theorem dX12_readParameter_71 : decode cX12_readParameter 71 = .ok (.aload_n 0, 1) := by decide +kernel
theorem dX12_readParameter_72 : decode cX12_readParameter 72 = .ok (.invokevirtual 82, 3) := by decide +kernel
theorem dX12_readParameter_75 : decode cX12_readParameter 75 = .ok (.iconst 1, 1) := by decide +kernel
theorem dX12_readParameter_76 : decode cX12_readParameter 76 = .ok (.ireturn, 1) := by decide +kernel
theorem dX12_isBare_0 : decode cX12_isBare 0 = .ok (.aload_n 0, 1) := by decide +kernel
theorem dX12_isBare_1 : decode cX12_isBare 1 = .ok (.getfield 101, 3) := by decide +kernel
theorem dX12_isBare_4 : decode cX12_isBare 4 = .ok (.iconst 0, 1) := by decide +kernel
theorem dX12_isBare_5 : decode cX12_isBare 5 = .ok (.iaload, 1) := by decide +kernel
theorem dX12_isBare_6 : decode cX12_isBare 6 = .ok (.ifCond .le 22, 3) := by decide +kernel
theorem dX12_isBare_9 : decode cX12_isBare 9 = .ok (.aload_n 0, 1) := by decide +kernel
theorem dX12_isBare_10 : decode cX12_isBare 10 = .ok (.getfield 101, 3) := by decide +kernel
theorem dX12_isBare_13 : decode cX12_isBare 13 = .ok (.bipush 13, 2) := by decide +kernel
theorem dX12_isBare_15 : decode cX12_isBare 15 = .ok (.aload_n 0, 1) := by decide +kernel
theorem dX12_isBare_16 : decode cX12_isBare 16 = .ok (.invokevirtual 190, 3) := by decide +kernel
theorem dX12_isBare_19 : decode cX12_isBare 19 = .ok (.iadd, 1) := by decide +kernel
theorem dX12_isBare_20 : decode cX12_isBare 20 = .ok (.iaload, 1) := by decide +kernel
theorem dX12_isBare_21 : decode cX12_isBare 21 = .ok (.ifCond .ne 7, 3) := by decide +kernel
theorem dX12_isBare_24 : decode cX12_isBare 24 = .ok (.iconst 1, 1) := by decide +kernel
theorem dX12_isBare_25 : decode cX12_isBare 25 = .ok (.goto 4, 3) := by decide +kernel
theorem dX12_isBare_28 : decode cX12_isBare 28 = .ok (.iconst 0, 1) := by decide +kernel
theorem dX12_isBare_29 : decode cX12_isBare 29 = .ok (.ireturn, 1) := by decide +kernel
theorem dX12_readFun_0 : decode cX12_readFun 0 = .ok (.aload_n 0, 1) := by decide +kernel
theorem dX12_readFun_1 : decode cX12_readFun 1 = .ok (.invokevirtual 204, 3) := by decide +kernel
theorem dX12_readFun_4 : decode cX12_readFun 4 = .ok (.ifCond .eq 9, 3) := by decide +kernel
theorem dX12_readFun_7 : decode cX12_readFun 7 = .ok (.aload_n 0, 1) := by decide +kernel
theorem dX12_readFun_8 : decode cX12_readFun 8 = .ok (.iconst 3, 1) := by decide +kernel
theorem dX12_readFun_9 : decode cX12_readFun 9 = .ok (.invokevirtual 72, 3) := by decide +kernel
theorem dX12_readFun_12 : decode cX12_readFun 12 = .ok (.ireturn, 1) := by decide +kernel
theorem dX12_readFun_13 : decode cX12_readFun 13 = .ok (.aload_n 0, 1) := by decide +kernel
theorem dX12_readFun_14 : decode cX12_readFun 14 = .ok (.getfield 101, 3) := by decide +kernel
theorem dX12_readFun_17 : decode cX12_readFun 17 = .ok (.iconst 0, 1) := by decide +kernel
theorem dX12_readFun_18 : decode cX12_readFun 18 = .ok (.iaload, 1) := by decide +kernel
theorem dX12_readFun_19 : decode cX12_readFun 19 = .ok (.iconst 5, 1) := by decide +kernel
theorem dX12_readFun_20 : decode cX12_readFun 20 = .ok (.if_icmp .ne 9, 3) := by decide +kernel
theorem dX12_readFun_23 : decode cX12_readFun 23 = .ok (.aload_n 0, 1) := by decide +kernel
theorem dX12_readFun_24 : decode cX12_readFun 24 = .ok (.iconst 4, 1) := by decide +kernel
theorem dX12_readFun_25 : decode cX12_readFun 25 = .ok (.invokevirtual 72, 3) := by decide +kernel
theorem dX12_readFun_28 : decode cX12_readFun 28 = .ok (.ireturn, 1) := by decide +kernel
theorem dX12_readFun_29 : decode cX12_readFun 29 = .ok (.aload_n 0, 1) := by decide +kernel
theorem dX12_readFun_30 : decode cX12_readFun 30 = .ok (.invokevirtual 82, 3) := by decide +kernel
theorem dX12_readFun_33 : decode cX12_readFun 33 = .ok (.aload_n 0, 1) := by decide +kernel
theorem dX12_readFun_34 : decode cX12_readFun 34 = .ok (.invokevirtual 208, 3) := by decide +kernel
theorem dX12_readFun_37 : decode cX12_readFun 37 = .ok (.ifCond .ne 9, 3) := by decide +kernel
theorem dX12_readFun_40 : decode cX12_readFun 40 = .ok (.aload_n 0, 1) := by decide +kernel
theorem dX12_readFun_41 : decode cX12_readFun 41 = .ok (.iconst 1, 1) := by decide +kernel
theorem dX12_readFun_42 : decode cX12_readFun 42 = .ok (.invokevirtual 72, 3) := by decide +kernel
theorem dX12_readFun_45 : decode cX12_readFun 45 = .ok (.ireturn, 1) := by decide +kernel
theorem dX12_readFun_46 : decode cX12_readFun 46 = .ok (.aload_n 0, 1) := by decide +kernel
theorem dX12_readFun_47 : decode cX12_readFun 47 = .ok (.getfield 117, 3) := by decide +kernel
theorem dX12_readFun_50 : decode cX12_readFun 50 = .ok (.iconst 0, 1) := by decide +kernel
theorem dX12_readFun_51 : decode cX12_readFun 51 = .ok (.aload_n 0, 1) := by decide +kernel
theorem dX12_readFun_52 : decode cX12_readFun 52 = .ok (.getfield 101, 3) := by decide +kernel
theorem dX12_readFun_55 : decode cX12_readFun 55 = .ok (.iconst 0, 1) := by decide +kernel
theorem dX12_readFun_56 : decode cX12_readFun 56 = .ok (.iaload, 1) := by decide +kernel
theorem dX12_readFun_57 : decode cX12_readFun 57 = .ok (.aload_n 0, 1) := by decide +kernel
theorem dX12_readFun_58 : decode cX12_readFun 58 = .ok (.getfield 43, 3) := by decide +kernel
theorem dX12_readFun_61 : decode cX12_readFun 61 = .ok (.invokestatic 197, 3) := by decide +kernel
theorem dX12_readFun_64 : decode cX12_readFun 64 = .ok (.iconst (-1), 1) := by decide +kernel
theorem dX12_readFun_65 : decode cX12_readFun 65 = .ok (.if_icmp .eq 9, 3) := by decide +kernel
theorem dX12_readFun_68 : decode cX12_readFun 68 = .ok (.aload_n 0, 1) := by decide +kernel
theorem dX12_readFun_69 : decode cX12_readFun 69 = .ok (.iconst 3, 1) := by decide +kernel
theorem dX12_readFun_70 : decode cX12_readFun 70 = .ok (.invokevirtual 72, 3) := by decide +kernel
theorem dX12_readFun_73 : decode cX12_readFun 73 = .ok (.ireturn, 1) := by decide +kernel
theorem dX12_readFun_74 : decode cX12_readFun 74 = .ok (.aload_n 0, 1) := by decide +kernel
theorem dX12_readFun_75 : decode cX12_readFun 75 = .ok (.getfield 117, 3) := by decide +kernel
theorem dX12_readFun_78 : decode cX12_readFun 78 = .ok (.aload_n 0, 1) := by decide +kernel
theorem dX12_readFun_79 : decode cX12_readFun 79 = .ok (.getfield 101, 3) := by decide +kernel
theorem dX12_readFun_82 : decode cX12_readFun 82 = .ok (.iconst 0, 1) := by decide +kernel
theorem dX12_readFun_83 : decode cX12_readFun 83 = .ok (.iaload, 1) := by decide +kernel
theorem dX12_readFun_84 : decode cX12_readFun 84 = .ok (.aload_n 0, 1) := by decide +kernel
theorem dX12_readFun_85 : decode cX12_readFun 85 = .ok (.getfield 43, 3) := by decide +kernel
theorem dX12_readFun_88 : decode cX12_readFun 88 = .ok (.lastore, 1) := by decide +kernel
theorem dX12_readFun_89 : decode cX12_readFun 89 = .ok (.aload_n 0, 1) := by decide +kernel
theorem dX12_readFun_90 : decode cX12_readFun 90 = .ok (.getfield 101, 3) := by decide +kernel
theorem dX12_readFun_93 : decode cX12_readFun 93 = .ok (.bipush 8, 2) := by decide +kernel
theorem dX12_readFun_95 : decode cX12_readFun 95 = .ok (.aload_n 0, 1) := by decide +kernel
theorem dX12_readFun_96 : decode cX12_readFun 96 = .ok (.getfield 101, 3) := by decide +kernel
theorem dX12_readFun_99 : decode cX12_readFun 99 = .ok (.iconst 0, 1) := by decide +kernel
theorem dX12_readFun_100 : decode cX12_readFun 100 = .ok (.iaload, 1) := by decide +kernel
theorem dX12_readFun_101 : decode cX12_readFun 101 = .ok (.iadd, 1) := by decide +kernel
theorem dX12_readFun_102 : decode cX12_readFun 102 = .ok (.aload_n 0, 1) := by decide +kernel
theorem dX12_readFun_103 : decode cX12_readFun 103 = .ok (.getfield 101, 3) := by decide +kernel
theorem dX12_readFun_106 : decode cX12_readFun 106 = .ok (.iconst 1, 1) := by decide +kernel
theorem dX12_readFun_107 : decode cX12_readFun 107 = .ok (.iaload, 1) := by decide +kernel
theorem dX12_readFun_108 : decode cX12_readFun 108 = .ok (.iastore, 1) := by decide +kernel
theorem dX12_readFun_109 : decode cX12_readFun 109 = .ok (.aload_n 0, 1) := by decide +kernel
theorem dX12_readFun_110 : decode cX12_readFun 110 = .ok (.getfield 101, 3) := by decide +kernel
theorem dX12_readFun_113 : decode cX12_readFun 113 = .ok (.iconst 0, 1) := by decide +kernel
theorem dX12_readFun_114 : decode cX12_readFun 114 = .ok (.dup2, 1) := by decide +kernel
theorem dX12_readFun_115 : decode cX12_readFun 115 = .ok (.iaload, 1) := by decide +kernel
theorem dX12_readFun_116 : decode cX12_readFun 116 = .ok (.iconst 1, 1) := by decide +kernel
theorem dX12_readFun_117 : decode cX12_readFun 117 = .ok (.iadd, 1) := by decide +kernel
theorem dX12_readFun_118 : decode cX12_readFun 118 = .ok (.iastore, 1) := by decide +kernel
theorem dX12_readFun_119 : decode cX12_readFun 119 = .ok (.aload_n 0, 1) := by decide +kernel
theorem dX12_readFun_120 : decode cX12_readFun 120 = .ok (.invokevirtual 82, 3) := by decide +kernel
theorem dX12_readFun_123 : decode cX12_readFun 123 = .ok (.aload_n 0, 1) := by decide +kernel
theorem dX12_readFun_124 : decode cX12_readFun 124 = .ok (.invokevirtual 208, 3) := by decide +kernel
theorem dX12_readFun_127 : decode cX12_readFun 127 = .ok (.ifCond .eq 12, 3) := by decide +kernel
theorem dX12_readFun_130 : decode cX12_readFun 130 = .ok (.aload_n 0, 1) := by decide +kernel
theorem dX12_readFun_131 : decode cX12_readFun 131 = .ok (.invokevirtual 211, 3) := by decide +kernel
theorem dX12_readFun_134 : decode cX12_readFun 134 = .ok (.ifCond .ne (-11), 3) := by decide +kernel
theorem dX12_readFun_137 : decode cX12_readFun 137 = .ok (.iconst 0, 1) := by decide +kernel
theorem dX12_readFun_138 : decode cX12_readFun 138 = .ok (.ireturn, 1) := by decide +kernel
theorem dX12_readFun_139 : decode cX12_readFun 139 = .ok (.iconst 1, 1) := by decide +kernel
theorem dX12_readFun_140 : decode cX12_readFun 140 = .ok (.ireturn, 1) := by decide +kernel
theorem dX12_readVar_0 : decode cX12_readVar 0 = .ok (.aload_n 0, 1) := by decide +kernel
theorem dX12_readVar_1 : decode cX12_readVar 1 = .ok (.invokevirtual 208, 3) := by decide +kernel
theorem dX12_readVar_4 : decode cX12_readVar 4 = .ok (.ifCond .ne 9, 3) := by decide +kernel
theorem dX12_readVar_7 : decode cX12_readVar 7 = .ok (.aload_n 0, 1) := by decide +kernel
theorem dX12_readVar_8 : decode cX12_readVar 8 = .ok (.iconst 1, 1) := by decide +kernel
theorem dX12_readVar_9 : decode cX12_readVar 9 = .ok (.invokevirtual 72, 3) := by decide +kernel
theorem dX12_readVar_12 : decode cX12_readVar 12 = .ok (.ireturn, 1) := by decide +kernel
theorem dX12_readVar_13 : decode cX12_readVar 13 = .ok (.aload_n 0, 1) := by decide +kernel
theorem dX12_readVar_14 : decode cX12_readVar 14 = .ok (.invokevirtual 201, 3) := by decide +kernel
theorem dX12_readVar_17 : decode cX12_readVar 17 = .ok (.istore_n 3, 1) := by decide +kernel
theorem dX12_readVar_18 : decode cX12_readVar 18 = .ok (.iload_n 3, 1) := by decide +kernel
theorem dX12_readVar_19 : decode cX12_readVar 19 = .ok (.iconst (-1), 1) := by decide +kernel
theorem dX12_readVar_20 : decode cX12_readVar 20 = .ok (.if_icmp .ne 9, 3) := by decide +kernel
theorem dX12_readVar_23 : decode cX12_readVar 23 = .ok (.aload_n 0, 1) := by decide +kernel
theorem dX12_readVar_24 : decode cX12_readVar 24 = .ok (.iconst 3, 1) := by decide +kernel
theorem dX12_readVar_25 : decode cX12_readVar 25 = .ok (.invokevirtual 72, 3) := by decide +kernel
theorem dX12_readVar_28 : decode cX12_readVar 28 = .ok (.ireturn, 1) := by decide +kernel
theorem dX12_readVar_29 : decode cX12_readVar 29 = .ok (.aload_n 0, 1) := by decide +kernel
theorem dX12_readVar_30 : decode cX12_readVar 30 = .ok (.getfield 101, 3) := by decide +kernel
theorem dX12_readVar_33 : decode cX12_readVar 33 = .ok (.bipush 66, 2) := by decide +kernel
theorem dX12_readVar_35 : decode cX12_readVar 35 = .ok (.iconst 5, 1) := by decide +kernel
theorem dX12_readVar_36 : decode cX12_readVar 36 = .ok (.iload_n 1, 1) := by decide +kernel
theorem dX12_readVar_37 : decode cX12_readVar 37 = .ok (.imul, 1) := by decide +kernel
theorem dX12_readVar_38 : decode cX12_readVar 38 = .ok (.iadd, 1) := by decide +kernel
theorem dX12_readVar_39 : decode cX12_readVar 39 = .ok (.iload_n 2, 1) := by decide +kernel
theorem dX12_readVar_40 : decode cX12_readVar 40 = .ok (.iadd, 1) := by decide +kernel
theorem dX12_readVar_41 : decode cX12_readVar 41 = .ok (.iload_n 3, 1) := by decide +kernel
theorem dX12_readVar_42 : decode cX12_readVar 42 = .ok (.iastore, 1) := by decide +kernel
theorem dX12_readVar_43 : decode cX12_readVar 43 = .ok (.aload_n 0, 1) := by decide +kernel
theorem dX12_readVar_44 : decode cX12_readVar 44 = .ok (.invokevirtual 82, 3) := by decide +kernel
theorem dX12_readVar_47 : decode cX12_readVar 47 = .ok (.iconst 1, 1) := by decide +kernel
theorem dX12_readVar_48 : decode cX12_readVar 48 = .ok (.ireturn, 1) := by decide +kernel
theorem dX12_readVars_0 : decode cX12_readVars 0 = .ok (.iconst 0, 1) := by decide +kernel
theorem dX12_readVars_1 : decode cX12_readVars 1 = .ok (.istore 4, 2) := by decide +kernel
theorem dX12_readVars_3 : decode cX12_readVars 3 = .ok (.iload 4, 2) := by decide +kernel
theorem dX12_readVars_5 : decode cX12_readVars 5 = .ok (.iload_n 3, 1) := by decide +kernel
theorem dX12_readVars_6 : decode cX12_readVars 6 = .ok (.if_icmp .ge 23, 3) := by decide +kernel
theorem dX12_readVars_9 : decode cX12_readVars 9 = .ok (.aload_n 0, 1) := by decide +kernel
theorem dX12_readVars_10 : decode cX12_readVars 10 = .ok (.iload_n 1, 1) := by decide +kernel
theorem dX12_readVars_11 : decode cX12_readVars 11 = .ok (.iload_n 2, 1) := by decide +kernel
theorem dX12_readVars_12 : decode cX12_readVars 12 = .ok (.iload 4, 2) := by decide +kernel
theorem dX12_readVars_14 : decode cX12_readVars 14 = .ok (.iadd, 1) := by decide +kernel
theorem dX12_readVars_15 : decode cX12_readVars 15 = .ok (.invokevirtual 214, 3) := by decide +kernel
theorem dX12_readVars_18 : decode cX12_readVars 18 = .ok (.ifCond .ne 5, 3) := by decide +kernel
theorem dX12_readVars_21 : decode cX12_readVars 21 = .ok (.iconst 0, 1) := by decide +kernel
theorem dX12_readVars_22 : decode cX12_readVars 22 = .ok (.ireturn, 1) := by decide +kernel
theorem dX12_readVars_23 : decode cX12_readVars 23 = .ok (.iinc 4 1, 3) := by decide +kernel
theorem dX12_readVars_26 : decode cX12_readVars 26 = .ok (.goto (-23), 3) := by decide +kernel
theorem dX12_readVars_29 : decode cX12_readVars 29 = .ok (.iconst 1, 1) := by decide +kernel
theorem dX12_readVars_30 : decode cX12_readVars 30 = .ok (.ireturn, 1) := by decide +kernel
theorem dX12_readCalled_0 : decode cX12_readCalled 0 = .ok (.aload_n 0, 1) := by decide +kernel
theorem dX12_readCalled_1 : decode cX12_readCalled 1 = .ok (.invokevirtual 208, 3) := by decide +kernel
theorem dX12_readCalled_4 : decode cX12_readCalled 4 = .ok (.ifCond .ne 9, 3) := by decide +kernel
theorem dX12_readCalled_7 : decode cX12_readCalled 7 = .ok (.aload_n 0, 1) := by decide +kernel
theorem dX12_readCalled_8 : decode cX12_readCalled 8 = .ok (.iconst 1, 1) := by decide +kernel
theorem dX12_readCalled_9 : decode cX12_readCalled 9 = .ok (.invokevirtual 72, 3) := by decide +kernel
theorem dX12_readCalled_12 : decode cX12_readCalled 12 = .ok (.ireturn, 1) := by decide +kernel
theorem dX12_readCalled_13 : decode cX12_readCalled 13 = .ok (.aload_n 0, 1) := by decide +kernel
theorem dX12_readCalled_14 : decode cX12_readCalled 14 = .ok (.getfield 117, 3) := by decide +kernel
theorem dX12_readCalled_17 : decode cX12_readCalled 17 = .ok (.iconst 0, 1) := by decide +kernel
theorem dX12_readCalled_18 : decode cX12_readCalled 18 = .ok (.aload_n 0, 1) := by decide +kernel
theorem dX12_readCalled_19 : decode cX12_readCalled 19 = .ok (.getfield 101, 3) := by decide +kernel
theorem dX12_readCalled_22 : decode cX12_readCalled 22 = .ok (.iconst 0, 1) := by decide +kernel
theorem dX12_readCalled_23 : decode cX12_readCalled 23 = .ok (.iaload, 1) := by decide +kernel
theorem dX12_readCalled_24 : decode cX12_readCalled 24 = .ok (.aload_n 0, 1) := by decide +kernel
theorem dX12_readCalled_25 : decode cX12_readCalled 25 = .ok (.getfield 43, 3) := by decide +kernel
theorem dX12_readCalled_28 : decode cX12_readCalled 28 = .ok (.invokestatic 197, 3) := by decide +kernel
theorem dX12_readCalled_31 : decode cX12_readCalled 31 = .ok (.istore_n 3, 1) := by decide +kernel
theorem dX12_readCalled_32 : decode cX12_readCalled 32 = .ok (.iload_n 3, 1) := by decide +kernel
theorem dX12_readCalled_33 : decode cX12_readCalled 33 = .ok (.iconst (-1), 1) := by decide +kernel
theorem dX12_readCalled_34 : decode cX12_readCalled 34 = .ok (.if_icmp .ne 9, 3) := by decide +kernel
theorem dX12_readCalled_37 : decode cX12_readCalled 37 = .ok (.aload_n 0, 1) := by decide +kernel
theorem dX12_readCalled_38 : decode cX12_readCalled 38 = .ok (.iconst 3, 1) := by decide +kernel
theorem dX12_readCalled_39 : decode cX12_readCalled 39 = .ok (.invokevirtual 72, 3) := by decide +kernel
theorem dX12_readCalled_42 : decode cX12_readCalled 42 = .ok (.ireturn, 1) := by decide +kernel
theorem dX12_readCalled_43 : decode cX12_readCalled 43 = .ok (.aload_n 0, 1) := by decide +kernel
theorem dX12_readCalled_44 : decode cX12_readCalled 44 = .ok (.getfield 101, 3) := by decide +kernel
theorem dX12_readCalled_47 : decode cX12_readCalled 47 = .ok (.bipush 42, 2) := by decide +kernel
theorem dX12_readCalled_49 : decode cX12_readCalled 49 = .ok (.iload_n 1, 1) := by decide +kernel
theorem dX12_readCalled_50 : decode cX12_readCalled 50 = .ok (.iadd, 1) := by decide +kernel
theorem dX12_readCalled_51 : decode cX12_readCalled 51 = .ok (.iload_n 3, 1) := by decide +kernel
theorem dX12_readCalled_52 : decode cX12_readCalled 52 = .ok (.iastore, 1) := by decide +kernel
theorem dX12_readCalled_53 : decode cX12_readCalled 53 = .ok (.aload_n 0, 1) := by decide +kernel
theorem dX12_readCalled_54 : decode cX12_readCalled 54 = .ok (.invokevirtual 82, 3) := by decide +kernel
theorem dX12_readCalled_57 : decode cX12_readCalled 57 = .ok (.aload_n 0, 1) := by decide +kernel
theorem dX12_readCalled_58 : decode cX12_readCalled 58 = .ok (.iload_n 1, 1) := by decide +kernel
theorem dX12_readCalled_59 : decode cX12_readCalled 59 = .ok (.iload_n 2, 1) := by decide +kernel
theorem dX12_readCalled_60 : decode cX12_readCalled 60 = .ok (.aload_n 0, 1) := by decide +kernel
theorem dX12_readCalled_61 : decode cX12_readCalled 61 = .ok (.getfield 101, 3) := by decide +kernel
theorem dX12_readCalled_64 : decode cX12_readCalled 64 = .ok (.iconst 3, 1) := by decide +kernel
theorem dX12_readCalled_65 : decode cX12_readCalled 65 = .ok (.iload_n 3, 1) := by decide +kernel
theorem dX12_readCalled_66 : decode cX12_readCalled 66 = .ok (.iadd, 1) := by decide +kernel
theorem dX12_readCalled_67 : decode cX12_readCalled 67 = .ok (.iaload, 1) := by decide +kernel
theorem dX12_readCalled_68 : decode cX12_readCalled 68 = .ok (.invokevirtual 218, 3) := by decide +kernel
theorem dX12_readCalled_71 : decode cX12_readCalled 71 = .ok (.ireturn, 1) := by decide +kernel
theorem dX12_readWhen_0 : decode cX12_readWhen 0 = .ok (.aload_n 0, 1) := by decide +kernel
theorem dX12_readWhen_1 : decode cX12_readWhen 1 = .ok (.iload_n 1, 1) := by decide +kernel
theorem dX12_readWhen_2 : decode cX12_readWhen 2 = .ok (.iconst 0, 1) := by decide +kernel
theorem dX12_readWhen_3 : decode cX12_readWhen 3 = .ok (.invokevirtual 214, 3) := by decide +kernel
theorem dX12_readWhen_6 : decode cX12_readWhen 6 = .ok (.ifCond .eq 12, 3) := by decide +kernel
theorem dX12_readWhen_9 : decode cX12_readWhen 9 = .ok (.aload_n 0, 1) := by decide +kernel
theorem dX12_readWhen_10 : decode cX12_readWhen 10 = .ok (.iload_n 1, 1) := by decide +kernel
theorem dX12_readWhen_11 : decode cX12_readWhen 11 = .ok (.iconst 1, 1) := by decide +kernel
theorem dX12_readWhen_12 : decode cX12_readWhen 12 = .ok (.invokevirtual 221, 3) := by decide +kernel
theorem dX12_readWhen_15 : decode cX12_readWhen 15 = .ok (.ifCond .ne 5, 3) := by decide +kernel
theorem dX12_readWhen_18 : decode cX12_readWhen 18 = .ok (.iconst 0, 1) := by decide +kernel
theorem dX12_readWhen_19 : decode cX12_readWhen 19 = .ok (.ireturn, 1) := by decide +kernel
theorem dX12_readWhen_20 : decode cX12_readWhen 20 = .ok (.aload_n 0, 1) := by decide +kernel
theorem dX12_readWhen_21 : decode cX12_readWhen 21 = .ok (.bipush 10, 2) := by decide +kernel
theorem dX12_readWhen_23 : decode cX12_readWhen 23 = .ok (.invokevirtual 224, 3) := by decide +kernel
theorem dX12_readWhen_26 : decode cX12_readWhen 26 = .ok (.ifCond .ne 9, 3) := by decide +kernel
theorem dX12_readWhen_29 : decode cX12_readWhen 29 = .ok (.aload_n 0, 1) := by decide +kernel
theorem dX12_readWhen_30 : decode cX12_readWhen 30 = .ok (.iconst 1, 1) := by decide +kernel
theorem dX12_readWhen_31 : decode cX12_readWhen 31 = .ok (.invokevirtual 72, 3) := by decide +kernel
theorem dX12_readWhen_34 : decode cX12_readWhen 34 = .ok (.ireturn, 1) := by decide +kernel
theorem dX12_readWhen_35 : decode cX12_readWhen 35 = .ok (.aload_n 0, 1) := by decide +kernel
theorem dX12_readWhen_36 : decode cX12_readWhen 36 = .ok (.invokevirtual 82, 3) := by decide +kernel
theorem dX12_readWhen_39 : decode cX12_readWhen 39 = .ok (.aload_n 0, 1) := by decide +kernel
theorem dX12_readWhen_40 : decode cX12_readWhen 40 = .ok (.iload_n 1, 1) := by decide +kernel
theorem dX12_readWhen_41 : decode cX12_readWhen 41 = .ok (.iconst 4, 1) := by decide +kernel
theorem dX12_readWhen_42 : decode cX12_readWhen 42 = .ok (.invokevirtual 214, 3) := by decide +kernel
theorem dX12_readWhen_45 : decode cX12_readWhen 45 = .ok (.ireturn, 1) := by decide +kernel
theorem dX12_readExpr_0 : decode cX12_readExpr 0 = .ok (.aload_n 0, 1) := by decide +kernel
theorem dX12_readExpr_1 : decode cX12_readExpr 1 = .ok (.getfield 30, 3) := by decide +kernel
theorem dX12_readExpr_4 : decode cX12_readExpr 4 = .ok (.iconst 3, 1) := by decide +kernel
theorem dX12_readExpr_5 : decode cX12_readExpr 5 = .ok (.if_icmp .ne 33, 3) := by decide +kernel
theorem dX12_readExpr_8 : decode cX12_readExpr 8 = .ok (.aload_n 0, 1) := by decide +kernel
theorem dX12_readExpr_9 : decode cX12_readExpr 9 = .ok (.getfield 101, 3) := by decide +kernel
theorem dX12_readExpr_12 : decode cX12_readExpr 12 = .ok (.bipush 18, 2) := by decide +kernel
theorem dX12_readExpr_14 : decode cX12_readExpr 14 = .ok (.iload_n 1, 1) := by decide +kernel
theorem dX12_readExpr_15 : decode cX12_readExpr 15 = .ok (.iadd, 1) := by decide +kernel
theorem dX12_readExpr_16 : decode cX12_readExpr 16 = .ok (.iconst 0, 1) := by decide +kernel
theorem dX12_readExpr_17 : decode cX12_readExpr 17 = .ok (.iastore, 1) := by decide +kernel
theorem dX12_readExpr_18 : decode cX12_readExpr 18 = .ok (.aload_n 0, 1) := by decide +kernel
theorem dX12_readExpr_19 : decode cX12_readExpr 19 = .ok (.getfield 101, 3) := by decide +kernel
theorem dX12_readExpr_22 : decode cX12_readExpr 22 = .ok (.sipush 186, 3) := by decide +kernel
theorem dX12_readExpr_25 : decode cX12_readExpr 25 = .ok (.iload_n 1, 1) := by decide +kernel
theorem dX12_readExpr_26 : decode cX12_readExpr 26 = .ok (.iadd, 1) := by decide +kernel
theorem dX12_readExpr_27 : decode cX12_readExpr 27 = .ok (.aload_n 0, 1) := by decide +kernel
theorem dX12_readExpr_28 : decode cX12_readExpr 28 = .ok (.getfield 47, 3) := by decide +kernel
theorem dX12_readExpr_31 : decode cX12_readExpr 31 = .ok (.iastore, 1) := by decide +kernel
theorem dX12_readExpr_32 : decode cX12_readExpr 32 = .ok (.aload_n 0, 1) := by decide +kernel
theorem dX12_readExpr_33 : decode cX12_readExpr 33 = .ok (.invokevirtual 82, 3) := by decide +kernel
theorem dX12_readExpr_36 : decode cX12_readExpr 36 = .ok (.iconst 1, 1) := by decide +kernel
theorem dX12_readExpr_37 : decode cX12_readExpr 37 = .ok (.ireturn, 1) := by decide +kernel
theorem dX12_readExpr_38 : decode cX12_readExpr 38 = .ok (.aload_n 0, 1) := by decide +kernel
theorem dX12_readExpr_39 : decode cX12_readExpr 39 = .ok (.invokevirtual 208, 3) := by decide +kernel
theorem dX12_readExpr_42 : decode cX12_readExpr 42 = .ok (.ifCond .eq 7, 3) := by decide +kernel
theorem dX12_readExpr_45 : decode cX12_readExpr 45 = .ok (.iconst 1, 1) := by decide +kernel
theorem dX12_readExpr_46 : decode cX12_readExpr 46 = .ok (.goto 4, 3) := by decide +kernel
theorem dX12_readExpr_49 : decode cX12_readExpr 49 = .ok (.iconst (-1), 1) := by decide +kernel
theorem dX12_readExpr_50 : decode cX12_readExpr 50 = .ok (.istore_n 2, 1) := by decide +kernel
theorem dX12_readExpr_51 : decode cX12_readExpr 51 = .ok (.iconst 2, 1) := by decide +kernel
theorem dX12_readExpr_52 : decode cX12_readExpr 52 = .ok (.istore_n 3, 1) := by decide +kernel
theorem dX12_readExpr_53 : decode cX12_readExpr 53 = .ok (.iload_n 3, 1) := by decide +kernel
theorem dX12_readExpr_54 : decode cX12_readExpr 54 = .ok (.bipush 9, 2) := by decide +kernel
theorem dX12_readExpr_56 : decode cX12_readExpr 56 = .ok (.if_icmp .gt 23, 3) := by decide +kernel
theorem dX12_readExpr_59 : decode cX12_readExpr 59 = .ok (.aload_n 0, 1) := by decide +kernel
theorem dX12_readExpr_60 : decode cX12_readExpr 60 = .ok (.iload_n 3, 1) := by decide +kernel
theorem dX12_readExpr_61 : decode cX12_readExpr 61 = .ok (.invokevirtual 224, 3) := by decide +kernel
theorem dX12_readExpr_64 : decode cX12_readExpr 64 = .ok (.ifCond .eq 9, 3) := by decide +kernel
theorem dX12_readExpr_67 : decode cX12_readExpr 67 = .ok (.iconst 2, 1) := by decide +kernel
theorem dX12_readExpr_68 : decode cX12_readExpr 68 = .ok (.iload_n 3, 1) := by decide +kernel
theorem dX12_readExpr_69 : decode cX12_readExpr 69 = .ok (.iadd, 1) := by decide +kernel
theorem dX12_readExpr_70 : decode cX12_readExpr 70 = .ok (.iconst 2, 1) := by decide +kernel
theorem dX12_readExpr_71 : decode cX12_readExpr 71 = .ok (.isub, 1) := by decide +kernel
theorem dX12_readExpr_72 : decode cX12_readExpr 72 = .ok (.istore_n 2, 1) := by decide +kernel
theorem dX12_readExpr_73 : decode cX12_readExpr 73 = .ok (.iinc 3 1, 3) := by decide +kernel
theorem dX12_readExpr_76 : decode cX12_readExpr 76 = .ok (.goto (-23), 3) := by decide +kernel
theorem dX12_readExpr_79 : decode cX12_readExpr 79 = .ok (.iload_n 2, 1) := by decide +kernel
theorem dX12_readExpr_80 : decode cX12_readExpr 80 = .ok (.iconst (-1), 1) := by decide +kernel
theorem dX12_readExpr_81 : decode cX12_readExpr 81 = .ok (.if_icmp .ne 9, 3) := by decide +kernel
theorem dX12_readExpr_84 : decode cX12_readExpr 84 = .ok (.aload_n 0, 1) := by decide +kernel
theorem dX12_readExpr_85 : decode cX12_readExpr 85 = .ok (.iconst 1, 1) := by decide +kernel
theorem dX12_readExpr_86 : decode cX12_readExpr 86 = .ok (.invokevirtual 72, 3) := by decide +kernel
theorem dX12_readExpr_89 : decode cX12_readExpr 89 = .ok (.ireturn, 1) := by decide +kernel
theorem dX12_readExpr_90 : decode cX12_readExpr 90 = .ok (.aload_n 0, 1) := by decide +kernel
theorem dX12_readExpr_91 : decode cX12_readExpr 91 = .ok (.getfield 101, 3) := by decide +kernel
theorem dX12_readExpr_94 : decode cX12_readExpr 94 = .ok (.bipush 18, 2) := by decide +kernel
theorem dX12_readExpr_96 : decode cX12_readExpr 96 = .ok (.iload_n 1, 1) := by decide +kernel
theorem dX12_readExpr_97 : decode cX12_readExpr 97 = .ok (.iadd, 1) := by decide +kernel
theorem dX12_readExpr_98 : decode cX12_readExpr 98 = .ok (.iload_n 2, 1) := by decide +kernel
theorem dX12_readExpr_99 : decode cX12_readExpr 99 = .ok (.iastore, 1) := by decide +kernel
theorem dX12_readExpr_100 : decode cX12_readExpr 100 = .ok (.iload_n 2, 1) := by decide +kernel
theorem dX12_readExpr_101 : decode cX12_readExpr 101 = .ok (.iconst 1, 1) := by decide +kernel
theorem dX12_readExpr_102 : decode cX12_readExpr 102 = .ok (.if_icmp .eq 7, 3) := by decide +kernel
theorem dX12_readExpr_105 : decode cX12_readExpr 105 = .ok (.aload_n 0, 1) := by decide +kernel
theorem dX12_readExpr_106 : decode cX12_readExpr 106 = .ok (.invokevirtual 82, 3) := by decide +kernel
theorem dX12_readExpr_109 : decode cX12_readExpr 109 = .ok (.iload_n 2, 1) := by decide +kernel
theorem dX12_readExpr_110 : decode cX12_readExpr 110 = .ok (.tableswitch 76 1 8 #[46, 53, 46, 46, 53, 53, 61, 69], 46) := by decide +kernel
theorem dX12_readExpr_156 : decode cX12_readExpr 156 = .ok (.aload_n 0, 1) := by decide +kernel
theorem dX12_readExpr_157 : decode cX12_readExpr 157 = .ok (.iload_n 1, 1) := by decide +kernel
theorem dX12_readExpr_158 : decode cX12_readExpr 158 = .ok (.iconst 0, 1) := by decide +kernel
theorem dX12_readExpr_159 : decode cX12_readExpr 159 = .ok (.invokevirtual 214, 3) := by decide +kernel
theorem dX12_readExpr_162 : decode cX12_readExpr 162 = .ok (.ireturn, 1) := by decide +kernel
theorem dX12_readExpr_163 : decode cX12_readExpr 163 = .ok (.aload_n 0, 1) := by decide +kernel
theorem dX12_readExpr_164 : decode cX12_readExpr 164 = .ok (.iload_n 1, 1) := by decide +kernel
theorem dX12_readExpr_165 : decode cX12_readExpr 165 = .ok (.iconst 0, 1) := by decide +kernel
theorem dX12_readExpr_166 : decode cX12_readExpr 166 = .ok (.iconst 2, 1) := by decide +kernel
theorem dX12_readExpr_167 : decode cX12_readExpr 167 = .ok (.invokevirtual 218, 3) := by decide +kernel
theorem dX12_readExpr_170 : decode cX12_readExpr 170 = .ok (.ireturn, 1) := by decide +kernel
theorem dX12_readExpr_171 : decode cX12_readExpr 171 = .ok (.aload_n 0, 1) := by decide +kernel
theorem dX12_readExpr_172 : decode cX12_readExpr 172 = .ok (.iload_n 1, 1) := by decide +kernel
theorem dX12_readExpr_173 : decode cX12_readExpr 173 = .ok (.iconst 0, 1) := by decide +kernel
theorem dX12_readExpr_174 : decode cX12_readExpr 174 = .ok (.iconst 3, 1) := by decide +kernel
theorem dX12_readExpr_175 : decode cX12_readExpr 175 = .ok (.invokevirtual 218, 3) := by decide +kernel
theorem dX12_readExpr_178 : decode cX12_readExpr 178 = .ok (.ireturn, 1) := by decide +kernel
theorem dX12_readExpr_179 : decode cX12_readExpr 179 = .ok (.aload_n 0, 1) := by decide +kernel
theorem dX12_readExpr_180 : decode cX12_readExpr 180 = .ok (.iload_n 1, 1) := by decide +kernel
theorem dX12_readExpr_181 : decode cX12_readExpr 181 = .ok (.iconst 0, 1) := by decide +kernel
theorem dX12_readExpr_182 : decode cX12_readExpr 182 = .ok (.invokevirtual 221, 3) := by decide +kernel
theorem dX12_readExpr_185 : decode cX12_readExpr 185 = .ok (.ireturn, 1) := by decide +kernel
theorem dX12_readExpr_186 : decode cX12_readExpr 186 = .ok (.aload_n 0, 1) := by decide +kernel
theorem dX12_readExpr_187 : decode cX12_readExpr 187 = .ok (.iload_n 1, 1) := by decide +kernel
theorem dX12_readExpr_188 : decode cX12_readExpr 188 = .ok (.invokevirtual 227, 3) := by decide +kernel
theorem dX12_readExpr_191 : decode cX12_readExpr 191 = .ok (.ireturn, 1) := by decide +kernel
theorem dX12_readIs_0 : decode cX12_readIs 0 = .ok (.aload_n 0, 1) := by decide +kernel
theorem dX12_readIs_1 : decode cX12_readIs 1 = .ok (.invokevirtual 208, 3) := by decide +kernel
theorem dX12_readIs_4 : decode cX12_readIs 4 = .ok (.ifCond .ne 9, 3) := by decide +kernel
theorem dX12_readIs_7 : decode cX12_readIs 7 = .ok (.aload_n 0, 1) := by decide +kernel
theorem dX12_readIs_8 : decode cX12_readIs 8 = .ok (.iconst 1, 1) := by decide +kernel
theorem dX12_readIs_9 : decode cX12_readIs 9 = .ok (.invokevirtual 72, 3) := by decide +kernel
theorem dX12_readIs_12 : decode cX12_readIs 12 = .ok (.ireturn, 1) := by decide +kernel
theorem dX12_readIs_13 : decode cX12_readIs 13 = .ok (.aload_n 0, 1) := by decide +kernel
theorem dX12_readIs_14 : decode cX12_readIs 14 = .ok (.getfield 101, 3) := by decide +kernel
theorem dX12_readIs_17 : decode cX12_readIs 17 = .ok (.iconst 0, 1) := by decide +kernel
theorem dX12_readIs_18 : decode cX12_readIs 18 = .ok (.iaload, 1) := by decide +kernel
theorem dX12_readIs_19 : decode cX12_readIs 19 = .ok (.ifCond .ne 9, 3) := by decide +kernel
theorem dX12_readIs_22 : decode cX12_readIs 22 = .ok (.aload_n 0, 1) := by decide +kernel
theorem dX12_readIs_23 : decode cX12_readIs 23 = .ok (.iconst 4, 1) := by decide +kernel
theorem dX12_readIs_24 : decode cX12_readIs 24 = .ok (.invokevirtual 72, 3) := by decide +kernel
theorem dX12_readIs_27 : decode cX12_readIs 27 = .ok (.ireturn, 1) := by decide +kernel
theorem dX12_readIs_28 : decode cX12_readIs 28 = .ok (.aload_n 0, 1) := by decide +kernel
theorem dX12_readIs_29 : decode cX12_readIs 29 = .ok (.invokevirtual 201, 3) := by decide +kernel
theorem dX12_readIs_32 : decode cX12_readIs 32 = .ok (.iconst (-1), 1) := by decide +kernel
theorem dX12_readIs_33 : decode cX12_readIs 33 = .ok (.if_icmp .eq 9, 3) := by decide +kernel
theorem dX12_readIs_36 : decode cX12_readIs 36 = .ok (.aload_n 0, 1) := by decide +kernel
theorem dX12_readIs_37 : decode cX12_readIs 37 = .ok (.iconst 3, 1) := by decide +kernel
theorem dX12_readIs_38 : decode cX12_readIs 38 = .ok (.invokevirtual 72, 3) := by decide +kernel
theorem dX12_readIs_41 : decode cX12_readIs 41 = .ok (.ireturn, 1) := by decide +kernel
theorem dX12_readIs_42 : decode cX12_readIs 42 = .ok (.aload_n 0, 1) := by decide +kernel
theorem dX12_readIs_43 : decode cX12_readIs 43 = .ok (.getfield 101, 3) := by decide +kernel
theorem dX12_readIs_46 : decode cX12_readIs 46 = .ok (.iconst 1, 1) := by decide +kernel
theorem dX12_readIs_47 : decode cX12_readIs 47 = .ok (.iaload, 1) := by decide +kernel
theorem dX12_readIs_48 : decode cX12_readIs 48 = .ok (.bipush 24, 2) := by decide +kernel
theorem dX12_readIs_50 : decode cX12_readIs 50 = .ok (.if_icmp .ne 9, 3) := by decide +kernel
theorem dX12_readIs_53 : decode cX12_readIs 53 = .ok (.aload_n 0, 1) := by decide +kernel
theorem dX12_readIs_54 : decode cX12_readIs 54 = .ok (.iconst 4, 1) := by decide +kernel
theorem dX12_readIs_55 : decode cX12_readIs 55 = .ok (.invokevirtual 72, 3) := by decide +kernel
theorem dX12_readIs_58 : decode cX12_readIs 58 = .ok (.ireturn, 1) := by decide +kernel
theorem dX12_readIs_59 : decode cX12_readIs 59 = .ok (.aload_n 0, 1) := by decide +kernel
theorem dX12_readIs_60 : decode cX12_readIs 60 = .ok (.getfield 43, 3) := by decide +kernel
theorem dX12_readIs_63 : decode cX12_readIs 63 = .ok (.lstore_n 1, 1) := by decide +kernel
theorem dX12_readIs_64 : decode cX12_readIs 64 = .ok (.aload_n 0, 1) := by decide +kernel
theorem dX12_readIs_65 : decode cX12_readIs 65 = .ok (.invokevirtual 190, 3) := by decide +kernel
theorem dX12_readIs_68 : decode cX12_readIs 68 = .ok (.istore_n 3, 1) := by decide +kernel
theorem dX12_readIs_69 : decode cX12_readIs 69 = .ok (.aload_n 0, 1) := by decide +kernel
theorem dX12_readIs_70 : decode cX12_readIs 70 = .ok (.invokevirtual 82, 3) := by decide +kernel
theorem dX12_readIs_73 : decode cX12_readIs 73 = .ok (.aload_n 0, 1) := by decide +kernel
theorem dX12_readIs_74 : decode cX12_readIs 74 = .ok (.iconst 1, 1) := by decide +kernel
theorem dX12_readIs_75 : decode cX12_readIs 75 = .ok (.invokevirtual 224, 3) := by decide +kernel
theorem dX12_readIs_78 : decode cX12_readIs 78 = .ok (.ifCond .ne 9, 3) := by decide +kernel
theorem dX12_readIs_81 : decode cX12_readIs 81 = .ok (.aload_n 0, 1) := by decide +kernel
theorem dX12_readIs_82 : decode cX12_readIs 82 = .ok (.iconst 1, 1) := by decide +kernel
theorem dX12_readIs_83 : decode cX12_readIs 83 = .ok (.invokevirtual 72, 3) := by decide +kernel
theorem dX12_readIs_86 : decode cX12_readIs 86 = .ok (.ireturn, 1) := by decide +kernel
theorem dX12_readIs_87 : decode cX12_readIs 87 = .ok (.aload_n 0, 1) := by decide +kernel
theorem dX12_readIs_88 : decode cX12_readIs 88 = .ok (.invokevirtual 82, 3) := by decide +kernel
theorem dX12_readIs_91 : decode cX12_readIs 91 = .ok (.aload_n 0, 1) := by decide +kernel
theorem dX12_readIs_92 : decode cX12_readIs 92 = .ok (.getfield 101, 3) := by decide +kernel
theorem dX12_readIs_95 : decode cX12_readIs 95 = .ok (.iconst 1, 1) := by decide +kernel
theorem dX12_readIs_96 : decode cX12_readIs 96 = .ok (.iaload, 1) := by decide +kernel
theorem dX12_readIs_97 : decode cX12_readIs 97 = .ok (.istore 4, 2) := by decide +kernel
theorem dX12_readIs_99 : decode cX12_readIs 99 = .ok (.iconst 0, 1) := by decide +kernel
theorem dX12_readIs_100 : decode cX12_readIs 100 = .ok (.istore 5, 2) := by decide +kernel
theorem dX12_readIs_102 : decode cX12_readIs 102 = .ok (.iload 5, 2) := by decide +kernel
theorem dX12_readIs_104 : decode cX12_readIs 104 = .ok (.iconst 5, 1) := by decide +kernel
theorem dX12_readIs_105 : decode cX12_readIs 105 = .ok (.if_icmp .ge 25, 3) := by decide +kernel
theorem dX12_readIs_108 : decode cX12_readIs 108 = .ok (.aload_n 0, 1) := by decide +kernel
theorem dX12_readIs_109 : decode cX12_readIs 109 = .ok (.getfield 101, 3) := by decide +kernel
theorem dX12_readIs_112 : decode cX12_readIs 112 = .ok (.bipush 66, 2) := by decide +kernel
theorem dX12_readIs_114 : decode cX12_readIs 114 = .ok (.iconst 5, 1) := by decide +kernel
theorem dX12_readIs_115 : decode cX12_readIs 115 = .ok (.iload 4, 2) := by decide +kernel
theorem dX12_readIs_117 : decode cX12_readIs 117 = .ok (.imul, 1) := by decide +kernel
theorem dX12_readIs_118 : decode cX12_readIs 118 = .ok (.iadd, 1) := by decide +kernel
theorem dX12_readIs_119 : decode cX12_readIs 119 = .ok (.iload 5, 2) := by decide +kernel
theorem dX12_readIs_121 : decode cX12_readIs 121 = .ok (.iadd, 1) := by decide +kernel
theorem dX12_readIs_122 : decode cX12_readIs 122 = .ok (.iconst (-1), 1) := by decide +kernel
theorem dX12_readIs_123 : decode cX12_readIs 123 = .ok (.iastore, 1) := by decide +kernel
theorem dX12_readIs_124 : decode cX12_readIs 124 = .ok (.iinc 5 1, 3) := by decide +kernel
theorem dX12_readIs_127 : decode cX12_readIs 127 = .ok (.goto (-25), 3) := by decide +kernel
theorem dX12_readIs_130 : decode cX12_readIs 130 = .ok (.aload_n 0, 1) := by decide +kernel
theorem dX12_readIs_131 : decode cX12_readIs 131 = .ok (.getfield 101, 3) := by decide +kernel
theorem dX12_readIs_134 : decode cX12_readIs 134 = .ok (.bipush 42, 2) := by decide +kernel
theorem dX12_readIs_136 : decode cX12_readIs 136 = .ok (.iload 4, 2) := by decide +kernel
theorem dX12_readIs_138 : decode cX12_readIs 138 = .ok (.iadd, 1) := by decide +kernel
theorem dX12_readIs_139 : decode cX12_readIs 139 = .ok (.iconst (-1), 1) := by decide +kernel
theorem dX12_readIs_140 : decode cX12_readIs 140 = .ok (.iastore, 1) := by decide +kernel
theorem dX12_readIs_141 : decode cX12_readIs 141 = .ok (.aload_n 0, 1) := by decide +kernel
theorem dX12_readIs_142 : decode cX12_readIs 142 = .ok (.iload 4, 2) := by decide +kernel
theorem dX12_readIs_144 : decode cX12_readIs 144 = .ok (.invokevirtual 230, 3) := by decide +kernel
theorem dX12_readIs_147 : decode cX12_readIs 147 = .ok (.ifCond .ne 5, 3) := by decide +kernel
theorem dX12_readIs_150 : decode cX12_readIs 150 = .ok (.iconst 0, 1) := by decide +kernel
theorem dX12_readIs_151 : decode cX12_readIs 151 = .ok (.ireturn, 1) := by decide +kernel
theorem dX12_readIs_152 : decode cX12_readIs 152 = .ok (.aload_n 0, 1) := by decide +kernel
theorem dX12_readIs_153 : decode cX12_readIs 153 = .ok (.getfield 123, 3) := by decide +kernel
theorem dX12_readIs_156 : decode cX12_readIs 156 = .ok (.bipush 27, 2) := by decide +kernel
theorem dX12_readIs_158 : decode cX12_readIs 158 = .ok (.iload_n 3, 1) := by decide +kernel
theorem dX12_readIs_159 : decode cX12_readIs 159 = .ok (.imul, 1) := by decide +kernel
theorem dX12_readIs_160 : decode cX12_readIs 160 = .ok (.aload_n 0, 1) := by decide +kernel
theorem dX12_readIs_161 : decode cX12_readIs 161 = .ok (.aload_n 0, 1) := by decide +kernel
theorem dX12_readIs_162 : decode cX12_readIs 162 = .ok (.getfield 101, 3) := by decide +kernel
theorem dX12_readIs_165 : decode cX12_readIs 165 = .ok (.iload_n 3, 1) := by decide +kernel
theorem dX12_readIs_166 : decode cX12_readIs 166 = .ok (.invokevirtual 193, 3) := by decide +kernel
theorem dX12_readIs_169 : decode cX12_readIs 169 = .ok (.iadd, 1) := by decide +kernel
theorem dX12_readIs_170 : decode cX12_readIs 170 = .ok (.lload_n 1, 1) := by decide +kernel
theorem dX12_readIs_171 : decode cX12_readIs 171 = .ok (.lastore, 1) := by decide +kernel
theorem dX12_readIs_172 : decode cX12_readIs 172 = .ok (.aload_n 0, 1) := by decide +kernel
theorem dX12_readIs_173 : decode cX12_readIs 173 = .ok (.getfield 101, 3) := by decide +kernel
theorem dX12_readIs_176 : decode cX12_readIs 176 = .ok (.bipush 13, 2) := by decide +kernel
theorem dX12_readIs_178 : decode cX12_readIs 178 = .ok (.iload_n 3, 1) := by decide +kernel
theorem dX12_readIs_179 : decode cX12_readIs 179 = .ok (.iadd, 1) := by decide +kernel
theorem dX12_readIs_180 : decode cX12_readIs 180 = .ok (.dup2, 1) := by decide +kernel
theorem dX12_readIs_181 : decode cX12_readIs 181 = .ok (.iaload, 1) := by decide +kernel
theorem dX12_readIs_182 : decode cX12_readIs 182 = .ok (.iconst 1, 1) := by decide +kernel
theorem dX12_readIs_183 : decode cX12_readIs 183 = .ok (.iadd, 1) := by decide +kernel
theorem dX12_readIs_184 : decode cX12_readIs 184 = .ok (.iastore, 1) := by decide +kernel
theorem dX12_readIs_185 : decode cX12_readIs 185 = .ok (.aload_n 0, 1) := by decide +kernel
theorem dX12_readIs_186 : decode cX12_readIs 186 = .ok (.getfield 101, 3) := by decide +kernel
theorem dX12_readIs_189 : decode cX12_readIs 189 = .ok (.iconst 1, 1) := by decide +kernel
theorem dX12_readIs_190 : decode cX12_readIs 190 = .ok (.dup2, 1) := by decide +kernel
theorem dX12_readIs_191 : decode cX12_readIs 191 = .ok (.iaload, 1) := by decide +kernel
theorem dX12_readIs_192 : decode cX12_readIs 192 = .ok (.iconst 1, 1) := by decide +kernel
theorem dX12_readIs_193 : decode cX12_readIs 193 = .ok (.iadd, 1) := by decide +kernel
theorem dX12_readIs_194 : decode cX12_readIs 194 = .ok (.iastore, 1) := by decide +kernel
theorem dX12_readIs_195 : decode cX12_readIs 195 = .ok (.iconst 1, 1) := by decide +kernel
theorem dX12_readIs_196 : decode cX12_readIs 196 = .ok (.ireturn, 1) := by decide +kernel
theorem dX12_program_0 : decode cX12_program 0 = .ok (.aload_n 0, 1) := by decide +kernel
theorem dX12_program_1 : decode cX12_program 1 = .ok (.sipush 900, 3) := by decide +kernel
theorem dX12_program_4 : decode cX12_program 4 = .ok (.invokevirtual 233, 3) := by decide +kernel
theorem dX12_program_7 : decode cX12_program 7 = .ok (.iconst 0, 1) := by decide +kernel
theorem dX12_program_8 : decode cX12_program 8 = .ok (.istore_n 1, 1) := by decide +kernel
theorem dX12_program_9 : decode cX12_program 9 = .ok (.iload_n 1, 1) := by decide +kernel
theorem dX12_program_10 : decode cX12_program 10 = .ok (.sipush 210, 3) := by decide +kernel
theorem dX12_program_13 : decode cX12_program 13 = .ok (.if_icmp .ge 16, 3) := by decide +kernel
theorem dX12_program_16 : decode cX12_program 16 = .ok (.aload_n 0, 1) := by decide +kernel
theorem dX12_program_17 : decode cX12_program 17 = .ok (.getfield 101, 3) := by decide +kernel
theorem dX12_program_20 : decode cX12_program 20 = .ok (.iload_n 1, 1) := by decide +kernel
theorem dX12_program_21 : decode cX12_program 21 = .ok (.iconst 0, 1) := by decide +kernel
theorem dX12_program_22 : decode cX12_program 22 = .ok (.iastore, 1) := by decide +kernel
theorem dX12_program_23 : decode cX12_program 23 = .ok (.iinc 1 1, 3) := by decide +kernel
theorem dX12_program_26 : decode cX12_program 26 = .ok (.goto (-17), 3) := by decide +kernel
theorem dX12_program_29 : decode cX12_program 29 = .ok (.iconst 0, 1) := by decide +kernel
theorem dX12_program_30 : decode cX12_program 30 = .ok (.istore_n 1, 1) := by decide +kernel
theorem dX12_program_31 : decode cX12_program 31 = .ok (.aload_n 0, 1) := by decide +kernel
theorem dX12_program_32 : decode cX12_program 32 = .ok (.getfield 30, 3) := by decide +kernel
theorem dX12_program_35 : decode cX12_program 35 = .ok (.ifCond .eq 48, 3) := by decide +kernel
theorem dX12_program_38 : decode cX12_program 38 = .ok (.aload_n 0, 1) := by decide +kernel
theorem dX12_program_39 : decode cX12_program 39 = .ok (.iconst 0, 1) := by decide +kernel
theorem dX12_program_40 : decode cX12_program 40 = .ok (.invokevirtual 224, 3) := by decide +kernel
theorem dX12_program_43 : decode cX12_program 43 = .ok (.ifCond .eq 13, 3) := by decide +kernel
theorem dX12_program_46 : decode cX12_program 46 = .ok (.aload_n 0, 1) := by decide +kernel
theorem dX12_program_47 : decode cX12_program 47 = .ok (.invokevirtual 236, 3) := by decide +kernel
theorem dX12_program_50 : decode cX12_program 50 = .ok (.ifCond .eq 20, 3) := by decide +kernel
theorem dX12_program_53 : decode cX12_program 53 = .ok (.goto 10, 3) := by decide +kernel
theorem dX12_program_56 : decode cX12_program 56 = .ok (.aload_n 0, 1) := by decide +kernel
theorem dX12_program_57 : decode cX12_program 57 = .ok (.invokevirtual 239, 3) := by decide +kernel
theorem dX12_program_60 : decode cX12_program 60 = .ok (.ifCond .eq 10, 3) := by decide +kernel
theorem dX12_program_63 : decode cX12_program 63 = .ok (.aload_n 0, 1) := by decide +kernel
theorem dX12_program_64 : decode cX12_program 64 = .ok (.invokevirtual 242, 3) := by decide +kernel
theorem dX12_program_67 : decode cX12_program 67 = .ok (.ifCond .ne 10, 3) := by decide +kernel
theorem dX12_program_70 : decode cX12_program 70 = .ok (.iconst (-1), 1) := by decide +kernel
theorem dX12_program_71 : decode cX12_program 71 = .ok (.aload_n 0, 1) := by decide +kernel
theorem dX12_program_72 : decode cX12_program 72 = .ok (.getfield 69, 3) := by decide +kernel
theorem dX12_program_75 : decode cX12_program 75 = .ok (.isub, 1) := by decide +kernel
theorem dX12_program_76 : decode cX12_program 76 = .ok (.ireturn, 1) := by decide +kernel
theorem dX12_program_77 : decode cX12_program 77 = .ok (.iinc 1 1, 3) := by decide +kernel
theorem dX12_program_80 : decode cX12_program 80 = .ok (.goto (-49), 3) := by decide +kernel
theorem dX12_program_83 : decode cX12_program 83 = .ok (.aload_n 0, 1) := by decide +kernel
theorem dX12_program_84 : decode cX12_program 84 = .ok (.invokevirtual 204, 3) := by decide +kernel
theorem dX12_program_87 : decode cX12_program 87 = .ok (.ifCond .eq 16, 3) := by decide +kernel
theorem dX12_program_90 : decode cX12_program 90 = .ok (.aload_n 0, 1) := by decide +kernel
theorem dX12_program_91 : decode cX12_program 91 = .ok (.iconst 3, 1) := by decide +kernel
theorem dX12_program_92 : decode cX12_program 92 = .ok (.invokevirtual 72, 3) := by decide +kernel
theorem dX12_program_95 : decode cX12_program 95 = .ok (.pop, 1) := by decide +kernel
theorem dX12_program_96 : decode cX12_program 96 = .ok (.iconst (-1), 1) := by decide +kernel
theorem dX12_program_97 : decode cX12_program 97 = .ok (.aload_n 0, 1) := by decide +kernel
theorem dX12_program_98 : decode cX12_program 98 = .ok (.getfield 69, 3) := by decide +kernel
theorem dX12_program_101 : decode cX12_program 101 = .ok (.isub, 1) := by decide +kernel
theorem dX12_program_102 : decode cX12_program 102 = .ok (.ireturn, 1) := by decide +kernel
theorem dX12_program_103 : decode cX12_program 103 = .ok (.iconst 0, 1) := by decide +kernel
theorem dX12_program_104 : decode cX12_program 104 = .ok (.istore_n 2, 1) := by decide +kernel
theorem dX12_program_105 : decode cX12_program 105 = .ok (.iload_n 2, 1) := by decide +kernel
theorem dX12_program_106 : decode cX12_program 106 = .ok (.sipush 210, 3) := by decide +kernel
theorem dX12_program_109 : decode cX12_program 109 = .ok (.if_icmp .ge 21, 3) := by decide +kernel
theorem dX12_program_112 : decode cX12_program 112 = .ok (.aload_n 0, 1) := by decide +kernel
theorem dX12_program_113 : decode cX12_program 113 = .ok (.getfield 98, 3) := by decide +kernel
theorem dX12_program_116 : decode cX12_program 116 = .ok (.iload_n 2, 1) := by decide +kernel
theorem dX12_program_117 : decode cX12_program 117 = .ok (.aload_n 0, 1) := by decide +kernel
theorem dX12_program_118 : decode cX12_program 118 = .ok (.getfield 101, 3) := by decide +kernel
theorem dX12_program_121 : decode cX12_program 121 = .ok (.iload_n 2, 1) := by decide +kernel
theorem dX12_program_122 : decode cX12_program 122 = .ok (.iaload, 1) := by decide +kernel
theorem dX12_program_123 : decode cX12_program 123 = .ok (.iastore, 1) := by decide +kernel
theorem dX12_program_124 : decode cX12_program 124 = .ok (.iinc 2 1, 3) := by decide +kernel
theorem dX12_program_127 : decode cX12_program 127 = .ok (.goto (-22), 3) := by decide +kernel
theorem dX12_program_130 : decode cX12_program 130 = .ok (.iconst 0, 1) := by decide +kernel
theorem dX12_program_131 : decode cX12_program 131 = .ok (.istore_n 2, 1) := by decide +kernel
theorem dX12_program_132 : decode cX12_program 132 = .ok (.iload_n 2, 1) := by decide +kernel
theorem dX12_program_133 : decode cX12_program 133 = .ok (.iconst 5, 1) := by decide +kernel
theorem dX12_program_134 : decode cX12_program 134 = .ok (.if_icmp .ge 21, 3) := by decide +kernel
theorem dX12_program_137 : decode cX12_program 137 = .ok (.aload_n 0, 1) := by decide +kernel
theorem dX12_program_138 : decode cX12_program 138 = .ok (.getfield 113, 3) := by decide +kernel
theorem dX12_program_141 : decode cX12_program 141 = .ok (.iload_n 2, 1) := by decide +kernel
theorem dX12_program_142 : decode cX12_program 142 = .ok (.aload_n 0, 1) := by decide +kernel
theorem dX12_program_143 : decode cX12_program 143 = .ok (.getfield 117, 3) := by decide +kernel
theorem dX12_program_146 : decode cX12_program 146 = .ok (.iload_n 2, 1) := by decide +kernel
theorem dX12_program_147 : decode cX12_program 147 = .ok (.laload, 1) := by decide +kernel
theorem dX12_program_148 : decode cX12_program 148 = .ok (.lastore, 1) := by decide +kernel
theorem dX12_program_149 : decode cX12_program 149 = .ok (.iinc 2 1, 3) := by decide +kernel
theorem dX12_program_152 : decode cX12_program 152 = .ok (.goto (-20), 3) := by decide +kernel
theorem dX12_program_155 : decode cX12_program 155 = .ok (.aload_n 0, 1) := by decide +kernel
theorem dX12_program_156 : decode cX12_program 156 = .ok (.invokevirtual 184, 3) := by decide +kernel
theorem dX12_program_159 : decode cX12_program 159 = .ok (.aload_n 0, 1) := by decide +kernel
theorem dX12_program_160 : decode cX12_program 160 = .ok (.iconst 0, 1) := by decide +kernel
theorem dX12_program_161 : decode cX12_program 161 = .ok (.putfield 245, 3) := by decide +kernel
theorem dX12_program_164 : decode cX12_program 164 = .ok (.iload_n 1, 1) := by decide +kernel
theorem dX12_program_165 : decode cX12_program 165 = .ok (.ireturn, 1) := by decide +kernel
theorem dX12_fault_0 : decode cX12_fault 0 = .ok (.aload_n 0, 1) := by decide +kernel
theorem dX12_fault_1 : decode cX12_fault 1 = .ok (.iconst 0, 1) := by decide +kernel
theorem dX12_fault_2 : decode cX12_fault 2 = .ok (.putfield 1, 3) := by decide +kernel
theorem dX12_fault_5 : decode cX12_fault 5 = .ok (.aload_n 0, 1) := by decide +kernel
theorem dX12_fault_6 : decode cX12_fault 6 = .ok (.getfield 66, 3) := by decide +kernel
theorem dX12_fault_9 : decode cX12_fault 9 = .ok (.ireturn, 1) := by decide +kernel
theorem dX12_topOf_0 : decode cX12_topOf 0 = .ok (.iload_n 1, 1) := by decide +kernel
theorem dX12_topOf_1 : decode cX12_topOf 1 = .ok (.istore_n 2, 1) := by decide +kernel
theorem dX12_topOf_2 : decode cX12_topOf 2 = .ok (.aload_n 0, 1) := by decide +kernel
theorem dX12_topOf_3 : decode cX12_topOf 3 = .ok (.getfield 130, 3) := by decide +kernel
theorem dX12_topOf_6 : decode cX12_topOf 6 = .ok (.iload_n 2, 1) := by decide +kernel
theorem dX12_topOf_7 : decode cX12_topOf 7 = .ok (.iaload, 1) := by decide +kernel
theorem dX12_topOf_8 : decode cX12_topOf 8 = .ok (.iload_n 2, 1) := by decide +kernel
theorem dX12_topOf_9 : decode cX12_topOf 9 = .ok (.if_icmp .eq 13, 3) := by decide +kernel
theorem dX12_topOf_12 : decode cX12_topOf 12 = .ok (.aload_n 0, 1) := by decide +kernel
theorem dX12_topOf_13 : decode cX12_topOf 13 = .ok (.getfield 130, 3) := by decide +kernel
theorem dX12_topOf_16 : decode cX12_topOf 16 = .ok (.iload_n 2, 1) := by decide +kernel
theorem dX12_topOf_17 : decode cX12_topOf 17 = .ok (.iaload, 1) := by decide +kernel
theorem dX12_topOf_18 : decode cX12_topOf 18 = .ok (.istore_n 2, 1) := by decide +kernel
theorem dX12_topOf_19 : decode cX12_topOf 19 = .ok (.goto (-17), 3) := by decide +kernel
theorem dX12_topOf_22 : decode cX12_topOf 22 = .ok (.iload_n 2, 1) := by decide +kernel
theorem dX12_topOf_23 : decode cX12_topOf 23 = .ok (.ireturn, 1) := by decide +kernel
theorem dX12_sideNode_0 : decode cX12_sideNode 0 = .ok (.sipush 135, 3) := by decide +kernel
theorem dX12_sideNode_3 : decode cX12_sideNode 3 = .ok (.iconst 2, 1) := by decide +kernel
theorem dX12_sideNode_4 : decode cX12_sideNode 4 = .ok (.iload_n 1, 1) := by decide +kernel
theorem dX12_sideNode_5 : decode cX12_sideNode 5 = .ok (.imul, 1) := by decide +kernel
theorem dX12_sideNode_6 : decode cX12_sideNode 6 = .ok (.iadd, 1) := by decide +kernel
theorem dX12_sideNode_7 : decode cX12_sideNode 7 = .ok (.iload_n 2, 1) := by decide +kernel
theorem dX12_sideNode_8 : decode cX12_sideNode 8 = .ok (.iadd, 1) := by decide +kernel
theorem dX12_sideNode_9 : decode cX12_sideNode 9 = .ok (.ireturn, 1) := by decide +kernel
theorem dX12_join_0 : decode cX12_join 0 = .ok (.aload_n 0, 1) := by decide +kernel
theorem dX12_join_1 : decode cX12_join 1 = .ok (.iload_n 1, 1) := by decide +kernel
theorem dX12_join_2 : decode cX12_join 2 = .ok (.invokevirtual 248, 3) := by decide +kernel
theorem dX12_join_5 : decode cX12_join 5 = .ok (.istore_n 3, 1) := by decide +kernel
theorem dX12_join_6 : decode cX12_join 6 = .ok (.aload_n 0, 1) := by decide +kernel
theorem dX12_join_7 : decode cX12_join 7 = .ok (.iload_n 2, 1) := by decide +kernel
theorem dX12_join_8 : decode cX12_join 8 = .ok (.invokevirtual 248, 3) := by decide +kernel
theorem dX12_join_11 : decode cX12_join 11 = .ok (.istore 4, 2) := by decide +kernel
theorem dX12_join_13 : decode cX12_join 13 = .ok (.iload_n 3, 1) := by decide +kernel
theorem dX12_join_14 : decode cX12_join 14 = .ok (.iload 4, 2) := by decide +kernel
theorem dX12_join_16 : decode cX12_join 16 = .ok (.if_icmp .ne 4, 3) := by decide +kernel
theorem dX12_join_19 : decode cX12_join 19 = .ok (.return_, 1) := by decide +kernel
theorem dX12_join_20 : decode cX12_join 20 = .ok (.aload_n 0, 1) := by decide +kernel
theorem dX12_join_21 : decode cX12_join 21 = .ok (.getfield 130, 3) := by decide +kernel
theorem dX12_join_24 : decode cX12_join 24 = .ok (.iload 4, 2) := by decide +kernel
theorem dX12_join_26 : decode cX12_join 26 = .ok (.iload_n 3, 1) := by decide +kernel
theorem dX12_join_27 : decode cX12_join 27 = .ok (.iastore, 1) := by decide +kernel
theorem dX12_join_28 : decode cX12_join 28 = .ok (.aload_n 0, 1) := by decide +kernel
theorem dX12_join_29 : decode cX12_join 29 = .ok (.getfield 133, 3) := by decide +kernel
theorem dX12_join_32 : decode cX12_join 32 = .ok (.iload_n 3, 1) := by decide +kernel
theorem dX12_join_33 : decode cX12_join 33 = .ok (.iaload, 1) := by decide +kernel
theorem dX12_join_34 : decode cX12_join 34 = .ok (.istore 5, 2) := by decide +kernel
theorem dX12_join_36 : decode cX12_join 36 = .ok (.aload_n 0, 1) := by decide +kernel
theorem dX12_join_37 : decode cX12_join 37 = .ok (.getfield 133, 3) := by decide +kernel
theorem dX12_join_40 : decode cX12_join 40 = .ok (.iload 4, 2) := by decide +kernel
theorem dX12_join_42 : decode cX12_join 42 = .ok (.iaload, 1) := by decide +kernel
theorem dX12_join_43 : decode cX12_join 43 = .ok (.istore 6, 2) := by decide +kernel
theorem dX12_join_45 : decode cX12_join 45 = .ok (.iload 5, 2) := by decide +kernel
theorem dX12_join_47 : decode cX12_join 47 = .ok (.iconst (-1), 1) := by decide +kernel
theorem dX12_join_48 : decode cX12_join 48 = .ok (.if_icmp .ne 11, 3) := by decide +kernel
theorem dX12_join_51 : decode cX12_join 51 = .ok (.aload_n 0, 1) := by decide +kernel
theorem dX12_join_52 : decode cX12_join 52 = .ok (.getfield 133, 3) := by decide +kernel
theorem dX12_join_55 : decode cX12_join 55 = .ok (.iload_n 3, 1) := by decide +kernel
theorem dX12_join_56 : decode cX12_join 56 = .ok (.iload 6, 2) := by decide +kernel
theorem dX12_join_58 : decode cX12_join 58 = .ok (.iastore, 1) := by decide +kernel
theorem dX12_join_59 : decode cX12_join 59 = .ok (.iload 5, 2) := by decide +kernel
theorem dX12_join_61 : decode cX12_join 61 = .ok (.iconst (-1), 1) := by decide +kernel
theorem dX12_join_62 : decode cX12_join 62 = .ok (.if_icmp .eq 9, 3) := by decide +kernel
theorem dX12_join_65 : decode cX12_join 65 = .ok (.iload 6, 2) := by decide +kernel
theorem dX12_join_67 : decode cX12_join 67 = .ok (.iconst (-1), 1) := by decide +kernel
theorem dX12_join_68 : decode cX12_join 68 = .ok (.if_icmp .ne 4, 3) := by decide +kernel
theorem dX12_join_71 : decode cX12_join 71 = .ok (.return_, 1) := by decide +kernel
theorem dX12_join_72 : decode cX12_join 72 = .ok (.aload_n 0, 1) := by decide +kernel
theorem dX12_join_73 : decode cX12_join 73 = .ok (.aload_n 0, 1) := by decide +kernel
theorem dX12_join_74 : decode cX12_join 74 = .ok (.iload 5, 2) := by decide +kernel
theorem dX12_join_76 : decode cX12_join 76 = .ok (.iconst 0, 1) := by decide +kernel
theorem dX12_join_77 : decode cX12_join 77 = .ok (.invokevirtual 251, 3) := by decide +kernel
theorem dX12_join_80 : decode cX12_join 80 = .ok (.aload_n 0, 1) := by decide +kernel
theorem dX12_join_81 : decode cX12_join 81 = .ok (.iload 6, 2) := by decide +kernel
theorem dX12_join_83 : decode cX12_join 83 = .ok (.iconst 0, 1) := by decide +kernel
theorem dX12_join_84 : decode cX12_join 84 = .ok (.invokevirtual 251, 3) := by decide +kernel
theorem dX12_join_87 : decode cX12_join 87 = .ok (.invokevirtual 255, 3) := by decide +kernel
theorem dX12_join_90 : decode cX12_join 90 = .ok (.aload_n 0, 1) := by decide +kernel
theorem dX12_join_91 : decode cX12_join 91 = .ok (.aload_n 0, 1) := by decide +kernel
theorem dX12_join_92 : decode cX12_join 92 = .ok (.iload 5, 2) := by decide +kernel
theorem dX12_join_94 : decode cX12_join 94 = .ok (.iconst 1, 1) := by decide +kernel
theorem dX12_join_95 : decode cX12_join 95 = .ok (.invokevirtual 251, 3) := by decide +kernel
theorem dX12_join_98 : decode cX12_join 98 = .ok (.aload_n 0, 1) := by decide +kernel
theorem dX12_join_99 : decode cX12_join 99 = .ok (.iload 6, 2) := by decide +kernel
theorem dX12_join_101 : decode cX12_join 101 = .ok (.iconst 1, 1) := by decide +kernel
theorem dX12_join_102 : decode cX12_join 102 = .ok (.invokevirtual 251, 3) := by decide +kernel
theorem dX12_join_105 : decode cX12_join 105 = .ok (.invokevirtual 255, 3) := by decide +kernel
theorem dX12_join_108 : decode cX12_join 108 = .ok (.return_, 1) := by decide +kernel
theorem dX12_pointFrom_0 : decode cX12_pointFrom 0 = .ok (.aload_n 0, 1) := by decide +kernel
theorem dX12_pointFrom_1 : decode cX12_pointFrom 1 = .ok (.iload_n 1, 1) := by decide +kernel
theorem dX12_pointFrom_2 : decode cX12_pointFrom 2 = .ok (.invokevirtual 248, 3) := by decide +kernel
theorem dX12_pointFrom_5 : decode cX12_pointFrom 5 = .ok (.istore_n 2, 1) := by decide +kernel
theorem dX12_pointFrom_6 : decode cX12_pointFrom 6 = .ok (.aload_n 0, 1) := by decide +kernel
theorem dX12_pointFrom_7 : decode cX12_pointFrom 7 = .ok (.getfield 133, 3) := by decide +kernel
theorem dX12_pointFrom_10 : decode cX12_pointFrom 10 = .ok (.iload_n 2, 1) := by decide +kernel
theorem dX12_pointFrom_11 : decode cX12_pointFrom 11 = .ok (.iaload, 1) := by decide +kernel
theorem dX12_pointFrom_12 : decode cX12_pointFrom 12 = .ok (.iconst (-1), 1) := by decide +kernel
theorem dX12_pointFrom_13 : decode cX12_pointFrom 13 = .ok (.if_icmp .ne 23, 3) := by decide +kernel
theorem dX12_pointFrom_16 : decode cX12_pointFrom 16 = .ok (.aload_n 0, 1) := by decide +kernel
theorem dX12_pointFrom_17 : decode cX12_pointFrom 17 = .ok (.getfield 133, 3) := by decide +kernel
theorem dX12_pointFrom_20 : decode cX12_pointFrom 20 = .ok (.iload_n 2, 1) := by decide +kernel
theorem dX12_pointFrom_21 : decode cX12_pointFrom 21 = .ok (.aload_n 0, 1) := by decide +kernel
theorem dX12_pointFrom_22 : decode cX12_pointFrom 22 = .ok (.getfield 259, 3) := by decide +kernel
theorem dX12_pointFrom_25 : decode cX12_pointFrom 25 = .ok (.iastore, 1) := by decide +kernel
theorem dX12_pointFrom_26 : decode cX12_pointFrom 26 = .ok (.aload_n 0, 1) := by decide +kernel
theorem dX12_pointFrom_27 : decode cX12_pointFrom 27 = .ok (.dup, 1) := by decide +kernel
theorem dX12_pointFrom_28 : decode cX12_pointFrom 28 = .ok (.getfield 259, 3) := by decide +kernel
theorem dX12_pointFrom_31 : decode cX12_pointFrom 31 = .ok (.iconst 1, 1) := by decide +kernel
theorem dX12_pointFrom_32 : decode cX12_pointFrom 32 = .ok (.iadd, 1) := by decide +kernel
theorem dX12_pointFrom_33 : decode cX12_pointFrom 33 = .ok (.putfield 259, 3) := by decide +kernel
theorem dX12_pointFrom_36 : decode cX12_pointFrom 36 = .ok (.aload_n 0, 1) := by decide +kernel
theorem dX12_pointFrom_37 : decode cX12_pointFrom 37 = .ok (.getfield 133, 3) := by decide +kernel
theorem dX12_pointFrom_40 : decode cX12_pointFrom 40 = .ok (.iload_n 2, 1) := by decide +kernel
theorem dX12_pointFrom_41 : decode cX12_pointFrom 41 = .ok (.iaload, 1) := by decide +kernel
theorem dX12_pointFrom_42 : decode cX12_pointFrom 42 = .ok (.ireturn, 1) := by decide +kernel
theorem dX12_node_0 : decode cX12_node 0 = .ok (.bipush 27, 2) := by decide +kernel
theorem dX12_node_2 : decode cX12_node 2 = .ok (.iload_n 1, 1) := by decide +kernel
theorem dX12_node_3 : decode cX12_node 3 = .ok (.imul, 1) := by decide +kernel
theorem dX12_node_4 : decode cX12_node 4 = .ok (.iload_n 2, 1) := by decide +kernel
theorem dX12_node_5 : decode cX12_node 5 = .ok (.iadd, 1) := by decide +kernel
theorem dX12_node_6 : decode cX12_node 6 = .ok (.ireturn, 1) := by decide +kernel
theorem dX12_var_0 : decode cX12_var 0 = .ok (.aload_n 0, 1) := by decide +kernel
theorem dX12_var_1 : decode cX12_var 1 = .ok (.getfield 98, 3) := by decide +kernel
theorem dX12_var_4 : decode cX12_var 4 = .ok (.bipush 66, 2) := by decide +kernel
theorem dX12_var_6 : decode cX12_var 6 = .ok (.iconst 5, 1) := by decide +kernel
theorem dX12_var_7 : decode cX12_var 7 = .ok (.iload_n 1, 1) := by decide +kernel
theorem dX12_var_8 : decode cX12_var 8 = .ok (.imul, 1) := by decide +kernel
theorem dX12_var_9 : decode cX12_var 9 = .ok (.iadd, 1) := by decide +kernel
theorem dX12_var_10 : decode cX12_var 10 = .ok (.iload_n 2, 1) := by decide +kernel
theorem dX12_var_11 : decode cX12_var 11 = .ok (.iadd, 1) := by decide +kernel
theorem dX12_var_12 : decode cX12_var 12 = .ok (.iaload, 1) := by decide +kernel
theorem dX12_var_13 : decode cX12_var 13 = .ok (.ireturn, 1) := by decide +kernel
theorem dX12_madeBy_0 : decode cX12_madeBy 0 = .ok (.aload_n 0, 1) := by decide +kernel
theorem dX12_madeBy_1 : decode cX12_madeBy 1 = .ok (.getfield 98, 3) := by decide +kernel
theorem dX12_madeBy_4 : decode cX12_madeBy 4 = .ok (.iconst 3, 1) := by decide +kernel
theorem dX12_madeBy_5 : decode cX12_madeBy 5 = .ok (.iload_n 1, 1) := by decide +kernel
theorem dX12_madeBy_6 : decode cX12_madeBy 6 = .ok (.iadd, 1) := by decide +kernel
theorem dX12_madeBy_7 : decode cX12_madeBy 7 = .ok (.iaload, 1) := by decide +kernel
theorem dX12_madeBy_8 : decode cX12_madeBy 8 = .ok (.iload_n 2, 1) := by decide +kernel
theorem dX12_madeBy_9 : decode cX12_madeBy 9 = .ok (.iadd, 1) := by decide +kernel
theorem dX12_madeBy_10 : decode cX12_madeBy 10 = .ok (.aload_n 0, 1) := by decide +kernel
theorem dX12_madeBy_11 : decode cX12_madeBy 11 = .ok (.getfield 98, 3) := by decide +kernel
theorem dX12_madeBy_14 : decode cX12_madeBy 14 = .ok (.bipush 8, 2) := by decide +kernel
theorem dX12_madeBy_16 : decode cX12_madeBy 16 = .ok (.iload_n 1, 1) := by decide +kernel
theorem dX12_madeBy_17 : decode cX12_madeBy 17 = .ok (.iadd, 1) := by decide +kernel
theorem dX12_madeBy_18 : decode cX12_madeBy 18 = .ok (.iaload, 1) := by decide +kernel
theorem dX12_madeBy_19 : decode cX12_madeBy 19 = .ok (.isub, 1) := by decide +kernel
theorem dX12_madeBy_20 : decode cX12_madeBy 20 = .ok (.ireturn, 1) := by decide +kernel
theorem dX12_joinLine_0 : decode cX12_joinLine 0 = .ok (.aload_n 0, 1) := by decide +kernel
theorem dX12_joinLine_1 : decode cX12_joinLine 1 = .ok (.iload_n 1, 1) := by decide +kernel
theorem dX12_joinLine_2 : decode cX12_joinLine 2 = .ok (.aload_n 0, 1) := by decide +kernel
theorem dX12_joinLine_3 : decode cX12_joinLine 3 = .ok (.iload_n 1, 1) := by decide +kernel
theorem dX12_joinLine_4 : decode cX12_joinLine 4 = .ok (.iload_n 2, 1) := by decide +kernel
theorem dX12_joinLine_5 : decode cX12_joinLine 5 = .ok (.invokevirtual 262, 3) := by decide +kernel
theorem dX12_joinLine_8 : decode cX12_joinLine 8 = .ok (.invokevirtual 265, 3) := by decide +kernel
theorem dX12_joinLine_11 : decode cX12_joinLine 11 = .ok (.istore_n 3, 1) := by decide +kernel
theorem dX12_joinLine_12 : decode cX12_joinLine 12 = .ok (.aload_n 0, 1) := by decide +kernel
theorem dX12_joinLine_13 : decode cX12_joinLine 13 = .ok (.getfield 98, 3) := by decide +kernel
theorem dX12_joinLine_16 : decode cX12_joinLine 16 = .ok (.bipush 18, 2) := by decide +kernel
theorem dX12_joinLine_18 : decode cX12_joinLine 18 = .ok (.iload_n 2, 1) := by decide +kernel
theorem dX12_joinLine_19 : decode cX12_joinLine 19 = .ok (.iadd, 1) := by decide +kernel
theorem dX12_joinLine_20 : decode cX12_joinLine 20 = .ok (.iaload, 1) := by decide +kernel
theorem dX12_joinLine_21 : decode cX12_joinLine 21 = .ok (.istore 4, 2) := by decide +kernel
theorem dX12_joinLine_23 : decode cX12_joinLine 23 = .ok (.iload 4, 2) := by decide +kernel
theorem dX12_joinLine_25 : decode cX12_joinLine 25 = .ok (.tableswitch 307 1 9 #[51, 68, 123, 123, 307, 307, 152, 185, 185], 51) := by decide +kernel
theorem dX12_joinLine_76 : decode cX12_joinLine 76 = .ok (.aload_n 0, 1) := by decide +kernel
theorem dX12_joinLine_77 : decode cX12_joinLine 77 = .ok (.iload_n 3, 1) := by decide +kernel
theorem dX12_joinLine_78 : decode cX12_joinLine 78 = .ok (.aload_n 0, 1) := by decide +kernel
theorem dX12_joinLine_79 : decode cX12_joinLine 79 = .ok (.iload_n 1, 1) := by decide +kernel
theorem dX12_joinLine_80 : decode cX12_joinLine 80 = .ok (.aload_n 0, 1) := by decide +kernel
theorem dX12_joinLine_81 : decode cX12_joinLine 81 = .ok (.iload_n 2, 1) := by decide +kernel
theorem dX12_joinLine_82 : decode cX12_joinLine 82 = .ok (.iconst 0, 1) := by decide +kernel
theorem dX12_joinLine_83 : decode cX12_joinLine 83 = .ok (.invokevirtual 267, 3) := by decide +kernel
theorem dX12_joinLine_86 : decode cX12_joinLine 86 = .ok (.invokevirtual 265, 3) := by decide +kernel
theorem dX12_joinLine_89 : decode cX12_joinLine 89 = .ok (.invokevirtual 255, 3) := by decide +kernel
theorem dX12_joinLine_92 : decode cX12_joinLine 92 = .ok (.return_, 1) := by decide +kernel
theorem dX12_joinLine_93 : decode cX12_joinLine 93 = .ok (.aload_n 0, 1) := by decide +kernel
theorem dX12_joinLine_94 : decode cX12_joinLine 94 = .ok (.iload_n 3, 1) := by decide +kernel
theorem dX12_joinLine_95 : decode cX12_joinLine 95 = .ok (.invokevirtual 270, 3) := by decide +kernel
theorem dX12_joinLine_98 : decode cX12_joinLine 98 = .ok (.istore 5, 2) := by decide +kernel
theorem dX12_joinLine_100 : decode cX12_joinLine 100 = .ok (.aload_n 0, 1) := by decide +kernel
theorem dX12_joinLine_101 : decode cX12_joinLine 101 = .ok (.aload_n 0, 1) := by decide +kernel
theorem dX12_joinLine_102 : decode cX12_joinLine 102 = .ok (.iload 5, 2) := by decide +kernel
theorem dX12_joinLine_104 : decode cX12_joinLine 104 = .ok (.iconst 0, 1) := by decide +kernel
theorem dX12_joinLine_105 : decode cX12_joinLine 105 = .ok (.invokevirtual 251, 3) := by decide +kernel
theorem dX12_joinLine_108 : decode cX12_joinLine 108 = .ok (.aload_n 0, 1) := by decide +kernel
theorem dX12_joinLine_109 : decode cX12_joinLine 109 = .ok (.iload_n 1, 1) := by decide +kernel
theorem dX12_joinLine_110 : decode cX12_joinLine 110 = .ok (.aload_n 0, 1) := by decide +kernel
theorem dX12_joinLine_111 : decode cX12_joinLine 111 = .ok (.iload_n 2, 1) := by decide +kernel
theorem dX12_joinLine_112 : decode cX12_joinLine 112 = .ok (.iconst 0, 1) := by decide +kernel
theorem dX12_joinLine_113 : decode cX12_joinLine 113 = .ok (.invokevirtual 267, 3) := by decide +kernel
theorem dX12_joinLine_116 : decode cX12_joinLine 116 = .ok (.invokevirtual 265, 3) := by decide +kernel
theorem dX12_joinLine_119 : decode cX12_joinLine 119 = .ok (.invokevirtual 255, 3) := by decide +kernel
theorem dX12_joinLine_122 : decode cX12_joinLine 122 = .ok (.aload_n 0, 1) := by decide +kernel
theorem dX12_joinLine_123 : decode cX12_joinLine 123 = .ok (.aload_n 0, 1) := by decide +kernel
theorem dX12_joinLine_124 : decode cX12_joinLine 124 = .ok (.aload_n 0, 1) := by decide +kernel
