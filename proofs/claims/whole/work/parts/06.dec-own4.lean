theorem dX11_init_90 : decode cX11_init 90 = .ok (.new 62, 3) := by decide +kernel
theorem dX11_init_93 : decode cX11_init 93 = .ok (.dup, 1) := by decide +kernel
theorem dX11_init_94 : decode cX11_init 94 = .ok (.invokespecial 64, 3) := by decide +kernel
theorem dX11_init_97 : decode cX11_init 97 = .ok (.putfield 65, 3) := by decide +kernel
theorem dX11_init_100 : decode cX11_init 100 = .ok (.aload_n 0, 1) := by decide +kernel
theorem dX11_init_101 : decode cX11_init 101 = .ok (.iconst 2, 1) := by decide +kernel
theorem dX11_init_102 : decode cX11_init 102 = .ok (.anewarray 41, 3) := by decide +kernel
theorem dX11_init_105 : decode cX11_init 105 = .ok (.putfield 69, 3) := by decide +kernel
theorem dX11_init_108 : decode cX11_init 108 = .ok (.aload_n 0, 1) := by decide +kernel
theorem dX11_init_109 : decode cX11_init 109 = .ok (.bipush 8, 2) := by decide +kernel
theorem dX11_init_111 : decode cX11_init 111 = .ok (.newarray .int, 2) := by decide +kernel
theorem dX11_init_113 : decode cX11_init 113 = .ok (.putfield 73, 3) := by decide +kernel
theorem dX11_init_116 : decode cX11_init 116 = .ok (.aload_n 0, 1) := by decide +kernel
theorem dX11_init_117 : decode cX11_init 117 = .ok (.iconst 0, 1) := by decide +kernel
theorem dX11_init_118 : decode cX11_init 118 = .ok (.putfield 77, 3) := by decide +kernel
theorem dX11_init_121 : decode cX11_init 121 = .ok (.return_, 1) := by decide +kernel
theorem dX11_feed_0 : decode cX11_feed 0 = .ok (.aload_n 0, 1) := by decide +kernel
theorem dX11_feed_1 : decode cX11_feed 1 = .ok (.getfield 13, 3) := by decide +kernel
theorem dX11_feed_4 : decode cX11_feed 4 = .ok (.bipush 20, 2) := by decide +kernel
theorem dX11_feed_6 : decode cX11_feed 6 = .ok (.iadd, 1) := by decide +kernel
theorem dX11_feed_7 : decode cX11_feed 7 = .ok (.sipush 940, 3) := by decide +kernel
theorem dX11_feed_10 : decode cX11_feed 10 = .ok (.if_icmp .le 5, 3) := by decide +kernel
theorem dX11_feed_13 : decode cX11_feed 13 = .ok (.iconst (-1), 1) := by decide +kernel
theorem dX11_feed_14 : decode cX11_feed 14 = .ok (.ireturn, 1) := by decide +kernel
theorem dX11_feed_15 : decode cX11_feed 15 = .ok (.aload_n 0, 1) := by decide +kernel
theorem dX11_feed_16 : decode cX11_feed 16 = .ok (.iload_n 1, 1) := by decide +kernel
theorem dX11_feed_17 : decode cX11_feed 17 = .ok (.invokevirtual 81, 3) := by decide +kernel
theorem dX11_feed_20 : decode cX11_feed 20 = .ok (.aload_n 0, 1) := by decide +kernel
theorem dX11_feed_21 : decode cX11_feed 21 = .ok (.iload_n 2, 1) := by decide +kernel
theorem dX11_feed_22 : decode cX11_feed 22 = .ok (.invokevirtual 81, 3) := by decide +kernel
theorem dX11_feed_25 : decode cX11_feed 25 = .ok (.aload_n 0, 1) := by decide +kernel
theorem dX11_feed_26 : decode cX11_feed 26 = .ok (.iload_n 3, 1) := by decide +kernel
theorem dX11_feed_27 : decode cX11_feed 27 = .ok (.invokevirtual 81, 3) := by decide +kernel
theorem dX11_feed_30 : decode cX11_feed 30 = .ok (.aload_n 0, 1) := by decide +kernel
theorem dX11_feed_31 : decode cX11_feed 31 = .ok (.iload 4, 2) := by decide +kernel
theorem dX11_feed_33 : decode cX11_feed 33 = .ok (.invokevirtual 81, 3) := by decide +kernel
theorem dX11_feed_36 : decode cX11_feed 36 = .ok (.aload_n 0, 1) := by decide +kernel
theorem dX11_feed_37 : decode cX11_feed 37 = .ok (.iload 5, 2) := by decide +kernel
theorem dX11_feed_39 : decode cX11_feed 39 = .ok (.invokevirtual 81, 3) := by decide +kernel
theorem dX11_feed_42 : decode cX11_feed 42 = .ok (.aload_n 0, 1) := by decide +kernel
theorem dX11_feed_43 : decode cX11_feed 43 = .ok (.getfield 13, 3) := by decide +kernel
theorem dX11_feed_46 : decode cX11_feed 46 = .ok (.ireturn, 1) := by decide +kernel
theorem dX11_end_0 : decode cX11_end 0 = .ok (.iload_n 1, 1) := by decide +kernel
theorem dX11_end_1 : decode cX11_end 1 = .ok (.ifCond .lt 11, 3) := by decide +kernel
theorem dX11_end_4 : decode cX11_end 4 = .ok (.iload_n 1, 1) := by decide +kernel
theorem dX11_end_5 : decode cX11_end 5 = .ok (.aload_n 0, 1) := by decide +kernel
theorem dX11_end_6 : decode cX11_end 6 = .ok (.getfield 13, 3) := by decide +kernel
theorem dX11_end_9 : decode cX11_end 9 = .ok (.if_icmp .le 5, 3) := by decide +kernel
theorem dX11_end_12 : decode cX11_end 12 = .ok (.iconst 0, 1) := by decide +kernel
theorem dX11_end_13 : decode cX11_end 13 = .ok (.ireturn, 1) := by decide +kernel
theorem dX11_end_14 : decode cX11_end 14 = .ok (.aload_n 0, 1) := by decide +kernel
theorem dX11_end_15 : decode cX11_end 15 = .ok (.iload_n 1, 1) := by decide +kernel
theorem dX11_end_16 : decode cX11_end 16 = .ok (.putfield 13, 3) := by decide +kernel
theorem dX11_end_19 : decode cX11_end 19 = .ok (.iconst 1, 1) := by decide +kernel
theorem dX11_end_20 : decode cX11_end 20 = .ok (.ireturn, 1) := by decide +kernel
theorem dX11_program_0 : decode cX11_program 0 = .ok (.aload_n 0, 1) := by decide +kernel
theorem dX11_program_1 : decode cX11_program 1 = .ok (.getfield 20, 3) := by decide +kernel
theorem dX11_program_4 : decode cX11_program 4 = .ok (.aload_n 0, 1) := by decide +kernel
theorem dX11_program_5 : decode cX11_program 5 = .ok (.getfield 9, 3) := by decide +kernel
theorem dX11_program_8 : decode cX11_program 8 = .ok (.aload_n 0, 1) := by decide +kernel
theorem dX11_program_9 : decode cX11_program 9 = .ok (.invokevirtual 85, 3) := by decide +kernel
theorem dX11_program_12 : decode cX11_program 12 = .ok (.invokevirtual 89, 3) := by decide +kernel
theorem dX11_program_15 : decode cX11_program 15 = .ok (.istore_n 1, 1) := by decide +kernel
theorem dX11_program_16 : decode cX11_program 16 = .ok (.aload_n 0, 1) := by decide +kernel
theorem dX11_program_17 : decode cX11_program 17 = .ok (.aload_n 0, 1) := by decide +kernel
theorem dX11_program_18 : decode cX11_program 18 = .ok (.getfield 20, 3) := by decide +kernel
theorem dX11_program_21 : decode cX11_program 21 = .ok (.getfield 93, 3) := by decide +kernel
theorem dX11_program_24 : decode cX11_program 24 = .ok (.getfield 97, 3) := by decide +kernel
theorem dX11_program_27 : decode cX11_program 27 = .ok (.putfield 38, 3) := by decide +kernel
theorem dX11_program_30 : decode cX11_program 30 = .ok (.iload_n 1, 1) := by decide +kernel
theorem dX11_program_31 : decode cX11_program 31 = .ok (.ifCond .ne 16, 3) := by decide +kernel
theorem dX11_program_34 : decode cX11_program 34 = .ok (.iconst (-1), 1) := by decide +kernel
theorem dX11_program_35 : decode cX11_program 35 = .ok (.aload_n 0, 1) := by decide +kernel
theorem dX11_program_36 : decode cX11_program 36 = .ok (.getfield 20, 3) := by decide +kernel
theorem dX11_program_39 : decode cX11_program 39 = .ok (.getfield 93, 3) := by decide +kernel
theorem dX11_program_42 : decode cX11_program 42 = .ok (.getfield 100, 3) := by decide +kernel
theorem dX11_program_45 : decode cX11_program 45 = .ok (.isub, 1) := by decide +kernel
theorem dX11_program_46 : decode cX11_program 46 = .ok (.ireturn, 1) := by decide +kernel
theorem dX11_program_47 : decode cX11_program 47 = .ok (.aload_n 0, 1) := by decide +kernel
theorem dX11_program_48 : decode cX11_program 48 = .ok (.getfield 20, 3) := by decide +kernel
theorem dX11_program_51 : decode cX11_program 51 = .ok (.getfield 103, 3) := by decide +kernel
theorem dX11_program_54 : decode cX11_program 54 = .ok (.astore_n 2, 1) := by decide +kernel
theorem dX11_program_55 : decode cX11_program 55 = .ok (.aload_n 0, 1) := by decide +kernel
theorem dX11_program_56 : decode cX11_program 56 = .ok (.getfield 34, 3) := by decide +kernel
theorem dX11_program_59 : decode cX11_program 59 = .ok (.aload_n 2, 1) := by decide +kernel
theorem dX11_program_60 : decode cX11_program 60 = .ok (.invokevirtual 107, 3) := by decide +kernel
theorem dX11_program_63 : decode cX11_program 63 = .ok (.aload_n 2, 1) := by decide +kernel
theorem dX11_program_64 : decode cX11_program 64 = .ok (.getfield 111, 3) := by decide +kernel
theorem dX11_program_67 : decode cX11_program 67 = .ok (.aload_n 2, 1) := by decide +kernel
theorem dX11_program_68 : decode cX11_program 68 = .ok (.invokevirtual 117, 3) := by decide +kernel
theorem dX11_program_71 : decode cX11_program 71 = .ok (.aload_n 0, 1) := by decide +kernel
theorem dX11_program_72 : decode cX11_program 72 = .ok (.getfield 44, 3) := by decide +kernel
theorem dX11_program_75 : decode cX11_program 75 = .ok (.getfield 122, 3) := by decide +kernel
theorem dX11_program_78 : decode cX11_program 78 = .ok (.aload_n 2, 1) := by decide +kernel
theorem dX11_program_79 : decode cX11_program 79 = .ok (.invokevirtual 125, 3) := by decide +kernel
theorem dX11_program_82 : decode cX11_program 82 = .ok (.aload_n 0, 1) := by decide +kernel
theorem dX11_program_83 : decode cX11_program 83 = .ok (.getfield 44, 3) := by decide +kernel
theorem dX11_program_86 : decode cX11_program 86 = .ok (.getfield 128, 3) := by decide +kernel
theorem dX11_program_89 : decode cX11_program 89 = .ok (.invokevirtual 131, 3) := by decide +kernel
theorem dX11_program_92 : decode cX11_program 92 = .ok (.aload_n 0, 1) := by decide +kernel
theorem dX11_program_93 : decode cX11_program 93 = .ok (.getfield 44, 3) := by decide +kernel
theorem dX11_program_96 : decode cX11_program 96 = .ok (.getfield 134, 3) := by decide +kernel
theorem dX11_program_99 : decode cX11_program 99 = .ok (.invokevirtual 138, 3) := by decide +kernel
theorem dX11_program_102 : decode cX11_program 102 = .ok (.aload_n 0, 1) := by decide +kernel
theorem dX11_program_103 : decode cX11_program 103 = .ok (.getfield 65, 3) := by decide +kernel
theorem dX11_program_106 : decode cX11_program 106 = .ok (.invokevirtual 141, 3) := by decide +kernel
theorem dX11_program_109 : decode cX11_program 109 = .ok (.aload_n 2, 1) := by decide +kernel
theorem dX11_program_110 : decode cX11_program 110 = .ok (.getfield 142, 3) := by decide +kernel
theorem dX11_program_113 : decode cX11_program 113 = .ok (.aload_n 2, 1) := by decide +kernel
theorem dX11_program_114 : decode cX11_program 114 = .ok (.getfield 145, 3) := by decide +kernel
theorem dX11_program_117 : decode cX11_program 117 = .ok (.iadd, 1) := by decide +kernel
theorem dX11_program_118 : decode cX11_program 118 = .ok (.ireturn, 1) := by decide +kernel
theorem dX11_fault_0 : decode cX11_fault 0 = .ok (.aload_n 0, 1) := by decide +kernel
theorem dX11_fault_1 : decode cX11_fault 1 = .ok (.getfield 38, 3) := by decide +kernel
theorem dX11_fault_4 : decode cX11_fault 4 = .ok (.ireturn, 1) := by decide +kernel
theorem dX11_fun_0 : decode cX11_fun 0 = .ok (.aload_n 0, 1) := by decide +kernel
theorem dX11_fun_1 : decode cX11_fun 1 = .ok (.getfield 44, 3) := by decide +kernel
theorem dX11_fun_4 : decode cX11_fun 4 = .ok (.getfield 122, 3) := by decide +kernel
theorem dX11_fun_7 : decode cX11_fun 7 = .ok (.astore_n 3, 1) := by decide +kernel
theorem dX11_fun_8 : decode cX11_fun 8 = .ok (.aload_n 3, 1) := by decide +kernel
theorem dX11_fun_9 : decode cX11_fun 9 = .ok (.iload_n 1, 1) := by decide +kernel
theorem dX11_fun_10 : decode cX11_fun 10 = .ok (.invokevirtual 148, 3) := by decide +kernel
theorem dX11_fun_13 : decode cX11_fun 13 = .ok (.ifCond .ne 11, 3) := by decide +kernel
theorem dX11_fun_16 : decode cX11_fun 16 = .ok (.new 152, 3) := by decide +kernel
theorem dX11_fun_19 : decode cX11_fun 19 = .ok (.dup, 1) := by decide +kernel
theorem dX11_fun_20 : decode cX11_fun 20 = .ok (.invokespecial 154, 3) := by decide +kernel
theorem dX11_fun_23 : decode cX11_fun 23 = .ok (.athrow, 1) := by decide +kernel
theorem dX11_fun_24 : decode cX11_fun 24 = .ok (.iload_n 2, 1) := by decide +kernel
theorem dX11_fun_25 : decode cX11_fun 25 = .ok (.tableswitch 93 0 5 #[39, 46, 53, 59, 69, 79], 39) := by decide +kernel
theorem dX11_fun_64 : decode cX11_fun 64 = .ok (.aload_n 3, 1) := by decide +kernel
theorem dX11_fun_65 : decode cX11_fun 65 = .ok (.getfield 155, 3) := by decide +kernel
theorem dX11_fun_68 : decode cX11_fun 68 = .ok (.iload_n 1, 1) := by decide +kernel
theorem dX11_fun_69 : decode cX11_fun 69 = .ok (.iaload, 1) := by decide +kernel
theorem dX11_fun_70 : decode cX11_fun 70 = .ok (.ireturn, 1) := by decide +kernel
theorem dX11_fun_71 : decode cX11_fun 71 = .ok (.aload_n 3, 1) := by decide +kernel
theorem dX11_fun_72 : decode cX11_fun 72 = .ok (.getfield 158, 3) := by decide +kernel
theorem dX11_fun_75 : decode cX11_fun 75 = .ok (.iload_n 1, 1) := by decide +kernel
theorem dX11_fun_76 : decode cX11_fun 76 = .ok (.iaload, 1) := by decide +kernel
theorem dX11_fun_77 : decode cX11_fun 77 = .ok (.ireturn, 1) := by decide +kernel
theorem dX11_fun_78 : decode cX11_fun 78 = .ok (.aload_n 3, 1) := by decide +kernel
theorem dX11_fun_79 : decode cX11_fun 79 = .ok (.iload_n 1, 1) := by decide +kernel
theorem dX11_fun_80 : decode cX11_fun 80 = .ok (.invokevirtual 161, 3) := by decide +kernel
theorem dX11_fun_83 : decode cX11_fun 83 = .ok (.ireturn, 1) := by decide +kernel
theorem dX11_fun_84 : decode cX11_fun 84 = .ok (.aload_n 3, 1) := by decide +kernel
theorem dX11_fun_85 : decode cX11_fun 85 = .ok (.getfield 111, 3) := by decide +kernel
theorem dX11_fun_88 : decode cX11_fun 88 = .ok (.getfield 165, 3) := by decide +kernel
theorem dX11_fun_91 : decode cX11_fun 91 = .ok (.iload_n 1, 1) := by decide +kernel
theorem dX11_fun_92 : decode cX11_fun 92 = .ok (.iaload, 1) := by decide +kernel
theorem dX11_fun_93 : decode cX11_fun 93 = .ok (.ireturn, 1) := by decide +kernel
theorem dX11_fun_94 : decode cX11_fun 94 = .ok (.aload_n 3, 1) := by decide +kernel
theorem dX11_fun_95 : decode cX11_fun 95 = .ok (.getfield 111, 3) := by decide +kernel
theorem dX11_fun_98 : decode cX11_fun 98 = .ok (.getfield 168, 3) := by decide +kernel
theorem dX11_fun_101 : decode cX11_fun 101 = .ok (.iload_n 1, 1) := by decide +kernel
theorem dX11_fun_102 : decode cX11_fun 102 = .ok (.iaload, 1) := by decide +kernel
theorem dX11_fun_103 : decode cX11_fun 103 = .ok (.ireturn, 1) := by decide +kernel
theorem dX11_fun_104 : decode cX11_fun 104 = .ok (.aload_n 3, 1) := by decide +kernel
theorem dX11_fun_105 : decode cX11_fun 105 = .ok (.iload_n 1, 1) := by decide +kernel
theorem dX11_fun_106 : decode cX11_fun 106 = .ok (.invokevirtual 171, 3) := by decide +kernel
theorem dX11_fun_109 : decode cX11_fun 109 = .ok (.ifCond .eq 7, 3) := by decide +kernel
theorem dX11_fun_112 : decode cX11_fun 112 = .ok (.iconst 1, 1) := by decide +kernel
theorem dX11_fun_113 : decode cX11_fun 113 = .ok (.goto 4, 3) := by decide +kernel
theorem dX11_fun_116 : decode cX11_fun 116 = .ok (.iconst 0, 1) := by decide +kernel
theorem dX11_fun_117 : decode cX11_fun 117 = .ok (.ireturn, 1) := by decide +kernel
theorem dX11_fun_118 : decode cX11_fun 118 = .ok (.new 152, 3) := by decide +kernel
theorem dX11_fun_121 : decode cX11_fun 121 = .ok (.dup, 1) := by decide +kernel
theorem dX11_fun_122 : decode cX11_fun 122 = .ok (.invokespecial 154, 3) := by decide +kernel
theorem dX11_fun_125 : decode cX11_fun 125 = .ok (.athrow, 1) := by decide +kernel
theorem dX11_points_0 : decode cX11_points 0 = .ok (.aload_n 0, 1) := by decide +kernel
theorem dX11_points_1 : decode cX11_points 1 = .ok (.getfield 44, 3) := by decide +kernel
theorem dX11_points_4 : decode cX11_points 4 = .ok (.getfield 122, 3) := by decide +kernel
theorem dX11_points_7 : decode cX11_points 7 = .ok (.iload_n 1, 1) := by decide +kernel
theorem dX11_points_8 : decode cX11_points 8 = .ok (.iload_n 2, 1) := by decide +kernel
theorem dX11_points_9 : decode cX11_points 9 = .ok (.invokevirtual 174, 3) := by decide +kernel
theorem dX11_points_12 : decode cX11_points 12 = .ok (.ifCond .eq 21, 3) := by decide +kernel
theorem dX11_points_15 : decode cX11_points 15 = .ok (.aload_n 0, 1) := by decide +kernel
theorem dX11_points_16 : decode cX11_points 16 = .ok (.getfield 44, 3) := by decide +kernel
theorem dX11_points_19 : decode cX11_points 19 = .ok (.getfield 122, 3) := by decide +kernel
theorem dX11_points_22 : decode cX11_points 22 = .ok (.getfield 111, 3) := by decide +kernel
theorem dX11_points_25 : decode cX11_points 25 = .ok (.iload_n 1, 1) := by decide +kernel
theorem dX11_points_26 : decode cX11_points 26 = .ok (.iload_n 2, 1) := by decide +kernel
theorem dX11_points_27 : decode cX11_points 27 = .ok (.invokevirtual 178, 3) := by decide +kernel
theorem dX11_points_30 : decode cX11_points 30 = .ok (.goto 4, 3) := by decide +kernel
theorem dX11_points_33 : decode cX11_points 33 = .ok (.iconst (-1), 1) := by decide +kernel
theorem dX11_points_34 : decode cX11_points 34 = .ok (.ireturn, 1) := by decide +kernel
theorem dX11_region_0 : decode cX11_region 0 = .ok (.aload_n 0, 1) := by decide +kernel
theorem dX11_region_1 : decode cX11_region 1 = .ok (.getfield 44, 3) := by decide +kernel
theorem dX11_region_4 : decode cX11_region 4 = .ok (.getfield 122, 3) := by decide +kernel
theorem dX11_region_7 : decode cX11_region 7 = .ok (.getfield 111, 3) := by decide +kernel
theorem dX11_region_10 : decode cX11_region 10 = .ok (.astore_n 3, 1) := by decide +kernel
theorem dX11_region_11 : decode cX11_region 11 = .ok (.aload_n 3, 1) := by decide +kernel
theorem dX11_region_12 : decode cX11_region 12 = .ok (.iload_n 1, 1) := by decide +kernel
theorem dX11_region_13 : decode cX11_region 13 = .ok (.invokevirtual 182, 3) := by decide +kernel
theorem dX11_region_16 : decode cX11_region 16 = .ok (.ifCond .ne 5, 3) := by decide +kernel
theorem dX11_region_19 : decode cX11_region 19 = .ok (.iconst (-1), 1) := by decide +kernel
theorem dX11_region_20 : decode cX11_region 20 = .ok (.ireturn, 1) := by decide +kernel
theorem dX11_region_21 : decode cX11_region 21 = .ok (.iload_n 2, 1) := by decide +kernel
theorem dX11_region_22 : decode cX11_region 22 = .ok (.tableswitch 108 0 6 #[42, 49, 56, 63, 70, 84, 96], 42) := by decide +kernel
theorem dX11_region_64 : decode cX11_region 64 = .ok (.aload_n 3, 1) := by decide +kernel
theorem dX11_region_65 : decode cX11_region 65 = .ok (.getfield 185, 3) := by decide +kernel
theorem dX11_region_68 : decode cX11_region 68 = .ok (.iload_n 1, 1) := by decide +kernel
theorem dX11_region_69 : decode cX11_region 69 = .ok (.iaload, 1) := by decide +kernel
theorem dX11_region_70 : decode cX11_region 70 = .ok (.ireturn, 1) := by decide +kernel
theorem dX11_region_71 : decode cX11_region 71 = .ok (.aload_n 3, 1) := by decide +kernel
theorem dX11_region_72 : decode cX11_region 72 = .ok (.getfield 188, 3) := by decide +kernel
theorem dX11_region_75 : decode cX11_region 75 = .ok (.iload_n 1, 1) := by decide +kernel
theorem dX11_region_76 : decode cX11_region 76 = .ok (.iaload, 1) := by decide +kernel
theorem dX11_region_77 : decode cX11_region 77 = .ok (.ireturn, 1) := by decide +kernel
theorem dX11_region_78 : decode cX11_region 78 = .ok (.aload_n 3, 1) := by decide +kernel
theorem dX11_region_79 : decode cX11_region 79 = .ok (.getfield 191, 3) := by decide +kernel
theorem dX11_region_82 : decode cX11_region 82 = .ok (.iload_n 1, 1) := by decide +kernel
theorem dX11_region_83 : decode cX11_region 83 = .ok (.iaload, 1) := by decide +kernel
theorem dX11_region_84 : decode cX11_region 84 = .ok (.ireturn, 1) := by decide +kernel
theorem dX11_region_85 : decode cX11_region 85 = .ok (.aload_n 3, 1) := by decide +kernel
theorem dX11_region_86 : decode cX11_region 86 = .ok (.getfield 194, 3) := by decide +kernel
theorem dX11_region_89 : decode cX11_region 89 = .ok (.iload_n 1, 1) := by decide +kernel
theorem dX11_region_90 : decode cX11_region 90 = .ok (.iaload, 1) := by decide +kernel
theorem dX11_region_91 : decode cX11_region 91 = .ok (.ireturn, 1) := by decide +kernel
theorem dX11_region_92 : decode cX11_region 92 = .ok (.aload_n 3, 1) := by decide +kernel
theorem dX11_region_93 : decode cX11_region 93 = .ok (.iload_n 1, 1) := by decide +kernel
theorem dX11_region_94 : decode cX11_region 94 = .ok (.invokevirtual 197, 3) := by decide +kernel
theorem dX11_region_97 : decode cX11_region 97 = .ok (.ifCond .eq 7, 3) := by decide +kernel
theorem dX11_region_100 : decode cX11_region 100 = .ok (.iconst 1, 1) := by decide +kernel
theorem dX11_region_101 : decode cX11_region 101 = .ok (.goto 4, 3) := by decide +kernel
theorem dX11_region_104 : decode cX11_region 104 = .ok (.iconst 0, 1) := by decide +kernel
theorem dX11_region_105 : decode cX11_region 105 = .ok (.ireturn, 1) := by decide +kernel
theorem dX11_region_106 : decode cX11_region 106 = .ok (.aload_n 0, 1) := by decide +kernel
theorem dX11_region_107 : decode cX11_region 107 = .ok (.getfield 44, 3) := by decide +kernel
theorem dX11_region_110 : decode cX11_region 110 = .ok (.getfield 128, 3) := by decide +kernel
theorem dX11_region_113 : decode cX11_region 113 = .ok (.iload_n 1, 1) := by decide +kernel
theorem dX11_region_114 : decode cX11_region 114 = .ok (.invokevirtual 200, 3) := by decide +kernel
theorem dX11_region_117 : decode cX11_region 117 = .ok (.ireturn, 1) := by decide +kernel
theorem dX11_region_118 : decode cX11_region 118 = .ok (.aload_n 0, 1) := by decide +kernel
theorem dX11_region_119 : decode cX11_region 119 = .ok (.getfield 44, 3) := by decide +kernel
theorem dX11_region_122 : decode cX11_region 122 = .ok (.getfield 128, 3) := by decide +kernel
theorem dX11_region_125 : decode cX11_region 125 = .ok (.iload_n 1, 1) := by decide +kernel
theorem dX11_region_126 : decode cX11_region 126 = .ok (.invokevirtual 203, 3) := by decide +kernel
theorem dX11_region_129 : decode cX11_region 129 = .ok (.ireturn, 1) := by decide +kernel
theorem dX11_region_130 : decode cX11_region 130 = .ok (.iconst (-1), 1) := by decide +kernel
theorem dX11_region_131 : decode cX11_region 131 = .ok (.ireturn, 1) := by decide +kernel
theorem dX11_span_0 : decode cX11_span 0 = .ok (.aload_n 0, 1) := by decide +kernel
theorem dX11_span_1 : decode cX11_span 1 = .ok (.getfield 44, 3) := by decide +kernel
theorem dX11_span_4 : decode cX11_span 4 = .ok (.getfield 122, 3) := by decide +kernel
theorem dX11_span_7 : decode cX11_span 7 = .ok (.getfield 111, 3) := by decide +kernel
theorem dX11_span_10 : decode cX11_span 10 = .ok (.astore 4, 2) := by decide +kernel
theorem dX11_span_12 : decode cX11_span 12 = .ok (.aload_n 0, 1) := by decide +kernel
theorem dX11_span_13 : decode cX11_span 13 = .ok (.getfield 44, 3) := by decide +kernel
theorem dX11_span_16 : decode cX11_span 16 = .ok (.getfield 122, 3) := by decide +kernel
theorem dX11_span_19 : decode cX11_span 19 = .ok (.iload_n 1, 1) := by decide +kernel
theorem dX11_span_20 : decode cX11_span 20 = .ok (.invokevirtual 148, 3) := by decide +kernel
theorem dX11_span_23 : decode cX11_span 23 = .ok (.ifCond .eq 22, 3) := by decide +kernel
theorem dX11_span_26 : decode cX11_span 26 = .ok (.aload 4, 2) := by decide +kernel
theorem dX11_span_28 : decode cX11_span 28 = .ok (.iload_n 2, 1) := by decide +kernel
theorem dX11_span_29 : decode cX11_span 29 = .ok (.invokevirtual 182, 3) := by decide +kernel
theorem dX11_span_32 : decode cX11_span 32 = .ok (.ifCond .eq 13, 3) := by decide +kernel
theorem dX11_span_35 : decode cX11_span 35 = .ok (.aload 4, 2) := by decide +kernel
theorem dX11_span_37 : decode cX11_span 37 = .ok (.iload_n 1, 1) := by decide +kernel
theorem dX11_span_38 : decode cX11_span 38 = .ok (.iload_n 2, 1) := by decide +kernel
theorem dX11_span_39 : decode cX11_span 39 = .ok (.invokevirtual 206, 3) := by decide +kernel
theorem dX11_span_42 : decode cX11_span 42 = .ok (.ifCond .ne 5, 3) := by decide +kernel
theorem dX11_span_45 : decode cX11_span 45 = .ok (.iconst (-1), 1) := by decide +kernel
theorem dX11_span_46 : decode cX11_span 46 = .ok (.ireturn, 1) := by decide +kernel
theorem dX11_span_47 : decode cX11_span 47 = .ok (.iload_n 3, 1) := by decide +kernel
theorem dX11_span_48 : decode cX11_span 48 = .ok (.lookupswitch 54 #[(0, 28), (1, 41)], 28) := by decide +kernel
theorem dX11_span_76 : decode cX11_span 76 = .ok (.aload 4, 2) := by decide +kernel
theorem dX11_span_78 : decode cX11_span 78 = .ok (.getfield 209, 3) := by decide +kernel
theorem dX11_span_81 : decode cX11_span 81 = .ok (.iload_n 1, 1) := by decide +kernel
theorem dX11_span_82 : decode cX11_span 82 = .ok (.bipush 24, 2) := by decide +kernel
theorem dX11_span_84 : decode cX11_span 84 = .ok (.imul, 1) := by decide +kernel
theorem dX11_span_85 : decode cX11_span 85 = .ok (.iload_n 2, 1) := by decide +kernel
theorem dX11_span_86 : decode cX11_span 86 = .ok (.iadd, 1) := by decide +kernel
theorem dX11_span_87 : decode cX11_span 87 = .ok (.iaload, 1) := by decide +kernel
theorem dX11_span_88 : decode cX11_span 88 = .ok (.ireturn, 1) := by decide +kernel
theorem dX11_span_89 : decode cX11_span 89 = .ok (.aload 4, 2) := by decide +kernel
theorem dX11_span_91 : decode cX11_span 91 = .ok (.getfield 212, 3) := by decide +kernel
theorem dX11_span_94 : decode cX11_span 94 = .ok (.iload_n 1, 1) := by decide +kernel
theorem dX11_span_95 : decode cX11_span 95 = .ok (.bipush 24, 2) := by decide +kernel
theorem dX11_span_97 : decode cX11_span 97 = .ok (.imul, 1) := by decide +kernel
theorem dX11_span_98 : decode cX11_span 98 = .ok (.iload_n 2, 1) := by decide +kernel
theorem dX11_span_99 : decode cX11_span 99 = .ok (.iadd, 1) := by decide +kernel
theorem dX11_span_100 : decode cX11_span 100 = .ok (.iaload, 1) := by decide +kernel
theorem dX11_span_101 : decode cX11_span 101 = .ok (.ireturn, 1) := by decide +kernel
theorem dX11_span_102 : decode cX11_span 102 = .ok (.iconst (-1), 1) := by decide +kernel
theorem dX11_span_103 : decode cX11_span 103 = .ok (.ireturn, 1) := by decide +kernel
theorem dX11_load_0 : decode cX11_load 0 = .ok (.aload_n 0, 1) := by decide +kernel
theorem dX11_load_1 : decode cX11_load 1 = .ok (.aload_n 0, 1) := by decide +kernel
theorem dX11_load_2 : decode cX11_load 2 = .ok (.invokevirtual 85, 3) := by decide +kernel
theorem dX11_load_5 : decode cX11_load 5 = .ok (.invokevirtual 215, 3) := by decide +kernel
theorem dX11_load_8 : decode cX11_load 8 = .ok (.ifCond .ne 5, 3) := by decide +kernel
theorem dX11_load_11 : decode cX11_load 11 = .ok (.iconst 0, 1) := by decide +kernel
theorem dX11_load_12 : decode cX11_load 12 = .ok (.ireturn, 1) := by decide +kernel
theorem dX11_load_13 : decode cX11_load 13 = .ok (.aload_n 0, 1) := by decide +kernel
theorem dX11_load_14 : decode cX11_load 14 = .ok (.getfield 65, 3) := by decide +kernel
theorem dX11_load_17 : decode cX11_load 17 = .ok (.aload_n 0, 1) := by decide +kernel
theorem dX11_load_18 : decode cX11_load 18 = .ok (.getfield 44, 3) := by decide +kernel
theorem dX11_load_21 : decode cX11_load 21 = .ok (.getfield 128, 3) := by decide +kernel
theorem dX11_load_24 : decode cX11_load 24 = .ok (.invokevirtual 218, 3) := by decide +kernel
theorem dX11_load_27 : decode cX11_load 27 = .ok (.aload_n 0, 1) := by decide +kernel
theorem dX11_load_28 : decode cX11_load 28 = .ok (.aload_n 0, 1) := by decide +kernel
theorem dX11_load_29 : decode cX11_load 29 = .ok (.getfield 44, 3) := by decide +kernel
theorem dX11_load_32 : decode cX11_load 32 = .ok (.getfield 128, 3) := by decide +kernel
theorem dX11_load_35 : decode cX11_load 35 = .ok (.invokevirtual 222, 3) := by decide +kernel
theorem dX11_load_38 : decode cX11_load 38 = .ok (.iconst 1, 1) := by decide +kernel
theorem dX11_load_39 : decode cX11_load 39 = .ok (.ireturn, 1) := by decide +kernel
theorem dX11_steps_0 : decode cX11_steps 0 = .ok (.iload_n 1, 1) := by decide +kernel
theorem dX11_steps_1 : decode cX11_steps 1 = .ok (.iconst 1, 1) := by decide +kernel
theorem dX11_steps_2 : decode cX11_steps 2 = .ok (.if_icmp .lt 10, 3) := by decide +kernel
theorem dX11_steps_5 : decode cX11_steps 5 = .ok (.iload_n 1, 1) := by decide +kernel
theorem dX11_steps_6 : decode cX11_steps 6 = .ok (.sipush 500, 3) := by decide +kernel
theorem dX11_steps_9 : decode cX11_steps 9 = .ok (.if_icmp .le 5, 3) := by decide +kernel
theorem dX11_steps_12 : decode cX11_steps 12 = .ok (.iconst (-1), 1) := by decide +kernel
theorem dX11_steps_13 : decode cX11_steps 13 = .ok (.ireturn, 1) := by decide +kernel
theorem dX11_steps_14 : decode cX11_steps 14 = .ok (.aload_n 0, 1) := by decide +kernel
theorem dX11_steps_15 : decode cX11_steps 15 = .ok (.getfield 44, 3) := by decide +kernel
theorem dX11_steps_18 : decode cX11_steps 18 = .ok (.getfield 128, 3) := by decide +kernel
theorem dX11_steps_21 : decode cX11_steps 21 = .ok (.getfield 225, 3) := by decide +kernel
theorem dX11_steps_24 : decode cX11_steps 24 = .ok (.iconst 1, 1) := by decide +kernel
theorem dX11_steps_25 : decode cX11_steps 25 = .ok (.if_icmp .eq 5, 3) := by decide +kernel
theorem dX11_steps_28 : decode cX11_steps 28 = .ok (.iconst 0, 1) := by decide +kernel
theorem dX11_steps_29 : decode cX11_steps 29 = .ok (.ireturn, 1) := by decide +kernel
theorem dX11_steps_30 : decode cX11_steps 30 = .ok (.aload_n 0, 1) := by decide +kernel
theorem dX11_steps_31 : decode cX11_steps 31 = .ok (.getfield 65, 3) := by decide +kernel
theorem dX11_steps_34 : decode cX11_steps 34 = .ok (.aload_n 0, 1) := by decide +kernel
theorem dX11_steps_35 : decode cX11_steps 35 = .ok (.getfield 44, 3) := by decide +kernel
theorem dX11_steps_38 : decode cX11_steps 38 = .ok (.getfield 128, 3) := by decide +kernel
theorem dX11_steps_41 : decode cX11_steps 41 = .ok (.invokevirtual 218, 3) := by decide +kernel
theorem dX11_steps_44 : decode cX11_steps 44 = .ok (.iconst 0, 1) := by decide +kernel
theorem dX11_steps_45 : decode cX11_steps 45 = .ok (.istore_n 2, 1) := by decide +kernel
theorem dX11_steps_46 : decode cX11_steps 46 = .ok (.iconst 0, 1) := by decide +kernel
theorem dX11_steps_47 : decode cX11_steps 47 = .ok (.istore_n 3, 1) := by decide +kernel
theorem dX11_steps_48 : decode cX11_steps 48 = .ok (.iload_n 3, 1) := by decide +kernel
theorem dX11_steps_49 : decode cX11_steps 49 = .ok (.iload_n 1, 1) := by decide +kernel
theorem dX11_steps_50 : decode cX11_steps 50 = .ok (.if_icmp .ge 43, 3) := by decide +kernel
theorem dX11_steps_53 : decode cX11_steps 53 = .ok (.aload_n 0, 1) := by decide +kernel
theorem dX11_steps_54 : decode cX11_steps 54 = .ok (.getfield 44, 3) := by decide +kernel
theorem dX11_steps_57 : decode cX11_steps 57 = .ok (.getfield 128, 3) := by decide +kernel
theorem dX11_steps_60 : decode cX11_steps 60 = .ok (.getfield 225, 3) := by decide +kernel
theorem dX11_steps_63 : decode cX11_steps 63 = .ok (.iconst 1, 1) := by decide +kernel
theorem dX11_steps_64 : decode cX11_steps 64 = .ok (.if_icmp .ne 29, 3) := by decide +kernel
theorem dX11_steps_67 : decode cX11_steps 67 = .ok (.aload_n 0, 1) := by decide +kernel
theorem dX11_steps_68 : decode cX11_steps 68 = .ok (.getfield 44, 3) := by decide +kernel
theorem dX11_steps_71 : decode cX11_steps 71 = .ok (.getfield 128, 3) := by decide +kernel
theorem dX11_steps_74 : decode cX11_steps 74 = .ok (.aload_n 0, 1) := by decide +kernel
theorem dX11_steps_75 : decode cX11_steps 75 = .ok (.getfield 44, 3) := by decide +kernel
theorem dX11_steps_78 : decode cX11_steps 78 = .ok (.getfield 122, 3) := by decide +kernel
theorem dX11_steps_81 : decode cX11_steps 81 = .ok (.invokevirtual 228, 3) := by decide +kernel
theorem dX11_steps_84 : decode cX11_steps 84 = .ok (.iinc 2 1, 3) := by decide +kernel
theorem dX11_steps_87 : decode cX11_steps 87 = .ok (.iinc 3 1, 3) := by decide +kernel
theorem dX11_steps_90 : decode cX11_steps 90 = .ok (.goto (-42), 3) := by decide +kernel
theorem dX11_steps_93 : decode cX11_steps 93 = .ok (.iload_n 2, 1) := by decide +kernel
theorem dX11_steps_94 : decode cX11_steps 94 = .ok (.ireturn, 1) := by decide +kernel
theorem dX11_now_0 : decode cX11_now 0 = .ok (.aload_n 0, 1) := by decide +kernel
theorem dX11_now_1 : decode cX11_now 1 = .ok (.getfield 44, 3) := by decide +kernel
theorem dX11_now_4 : decode cX11_now 4 = .ok (.getfield 128, 3) := by decide +kernel
theorem dX11_now_7 : decode cX11_now 7 = .ok (.astore_n 2, 1) := by decide +kernel
theorem dX11_now_8 : decode cX11_now 8 = .ok (.iload_n 1, 1) := by decide +kernel
theorem dX11_now_9 : decode cX11_now 9 = .ok (.tableswitch 114 0 10 #[59, 64, 69, 74, 79, 84, 89, 94, 99, 104, 109], 59) := by decide +kernel
theorem dX11_now_68 : decode cX11_now 68 = .ok (.aload_n 2, 1) := by decide +kernel
theorem dX11_now_69 : decode cX11_now 69 = .ok (.getfield 225, 3) := by decide +kernel
theorem dX11_now_72 : decode cX11_now 72 = .ok (.ireturn, 1) := by decide +kernel
theorem dX11_now_73 : decode cX11_now 73 = .ok (.aload_n 2, 1) := by decide +kernel
theorem dX11_now_74 : decode cX11_now 74 = .ok (.getfield 231, 3) := by decide +kernel
theorem dX11_now_77 : decode cX11_now 77 = .ok (.ireturn, 1) := by decide +kernel
theorem dX11_now_78 : decode cX11_now 78 = .ok (.aload_n 2, 1) := by decide +kernel
theorem dX11_now_79 : decode cX11_now 79 = .ok (.getfield 234, 3) := by decide +kernel
theorem dX11_now_82 : decode cX11_now 82 = .ok (.ireturn, 1) := by decide +kernel
theorem dX11_now_83 : decode cX11_now 83 = .ok (.aload_n 2, 1) := by decide +kernel
theorem dX11_now_84 : decode cX11_now 84 = .ok (.invokevirtual 237, 3) := by decide +kernel
theorem dX11_now_87 : decode cX11_now 87 = .ok (.ireturn, 1) := by decide +kernel
theorem dX11_now_88 : decode cX11_now 88 = .ok (.aload_n 2, 1) := by decide +kernel
theorem dX11_now_89 : decode cX11_now 89 = .ok (.invokevirtual 240, 3) := by decide +kernel
theorem dX11_now_92 : decode cX11_now 92 = .ok (.ireturn, 1) := by decide +kernel
theorem dX11_now_93 : decode cX11_now 93 = .ok (.aload_n 2, 1) := by decide +kernel
theorem dX11_now_94 : decode cX11_now 94 = .ok (.getfield 243, 3) := by decide +kernel
theorem dX11_now_97 : decode cX11_now 97 = .ok (.ireturn, 1) := by decide +kernel
theorem dX11_now_98 : decode cX11_now 98 = .ok (.aload_n 2, 1) := by decide +kernel
theorem dX11_now_99 : decode cX11_now 99 = .ok (.getfield 246, 3) := by decide +kernel
theorem dX11_now_102 : decode cX11_now 102 = .ok (.ireturn, 1) := by decide +kernel
theorem dX11_now_103 : decode cX11_now 103 = .ok (.aload_n 2, 1) := by decide +kernel
theorem dX11_now_104 : decode cX11_now 104 = .ok (.getfield 249, 3) := by decide +kernel
theorem dX11_now_107 : decode cX11_now 107 = .ok (.ireturn, 1) := by decide +kernel
theorem dX11_now_108 : decode cX11_now 108 = .ok (.aload_n 2, 1) := by decide +kernel
theorem dX11_now_109 : decode cX11_now 109 = .ok (.getfield 252, 3) := by decide +kernel
theorem dX11_now_112 : decode cX11_now 112 = .ok (.ireturn, 1) := by decide +kernel
theorem dX11_now_113 : decode cX11_now 113 = .ok (.aload_n 2, 1) := by decide +kernel
theorem dX11_now_114 : decode cX11_now 114 = .ok (.getfield 255, 3) := by decide +kernel
theorem dX11_now_117 : decode cX11_now 117 = .ok (.ireturn, 1) := by decide +kernel
theorem dX11_now_118 : decode cX11_now 118 = .ok (.aload_n 2, 1) := by decide +kernel
theorem dX11_now_119 : decode cX11_now 119 = .ok (.getfield 258, 3) := by decide +kernel
theorem dX11_now_122 : decode cX11_now 122 = .ok (.ireturn, 1) := by decide +kernel
theorem dX11_now_123 : decode cX11_now 123 = .ok (.iconst (-1), 1) := by decide +kernel
theorem dX11_now_124 : decode cX11_now 124 = .ok (.ireturn, 1) := by decide +kernel
theorem dX11_kind_0 : decode cX11_kind 0 = .ok (.aload_n 0, 1) := by decide +kernel
theorem dX11_kind_1 : decode cX11_kind 1 = .ok (.getfield 44, 3) := by decide +kernel
theorem dX11_kind_4 : decode cX11_kind 4 = .ok (.getfield 128, 3) := by decide +kernel
theorem dX11_kind_7 : decode cX11_kind 7 = .ok (.aload_n 0, 1) := by decide +kernel
theorem dX11_kind_8 : decode cX11_kind 8 = .ok (.getfield 44, 3) := by decide +kernel
theorem dX11_kind_11 : decode cX11_kind 11 = .ok (.getfield 122, 3) := by decide +kernel
theorem dX11_kind_14 : decode cX11_kind 14 = .ok (.iload_n 1, 1) := by decide +kernel
theorem dX11_kind_15 : decode cX11_kind 15 = .ok (.iload_n 2, 1) := by decide +kernel
theorem dX11_kind_16 : decode cX11_kind 16 = .ok (.invokevirtual 261, 3) := by decide +kernel
theorem dX11_kind_19 : decode cX11_kind 19 = .ok (.ifCond .eq 23, 3) := by decide +kernel
theorem dX11_kind_22 : decode cX11_kind 22 = .ok (.aload_n 0, 1) := by decide +kernel
theorem dX11_kind_23 : decode cX11_kind 23 = .ok (.getfield 44, 3) := by decide +kernel
theorem dX11_kind_26 : decode cX11_kind 26 = .ok (.getfield 128, 3) := by decide +kernel
theorem dX11_kind_29 : decode cX11_kind 29 = .ok (.getfield 264, 3) := by decide +kernel
theorem dX11_kind_32 : decode cX11_kind 32 = .ok (.iload_n 1, 1) := by decide +kernel
theorem dX11_kind_33 : decode cX11_kind 33 = .ok (.bipush 27, 2) := by decide +kernel
theorem dX11_kind_35 : decode cX11_kind 35 = .ok (.imul, 1) := by decide +kernel
theorem dX11_kind_36 : decode cX11_kind 36 = .ok (.iload_n 2, 1) := by decide +kernel
theorem dX11_kind_37 : decode cX11_kind 37 = .ok (.iadd, 1) := by decide +kernel
theorem dX11_kind_38 : decode cX11_kind 38 = .ok (.iaload, 1) := by decide +kernel
theorem dX11_kind_39 : decode cX11_kind 39 = .ok (.goto 4, 3) := by decide +kernel
theorem dX11_kind_42 : decode cX11_kind 42 = .ok (.iconst (-1), 1) := by decide +kernel
theorem dX11_kind_43 : decode cX11_kind 43 = .ok (.ireturn, 1) := by decide +kernel
theorem dX11_value_0 : decode cX11_value 0 = .ok (.aload_n 0, 1) := by decide +kernel
theorem dX11_value_1 : decode cX11_value 1 = .ok (.getfield 44, 3) := by decide +kernel
theorem dX11_value_4 : decode cX11_value 4 = .ok (.getfield 128, 3) := by decide +kernel
theorem dX11_value_7 : decode cX11_value 7 = .ok (.aload_n 0, 1) := by decide +kernel
theorem dX11_value_8 : decode cX11_value 8 = .ok (.getfield 44, 3) := by decide +kernel
theorem dX11_value_11 : decode cX11_value 11 = .ok (.getfield 122, 3) := by decide +kernel
theorem dX11_value_14 : decode cX11_value 14 = .ok (.iload_n 1, 1) := by decide +kernel
theorem dX11_value_15 : decode cX11_value 15 = .ok (.iload_n 2, 1) := by decide +kernel
theorem dX11_value_16 : decode cX11_value 16 = .ok (.invokevirtual 261, 3) := by decide +kernel
theorem dX11_value_19 : decode cX11_value 19 = .ok (.ifCond .eq 23, 3) := by decide +kernel
theorem dX11_value_22 : decode cX11_value 22 = .ok (.aload_n 0, 1) := by decide +kernel
theorem dX11_value_23 : decode cX11_value 23 = .ok (.getfield 44, 3) := by decide +kernel
theorem dX11_value_26 : decode cX11_value 26 = .ok (.getfield 128, 3) := by decide +kernel
theorem dX11_value_29 : decode cX11_value 29 = .ok (.getfield 264, 3) := by decide +kernel
theorem dX11_value_32 : decode cX11_value 32 = .ok (.iload_n 1, 1) := by decide +kernel
theorem dX11_value_33 : decode cX11_value 33 = .ok (.bipush 27, 2) := by decide +kernel
theorem dX11_value_35 : decode cX11_value 35 = .ok (.imul, 1) := by decide +kernel
theorem dX11_value_36 : decode cX11_value 36 = .ok (.iload_n 2, 1) := by decide +kernel
theorem dX11_value_37 : decode cX11_value 37 = .ok (.iadd, 1) := by decide +kernel
theorem dX11_value_38 : decode cX11_value 38 = .ok (.iaload, 1) := by decide +kernel
theorem dX11_value_39 : decode cX11_value 39 = .ok (.ifCond .ne 11, 3) := by decide +kernel
theorem dX11_value_42 : decode cX11_value 42 = .ok (.new 152, 3) := by decide +kernel
theorem dX11_value_45 : decode cX11_value 45 = .ok (.dup, 1) := by decide +kernel
theorem dX11_value_46 : decode cX11_value 46 = .ok (.invokespecial 154, 3) := by decide +kernel
theorem dX11_value_49 : decode cX11_value 49 = .ok (.athrow, 1) := by decide +kernel
theorem dX11_value_50 : decode cX11_value 50 = .ok (.aload_n 0, 1) := by decide +kernel
theorem dX11_value_51 : decode cX11_value 51 = .ok (.getfield 44, 3) := by decide +kernel
theorem dX11_value_54 : decode cX11_value 54 = .ok (.getfield 128, 3) := by decide +kernel
theorem dX11_value_57 : decode cX11_value 57 = .ok (.getfield 267, 3) := by decide +kernel
theorem dX11_value_60 : decode cX11_value 60 = .ok (.iload_n 1, 1) := by decide +kernel
theorem dX11_value_61 : decode cX11_value 61 = .ok (.bipush 27, 2) := by decide +kernel
theorem dX11_value_63 : decode cX11_value 63 = .ok (.imul, 1) := by decide +kernel
theorem dX11_value_64 : decode cX11_value 64 = .ok (.iload_n 2, 1) := by decide +kernel
theorem dX11_value_65 : decode cX11_value 65 = .ok (.iadd, 1) := by decide +kernel
theorem dX11_value_66 : decode cX11_value 66 = .ok (.iaload, 1) := by decide +kernel
theorem dX11_value_67 : decode cX11_value 67 = .ok (.ireturn, 1) := by decide +kernel
theorem dX11_cell_0 : decode cX11_cell 0 = .ok (.aload_n 0, 1) := by decide +kernel
theorem dX11_cell_1 : decode cX11_cell 1 = .ok (.getfield 44, 3) := by decide +kernel
theorem dX11_cell_4 : decode cX11_cell 4 = .ok (.getfield 128, 3) := by decide +kernel
theorem dX11_cell_7 : decode cX11_cell 7 = .ok (.iload_n 1, 1) := by decide +kernel
theorem dX11_cell_8 : decode cX11_cell 8 = .ok (.invokevirtual 270, 3) := by decide +kernel
theorem dX11_cell_11 : decode cX11_cell 11 = .ok (.ifCond .ne 5, 3) := by decide +kernel
theorem dX11_cell_14 : decode cX11_cell 14 = .ok (.iconst (-1), 1) := by decide +kernel
theorem dX11_cell_15 : decode cX11_cell 15 = .ok (.ireturn, 1) := by decide +kernel
theorem dX11_cell_16 : decode cX11_cell 16 = .ok (.iload_n 2, 1) := by decide +kernel
theorem dX11_cell_17 : decode cX11_cell 17 = .ok (.tableswitch 71 0 2 #[27, 39, 54], 27) := by decide +kernel
theorem dX11_cell_44 : decode cX11_cell 44 = .ok (.aload_n 0, 1) := by decide +kernel
theorem dX11_cell_45 : decode cX11_cell 45 = .ok (.getfield 44, 3) := by decide +kernel
theorem dX11_cell_48 : decode cX11_cell 48 = .ok (.getfield 128, 3) := by decide +kernel
theorem dX11_cell_51 : decode cX11_cell 51 = .ok (.iload_n 1, 1) := by decide +kernel
theorem dX11_cell_52 : decode cX11_cell 52 = .ok (.invokevirtual 273, 3) := by decide +kernel
theorem dX11_cell_55 : decode cX11_cell 55 = .ok (.ireturn, 1) := by decide +kernel
theorem dX11_cell_56 : decode cX11_cell 56 = .ok (.aload_n 0, 1) := by decide +kernel
theorem dX11_cell_57 : decode cX11_cell 57 = .ok (.getfield 44, 3) := by decide +kernel
theorem dX11_cell_60 : decode cX11_cell 60 = .ok (.getfield 128, 3) := by decide +kernel
theorem dX11_cell_63 : decode cX11_cell 63 = .ok (.getfield 276, 3) := by decide +kernel
theorem dX11_cell_66 : decode cX11_cell 66 = .ok (.iconst 2, 1) := by decide +kernel
theorem dX11_cell_67 : decode cX11_cell 67 = .ok (.iload_n 1, 1) := by decide +kernel
theorem dX11_cell_68 : decode cX11_cell 68 = .ok (.imul, 1) := by decide +kernel
theorem dX11_cell_69 : decode cX11_cell 69 = .ok (.iaload, 1) := by decide +kernel
theorem dX11_cell_70 : decode cX11_cell 70 = .ok (.ireturn, 1) := by decide +kernel
theorem dX11_cell_71 : decode cX11_cell 71 = .ok (.aload_n 0, 1) := by decide +kernel
theorem dX11_cell_72 : decode cX11_cell 72 = .ok (.getfield 44, 3) := by decide +kernel
theorem dX11_cell_75 : decode cX11_cell 75 = .ok (.getfield 128, 3) := by decide +kernel
theorem dX11_cell_78 : decode cX11_cell 78 = .ok (.getfield 276, 3) := by decide +kernel
theorem dX11_cell_81 : decode cX11_cell 81 = .ok (.iconst 2, 1) := by decide +kernel
theorem dX11_cell_82 : decode cX11_cell 82 = .ok (.iload_n 1, 1) := by decide +kernel
theorem dX11_cell_83 : decode cX11_cell 83 = .ok (.imul, 1) := by decide +kernel
theorem dX11_cell_84 : decode cX11_cell 84 = .ok (.iconst 1, 1) := by decide +kernel
theorem dX11_cell_85 : decode cX11_cell 85 = .ok (.iadd, 1) := by decide +kernel
theorem dX11_cell_86 : decode cX11_cell 86 = .ok (.iaload, 1) := by decide +kernel
theorem dX11_cell_87 : decode cX11_cell 87 = .ok (.ireturn, 1) := by decide +kernel
theorem dX11_cell_88 : decode cX11_cell 88 = .ok (.iconst (-1), 1) := by decide +kernel
theorem dX11_cell_89 : decode cX11_cell 89 = .ok (.ireturn, 1) := by decide +kernel
theorem dX11_in_0 : decode cX11_in 0 = .ok (.aload_n 0, 1) := by decide +kernel
theorem dX11_in_1 : decode cX11_in 1 = .ok (.getfield 44, 3) := by decide +kernel
theorem dX11_in_4 : decode cX11_in 4 = .ok (.getfield 128, 3) := by decide +kernel
theorem dX11_in_7 : decode cX11_in 7 = .ok (.iload_n 1, 1) := by decide +kernel
theorem dX11_in_8 : decode cX11_in 8 = .ok (.invokevirtual 270, 3) := by decide +kernel
theorem dX11_in_11 : decode cX11_in 11 = .ok (.ifCond .eq 12, 3) := by decide +kernel
theorem dX11_in_14 : decode cX11_in 14 = .ok (.iload_n 2, 1) := by decide +kernel
theorem dX11_in_15 : decode cX11_in 15 = .ok (.ifCond .lt 8, 3) := by decide +kernel
theorem dX11_in_18 : decode cX11_in 18 = .ok (.iload_n 2, 1) := by decide +kernel
theorem dX11_in_19 : decode cX11_in 19 = .ok (.iconst 1, 1) := by decide +kernel
theorem dX11_in_20 : decode cX11_in 20 = .ok (.if_icmp .le 11, 3) := by decide +kernel
theorem dX11_in_23 : decode cX11_in 23 = .ok (.new 152, 3) := by decide +kernel
theorem dX11_in_26 : decode cX11_in 26 = .ok (.dup, 1) := by decide +kernel
theorem dX11_in_27 : decode cX11_in 27 = .ok (.invokespecial 154, 3) := by decide +kernel
theorem dX11_in_30 : decode cX11_in 30 = .ok (.athrow, 1) := by decide +kernel
theorem dX11_in_31 : decode cX11_in 31 = .ok (.aload_n 0, 1) := by decide +kernel
theorem dX11_in_32 : decode cX11_in 32 = .ok (.getfield 44, 3) := by decide +kernel
theorem dX11_in_35 : decode cX11_in 35 = .ok (.getfield 128, 3) := by decide +kernel
theorem dX11_in_38 : decode cX11_in 38 = .ok (.getfield 279, 3) := by decide +kernel
theorem dX11_in_41 : decode cX11_in 41 = .ok (.iconst 2, 1) := by decide +kernel
theorem dX11_in_42 : decode cX11_in 42 = .ok (.iload_n 1, 1) := by decide +kernel
theorem dX11_in_43 : decode cX11_in 43 = .ok (.imul, 1) := by decide +kernel
theorem dX11_in_44 : decode cX11_in 44 = .ok (.iload_n 2, 1) := by decide +kernel
theorem dX11_in_45 : decode cX11_in 45 = .ok (.iadd, 1) := by decide +kernel
theorem dX11_in_46 : decode cX11_in 46 = .ok (.iaload, 1) := by decide +kernel
theorem dX11_in_47 : decode cX11_in 47 = .ok (.ireturn, 1) := by decide +kernel
theorem dX11_gave_0 : decode cX11_gave 0 = .ok (.aload_n 0, 1) := by decide +kernel
theorem dX11_gave_1 : decode cX11_gave 1 = .ok (.getfield 44, 3) := by decide +kernel
theorem dX11_gave_4 : decode cX11_gave 4 = .ok (.getfield 128, 3) := by decide +kernel
theorem dX11_gave_7 : decode cX11_gave 7 = .ok (.invokevirtual 282, 3) := by decide +kernel
theorem dX11_gave_10 : decode cX11_gave 10 = .ok (.ireturn, 1) := by decide +kernel
theorem dX11_result_0 : decode cX11_result 0 = .ok (.aload_n 0, 1) := by decide +kernel
theorem dX11_result_1 : decode cX11_result 1 = .ok (.getfield 44, 3) := by decide +kernel
theorem dX11_result_4 : decode cX11_result 4 = .ok (.getfield 128, 3) := by decide +kernel
theorem dX11_result_7 : decode cX11_result 7 = .ok (.getfield 225, 3) := by decide +kernel
theorem dX11_result_10 : decode cX11_result 10 = .ok (.iconst 2, 1) := by decide +kernel
theorem dX11_result_11 : decode cX11_result 11 = .ok (.if_icmp .eq 11, 3) := by decide +kernel
theorem dX11_result_14 : decode cX11_result 14 = .ok (.new 152, 3) := by decide +kernel
theorem dX11_result_17 : decode cX11_result 17 = .ok (.dup, 1) := by decide +kernel
theorem dX11_result_18 : decode cX11_result 18 = .ok (.invokespecial 154, 3) := by decide +kernel
theorem dX11_result_21 : decode cX11_result 21 = .ok (.athrow, 1) := by decide +kernel
theorem dX11_result_22 : decode cX11_result 22 = .ok (.aload_n 0, 1) := by decide +kernel
theorem dX11_result_23 : decode cX11_result 23 = .ok (.getfield 44, 3) := by decide +kernel
theorem dX11_result_26 : decode cX11_result 26 = .ok (.getfield 128, 3) := by decide +kernel
theorem dX11_result_29 : decode cX11_result 29 = .ok (.getfield 285, 3) := by decide +kernel
theorem dX11_result_32 : decode cX11_result 32 = .ok (.ireturn, 1) := by decide +kernel
theorem dX11_room_0 : decode cX11_room 0 = .ok (.aload_n 0, 1) := by decide +kernel
theorem dX11_room_1 : decode cX11_room 1 = .ok (.getfield 44, 3) := by decide +kernel
theorem dX11_room_4 : decode cX11_room 4 = .ok (.getfield 128, 3) := by decide +kernel
theorem dX11_room_7 : decode cX11_room 7 = .ok (.iload_n 1, 1) := by decide +kernel
theorem dX11_room_8 : decode cX11_room 8 = .ok (.invokevirtual 288, 3) := by decide +kernel
theorem dX11_room_11 : decode cX11_room 11 = .ok (.ifCond .eq 18, 3) := by decide +kernel
theorem dX11_room_14 : decode cX11_room 14 = .ok (.aload_n 0, 1) := by decide +kernel
theorem dX11_room_15 : decode cX11_room 15 = .ok (.getfield 44, 3) := by decide +kernel
theorem dX11_room_18 : decode cX11_room 18 = .ok (.getfield 128, 3) := by decide +kernel
theorem dX11_room_21 : decode cX11_room 21 = .ok (.getfield 291, 3) := by decide +kernel
theorem dX11_room_24 : decode cX11_room 24 = .ok (.iload_n 1, 1) := by decide +kernel
theorem dX11_room_25 : decode cX11_room 25 = .ok (.iaload, 1) := by decide +kernel
theorem dX11_room_26 : decode cX11_room 26 = .ok (.goto 4, 3) := by decide +kernel
theorem dX11_room_29 : decode cX11_room 29 = .ok (.iconst (-1), 1) := by decide +kernel
theorem dX11_room_30 : decode cX11_room 30 = .ok (.ireturn, 1) := by decide +kernel
theorem dX11_roomful_0 : decode cX11_roomful 0 = .ok (.aload_n 0, 1) := by decide +kernel
theorem dX11_roomful_1 : decode cX11_roomful 1 = .ok (.getfield 44, 3) := by decide +kernel
theorem dX11_roomful_4 : decode cX11_roomful 4 = .ok (.getfield 128, 3) := by decide +kernel
theorem dX11_roomful_7 : decode cX11_roomful 7 = .ok (.iload_n 1, 1) := by decide +kernel
theorem dX11_roomful_8 : decode cX11_roomful 8 = .ok (.invokevirtual 288, 3) := by decide +kernel
theorem dX11_roomful_11 : decode cX11_roomful 11 = .ok (.ifCond .eq 17, 3) := by decide +kernel
theorem dX11_roomful_14 : decode cX11_roomful 14 = .ok (.aload_n 0, 1) := by decide +kernel
theorem dX11_roomful_15 : decode cX11_roomful 15 = .ok (.getfield 44, 3) := by decide +kernel
theorem dX11_roomful_18 : decode cX11_roomful 18 = .ok (.getfield 128, 3) := by decide +kernel
theorem dX11_roomful_21 : decode cX11_roomful 21 = .ok (.iload_n 1, 1) := by decide +kernel
theorem dX11_roomful_22 : decode cX11_roomful 22 = .ok (.invokevirtual 294, 3) := by decide +kernel
theorem dX11_roomful_25 : decode cX11_roomful 25 = .ok (.goto 4, 3) := by decide +kernel
theorem dX11_roomful_28 : decode cX11_roomful 28 = .ok (.iconst (-1), 1) := by decide +kernel
theorem dX11_roomful_29 : decode cX11_roomful 29 = .ok (.ireturn, 1) := by decide +kernel
theorem dX11_reached_0 : decode cX11_reached 0 = .ok (.aload_n 0, 1) := by decide +kernel
theorem dX11_reached_1 : decode cX11_reached 1 = .ok (.getfield 58, 3) := by decide +kernel
theorem dX11_reached_4 : decode cX11_reached 4 = .ok (.aload_n 0, 1) := by decide +kernel
theorem dX11_reached_5 : decode cX11_reached 5 = .ok (.getfield 44, 3) := by decide +kernel
theorem dX11_reached_8 : decode cX11_reached 8 = .ok (.getfield 122, 3) := by decide +kernel
theorem dX11_reached_11 : decode cX11_reached 11 = .ok (.aload_n 0, 1) := by decide +kernel
theorem dX11_reached_12 : decode cX11_reached 12 = .ok (.getfield 44, 3) := by decide +kernel
theorem dX11_reached_15 : decode cX11_reached 15 = .ok (.getfield 128, 3) := by decide +kernel
theorem dX11_reached_18 : decode cX11_reached 18 = .ok (.invokevirtual 297, 3) := by decide +kernel
theorem dX11_reached_21 : decode cX11_reached 21 = .ok (.ireturn, 1) := by decide +kernel
theorem dX11_isReached_0 : decode cX11_isReached 0 = .ok (.aload_n 0, 1) := by decide +kernel
theorem dX11_isReached_1 : decode cX11_isReached 1 = .ok (.getfield 44, 3) := by decide +kernel
theorem dX11_isReached_4 : decode cX11_isReached 4 = .ok (.getfield 128, 3) := by decide +kernel
theorem dX11_isReached_7 : decode cX11_isReached 7 = .ok (.iload_n 1, 1) := by decide +kernel
theorem dX11_isReached_8 : decode cX11_isReached 8 = .ok (.invokevirtual 270, 3) := by decide +kernel
theorem dX11_isReached_11 : decode cX11_isReached 11 = .ok (.ifCond .ne 5, 3) := by decide +kernel
theorem dX11_isReached_14 : decode cX11_isReached 14 = .ok (.iconst (-1), 1) := by decide +kernel
theorem dX11_isReached_15 : decode cX11_isReached 15 = .ok (.ireturn, 1) := by decide +kernel
theorem dX11_isReached_16 : decode cX11_isReached 16 = .ok (.aload_n 0, 1) := by decide +kernel
theorem dX11_isReached_17 : decode cX11_isReached 17 = .ok (.getfield 58, 3) := by decide +kernel
theorem dX11_isReached_20 : decode cX11_isReached 20 = .ok (.aload_n 0, 1) := by decide +kernel
theorem dX11_isReached_21 : decode cX11_isReached 21 = .ok (.getfield 44, 3) := by decide +kernel
theorem dX11_isReached_24 : decode cX11_isReached 24 = .ok (.getfield 122, 3) := by decide +kernel
theorem dX11_isReached_27 : decode cX11_isReached 27 = .ok (.aload_n 0, 1) := by decide +kernel
theorem dX11_isReached_28 : decode cX11_isReached 28 = .ok (.getfield 44, 3) := by decide +kernel
theorem dX11_isReached_31 : decode cX11_isReached 31 = .ok (.getfield 128, 3) := by decide +kernel
theorem dX11_isReached_34 : decode cX11_isReached 34 = .ok (.invokevirtual 297, 3) := by decide +kernel
theorem dX11_isReached_37 : decode cX11_isReached 37 = .ok (.pop, 1) := by decide +kernel
theorem dX11_isReached_38 : decode cX11_isReached 38 = .ok (.aload_n 0, 1) := by decide +kernel
theorem dX11_isReached_39 : decode cX11_isReached 39 = .ok (.getfield 58, 3) := by decide +kernel
theorem dX11_isReached_42 : decode cX11_isReached 42 = .ok (.getfield 301, 3) := by decide +kernel
theorem dX11_isReached_45 : decode cX11_isReached 45 = .ok (.iload_n 1, 1) := by decide +kernel
theorem dX11_isReached_46 : decode cX11_isReached 46 = .ok (.baload, 1) := by decide +kernel
theorem dX11_isReached_47 : decode cX11_isReached 47 = .ok (.ifCond .eq 7, 3) := by decide +kernel
theorem dX11_isReached_50 : decode cX11_isReached 50 = .ok (.iconst 1, 1) := by decide +kernel
theorem dX11_isReached_51 : decode cX11_isReached 51 = .ok (.goto 4, 3) := by decide +kernel
theorem dX11_isReached_54 : decode cX11_isReached 54 = .ok (.iconst 0, 1) := by decide +kernel
theorem dX11_isReached_55 : decode cX11_isReached 55 = .ok (.ireturn, 1) := by decide +kernel
theorem dX11_drag_0 : decode cX11_drag 0 = .ok (.aload_n 0, 1) := by decide +kernel
theorem dX11_drag_1 : decode cX11_drag 1 = .ok (.getfield 44, 3) := by decide +kernel
theorem dX11_drag_4 : decode cX11_drag 4 = .ok (.getfield 128, 3) := by decide +kernel
theorem dX11_drag_7 : decode cX11_drag 7 = .ok (.getfield 243, 3) := by decide +kernel
theorem dX11_drag_10 : decode cX11_drag 10 = .ok (.aload_n 0, 1) := by decide +kernel
theorem dX11_drag_11 : decode cX11_drag 11 = .ok (.getfield 58, 3) := by decide +kernel
theorem dX11_drag_14 : decode cX11_drag 14 = .ok (.aload_n 0, 1) := by decide +kernel
theorem dX11_drag_15 : decode cX11_drag 15 = .ok (.getfield 44, 3) := by decide +kernel
theorem dX11_drag_18 : decode cX11_drag 18 = .ok (.getfield 122, 3) := by decide +kernel
theorem dX11_drag_21 : decode cX11_drag 21 = .ok (.aload_n 0, 1) := by decide +kernel
theorem dX11_drag_22 : decode cX11_drag 22 = .ok (.getfield 44, 3) := by decide +kernel
theorem dX11_drag_25 : decode cX11_drag 25 = .ok (.getfield 128, 3) := by decide +kernel
theorem dX11_drag_28 : decode cX11_drag 28 = .ok (.invokevirtual 297, 3) := by decide +kernel
theorem dX11_drag_31 : decode cX11_drag 31 = .ok (.isub, 1) := by decide +kernel
theorem dX11_drag_32 : decode cX11_drag 32 = .ok (.ireturn, 1) := by decide +kernel
theorem dX11_run_0 : decode cX11_run 0 = .ok (.aload_n 0, 1) := by decide +kernel
theorem dX11_run_1 : decode cX11_run 1 = .ok (.aload_n 0, 1) := by decide +kernel
theorem dX11_run_2 : decode cX11_run 2 = .ok (.invokevirtual 85, 3) := by decide +kernel
theorem dX11_run_5 : decode cX11_run 5 = .ok (.invokevirtual 215, 3) := by decide +kernel
theorem dX11_run_8 : decode cX11_run 8 = .ok (.ifCond .ne 5, 3) := by decide +kernel
theorem dX11_run_11 : decode cX11_run 11 = .ok (.iconst (-1), 1) := by decide +kernel
theorem dX11_run_12 : decode cX11_run 12 = .ok (.ireturn, 1) := by decide +kernel
theorem dX11_run_13 : decode cX11_run 13 = .ok (.aload_n 0, 1) := by decide +kernel
theorem dX11_run_14 : decode cX11_run 14 = .ok (.aload_n 0, 1) := by decide +kernel
theorem dX11_run_15 : decode cX11_run 15 = .ok (.getfield 51, 3) := by decide +kernel
theorem dX11_run_18 : decode cX11_run 18 = .ok (.invokevirtual 222, 3) := by decide +kernel
theorem dX11_run_21 : decode cX11_run 21 = .ok (.iconst 0, 1) := by decide +kernel
theorem dX11_run_22 : decode cX11_run 22 = .ok (.istore_n 1, 1) := by decide +kernel
theorem dX11_run_23 : decode cX11_run 23 = .ok (.iconst 0, 1) := by decide +kernel
theorem dX11_run_24 : decode cX11_run 24 = .ok (.istore_n 2, 1) := by decide +kernel
theorem dX11_run_25 : decode cX11_run 25 = .ok (.iload_n 2, 1) := by decide +kernel
theorem dX11_run_26 : decode cX11_run 26 = .ok (.sipush 5000, 3) := by decide +kernel
theorem dX11_run_29 : decode cX11_run 29 = .ok (.if_icmp .gt 86, 3) := by decide +kernel
theorem dX11_run_32 : decode cX11_run 32 = .ok (.aload_n 0, 1) := by decide +kernel
theorem dX11_run_33 : decode cX11_run 33 = .ok (.getfield 51, 3) := by decide +kernel
theorem dX11_run_36 : decode cX11_run 36 = .ok (.getfield 225, 3) := by decide +kernel
theorem dX11_run_39 : decode cX11_run 39 = .ok (.iconst 1, 1) := by decide +kernel
theorem dX11_run_40 : decode cX11_run 40 = .ok (.if_icmp .ne 75, 3) := by decide +kernel
theorem dX11_run_43 : decode cX11_run 43 = .ok (.aload_n 0, 1) := by decide +kernel
theorem dX11_run_44 : decode cX11_run 44 = .ok (.getfield 51, 3) := by decide +kernel
theorem dX11_run_47 : decode cX11_run 47 = .ok (.aload_n 0, 1) := by decide +kernel
theorem dX11_run_48 : decode cX11_run 48 = .ok (.getfield 44, 3) := by decide +kernel
theorem dX11_run_51 : decode cX11_run 51 = .ok (.getfield 122, 3) := by decide +kernel
theorem dX11_run_54 : decode cX11_run 54 = .ok (.invokevirtual 228, 3) := by decide +kernel
theorem dX11_run_57 : decode cX11_run 57 = .ok (.aload_n 0, 1) := by decide +kernel
theorem dX11_run_58 : decode cX11_run 58 = .ok (.getfield 51, 3) := by decide +kernel
theorem dX11_run_61 : decode cX11_run 61 = .ok (.getfield 305, 3) := by decide +kernel
theorem dX11_run_64 : decode cX11_run 64 = .ok (.ifCond .eq 45, 3) := by decide +kernel
theorem dX11_run_67 : decode cX11_run 67 = .ok (.aload_n 0, 1) := by decide +kernel
theorem dX11_run_68 : decode cX11_run 68 = .ok (.getfield 51, 3) := by decide +kernel
theorem dX11_run_71 : decode cX11_run 71 = .ok (.getfield 243, 3) := by decide +kernel
theorem dX11_run_74 : decode cX11_run 74 = .ok (.iload_n 1, 1) := by decide +kernel
theorem dX11_run_75 : decode cX11_run 75 = .ok (.if_icmp .le 34, 3) := by decide +kernel
theorem dX11_run_78 : decode cX11_run 78 = .ok (.iload_n 1, 1) := by decide +kernel
theorem dX11_run_79 : decode cX11_run 79 = .ok (.aload_n 0, 1) := by decide +kernel
theorem dX11_run_80 : decode cX11_run 80 = .ok (.getfield 51, 3) := by decide +kernel
theorem dX11_run_83 : decode cX11_run 83 = .ok (.getfield 243, 3) := by decide +kernel
theorem dX11_run_86 : decode cX11_run 86 = .ok (.aload_n 0, 1) := by decide +kernel
theorem dX11_run_87 : decode cX11_run 87 = .ok (.getfield 58, 3) := by decide +kernel
theorem dX11_run_90 : decode cX11_run 90 = .ok (.aload_n 0, 1) := by decide +kernel
theorem dX11_run_91 : decode cX11_run 91 = .ok (.getfield 44, 3) := by decide +kernel
theorem dX11_run_94 : decode cX11_run 94 = .ok (.getfield 122, 3) := by decide +kernel
theorem dX11_run_97 : decode cX11_run 97 = .ok (.aload_n 0, 1) := by decide +kernel
theorem dX11_run_98 : decode cX11_run 98 = .ok (.getfield 51, 3) := by decide +kernel
theorem dX11_run_101 : decode cX11_run 101 = .ok (.invokevirtual 297, 3) := by decide +kernel
theorem dX11_run_104 : decode cX11_run 104 = .ok (.isub, 1) := by decide +kernel
theorem dX11_run_105 : decode cX11_run 105 = .ok (.invokestatic 308, 3) := by decide +kernel
theorem dX11_run_108 : decode cX11_run 108 = .ok (.istore_n 1, 1) := by decide +kernel
theorem dX11_run_109 : decode cX11_run 109 = .ok (.iinc 2 1, 3) := by decide +kernel
theorem dX11_run_112 : decode cX11_run 112 = .ok (.goto (-87), 3) := by decide +kernel
theorem dX11_run_115 : decode cX11_run 115 = .ok (.aload_n 0, 1) := by decide +kernel
theorem dX11_run_116 : decode cX11_run 116 = .ok (.iload_n 1, 1) := by decide +kernel
theorem dX11_run_117 : decode cX11_run 117 = .ok (.invokevirtual 313, 3) := by decide +kernel
theorem dX11_run_120 : decode cX11_run 120 = .ok (.aload_n 0, 1) := by decide +kernel
theorem dX11_run_121 : decode cX11_run 121 = .ok (.getfield 51, 3) := by decide +kernel
theorem dX11_run_124 : decode cX11_run 124 = .ok (.getfield 225, 3) := by decide +kernel
theorem dX11_run_127 : decode cX11_run 127 = .ok (.ireturn, 1) := by decide +kernel
theorem dX11_ran_0 : decode cX11_ran 0 = .ok (.aload_n 0, 1) := by decide +kernel
theorem dX11_ran_1 : decode cX11_ran 1 = .ok (.getfield 77, 3) := by decide +kernel
theorem dX11_ran_4 : decode cX11_ran 4 = .ok (.ifCond .eq 22, 3) := by decide +kernel
theorem dX11_ran_7 : decode cX11_ran 7 = .ok (.iload_n 1, 1) := by decide +kernel
theorem dX11_ran_8 : decode cX11_ran 8 = .ok (.ifCond .lt 18, 3) := by decide +kernel
theorem dX11_ran_11 : decode cX11_ran 11 = .ok (.iload_n 1, 1) := by decide +kernel
theorem dX11_ran_12 : decode cX11_ran 12 = .ok (.bipush 8, 2) := by decide +kernel
theorem dX11_ran_14 : decode cX11_ran 14 = .ok (.if_icmp .ge 12, 3) := by decide +kernel
theorem dX11_ran_17 : decode cX11_ran 17 = .ok (.aload_n 0, 1) := by decide +kernel
theorem dX11_ran_18 : decode cX11_ran 18 = .ok (.getfield 73, 3) := by decide +kernel
theorem dX11_ran_21 : decode cX11_ran 21 = .ok (.iload_n 1, 1) := by decide +kernel
theorem dX11_ran_22 : decode cX11_ran 22 = .ok (.iaload, 1) := by decide +kernel
theorem dX11_ran_23 : decode cX11_ran 23 = .ok (.goto 4, 3) := by decide +kernel
theorem dX11_ran_26 : decode cX11_ran 26 = .ok (.iconst (-1), 1) := by decide +kernel
theorem dX11_ran_27 : decode cX11_ran 27 = .ok (.ireturn, 1) := by decide +kernel
theorem dX11_odds_0 : decode cX11_odds 0 = .ok (.iload_n 1, 1) := by decide +kernel
theorem dX11_odds_1 : decode cX11_odds 1 = .ok (.iconst 1, 1) := by decide +kernel
theorem dX11_odds_2 : decode cX11_odds 2 = .ok (.if_icmp .lt 22, 3) := by decide +kernel
theorem dX11_odds_5 : decode cX11_odds 5 = .ok (.iload_n 1, 1) := by decide +kernel
theorem dX11_odds_6 : decode cX11_odds 6 = .ok (.bipush 20, 2) := by decide +kernel
theorem dX11_odds_8 : decode cX11_odds 8 = .ok (.if_icmp .gt 16, 3) := by decide +kernel
theorem dX11_odds_11 : decode cX11_odds 11 = .ok (.aload_n 0, 1) := by decide +kernel
theorem dX11_odds_12 : decode cX11_odds 12 = .ok (.getfield 44, 3) := by decide +kernel
theorem dX11_odds_15 : decode cX11_odds 15 = .ok (.getfield 122, 3) := by decide +kernel
theorem dX11_odds_18 : decode cX11_odds 18 = .ok (.getfield 142, 3) := by decide +kernel
theorem dX11_odds_21 : decode cX11_odds 21 = .ok (.ifCond .ne 5, 3) := by decide +kernel
theorem dX11_odds_24 : decode cX11_odds 24 = .ok (.iconst (-1), 1) := by decide +kernel
theorem dX11_odds_25 : decode cX11_odds 25 = .ok (.ireturn, 1) := by decide +kernel
theorem dX11_odds_26 : decode cX11_odds 26 = .ok (.iconst 0, 1) := by decide +kernel
theorem dX11_odds_27 : decode cX11_odds 27 = .ok (.istore_n 3, 1) := by decide +kernel
theorem dX11_odds_28 : decode cX11_odds 28 = .ok (.iconst 0, 1) := by decide +kernel
theorem dX11_odds_29 : decode cX11_odds 29 = .ok (.istore 4, 2) := by decide +kernel
theorem dX11_odds_31 : decode cX11_odds 31 = .ok (.iload 4, 2) := by decide +kernel
theorem dX11_odds_33 : decode cX11_odds 33 = .ok (.iload_n 1, 1) := by decide +kernel
theorem dX11_odds_34 : decode cX11_odds 34 = .ok (.if_icmp .ge 23, 3) := by decide +kernel
theorem dX11_odds_37 : decode cX11_odds 37 = .ok (.aload_n 0, 1) := by decide +kernel
theorem dX11_odds_38 : decode cX11_odds 38 = .ok (.iload_n 2, 1) := by decide +kernel
theorem dX11_odds_39 : decode cX11_odds 39 = .ok (.iload 4, 2) := by decide +kernel
theorem dX11_odds_41 : decode cX11_odds 41 = .ok (.iadd, 1) := by decide +kernel
theorem dX11_odds_42 : decode cX11_odds 42 = .ok (.invokevirtual 316, 3) := by decide +kernel
theorem dX11_odds_45 : decode cX11_odds 45 = .ok (.ifCond .eq 6, 3) := by decide +kernel
theorem dX11_odds_48 : decode cX11_odds 48 = .ok (.iinc 3 1, 3) := by decide +kernel
theorem dX11_odds_51 : decode cX11_odds 51 = .ok (.iinc 4 1, 3) := by decide +kernel
theorem dX11_odds_54 : decode cX11_odds 54 = .ok (.goto (-23), 3) := by decide +kernel
theorem dX11_odds_57 : decode cX11_odds 57 = .ok (.iload_n 3, 1) := by decide +kernel
theorem dX11_odds_58 : decode cX11_odds 58 = .ok (.ireturn, 1) := by decide +kernel
theorem dX11_undo_0 : decode cX11_undo 0 = .ok (.aload_n 0, 1) := by decide +kernel
theorem dX11_undo_1 : decode cX11_undo 1 = .ok (.getfield 65, 3) := by decide +kernel
theorem dX11_undo_4 : decode cX11_undo 4 = .ok (.aload_n 0, 1) := by decide +kernel
theorem dX11_undo_5 : decode cX11_undo 5 = .ok (.getfield 44, 3) := by decide +kernel
theorem dX11_undo_8 : decode cX11_undo 8 = .ok (.getfield 128, 3) := by decide +kernel
theorem dX11_undo_11 : decode cX11_undo 11 = .ok (.invokevirtual 319, 3) := by decide +kernel
theorem dX11_undo_14 : decode cX11_undo 14 = .ok (.ireturn, 1) := by decide +kernel
theorem dX11_sentence_0 : decode cX11_sentence 0 = .ok (.aload_n 0, 1) := by decide +kernel
theorem dX11_sentence_1 : decode cX11_sentence 1 = .ok (.getfield 27, 3) := by decide +kernel
theorem dX11_sentence_4 : decode cX11_sentence 4 = .ok (.aload_n 0, 1) := by decide +kernel
theorem dX11_sentence_5 : decode cX11_sentence 5 = .ok (.getfield 9, 3) := by decide +kernel
theorem dX11_sentence_8 : decode cX11_sentence 8 = .ok (.aload_n 0, 1) := by decide +kernel
theorem dX11_sentence_9 : decode cX11_sentence 9 = .ok (.invokevirtual 85, 3) := by decide +kernel
theorem dX11_sentence_12 : decode cX11_sentence 12 = .ok (.aload_n 0, 1) := by decide +kernel
theorem dX11_sentence_13 : decode cX11_sentence 13 = .ok (.getfield 44, 3) := by decide +kernel
theorem dX11_sentence_16 : decode cX11_sentence 16 = .ok (.getfield 122, 3) := by decide +kernel
theorem dX11_sentence_19 : decode cX11_sentence 19 = .ok (.invokevirtual 323, 3) := by decide +kernel
theorem dX11_sentence_22 : decode cX11_sentence 22 = .ok (.istore_n 1, 1) := by decide +kernel
theorem dX11_sentence_23 : decode cX11_sentence 23 = .ok (.aload_n 0, 1) := by decide +kernel
theorem dX11_sentence_24 : decode cX11_sentence 24 = .ok (.aload_n 0, 1) := by decide +kernel
theorem dX11_sentence_25 : decode cX11_sentence 25 = .ok (.getfield 27, 3) := by decide +kernel
theorem dX11_sentence_28 : decode cX11_sentence 28 = .ok (.getfield 326, 3) := by decide +kernel
theorem dX11_sentence_31 : decode cX11_sentence 31 = .ok (.getfield 97, 3) := by decide +kernel
theorem dX11_sentence_34 : decode cX11_sentence 34 = .ok (.putfield 38, 3) := by decide +kernel
theorem dX11_sentence_37 : decode cX11_sentence 37 = .ok (.iload_n 1, 1) := by decide +kernel
theorem dX11_sentence_38 : decode cX11_sentence 38 = .ok (.ifCond .ne 16, 3) := by decide +kernel
theorem dX11_sentence_41 : decode cX11_sentence 41 = .ok (.iconst (-1), 1) := by decide +kernel
theorem dX11_sentence_42 : decode cX11_sentence 42 = .ok (.aload_n 0, 1) := by decide +kernel
theorem dX11_sentence_43 : decode cX11_sentence 43 = .ok (.getfield 27, 3) := by decide +kernel
theorem dX11_sentence_46 : decode cX11_sentence 46 = .ok (.getfield 326, 3) := by decide +kernel
theorem dX11_sentence_49 : decode cX11_sentence 49 = .ok (.getfield 100, 3) := by decide +kernel
theorem dX11_sentence_52 : decode cX11_sentence 52 = .ok (.isub, 1) := by decide +kernel
theorem dX11_sentence_53 : decode cX11_sentence 53 = .ok (.ireturn, 1) := by decide +kernel
theorem dX11_sentence_54 : decode cX11_sentence 54 = .ok (.aload_n 0, 1) := by decide +kernel
theorem dX11_sentence_55 : decode cX11_sentence 55 = .ok (.getfield 44, 3) := by decide +kernel
theorem dX11_sentence_58 : decode cX11_sentence 58 = .ok (.getfield 134, 3) := by decide +kernel
theorem dX11_sentence_61 : decode cX11_sentence 61 = .ok (.aload_n 0, 1) := by decide +kernel
theorem dX11_sentence_62 : decode cX11_sentence 62 = .ok (.getfield 27, 3) := by decide +kernel
theorem dX11_sentence_65 : decode cX11_sentence 65 = .ok (.getfield 327, 3) := by decide +kernel
theorem dX11_sentence_68 : decode cX11_sentence 68 = .ok (.invokevirtual 329, 3) := by decide +kernel
theorem dX11_sentence_71 : decode cX11_sentence 71 = .ok (.aload_n 0, 1) := by decide +kernel
theorem dX11_sentence_72 : decode cX11_sentence 72 = .ok (.getfield 44, 3) := by decide +kernel
theorem dX11_sentence_75 : decode cX11_sentence 75 = .ok (.getfield 134, 3) := by decide +kernel
theorem dX11_sentence_78 : decode cX11_sentence 78 = .ok (.getfield 332, 3) := by decide +kernel
theorem dX11_sentence_81 : decode cX11_sentence 81 = .ok (.ireturn, 1) := by decide +kernel
theorem dX11_said_0 : decode cX11_said 0 = .ok (.aload_n 0, 1) := by decide +kernel
theorem dX11_said_1 : decode cX11_said 1 = .ok (.getfield 44, 3) := by decide +kernel
theorem dX11_said_4 : decode cX11_said 4 = .ok (.getfield 134, 3) := by decide +kernel
theorem dX11_said_7 : decode cX11_said 7 = .ok (.getfield 335, 3) := by decide +kernel
theorem dX11_said_10 : decode cX11_said 10 = .ok (.ifCond .eq 8, 3) := by decide +kernel
theorem dX11_said_13 : decode cX11_said 13 = .ok (.iload_n 1, 1) := by decide +kernel
theorem dX11_said_14 : decode cX11_said 14 = .ok (.iconst (-1), 1) := by decide +kernel
theorem dX11_said_15 : decode cX11_said 15 = .ok (.if_icmp .ge 5, 3) := by decide +kernel
theorem dX11_said_18 : decode cX11_said 18 = .ok (.iconst (-1), 1) := by decide +kernel
theorem dX11_said_19 : decode cX11_said 19 = .ok (.ireturn, 1) := by decide +kernel
theorem dX11_said_20 : decode cX11_said 20 = .ok (.iconst 0, 1) := by decide +kernel
theorem dX11_said_21 : decode cX11_said 21 = .ok (.istore_n 2, 1) := by decide +kernel
theorem dX11_said_22 : decode cX11_said 22 = .ok (.iconst 0, 1) := by decide +kernel
theorem dX11_said_23 : decode cX11_said 23 = .ok (.istore_n 3, 1) := by decide +kernel
theorem dX11_said_24 : decode cX11_said 24 = .ok (.iload_n 3, 1) := by decide +kernel
theorem dX11_said_25 : decode cX11_said 25 = .ok (.aload_n 0, 1) := by decide +kernel
theorem dX11_said_26 : decode cX11_said 26 = .ok (.getfield 44, 3) := by decide +kernel
theorem dX11_said_29 : decode cX11_said 29 = .ok (.getfield 122, 3) := by decide +kernel
theorem dX11_said_32 : decode cX11_said 32 = .ok (.getfield 111, 3) := by decide +kernel
theorem dX11_said_35 : decode cX11_said 35 = .ok (.getfield 338, 3) := by decide +kernel
theorem dX11_said_38 : decode cX11_said 38 = .ok (.if_icmp .ge 47, 3) := by decide +kernel
theorem dX11_said_41 : decode cX11_said 41 = .ok (.aload_n 0, 1) := by decide +kernel
theorem dX11_said_42 : decode cX11_said 42 = .ok (.getfield 44, 3) := by decide +kernel
theorem dX11_said_45 : decode cX11_said 45 = .ok (.getfield 134, 3) := by decide +kernel
theorem dX11_said_48 : decode cX11_said 48 = .ok (.iload_n 3, 1) := by decide +kernel
theorem dX11_said_49 : decode cX11_said 49 = .ok (.aload_n 0, 1) := by decide +kernel
theorem dX11_said_50 : decode cX11_said 50 = .ok (.getfield 44, 3) := by decide +kernel
theorem dX11_said_53 : decode cX11_said 53 = .ok (.getfield 122, 3) := by decide +kernel
theorem dX11_said_56 : decode cX11_said 56 = .ok (.aload_n 0, 1) := by decide +kernel
theorem dX11_said_57 : decode cX11_said 57 = .ok (.getfield 44, 3) := by decide +kernel
theorem dX11_said_60 : decode cX11_said 60 = .ok (.getfield 128, 3) := by decide +kernel
theorem dX11_said_63 : decode cX11_said 63 = .ok (.invokevirtual 341, 3) := by decide +kernel
theorem dX11_said_66 : decode cX11_said 66 = .ok (.ifCond .eq 13, 3) := by decide +kernel
theorem dX11_said_69 : decode cX11_said 69 = .ok (.iload_n 2, 1) := by decide +kernel
theorem dX11_said_70 : decode cX11_said 70 = .ok (.iload_n 1, 1) := by decide +kernel
theorem dX11_said_71 : decode cX11_said 71 = .ok (.if_icmp .ne 5, 3) := by decide +kernel
theorem dX11_said_74 : decode cX11_said 74 = .ok (.iload_n 3, 1) := by decide +kernel
theorem dX11_said_75 : decode cX11_said 75 = .ok (.ireturn, 1) := by decide +kernel
theorem dX11_said_76 : decode cX11_said 76 = .ok (.iinc 2 1, 3) := by decide +kernel
theorem dX11_said_79 : decode cX11_said 79 = .ok (.iinc 3 1, 3) := by decide +kernel
theorem dX11_said_82 : decode cX11_said 82 = .ok (.goto (-58), 3) := by decide +kernel
theorem dX11_said_85 : decode cX11_said 85 = .ok (.iload_n 1, 1) := by decide +kernel
theorem dX11_said_86 : decode cX11_said 86 = .ok (.iconst (-1), 1) := by decide +kernel
theorem dX11_said_87 : decode cX11_said 87 = .ok (.if_icmp .ne 7, 3) := by decide +kernel
theorem dX11_said_90 : decode cX11_said 90 = .ok (.iload_n 2, 1) := by decide +kernel
theorem dX11_said_91 : decode cX11_said 91 = .ok (.goto 4, 3) := by decide +kernel
theorem dX11_said_94 : decode cX11_said 94 = .ok (.iconst (-1), 1) := by decide +kernel
theorem dX11_said_95 : decode cX11_said 95 = .ok (.ireturn, 1) := by decide +kernel
theorem dX11_image_0 : decode cX11_image 0 = .ok (.iload_n 1, 1) := by decide +kernel
theorem dX11_image_1 : decode cX11_image 1 = .ok (.ifCond .lt 8, 3) := by decide +kernel
theorem dX11_image_4 : decode cX11_image 4 = .ok (.iload_n 1, 1) := by decide +kernel
theorem dX11_image_5 : decode cX11_image 5 = .ok (.iconst 2, 1) := by decide +kernel
theorem dX11_image_6 : decode cX11_image 6 = .ok (.if_icmp .lt 5, 3) := by decide +kernel
theorem dX11_image_9 : decode cX11_image 9 = .ok (.iconst 0, 1) := by decide +kernel
theorem dX11_image_10 : decode cX11_image 10 = .ok (.ireturn, 1) := by decide +kernel
theorem dX11_image_11 : decode cX11_image 11 = .ok (.aload_n 0, 1) := by decide +kernel
theorem dX11_image_12 : decode cX11_image 12 = .ok (.getfield 69, 3) := by decide +kernel
theorem dX11_image_15 : decode cX11_image 15 = .ok (.iload_n 1, 1) := by decide +kernel
theorem dX11_image_16 : decode cX11_image 16 = .ok (.aaload, 1) := by decide +kernel
theorem dX11_image_17 : decode cX11_image 17 = .ok (.ifnonnull 16, 3) := by decide +kernel
theorem dX11_image_20 : decode cX11_image 20 = .ok (.aload_n 0, 1) := by decide +kernel
theorem dX11_image_21 : decode cX11_image 21 = .ok (.getfield 69, 3) := by decide +kernel
theorem dX11_image_24 : decode cX11_image 24 = .ok (.iload_n 1, 1) := by decide +kernel
theorem dX11_image_25 : decode cX11_image 25 = .ok (.new 41, 3) := by decide +kernel
theorem dX11_image_28 : decode cX11_image 28 = .ok (.dup, 1) := by decide +kernel
theorem dX11_image_29 : decode cX11_image 29 = .ok (.invokespecial 43, 3) := by decide +kernel
theorem dX11_image_32 : decode cX11_image 32 = .ok (.aastore, 1) := by decide +kernel
theorem dX11_image_33 : decode cX11_image 33 = .ok (.aload_n 0, 1) := by decide +kernel
theorem dX11_image_34 : decode cX11_image 34 = .ok (.getfield 69, 3) := by decide +kernel
theorem dX11_image_37 : decode cX11_image 37 = .ok (.iload_n 1, 1) := by decide +kernel
theorem dX11_image_38 : decode cX11_image 38 = .ok (.aaload, 1) := by decide +kernel
theorem dX11_image_39 : decode cX11_image 39 = .ok (.aload_n 0, 1) := by decide +kernel
theorem dX11_image_40 : decode cX11_image 40 = .ok (.getfield 44, 3) := by decide +kernel
theorem dX11_image_43 : decode cX11_image 43 = .ok (.invokevirtual 345, 3) := by decide +kernel
theorem dX11_image_46 : decode cX11_image 46 = .ok (.iconst 1, 1) := by decide +kernel
theorem dX11_image_47 : decode cX11_image 47 = .ok (.ireturn, 1) := by decide +kernel
theorem dX11_restore_0 : decode cX11_restore 0 = .ok (.iload_n 1, 1) := by decide +kernel
theorem dX11_restore_1 : decode cX11_restore 1 = .ok (.ifCond .lt 17, 3) := by decide +kernel
theorem dX11_restore_4 : decode cX11_restore 4 = .ok (.iload_n 1, 1) := by decide +kernel
theorem dX11_restore_5 : decode cX11_restore 5 = .ok (.iconst 2, 1) := by decide +kernel
theorem dX11_restore_6 : decode cX11_restore 6 = .ok (.if_icmp .ge 12, 3) := by decide +kernel
theorem dX11_restore_9 : decode cX11_restore 9 = .ok (.aload_n 0, 1) := by decide +kernel
theorem dX11_restore_10 : decode cX11_restore 10 = .ok (.getfield 69, 3) := by decide +kernel
theorem dX11_restore_13 : decode cX11_restore 13 = .ok (.iload_n 1, 1) := by decide +kernel
theorem dX11_restore_14 : decode cX11_restore 14 = .ok (.aaload, 1) := by decide +kernel
theorem dX11_restore_15 : decode cX11_restore 15 = .ok (.ifnonnull 5, 3) := by decide +kernel
theorem dX11_restore_18 : decode cX11_restore 18 = .ok (.iconst 0, 1) := by decide +kernel
theorem dX11_restore_19 : decode cX11_restore 19 = .ok (.ireturn, 1) := by decide +kernel
theorem dX11_restore_20 : decode cX11_restore 20 = .ok (.aload_n 0, 1) := by decide +kernel
theorem dX11_restore_21 : decode cX11_restore 21 = .ok (.getfield 44, 3) := by decide +kernel
theorem dX11_restore_24 : decode cX11_restore 24 = .ok (.aload_n 0, 1) := by decide +kernel
theorem dX11_restore_25 : decode cX11_restore 25 = .ok (.getfield 69, 3) := by decide +kernel
theorem dX11_restore_28 : decode cX11_restore 28 = .ok (.iload_n 1, 1) := by decide +kernel
theorem dX11_restore_29 : decode cX11_restore 29 = .ok (.aaload, 1) := by decide +kernel
theorem dX11_restore_30 : decode cX11_restore 30 = .ok (.invokevirtual 345, 3) := by decide +kernel
theorem dX11_restore_33 : decode cX11_restore 33 = .ok (.aload_n 0, 1) := by decide +kernel
theorem dX11_restore_34 : decode cX11_restore 34 = .ok (.getfield 65, 3) := by decide +kernel
theorem dX11_restore_37 : decode cX11_restore 37 = .ok (.invokevirtual 141, 3) := by decide +kernel
theorem dX11_restore_40 : decode cX11_restore 40 = .ok (.iconst 1, 1) := by decide +kernel
theorem dX11_restore_41 : decode cX11_restore 41 = .ok (.ireturn, 1) := by decide +kernel
theorem dX11_count_0 : decode cX11_count 0 = .ok (.iload_n 1, 1) := by decide +kernel
theorem dX11_count_1 : decode cX11_count 1 = .ok (.tableswitch 93 0 4 #[35, 46, 57, 71, 88], 35) := by decide +kernel
theorem dX11_count_36 : decode cX11_count 36 = .ok (.aload_n 0, 1) := by decide +kernel
theorem dX11_count_37 : decode cX11_count 37 = .ok (.getfield 44, 3) := by decide +kernel
theorem dX11_count_40 : decode cX11_count 40 = .ok (.getfield 122, 3) := by decide +kernel
theorem dX11_count_43 : decode cX11_count 43 = .ok (.getfield 142, 3) := by decide +kernel
theorem dX11_count_46 : decode cX11_count 46 = .ok (.ireturn, 1) := by decide +kernel
theorem dX11_count_47 : decode cX11_count 47 = .ok (.aload_n 0, 1) := by decide +kernel
theorem dX11_count_48 : decode cX11_count 48 = .ok (.getfield 44, 3) := by decide +kernel
theorem dX11_count_51 : decode cX11_count 51 = .ok (.getfield 122, 3) := by decide +kernel
theorem dX11_count_54 : decode cX11_count 54 = .ok (.getfield 145, 3) := by decide +kernel
theorem dX11_count_57 : decode cX11_count 57 = .ok (.ireturn, 1) := by decide +kernel
theorem dX11_count_58 : decode cX11_count 58 = .ok (.aload_n 0, 1) := by decide +kernel
theorem dX11_count_59 : decode cX11_count 59 = .ok (.getfield 44, 3) := by decide +kernel
theorem dX11_count_62 : decode cX11_count 62 = .ok (.getfield 122, 3) := by decide +kernel
theorem dX11_count_65 : decode cX11_count 65 = .ok (.getfield 111, 3) := by decide +kernel
theorem dX11_count_68 : decode cX11_count 68 = .ok (.getfield 338, 3) := by decide +kernel
theorem dX11_count_71 : decode cX11_count 71 = .ok (.ireturn, 1) := by decide +kernel
theorem dX11_count_72 : decode cX11_count 72 = .ok (.aload_n 0, 1) := by decide +kernel
theorem dX11_count_73 : decode cX11_count 73 = .ok (.getfield 44, 3) := by decide +kernel
theorem dX11_count_76 : decode cX11_count 76 = .ok (.getfield 122, 3) := by decide +kernel
theorem dX11_count_79 : decode cX11_count 79 = .ok (.getfield 111, 3) := by decide +kernel
theorem dX11_count_82 : decode cX11_count 82 = .ok (.getfield 348, 3) := by decide +kernel
theorem dX11_count_85 : decode cX11_count 85 = .ok (.invokestatic 351, 3) := by decide +kernel
theorem dX11_count_88 : decode cX11_count 88 = .ok (.ireturn, 1) := by decide +kernel
theorem dX11_count_89 : decode cX11_count 89 = .ok (.aload_n 0, 1) := by decide +kernel
theorem dX11_count_90 : decode cX11_count 90 = .ok (.getfield 13, 3) := by decide +kernel
theorem dX11_count_93 : decode cX11_count 93 = .ok (.ireturn, 1) := by decide +kernel
theorem dX11_count_94 : decode cX11_count 94 = .ok (.iconst (-1), 1) := by decide +kernel
theorem dX11_count_95 : decode cX11_count 95 = .ok (.ireturn, 1) := by decide +kernel
theorem dX11_putBytes_0 : decode cX11_putBytes 0 = .ok (.bipush 24, 2) := by decide +kernel
theorem dX11_putBytes_2 : decode cX11_putBytes 2 = .ok (.istore_n 2, 1) := by decide +kernel
theorem dX11_putBytes_3 : decode cX11_putBytes 3 = .ok (.iload_n 2, 1) := by decide +kernel
theorem dX11_putBytes_4 : decode cX11_putBytes 4 = .ok (.ifCond .lt 32, 3) := by decide +kernel
theorem dX11_putBytes_7 : decode cX11_putBytes 7 = .ok (.aload_n 0, 1) := by decide +kernel
theorem dX11_putBytes_8 : decode cX11_putBytes 8 = .ok (.getfield 9, 3) := by decide +kernel
theorem dX11_putBytes_11 : decode cX11_putBytes 11 = .ok (.aload_n 0, 1) := by decide +kernel
theorem dX11_putBytes_12 : decode cX11_putBytes 12 = .ok (.getfield 13, 3) := by decide +kernel
theorem dX11_putBytes_15 : decode cX11_putBytes 15 = .ok (.iload_n 1, 1) := by decide +kernel
theorem dX11_putBytes_16 : decode cX11_putBytes 16 = .ok (.iload_n 2, 1) := by decide +kernel
theorem dX11_putBytes_17 : decode cX11_putBytes 17 = .ok (.iushr, 1) := by decide +kernel
theorem dX11_putBytes_18 : decode cX11_putBytes 18 = .ok (.i2b, 1) := by decide +kernel
theorem dX11_putBytes_19 : decode cX11_putBytes 19 = .ok (.bastore, 1) := by decide +kernel
theorem dX11_putBytes_20 : decode cX11_putBytes 20 = .ok (.aload_n 0, 1) := by decide +kernel
theorem dX11_putBytes_21 : decode cX11_putBytes 21 = .ok (.dup, 1) := by decide +kernel
theorem dX11_putBytes_22 : decode cX11_putBytes 22 = .ok (.getfield 13, 3) := by decide +kernel
theorem dX11_putBytes_25 : decode cX11_putBytes 25 = .ok (.iconst 1, 1) := by decide +kernel
theorem dX11_putBytes_26 : decode cX11_putBytes 26 = .ok (.iadd, 1) := by decide +kernel
theorem dX11_putBytes_27 : decode cX11_putBytes 27 = .ok (.putfield 13, 3) := by decide +kernel
theorem dX11_putBytes_30 : decode cX11_putBytes 30 = .ok (.iinc 2 (-8), 3) := by decide +kernel
theorem dX11_putBytes_33 : decode cX11_putBytes 33 = .ok (.goto (-30), 3) := by decide +kernel
theorem dX11_putBytes_36 : decode cX11_putBytes 36 = .ok (.return_, 1) := by decide +kernel
theorem dX11_takeTape_0 : decode cX11_takeTape 0 = .ok (.aload_n 0, 1) := by decide +kernel
theorem dX11_takeTape_1 : decode cX11_takeTape 1 = .ok (.getfield 13, 3) := by decide +kernel
theorem dX11_takeTape_4 : decode cX11_takeTape 4 = .ok (.istore_n 1, 1) := by decide +kernel
theorem dX11_takeTape_5 : decode cX11_takeTape 5 = .ok (.aload_n 0, 1) := by decide +kernel
theorem dX11_takeTape_6 : decode cX11_takeTape 6 = .ok (.iconst 0, 1) := by decide +kernel
theorem dX11_takeTape_7 : decode cX11_takeTape 7 = .ok (.putfield 13, 3) := by decide +kernel
theorem dX11_takeTape_10 : decode cX11_takeTape 10 = .ok (.iload_n 1, 1) := by decide +kernel
theorem dX11_takeTape_11 : decode cX11_takeTape 11 = .ok (.ireturn, 1) := by decide +kernel
theorem dX11_fitsMain_0 : decode cX11_fitsMain 0 = .ok (.aload_n 0, 1) := by decide +kernel
theorem dX11_fitsMain_1 : decode cX11_fitsMain 1 = .ok (.getfield 44, 3) := by decide +kernel
theorem dX11_fitsMain_4 : decode cX11_fitsMain 4 = .ok (.getfield 122, 3) := by decide +kernel
theorem dX11_fitsMain_7 : decode cX11_fitsMain 7 = .ok (.astore_n 2, 1) := by decide +kernel
theorem dX11_fitsMain_8 : decode cX11_fitsMain 8 = .ok (.aload_n 2, 1) := by decide +kernel
theorem dX11_fitsMain_9 : decode cX11_fitsMain 9 = .ok (.getfield 142, 3) := by decide +kernel
theorem dX11_fitsMain_12 : decode cX11_fitsMain 12 = .ok (.ifCond .le 22, 3) := by decide +kernel
theorem dX11_fitsMain_15 : decode cX11_fitsMain 15 = .ok (.iload_n 1, 1) := by decide +kernel
theorem dX11_fitsMain_16 : decode cX11_fitsMain 16 = .ok (.aload_n 2, 1) := by decide +kernel
theorem dX11_fitsMain_17 : decode cX11_fitsMain 17 = .ok (.getfield 155, 3) := by decide +kernel
theorem dX11_fitsMain_20 : decode cX11_fitsMain 20 = .ok (.aload_n 2, 1) := by decide +kernel
theorem dX11_fitsMain_21 : decode cX11_fitsMain 21 = .ok (.getfield 142, 3) := by decide +kernel
theorem dX11_fitsMain_24 : decode cX11_fitsMain 24 = .ok (.iconst 1, 1) := by decide +kernel
theorem dX11_fitsMain_25 : decode cX11_fitsMain 25 = .ok (.isub, 1) := by decide +kernel
theorem dX11_fitsMain_26 : decode cX11_fitsMain 26 = .ok (.iaload, 1) := by decide +kernel
theorem dX11_fitsMain_27 : decode cX11_fitsMain 27 = .ok (.if_icmp .ne 7, 3) := by decide +kernel
theorem dX11_fitsMain_30 : decode cX11_fitsMain 30 = .ok (.iconst 1, 1) := by decide +kernel
theorem dX11_fitsMain_31 : decode cX11_fitsMain 31 = .ok (.goto 4, 3) := by decide +kernel
theorem dX11_fitsMain_34 : decode cX11_fitsMain 34 = .ok (.iconst 0, 1) := by decide +kernel
theorem dX11_fitsMain_35 : decode cX11_fitsMain 35 = .ok (.ireturn, 1) := by decide +kernel
theorem dX11_beginWithTape_0 : decode cX11_beginWithTape 0 = .ok (.aload_n 1, 1) := by decide +kernel
theorem dX11_beginWithTape_1 : decode cX11_beginWithTape 1 = .ok (.aload_n 0, 1) := by decide +kernel
theorem dX11_beginWithTape_2 : decode cX11_beginWithTape 2 = .ok (.getfield 44, 3) := by decide +kernel
theorem dX11_beginWithTape_5 : decode cX11_beginWithTape 5 = .ok (.getfield 122, 3) := by decide +kernel
theorem dX11_beginWithTape_8 : decode cX11_beginWithTape 8 = .ok (.invokevirtual 356, 3) := by decide +kernel
theorem dX11_beginWithTape_11 : decode cX11_beginWithTape 11 = .ok (.aload_n 0, 1) := by decide +kernel
theorem dX11_beginWithTape_12 : decode cX11_beginWithTape 12 = .ok (.getfield 44, 3) := by decide +kernel
theorem dX11_beginWithTape_15 : decode cX11_beginWithTape 15 = .ok (.getfield 122, 3) := by decide +kernel
theorem dX11_beginWithTape_18 : decode cX11_beginWithTape 18 = .ok (.invokevirtual 359, 3) := by decide +kernel
theorem dX11_beginWithTape_21 : decode cX11_beginWithTape 21 = .ok (.istore_n 2, 1) := by decide +kernel
theorem dX11_beginWithTape_22 : decode cX11_beginWithTape 22 = .ok (.iconst 0, 1) := by decide +kernel
theorem dX11_beginWithTape_23 : decode cX11_beginWithTape 23 = .ok (.istore_n 3, 1) := by decide +kernel
theorem dX11_beginWithTape_24 : decode cX11_beginWithTape 24 = .ok (.iload_n 3, 1) := by decide +kernel
theorem dX11_beginWithTape_25 : decode cX11_beginWithTape 25 = .ok (.iload_n 2, 1) := by decide +kernel
theorem dX11_beginWithTape_26 : decode cX11_beginWithTape 26 = .ok (.if_icmp .ge 26, 3) := by decide +kernel
theorem dX11_beginWithTape_29 : decode cX11_beginWithTape 29 = .ok (.aload_n 1, 1) := by decide +kernel
theorem dX11_beginWithTape_30 : decode cX11_beginWithTape 30 = .ok (.iconst 0, 1) := by decide +kernel
theorem dX11_beginWithTape_31 : decode cX11_beginWithTape 31 = .ok (.iload_n 3, 1) := by decide +kernel
theorem dX11_beginWithTape_32 : decode cX11_beginWithTape 32 = .ok (.iconst 1, 1) := by decide +kernel
theorem dX11_beginWithTape_33 : decode cX11_beginWithTape 33 = .ok (.aload_n 0, 1) := by decide +kernel
theorem dX11_beginWithTape_34 : decode cX11_beginWithTape 34 = .ok (.getfield 9, 3) := by decide +kernel
theorem dX11_beginWithTape_37 : decode cX11_beginWithTape 37 = .ok (.iload_n 3, 1) := by decide +kernel
theorem dX11_beginWithTape_38 : decode cX11_beginWithTape 38 = .ok (.baload, 1) := by decide +kernel
theorem dX11_beginWithTape_39 : decode cX11_beginWithTape 39 = .ok (.sipush 255, 3) := by decide +kernel
theorem dX11_beginWithTape_42 : decode cX11_beginWithTape 42 = .ok (.iand, 1) := by decide +kernel
theorem dX11_beginWithTape_43 : decode cX11_beginWithTape 43 = .ok (.invokevirtual 362, 3) := by decide +kernel
theorem dX11_beginWithTape_46 : decode cX11_beginWithTape 46 = .ok (.iinc 3 1, 3) := by decide +kernel
theorem dX11_beginWithTape_49 : decode cX11_beginWithTape 49 = .ok (.goto (-25), 3) := by decide +kernel
theorem dX11_beginWithTape_52 : decode cX11_beginWithTape 52 = .ok (.return_, 1) := by decide +kernel
theorem dX11_endsByDraws_0 : decode cX11_endsByDraws 0 = .ok (.aload_n 0, 1) := by decide +kernel
theorem dX11_endsByDraws_1 : decode cX11_endsByDraws 1 = .ok (.getfield 51, 3) := by decide +kernel
theorem dX11_endsByDraws_4 : decode cX11_endsByDraws 4 = .ok (.aload_n 0, 1) := by decide +kernel
theorem dX11_endsByDraws_5 : decode cX11_endsByDraws 5 = .ok (.getfield 44, 3) := by decide +kernel
theorem dX11_endsByDraws_8 : decode cX11_endsByDraws 8 = .ok (.getfield 122, 3) := by decide +kernel
theorem dX11_endsByDraws_11 : decode cX11_endsByDraws 11 = .ok (.invokevirtual 356, 3) := by decide +kernel
theorem dX11_endsByDraws_14 : decode cX11_endsByDraws 14 = .ok (.aload_n 0, 1) := by decide +kernel
theorem dX11_endsByDraws_15 : decode cX11_endsByDraws 15 = .ok (.getfield 44, 3) := by decide +kernel
theorem dX11_endsByDraws_18 : decode cX11_endsByDraws 18 = .ok (.getfield 122, 3) := by decide +kernel
theorem dX11_endsByDraws_21 : decode cX11_endsByDraws 21 = .ok (.invokevirtual 359, 3) := by decide +kernel
theorem dX11_endsByDraws_24 : decode cX11_endsByDraws 24 = .ok (.istore_n 2, 1) := by decide +kernel
theorem dX11_endsByDraws_25 : decode cX11_endsByDraws 25 = .ok (.iload_n 1, 1) := by decide +kernel
theorem dX11_endsByDraws_26 : decode cX11_endsByDraws 26 = .ok (.istore_n 3, 1) := by decide +kernel
theorem dX11_endsByDraws_27 : decode cX11_endsByDraws 27 = .ok (.iconst 0, 1) := by decide +kernel
theorem dX11_endsByDraws_28 : decode cX11_endsByDraws 28 = .ok (.istore 4, 2) := by decide +kernel
theorem dX11_endsByDraws_30 : decode cX11_endsByDraws 30 = .ok (.iload 4, 2) := by decide +kernel
theorem dX11_endsByDraws_32 : decode cX11_endsByDraws 32 = .ok (.iload_n 2, 1) := by decide +kernel
theorem dX11_endsByDraws_33 : decode cX11_endsByDraws 33 = .ok (.if_icmp .ge 37, 3) := by decide +kernel
theorem dX11_endsByDraws_36 : decode cX11_endsByDraws 36 = .ok (.iload_n 3, 1) := by decide +kernel
theorem dX11_endsByDraws_37 : decode cX11_endsByDraws 37 = .ok (.ldc_w 366, 3) := by decide +kernel
theorem dX11_endsByDraws_40 : decode cX11_endsByDraws 40 = .ok (.imul, 1) := by decide +kernel
theorem dX11_endsByDraws_41 : decode cX11_endsByDraws 41 = .ok (.sipush 12345, 3) := by decide +kernel
theorem dX11_endsByDraws_44 : decode cX11_endsByDraws 44 = .ok (.iadd, 1) := by decide +kernel
theorem dX11_endsByDraws_45 : decode cX11_endsByDraws 45 = .ok (.istore_n 3, 1) := by decide +kernel
theorem dX11_endsByDraws_46 : decode cX11_endsByDraws 46 = .ok (.aload_n 0, 1) := by decide +kernel
theorem dX11_endsByDraws_47 : decode cX11_endsByDraws 47 = .ok (.getfield 51, 3) := by decide +kernel
theorem dX11_endsByDraws_50 : decode cX11_endsByDraws 50 = .ok (.iconst 0, 1) := by decide +kernel
theorem dX11_endsByDraws_51 : decode cX11_endsByDraws 51 = .ok (.iload 4, 2) := by decide +kernel
theorem dX11_endsByDraws_53 : decode cX11_endsByDraws 53 = .ok (.iconst 1, 1) := by decide +kernel
theorem dX11_endsByDraws_54 : decode cX11_endsByDraws 54 = .ok (.iload_n 3, 1) := by decide +kernel
theorem dX11_endsByDraws_55 : decode cX11_endsByDraws 55 = .ok (.bipush 8, 2) := by decide +kernel
theorem dX11_endsByDraws_57 : decode cX11_endsByDraws 57 = .ok (.iushr, 1) := by decide +kernel
theorem dX11_endsByDraws_58 : decode cX11_endsByDraws 58 = .ok (.bipush 10, 2) := by decide +kernel
theorem dX11_endsByDraws_60 : decode cX11_endsByDraws 60 = .ok (.irem, 1) := by decide +kernel
theorem dX11_endsByDraws_61 : decode cX11_endsByDraws 61 = .ok (.invokevirtual 362, 3) := by decide +kernel
theorem dX11_endsByDraws_64 : decode cX11_endsByDraws 64 = .ok (.iinc 4 1, 3) := by decide +kernel
theorem dX11_endsByDraws_67 : decode cX11_endsByDraws 67 = .ok (.goto (-37), 3) := by decide +kernel
theorem dX11_endsByDraws_70 : decode cX11_endsByDraws 70 = .ok (.iconst 0, 1) := by decide +kernel
theorem dX11_endsByDraws_71 : decode cX11_endsByDraws 71 = .ok (.istore 4, 2) := by decide +kernel
theorem dX11_endsByDraws_73 : decode cX11_endsByDraws 73 = .ok (.iload 4, 2) := by decide +kernel
theorem dX11_endsByDraws_75 : decode cX11_endsByDraws 75 = .ok (.sipush 5000, 3) := by decide +kernel
theorem dX11_endsByDraws_78 : decode cX11_endsByDraws 78 = .ok (.if_icmp .gt 34, 3) := by decide +kernel
theorem dX11_endsByDraws_81 : decode cX11_endsByDraws 81 = .ok (.aload_n 0, 1) := by decide +kernel
theorem dX11_endsByDraws_82 : decode cX11_endsByDraws 82 = .ok (.getfield 51, 3) := by decide +kernel
theorem dX11_endsByDraws_85 : decode cX11_endsByDraws 85 = .ok (.getfield 225, 3) := by decide +kernel
theorem dX11_endsByDraws_88 : decode cX11_endsByDraws 88 = .ok (.iconst 1, 1) := by decide +kernel
theorem dX11_endsByDraws_89 : decode cX11_endsByDraws 89 = .ok (.if_icmp .ne 23, 3) := by decide +kernel
theorem dX11_endsByDraws_92 : decode cX11_endsByDraws 92 = .ok (.aload_n 0, 1) := by decide +kernel
theorem dX11_endsByDraws_93 : decode cX11_endsByDraws 93 = .ok (.getfield 51, 3) := by decide +kernel
theorem dX11_endsByDraws_96 : decode cX11_endsByDraws 96 = .ok (.aload_n 0, 1) := by decide +kernel
theorem dX11_endsByDraws_97 : decode cX11_endsByDraws 97 = .ok (.getfield 44, 3) := by decide +kernel
theorem dX11_endsByDraws_100 : decode cX11_endsByDraws 100 = .ok (.getfield 122, 3) := by decide +kernel
theorem dX11_endsByDraws_103 : decode cX11_endsByDraws 103 = .ok (.invokevirtual 228, 3) := by decide +kernel
theorem dX11_endsByDraws_106 : decode cX11_endsByDraws 106 = .ok (.iinc 4 1, 3) := by decide +kernel
theorem dX11_endsByDraws_109 : decode cX11_endsByDraws 109 = .ok (.goto (-36), 3) := by decide +kernel
theorem dX11_endsByDraws_112 : decode cX11_endsByDraws 112 = .ok (.aload_n 0, 1) := by decide +kernel
theorem dX11_endsByDraws_113 : decode cX11_endsByDraws 113 = .ok (.getfield 51, 3) := by decide +kernel
theorem dX11_endsByDraws_116 : decode cX11_endsByDraws 116 = .ok (.getfield 225, 3) := by decide +kernel
theorem dX11_endsByDraws_119 : decode cX11_endsByDraws 119 = .ok (.iconst 2, 1) := by decide +kernel
theorem dX11_endsByDraws_120 : decode cX11_endsByDraws 120 = .ok (.if_icmp .ne 7, 3) := by decide +kernel
theorem dX11_endsByDraws_123 : decode cX11_endsByDraws 123 = .ok (.iconst 1, 1) := by decide +kernel
theorem dX11_endsByDraws_124 : decode cX11_endsByDraws 124 = .ok (.goto 4, 3) := by decide +kernel
theorem dX11_endsByDraws_127 : decode cX11_endsByDraws 127 = .ok (.iconst 0, 1) := by decide +kernel
theorem dX11_endsByDraws_128 : decode cX11_endsByDraws 128 = .ok (.ireturn, 1) := by decide +kernel
theorem dX11_tellRan_0 : decode cX11_tellRan 0 = .ok (.aload_n 0, 1) := by decide +kernel
theorem dX11_tellRan_1 : decode cX11_tellRan 1 = .ok (.iconst 1, 1) := by decide +kernel
theorem dX11_tellRan_2 : decode cX11_tellRan 2 = .ok (.putfield 77, 3) := by decide +kernel
theorem dX11_tellRan_5 : decode cX11_tellRan 5 = .ok (.aload_n 0, 1) := by decide +kernel
theorem dX11_tellRan_6 : decode cX11_tellRan 6 = .ok (.getfield 73, 3) := by decide +kernel
theorem dX11_tellRan_9 : decode cX11_tellRan 9 = .ok (.iconst 0, 1) := by decide +kernel
theorem dX11_tellRan_10 : decode cX11_tellRan 10 = .ok (.aload_n 0, 1) := by decide +kernel
theorem dX11_tellRan_11 : decode cX11_tellRan 11 = .ok (.getfield 51, 3) := by decide +kernel
theorem dX11_tellRan_14 : decode cX11_tellRan 14 = .ok (.getfield 252, 3) := by decide +kernel
theorem dX11_tellRan_17 : decode cX11_tellRan 17 = .ok (.iastore, 1) := by decide +kernel
theorem dX11_tellRan_18 : decode cX11_tellRan 18 = .ok (.aload_n 0, 1) := by decide +kernel
theorem dX11_tellRan_19 : decode cX11_tellRan 19 = .ok (.getfield 73, 3) := by decide +kernel
theorem dX11_tellRan_22 : decode cX11_tellRan 22 = .ok (.iconst 1, 1) := by decide +kernel
theorem dX11_tellRan_23 : decode cX11_tellRan 23 = .ok (.aload_n 0, 1) := by decide +kernel
theorem dX11_tellRan_24 : decode cX11_tellRan 24 = .ok (.getfield 51, 3) := by decide +kernel
theorem dX11_tellRan_27 : decode cX11_tellRan 27 = .ok (.getfield 249, 3) := by decide +kernel
theorem dX11_tellRan_30 : decode cX11_tellRan 30 = .ok (.iastore, 1) := by decide +kernel
theorem dX11_tellRan_31 : decode cX11_tellRan 31 = .ok (.aload_n 0, 1) := by decide +kernel
theorem dX11_tellRan_32 : decode cX11_tellRan 32 = .ok (.getfield 73, 3) := by decide +kernel
theorem dX11_tellRan_35 : decode cX11_tellRan 35 = .ok (.iconst 2, 1) := by decide +kernel
theorem dX11_tellRan_36 : decode cX11_tellRan 36 = .ok (.aload_n 0, 1) := by decide +kernel
theorem dX11_tellRan_37 : decode cX11_tellRan 37 = .ok (.getfield 51, 3) := by decide +kernel
theorem dX11_tellRan_40 : decode cX11_tellRan 40 = .ok (.getfield 243, 3) := by decide +kernel
theorem dX11_tellRan_43 : decode cX11_tellRan 43 = .ok (.iastore, 1) := by decide +kernel
theorem dX11_tellRan_44 : decode cX11_tellRan 44 = .ok (.aload_n 0, 1) := by decide +kernel
theorem dX11_tellRan_45 : decode cX11_tellRan 45 = .ok (.getfield 73, 3) := by decide +kernel
theorem dX11_tellRan_48 : decode cX11_tellRan 48 = .ok (.iconst 3, 1) := by decide +kernel
theorem dX11_tellRan_49 : decode cX11_tellRan 49 = .ok (.aload_n 0, 1) := by decide +kernel
theorem dX11_tellRan_50 : decode cX11_tellRan 50 = .ok (.getfield 51, 3) := by decide +kernel
theorem dX11_tellRan_53 : decode cX11_tellRan 53 = .ok (.getfield 255, 3) := by decide +kernel
theorem dX11_tellRan_56 : decode cX11_tellRan 56 = .ok (.iastore, 1) := by decide +kernel
theorem dX11_tellRan_57 : decode cX11_tellRan 57 = .ok (.aload_n 0, 1) := by decide +kernel
theorem dX11_tellRan_58 : decode cX11_tellRan 58 = .ok (.getfield 73, 3) := by decide +kernel
theorem dX11_tellRan_61 : decode cX11_tellRan 61 = .ok (.iconst 4, 1) := by decide +kernel
theorem dX11_tellRan_62 : decode cX11_tellRan 62 = .ok (.aload_n 0, 1) := by decide +kernel
theorem dX11_tellRan_63 : decode cX11_tellRan 63 = .ok (.getfield 51, 3) := by decide +kernel
theorem dX11_tellRan_66 : decode cX11_tellRan 66 = .ok (.getfield 231, 3) := by decide +kernel
theorem dX11_tellRan_69 : decode cX11_tellRan 69 = .ok (.iastore, 1) := by decide +kernel
theorem dX11_tellRan_70 : decode cX11_tellRan 70 = .ok (.aload_n 0, 1) := by decide +kernel
theorem dX11_tellRan_71 : decode cX11_tellRan 71 = .ok (.getfield 73, 3) := by decide +kernel
theorem dX11_tellRan_74 : decode cX11_tellRan 74 = .ok (.iconst 5, 1) := by decide +kernel
theorem dX11_tellRan_75 : decode cX11_tellRan 75 = .ok (.aload_n 0, 1) := by decide +kernel
theorem dX11_tellRan_76 : decode cX11_tellRan 76 = .ok (.getfield 51, 3) := by decide +kernel
theorem dX11_tellRan_79 : decode cX11_tellRan 79 = .ok (.invokevirtual 282, 3) := by decide +kernel
theorem dX11_tellRan_82 : decode cX11_tellRan 82 = .ok (.iastore, 1) := by decide +kernel
theorem dX11_tellRan_83 : decode cX11_tellRan 83 = .ok (.aload_n 0, 1) := by decide +kernel
theorem dX11_tellRan_84 : decode cX11_tellRan 84 = .ok (.getfield 73, 3) := by decide +kernel
theorem dX11_tellRan_87 : decode cX11_tellRan 87 = .ok (.bipush 6, 2) := by decide +kernel
theorem dX11_tellRan_89 : decode cX11_tellRan 89 = .ok (.aload_n 0, 1) := by decide +kernel
theorem dX11_tellRan_90 : decode cX11_tellRan 90 = .ok (.getfield 51, 3) := by decide +kernel
theorem dX11_tellRan_93 : decode cX11_tellRan 93 = .ok (.invokevirtual 282, 3) := by decide +kernel
theorem dX11_tellRan_96 : decode cX11_tellRan 96 = .ok (.iconst 1, 1) := by decide +kernel
theorem dX11_tellRan_97 : decode cX11_tellRan 97 = .ok (.if_icmp .ne 13, 3) := by decide +kernel
theorem dX11_tellRan_100 : decode cX11_tellRan 100 = .ok (.aload_n 0, 1) := by decide +kernel
theorem dX11_tellRan_101 : decode cX11_tellRan 101 = .ok (.getfield 51, 3) := by decide +kernel
theorem dX11_tellRan_104 : decode cX11_tellRan 104 = .ok (.getfield 285, 3) := by decide +kernel
theorem dX11_tellRan_107 : decode cX11_tellRan 107 = .ok (.goto 4, 3) := by decide +kernel
theorem dX11_tellRan_110 : decode cX11_tellRan 110 = .ok (.iconst 0, 1) := by decide +kernel
theorem dX11_tellRan_111 : decode cX11_tellRan 111 = .ok (.iastore, 1) := by decide +kernel
theorem dX11_tellRan_112 : decode cX11_tellRan 112 = .ok (.aload_n 0, 1) := by decide +kernel
theorem dX11_tellRan_113 : decode cX11_tellRan 113 = .ok (.getfield 73, 3) := by decide +kernel
theorem dX11_tellRan_116 : decode cX11_tellRan 116 = .ok (.bipush 7, 2) := by decide +kernel
theorem dX11_tellRan_118 : decode cX11_tellRan 118 = .ok (.iload_n 1, 1) := by decide +kernel
theorem dX11_tellRan_119 : decode cX11_tellRan 119 = .ok (.iastore, 1) := by decide +kernel
theorem dX11_tellRan_120 : decode cX11_tellRan 120 = .ok (.return_, 1) := by decide +kernel
theorem dJ0_length_8abf5_0 : decode cJ0_length_8abf5 0 = .ok (.aload_n 0, 1) := by decide +kernel
theorem dJ0_length_8abf5_1 : decode cJ0_length_8abf5 1 = .ok (.getfield 9, 3) := by decide +kernel
theorem dJ0_length_8abf5_4 : decode cJ0_length_8abf5 4 = .ok (.arraylength, 1) := by decide +kernel
theorem dJ0_length_8abf5_5 : decode cJ0_length_8abf5 5 = .ok (.aload_n 0, 1) := by decide +kernel
theorem dJ0_length_8abf5_6 : decode cJ0_length_8abf5 6 = .ok (.invokevirtual 335, 3) := by decide +kernel
theorem dJ0_length_8abf5_9 : decode cJ0_length_8abf5 9 = .ok (.ishr, 1) := by decide +kernel
theorem dJ0_length_8abf5_10 : decode cJ0_length_8abf5 10 = .ok (.ireturn, 1) := by decide +kernel
theorem dJ0_charAt_5068e_0 : decode cJ0_charAt_5068e 0 = .ok (.aload_n 0, 1) := by decide +kernel
theorem dJ0_charAt_5068e_1 : decode cJ0_charAt_5068e 1 = .ok (.invokevirtual 492, 3) := by decide +kernel
theorem dJ0_charAt_5068e_4 : decode cJ0_charAt_5068e 4 = .ok (.ifCond .eq 12, 3) := by decide +kernel
theorem dJ0_charAt_5068e_7 : decode cJ0_charAt_5068e 7 = .ok (.aload_n 0, 1) := by decide +kernel
theorem dJ0_charAt_5068e_8 : decode cJ0_charAt_5068e 8 = .ok (.getfield 9, 3) := by decide +kernel
theorem dJ0_charAt_5068e_11 : decode cJ0_charAt_5068e 11 = .ok (.iload_n 1, 1) := by decide +kernel
theorem dJ0_charAt_5068e_12 : decode cJ0_charAt_5068e 12 = .ok (.invokestatic 495, 3) := by decide +kernel
theorem dJ0_charAt_5068e_15 : decode cJ0_charAt_5068e 15 = .ok (.ireturn, 1) := by decide +kernel
theorem dJ0_charAt_5068e_16 : decode cJ0_charAt_5068e 16 = .ok (.aload_n 0, 1) := by decide +kernel
theorem dJ0_charAt_5068e_17 : decode cJ0_charAt_5068e 17 = .ok (.getfield 9, 3) := by decide +kernel
theorem dJ0_charAt_5068e_20 : decode cJ0_charAt_5068e 20 = .ok (.iload_n 1, 1) := by decide +kernel
theorem dJ0_charAt_5068e_21 : decode cJ0_charAt_5068e 21 = .ok (.invokestatic 498, 3) := by decide +kernel
theorem dJ0_charAt_5068e_24 : decode cJ0_charAt_5068e 24 = .ok (.ireturn, 1) := by decide +kernel
theorem dJ0_coder_7d493_0 : decode cJ0_coder_7d493 0 = .ok (.getstatic 38, 3) := by decide +kernel
theorem dJ0_coder_7d493_3 : decode cJ0_coder_7d493 3 = .ok (.ifCond .eq 10, 3) := by decide +kernel
theorem dJ0_coder_7d493_6 : decode cJ0_coder_7d493 6 = .ok (.aload_n 0, 1) := by decide +kernel
theorem dJ0_coder_7d493_7 : decode cJ0_coder_7d493 7 = .ok (.getfield 15, 3) := by decide +kernel
theorem dJ0_coder_7d493_10 : decode cJ0_coder_7d493 10 = .ok (.goto 4, 3) := by decide +kernel
theorem dJ0_coder_7d493_13 : decode cJ0_coder_7d493 13 = .ok (.iconst 1, 1) := by decide +kernel
theorem dJ0_coder_7d493_14 : decode cJ0_coder_7d493 14 = .ok (.ireturn, 1) := by decide +kernel
theorem dJ0_isLatin1_aae02_0 : decode cJ0_isLatin1_aae02 0 = .ok (.getstatic 38, 3) := by decide +kernel
theorem dJ0_isLatin1_aae02_3 : decode cJ0_isLatin1_aae02 3 = .ok (.ifCond .eq 14, 3) := by decide +kernel
theorem dJ0_isLatin1_aae02_6 : decode cJ0_isLatin1_aae02 6 = .ok (.aload_n 0, 1) := by decide +kernel
theorem dJ0_isLatin1_aae02_7 : decode cJ0_isLatin1_aae02 7 = .ok (.getfield 15, 3) := by decide +kernel
theorem dJ0_isLatin1_aae02_10 : decode cJ0_isLatin1_aae02 10 = .ok (.ifCond .ne 7, 3) := by decide +kernel
theorem dJ0_isLatin1_aae02_13 : decode cJ0_isLatin1_aae02 13 = .ok (.iconst 1, 1) := by decide +kernel
theorem dJ0_isLatin1_aae02_14 : decode cJ0_isLatin1_aae02 14 = .ok (.goto 4, 3) := by decide +kernel
theorem dJ0_isLatin1_aae02_17 : decode cJ0_isLatin1_aae02 17 = .ok (.iconst 0, 1) := by decide +kernel
theorem dJ0_isLatin1_aae02_18 : decode cJ0_isLatin1_aae02 18 = .ok (.ireturn, 1) := by decide +kernel
theorem dJ0_checkIndex_df160_0 : decode cJ0_checkIndex_df160 0 = .ok (.iload_n 0, 1) := by decide +kernel
theorem dJ0_checkIndex_df160_1 : decode cJ0_checkIndex_df160 1 = .ok (.iload_n 1, 1) := by decide +kernel
theorem dJ0_checkIndex_df160_2 : decode cJ0_checkIndex_df160 2 = .ok (.getstatic 1053, 3) := by decide +kernel
theorem dJ0_checkIndex_df160_5 : decode cJ0_checkIndex_df160 5 = .ok (.invokestatic 1059, 3) := by decide +kernel
theorem dJ0_checkIndex_df160_8 : decode cJ0_checkIndex_df160 8 = .ok (.pop, 1) := by decide +kernel
theorem dJ0_checkIndex_df160_9 : decode cJ0_checkIndex_df160 9 = .ok (.return_, 1) := by decide +kernel
theorem dJ1_charAt_3b067_0 : decode cJ1_charAt_3b067 0 = .ok (.iload_n 1, 1) := by decide +kernel
theorem dJ1_charAt_3b067_1 : decode cJ1_charAt_3b067 1 = .ok (.aload_n 0, 1) := by decide +kernel
theorem dJ1_charAt_3b067_2 : decode cJ1_charAt_3b067 2 = .ok (.arraylength, 1) := by decide +kernel
theorem dJ1_charAt_3b067_3 : decode cJ1_charAt_3b067 3 = .ok (.invokestatic 9, 3) := by decide +kernel
theorem dJ1_charAt_3b067_6 : decode cJ1_charAt_3b067 6 = .ok (.aload_n 0, 1) := by decide +kernel
theorem dJ1_charAt_3b067_7 : decode cJ1_charAt_3b067 7 = .ok (.iload_n 1, 1) := by decide +kernel
theorem dJ1_charAt_3b067_8 : decode cJ1_charAt_3b067 8 = .ok (.baload, 1) := by decide +kernel
theorem dJ1_charAt_3b067_9 : decode cJ1_charAt_3b067 9 = .ok (.sipush 255, 3) := by decide +kernel
theorem dJ1_charAt_3b067_12 : decode cJ1_charAt_3b067 12 = .ok (.iand, 1) := by decide +kernel
theorem dJ1_charAt_3b067_13 : decode cJ1_charAt_3b067 13 = .ok (.i2c, 1) := by decide +kernel
theorem dJ1_charAt_3b067_14 : decode cJ1_charAt_3b067 14 = .ok (.ireturn, 1) := by decide +kernel
theorem dJ2_getChar_3b067_0 : decode cJ2_getChar_3b067 0 = .ok (.getstatic 44, 3) := by decide +kernel
theorem dJ2_getChar_3b067_3 : decode cJ2_getChar_3b067 3 = .ok (.ifCond .ne 25, 3) := by decide +kernel
theorem dJ2_getChar_3b067_6 : decode cJ2_getChar_3b067 6 = .ok (.iload_n 1, 1) := by decide +kernel
theorem dJ2_getChar_3b067_7 : decode cJ2_getChar_3b067 7 = .ok (.ifCond .lt 11, 3) := by decide +kernel
theorem dJ2_getChar_3b067_10 : decode cJ2_getChar_3b067 10 = .ok (.iload_n 1, 1) := by decide +kernel
theorem dJ2_getChar_3b067_11 : decode cJ2_getChar_3b067 11 = .ok (.aload_n 0, 1) := by decide +kernel
theorem dJ2_getChar_3b067_12 : decode cJ2_getChar_3b067 12 = .ok (.invokestatic 48, 3) := by decide +kernel
theorem dJ2_getChar_3b067_15 : decode cJ2_getChar_3b067 15 = .ok (.if_icmp .lt 13, 3) := by decide +kernel
theorem dJ2_getChar_3b067_18 : decode cJ2_getChar_3b067 18 = .ok (.new 52, 3) := by decide +kernel
theorem dJ2_getChar_3b067_21 : decode cJ2_getChar_3b067 21 = .ok (.dup, 1) := by decide +kernel
theorem dJ2_getChar_3b067_22 : decode cJ2_getChar_3b067 22 = .ok (.ldc 54, 2) := by decide +kernel
theorem dJ2_getChar_3b067_24 : decode cJ2_getChar_3b067 24 = .ok (.invokespecial 56, 3) := by decide +kernel
theorem dJ2_getChar_3b067_27 : decode cJ2_getChar_3b067 27 = .ok (.athrow, 1) := by decide +kernel
theorem dJ2_getChar_3b067_28 : decode cJ2_getChar_3b067 28 = .ok (.iload_n 1, 1) := by decide +kernel
theorem dJ2_getChar_3b067_29 : decode cJ2_getChar_3b067 29 = .ok (.iconst 1, 1) := by decide +kernel
theorem dJ2_getChar_3b067_30 : decode cJ2_getChar_3b067 30 = .ok (.ishl, 1) := by decide +kernel
theorem dJ2_getChar_3b067_31 : decode cJ2_getChar_3b067 31 = .ok (.istore_n 1, 1) := by decide +kernel
theorem dJ2_getChar_3b067_32 : decode cJ2_getChar_3b067 32 = .ok (.aload_n 0, 1) := by decide +kernel
theorem dJ2_getChar_3b067_33 : decode cJ2_getChar_3b067 33 = .ok (.iload_n 1, 1) := by decide +kernel
theorem dJ2_getChar_3b067_34 : decode cJ2_getChar_3b067 34 = .ok (.iinc 1 1, 3) := by decide +kernel
theorem dJ2_getChar_3b067_37 : decode cJ2_getChar_3b067 37 = .ok (.baload, 1) := by decide +kernel
theorem dJ2_getChar_3b067_38 : decode cJ2_getChar_3b067 38 = .ok (.sipush 255, 3) := by decide +kernel
theorem dJ2_getChar_3b067_41 : decode cJ2_getChar_3b067 41 = .ok (.iand, 1) := by decide +kernel
theorem dJ2_getChar_3b067_42 : decode cJ2_getChar_3b067 42 = .ok (.getstatic 59, 3) := by decide +kernel
theorem dJ2_getChar_3b067_45 : decode cJ2_getChar_3b067 45 = .ok (.ishl, 1) := by decide +kernel
theorem dJ2_getChar_3b067_46 : decode cJ2_getChar_3b067 46 = .ok (.aload_n 0, 1) := by decide +kernel
theorem dJ2_getChar_3b067_47 : decode cJ2_getChar_3b067 47 = .ok (.iload_n 1, 1) := by decide +kernel
theorem dJ2_getChar_3b067_48 : decode cJ2_getChar_3b067 48 = .ok (.baload, 1) := by decide +kernel
theorem dJ2_getChar_3b067_49 : decode cJ2_getChar_3b067 49 = .ok (.sipush 255, 3) := by decide +kernel
theorem dJ2_getChar_3b067_52 : decode cJ2_getChar_3b067 52 = .ok (.iand, 1) := by decide +kernel
theorem dJ2_getChar_3b067_53 : decode cJ2_getChar_3b067 53 = .ok (.getstatic 63, 3) := by decide +kernel
theorem dJ2_getChar_3b067_56 : decode cJ2_getChar_3b067 56 = .ok (.ishl, 1) := by decide +kernel
theorem dJ2_getChar_3b067_57 : decode cJ2_getChar_3b067 57 = .ok (.ior, 1) := by decide +kernel
theorem dJ2_getChar_3b067_58 : decode cJ2_getChar_3b067 58 = .ok (.i2c, 1) := by decide +kernel
theorem dJ2_getChar_3b067_59 : decode cJ2_getChar_3b067 59 = .ok (.ireturn, 1) := by decide +kernel
theorem dJ2_length_9d52b_0 : decode cJ2_length_9d52b 0 = .ok (.aload_n 0, 1) := by decide +kernel
theorem dJ2_length_9d52b_1 : decode cJ2_length_9d52b 1 = .ok (.arraylength, 1) := by decide +kernel
theorem dJ2_length_9d52b_2 : decode cJ2_length_9d52b 2 = .ok (.iconst 1, 1) := by decide +kernel
theorem dJ2_length_9d52b_3 : decode cJ2_length_9d52b 3 = .ok (.ishr, 1) := by decide +kernel
theorem dJ2_length_9d52b_4 : decode cJ2_length_9d52b 4 = .ok (.ireturn, 1) := by decide +kernel
theorem dJ2_charAt_3b067_0 : decode cJ2_charAt_3b067 0 = .ok (.iload_n 1, 1) := by decide +kernel
theorem dJ2_charAt_3b067_1 : decode cJ2_charAt_3b067 1 = .ok (.aload_n 0, 1) := by decide +kernel
theorem dJ2_charAt_3b067_2 : decode cJ2_charAt_3b067 2 = .ok (.invokestatic 67, 3) := by decide +kernel
theorem dJ2_charAt_3b067_5 : decode cJ2_charAt_3b067 5 = .ok (.aload_n 0, 1) := by decide +kernel
theorem dJ2_charAt_3b067_6 : decode cJ2_charAt_3b067 6 = .ok (.iload_n 1, 1) := by decide +kernel
theorem dJ2_charAt_3b067_7 : decode cJ2_charAt_3b067 7 = .ok (.invokestatic 71, 3) := by decide +kernel
theorem dJ2_charAt_3b067_10 : decode cJ2_charAt_3b067 10 = .ok (.ireturn, 1) := by decide +kernel
theorem dJ2_checkIndex_2214a_0 : decode cJ2_checkIndex_2214a 0 = .ok (.iload_n 0, 1) := by decide +kernel
theorem dJ2_checkIndex_2214a_1 : decode cJ2_checkIndex_2214a 1 = .ok (.aload_n 1, 1) := by decide +kernel
theorem dJ2_checkIndex_2214a_2 : decode cJ2_checkIndex_2214a 2 = .ok (.invokestatic 48, 3) := by decide +kernel
theorem dJ2_checkIndex_2214a_5 : decode cJ2_checkIndex_2214a 5 = .ok (.invokestatic 414, 3) := by decide +kernel
theorem dJ2_checkIndex_2214a_8 : decode cJ2_checkIndex_2214a 8 = .ok (.return_, 1) := by decide +kernel
theorem dJ3_checkIndex_8e157_0 : decode cJ3_checkIndex_8e157 0 = .ok (.iload_n 0, 1) := by decide +kernel
theorem dJ3_checkIndex_8e157_1 : decode cJ3_checkIndex_8e157 1 = .ok (.ifCond .lt 8, 3) := by decide +kernel
theorem dJ3_checkIndex_8e157_4 : decode cJ3_checkIndex_8e157 4 = .ok (.iload_n 0, 1) := by decide +kernel
theorem dJ3_checkIndex_8e157_5 : decode cJ3_checkIndex_8e157 5 = .ok (.iload_n 1, 1) := by decide +kernel
theorem dJ3_checkIndex_8e157_6 : decode cJ3_checkIndex_8e157 6 = .ok (.if_icmp .lt 10, 3) := by decide +kernel
theorem dJ3_checkIndex_8e157_9 : decode cJ3_checkIndex_8e157 9 = .ok (.aload_n 2, 1) := by decide +kernel
theorem dJ3_checkIndex_8e157_10 : decode cJ3_checkIndex_8e157 10 = .ok (.iload_n 0, 1) := by decide +kernel
theorem dJ3_checkIndex_8e157_11 : decode cJ3_checkIndex_8e157 11 = .ok (.iload_n 1, 1) := by decide +kernel
theorem dJ3_checkIndex_8e157_12 : decode cJ3_checkIndex_8e157 12 = .ok (.invokestatic 95, 3) := by decide +kernel
theorem dJ3_checkIndex_8e157_15 : decode cJ3_checkIndex_8e157 15 = .ok (.athrow, 1) := by decide +kernel
theorem dJ3_checkIndex_8e157_16 : decode cJ3_checkIndex_8e157 16 = .ok (.iload_n 0, 1) := by decide +kernel
theorem dJ3_checkIndex_8e157_17 : decode cJ3_checkIndex_8e157 17 = .ok (.ireturn, 1) := by decide +kernel
theorem dJ6_bitCount_0f7a4_0 : decode cJ6_bitCount_0f7a4 0 = .ok (.iload_n 0, 1) := by decide +kernel
theorem dJ6_bitCount_0f7a4_1 : decode cJ6_bitCount_0f7a4 1 = .ok (.iload_n 0, 1) := by decide +kernel
theorem dJ6_bitCount_0f7a4_2 : decode cJ6_bitCount_0f7a4 2 = .ok (.iconst 1, 1) := by decide +kernel
theorem dJ6_bitCount_0f7a4_3 : decode cJ6_bitCount_0f7a4 3 = .ok (.iushr, 1) := by decide +kernel
theorem dJ6_bitCount_0f7a4_4 : decode cJ6_bitCount_0f7a4 4 = .ok (.ldc_w 265, 3) := by decide +kernel
theorem dJ6_bitCount_0f7a4_7 : decode cJ6_bitCount_0f7a4 7 = .ok (.iand, 1) := by decide +kernel
theorem dJ6_bitCount_0f7a4_8 : decode cJ6_bitCount_0f7a4 8 = .ok (.isub, 1) := by decide +kernel
theorem dJ6_bitCount_0f7a4_9 : decode cJ6_bitCount_0f7a4 9 = .ok (.istore_n 0, 1) := by decide +kernel
theorem dJ6_bitCount_0f7a4_10 : decode cJ6_bitCount_0f7a4 10 = .ok (.iload_n 0, 1) := by decide +kernel
theorem dJ6_bitCount_0f7a4_11 : decode cJ6_bitCount_0f7a4 11 = .ok (.ldc_w 266, 3) := by decide +kernel
theorem dJ6_bitCount_0f7a4_14 : decode cJ6_bitCount_0f7a4 14 = .ok (.iand, 1) := by decide +kernel
theorem dJ6_bitCount_0f7a4_15 : decode cJ6_bitCount_0f7a4 15 = .ok (.iload_n 0, 1) := by decide +kernel
theorem dJ6_bitCount_0f7a4_16 : decode cJ6_bitCount_0f7a4 16 = .ok (.iconst 2, 1) := by decide +kernel
theorem dJ6_bitCount_0f7a4_17 : decode cJ6_bitCount_0f7a4 17 = .ok (.iushr, 1) := by decide +kernel
theorem dJ6_bitCount_0f7a4_18 : decode cJ6_bitCount_0f7a4 18 = .ok (.ldc_w 266, 3) := by decide +kernel
theorem dJ6_bitCount_0f7a4_21 : decode cJ6_bitCount_0f7a4 21 = .ok (.iand, 1) := by decide +kernel
theorem dJ6_bitCount_0f7a4_22 : decode cJ6_bitCount_0f7a4 22 = .ok (.iadd, 1) := by decide +kernel
theorem dJ6_bitCount_0f7a4_23 : decode cJ6_bitCount_0f7a4 23 = .ok (.istore_n 0, 1) := by decide +kernel
theorem dJ6_bitCount_0f7a4_24 : decode cJ6_bitCount_0f7a4 24 = .ok (.iload_n 0, 1) := by decide +kernel
theorem dJ6_bitCount_0f7a4_25 : decode cJ6_bitCount_0f7a4 25 = .ok (.iload_n 0, 1) := by decide +kernel
theorem dJ6_bitCount_0f7a4_26 : decode cJ6_bitCount_0f7a4 26 = .ok (.iconst 4, 1) := by decide +kernel
theorem dJ6_bitCount_0f7a4_27 : decode cJ6_bitCount_0f7a4 27 = .ok (.iushr, 1) := by decide +kernel
theorem dJ6_bitCount_0f7a4_28 : decode cJ6_bitCount_0f7a4 28 = .ok (.iadd, 1) := by decide +kernel
theorem dJ6_bitCount_0f7a4_29 : decode cJ6_bitCount_0f7a4 29 = .ok (.ldc_w 267, 3) := by decide +kernel
theorem dJ6_bitCount_0f7a4_32 : decode cJ6_bitCount_0f7a4 32 = .ok (.iand, 1) := by decide +kernel
theorem dJ6_bitCount_0f7a4_33 : decode cJ6_bitCount_0f7a4 33 = .ok (.istore_n 0, 1) := by decide +kernel
theorem dJ6_bitCount_0f7a4_34 : decode cJ6_bitCount_0f7a4 34 = .ok (.iload_n 0, 1) := by decide +kernel
theorem dJ6_bitCount_0f7a4_35 : decode cJ6_bitCount_0f7a4 35 = .ok (.iload_n 0, 1) := by decide +kernel
theorem dJ6_bitCount_0f7a4_36 : decode cJ6_bitCount_0f7a4 36 = .ok (.bipush 8, 2) := by decide +kernel
theorem dJ6_bitCount_0f7a4_38 : decode cJ6_bitCount_0f7a4 38 = .ok (.iushr, 1) := by decide +kernel
theorem dJ6_bitCount_0f7a4_39 : decode cJ6_bitCount_0f7a4 39 = .ok (.iadd, 1) := by decide +kernel
theorem dJ6_bitCount_0f7a4_40 : decode cJ6_bitCount_0f7a4 40 = .ok (.istore_n 0, 1) := by decide +kernel
theorem dJ6_bitCount_0f7a4_41 : decode cJ6_bitCount_0f7a4 41 = .ok (.iload_n 0, 1) := by decide +kernel
theorem dJ6_bitCount_0f7a4_42 : decode cJ6_bitCount_0f7a4 42 = .ok (.iload_n 0, 1) := by decide +kernel
theorem dJ6_bitCount_0f7a4_43 : decode cJ6_bitCount_0f7a4 43 = .ok (.bipush 16, 2) := by decide +kernel
theorem dJ6_bitCount_0f7a4_45 : decode cJ6_bitCount_0f7a4 45 = .ok (.iushr, 1) := by decide +kernel
theorem dJ6_bitCount_0f7a4_46 : decode cJ6_bitCount_0f7a4 46 = .ok (.iadd, 1) := by decide +kernel
theorem dJ6_bitCount_0f7a4_47 : decode cJ6_bitCount_0f7a4 47 = .ok (.istore_n 0, 1) := by decide +kernel
theorem dJ6_bitCount_0f7a4_48 : decode cJ6_bitCount_0f7a4 48 = .ok (.iload_n 0, 1) := by decide +kernel
theorem dJ6_bitCount_0f7a4_49 : decode cJ6_bitCount_0f7a4 49 = .ok (.bipush 63, 2) := by decide +kernel
theorem dJ6_bitCount_0f7a4_51 : decode cJ6_bitCount_0f7a4 51 = .ok (.iand, 1) := by decide +kernel
theorem dJ6_bitCount_0f7a4_52 : decode cJ6_bitCount_0f7a4 52 = .ok (.ireturn, 1) := by decide +kernel
theorem dJ7_fill_53178_0 : decode cJ7_fill_53178 0 = .ok (.iconst 0, 1) := by decide +kernel
theorem dJ7_fill_53178_1 : decode cJ7_fill_53178 1 = .ok (.istore_n 2, 1) := by decide +kernel
theorem dJ7_fill_53178_2 : decode cJ7_fill_53178 2 = .ok (.aload_n 0, 1) := by decide +kernel
theorem dJ7_fill_53178_3 : decode cJ7_fill_53178 3 = .ok (.arraylength, 1) := by decide +kernel
theorem dJ7_fill_53178_4 : decode cJ7_fill_53178 4 = .ok (.istore_n 3, 1) := by decide +kernel
theorem dJ7_fill_53178_5 : decode cJ7_fill_53178 5 = .ok (.iload_n 2, 1) := by decide +kernel
theorem dJ7_fill_53178_6 : decode cJ7_fill_53178 6 = .ok (.iload_n 3, 1) := by decide +kernel
theorem dJ7_fill_53178_7 : decode cJ7_fill_53178 7 = .ok (.if_icmp .ge 13, 3) := by decide +kernel
theorem dJ7_fill_53178_10 : decode cJ7_fill_53178 10 = .ok (.aload_n 0, 1) := by decide +kernel
theorem dJ7_fill_53178_11 : decode cJ7_fill_53178 11 = .ok (.iload_n 2, 1) := by decide +kernel
theorem dJ7_fill_53178_12 : decode cJ7_fill_53178 12 = .ok (.iload_n 1, 1) := by decide +kernel
theorem dJ7_fill_53178_13 : decode cJ7_fill_53178 13 = .ok (.iastore, 1) := by decide +kernel
theorem dJ7_fill_53178_14 : decode cJ7_fill_53178 14 = .ok (.iinc 2 1, 3) := by decide +kernel
theorem dJ7_fill_53178_17 : decode cJ7_fill_53178 17 = .ok (.goto (-12), 3) := by decide +kernel
theorem dJ7_fill_53178_20 : decode cJ7_fill_53178 20 = .ok (.return_, 1) := by decide +kernel
theorem dJ9_max_7cf53_0 : decode cJ9_max_7cf53 0 = .ok (.iload_n 0, 1) := by decide +kernel
theorem dJ9_max_7cf53_1 : decode cJ9_max_7cf53 1 = .ok (.iload_n 1, 1) := by decide +kernel
theorem dJ9_max_7cf53_2 : decode cJ9_max_7cf53 2 = .ok (.if_icmp .lt 7, 3) := by decide +kernel
theorem dJ9_max_7cf53_5 : decode cJ9_max_7cf53 5 = .ok (.iload_n 0, 1) := by decide +kernel
theorem dJ9_max_7cf53_6 : decode cJ9_max_7cf53 6 = .ok (.goto 4, 3) := by decide +kernel
theorem dJ9_max_7cf53_9 : decode cJ9_max_7cf53 9 = .ok (.iload_n 1, 1) := by decide +kernel
theorem dJ9_max_7cf53_10 : decode cJ9_max_7cf53 10 = .ok (.ireturn, 1) := by decide +kernel
theorem dJ9_min_7cf53_0 : decode cJ9_min_7cf53 0 = .ok (.iload_n 0, 1) := by decide +kernel
theorem dJ9_min_7cf53_1 : decode cJ9_min_7cf53 1 = .ok (.iload_n 1, 1) := by decide +kernel
theorem dJ9_min_7cf53_2 : decode cJ9_min_7cf53 2 = .ok (.if_icmp .gt 7, 3) := by decide +kernel
theorem dJ9_min_7cf53_5 : decode cJ9_min_7cf53 5 = .ok (.iload_n 0, 1) := by decide +kernel
theorem dJ9_min_7cf53_6 : decode cJ9_min_7cf53 6 = .ok (.goto 4, 3) := by decide +kernel
theorem dJ9_min_7cf53_9 : decode cJ9_min_7cf53 9 = .ok (.iload_n 1, 1) := by decide +kernel
theorem dJ9_min_7cf53_10 : decode cJ9_min_7cf53 10 = .ok (.ireturn, 1) := by decide +kernel
