theorem dX6_reachOfVar_4 : decode cX6_reachOfVar 4 = .ok (.iload_n 1, 1) := by decide +kernel
theorem dX6_reachOfVar_5 : decode cX6_reachOfVar 5 = .ok (.bipush 27, 2) := by decide +kernel
theorem dX6_reachOfVar_7 : decode cX6_reachOfVar 7 = .ok (.imul, 1) := by decide +kernel
theorem dX6_reachOfVar_8 : decode cX6_reachOfVar 8 = .ok (.iload_n 2, 1) := by decide +kernel
theorem dX6_reachOfVar_9 : decode cX6_reachOfVar 9 = .ok (.iadd, 1) := by decide +kernel
theorem dX6_reachOfVar_10 : decode cX6_reachOfVar 10 = .ok (.iaload, 1) := by decide +kernel
theorem dX6_reachOfVar_11 : decode cX6_reachOfVar 11 = .ok (.ireturn, 1) := by decide +kernel
theorem dX6_derive_0 : decode cX6_derive 0 = .ok (.aload_n 0, 1) := by decide +kernel
theorem dX6_derive_1 : decode cX6_derive 1 = .ok (.invokevirtual 68, 3) := by decide +kernel
theorem dX6_derive_4 : decode cX6_derive 4 = .ok (.aload_n 0, 1) := by decide +kernel
theorem dX6_derive_5 : decode cX6_derive 5 = .ok (.getfield 34, 3) := by decide +kernel
theorem dX6_derive_8 : decode cX6_derive 8 = .ok (.iconst 0, 1) := by decide +kernel
theorem dX6_derive_9 : decode cX6_derive 9 = .ok (.invokestatic 71, 3) := by decide +kernel
theorem dX6_derive_12 : decode cX6_derive 12 = .ok (.aload_n 0, 1) := by decide +kernel
theorem dX6_derive_13 : decode cX6_derive 13 = .ok (.getfield 37, 3) := by decide +kernel
theorem dX6_derive_16 : decode cX6_derive 16 = .ok (.iconst 0, 1) := by decide +kernel
theorem dX6_derive_17 : decode cX6_derive 17 = .ok (.invokestatic 71, 3) := by decide +kernel
theorem dX6_derive_20 : decode cX6_derive 20 = .ok (.aload_n 0, 1) := by decide +kernel
theorem dX6_derive_21 : decode cX6_derive 21 = .ok (.getfield 52, 3) := by decide +kernel
theorem dX6_derive_24 : decode cX6_derive 24 = .ok (.iconst 0, 1) := by decide +kernel
theorem dX6_derive_25 : decode cX6_derive 25 = .ok (.invokestatic 71, 3) := by decide +kernel
theorem dX6_derive_28 : decode cX6_derive 28 = .ok (.aload_n 0, 1) := by decide +kernel
theorem dX6_derive_29 : decode cX6_derive 29 = .ok (.getfield 55, 3) := by decide +kernel
theorem dX6_derive_32 : decode cX6_derive 32 = .ok (.iconst 0, 1) := by decide +kernel
theorem dX6_derive_33 : decode cX6_derive 33 = .ok (.invokestatic 71, 3) := by decide +kernel
theorem dX6_derive_36 : decode cX6_derive 36 = .ok (.iconst 0, 1) := by decide +kernel
theorem dX6_derive_37 : decode cX6_derive 37 = .ok (.istore_n 2, 1) := by decide +kernel
theorem dX6_derive_38 : decode cX6_derive 38 = .ok (.iload_n 2, 1) := by decide +kernel
theorem dX6_derive_39 : decode cX6_derive 39 = .ok (.aload_n 1, 1) := by decide +kernel
theorem dX6_derive_40 : decode cX6_derive 40 = .ok (.getfield 77, 3) := by decide +kernel
theorem dX6_derive_43 : decode cX6_derive 43 = .ok (.if_icmp .ge 65, 3) := by decide +kernel
theorem dX6_derive_46 : decode cX6_derive 46 = .ok (.aload_n 0, 1) := by decide +kernel
theorem dX6_derive_47 : decode cX6_derive 47 = .ok (.aload_n 1, 1) := by decide +kernel
theorem dX6_derive_48 : decode cX6_derive 48 = .ok (.iload_n 2, 1) := by decide +kernel
theorem dX6_derive_49 : decode cX6_derive 49 = .ok (.invokevirtual 82, 3) := by decide +kernel
theorem dX6_derive_52 : decode cX6_derive 52 = .ok (.aload_n 0, 1) := by decide +kernel
theorem dX6_derive_53 : decode cX6_derive 53 = .ok (.aload_n 1, 1) := by decide +kernel
theorem dX6_derive_54 : decode cX6_derive 54 = .ok (.iload_n 2, 1) := by decide +kernel
theorem dX6_derive_55 : decode cX6_derive 55 = .ok (.invokevirtual 86, 3) := by decide +kernel
theorem dX6_derive_58 : decode cX6_derive 58 = .ok (.iconst 0, 1) := by decide +kernel
theorem dX6_derive_59 : decode cX6_derive 59 = .ok (.istore_n 3, 1) := by decide +kernel
theorem dX6_derive_60 : decode cX6_derive 60 = .ok (.iload_n 3, 1) := by decide +kernel
theorem dX6_derive_61 : decode cX6_derive 61 = .ok (.aload_n 0, 1) := by decide +kernel
theorem dX6_derive_62 : decode cX6_derive 62 = .ok (.getfield 9, 3) := by decide +kernel
theorem dX6_derive_65 : decode cX6_derive 65 = .ok (.if_icmp .ge 37, 3) := by decide +kernel
theorem dX6_derive_68 : decode cX6_derive 68 = .ok (.aload_n 0, 1) := by decide +kernel
theorem dX6_derive_69 : decode cX6_derive 69 = .ok (.iload_n 2, 1) := by decide +kernel
theorem dX6_derive_70 : decode cX6_derive 70 = .ok (.iload_n 3, 1) := by decide +kernel
theorem dX6_derive_71 : decode cX6_derive 71 = .ok (.invokevirtual 89, 3) := by decide +kernel
theorem dX6_derive_74 : decode cX6_derive 74 = .ok (.ifCond .eq 22, 3) := by decide +kernel
theorem dX6_derive_77 : decode cX6_derive 77 = .ok (.aload_n 0, 1) := by decide +kernel
theorem dX6_derive_78 : decode cX6_derive 78 = .ok (.getfield 34, 3) := by decide +kernel
theorem dX6_derive_81 : decode cX6_derive 81 = .ok (.iload_n 3, 1) := by decide +kernel
theorem dX6_derive_82 : decode cX6_derive 82 = .ok (.dup2, 1) := by decide +kernel
theorem dX6_derive_83 : decode cX6_derive 83 = .ok (.iaload, 1) := by decide +kernel
theorem dX6_derive_84 : decode cX6_derive 84 = .ok (.iconst 1, 1) := by decide +kernel
theorem dX6_derive_85 : decode cX6_derive 85 = .ok (.iload_n 2, 1) := by decide +kernel
theorem dX6_derive_86 : decode cX6_derive 86 = .ok (.ishl, 1) := by decide +kernel
theorem dX6_derive_87 : decode cX6_derive 87 = .ok (.ior, 1) := by decide +kernel
theorem dX6_derive_88 : decode cX6_derive 88 = .ok (.iastore, 1) := by decide +kernel
theorem dX6_derive_89 : decode cX6_derive 89 = .ok (.aload_n 0, 1) := by decide +kernel
theorem dX6_derive_90 : decode cX6_derive 90 = .ok (.aload_n 1, 1) := by decide +kernel
theorem dX6_derive_91 : decode cX6_derive 91 = .ok (.iload_n 2, 1) := by decide +kernel
theorem dX6_derive_92 : decode cX6_derive 92 = .ok (.iload_n 3, 1) := by decide +kernel
theorem dX6_derive_93 : decode cX6_derive 93 = .ok (.invokevirtual 93, 3) := by decide +kernel
theorem dX6_derive_96 : decode cX6_derive 96 = .ok (.iinc 3 1, 3) := by decide +kernel
theorem dX6_derive_99 : decode cX6_derive 99 = .ok (.goto (-39), 3) := by decide +kernel
theorem dX6_derive_102 : decode cX6_derive 102 = .ok (.iinc 2 1, 3) := by decide +kernel
theorem dX6_derive_105 : decode cX6_derive 105 = .ok (.goto (-67), 3) := by decide +kernel
theorem dX6_derive_108 : decode cX6_derive 108 = .ok (.aload_n 0, 1) := by decide +kernel
theorem dX6_derive_109 : decode cX6_derive 109 = .ok (.aload_n 1, 1) := by decide +kernel
theorem dX6_derive_110 : decode cX6_derive 110 = .ok (.invokevirtual 97, 3) := by decide +kernel
theorem dX6_derive_113 : decode cX6_derive 113 = .ok (.return_, 1) := by decide +kernel
theorem dX6_closeReach_0 : decode cX6_closeReach 0 = .ok (.iconst 0, 1) := by decide +kernel
theorem dX6_closeReach_1 : decode cX6_closeReach 1 = .ok (.istore_n 1, 1) := by decide +kernel
theorem dX6_closeReach_2 : decode cX6_closeReach 2 = .ok (.iload_n 1, 1) := by decide +kernel
theorem dX6_closeReach_3 : decode cX6_closeReach 3 = .ok (.aload_n 0, 1) := by decide +kernel
theorem dX6_closeReach_4 : decode cX6_closeReach 4 = .ok (.getfield 9, 3) := by decide +kernel
theorem dX6_closeReach_7 : decode cX6_closeReach 7 = .ok (.if_icmp .ge 18, 3) := by decide +kernel
theorem dX6_closeReach_10 : decode cX6_closeReach 10 = .ok (.aload_n 0, 1) := by decide +kernel
theorem dX6_closeReach_11 : decode cX6_closeReach 11 = .ok (.getfield 31, 3) := by decide +kernel
theorem dX6_closeReach_14 : decode cX6_closeReach 14 = .ok (.iload_n 1, 1) := by decide +kernel
theorem dX6_closeReach_15 : decode cX6_closeReach 15 = .ok (.iconst 1, 1) := by decide +kernel
theorem dX6_closeReach_16 : decode cX6_closeReach 16 = .ok (.iload_n 1, 1) := by decide +kernel
theorem dX6_closeReach_17 : decode cX6_closeReach 17 = .ok (.ishl, 1) := by decide +kernel
theorem dX6_closeReach_18 : decode cX6_closeReach 18 = .ok (.iastore, 1) := by decide +kernel
theorem dX6_closeReach_19 : decode cX6_closeReach 19 = .ok (.iinc 1 1, 3) := by decide +kernel
theorem dX6_closeReach_22 : decode cX6_closeReach 22 = .ok (.goto (-20), 3) := by decide +kernel
theorem dX6_closeReach_25 : decode cX6_closeReach 25 = .ok (.iconst 0, 1) := by decide +kernel
theorem dX6_closeReach_26 : decode cX6_closeReach 26 = .ok (.istore_n 1, 1) := by decide +kernel
theorem dX6_closeReach_27 : decode cX6_closeReach 27 = .ok (.iload_n 1, 1) := by decide +kernel
theorem dX6_closeReach_28 : decode cX6_closeReach 28 = .ok (.aload_n 0, 1) := by decide +kernel
theorem dX6_closeReach_29 : decode cX6_closeReach 29 = .ok (.getfield 9, 3) := by decide +kernel
theorem dX6_closeReach_32 : decode cX6_closeReach 32 = .ok (.if_icmp .ge 55, 3) := by decide +kernel
theorem dX6_closeReach_35 : decode cX6_closeReach 35 = .ok (.iconst 0, 1) := by decide +kernel
theorem dX6_closeReach_36 : decode cX6_closeReach 36 = .ok (.istore_n 2, 1) := by decide +kernel
theorem dX6_closeReach_37 : decode cX6_closeReach 37 = .ok (.iload_n 2, 1) := by decide +kernel
theorem dX6_closeReach_38 : decode cX6_closeReach 38 = .ok (.aload_n 0, 1) := by decide +kernel
theorem dX6_closeReach_39 : decode cX6_closeReach 39 = .ok (.getfield 9, 3) := by decide +kernel
theorem dX6_closeReach_42 : decode cX6_closeReach 42 = .ok (.if_icmp .ge 39, 3) := by decide +kernel
theorem dX6_closeReach_45 : decode cX6_closeReach 45 = .ok (.aload_n 0, 1) := by decide +kernel
theorem dX6_closeReach_46 : decode cX6_closeReach 46 = .ok (.getfield 31, 3) := by decide +kernel
theorem dX6_closeReach_49 : decode cX6_closeReach 49 = .ok (.iload_n 2, 1) := by decide +kernel
theorem dX6_closeReach_50 : decode cX6_closeReach 50 = .ok (.dup2, 1) := by decide +kernel
theorem dX6_closeReach_51 : decode cX6_closeReach 51 = .ok (.iaload, 1) := by decide +kernel
theorem dX6_closeReach_52 : decode cX6_closeReach 52 = .ok (.aload_n 0, 1) := by decide +kernel
theorem dX6_closeReach_53 : decode cX6_closeReach 53 = .ok (.aload_n 0, 1) := by decide +kernel
theorem dX6_closeReach_54 : decode cX6_closeReach 54 = .ok (.getfield 25, 3) := by decide +kernel
theorem dX6_closeReach_57 : decode cX6_closeReach 57 = .ok (.iload_n 2, 1) := by decide +kernel
theorem dX6_closeReach_58 : decode cX6_closeReach 58 = .ok (.iaload, 1) := by decide +kernel
theorem dX6_closeReach_59 : decode cX6_closeReach 59 = .ok (.invokevirtual 101, 3) := by decide +kernel
theorem dX6_closeReach_62 : decode cX6_closeReach 62 = .ok (.aload_n 0, 1) := by decide +kernel
theorem dX6_closeReach_63 : decode cX6_closeReach 63 = .ok (.aload_n 0, 1) := by decide +kernel
theorem dX6_closeReach_64 : decode cX6_closeReach 64 = .ok (.getfield 28, 3) := by decide +kernel
theorem dX6_closeReach_67 : decode cX6_closeReach 67 = .ok (.iload_n 2, 1) := by decide +kernel
theorem dX6_closeReach_68 : decode cX6_closeReach 68 = .ok (.iaload, 1) := by decide +kernel
theorem dX6_closeReach_69 : decode cX6_closeReach 69 = .ok (.invokevirtual 101, 3) := by decide +kernel
theorem dX6_closeReach_72 : decode cX6_closeReach 72 = .ok (.ior, 1) := by decide +kernel
theorem dX6_closeReach_73 : decode cX6_closeReach 73 = .ok (.ior, 1) := by decide +kernel
theorem dX6_closeReach_74 : decode cX6_closeReach 74 = .ok (.iastore, 1) := by decide +kernel
theorem dX6_closeReach_75 : decode cX6_closeReach 75 = .ok (.iinc 2 1, 3) := by decide +kernel
theorem dX6_closeReach_78 : decode cX6_closeReach 78 = .ok (.goto (-41), 3) := by decide +kernel
theorem dX6_closeReach_81 : decode cX6_closeReach 81 = .ok (.iinc 1 1, 3) := by decide +kernel
theorem dX6_closeReach_84 : decode cX6_closeReach 84 = .ok (.goto (-57), 3) := by decide +kernel
theorem dX6_closeReach_87 : decode cX6_closeReach 87 = .ok (.return_, 1) := by decide +kernel
theorem dX6_tellOwner_0 : decode cX6_tellOwner 0 = .ok (.iconst 0, 1) := by decide +kernel
theorem dX6_tellOwner_1 : decode cX6_tellOwner 1 = .ok (.istore_n 3, 1) := by decide +kernel
theorem dX6_tellOwner_2 : decode cX6_tellOwner 2 = .ok (.iconst 0, 1) := by decide +kernel
theorem dX6_tellOwner_3 : decode cX6_tellOwner 3 = .ok (.istore 4, 2) := by decide +kernel
theorem dX6_tellOwner_5 : decode cX6_tellOwner 5 = .ok (.iconst 0, 1) := by decide +kernel
theorem dX6_tellOwner_6 : decode cX6_tellOwner 6 = .ok (.istore 5, 2) := by decide +kernel
theorem dX6_tellOwner_8 : decode cX6_tellOwner 8 = .ok (.iload 5, 2) := by decide +kernel
theorem dX6_tellOwner_10 : decode cX6_tellOwner 10 = .ok (.aload_n 1, 1) := by decide +kernel
theorem dX6_tellOwner_11 : decode cX6_tellOwner 11 = .ok (.iload_n 2, 1) := by decide +kernel
theorem dX6_tellOwner_12 : decode cX6_tellOwner 12 = .ok (.invokevirtual 105, 3) := by decide +kernel
theorem dX6_tellOwner_15 : decode cX6_tellOwner 15 = .ok (.if_icmp .ge 69, 3) := by decide +kernel
theorem dX6_tellOwner_18 : decode cX6_tellOwner 18 = .ok (.aload_n 0, 1) := by decide +kernel
theorem dX6_tellOwner_19 : decode cX6_tellOwner 19 = .ok (.aload_n 0, 1) := by decide +kernel
theorem dX6_tellOwner_20 : decode cX6_tellOwner 20 = .ok (.iload_n 2, 1) := by decide +kernel
theorem dX6_tellOwner_21 : decode cX6_tellOwner 21 = .ok (.iload 5, 2) := by decide +kernel
theorem dX6_tellOwner_23 : decode cX6_tellOwner 23 = .ok (.invokevirtual 108, 3) := by decide +kernel
theorem dX6_tellOwner_26 : decode cX6_tellOwner 26 = .ok (.invokevirtual 101, 3) := by decide +kernel
theorem dX6_tellOwner_29 : decode cX6_tellOwner 29 = .ok (.istore 6, 2) := by decide +kernel
theorem dX6_tellOwner_31 : decode cX6_tellOwner 31 = .ok (.aload_n 0, 1) := by decide +kernel
theorem dX6_tellOwner_32 : decode cX6_tellOwner 32 = .ok (.getfield 22, 3) := by decide +kernel
theorem dX6_tellOwner_35 : decode cX6_tellOwner 35 = .ok (.iload_n 2, 1) := by decide +kernel
theorem dX6_tellOwner_36 : decode cX6_tellOwner 36 = .ok (.bipush 27, 2) := by decide +kernel
theorem dX6_tellOwner_38 : decode cX6_tellOwner 38 = .ok (.imul, 1) := by decide +kernel
theorem dX6_tellOwner_39 : decode cX6_tellOwner 39 = .ok (.iload 5, 2) := by decide +kernel
theorem dX6_tellOwner_41 : decode cX6_tellOwner 41 = .ok (.iadd, 1) := by decide +kernel
theorem dX6_tellOwner_42 : decode cX6_tellOwner 42 = .ok (.iload 6, 2) := by decide +kernel
theorem dX6_tellOwner_44 : decode cX6_tellOwner 44 = .ok (.iastore, 1) := by decide +kernel
theorem dX6_tellOwner_45 : decode cX6_tellOwner 45 = .ok (.iload_n 3, 1) := by decide +kernel
theorem dX6_tellOwner_46 : decode cX6_tellOwner 46 = .ok (.iload 6, 2) := by decide +kernel
theorem dX6_tellOwner_48 : decode cX6_tellOwner 48 = .ok (.ior, 1) := by decide +kernel
theorem dX6_tellOwner_49 : decode cX6_tellOwner 49 = .ok (.istore_n 3, 1) := by decide +kernel
theorem dX6_tellOwner_50 : decode cX6_tellOwner 50 = .ok (.iload 5, 2) := by decide +kernel
theorem dX6_tellOwner_52 : decode cX6_tellOwner 52 = .ok (.aload_n 1, 1) := by decide +kernel
theorem dX6_tellOwner_53 : decode cX6_tellOwner 53 = .ok (.getfield 112, 3) := by decide +kernel
theorem dX6_tellOwner_56 : decode cX6_tellOwner 56 = .ok (.iload_n 2, 1) := by decide +kernel
theorem dX6_tellOwner_57 : decode cX6_tellOwner 57 = .ok (.iaload, 1) := by decide +kernel
theorem dX6_tellOwner_58 : decode cX6_tellOwner 58 = .ok (.if_icmp .lt 13, 3) := by decide +kernel
theorem dX6_tellOwner_61 : decode cX6_tellOwner 61 = .ok (.iload 5, 2) := by decide +kernel
theorem dX6_tellOwner_63 : decode cX6_tellOwner 63 = .ok (.aload_n 1, 1) := by decide +kernel
theorem dX6_tellOwner_64 : decode cX6_tellOwner 64 = .ok (.iload_n 2, 1) := by decide +kernel
theorem dX6_tellOwner_65 : decode cX6_tellOwner 65 = .ok (.invokevirtual 115, 3) := by decide +kernel
theorem dX6_tellOwner_68 : decode cX6_tellOwner 68 = .ok (.if_icmp .ne 10, 3) := by decide +kernel
theorem dX6_tellOwner_71 : decode cX6_tellOwner 71 = .ok (.iload 4, 2) := by decide +kernel
theorem dX6_tellOwner_73 : decode cX6_tellOwner 73 = .ok (.iload 6, 2) := by decide +kernel
theorem dX6_tellOwner_75 : decode cX6_tellOwner 75 = .ok (.ior, 1) := by decide +kernel
theorem dX6_tellOwner_76 : decode cX6_tellOwner 76 = .ok (.istore 4, 2) := by decide +kernel
theorem dX6_tellOwner_78 : decode cX6_tellOwner 78 = .ok (.iinc 5 1, 3) := by decide +kernel
theorem dX6_tellOwner_81 : decode cX6_tellOwner 81 = .ok (.goto (-73), 3) := by decide +kernel
theorem dX6_tellOwner_84 : decode cX6_tellOwner 84 = .ok (.aload_n 0, 1) := by decide +kernel
theorem dX6_tellOwner_85 : decode cX6_tellOwner 85 = .ok (.getfield 40, 3) := by decide +kernel
theorem dX6_tellOwner_88 : decode cX6_tellOwner 88 = .ok (.iload_n 2, 1) := by decide +kernel
theorem dX6_tellOwner_89 : decode cX6_tellOwner 89 = .ok (.iload 4, 2) := by decide +kernel
theorem dX6_tellOwner_91 : decode cX6_tellOwner 91 = .ok (.iastore, 1) := by decide +kernel
theorem dX6_tellOwner_92 : decode cX6_tellOwner 92 = .ok (.aload_n 0, 1) := by decide +kernel
theorem dX6_tellOwner_93 : decode cX6_tellOwner 93 = .ok (.getfield 43, 3) := by decide +kernel
theorem dX6_tellOwner_96 : decode cX6_tellOwner 96 = .ok (.iload_n 2, 1) := by decide +kernel
theorem dX6_tellOwner_97 : decode cX6_tellOwner 97 = .ok (.iload_n 3, 1) := by decide +kernel
theorem dX6_tellOwner_98 : decode cX6_tellOwner 98 = .ok (.iload 4, 2) := by decide +kernel
theorem dX6_tellOwner_100 : decode cX6_tellOwner 100 = .ok (.iconst (-1), 1) := by decide +kernel
theorem dX6_tellOwner_101 : decode cX6_tellOwner 101 = .ok (.ixor, 1) := by decide +kernel
theorem dX6_tellOwner_102 : decode cX6_tellOwner 102 = .ok (.iand, 1) := by decide +kernel
theorem dX6_tellOwner_103 : decode cX6_tellOwner 103 = .ok (.iastore, 1) := by decide +kernel
theorem dX6_tellOwner_104 : decode cX6_tellOwner 104 = .ok (.return_, 1) := by decide +kernel
theorem dX6_tellFilled_0 : decode cX6_tellFilled 0 = .ok (.aload_n 1, 1) := by decide +kernel
theorem dX6_tellFilled_1 : decode cX6_tellFilled 1 = .ok (.getfield 118, 3) := by decide +kernel
theorem dX6_tellFilled_4 : decode cX6_tellFilled 4 = .ok (.iload_n 2, 1) := by decide +kernel
theorem dX6_tellFilled_5 : decode cX6_tellFilled 5 = .ok (.iaload, 1) := by decide +kernel
theorem dX6_tellFilled_6 : decode cX6_tellFilled 6 = .ok (.istore_n 3, 1) := by decide +kernel
theorem dX6_tellFilled_7 : decode cX6_tellFilled 7 = .ok (.iload_n 3, 1) := by decide +kernel
theorem dX6_tellFilled_8 : decode cX6_tellFilled 8 = .ok (.aload_n 1, 1) := by decide +kernel
theorem dX6_tellFilled_9 : decode cX6_tellFilled 9 = .ok (.getfield 118, 3) := by decide +kernel
theorem dX6_tellFilled_12 : decode cX6_tellFilled 12 = .ok (.iload_n 2, 1) := by decide +kernel
theorem dX6_tellFilled_13 : decode cX6_tellFilled 13 = .ok (.iaload, 1) := by decide +kernel
theorem dX6_tellFilled_14 : decode cX6_tellFilled 14 = .ok (.aload_n 1, 1) := by decide +kernel
theorem dX6_tellFilled_15 : decode cX6_tellFilled 15 = .ok (.getfield 121, 3) := by decide +kernel
theorem dX6_tellFilled_18 : decode cX6_tellFilled 18 = .ok (.iload_n 2, 1) := by decide +kernel
theorem dX6_tellFilled_19 : decode cX6_tellFilled 19 = .ok (.iaload, 1) := by decide +kernel
theorem dX6_tellFilled_20 : decode cX6_tellFilled 20 = .ok (.iadd, 1) := by decide +kernel
theorem dX6_tellFilled_21 : decode cX6_tellFilled 21 = .ok (.if_icmp .ge 54, 3) := by decide +kernel
theorem dX6_tellFilled_24 : decode cX6_tellFilled 24 = .ok (.aload_n 0, 1) := by decide +kernel
theorem dX6_tellFilled_25 : decode cX6_tellFilled 25 = .ok (.iload_n 2, 1) := by decide +kernel
theorem dX6_tellFilled_26 : decode cX6_tellFilled 26 = .ok (.aload_n 1, 1) := by decide +kernel
theorem dX6_tellFilled_27 : decode cX6_tellFilled 27 = .ok (.iload_n 2, 1) := by decide +kernel
theorem dX6_tellFilled_28 : decode cX6_tellFilled 28 = .ok (.iload_n 3, 1) := by decide +kernel
theorem dX6_tellFilled_29 : decode cX6_tellFilled 29 = .ok (.invokevirtual 124, 3) := by decide +kernel
theorem dX6_tellFilled_32 : decode cX6_tellFilled 32 = .ok (.invokevirtual 108, 3) := by decide +kernel
theorem dX6_tellFilled_35 : decode cX6_tellFilled 35 = .ok (.istore 4, 2) := by decide +kernel
theorem dX6_tellFilled_37 : decode cX6_tellFilled 37 = .ok (.aload_n 1, 1) := by decide +kernel
theorem dX6_tellFilled_38 : decode cX6_tellFilled 38 = .ok (.getfield 127, 3) := by decide +kernel
theorem dX6_tellFilled_41 : decode cX6_tellFilled 41 = .ok (.iload_n 3, 1) := by decide +kernel
theorem dX6_tellFilled_42 : decode cX6_tellFilled 42 = .ok (.iaload, 1) := by decide +kernel
theorem dX6_tellFilled_43 : decode cX6_tellFilled 43 = .ok (.iconst 2, 1) := by decide +kernel
theorem dX6_tellFilled_44 : decode cX6_tellFilled 44 = .ok (.if_icmp .ne 25, 3) := by decide +kernel
theorem dX6_tellFilled_47 : decode cX6_tellFilled 47 = .ok (.aload_n 0, 1) := by decide +kernel
theorem dX6_tellFilled_48 : decode cX6_tellFilled 48 = .ok (.iload 4, 2) := by decide +kernel
theorem dX6_tellFilled_50 : decode cX6_tellFilled 50 = .ok (.invokevirtual 64, 3) := by decide +kernel
theorem dX6_tellFilled_53 : decode cX6_tellFilled 53 = .ok (.ifCond .eq 16, 3) := by decide +kernel
theorem dX6_tellFilled_56 : decode cX6_tellFilled 56 = .ok (.aload_n 0, 1) := by decide +kernel
theorem dX6_tellFilled_57 : decode cX6_tellFilled 57 = .ok (.getfield 37, 3) := by decide +kernel
theorem dX6_tellFilled_60 : decode cX6_tellFilled 60 = .ok (.iload 4, 2) := by decide +kernel
theorem dX6_tellFilled_62 : decode cX6_tellFilled 62 = .ok (.dup2, 1) := by decide +kernel
theorem dX6_tellFilled_63 : decode cX6_tellFilled 63 = .ok (.iaload, 1) := by decide +kernel
theorem dX6_tellFilled_64 : decode cX6_tellFilled 64 = .ok (.iconst 1, 1) := by decide +kernel
theorem dX6_tellFilled_65 : decode cX6_tellFilled 65 = .ok (.iload_n 2, 1) := by decide +kernel
theorem dX6_tellFilled_66 : decode cX6_tellFilled 66 = .ok (.ishl, 1) := by decide +kernel
theorem dX6_tellFilled_67 : decode cX6_tellFilled 67 = .ok (.ior, 1) := by decide +kernel
theorem dX6_tellFilled_68 : decode cX6_tellFilled 68 = .ok (.iastore, 1) := by decide +kernel
theorem dX6_tellFilled_69 : decode cX6_tellFilled 69 = .ok (.iinc 3 1, 3) := by decide +kernel
theorem dX6_tellFilled_72 : decode cX6_tellFilled 72 = .ok (.goto (-65), 3) := by decide +kernel
theorem dX6_tellFilled_75 : decode cX6_tellFilled 75 = .ok (.return_, 1) := by decide +kernel
theorem dX6_tellSpan_0 : decode cX6_tellSpan 0 = .ok (.iconst (-1), 1) := by decide +kernel
theorem dX6_tellSpan_1 : decode cX6_tellSpan 1 = .ok (.istore 4, 2) := by decide +kernel
theorem dX6_tellSpan_3 : decode cX6_tellSpan 3 = .ok (.iconst (-1), 1) := by decide +kernel
theorem dX6_tellSpan_4 : decode cX6_tellSpan 4 = .ok (.istore 5, 2) := by decide +kernel
theorem dX6_tellSpan_6 : decode cX6_tellSpan 6 = .ok (.aload_n 1, 1) := by decide +kernel
theorem dX6_tellSpan_7 : decode cX6_tellSpan 7 = .ok (.getfield 118, 3) := by decide +kernel
theorem dX6_tellSpan_10 : decode cX6_tellSpan 10 = .ok (.iload_n 2, 1) := by decide +kernel
theorem dX6_tellSpan_11 : decode cX6_tellSpan 11 = .ok (.iaload, 1) := by decide +kernel
theorem dX6_tellSpan_12 : decode cX6_tellSpan 12 = .ok (.istore 6, 2) := by decide +kernel
theorem dX6_tellSpan_14 : decode cX6_tellSpan 14 = .ok (.iload 6, 2) := by decide +kernel
theorem dX6_tellSpan_16 : decode cX6_tellSpan 16 = .ok (.aload_n 1, 1) := by decide +kernel
theorem dX6_tellSpan_17 : decode cX6_tellSpan 17 = .ok (.getfield 118, 3) := by decide +kernel
theorem dX6_tellSpan_20 : decode cX6_tellSpan 20 = .ok (.iload_n 2, 1) := by decide +kernel
theorem dX6_tellSpan_21 : decode cX6_tellSpan 21 = .ok (.iaload, 1) := by decide +kernel
theorem dX6_tellSpan_22 : decode cX6_tellSpan 22 = .ok (.aload_n 1, 1) := by decide +kernel
theorem dX6_tellSpan_23 : decode cX6_tellSpan 23 = .ok (.getfield 121, 3) := by decide +kernel
theorem dX6_tellSpan_26 : decode cX6_tellSpan 26 = .ok (.iload_n 2, 1) := by decide +kernel
theorem dX6_tellSpan_27 : decode cX6_tellSpan 27 = .ok (.iaload, 1) := by decide +kernel
theorem dX6_tellSpan_28 : decode cX6_tellSpan 28 = .ok (.iadd, 1) := by decide +kernel
theorem dX6_tellSpan_29 : decode cX6_tellSpan 29 = .ok (.if_icmp .ge 43, 3) := by decide +kernel
theorem dX6_tellSpan_32 : decode cX6_tellSpan 32 = .ok (.aload_n 0, 1) := by decide +kernel
theorem dX6_tellSpan_33 : decode cX6_tellSpan 33 = .ok (.aload_n 1, 1) := by decide +kernel
theorem dX6_tellSpan_34 : decode cX6_tellSpan 34 = .ok (.iload_n 2, 1) := by decide +kernel
theorem dX6_tellSpan_35 : decode cX6_tellSpan 35 = .ok (.iload 6, 2) := by decide +kernel
theorem dX6_tellSpan_37 : decode cX6_tellSpan 37 = .ok (.invokevirtual 130, 3) := by decide +kernel
theorem dX6_tellSpan_40 : decode cX6_tellSpan 40 = .ok (.iload_n 3, 1) := by decide +kernel
theorem dX6_tellSpan_41 : decode cX6_tellSpan 41 = .ok (.ishr, 1) := by decide +kernel
theorem dX6_tellSpan_42 : decode cX6_tellSpan 42 = .ok (.iconst 1, 1) := by decide +kernel
theorem dX6_tellSpan_43 : decode cX6_tellSpan 43 = .ok (.iand, 1) := by decide +kernel
theorem dX6_tellSpan_44 : decode cX6_tellSpan 44 = .ok (.ifCond .eq 22, 3) := by decide +kernel
theorem dX6_tellSpan_47 : decode cX6_tellSpan 47 = .ok (.iload 4, 2) := by decide +kernel
theorem dX6_tellSpan_49 : decode cX6_tellSpan 49 = .ok (.iconst (-1), 1) := by decide +kernel
theorem dX6_tellSpan_50 : decode cX6_tellSpan 50 = .ok (.if_icmp .ne 8, 3) := by decide +kernel
theorem dX6_tellSpan_53 : decode cX6_tellSpan 53 = .ok (.iload 6, 2) := by decide +kernel
theorem dX6_tellSpan_55 : decode cX6_tellSpan 55 = .ok (.goto 5, 3) := by decide +kernel
theorem dX6_tellSpan_58 : decode cX6_tellSpan 58 = .ok (.iload 4, 2) := by decide +kernel
theorem dX6_tellSpan_60 : decode cX6_tellSpan 60 = .ok (.istore 4, 2) := by decide +kernel
theorem dX6_tellSpan_62 : decode cX6_tellSpan 62 = .ok (.iload 6, 2) := by decide +kernel
theorem dX6_tellSpan_64 : decode cX6_tellSpan 64 = .ok (.istore 5, 2) := by decide +kernel
theorem dX6_tellSpan_66 : decode cX6_tellSpan 66 = .ok (.iinc 6 1, 3) := by decide +kernel
theorem dX6_tellSpan_69 : decode cX6_tellSpan 69 = .ok (.goto (-55), 3) := by decide +kernel
theorem dX6_tellSpan_72 : decode cX6_tellSpan 72 = .ok (.iload 4, 2) := by decide +kernel
theorem dX6_tellSpan_74 : decode cX6_tellSpan 74 = .ok (.iconst (-1), 1) := by decide +kernel
theorem dX6_tellSpan_75 : decode cX6_tellSpan 75 = .ok (.if_icmp .ne 4, 3) := by decide +kernel
theorem dX6_tellSpan_78 : decode cX6_tellSpan 78 = .ok (.return_, 1) := by decide +kernel
theorem dX6_tellSpan_79 : decode cX6_tellSpan 79 = .ok (.aload_n 0, 1) := by decide +kernel
theorem dX6_tellSpan_80 : decode cX6_tellSpan 80 = .ok (.getfield 52, 3) := by decide +kernel
theorem dX6_tellSpan_83 : decode cX6_tellSpan 83 = .ok (.iload 4, 2) := by decide +kernel
theorem dX6_tellSpan_85 : decode cX6_tellSpan 85 = .ok (.dup2, 1) := by decide +kernel
theorem dX6_tellSpan_86 : decode cX6_tellSpan 86 = .ok (.iaload, 1) := by decide +kernel
theorem dX6_tellSpan_87 : decode cX6_tellSpan 87 = .ok (.iconst 1, 1) := by decide +kernel
theorem dX6_tellSpan_88 : decode cX6_tellSpan 88 = .ok (.iload_n 3, 1) := by decide +kernel
theorem dX6_tellSpan_89 : decode cX6_tellSpan 89 = .ok (.ishl, 1) := by decide +kernel
theorem dX6_tellSpan_90 : decode cX6_tellSpan 90 = .ok (.ior, 1) := by decide +kernel
theorem dX6_tellSpan_91 : decode cX6_tellSpan 91 = .ok (.iastore, 1) := by decide +kernel
theorem dX6_tellSpan_92 : decode cX6_tellSpan 92 = .ok (.aload_n 0, 1) := by decide +kernel
theorem dX6_tellSpan_93 : decode cX6_tellSpan 93 = .ok (.getfield 55, 3) := by decide +kernel
theorem dX6_tellSpan_96 : decode cX6_tellSpan 96 = .ok (.iload 5, 2) := by decide +kernel
theorem dX6_tellSpan_98 : decode cX6_tellSpan 98 = .ok (.dup2, 1) := by decide +kernel
theorem dX6_tellSpan_99 : decode cX6_tellSpan 99 = .ok (.iaload, 1) := by decide +kernel
theorem dX6_tellSpan_100 : decode cX6_tellSpan 100 = .ok (.iconst 1, 1) := by decide +kernel
theorem dX6_tellSpan_101 : decode cX6_tellSpan 101 = .ok (.iload_n 3, 1) := by decide +kernel
theorem dX6_tellSpan_102 : decode cX6_tellSpan 102 = .ok (.ishl, 1) := by decide +kernel
theorem dX6_tellSpan_103 : decode cX6_tellSpan 103 = .ok (.ior, 1) := by decide +kernel
theorem dX6_tellSpan_104 : decode cX6_tellSpan 104 = .ok (.iastore, 1) := by decide +kernel
theorem dX6_tellSpan_105 : decode cX6_tellSpan 105 = .ok (.aload_n 0, 1) := by decide +kernel
theorem dX6_tellSpan_106 : decode cX6_tellSpan 106 = .ok (.getfield 46, 3) := by decide +kernel
theorem dX6_tellSpan_109 : decode cX6_tellSpan 109 = .ok (.iload_n 2, 1) := by decide +kernel
theorem dX6_tellSpan_110 : decode cX6_tellSpan 110 = .ok (.bipush 24, 2) := by decide +kernel
theorem dX6_tellSpan_112 : decode cX6_tellSpan 112 = .ok (.imul, 1) := by decide +kernel
theorem dX6_tellSpan_113 : decode cX6_tellSpan 113 = .ok (.iload_n 3, 1) := by decide +kernel
theorem dX6_tellSpan_114 : decode cX6_tellSpan 114 = .ok (.iadd, 1) := by decide +kernel
theorem dX6_tellSpan_115 : decode cX6_tellSpan 115 = .ok (.iload 4, 2) := by decide +kernel
theorem dX6_tellSpan_117 : decode cX6_tellSpan 117 = .ok (.aload_n 1, 1) := by decide +kernel
theorem dX6_tellSpan_118 : decode cX6_tellSpan 118 = .ok (.getfield 118, 3) := by decide +kernel
theorem dX6_tellSpan_121 : decode cX6_tellSpan 121 = .ok (.iload_n 2, 1) := by decide +kernel
theorem dX6_tellSpan_122 : decode cX6_tellSpan 122 = .ok (.iaload, 1) := by decide +kernel
theorem dX6_tellSpan_123 : decode cX6_tellSpan 123 = .ok (.isub, 1) := by decide +kernel
theorem dX6_tellSpan_124 : decode cX6_tellSpan 124 = .ok (.iastore, 1) := by decide +kernel
theorem dX6_tellSpan_125 : decode cX6_tellSpan 125 = .ok (.aload_n 0, 1) := by decide +kernel
theorem dX6_tellSpan_126 : decode cX6_tellSpan 126 = .ok (.getfield 49, 3) := by decide +kernel
theorem dX6_tellSpan_129 : decode cX6_tellSpan 129 = .ok (.iload_n 2, 1) := by decide +kernel
theorem dX6_tellSpan_130 : decode cX6_tellSpan 130 = .ok (.bipush 24, 2) := by decide +kernel
theorem dX6_tellSpan_132 : decode cX6_tellSpan 132 = .ok (.imul, 1) := by decide +kernel
theorem dX6_tellSpan_133 : decode cX6_tellSpan 133 = .ok (.iload_n 3, 1) := by decide +kernel
theorem dX6_tellSpan_134 : decode cX6_tellSpan 134 = .ok (.iadd, 1) := by decide +kernel
theorem dX6_tellSpan_135 : decode cX6_tellSpan 135 = .ok (.iload 5, 2) := by decide +kernel
theorem dX6_tellSpan_137 : decode cX6_tellSpan 137 = .ok (.aload_n 1, 1) := by decide +kernel
theorem dX6_tellSpan_138 : decode cX6_tellSpan 138 = .ok (.getfield 118, 3) := by decide +kernel
theorem dX6_tellSpan_141 : decode cX6_tellSpan 141 = .ok (.iload_n 2, 1) := by decide +kernel
theorem dX6_tellSpan_142 : decode cX6_tellSpan 142 = .ok (.iaload, 1) := by decide +kernel
theorem dX6_tellSpan_143 : decode cX6_tellSpan 143 = .ok (.isub, 1) := by decide +kernel
theorem dX6_tellSpan_144 : decode cX6_tellSpan 144 = .ok (.iastore, 1) := by decide +kernel
theorem dX6_tellSpan_145 : decode cX6_tellSpan 145 = .ok (.return_, 1) := by decide +kernel
theorem dX6_reachOfLine_0 : decode cX6_reachOfLine 0 = .ok (.aload_n 0, 1) := by decide +kernel
theorem dX6_reachOfLine_1 : decode cX6_reachOfLine 1 = .ok (.iload_n 2, 1) := by decide +kernel
theorem dX6_reachOfLine_2 : decode cX6_reachOfLine 2 = .ok (.aload_n 1, 1) := by decide +kernel
theorem dX6_reachOfLine_3 : decode cX6_reachOfLine 3 = .ok (.iload_n 2, 1) := by decide +kernel
theorem dX6_reachOfLine_4 : decode cX6_reachOfLine 4 = .ok (.iload_n 3, 1) := by decide +kernel
theorem dX6_reachOfLine_5 : decode cX6_reachOfLine 5 = .ok (.invokevirtual 124, 3) := by decide +kernel
theorem dX6_reachOfLine_8 : decode cX6_reachOfLine 8 = .ok (.invokevirtual 134, 3) := by decide +kernel
theorem dX6_reachOfLine_11 : decode cX6_reachOfLine 11 = .ok (.istore 4, 2) := by decide +kernel
theorem dX6_reachOfLine_13 : decode cX6_reachOfLine 13 = .ok (.iconst 0, 1) := by decide +kernel
theorem dX6_reachOfLine_14 : decode cX6_reachOfLine 14 = .ok (.istore 5, 2) := by decide +kernel
theorem dX6_reachOfLine_16 : decode cX6_reachOfLine 16 = .ok (.iload 5, 2) := by decide +kernel
theorem dX6_reachOfLine_18 : decode cX6_reachOfLine 18 = .ok (.aload_n 1, 1) := by decide +kernel
theorem dX6_reachOfLine_19 : decode cX6_reachOfLine 19 = .ok (.iload_n 3, 1) := by decide +kernel
theorem dX6_reachOfLine_20 : decode cX6_reachOfLine 20 = .ok (.invokevirtual 137, 3) := by decide +kernel
theorem dX6_reachOfLine_23 : decode cX6_reachOfLine 23 = .ok (.if_icmp .ge 26, 3) := by decide +kernel
theorem dX6_reachOfLine_26 : decode cX6_reachOfLine 26 = .ok (.iload 4, 2) := by decide +kernel
theorem dX6_reachOfLine_28 : decode cX6_reachOfLine 28 = .ok (.aload_n 0, 1) := by decide +kernel
theorem dX6_reachOfLine_29 : decode cX6_reachOfLine 29 = .ok (.iload_n 2, 1) := by decide +kernel
theorem dX6_reachOfLine_30 : decode cX6_reachOfLine 30 = .ok (.aload_n 1, 1) := by decide +kernel
theorem dX6_reachOfLine_31 : decode cX6_reachOfLine 31 = .ok (.iload_n 3, 1) := by decide +kernel
theorem dX6_reachOfLine_32 : decode cX6_reachOfLine 32 = .ok (.iload 5, 2) := by decide +kernel
theorem dX6_reachOfLine_34 : decode cX6_reachOfLine 34 = .ok (.invokevirtual 140, 3) := by decide +kernel
theorem dX6_reachOfLine_37 : decode cX6_reachOfLine 37 = .ok (.invokevirtual 134, 3) := by decide +kernel
theorem dX6_reachOfLine_40 : decode cX6_reachOfLine 40 = .ok (.ior, 1) := by decide +kernel
theorem dX6_reachOfLine_41 : decode cX6_reachOfLine 41 = .ok (.istore 4, 2) := by decide +kernel
theorem dX6_reachOfLine_43 : decode cX6_reachOfLine 43 = .ok (.iinc 5 1, 3) := by decide +kernel
theorem dX6_reachOfLine_46 : decode cX6_reachOfLine 46 = .ok (.goto (-30), 3) := by decide +kernel
theorem dX6_reachOfLine_49 : decode cX6_reachOfLine 49 = .ok (.iload 4, 2) := by decide +kernel
theorem dX6_reachOfLine_51 : decode cX6_reachOfLine 51 = .ok (.ireturn, 1) := by decide +kernel
theorem dX6_tellFinite_0 : decode cX6_tellFinite 0 = .ok (.aload_n 0, 1) := by decide +kernel
theorem dX6_tellFinite_1 : decode cX6_tellFinite 1 = .ok (.iconst 0, 1) := by decide +kernel
theorem dX6_tellFinite_2 : decode cX6_tellFinite 2 = .ok (.putfield 15, 3) := by decide +kernel
theorem dX6_tellFinite_5 : decode cX6_tellFinite 5 = .ok (.iconst 0, 1) := by decide +kernel
theorem dX6_tellFinite_6 : decode cX6_tellFinite 6 = .ok (.istore_n 2, 1) := by decide +kernel
theorem dX6_tellFinite_7 : decode cX6_tellFinite 7 = .ok (.iload_n 2, 1) := by decide +kernel
theorem dX6_tellFinite_8 : decode cX6_tellFinite 8 = .ok (.aload_n 0, 1) := by decide +kernel
theorem dX6_tellFinite_9 : decode cX6_tellFinite 9 = .ok (.getfield 9, 3) := by decide +kernel
theorem dX6_tellFinite_12 : decode cX6_tellFinite 12 = .ok (.if_icmp .ge 97, 3) := by decide +kernel
theorem dX6_tellFinite_15 : decode cX6_tellFinite 15 = .ok (.aload_n 1, 1) := by decide +kernel
theorem dX6_tellFinite_16 : decode cX6_tellFinite 16 = .ok (.getfield 77, 3) := by decide +kernel
theorem dX6_tellFinite_19 : decode cX6_tellFinite 19 = .ok (.ifCond .le 25, 3) := by decide +kernel
theorem dX6_tellFinite_22 : decode cX6_tellFinite 22 = .ok (.aload_n 0, 1) := by decide +kernel
theorem dX6_tellFinite_23 : decode cX6_tellFinite 23 = .ok (.getfield 40, 3) := by decide +kernel
theorem dX6_tellFinite_26 : decode cX6_tellFinite 26 = .ok (.aload_n 1, 1) := by decide +kernel
theorem dX6_tellFinite_27 : decode cX6_tellFinite 27 = .ok (.getfield 77, 3) := by decide +kernel
theorem dX6_tellFinite_30 : decode cX6_tellFinite 30 = .ok (.iconst 1, 1) := by decide +kernel
theorem dX6_tellFinite_31 : decode cX6_tellFinite 31 = .ok (.isub, 1) := by decide +kernel
theorem dX6_tellFinite_32 : decode cX6_tellFinite 32 = .ok (.iaload, 1) := by decide +kernel
theorem dX6_tellFinite_33 : decode cX6_tellFinite 33 = .ok (.iload_n 2, 1) := by decide +kernel
theorem dX6_tellFinite_34 : decode cX6_tellFinite 34 = .ok (.ishr, 1) := by decide +kernel
theorem dX6_tellFinite_35 : decode cX6_tellFinite 35 = .ok (.iconst 1, 1) := by decide +kernel
theorem dX6_tellFinite_36 : decode cX6_tellFinite 36 = .ok (.iand, 1) := by decide +kernel
theorem dX6_tellFinite_37 : decode cX6_tellFinite 37 = .ok (.ifCond .eq 7, 3) := by decide +kernel
theorem dX6_tellFinite_40 : decode cX6_tellFinite 40 = .ok (.iconst 1, 1) := by decide +kernel
theorem dX6_tellFinite_41 : decode cX6_tellFinite 41 = .ok (.goto 4, 3) := by decide +kernel
theorem dX6_tellFinite_44 : decode cX6_tellFinite 44 = .ok (.iconst 0, 1) := by decide +kernel
theorem dX6_tellFinite_45 : decode cX6_tellFinite 45 = .ok (.istore_n 3, 1) := by decide +kernel
theorem dX6_tellFinite_46 : decode cX6_tellFinite 46 = .ok (.aload_n 0, 1) := by decide +kernel
theorem dX6_tellFinite_47 : decode cX6_tellFinite 47 = .ok (.getfield 37, 3) := by decide +kernel
theorem dX6_tellFinite_50 : decode cX6_tellFinite 50 = .ok (.iload_n 2, 1) := by decide +kernel
theorem dX6_tellFinite_51 : decode cX6_tellFinite 51 = .ok (.iaload, 1) := by decide +kernel
theorem dX6_tellFinite_52 : decode cX6_tellFinite 52 = .ok (.invokestatic 143, 3) := by decide +kernel
theorem dX6_tellFinite_55 : decode cX6_tellFinite 55 = .ok (.iconst 1, 1) := by decide +kernel
theorem dX6_tellFinite_56 : decode cX6_tellFinite 56 = .ok (.if_icmp .ne 7, 3) := by decide +kernel
theorem dX6_tellFinite_59 : decode cX6_tellFinite 59 = .ok (.iconst 1, 1) := by decide +kernel
theorem dX6_tellFinite_60 : decode cX6_tellFinite 60 = .ok (.goto 4, 3) := by decide +kernel
theorem dX6_tellFinite_63 : decode cX6_tellFinite 63 = .ok (.iconst 0, 1) := by decide +kernel
theorem dX6_tellFinite_64 : decode cX6_tellFinite 64 = .ok (.istore 4, 2) := by decide +kernel
theorem dX6_tellFinite_66 : decode cX6_tellFinite 66 = .ok (.iload_n 3, 1) := by decide +kernel
theorem dX6_tellFinite_67 : decode cX6_tellFinite 67 = .ok (.ifCond .ne 36, 3) := by decide +kernel
theorem dX6_tellFinite_70 : decode cX6_tellFinite 70 = .ok (.iload 4, 2) := by decide +kernel
theorem dX6_tellFinite_72 : decode cX6_tellFinite 72 = .ok (.ifCond .eq 31, 3) := by decide +kernel
theorem dX6_tellFinite_75 : decode cX6_tellFinite 75 = .ok (.aload_n 0, 1) := by decide +kernel
theorem dX6_tellFinite_76 : decode cX6_tellFinite 76 = .ok (.getfield 37, 3) := by decide +kernel
theorem dX6_tellFinite_79 : decode cX6_tellFinite 79 = .ok (.iload_n 2, 1) := by decide +kernel
theorem dX6_tellFinite_80 : decode cX6_tellFinite 80 = .ok (.iaload, 1) := by decide +kernel
theorem dX6_tellFinite_81 : decode cX6_tellFinite 81 = .ok (.aload_n 0, 1) := by decide +kernel
theorem dX6_tellFinite_82 : decode cX6_tellFinite 82 = .ok (.getfield 34, 3) := by decide +kernel
theorem dX6_tellFinite_85 : decode cX6_tellFinite 85 = .ok (.iload_n 2, 1) := by decide +kernel
theorem dX6_tellFinite_86 : decode cX6_tellFinite 86 = .ok (.iaload, 1) := by decide +kernel
theorem dX6_tellFinite_87 : decode cX6_tellFinite 87 = .ok (.iand, 1) := by decide +kernel
theorem dX6_tellFinite_88 : decode cX6_tellFinite 88 = .ok (.ifCond .eq 15, 3) := by decide +kernel
theorem dX6_tellFinite_91 : decode cX6_tellFinite 91 = .ok (.aload_n 0, 1) := by decide +kernel
theorem dX6_tellFinite_92 : decode cX6_tellFinite 92 = .ok (.dup, 1) := by decide +kernel
theorem dX6_tellFinite_93 : decode cX6_tellFinite 93 = .ok (.getfield 15, 3) := by decide +kernel
theorem dX6_tellFinite_96 : decode cX6_tellFinite 96 = .ok (.iconst 1, 1) := by decide +kernel
theorem dX6_tellFinite_97 : decode cX6_tellFinite 97 = .ok (.iload_n 2, 1) := by decide +kernel
theorem dX6_tellFinite_98 : decode cX6_tellFinite 98 = .ok (.ishl, 1) := by decide +kernel
theorem dX6_tellFinite_99 : decode cX6_tellFinite 99 = .ok (.ior, 1) := by decide +kernel
theorem dX6_tellFinite_100 : decode cX6_tellFinite 100 = .ok (.putfield 15, 3) := by decide +kernel
theorem dX6_tellFinite_103 : decode cX6_tellFinite 103 = .ok (.iinc 2 1, 3) := by decide +kernel
theorem dX6_tellFinite_106 : decode cX6_tellFinite 106 = .ok (.goto (-99), 3) := by decide +kernel
theorem dX6_tellFinite_109 : decode cX6_tellFinite 109 = .ok (.return_, 1) := by decide +kernel
theorem dX7_init_0 : decode cX7_init 0 = .ok (.aload_n 0, 1) := by decide +kernel
theorem dX7_init_1 : decode cX7_init 1 = .ok (.invokespecial 3, 3) := by decide +kernel
theorem dX7_init_4 : decode cX7_init 4 = .ok (.aload_n 0, 1) := by decide +kernel
theorem dX7_init_5 : decode cX7_init 5 = .ok (.iconst 0, 1) := by decide +kernel
theorem dX7_init_6 : decode cX7_init 6 = .ok (.putfield 9, 3) := by decide +kernel
theorem dX7_init_9 : decode cX7_init 9 = .ok (.aload_n 0, 1) := by decide +kernel
theorem dX7_init_10 : decode cX7_init 10 = .ok (.iconst 0, 1) := by decide +kernel
theorem dX7_init_11 : decode cX7_init 11 = .ok (.putfield 15, 3) := by decide +kernel
theorem dX7_init_14 : decode cX7_init 14 = .ok (.aload_n 0, 1) := by decide +kernel
theorem dX7_init_15 : decode cX7_init 15 = .ok (.iconst 0, 1) := by decide +kernel
theorem dX7_init_16 : decode cX7_init 16 = .ok (.putfield 19, 3) := by decide +kernel
theorem dX7_init_19 : decode cX7_init 19 = .ok (.aload_n 0, 1) := by decide +kernel
theorem dX7_init_20 : decode cX7_init 20 = .ok (.bipush 40, 2) := by decide +kernel
theorem dX7_init_22 : decode cX7_init 22 = .ok (.newarray .int, 2) := by decide +kernel
theorem dX7_init_24 : decode cX7_init 24 = .ok (.putfield 22, 3) := by decide +kernel
theorem dX7_init_27 : decode cX7_init 27 = .ok (.aload_n 0, 1) := by decide +kernel
theorem dX7_init_28 : decode cX7_init 28 = .ok (.bipush 40, 2) := by decide +kernel
theorem dX7_init_30 : decode cX7_init 30 = .ok (.newarray .int, 2) := by decide +kernel
theorem dX7_init_32 : decode cX7_init 32 = .ok (.putfield 26, 3) := by decide +kernel
theorem dX7_init_35 : decode cX7_init 35 = .ok (.aload_n 0, 1) := by decide +kernel
theorem dX7_init_36 : decode cX7_init 36 = .ok (.bipush 40, 2) := by decide +kernel
theorem dX7_init_38 : decode cX7_init 38 = .ok (.newarray .int, 2) := by decide +kernel
theorem dX7_init_40 : decode cX7_init 40 = .ok (.putfield 29, 3) := by decide +kernel
theorem dX7_init_43 : decode cX7_init 43 = .ok (.aload_n 0, 1) := by decide +kernel
theorem dX7_init_44 : decode cX7_init 44 = .ok (.bipush 40, 2) := by decide +kernel
theorem dX7_init_46 : decode cX7_init 46 = .ok (.newarray .boolean, 2) := by decide +kernel
theorem dX7_init_48 : decode cX7_init 48 = .ok (.putfield 32, 3) := by decide +kernel
theorem dX7_init_51 : decode cX7_init 51 = .ok (.return_, 1) := by decide +kernel
theorem dX7_clear_0 : decode cX7_clear 0 = .ok (.aload_n 0, 1) := by decide +kernel
theorem dX7_clear_1 : decode cX7_clear 1 = .ok (.iconst 0, 1) := by decide +kernel
theorem dX7_clear_2 : decode cX7_clear 2 = .ok (.putfield 9, 3) := by decide +kernel
theorem dX7_clear_5 : decode cX7_clear 5 = .ok (.aload_n 0, 1) := by decide +kernel
theorem dX7_clear_6 : decode cX7_clear 6 = .ok (.iconst 0, 1) := by decide +kernel
theorem dX7_clear_7 : decode cX7_clear 7 = .ok (.putfield 15, 3) := by decide +kernel
theorem dX7_clear_10 : decode cX7_clear 10 = .ok (.aload_n 0, 1) := by decide +kernel
theorem dX7_clear_11 : decode cX7_clear 11 = .ok (.iconst 0, 1) := by decide +kernel
theorem dX7_clear_12 : decode cX7_clear 12 = .ok (.putfield 19, 3) := by decide +kernel
theorem dX7_clear_15 : decode cX7_clear 15 = .ok (.return_, 1) := by decide +kernel
theorem dX7_copyFrom_0 : decode cX7_copyFrom 0 = .ok (.aload_n 0, 1) := by decide +kernel
theorem dX7_copyFrom_1 : decode cX7_copyFrom 1 = .ok (.aload_n 1, 1) := by decide +kernel
theorem dX7_copyFrom_2 : decode cX7_copyFrom 2 = .ok (.getfield 9, 3) := by decide +kernel
theorem dX7_copyFrom_5 : decode cX7_copyFrom 5 = .ok (.putfield 9, 3) := by decide +kernel
theorem dX7_copyFrom_8 : decode cX7_copyFrom 8 = .ok (.aload_n 0, 1) := by decide +kernel
theorem dX7_copyFrom_9 : decode cX7_copyFrom 9 = .ok (.aload_n 1, 1) := by decide +kernel
theorem dX7_copyFrom_10 : decode cX7_copyFrom 10 = .ok (.getfield 15, 3) := by decide +kernel
theorem dX7_copyFrom_13 : decode cX7_copyFrom 13 = .ok (.putfield 15, 3) := by decide +kernel
theorem dX7_copyFrom_16 : decode cX7_copyFrom 16 = .ok (.aload_n 0, 1) := by decide +kernel
theorem dX7_copyFrom_17 : decode cX7_copyFrom 17 = .ok (.aload_n 1, 1) := by decide +kernel
theorem dX7_copyFrom_18 : decode cX7_copyFrom 18 = .ok (.getfield 19, 3) := by decide +kernel
theorem dX7_copyFrom_21 : decode cX7_copyFrom 21 = .ok (.putfield 19, 3) := by decide +kernel
theorem dX7_copyFrom_24 : decode cX7_copyFrom 24 = .ok (.aload_n 1, 1) := by decide +kernel
theorem dX7_copyFrom_25 : decode cX7_copyFrom 25 = .ok (.getfield 22, 3) := by decide +kernel
theorem dX7_copyFrom_28 : decode cX7_copyFrom 28 = .ok (.iconst 0, 1) := by decide +kernel
theorem dX7_copyFrom_29 : decode cX7_copyFrom 29 = .ok (.aload_n 0, 1) := by decide +kernel
theorem dX7_copyFrom_30 : decode cX7_copyFrom 30 = .ok (.getfield 22, 3) := by decide +kernel
theorem dX7_copyFrom_33 : decode cX7_copyFrom 33 = .ok (.iconst 0, 1) := by decide +kernel
theorem dX7_copyFrom_34 : decode cX7_copyFrom 34 = .ok (.aload_n 0, 1) := by decide +kernel
theorem dX7_copyFrom_35 : decode cX7_copyFrom 35 = .ok (.getfield 22, 3) := by decide +kernel
theorem dX7_copyFrom_38 : decode cX7_copyFrom 38 = .ok (.arraylength, 1) := by decide +kernel
theorem dX7_copyFrom_39 : decode cX7_copyFrom 39 = .ok (.invokestatic 36, 3) := by decide +kernel
theorem dX7_copyFrom_42 : decode cX7_copyFrom 42 = .ok (.aload_n 1, 1) := by decide +kernel
theorem dX7_copyFrom_43 : decode cX7_copyFrom 43 = .ok (.getfield 26, 3) := by decide +kernel
theorem dX7_copyFrom_46 : decode cX7_copyFrom 46 = .ok (.iconst 0, 1) := by decide +kernel
theorem dX7_copyFrom_47 : decode cX7_copyFrom 47 = .ok (.aload_n 0, 1) := by decide +kernel
theorem dX7_copyFrom_48 : decode cX7_copyFrom 48 = .ok (.getfield 26, 3) := by decide +kernel
theorem dX7_copyFrom_51 : decode cX7_copyFrom 51 = .ok (.iconst 0, 1) := by decide +kernel
theorem dX7_copyFrom_52 : decode cX7_copyFrom 52 = .ok (.aload_n 0, 1) := by decide +kernel
theorem dX7_copyFrom_53 : decode cX7_copyFrom 53 = .ok (.getfield 26, 3) := by decide +kernel
theorem dX7_copyFrom_56 : decode cX7_copyFrom 56 = .ok (.arraylength, 1) := by decide +kernel
theorem dX7_copyFrom_57 : decode cX7_copyFrom 57 = .ok (.invokestatic 36, 3) := by decide +kernel
theorem dX7_copyFrom_60 : decode cX7_copyFrom 60 = .ok (.aload_n 1, 1) := by decide +kernel
theorem dX7_copyFrom_61 : decode cX7_copyFrom 61 = .ok (.getfield 29, 3) := by decide +kernel
theorem dX7_copyFrom_64 : decode cX7_copyFrom 64 = .ok (.iconst 0, 1) := by decide +kernel
theorem dX7_copyFrom_65 : decode cX7_copyFrom 65 = .ok (.aload_n 0, 1) := by decide +kernel
theorem dX7_copyFrom_66 : decode cX7_copyFrom 66 = .ok (.getfield 29, 3) := by decide +kernel
theorem dX7_copyFrom_69 : decode cX7_copyFrom 69 = .ok (.iconst 0, 1) := by decide +kernel
theorem dX7_copyFrom_70 : decode cX7_copyFrom 70 = .ok (.aload_n 0, 1) := by decide +kernel
theorem dX7_copyFrom_71 : decode cX7_copyFrom 71 = .ok (.getfield 29, 3) := by decide +kernel
theorem dX7_copyFrom_74 : decode cX7_copyFrom 74 = .ok (.arraylength, 1) := by decide +kernel
theorem dX7_copyFrom_75 : decode cX7_copyFrom 75 = .ok (.invokestatic 36, 3) := by decide +kernel
theorem dX7_copyFrom_78 : decode cX7_copyFrom 78 = .ok (.return_, 1) := by decide +kernel
theorem dX7_put_0 : decode cX7_put 0 = .ok (.aload_n 0, 1) := by decide +kernel
theorem dX7_put_1 : decode cX7_put 1 = .ok (.getfield 19, 3) := by decide +kernel
theorem dX7_put_4 : decode cX7_put 4 = .ok (.bipush 40, 2) := by decide +kernel
theorem dX7_put_6 : decode cX7_put 6 = .ok (.if_icmp .ge 43, 3) := by decide +kernel
theorem dX7_put_9 : decode cX7_put 9 = .ok (.aload_n 0, 1) := by decide +kernel
theorem dX7_put_10 : decode cX7_put 10 = .ok (.getfield 22, 3) := by decide +kernel
theorem dX7_put_13 : decode cX7_put 13 = .ok (.aload_n 0, 1) := by decide +kernel
theorem dX7_put_14 : decode cX7_put 14 = .ok (.getfield 19, 3) := by decide +kernel
theorem dX7_put_17 : decode cX7_put 17 = .ok (.iload_n 1, 1) := by decide +kernel
theorem dX7_put_18 : decode cX7_put 18 = .ok (.iastore, 1) := by decide +kernel
theorem dX7_put_19 : decode cX7_put 19 = .ok (.aload_n 0, 1) := by decide +kernel
theorem dX7_put_20 : decode cX7_put 20 = .ok (.getfield 26, 3) := by decide +kernel
theorem dX7_put_23 : decode cX7_put 23 = .ok (.aload_n 0, 1) := by decide +kernel
theorem dX7_put_24 : decode cX7_put 24 = .ok (.getfield 19, 3) := by decide +kernel
theorem dX7_put_27 : decode cX7_put 27 = .ok (.iload_n 2, 1) := by decide +kernel
theorem dX7_put_28 : decode cX7_put 28 = .ok (.iastore, 1) := by decide +kernel
theorem dX7_put_29 : decode cX7_put 29 = .ok (.aload_n 0, 1) := by decide +kernel
theorem dX7_put_30 : decode cX7_put 30 = .ok (.getfield 29, 3) := by decide +kernel
theorem dX7_put_33 : decode cX7_put 33 = .ok (.aload_n 0, 1) := by decide +kernel
theorem dX7_put_34 : decode cX7_put 34 = .ok (.getfield 19, 3) := by decide +kernel
theorem dX7_put_37 : decode cX7_put 37 = .ok (.iload_n 3, 1) := by decide +kernel
theorem dX7_put_38 : decode cX7_put 38 = .ok (.iastore, 1) := by decide +kernel
theorem dX7_put_39 : decode cX7_put 39 = .ok (.aload_n 0, 1) := by decide +kernel
theorem dX7_put_40 : decode cX7_put 40 = .ok (.dup, 1) := by decide +kernel
theorem dX7_put_41 : decode cX7_put 41 = .ok (.getfield 19, 3) := by decide +kernel
theorem dX7_put_44 : decode cX7_put 44 = .ok (.iconst 1, 1) := by decide +kernel
theorem dX7_put_45 : decode cX7_put 45 = .ok (.iadd, 1) := by decide +kernel
theorem dX7_put_46 : decode cX7_put 46 = .ok (.putfield 19, 3) := by decide +kernel
theorem dX7_put_49 : decode cX7_put 49 = .ok (.iconst 1, 1) := by decide +kernel
theorem dX7_put_50 : decode cX7_put 50 = .ok (.ireturn, 1) := by decide +kernel
theorem dX7_holds_0 : decode cX7_holds 0 = .ok (.iconst 0, 1) := by decide +kernel
theorem dX7_holds_1 : decode cX7_holds 1 = .ok (.istore 4, 2) := by decide +kernel
theorem dX7_holds_3 : decode cX7_holds 3 = .ok (.iconst 0, 1) := by decide +kernel
theorem dX7_holds_4 : decode cX7_holds 4 = .ok (.istore 5, 2) := by decide +kernel
theorem dX7_holds_6 : decode cX7_holds 6 = .ok (.iload 5, 2) := by decide +kernel
theorem dX7_holds_8 : decode cX7_holds 8 = .ok (.aload_n 0, 1) := by decide +kernel
theorem dX7_holds_9 : decode cX7_holds 9 = .ok (.getfield 19, 3) := by decide +kernel
theorem dX7_holds_12 : decode cX7_holds 12 = .ok (.if_icmp .ge 209, 3) := by decide +kernel
theorem dX7_holds_15 : decode cX7_holds 15 = .ok (.aload_n 0, 1) := by decide +kernel
theorem dX7_holds_16 : decode cX7_holds 16 = .ok (.getfield 22, 3) := by decide +kernel
theorem dX7_holds_19 : decode cX7_holds 19 = .ok (.iload 5, 2) := by decide +kernel
theorem dX7_holds_21 : decode cX7_holds 21 = .ok (.iaload, 1) := by decide +kernel
theorem dX7_holds_22 : decode cX7_holds 22 = .ok (.bipush 12, 2) := by decide +kernel
theorem dX7_holds_24 : decode cX7_holds 24 = .ok (.if_icmp .eq 15, 3) := by decide +kernel
theorem dX7_holds_27 : decode cX7_holds 27 = .ok (.aload_n 0, 1) := by decide +kernel
theorem dX7_holds_28 : decode cX7_holds 28 = .ok (.getfield 22, 3) := by decide +kernel
theorem dX7_holds_31 : decode cX7_holds 31 = .ok (.iload 5, 2) := by decide +kernel
theorem dX7_holds_33 : decode cX7_holds 33 = .ok (.iaload, 1) := by decide +kernel
theorem dX7_holds_34 : decode cX7_holds 34 = .ok (.bipush 11, 2) := by decide +kernel
theorem dX7_holds_36 : decode cX7_holds 36 = .ok (.if_icmp .ne 7, 3) := by decide +kernel
theorem dX7_holds_39 : decode cX7_holds 39 = .ok (.iconst 1, 1) := by decide +kernel
theorem dX7_holds_40 : decode cX7_holds 40 = .ok (.goto 4, 3) := by decide +kernel
theorem dX7_holds_43 : decode cX7_holds 43 = .ok (.iconst 0, 1) := by decide +kernel
theorem dX7_holds_44 : decode cX7_holds 44 = .ok (.istore 6, 2) := by decide +kernel
theorem dX7_holds_46 : decode cX7_holds 46 = .ok (.iload 6, 2) := by decide +kernel
theorem dX7_holds_48 : decode cX7_holds 48 = .ok (.ifCond .eq 101, 3) := by decide +kernel
theorem dX7_holds_51 : decode cX7_holds 51 = .ok (.iload 4, 2) := by decide +kernel
theorem dX7_holds_53 : decode cX7_holds 53 = .ok (.iconst 2, 1) := by decide +kernel
theorem dX7_holds_54 : decode cX7_holds 54 = .ok (.if_icmp .lt 95, 3) := by decide +kernel
theorem dX7_holds_57 : decode cX7_holds 57 = .ok (.iinc 4 (-1), 3) := by decide +kernel
theorem dX7_holds_60 : decode cX7_holds 60 = .ok (.aload_n 0, 1) := by decide +kernel
theorem dX7_holds_61 : decode cX7_holds 61 = .ok (.getfield 32, 3) := by decide +kernel
theorem dX7_holds_64 : decode cX7_holds 64 = .ok (.iload 4, 2) := by decide +kernel
theorem dX7_holds_66 : decode cX7_holds 66 = .ok (.iconst 1, 1) := by decide +kernel
theorem dX7_holds_67 : decode cX7_holds 67 = .ok (.isub, 1) := by decide +kernel
theorem dX7_holds_68 : decode cX7_holds 68 = .ok (.baload, 1) := by decide +kernel
theorem dX7_holds_69 : decode cX7_holds 69 = .ok (.ifCond .eq 17, 3) := by decide +kernel
theorem dX7_holds_72 : decode cX7_holds 72 = .ok (.aload_n 0, 1) := by decide +kernel
theorem dX7_holds_73 : decode cX7_holds 73 = .ok (.getfield 32, 3) := by decide +kernel
theorem dX7_holds_76 : decode cX7_holds 76 = .ok (.iload 4, 2) := by decide +kernel
theorem dX7_holds_78 : decode cX7_holds 78 = .ok (.baload, 1) := by decide +kernel
theorem dX7_holds_79 : decode cX7_holds 79 = .ok (.ifCond .eq 7, 3) := by decide +kernel
theorem dX7_holds_82 : decode cX7_holds 82 = .ok (.iconst 1, 1) := by decide +kernel
theorem dX7_holds_83 : decode cX7_holds 83 = .ok (.goto 4, 3) := by decide +kernel
theorem dX7_holds_86 : decode cX7_holds 86 = .ok (.iconst 0, 1) := by decide +kernel
theorem dX7_holds_87 : decode cX7_holds 87 = .ok (.istore 7, 2) := by decide +kernel
theorem dX7_holds_89 : decode cX7_holds 89 = .ok (.aload_n 0, 1) := by decide +kernel
theorem dX7_holds_90 : decode cX7_holds 90 = .ok (.getfield 32, 3) := by decide +kernel
theorem dX7_holds_93 : decode cX7_holds 93 = .ok (.iload 4, 2) := by decide +kernel
theorem dX7_holds_95 : decode cX7_holds 95 = .ok (.iconst 1, 1) := by decide +kernel
theorem dX7_holds_96 : decode cX7_holds 96 = .ok (.isub, 1) := by decide +kernel
theorem dX7_holds_97 : decode cX7_holds 97 = .ok (.baload, 1) := by decide +kernel
theorem dX7_holds_98 : decode cX7_holds 98 = .ok (.ifCond .ne 13, 3) := by decide +kernel
theorem dX7_holds_101 : decode cX7_holds 101 = .ok (.aload_n 0, 1) := by decide +kernel
theorem dX7_holds_102 : decode cX7_holds 102 = .ok (.getfield 32, 3) := by decide +kernel
theorem dX7_holds_105 : decode cX7_holds 105 = .ok (.iload 4, 2) := by decide +kernel
theorem dX7_holds_107 : decode cX7_holds 107 = .ok (.baload, 1) := by decide +kernel
theorem dX7_holds_108 : decode cX7_holds 108 = .ok (.ifCond .eq 7, 3) := by decide +kernel
theorem dX7_holds_111 : decode cX7_holds 111 = .ok (.iconst 1, 1) := by decide +kernel
theorem dX7_holds_112 : decode cX7_holds 112 = .ok (.goto 4, 3) := by decide +kernel
theorem dX7_holds_115 : decode cX7_holds 115 = .ok (.iconst 0, 1) := by decide +kernel
theorem dX7_holds_116 : decode cX7_holds 116 = .ok (.istore 8, 2) := by decide +kernel
theorem dX7_holds_118 : decode cX7_holds 118 = .ok (.aload_n 0, 1) := by decide +kernel
theorem dX7_holds_119 : decode cX7_holds 119 = .ok (.getfield 32, 3) := by decide +kernel
theorem dX7_holds_122 : decode cX7_holds 122 = .ok (.iload 4, 2) := by decide +kernel
theorem dX7_holds_124 : decode cX7_holds 124 = .ok (.iconst 1, 1) := by decide +kernel
theorem dX7_holds_125 : decode cX7_holds 125 = .ok (.isub, 1) := by decide +kernel
theorem dX7_holds_126 : decode cX7_holds 126 = .ok (.aload_n 0, 1) := by decide +kernel
theorem dX7_holds_127 : decode cX7_holds 127 = .ok (.getfield 22, 3) := by decide +kernel
theorem dX7_holds_130 : decode cX7_holds 130 = .ok (.iload 5, 2) := by decide +kernel
theorem dX7_holds_132 : decode cX7_holds 132 = .ok (.iaload, 1) := by decide +kernel
theorem dX7_holds_133 : decode cX7_holds 133 = .ok (.bipush 12, 2) := by decide +kernel
theorem dX7_holds_135 : decode cX7_holds 135 = .ok (.if_icmp .ne 8, 3) := by decide +kernel
theorem dX7_holds_138 : decode cX7_holds 138 = .ok (.iload 7, 2) := by decide +kernel
theorem dX7_holds_140 : decode cX7_holds 140 = .ok (.goto 5, 3) := by decide +kernel
theorem dX7_holds_143 : decode cX7_holds 143 = .ok (.iload 8, 2) := by decide +kernel
theorem dX7_holds_145 : decode cX7_holds 145 = .ok (.bastore, 1) := by decide +kernel
theorem dX7_holds_146 : decode cX7_holds 146 = .ok (.goto 69, 3) := by decide +kernel
theorem dX7_holds_149 : decode cX7_holds 149 = .ok (.aload_n 0, 1) := by decide +kernel
theorem dX7_holds_150 : decode cX7_holds 150 = .ok (.getfield 22, 3) := by decide +kernel
theorem dX7_holds_153 : decode cX7_holds 153 = .ok (.iload 5, 2) := by decide +kernel
theorem dX7_holds_155 : decode cX7_holds 155 = .ok (.iaload, 1) := by decide +kernel
theorem dX7_holds_156 : decode cX7_holds 156 = .ok (.bipush 13, 2) := by decide +kernel
theorem dX7_holds_158 : decode cX7_holds 158 = .ok (.if_icmp .ne 38, 3) := by decide +kernel
theorem dX7_holds_161 : decode cX7_holds 161 = .ok (.iload 4, 2) := by decide +kernel
theorem dX7_holds_163 : decode cX7_holds 163 = .ok (.iconst 1, 1) := by decide +kernel
theorem dX7_holds_164 : decode cX7_holds 164 = .ok (.if_icmp .lt 32, 3) := by decide +kernel
theorem dX7_holds_167 : decode cX7_holds 167 = .ok (.aload_n 0, 1) := by decide +kernel
theorem dX7_holds_168 : decode cX7_holds 168 = .ok (.getfield 32, 3) := by decide +kernel
theorem dX7_holds_171 : decode cX7_holds 171 = .ok (.iload 4, 2) := by decide +kernel
theorem dX7_holds_173 : decode cX7_holds 173 = .ok (.iconst 1, 1) := by decide +kernel
theorem dX7_holds_174 : decode cX7_holds 174 = .ok (.isub, 1) := by decide +kernel
theorem dX7_holds_175 : decode cX7_holds 175 = .ok (.aload_n 0, 1) := by decide +kernel
theorem dX7_holds_176 : decode cX7_holds 176 = .ok (.getfield 32, 3) := by decide +kernel
theorem dX7_holds_179 : decode cX7_holds 179 = .ok (.iload 4, 2) := by decide +kernel
theorem dX7_holds_181 : decode cX7_holds 181 = .ok (.iconst 1, 1) := by decide +kernel
theorem dX7_holds_182 : decode cX7_holds 182 = .ok (.isub, 1) := by decide +kernel
theorem dX7_holds_183 : decode cX7_holds 183 = .ok (.baload, 1) := by decide +kernel
theorem dX7_holds_184 : decode cX7_holds 184 = .ok (.ifCond .ne 7, 3) := by decide +kernel
theorem dX7_holds_187 : decode cX7_holds 187 = .ok (.iconst 1, 1) := by decide +kernel
theorem dX7_holds_188 : decode cX7_holds 188 = .ok (.goto 4, 3) := by decide +kernel
theorem dX7_holds_191 : decode cX7_holds 191 = .ok (.iconst 0, 1) := by decide +kernel
theorem dX7_holds_192 : decode cX7_holds 192 = .ok (.bastore, 1) := by decide +kernel
theorem dX7_holds_193 : decode cX7_holds 193 = .ok (.goto 22, 3) := by decide +kernel
theorem dX7_holds_196 : decode cX7_holds 196 = .ok (.aload_n 0, 1) := by decide +kernel
theorem dX7_holds_197 : decode cX7_holds 197 = .ok (.getfield 32, 3) := by decide +kernel
theorem dX7_holds_200 : decode cX7_holds 200 = .ok (.iload 4, 2) := by decide +kernel
theorem dX7_holds_202 : decode cX7_holds 202 = .ok (.aload_n 0, 1) := by decide +kernel
theorem dX7_holds_203 : decode cX7_holds 203 = .ok (.iload 5, 2) := by decide +kernel
theorem dX7_holds_205 : decode cX7_holds 205 = .ok (.iload_n 1, 1) := by decide +kernel
theorem dX7_holds_206 : decode cX7_holds 206 = .ok (.aload_n 2, 1) := by decide +kernel
theorem dX7_holds_207 : decode cX7_holds 207 = .ok (.aload_n 3, 1) := by decide +kernel
theorem dX7_holds_208 : decode cX7_holds 208 = .ok (.invokevirtual 42, 3) := by decide +kernel
theorem dX7_holds_211 : decode cX7_holds 211 = .ok (.bastore, 1) := by decide +kernel
theorem dX7_holds_212 : decode cX7_holds 212 = .ok (.iinc 4 1, 3) := by decide +kernel
theorem dX7_holds_215 : decode cX7_holds 215 = .ok (.iinc 5 1, 3) := by decide +kernel
theorem dX7_holds_218 : decode cX7_holds 218 = .ok (.goto (-212), 3) := by decide +kernel
theorem dX7_holds_221 : decode cX7_holds 221 = .ok (.iload 4, 2) := by decide +kernel
theorem dX7_holds_223 : decode cX7_holds 223 = .ok (.ifCond .le 16, 3) := by decide +kernel
theorem dX7_holds_226 : decode cX7_holds 226 = .ok (.aload_n 0, 1) := by decide +kernel
theorem dX7_holds_227 : decode cX7_holds 227 = .ok (.getfield 32, 3) := by decide +kernel
theorem dX7_holds_230 : decode cX7_holds 230 = .ok (.iconst 0, 1) := by decide +kernel
theorem dX7_holds_231 : decode cX7_holds 231 = .ok (.baload, 1) := by decide +kernel
theorem dX7_holds_232 : decode cX7_holds 232 = .ok (.ifCond .eq 7, 3) := by decide +kernel
theorem dX7_holds_235 : decode cX7_holds 235 = .ok (.iconst 1, 1) := by decide +kernel
theorem dX7_holds_236 : decode cX7_holds 236 = .ok (.goto 4, 3) := by decide +kernel
theorem dX7_holds_239 : decode cX7_holds 239 = .ok (.iconst 0, 1) := by decide +kernel
theorem dX7_holds_240 : decode cX7_holds 240 = .ok (.ireturn, 1) := by decide +kernel
theorem dX7_isTrue_0 : decode cX7_isTrue 0 = .ok (.aload_n 0, 1) := by decide +kernel
theorem dX7_isTrue_1 : decode cX7_isTrue 1 = .ok (.getfield 22, 3) := by decide +kernel
theorem dX7_isTrue_4 : decode cX7_isTrue 4 = .ok (.iload_n 1, 1) := by decide +kernel
theorem dX7_isTrue_5 : decode cX7_isTrue 5 = .ok (.iaload, 1) := by decide +kernel
theorem dX7_isTrue_6 : decode cX7_isTrue 6 = .ok (.tableswitch 178 14 20 #[42, 51, 85, 100, 127, 154, 166], 42) := by decide +kernel
theorem dX7_isTrue_48 : decode cX7_isTrue 48 = .ok (.aload_n 3, 1) := by decide +kernel
theorem dX7_isTrue_49 : decode cX7_isTrue 49 = .ok (.getfield 46, 3) := by decide +kernel
theorem dX7_isTrue_52 : decode cX7_isTrue 52 = .ok (.iload_n 2, 1) := by decide +kernel
theorem dX7_isTrue_53 : decode cX7_isTrue 53 = .ok (.invokevirtual 52, 3) := by decide +kernel
theorem dX7_isTrue_56 : decode cX7_isTrue 56 = .ok (.ireturn, 1) := by decide +kernel
theorem dX7_isTrue_57 : decode cX7_isTrue 57 = .ok (.aload_n 3, 1) := by decide +kernel
theorem dX7_isTrue_58 : decode cX7_isTrue 58 = .ok (.getfield 58, 3) := by decide +kernel
theorem dX7_isTrue_61 : decode cX7_isTrue 61 = .ok (.ifCond .le 28, 3) := by decide +kernel
theorem dX7_isTrue_64 : decode cX7_isTrue 64 = .ok (.aload_n 3, 1) := by decide +kernel
theorem dX7_isTrue_65 : decode cX7_isTrue 65 = .ok (.getfield 46, 3) := by decide +kernel
theorem dX7_isTrue_68 : decode cX7_isTrue 68 = .ok (.getfield 61, 3) := by decide +kernel
theorem dX7_isTrue_71 : decode cX7_isTrue 71 = .ok (.aload_n 3, 1) := by decide +kernel
theorem dX7_isTrue_72 : decode cX7_isTrue 72 = .ok (.getfield 58, 3) := by decide +kernel
theorem dX7_isTrue_75 : decode cX7_isTrue 75 = .ok (.iconst 1, 1) := by decide +kernel
theorem dX7_isTrue_76 : decode cX7_isTrue 76 = .ok (.isub, 1) := by decide +kernel
theorem dX7_isTrue_77 : decode cX7_isTrue 77 = .ok (.iaload, 1) := by decide +kernel
theorem dX7_isTrue_78 : decode cX7_isTrue 78 = .ok (.iload_n 2, 1) := by decide +kernel
theorem dX7_isTrue_79 : decode cX7_isTrue 79 = .ok (.ishr, 1) := by decide +kernel
theorem dX7_isTrue_80 : decode cX7_isTrue 80 = .ok (.iconst 1, 1) := by decide +kernel
theorem dX7_isTrue_81 : decode cX7_isTrue 81 = .ok (.iand, 1) := by decide +kernel
theorem dX7_isTrue_82 : decode cX7_isTrue 82 = .ok (.ifCond .eq 7, 3) := by decide +kernel
theorem dX7_isTrue_85 : decode cX7_isTrue 85 = .ok (.iconst 1, 1) := by decide +kernel
theorem dX7_isTrue_86 : decode cX7_isTrue 86 = .ok (.goto 4, 3) := by decide +kernel
theorem dX7_isTrue_89 : decode cX7_isTrue 89 = .ok (.iconst 0, 1) := by decide +kernel
theorem dX7_isTrue_90 : decode cX7_isTrue 90 = .ok (.ireturn, 1) := by decide +kernel
theorem dX7_isTrue_91 : decode cX7_isTrue 91 = .ok (.aload 4, 2) := by decide +kernel
theorem dX7_isTrue_93 : decode cX7_isTrue 93 = .ok (.iload_n 2, 1) := by decide +kernel
theorem dX7_isTrue_94 : decode cX7_isTrue 94 = .ok (.invokevirtual 64, 3) := by decide +kernel
theorem dX7_isTrue_97 : decode cX7_isTrue 97 = .ok (.ifCond .le 7, 3) := by decide +kernel
theorem dX7_isTrue_100 : decode cX7_isTrue 100 = .ok (.iconst 1, 1) := by decide +kernel
theorem dX7_isTrue_101 : decode cX7_isTrue 101 = .ok (.goto 4, 3) := by decide +kernel
theorem dX7_isTrue_104 : decode cX7_isTrue 104 = .ok (.iconst 0, 1) := by decide +kernel
theorem dX7_isTrue_105 : decode cX7_isTrue 105 = .ok (.ireturn, 1) := by decide +kernel
theorem dX7_isTrue_106 : decode cX7_isTrue 106 = .ok (.aload_n 3, 1) := by decide +kernel
theorem dX7_isTrue_107 : decode cX7_isTrue 107 = .ok (.getfield 46, 3) := by decide +kernel
theorem dX7_isTrue_110 : decode cX7_isTrue 110 = .ok (.getfield 70, 3) := by decide +kernel
theorem dX7_isTrue_113 : decode cX7_isTrue 113 = .ok (.iload_n 2, 1) := by decide +kernel
theorem dX7_isTrue_114 : decode cX7_isTrue 114 = .ok (.iaload, 1) := by decide +kernel
theorem dX7_isTrue_115 : decode cX7_isTrue 115 = .ok (.aload_n 0, 1) := by decide +kernel
theorem dX7_isTrue_116 : decode cX7_isTrue 116 = .ok (.getfield 29, 3) := by decide +kernel
theorem dX7_isTrue_119 : decode cX7_isTrue 119 = .ok (.iload_n 1, 1) := by decide +kernel
theorem dX7_isTrue_120 : decode cX7_isTrue 120 = .ok (.iaload, 1) := by decide +kernel
theorem dX7_isTrue_121 : decode cX7_isTrue 121 = .ok (.ishr, 1) := by decide +kernel
theorem dX7_isTrue_122 : decode cX7_isTrue 122 = .ok (.iconst 1, 1) := by decide +kernel
theorem dX7_isTrue_123 : decode cX7_isTrue 123 = .ok (.iand, 1) := by decide +kernel
theorem dX7_isTrue_124 : decode cX7_isTrue 124 = .ok (.ifCond .eq 7, 3) := by decide +kernel
theorem dX7_isTrue_127 : decode cX7_isTrue 127 = .ok (.iconst 1, 1) := by decide +kernel
theorem dX7_isTrue_128 : decode cX7_isTrue 128 = .ok (.goto 4, 3) := by decide +kernel
theorem dX7_isTrue_131 : decode cX7_isTrue 131 = .ok (.iconst 0, 1) := by decide +kernel
theorem dX7_isTrue_132 : decode cX7_isTrue 132 = .ok (.ireturn, 1) := by decide +kernel
theorem dX7_isTrue_133 : decode cX7_isTrue 133 = .ok (.aload_n 3, 1) := by decide +kernel
theorem dX7_isTrue_134 : decode cX7_isTrue 134 = .ok (.getfield 46, 3) := by decide +kernel
theorem dX7_isTrue_137 : decode cX7_isTrue 137 = .ok (.getfield 73, 3) := by decide +kernel
theorem dX7_isTrue_140 : decode cX7_isTrue 140 = .ok (.iload_n 2, 1) := by decide +kernel
theorem dX7_isTrue_141 : decode cX7_isTrue 141 = .ok (.iaload, 1) := by decide +kernel
theorem dX7_isTrue_142 : decode cX7_isTrue 142 = .ok (.aload_n 0, 1) := by decide +kernel
theorem dX7_isTrue_143 : decode cX7_isTrue 143 = .ok (.getfield 29, 3) := by decide +kernel
theorem dX7_isTrue_146 : decode cX7_isTrue 146 = .ok (.iload_n 1, 1) := by decide +kernel
theorem dX7_isTrue_147 : decode cX7_isTrue 147 = .ok (.iaload, 1) := by decide +kernel
theorem dX7_isTrue_148 : decode cX7_isTrue 148 = .ok (.ishr, 1) := by decide +kernel
theorem dX7_isTrue_149 : decode cX7_isTrue 149 = .ok (.iconst 1, 1) := by decide +kernel
theorem dX7_isTrue_150 : decode cX7_isTrue 150 = .ok (.iand, 1) := by decide +kernel
theorem dX7_isTrue_151 : decode cX7_isTrue 151 = .ok (.ifCond .eq 7, 3) := by decide +kernel
theorem dX7_isTrue_154 : decode cX7_isTrue 154 = .ok (.iconst 1, 1) := by decide +kernel
theorem dX7_isTrue_155 : decode cX7_isTrue 155 = .ok (.goto 4, 3) := by decide +kernel
theorem dX7_isTrue_158 : decode cX7_isTrue 158 = .ok (.iconst 0, 1) := by decide +kernel
theorem dX7_isTrue_159 : decode cX7_isTrue 159 = .ok (.ireturn, 1) := by decide +kernel
theorem dX7_isTrue_160 : decode cX7_isTrue 160 = .ok (.aload_n 0, 1) := by decide +kernel
theorem dX7_isTrue_161 : decode cX7_isTrue 161 = .ok (.aload 4, 2) := by decide +kernel
theorem dX7_isTrue_163 : decode cX7_isTrue 163 = .ok (.iload_n 2, 1) := by decide +kernel
theorem dX7_isTrue_164 : decode cX7_isTrue 164 = .ok (.invokevirtual 76, 3) := by decide +kernel
theorem dX7_isTrue_167 : decode cX7_isTrue 167 = .ok (.iload_n 1, 1) := by decide +kernel
theorem dX7_isTrue_168 : decode cX7_isTrue 168 = .ok (.invokevirtual 79, 3) := by decide +kernel
theorem dX7_isTrue_171 : decode cX7_isTrue 171 = .ok (.ireturn, 1) := by decide +kernel
theorem dX7_isTrue_172 : decode cX7_isTrue 172 = .ok (.aload_n 0, 1) := by decide +kernel
theorem dX7_isTrue_173 : decode cX7_isTrue 173 = .ok (.aload 4, 2) := by decide +kernel
theorem dX7_isTrue_175 : decode cX7_isTrue 175 = .ok (.iload_n 2, 1) := by decide +kernel
theorem dX7_isTrue_176 : decode cX7_isTrue 176 = .ok (.invokevirtual 64, 3) := by decide +kernel
theorem dX7_isTrue_179 : decode cX7_isTrue 179 = .ok (.iload_n 1, 1) := by decide +kernel
theorem dX7_isTrue_180 : decode cX7_isTrue 180 = .ok (.invokevirtual 79, 3) := by decide +kernel
theorem dX7_isTrue_183 : decode cX7_isTrue 183 = .ok (.ireturn, 1) := by decide +kernel
theorem dX7_isTrue_184 : decode cX7_isTrue 184 = .ok (.aload_n 0, 1) := by decide +kernel
theorem dX7_isTrue_185 : decode cX7_isTrue 185 = .ok (.iload_n 2, 1) := by decide +kernel
theorem dX7_isTrue_186 : decode cX7_isTrue 186 = .ok (.iload_n 1, 1) := by decide +kernel
theorem dX7_isTrue_187 : decode cX7_isTrue 187 = .ok (.invokevirtual 79, 3) := by decide +kernel
theorem dX7_isTrue_190 : decode cX7_isTrue 190 = .ok (.ireturn, 1) := by decide +kernel
theorem dX7_fits_0 : decode cX7_fits 0 = .ok (.aload_n 0, 1) := by decide +kernel
theorem dX7_fits_1 : decode cX7_fits 1 = .ok (.getfield 26, 3) := by decide +kernel
theorem dX7_fits_4 : decode cX7_fits 4 = .ok (.iload_n 2, 1) := by decide +kernel
theorem dX7_fits_5 : decode cX7_fits 5 = .ok (.iaload, 1) := by decide +kernel
theorem dX7_fits_6 : decode cX7_fits 6 = .ok (.lookupswitch 58 #[(60, 26), (62, 42)], 26) := by decide +kernel
theorem dX7_fits_32 : decode cX7_fits 32 = .ok (.iload_n 1, 1) := by decide +kernel
theorem dX7_fits_33 : decode cX7_fits 33 = .ok (.aload_n 0, 1) := by decide +kernel
theorem dX7_fits_34 : decode cX7_fits 34 = .ok (.getfield 29, 3) := by decide +kernel
theorem dX7_fits_37 : decode cX7_fits 37 = .ok (.iload_n 2, 1) := by decide +kernel
theorem dX7_fits_38 : decode cX7_fits 38 = .ok (.iaload, 1) := by decide +kernel
theorem dX7_fits_39 : decode cX7_fits 39 = .ok (.if_icmp .ge 7, 3) := by decide +kernel
theorem dX7_fits_42 : decode cX7_fits 42 = .ok (.iconst 1, 1) := by decide +kernel
theorem dX7_fits_43 : decode cX7_fits 43 = .ok (.goto 4, 3) := by decide +kernel
theorem dX7_fits_46 : decode cX7_fits 46 = .ok (.iconst 0, 1) := by decide +kernel
theorem dX7_fits_47 : decode cX7_fits 47 = .ok (.ireturn, 1) := by decide +kernel
theorem dX7_fits_48 : decode cX7_fits 48 = .ok (.iload_n 1, 1) := by decide +kernel
theorem dX7_fits_49 : decode cX7_fits 49 = .ok (.aload_n 0, 1) := by decide +kernel
theorem dX7_fits_50 : decode cX7_fits 50 = .ok (.getfield 29, 3) := by decide +kernel
theorem dX7_fits_53 : decode cX7_fits 53 = .ok (.iload_n 2, 1) := by decide +kernel
theorem dX7_fits_54 : decode cX7_fits 54 = .ok (.iaload, 1) := by decide +kernel
theorem dX7_fits_55 : decode cX7_fits 55 = .ok (.if_icmp .le 7, 3) := by decide +kernel
theorem dX7_fits_58 : decode cX7_fits 58 = .ok (.iconst 1, 1) := by decide +kernel
theorem dX7_fits_59 : decode cX7_fits 59 = .ok (.goto 4, 3) := by decide +kernel
theorem dX7_fits_62 : decode cX7_fits 62 = .ok (.iconst 0, 1) := by decide +kernel
theorem dX7_fits_63 : decode cX7_fits 63 = .ok (.ireturn, 1) := by decide +kernel
theorem dX7_fits_64 : decode cX7_fits 64 = .ok (.iload_n 1, 1) := by decide +kernel
theorem dX7_fits_65 : decode cX7_fits 65 = .ok (.aload_n 0, 1) := by decide +kernel
theorem dX7_fits_66 : decode cX7_fits 66 = .ok (.getfield 29, 3) := by decide +kernel
theorem dX7_fits_69 : decode cX7_fits 69 = .ok (.iload_n 2, 1) := by decide +kernel
theorem dX7_fits_70 : decode cX7_fits 70 = .ok (.iaload, 1) := by decide +kernel
theorem dX7_fits_71 : decode cX7_fits 71 = .ok (.if_icmp .ne 7, 3) := by decide +kernel
theorem dX7_fits_74 : decode cX7_fits 74 = .ok (.iconst 1, 1) := by decide +kernel
theorem dX7_fits_75 : decode cX7_fits 75 = .ok (.goto 4, 3) := by decide +kernel
theorem dX7_fits_78 : decode cX7_fits 78 = .ok (.iconst 0, 1) := by decide +kernel
theorem dX7_fits_79 : decode cX7_fits 79 = .ok (.ireturn, 1) := by decide +kernel
theorem dX8_init_0 : decode cX8_init 0 = .ok (.aload_n 0, 1) := by decide +kernel
theorem dX8_init_1 : decode cX8_init 1 = .ok (.invokespecial 3, 3) := by decide +kernel
theorem dX8_init_4 : decode cX8_init 4 = .ok (.aload_n 0, 1) := by decide +kernel
theorem dX8_init_5 : decode cX8_init 5 = .ok (.new 9, 3) := by decide +kernel
theorem dX8_init_8 : decode cX8_init 8 = .ok (.dup, 1) := by decide +kernel
theorem dX8_init_9 : decode cX8_init 9 = .ok (.invokespecial 11, 3) := by decide +kernel
theorem dX8_init_12 : decode cX8_init 12 = .ok (.putfield 12, 3) := by decide +kernel
theorem dX8_init_15 : decode cX8_init 15 = .ok (.aload_n 0, 1) := by decide +kernel
theorem dX8_init_16 : decode cX8_init 16 = .ok (.new 18, 3) := by decide +kernel
theorem dX8_init_19 : decode cX8_init 19 = .ok (.dup, 1) := by decide +kernel
theorem dX8_init_20 : decode cX8_init 20 = .ok (.sipush 200, 3) := by decide +kernel
theorem dX8_init_23 : decode cX8_init 23 = .ok (.invokespecial 20, 3) := by decide +kernel
theorem dX8_init_26 : decode cX8_init 26 = .ok (.putfield 23, 3) := by decide +kernel
theorem dX8_init_29 : decode cX8_init 29 = .ok (.return_, 1) := by decide +kernel
theorem dX8_readsAll_0 : decode cX8_readsAll 0 = .ok (.aload_n 0, 1) := by decide +kernel
theorem dX8_readsAll_1 : decode cX8_readsAll 1 = .ok (.getfield 12, 3) := by decide +kernel
theorem dX8_readsAll_4 : decode cX8_readsAll 4 = .ok (.invokevirtual 27, 3) := by decide +kernel
theorem dX8_readsAll_7 : decode cX8_readsAll 7 = .ok (.aload_n 0, 1) := by decide +kernel
theorem dX8_readsAll_8 : decode cX8_readsAll 8 = .ok (.getfield 23, 3) := by decide +kernel
theorem dX8_readsAll_11 : decode cX8_readsAll 11 = .ok (.aload_n 1, 1) := by decide +kernel
theorem dX8_readsAll_12 : decode cX8_readsAll 12 = .ok (.iload_n 2, 1) := by decide +kernel
theorem dX8_readsAll_13 : decode cX8_readsAll 13 = .ok (.invokevirtual 30, 3) := by decide +kernel
theorem dX8_readsAll_16 : decode cX8_readsAll 16 = .ok (.aload_n 0, 1) := by decide +kernel
theorem dX8_readsAll_17 : decode cX8_readsAll 17 = .ok (.aload_n 3, 1) := by decide +kernel
theorem dX8_readsAll_18 : decode cX8_readsAll 18 = .ok (.iconst 0, 1) := by decide +kernel
theorem dX8_readsAll_19 : decode cX8_readsAll 19 = .ok (.invokevirtual 34, 3) := by decide +kernel
theorem dX8_readsAll_22 : decode cX8_readsAll 22 = .ok (.ifCond .ne 5, 3) := by decide +kernel
theorem dX8_readsAll_25 : decode cX8_readsAll 25 = .ok (.iconst 0, 1) := by decide +kernel
theorem dX8_readsAll_26 : decode cX8_readsAll 26 = .ok (.ireturn, 1) := by decide +kernel
theorem dX8_readsAll_27 : decode cX8_readsAll 27 = .ok (.aload_n 0, 1) := by decide +kernel
theorem dX8_readsAll_28 : decode cX8_readsAll 28 = .ok (.getfield 12, 3) := by decide +kernel
theorem dX8_readsAll_31 : decode cX8_readsAll 31 = .ok (.aload_n 0, 1) := by decide +kernel
theorem dX8_readsAll_32 : decode cX8_readsAll 32 = .ok (.getfield 23, 3) := by decide +kernel
theorem dX8_readsAll_35 : decode cX8_readsAll 35 = .ok (.getfield 38, 3) := by decide +kernel
theorem dX8_readsAll_38 : decode cX8_readsAll 38 = .ok (.ifCond .ne 7, 3) := by decide +kernel
theorem dX8_readsAll_41 : decode cX8_readsAll 41 = .ok (.iconst 1, 1) := by decide +kernel
theorem dX8_readsAll_42 : decode cX8_readsAll 42 = .ok (.goto 4, 3) := by decide +kernel
theorem dX8_readsAll_45 : decode cX8_readsAll 45 = .ok (.iconst 0, 1) := by decide +kernel
theorem dX8_readsAll_46 : decode cX8_readsAll 46 = .ok (.putfield 42, 3) := by decide +kernel
theorem dX8_readsAll_49 : decode cX8_readsAll 49 = .ok (.aload_n 0, 1) := by decide +kernel
theorem dX8_readsAll_50 : decode cX8_readsAll 50 = .ok (.getfield 12, 3) := by decide +kernel
theorem dX8_readsAll_53 : decode cX8_readsAll 53 = .ok (.getfield 42, 3) := by decide +kernel
theorem dX8_readsAll_56 : decode cX8_readsAll 56 = .ok (.ifCond .ne 14, 3) := by decide +kernel
theorem dX8_readsAll_59 : decode cX8_readsAll 59 = .ok (.aload_n 0, 1) := by decide +kernel
theorem dX8_readsAll_60 : decode cX8_readsAll 60 = .ok (.getfield 23, 3) := by decide +kernel
theorem dX8_readsAll_63 : decode cX8_readsAll 63 = .ok (.iconst 1, 1) := by decide +kernel
theorem dX8_readsAll_64 : decode cX8_readsAll 64 = .ok (.invokevirtual 46, 3) := by decide +kernel
theorem dX8_readsAll_67 : decode cX8_readsAll 67 = .ok (.ifCond .eq 7, 3) := by decide +kernel
theorem dX8_readsAll_70 : decode cX8_readsAll 70 = .ok (.iconst 1, 1) := by decide +kernel
theorem dX8_readsAll_71 : decode cX8_readsAll 71 = .ok (.goto 4, 3) := by decide +kernel
theorem dX8_readsAll_74 : decode cX8_readsAll 74 = .ok (.iconst 0, 1) := by decide +kernel
theorem dX8_readsAll_75 : decode cX8_readsAll 75 = .ok (.ireturn, 1) := by decide +kernel
theorem dX8_readsCond_0 : decode cX8_readsCond 0 = .ok (.aload_n 0, 1) := by decide +kernel
theorem dX8_readsCond_1 : decode cX8_readsCond 1 = .ok (.aload_n 1, 1) := by decide +kernel
theorem dX8_readsCond_2 : decode cX8_readsCond 2 = .ok (.iload_n 2, 1) := by decide +kernel
theorem dX8_readsCond_3 : decode cX8_readsCond 3 = .ok (.invokevirtual 50, 3) := by decide +kernel
theorem dX8_readsCond_6 : decode cX8_readsCond 6 = .ok (.ifCond .ne 5, 3) := by decide +kernel
theorem dX8_readsCond_9 : decode cX8_readsCond 9 = .ok (.iconst 0, 1) := by decide +kernel
theorem dX8_readsCond_10 : decode cX8_readsCond 10 = .ok (.ireturn, 1) := by decide +kernel
theorem dX8_readsCond_11 : decode cX8_readsCond 11 = .ok (.iconst 0, 1) := by decide +kernel
theorem dX8_readsCond_12 : decode cX8_readsCond 12 = .ok (.istore_n 3, 1) := by decide +kernel
theorem dX8_readsCond_13 : decode cX8_readsCond 13 = .ok (.iload_n 3, 1) := by decide +kernel
theorem dX8_readsCond_14 : decode cX8_readsCond 14 = .ok (.bipush 20, 2) := by decide +kernel
theorem dX8_readsCond_16 : decode cX8_readsCond 16 = .ok (.if_icmp .ge 51, 3) := by decide +kernel
theorem dX8_readsCond_19 : decode cX8_readsCond 19 = .ok (.aload_n 0, 1) := by decide +kernel
theorem dX8_readsCond_20 : decode cX8_readsCond 20 = .ok (.getfield 23, 3) := by decide +kernel
theorem dX8_readsCond_23 : decode cX8_readsCond 23 = .ok (.getfield 53, 3) := by decide +kernel
theorem dX8_readsCond_26 : decode cX8_readsCond 26 = .ok (.bipush 11, 2) := by decide +kernel
theorem dX8_readsCond_28 : decode cX8_readsCond 28 = .ok (.if_icmp .ne 39, 3) := by decide +kernel
theorem dX8_readsCond_31 : decode cX8_readsCond 31 = .ok (.aload_n 0, 1) := by decide +kernel
theorem dX8_readsCond_32 : decode cX8_readsCond 32 = .ok (.getfield 23, 3) := by decide +kernel
theorem dX8_readsCond_35 : decode cX8_readsCond 35 = .ok (.invokevirtual 56, 3) := by decide +kernel
theorem dX8_readsCond_38 : decode cX8_readsCond 38 = .ok (.aload_n 0, 1) := by decide +kernel
theorem dX8_readsCond_39 : decode cX8_readsCond 39 = .ok (.aload_n 1, 1) := by decide +kernel
theorem dX8_readsCond_40 : decode cX8_readsCond 40 = .ok (.iload_n 2, 1) := by decide +kernel
theorem dX8_readsCond_41 : decode cX8_readsCond 41 = .ok (.invokevirtual 50, 3) := by decide +kernel
theorem dX8_readsCond_44 : decode cX8_readsCond 44 = .ok (.ifCond .ne 5, 3) := by decide +kernel
theorem dX8_readsCond_47 : decode cX8_readsCond 47 = .ok (.iconst 0, 1) := by decide +kernel
theorem dX8_readsCond_48 : decode cX8_readsCond 48 = .ok (.ireturn, 1) := by decide +kernel
theorem dX8_readsCond_49 : decode cX8_readsCond 49 = .ok (.aload_n 0, 1) := by decide +kernel
theorem dX8_readsCond_50 : decode cX8_readsCond 50 = .ok (.getfield 12, 3) := by decide +kernel
theorem dX8_readsCond_53 : decode cX8_readsCond 53 = .ok (.bipush 11, 2) := by decide +kernel
theorem dX8_readsCond_55 : decode cX8_readsCond 55 = .ok (.iconst (-1), 1) := by decide +kernel
theorem dX8_readsCond_56 : decode cX8_readsCond 56 = .ok (.iconst (-1), 1) := by decide +kernel
theorem dX8_readsCond_57 : decode cX8_readsCond 57 = .ok (.invokevirtual 59, 3) := by decide +kernel
theorem dX8_readsCond_60 : decode cX8_readsCond 60 = .ok (.pop, 1) := by decide +kernel
theorem dX8_readsCond_61 : decode cX8_readsCond 61 = .ok (.iinc 3 1, 3) := by decide +kernel
theorem dX8_readsCond_64 : decode cX8_readsCond 64 = .ok (.goto (-51), 3) := by decide +kernel
theorem dX8_readsCond_67 : decode cX8_readsCond 67 = .ok (.iconst 1, 1) := by decide +kernel
theorem dX8_readsCond_68 : decode cX8_readsCond 68 = .ok (.ireturn, 1) := by decide +kernel
theorem dX8_readsParts_0 : decode cX8_readsParts 0 = .ok (.aload_n 0, 1) := by decide +kernel
theorem dX8_readsParts_1 : decode cX8_readsParts 1 = .ok (.aload_n 1, 1) := by decide +kernel
theorem dX8_readsParts_2 : decode cX8_readsParts 2 = .ok (.iload_n 2, 1) := by decide +kernel
theorem dX8_readsParts_3 : decode cX8_readsParts 3 = .ok (.invokevirtual 63, 3) := by decide +kernel
theorem dX8_readsParts_6 : decode cX8_readsParts 6 = .ok (.ifCond .ne 5, 3) := by decide +kernel
theorem dX8_readsParts_9 : decode cX8_readsParts 9 = .ok (.iconst 0, 1) := by decide +kernel
theorem dX8_readsParts_10 : decode cX8_readsParts 10 = .ok (.ireturn, 1) := by decide +kernel
theorem dX8_readsParts_11 : decode cX8_readsParts 11 = .ok (.iconst 0, 1) := by decide +kernel
theorem dX8_readsParts_12 : decode cX8_readsParts 12 = .ok (.istore_n 3, 1) := by decide +kernel
theorem dX8_readsParts_13 : decode cX8_readsParts 13 = .ok (.iload_n 3, 1) := by decide +kernel
theorem dX8_readsParts_14 : decode cX8_readsParts 14 = .ok (.bipush 20, 2) := by decide +kernel
theorem dX8_readsParts_16 : decode cX8_readsParts 16 = .ok (.if_icmp .ge 51, 3) := by decide +kernel
theorem dX8_readsParts_19 : decode cX8_readsParts 19 = .ok (.aload_n 0, 1) := by decide +kernel
theorem dX8_readsParts_20 : decode cX8_readsParts 20 = .ok (.getfield 23, 3) := by decide +kernel
theorem dX8_readsParts_23 : decode cX8_readsParts 23 = .ok (.getfield 53, 3) := by decide +kernel
theorem dX8_readsParts_26 : decode cX8_readsParts 26 = .ok (.bipush 12, 2) := by decide +kernel
theorem dX8_readsParts_28 : decode cX8_readsParts 28 = .ok (.if_icmp .ne 39, 3) := by decide +kernel
theorem dX8_readsParts_31 : decode cX8_readsParts 31 = .ok (.aload_n 0, 1) := by decide +kernel
theorem dX8_readsParts_32 : decode cX8_readsParts 32 = .ok (.getfield 23, 3) := by decide +kernel
theorem dX8_readsParts_35 : decode cX8_readsParts 35 = .ok (.invokevirtual 56, 3) := by decide +kernel
theorem dX8_readsParts_38 : decode cX8_readsParts 38 = .ok (.aload_n 0, 1) := by decide +kernel
theorem dX8_readsParts_39 : decode cX8_readsParts 39 = .ok (.aload_n 1, 1) := by decide +kernel
theorem dX8_readsParts_40 : decode cX8_readsParts 40 = .ok (.iload_n 2, 1) := by decide +kernel
theorem dX8_readsParts_41 : decode cX8_readsParts 41 = .ok (.invokevirtual 63, 3) := by decide +kernel
theorem dX8_readsParts_44 : decode cX8_readsParts 44 = .ok (.ifCond .ne 5, 3) := by decide +kernel
theorem dX8_readsParts_47 : decode cX8_readsParts 47 = .ok (.iconst 0, 1) := by decide +kernel
theorem dX8_readsParts_48 : decode cX8_readsParts 48 = .ok (.ireturn, 1) := by decide +kernel
theorem dX8_readsParts_49 : decode cX8_readsParts 49 = .ok (.aload_n 0, 1) := by decide +kernel
theorem dX8_readsParts_50 : decode cX8_readsParts 50 = .ok (.getfield 12, 3) := by decide +kernel
theorem dX8_readsParts_53 : decode cX8_readsParts 53 = .ok (.bipush 12, 2) := by decide +kernel
theorem dX8_readsParts_55 : decode cX8_readsParts 55 = .ok (.iconst (-1), 1) := by decide +kernel
theorem dX8_readsParts_56 : decode cX8_readsParts 56 = .ok (.iconst (-1), 1) := by decide +kernel
theorem dX8_readsParts_57 : decode cX8_readsParts 57 = .ok (.invokevirtual 59, 3) := by decide +kernel
theorem dX8_readsParts_60 : decode cX8_readsParts 60 = .ok (.pop, 1) := by decide +kernel
theorem dX8_readsParts_61 : decode cX8_readsParts 61 = .ok (.iinc 3 1, 3) := by decide +kernel
theorem dX8_readsParts_64 : decode cX8_readsParts 64 = .ok (.goto (-51), 3) := by decide +kernel
theorem dX8_readsParts_67 : decode cX8_readsParts 67 = .ok (.iconst 1, 1) := by decide +kernel
theorem dX8_readsParts_68 : decode cX8_readsParts 68 = .ok (.ireturn, 1) := by decide +kernel
theorem dX8_readsOne_0 : decode cX8_readsOne 0 = .ok (.aload_n 0, 1) := by decide +kernel
theorem dX8_readsOne_1 : decode cX8_readsOne 1 = .ok (.getfield 23, 3) := by decide +kernel
theorem dX8_readsOne_4 : decode cX8_readsOne 4 = .ok (.getfield 66, 3) := by decide +kernel
theorem dX8_readsOne_7 : decode cX8_readsOne 7 = .ok (.bipush 40, 2) := by decide +kernel
theorem dX8_readsOne_9 : decode cX8_readsOne 9 = .ok (.if_icmp .ne 7, 3) := by decide +kernel
theorem dX8_readsOne_12 : decode cX8_readsOne 12 = .ok (.iconst 1, 1) := by decide +kernel
theorem dX8_readsOne_13 : decode cX8_readsOne 13 = .ok (.goto 4, 3) := by decide +kernel
theorem dX8_readsOne_16 : decode cX8_readsOne 16 = .ok (.iconst 0, 1) := by decide +kernel
theorem dX8_readsOne_17 : decode cX8_readsOne 17 = .ok (.istore_n 3, 1) := by decide +kernel
theorem dX8_readsOne_18 : decode cX8_readsOne 18 = .ok (.aload_n 0, 1) := by decide +kernel
theorem dX8_readsOne_19 : decode cX8_readsOne 19 = .ok (.getfield 23, 3) := by decide +kernel
theorem dX8_readsOne_22 : decode cX8_readsOne 22 = .ok (.getfield 53, 3) := by decide +kernel
theorem dX8_readsOne_25 : decode cX8_readsOne 25 = .ok (.istore 4, 2) := by decide +kernel
theorem dX8_readsOne_27 : decode cX8_readsOne 27 = .ok (.iload_n 3, 1) := by decide +kernel
theorem dX8_readsOne_28 : decode cX8_readsOne 28 = .ok (.ifCond .ne 26, 3) := by decide +kernel
theorem dX8_readsOne_31 : decode cX8_readsOne 31 = .ok (.iload 4, 2) := by decide +kernel
theorem dX8_readsOne_33 : decode cX8_readsOne 33 = .ok (.bipush 13, 2) := by decide +kernel
theorem dX8_readsOne_35 : decode cX8_readsOne 35 = .ok (.if_icmp .lt 10, 3) := by decide +kernel
theorem dX8_readsOne_38 : decode cX8_readsOne 38 = .ok (.iload 4, 2) := by decide +kernel
theorem dX8_readsOne_40 : decode cX8_readsOne 40 = .ok (.bipush 21, 2) := by decide +kernel
theorem dX8_readsOne_42 : decode cX8_readsOne 42 = .ok (.if_icmp .le 12, 3) := by decide +kernel
theorem dX8_readsOne_45 : decode cX8_readsOne 45 = .ok (.aload_n 0, 1) := by decide +kernel
theorem dX8_readsOne_46 : decode cX8_readsOne 46 = .ok (.getfield 23, 3) := by decide +kernel
theorem dX8_readsOne_49 : decode cX8_readsOne 49 = .ok (.iconst 1, 1) := by decide +kernel
theorem dX8_readsOne_50 : decode cX8_readsOne 50 = .ok (.invokevirtual 46, 3) := by decide +kernel
theorem dX8_readsOne_53 : decode cX8_readsOne 53 = .ok (.ireturn, 1) := by decide +kernel
theorem dX8_readsOne_54 : decode cX8_readsOne 54 = .ok (.aload_n 0, 1) := by decide +kernel
theorem dX8_readsOne_55 : decode cX8_readsOne 55 = .ok (.getfield 12, 3) := by decide +kernel
theorem dX8_readsOne_58 : decode cX8_readsOne 58 = .ok (.getfield 69, 3) := by decide +kernel
theorem dX8_readsOne_61 : decode cX8_readsOne 61 = .ok (.bipush 20, 2) := by decide +kernel
theorem dX8_readsOne_63 : decode cX8_readsOne 63 = .ok (.if_icmp .ge 9, 3) := by decide +kernel
theorem dX8_readsOne_66 : decode cX8_readsOne 66 = .ok (.iload_n 2, 1) := by decide +kernel
theorem dX8_readsOne_67 : decode cX8_readsOne 67 = .ok (.bipush 8, 2) := by decide +kernel
theorem dX8_readsOne_69 : decode cX8_readsOne 69 = .ok (.if_icmp .lt 12, 3) := by decide +kernel
theorem dX8_readsOne_72 : decode cX8_readsOne 72 = .ok (.aload_n 0, 1) := by decide +kernel
theorem dX8_readsOne_73 : decode cX8_readsOne 73 = .ok (.getfield 23, 3) := by decide +kernel
theorem dX8_readsOne_76 : decode cX8_readsOne 76 = .ok (.iconst 4, 1) := by decide +kernel
theorem dX8_readsOne_77 : decode cX8_readsOne 77 = .ok (.invokevirtual 46, 3) := by decide +kernel
theorem dX8_readsOne_80 : decode cX8_readsOne 80 = .ok (.ireturn, 1) := by decide +kernel
theorem dX8_readsOne_81 : decode cX8_readsOne 81 = .ok (.aload_n 0, 1) := by decide +kernel
theorem dX8_readsOne_82 : decode cX8_readsOne 82 = .ok (.getfield 12, 3) := by decide +kernel
theorem dX8_readsOne_85 : decode cX8_readsOne 85 = .ok (.dup, 1) := by decide +kernel
theorem dX8_readsOne_86 : decode cX8_readsOne 86 = .ok (.getfield 69, 3) := by decide +kernel
theorem dX8_readsOne_89 : decode cX8_readsOne 89 = .ok (.iconst 1, 1) := by decide +kernel
theorem dX8_readsOne_90 : decode cX8_readsOne 90 = .ok (.iadd, 1) := by decide +kernel
theorem dX8_readsOne_91 : decode cX8_readsOne 91 = .ok (.putfield 69, 3) := by decide +kernel
theorem dX8_readsOne_94 : decode cX8_readsOne 94 = .ok (.aload_n 0, 1) := by decide +kernel
theorem dX8_readsOne_95 : decode cX8_readsOne 95 = .ok (.getfield 23, 3) := by decide +kernel
theorem dX8_readsOne_98 : decode cX8_readsOne 98 = .ok (.invokevirtual 56, 3) := by decide +kernel
theorem dX8_readsOne_101 : decode cX8_readsOne 101 = .ok (.iload_n 3, 1) := by decide +kernel
theorem dX8_readsOne_102 : decode cX8_readsOne 102 = .ok (.ifCond .eq 32, 3) := by decide +kernel
theorem dX8_readsOne_105 : decode cX8_readsOne 105 = .ok (.aload_n 0, 1) := by decide +kernel
theorem dX8_readsOne_106 : decode cX8_readsOne 106 = .ok (.aload_n 1, 1) := by decide +kernel
theorem dX8_readsOne_107 : decode cX8_readsOne 107 = .ok (.iload_n 2, 1) := by decide +kernel
theorem dX8_readsOne_108 : decode cX8_readsOne 108 = .ok (.iconst 1, 1) := by decide +kernel
theorem dX8_readsOne_109 : decode cX8_readsOne 109 = .ok (.iadd, 1) := by decide +kernel
theorem dX8_readsOne_110 : decode cX8_readsOne 110 = .ok (.invokevirtual 34, 3) := by decide +kernel
theorem dX8_readsOne_113 : decode cX8_readsOne 113 = .ok (.ifCond .eq 19, 3) := by decide +kernel
theorem dX8_readsOne_116 : decode cX8_readsOne 116 = .ok (.aload_n 0, 1) := by decide +kernel
theorem dX8_readsOne_117 : decode cX8_readsOne 117 = .ok (.getfield 23, 3) := by decide +kernel
theorem dX8_readsOne_120 : decode cX8_readsOne 120 = .ok (.bipush 41, 2) := by decide +kernel
theorem dX8_readsOne_122 : decode cX8_readsOne 122 = .ok (.invokevirtual 72, 3) := by decide +kernel
theorem dX8_readsOne_125 : decode cX8_readsOne 125 = .ok (.ifCond .eq 7, 3) := by decide +kernel
theorem dX8_readsOne_128 : decode cX8_readsOne 128 = .ok (.iconst 1, 1) := by decide +kernel
theorem dX8_readsOne_129 : decode cX8_readsOne 129 = .ok (.goto 4, 3) := by decide +kernel
theorem dX8_readsOne_132 : decode cX8_readsOne 132 = .ok (.iconst 0, 1) := by decide +kernel
theorem dX8_readsOne_133 : decode cX8_readsOne 133 = .ok (.ireturn, 1) := by decide +kernel
theorem dX8_readsOne_134 : decode cX8_readsOne 134 = .ok (.iload 4, 2) := by decide +kernel
theorem dX8_readsOne_136 : decode cX8_readsOne 136 = .ok (.tableswitch 98 13 21 #[52, 98, 98, 98, 83, 83, 91, 91, 91], 52) := by decide +kernel
theorem dX8_readsOne_188 : decode cX8_readsOne 188 = .ok (.aload_n 0, 1) := by decide +kernel
theorem dX8_readsOne_189 : decode cX8_readsOne 189 = .ok (.aload_n 1, 1) := by decide +kernel
theorem dX8_readsOne_190 : decode cX8_readsOne 190 = .ok (.iload_n 2, 1) := by decide +kernel
theorem dX8_readsOne_191 : decode cX8_readsOne 191 = .ok (.iconst 1, 1) := by decide +kernel
theorem dX8_readsOne_192 : decode cX8_readsOne 192 = .ok (.iadd, 1) := by decide +kernel
theorem dX8_readsOne_193 : decode cX8_readsOne 193 = .ok (.invokevirtual 63, 3) := by decide +kernel
theorem dX8_readsOne_196 : decode cX8_readsOne 196 = .ok (.ifCond .eq 21, 3) := by decide +kernel
theorem dX8_readsOne_199 : decode cX8_readsOne 199 = .ok (.aload_n 0, 1) := by decide +kernel
theorem dX8_readsOne_200 : decode cX8_readsOne 200 = .ok (.getfield 12, 3) := by decide +kernel
theorem dX8_readsOne_203 : decode cX8_readsOne 203 = .ok (.bipush 13, 2) := by decide +kernel
theorem dX8_readsOne_205 : decode cX8_readsOne 205 = .ok (.iconst (-1), 1) := by decide +kernel
theorem dX8_readsOne_206 : decode cX8_readsOne 206 = .ok (.iconst (-1), 1) := by decide +kernel
theorem dX8_readsOne_207 : decode cX8_readsOne 207 = .ok (.invokevirtual 59, 3) := by decide +kernel
theorem dX8_readsOne_210 : decode cX8_readsOne 210 = .ok (.ifCond .eq 7, 3) := by decide +kernel
theorem dX8_readsOne_213 : decode cX8_readsOne 213 = .ok (.iconst 1, 1) := by decide +kernel
theorem dX8_readsOne_214 : decode cX8_readsOne 214 = .ok (.goto 4, 3) := by decide +kernel
theorem dX8_readsOne_217 : decode cX8_readsOne 217 = .ok (.iconst 0, 1) := by decide +kernel
theorem dX8_readsOne_218 : decode cX8_readsOne 218 = .ok (.ireturn, 1) := by decide +kernel
theorem dX8_readsOne_219 : decode cX8_readsOne 219 = .ok (.aload_n 0, 1) := by decide +kernel
theorem dX8_readsOne_220 : decode cX8_readsOne 220 = .ok (.aload_n 1, 1) := by decide +kernel
theorem dX8_readsOne_221 : decode cX8_readsOne 221 = .ok (.iload 4, 2) := by decide +kernel
theorem dX8_readsOne_223 : decode cX8_readsOne 223 = .ok (.invokevirtual 75, 3) := by decide +kernel
theorem dX8_readsOne_226 : decode cX8_readsOne 226 = .ok (.ireturn, 1) := by decide +kernel
theorem dX8_readsOne_227 : decode cX8_readsOne 227 = .ok (.aload_n 0, 1) := by decide +kernel
theorem dX8_readsOne_228 : decode cX8_readsOne 228 = .ok (.iload 4, 2) := by decide +kernel
theorem dX8_readsOne_230 : decode cX8_readsOne 230 = .ok (.invokevirtual 78, 3) := by decide +kernel
theorem dX8_readsOne_233 : decode cX8_readsOne 233 = .ok (.ireturn, 1) := by decide +kernel
theorem dX8_readsOne_234 : decode cX8_readsOne 234 = .ok (.aload_n 0, 1) := by decide +kernel
theorem dX8_readsOne_235 : decode cX8_readsOne 235 = .ok (.getfield 12, 3) := by decide +kernel
theorem dX8_readsOne_238 : decode cX8_readsOne 238 = .ok (.iload 4, 2) := by decide +kernel
theorem dX8_readsOne_240 : decode cX8_readsOne 240 = .ok (.iconst (-1), 1) := by decide +kernel
theorem dX8_readsOne_241 : decode cX8_readsOne 241 = .ok (.iconst (-1), 1) := by decide +kernel
theorem dX8_readsOne_242 : decode cX8_readsOne 242 = .ok (.invokevirtual 59, 3) := by decide +kernel
theorem dX8_readsOne_245 : decode cX8_readsOne 245 = .ok (.ireturn, 1) := by decide +kernel
theorem dX8_readsFunOf_0 : decode cX8_readsFunOf 0 = .ok (.aload_n 0, 1) := by decide +kernel
theorem dX8_readsFunOf_1 : decode cX8_readsFunOf 1 = .ok (.getfield 23, 3) := by decide +kernel
theorem dX8_readsFunOf_4 : decode cX8_readsFunOf 4 = .ok (.getfield 38, 3) := by decide +kernel
theorem dX8_readsFunOf_7 : decode cX8_readsFunOf 7 = .ok (.iconst 2, 1) := by decide +kernel
theorem dX8_readsFunOf_8 : decode cX8_readsFunOf 8 = .ok (.if_icmp .eq 12, 3) := by decide +kernel
theorem dX8_readsFunOf_11 : decode cX8_readsFunOf 11 = .ok (.aload_n 0, 1) := by decide +kernel
theorem dX8_readsFunOf_12 : decode cX8_readsFunOf 12 = .ok (.getfield 23, 3) := by decide +kernel
theorem dX8_readsFunOf_15 : decode cX8_readsFunOf 15 = .ok (.iconst 1, 1) := by decide +kernel
theorem dX8_readsFunOf_16 : decode cX8_readsFunOf 16 = .ok (.invokevirtual 46, 3) := by decide +kernel
theorem dX8_readsFunOf_19 : decode cX8_readsFunOf 19 = .ok (.ireturn, 1) := by decide +kernel
theorem dX8_readsFunOf_20 : decode cX8_readsFunOf 20 = .ok (.aload_n 1, 1) := by decide +kernel
theorem dX8_readsFunOf_21 : decode cX8_readsFunOf 21 = .ok (.aload_n 0, 1) := by decide +kernel
theorem dX8_readsFunOf_22 : decode cX8_readsFunOf 22 = .ok (.getfield 23, 3) := by decide +kernel
theorem dX8_readsFunOf_25 : decode cX8_readsFunOf 25 = .ok (.getfield 81, 3) := by decide +kernel
theorem dX8_readsFunOf_28 : decode cX8_readsFunOf 28 = .ok (.invokevirtual 85, 3) := by decide +kernel
theorem dX8_readsFunOf_31 : decode cX8_readsFunOf 31 = .ok (.istore_n 3, 1) := by decide +kernel
theorem dX8_readsFunOf_32 : decode cX8_readsFunOf 32 = .ok (.iload_n 3, 1) := by decide +kernel
theorem dX8_readsFunOf_33 : decode cX8_readsFunOf 33 = .ok (.iconst (-1), 1) := by decide +kernel
theorem dX8_readsFunOf_34 : decode cX8_readsFunOf 34 = .ok (.if_icmp .ne 12, 3) := by decide +kernel
theorem dX8_readsFunOf_37 : decode cX8_readsFunOf 37 = .ok (.aload_n 0, 1) := by decide +kernel
theorem dX8_readsFunOf_38 : decode cX8_readsFunOf 38 = .ok (.getfield 23, 3) := by decide +kernel
theorem dX8_readsFunOf_41 : decode cX8_readsFunOf 41 = .ok (.iconst 3, 1) := by decide +kernel
theorem dX8_readsFunOf_42 : decode cX8_readsFunOf 42 = .ok (.invokevirtual 46, 3) := by decide +kernel
theorem dX8_readsFunOf_45 : decode cX8_readsFunOf 45 = .ok (.ireturn, 1) := by decide +kernel
theorem dX8_readsFunOf_46 : decode cX8_readsFunOf 46 = .ok (.aload_n 0, 1) := by decide +kernel
theorem dX8_readsFunOf_47 : decode cX8_readsFunOf 47 = .ok (.getfield 23, 3) := by decide +kernel
theorem dX8_readsFunOf_50 : decode cX8_readsFunOf 50 = .ok (.invokevirtual 56, 3) := by decide +kernel
theorem dX8_readsFunOf_53 : decode cX8_readsFunOf 53 = .ok (.aload_n 0, 1) := by decide +kernel
theorem dX8_readsFunOf_54 : decode cX8_readsFunOf 54 = .ok (.getfield 12, 3) := by decide +kernel
theorem dX8_readsFunOf_57 : decode cX8_readsFunOf 57 = .ok (.iload_n 2, 1) := by decide +kernel
theorem dX8_readsFunOf_58 : decode cX8_readsFunOf 58 = .ok (.iconst (-1), 1) := by decide +kernel
theorem dX8_readsFunOf_59 : decode cX8_readsFunOf 59 = .ok (.iload_n 3, 1) := by decide +kernel
theorem dX8_readsFunOf_60 : decode cX8_readsFunOf 60 = .ok (.invokevirtual 59, 3) := by decide +kernel
theorem dX8_readsFunOf_63 : decode cX8_readsFunOf 63 = .ok (.ireturn, 1) := by decide +kernel
theorem dX8_readsMeasure_0 : decode cX8_readsMeasure 0 = .ok (.aload_n 0, 1) := by decide +kernel
theorem dX8_readsMeasure_1 : decode cX8_readsMeasure 1 = .ok (.getfield 23, 3) := by decide +kernel
theorem dX8_readsMeasure_4 : decode cX8_readsMeasure 4 = .ok (.getfield 66, 3) := by decide +kernel
theorem dX8_readsMeasure_7 : decode cX8_readsMeasure 7 = .ok (.istore_n 2, 1) := by decide +kernel
theorem dX8_readsMeasure_8 : decode cX8_readsMeasure 8 = .ok (.iload_n 2, 1) := by decide +kernel
theorem dX8_readsMeasure_9 : decode cX8_readsMeasure 9 = .ok (.bipush 60, 2) := by decide +kernel
theorem dX8_readsMeasure_11 : decode cX8_readsMeasure 11 = .ok (.if_icmp .eq 24, 3) := by decide +kernel
theorem dX8_readsMeasure_14 : decode cX8_readsMeasure 14 = .ok (.iload_n 2, 1) := by decide +kernel
theorem dX8_readsMeasure_15 : decode cX8_readsMeasure 15 = .ok (.bipush 61, 2) := by decide +kernel
theorem dX8_readsMeasure_17 : decode cX8_readsMeasure 17 = .ok (.if_icmp .eq 18, 3) := by decide +kernel
theorem dX8_readsMeasure_20 : decode cX8_readsMeasure 20 = .ok (.iload_n 2, 1) := by decide +kernel
theorem dX8_readsMeasure_21 : decode cX8_readsMeasure 21 = .ok (.bipush 62, 2) := by decide +kernel
theorem dX8_readsMeasure_23 : decode cX8_readsMeasure 23 = .ok (.if_icmp .eq 12, 3) := by decide +kernel
theorem dX8_readsMeasure_26 : decode cX8_readsMeasure 26 = .ok (.aload_n 0, 1) := by decide +kernel
theorem dX8_readsMeasure_27 : decode cX8_readsMeasure 27 = .ok (.getfield 23, 3) := by decide +kernel
theorem dX8_readsMeasure_30 : decode cX8_readsMeasure 30 = .ok (.iconst 1, 1) := by decide +kernel
theorem dX8_readsMeasure_31 : decode cX8_readsMeasure 31 = .ok (.invokevirtual 46, 3) := by decide +kernel
theorem dX8_readsMeasure_34 : decode cX8_readsMeasure 34 = .ok (.ireturn, 1) := by decide +kernel
theorem dX8_readsMeasure_35 : decode cX8_readsMeasure 35 = .ok (.aload_n 0, 1) := by decide +kernel
theorem dX8_readsMeasure_36 : decode cX8_readsMeasure 36 = .ok (.getfield 23, 3) := by decide +kernel
theorem dX8_readsMeasure_39 : decode cX8_readsMeasure 39 = .ok (.invokevirtual 56, 3) := by decide +kernel
theorem dX8_readsMeasure_42 : decode cX8_readsMeasure 42 = .ok (.aload_n 0, 1) := by decide +kernel
theorem dX8_readsMeasure_43 : decode cX8_readsMeasure 43 = .ok (.getfield 23, 3) := by decide +kernel
theorem dX8_readsMeasure_46 : decode cX8_readsMeasure 46 = .ok (.getfield 38, 3) := by decide +kernel
theorem dX8_readsMeasure_49 : decode cX8_readsMeasure 49 = .ok (.iconst 4, 1) := by decide +kernel
theorem dX8_readsMeasure_50 : decode cX8_readsMeasure 50 = .ok (.if_icmp .eq 12, 3) := by decide +kernel
theorem dX8_readsMeasure_53 : decode cX8_readsMeasure 53 = .ok (.aload_n 0, 1) := by decide +kernel
theorem dX8_readsMeasure_54 : decode cX8_readsMeasure 54 = .ok (.getfield 23, 3) := by decide +kernel
theorem dX8_readsMeasure_57 : decode cX8_readsMeasure 57 = .ok (.iconst 1, 1) := by decide +kernel
theorem dX8_readsMeasure_58 : decode cX8_readsMeasure 58 = .ok (.invokevirtual 46, 3) := by decide +kernel
theorem dX8_readsMeasure_61 : decode cX8_readsMeasure 61 = .ok (.ireturn, 1) := by decide +kernel
theorem dX8_readsMeasure_62 : decode cX8_readsMeasure 62 = .ok (.aload_n 0, 1) := by decide +kernel
theorem dX8_readsMeasure_63 : decode cX8_readsMeasure 63 = .ok (.getfield 23, 3) := by decide +kernel
theorem dX8_readsMeasure_66 : decode cX8_readsMeasure 66 = .ok (.getfield 91, 3) := by decide +kernel
theorem dX8_readsMeasure_69 : decode cX8_readsMeasure 69 = .ok (.istore_n 3, 1) := by decide +kernel
theorem dX8_readsMeasure_70 : decode cX8_readsMeasure 70 = .ok (.aload_n 0, 1) := by decide +kernel
theorem dX8_readsMeasure_71 : decode cX8_readsMeasure 71 = .ok (.getfield 23, 3) := by decide +kernel
theorem dX8_readsMeasure_74 : decode cX8_readsMeasure 74 = .ok (.invokevirtual 56, 3) := by decide +kernel
theorem dX8_readsMeasure_77 : decode cX8_readsMeasure 77 = .ok (.aload_n 0, 1) := by decide +kernel
theorem dX8_readsMeasure_78 : decode cX8_readsMeasure 78 = .ok (.getfield 12, 3) := by decide +kernel
theorem dX8_readsMeasure_81 : decode cX8_readsMeasure 81 = .ok (.iload_n 1, 1) := by decide +kernel
theorem dX8_readsMeasure_82 : decode cX8_readsMeasure 82 = .ok (.iload_n 2, 1) := by decide +kernel
theorem dX8_readsMeasure_83 : decode cX8_readsMeasure 83 = .ok (.iload_n 3, 1) := by decide +kernel
theorem dX8_readsMeasure_84 : decode cX8_readsMeasure 84 = .ok (.invokevirtual 59, 3) := by decide +kernel
theorem dX8_readsMeasure_87 : decode cX8_readsMeasure 87 = .ok (.ireturn, 1) := by decide +kernel
theorem dX9_init_0 : decode cX9_init 0 = .ok (.aload_n 0, 1) := by decide +kernel
theorem dX9_init_1 : decode cX9_init 1 = .ok (.invokespecial 3, 3) := by decide +kernel
theorem dX9_init_4 : decode cX9_init 4 = .ok (.aload_n 0, 1) := by decide +kernel
theorem dX9_init_5 : decode cX9_init 5 = .ok (.bipush 22, 2) := by decide +kernel
theorem dX9_init_7 : decode cX9_init 7 = .ok (.newarray .long, 2) := by decide +kernel
theorem dX9_init_9 : decode cX9_init 9 = .ok (.putfield 9, 3) := by decide +kernel
theorem dX9_init_12 : decode cX9_init 12 = .ok (.aload_n 0, 1) := by decide +kernel
theorem dX9_init_13 : decode cX9_init 13 = .ok (.iconst 0, 1) := by decide +kernel
theorem dX9_init_14 : decode cX9_init 14 = .ok (.putfield 15, 3) := by decide +kernel
theorem dX9_init_17 : decode cX9_init 17 = .ok (.aload_n 0, 1) := by decide +kernel
theorem dX9_init_18 : decode cX9_init 18 = .ok (.iconst 0, 1) := by decide +kernel
theorem dX9_init_19 : decode cX9_init 19 = .ok (.putfield 19, 3) := by decide +kernel
theorem dX9_init_22 : decode cX9_init 22 = .ok (.aload_n 0, 1) := by decide +kernel
theorem dX9_init_23 : decode cX9_init 23 = .ok (.iconst 0, 1) := by decide +kernel
theorem dX9_init_24 : decode cX9_init 24 = .ok (.putfield 22, 3) := by decide +kernel
theorem dX9_init_27 : decode cX9_init 27 = .ok (.aload_n 0, 1) := by decide +kernel
theorem dX9_init_28 : decode cX9_init 28 = .ok (.iconst (-1), 1) := by decide +kernel
theorem dX9_init_29 : decode cX9_init 29 = .ok (.putfield 25, 3) := by decide +kernel
theorem dX9_init_32 : decode cX9_init 32 = .ok (.aload_n 0, 1) := by decide +kernel
theorem dX9_init_33 : decode cX9_init 33 = .ok (.iconst 0, 1) := by decide +kernel
theorem dX9_init_34 : decode cX9_init 34 = .ok (.putfield 28, 3) := by decide +kernel
theorem dX9_init_37 : decode cX9_init 37 = .ok (.aload_n 0, 1) := by decide +kernel
theorem dX9_init_38 : decode cX9_init 38 = .ok (.iconst 0, 1) := by decide +kernel
theorem dX9_init_39 : decode cX9_init 39 = .ok (.putfield 31, 3) := by decide +kernel
theorem dX9_init_42 : decode cX9_init 42 = .ok (.aload_n 0, 1) := by decide +kernel
theorem dX9_init_43 : decode cX9_init 43 = .ok (.iconst (-1), 1) := by decide +kernel
theorem dX9_init_44 : decode cX9_init 44 = .ok (.putfield 34, 3) := by decide +kernel
theorem dX9_init_47 : decode cX9_init 47 = .ok (.aload_n 0, 1) := by decide +kernel
theorem dX9_init_48 : decode cX9_init 48 = .ok (.iconst (-1), 1) := by decide +kernel
theorem dX9_init_49 : decode cX9_init 49 = .ok (.putfield 37, 3) := by decide +kernel
theorem dX9_init_52 : decode cX9_init 52 = .ok (.aload_n 0, 1) := by decide +kernel
theorem dX9_init_53 : decode cX9_init 53 = .ok (.iconst (-1), 1) := by decide +kernel
theorem dX9_init_54 : decode cX9_init 54 = .ok (.putfield 40, 3) := by decide +kernel
theorem dX9_init_57 : decode cX9_init 57 = .ok (.aload_n 0, 1) := by decide +kernel
theorem dX9_init_58 : decode cX9_init 58 = .ok (.ldc2_w 43, 3) := by decide +kernel
theorem dX9_init_61 : decode cX9_init 61 = .ok (.putfield 45, 3) := by decide +kernel
theorem dX9_init_64 : decode cX9_init 64 = .ok (.aload_n 0, 1) := by decide +kernel
theorem dX9_init_65 : decode cX9_init 65 = .ok (.iconst 0, 1) := by decide +kernel
theorem dX9_init_66 : decode cX9_init 66 = .ok (.putfield 49, 3) := by decide +kernel
theorem dX9_init_69 : decode cX9_init 69 = .ok (.aload_n 0, 1) := by decide +kernel
theorem dX9_init_70 : decode cX9_init 70 = .ok (.iconst 0, 1) := by decide +kernel
theorem dX9_init_71 : decode cX9_init 71 = .ok (.putfield 52, 3) := by decide +kernel
theorem dX9_init_74 : decode cX9_init 74 = .ok (.aload_n 0, 1) := by decide +kernel
theorem dX9_init_75 : decode cX9_init 75 = .ok (.iload_n 1, 1) := by decide +kernel
theorem dX9_init_76 : decode cX9_init 76 = .ok (.iconst 0, 1) := by decide +kernel
theorem dX9_init_77 : decode cX9_init 77 = .ok (.invokestatic 55, 3) := by decide +kernel
theorem dX9_init_80 : decode cX9_init 80 = .ok (.putfield 61, 3) := by decide +kernel
theorem dX9_init_83 : decode cX9_init 83 = .ok (.aload_n 0, 1) := by decide +kernel
theorem dX9_init_84 : decode cX9_init 84 = .ok (.aload_n 0, 1) := by decide +kernel
theorem dX9_init_85 : decode cX9_init 85 = .ok (.getfield 61, 3) := by decide +kernel
theorem dX9_init_88 : decode cX9_init 88 = .ok (.iconst 1, 1) := by decide +kernel
theorem dX9_init_89 : decode cX9_init 89 = .ok (.iadd, 1) := by decide +kernel
theorem dX9_init_90 : decode cX9_init 90 = .ok (.newarray .int, 2) := by decide +kernel
theorem dX9_init_92 : decode cX9_init 92 = .ok (.putfield 64, 3) := by decide +kernel
theorem dX9_init_95 : decode cX9_init 95 = .ok (.aload_n 0, 1) := by decide +kernel
theorem dX9_init_96 : decode cX9_init 96 = .ok (.aload_n 0, 1) := by decide +kernel
theorem dX9_init_97 : decode cX9_init 97 = .ok (.getfield 61, 3) := by decide +kernel
theorem dX9_init_100 : decode cX9_init 100 = .ok (.iconst 1, 1) := by decide +kernel
theorem dX9_init_101 : decode cX9_init 101 = .ok (.iadd, 1) := by decide +kernel
theorem dX9_init_102 : decode cX9_init 102 = .ok (.newarray .int, 2) := by decide +kernel
theorem dX9_init_104 : decode cX9_init 104 = .ok (.putfield 68, 3) := by decide +kernel
theorem dX9_init_107 : decode cX9_init 107 = .ok (.aload_n 0, 1) := by decide +kernel
theorem dX9_init_108 : decode cX9_init 108 = .ok (.aload_n 0, 1) := by decide +kernel
theorem dX9_init_109 : decode cX9_init 109 = .ok (.getfield 61, 3) := by decide +kernel
theorem dX9_init_112 : decode cX9_init 112 = .ok (.iconst 1, 1) := by decide +kernel
theorem dX9_init_113 : decode cX9_init 113 = .ok (.iadd, 1) := by decide +kernel
theorem dX9_init_114 : decode cX9_init 114 = .ok (.newarray .long, 2) := by decide +kernel
theorem dX9_init_116 : decode cX9_init 116 = .ok (.putfield 71, 3) := by decide +kernel
theorem dX9_init_119 : decode cX9_init 119 = .ok (.iconst 0, 1) := by decide +kernel
theorem dX9_init_120 : decode cX9_init 120 = .ok (.istore_n 2, 1) := by decide +kernel
theorem dX9_init_121 : decode cX9_init 121 = .ok (.lconst 0, 1) := by decide +kernel
theorem dX9_init_122 : decode cX9_init 122 = .ok (.lstore_n 3, 1) := by decide +kernel
theorem dX9_init_123 : decode cX9_init 123 = .ok (.iconst 0, 1) := by decide +kernel
theorem dX9_init_124 : decode cX9_init 124 = .ok (.istore 5, 2) := by decide +kernel
theorem dX9_init_126 : decode cX9_init 126 = .ok (.iload 5, 2) := by decide +kernel
theorem dX9_init_128 : decode cX9_init 128 = .ok (.ldc 74, 2) := by decide +kernel
theorem dX9_init_130 : decode cX9_init 130 = .ok (.invokevirtual 76, 3) := by decide +kernel
theorem dX9_init_133 : decode cX9_init 133 = .ok (.if_icmp .ge 54, 3) := by decide +kernel
theorem dX9_init_136 : decode cX9_init 136 = .ok (.iload_n 2, 1) := by decide +kernel
theorem dX9_init_137 : decode cX9_init 137 = .ok (.bipush 22, 2) := by decide +kernel
theorem dX9_init_139 : decode cX9_init 139 = .ok (.if_icmp .ge 48, 3) := by decide +kernel
theorem dX9_init_142 : decode cX9_init 142 = .ok (.ldc 74, 2) := by decide +kernel
theorem dX9_init_144 : decode cX9_init 144 = .ok (.iload 5, 2) := by decide +kernel
theorem dX9_init_146 : decode cX9_init 146 = .ok (.invokevirtual 81, 3) := by decide +kernel
theorem dX9_init_149 : decode cX9_init 149 = .ok (.bipush 32, 2) := by decide +kernel
theorem dX9_init_151 : decode cX9_init 151 = .ok (.if_icmp .ne 18, 3) := by decide +kernel
theorem dX9_init_154 : decode cX9_init 154 = .ok (.aload_n 0, 1) := by decide +kernel
theorem dX9_init_155 : decode cX9_init 155 = .ok (.getfield 9, 3) := by decide +kernel
theorem dX9_init_158 : decode cX9_init 158 = .ok (.iload_n 2, 1) := by decide +kernel
theorem dX9_init_159 : decode cX9_init 159 = .ok (.lload_n 3, 1) := by decide +kernel
theorem dX9_init_160 : decode cX9_init 160 = .ok (.lastore, 1) := by decide +kernel
theorem dX9_init_161 : decode cX9_init 161 = .ok (.iinc 2 1, 3) := by decide +kernel
theorem dX9_init_164 : decode cX9_init 164 = .ok (.lconst 0, 1) := by decide +kernel
theorem dX9_init_165 : decode cX9_init 165 = .ok (.lstore_n 3, 1) := by decide +kernel
theorem dX9_init_166 : decode cX9_init 166 = .ok (.goto 15, 3) := by decide +kernel
theorem dX9_init_169 : decode cX9_init 169 = .ok (.lload_n 3, 1) := by decide +kernel
theorem dX9_init_170 : decode cX9_init 170 = .ok (.ldc 74, 2) := by decide +kernel
theorem dX9_init_172 : decode cX9_init 172 = .ok (.iload 5, 2) := by decide +kernel
theorem dX9_init_174 : decode cX9_init 174 = .ok (.invokevirtual 81, 3) := by decide +kernel
theorem dX9_init_177 : decode cX9_init 177 = .ok (.invokestatic 85, 3) := by decide +kernel
theorem dX9_init_180 : decode cX9_init 180 = .ok (.lstore_n 3, 1) := by decide +kernel
theorem dX9_init_181 : decode cX9_init 181 = .ok (.iinc 5 1, 3) := by decide +kernel
theorem dX9_init_184 : decode cX9_init 184 = .ok (.goto (-58), 3) := by decide +kernel
theorem dX9_init_187 : decode cX9_init 187 = .ok (.return_, 1) := by decide +kernel
theorem dX9_open_0 : decode cX9_open 0 = .ok (.aload_n 0, 1) := by decide +kernel
theorem dX9_open_1 : decode cX9_open 1 = .ok (.iload_n 2, 1) := by decide +kernel
theorem dX9_open_2 : decode cX9_open 2 = .ok (.aload_n 1, 1) := by decide +kernel
theorem dX9_open_3 : decode cX9_open 3 = .ok (.arraylength, 1) := by decide +kernel
theorem dX9_open_4 : decode cX9_open 4 = .ok (.invokestatic 89, 3) := by decide +kernel
theorem dX9_open_7 : decode cX9_open 7 = .ok (.putfield 15, 3) := by decide +kernel
theorem dX9_open_10 : decode cX9_open 10 = .ok (.aload_n 0, 1) := by decide +kernel
theorem dX9_open_11 : decode cX9_open 11 = .ok (.getfield 15, 3) := by decide +kernel
theorem dX9_open_14 : decode cX9_open 14 = .ok (.aload_n 0, 1) := by decide +kernel
theorem dX9_open_15 : decode cX9_open 15 = .ok (.getfield 61, 3) := by decide +kernel
theorem dX9_open_18 : decode cX9_open 18 = .ok (.invokestatic 89, 3) := by decide +kernel
theorem dX9_open_21 : decode cX9_open 21 = .ok (.istore_n 3, 1) := by decide +kernel
theorem dX9_open_22 : decode cX9_open 22 = .ok (.aload_n 0, 1) := by decide +kernel
theorem dX9_open_23 : decode cX9_open 23 = .ok (.iconst 0, 1) := by decide +kernel
theorem dX9_open_24 : decode cX9_open 24 = .ok (.putfield 49, 3) := by decide +kernel
theorem dX9_open_27 : decode cX9_open 27 = .ok (.aload_n 0, 1) := by decide +kernel
theorem dX9_open_28 : decode cX9_open 28 = .ok (.iconst 0, 1) := by decide +kernel
theorem dX9_open_29 : decode cX9_open 29 = .ok (.putfield 52, 3) := by decide +kernel
theorem dX9_open_32 : decode cX9_open 32 = .ok (.aload_n 0, 1) := by decide +kernel
theorem dX9_open_33 : decode cX9_open 33 = .ok (.iconst 0, 1) := by decide +kernel
theorem dX9_open_34 : decode cX9_open 34 = .ok (.putfield 22, 3) := by decide +kernel
theorem dX9_open_37 : decode cX9_open 37 = .ok (.aload_n 0, 1) := by decide +kernel
theorem dX9_open_38 : decode cX9_open 38 = .ok (.iconst 0, 1) := by decide +kernel
theorem dX9_open_39 : decode cX9_open 39 = .ok (.putfield 19, 3) := by decide +kernel
theorem dX9_open_42 : decode cX9_open 42 = .ok (.iconst 0, 1) := by decide +kernel
theorem dX9_open_43 : decode cX9_open 43 = .ok (.istore 4, 2) := by decide +kernel
theorem dX9_open_45 : decode cX9_open 45 = .ok (.iload 4, 2) := by decide +kernel
theorem dX9_open_47 : decode cX9_open 47 = .ok (.iload_n 3, 1) := by decide +kernel
theorem dX9_open_48 : decode cX9_open 48 = .ok (.if_icmp .ge 22, 3) := by decide +kernel
theorem dX9_open_51 : decode cX9_open 51 = .ok (.aload_n 0, 1) := by decide +kernel
theorem dX9_open_52 : decode cX9_open 52 = .ok (.getfield 19, 3) := by decide +kernel
theorem dX9_open_55 : decode cX9_open 55 = .ok (.iload_n 3, 1) := by decide +kernel
theorem dX9_open_56 : decode cX9_open 56 = .ok (.if_icmp .ge 14, 3) := by decide +kernel
theorem dX9_open_59 : decode cX9_open 59 = .ok (.aload_n 0, 1) := by decide +kernel
theorem dX9_open_60 : decode cX9_open 60 = .ok (.aload_n 1, 1) := by decide +kernel
theorem dX9_open_61 : decode cX9_open 61 = .ok (.invokevirtual 92, 3) := by decide +kernel
theorem dX9_open_64 : decode cX9_open 64 = .ok (.iinc 4 1, 3) := by decide +kernel
theorem dX9_open_67 : decode cX9_open 67 = .ok (.goto (-22), 3) := by decide +kernel
theorem dX9_open_70 : decode cX9_open 70 = .ok (.aload_n 0, 1) := by decide +kernel
theorem dX9_open_71 : decode cX9_open 71 = .ok (.aload_n 0, 1) := by decide +kernel
theorem dX9_open_72 : decode cX9_open 72 = .ok (.getfield 15, 3) := by decide +kernel
theorem dX9_open_75 : decode cX9_open 75 = .ok (.iload_n 3, 1) := by decide +kernel
theorem dX9_open_76 : decode cX9_open 76 = .ok (.if_icmp .le 7, 3) := by decide +kernel
theorem dX9_open_79 : decode cX9_open 79 = .ok (.iconst 1, 1) := by decide +kernel
theorem dX9_open_80 : decode cX9_open 80 = .ok (.goto 4, 3) := by decide +kernel
theorem dX9_open_83 : decode cX9_open 83 = .ok (.iconst 0, 1) := by decide +kernel
theorem dX9_open_84 : decode cX9_open 84 = .ok (.iload_n 3, 1) := by decide +kernel
theorem dX9_open_85 : decode cX9_open 85 = .ok (.ldc2_w 43, 3) := by decide +kernel
theorem dX9_open_88 : decode cX9_open 88 = .ok (.invokevirtual 96, 3) := by decide +kernel
theorem dX9_open_91 : decode cX9_open 91 = .ok (.aload_n 0, 1) := by decide +kernel
theorem dX9_open_92 : decode cX9_open 92 = .ok (.iconst (-1), 1) := by decide +kernel
theorem dX9_open_93 : decode cX9_open 93 = .ok (.putfield 25, 3) := by decide +kernel
theorem dX9_open_96 : decode cX9_open 96 = .ok (.aload_n 0, 1) := by decide +kernel
theorem dX9_open_97 : decode cX9_open 97 = .ok (.invokevirtual 100, 3) := by decide +kernel
theorem dX9_open_100 : decode cX9_open 100 = .ok (.return_, 1) := by decide +kernel
theorem dX9_readPiece_0 : decode cX9_readPiece 0 = .ok (.aload_n 1, 1) := by decide +kernel
theorem dX9_readPiece_1 : decode cX9_readPiece 1 = .ok (.aload_n 0, 1) := by decide +kernel
theorem dX9_readPiece_2 : decode cX9_readPiece 2 = .ok (.getfield 19, 3) := by decide +kernel
theorem dX9_readPiece_5 : decode cX9_readPiece 5 = .ok (.baload, 1) := by decide +kernel
theorem dX9_readPiece_6 : decode cX9_readPiece 6 = .ok (.istore_n 2, 1) := by decide +kernel
theorem dX9_readPiece_7 : decode cX9_readPiece 7 = .ok (.iload_n 2, 1) := by decide +kernel
theorem dX9_readPiece_8 : decode cX9_readPiece 8 = .ok (.invokestatic 103, 3) := by decide +kernel
theorem dX9_readPiece_11 : decode cX9_readPiece 11 = .ok (.ifCond .ne 10, 3) := by decide +kernel
theorem dX9_readPiece_14 : decode cX9_readPiece 14 = .ok (.iload_n 2, 1) := by decide +kernel
theorem dX9_readPiece_15 : decode cX9_readPiece 15 = .ok (.invokestatic 107, 3) := by decide +kernel
theorem dX9_readPiece_18 : decode cX9_readPiece 18 = .ok (.ifCond .eq 9, 3) := by decide +kernel
theorem dX9_readPiece_21 : decode cX9_readPiece 21 = .ok (.aload_n 0, 1) := by decide +kernel
theorem dX9_readPiece_22 : decode cX9_readPiece 22 = .ok (.aload_n 1, 1) := by decide +kernel
theorem dX9_readPiece_23 : decode cX9_readPiece 23 = .ok (.invokevirtual 110, 3) := by decide +kernel
theorem dX9_readPiece_26 : decode cX9_readPiece 26 = .ok (.return_, 1) := by decide +kernel
theorem dX9_readPiece_27 : decode cX9_readPiece 27 = .ok (.iload_n 2, 1) := by decide +kernel
theorem dX9_readPiece_28 : decode cX9_readPiece 28 = .ok (.bipush 32, 2) := by decide +kernel
theorem dX9_readPiece_30 : decode cX9_readPiece 30 = .ok (.if_icmp .eq 70, 3) := by decide +kernel
theorem dX9_readPiece_33 : decode cX9_readPiece 33 = .ok (.iload_n 2, 1) := by decide +kernel
theorem dX9_readPiece_34 : decode cX9_readPiece 34 = .ok (.bipush 10, 2) := by decide +kernel
theorem dX9_readPiece_36 : decode cX9_readPiece 36 = .ok (.if_icmp .eq 64, 3) := by decide +kernel
theorem dX9_readPiece_39 : decode cX9_readPiece 39 = .ok (.iload_n 2, 1) := by decide +kernel
theorem dX9_readPiece_40 : decode cX9_readPiece 40 = .ok (.bipush 59, 2) := by decide +kernel
theorem dX9_readPiece_42 : decode cX9_readPiece 42 = .ok (.if_icmp .eq 33, 3) := by decide +kernel
theorem dX9_readPiece_45 : decode cX9_readPiece 45 = .ok (.iload_n 2, 1) := by decide +kernel
theorem dX9_readPiece_46 : decode cX9_readPiece 46 = .ok (.bipush 60, 2) := by decide +kernel
theorem dX9_readPiece_48 : decode cX9_readPiece 48 = .ok (.if_icmp .eq 27, 3) := by decide +kernel
theorem dX9_readPiece_51 : decode cX9_readPiece 51 = .ok (.iload_n 2, 1) := by decide +kernel
theorem dX9_readPiece_52 : decode cX9_readPiece 52 = .ok (.bipush 61, 2) := by decide +kernel
theorem dX9_readPiece_54 : decode cX9_readPiece 54 = .ok (.if_icmp .eq 21, 3) := by decide +kernel
theorem dX9_readPiece_57 : decode cX9_readPiece 57 = .ok (.iload_n 2, 1) := by decide +kernel
theorem dX9_readPiece_58 : decode cX9_readPiece 58 = .ok (.bipush 62, 2) := by decide +kernel
theorem dX9_readPiece_60 : decode cX9_readPiece 60 = .ok (.if_icmp .eq 15, 3) := by decide +kernel
theorem dX9_readPiece_63 : decode cX9_readPiece 63 = .ok (.iload_n 2, 1) := by decide +kernel
theorem dX9_readPiece_64 : decode cX9_readPiece 64 = .ok (.bipush 40, 2) := by decide +kernel
theorem dX9_readPiece_66 : decode cX9_readPiece 66 = .ok (.if_icmp .eq 9, 3) := by decide +kernel
theorem dX9_readPiece_69 : decode cX9_readPiece 69 = .ok (.iload_n 2, 1) := by decide +kernel
theorem dX9_readPiece_70 : decode cX9_readPiece 70 = .ok (.bipush 41, 2) := by decide +kernel
theorem dX9_readPiece_72 : decode cX9_readPiece 72 = .ok (.if_icmp .ne 7, 3) := by decide +kernel
theorem dX9_readPiece_75 : decode cX9_readPiece 75 = .ok (.iconst 1, 1) := by decide +kernel
theorem dX9_readPiece_76 : decode cX9_readPiece 76 = .ok (.goto 4, 3) := by decide +kernel
theorem dX9_readPiece_79 : decode cX9_readPiece 79 = .ok (.iconst 0, 1) := by decide +kernel
theorem dX9_readPiece_80 : decode cX9_readPiece 80 = .ok (.istore_n 3, 1) := by decide +kernel
theorem dX9_readPiece_81 : decode cX9_readPiece 81 = .ok (.aload_n 0, 1) := by decide +kernel
theorem dX9_readPiece_82 : decode cX9_readPiece 82 = .ok (.iload_n 3, 1) := by decide +kernel
theorem dX9_readPiece_83 : decode cX9_readPiece 83 = .ok (.ifCond .eq 7, 3) := by decide +kernel
theorem dX9_readPiece_86 : decode cX9_readPiece 86 = .ok (.iconst 5, 1) := by decide +kernel
theorem dX9_readPiece_87 : decode cX9_readPiece 87 = .ok (.goto 4, 3) := by decide +kernel
theorem dX9_readPiece_90 : decode cX9_readPiece 90 = .ok (.iconst 1, 1) := by decide +kernel
theorem dX9_readPiece_91 : decode cX9_readPiece 91 = .ok (.aload_n 0, 1) := by decide +kernel
theorem dX9_readPiece_92 : decode cX9_readPiece 92 = .ok (.getfield 19, 3) := by decide +kernel
theorem dX9_readPiece_95 : decode cX9_readPiece 95 = .ok (.iload_n 2, 1) := by decide +kernel
theorem dX9_readPiece_96 : decode cX9_readPiece 96 = .ok (.i2l, 1) := by decide +kernel
theorem dX9_readPiece_97 : decode cX9_readPiece 97 = .ok (.invokevirtual 96, 3) := by decide +kernel
theorem dX9_readPiece_100 : decode cX9_readPiece 100 = .ok (.aload_n 0, 1) := by decide +kernel
theorem dX9_readPiece_101 : decode cX9_readPiece 101 = .ok (.dup, 1) := by decide +kernel
theorem dX9_readPiece_102 : decode cX9_readPiece 102 = .ok (.getfield 19, 3) := by decide +kernel
theorem dX9_readPiece_105 : decode cX9_readPiece 105 = .ok (.iconst 1, 1) := by decide +kernel
theorem dX9_readPiece_106 : decode cX9_readPiece 106 = .ok (.iadd, 1) := by decide +kernel
theorem dX9_readPiece_107 : decode cX9_readPiece 107 = .ok (.putfield 19, 3) := by decide +kernel
theorem dX9_readPiece_110 : decode cX9_readPiece 110 = .ok (.return_, 1) := by decide +kernel
theorem dX9_readLettersAndDigits_0 : decode cX9_readLettersAndDigits 0 = .ok (.aload_n 0, 1) := by decide +kernel
theorem dX9_readLettersAndDigits_1 : decode cX9_readLettersAndDigits 1 = .ok (.getfield 19, 3) := by decide +kernel
theorem dX9_readLettersAndDigits_4 : decode cX9_readLettersAndDigits 4 = .ok (.istore_n 2, 1) := by decide +kernel
theorem dX9_readLettersAndDigits_5 : decode cX9_readLettersAndDigits 5 = .ok (.iconst 0, 1) := by decide +kernel
theorem dX9_readLettersAndDigits_6 : decode cX9_readLettersAndDigits 6 = .ok (.istore_n 3, 1) := by decide +kernel
theorem dX9_readLettersAndDigits_7 : decode cX9_readLettersAndDigits 7 = .ok (.lconst 0, 1) := by decide +kernel
theorem dX9_readLettersAndDigits_8 : decode cX9_readLettersAndDigits 8 = .ok (.lstore 4, 2) := by decide +kernel
theorem dX9_readLettersAndDigits_10 : decode cX9_readLettersAndDigits 10 = .ok (.iconst 0, 1) := by decide +kernel
theorem dX9_readLettersAndDigits_11 : decode cX9_readLettersAndDigits 11 = .ok (.istore 6, 2) := by decide +kernel
theorem dX9_readLettersAndDigits_13 : decode cX9_readLettersAndDigits 13 = .ok (.aload_n 0, 1) := by decide +kernel
theorem dX9_readLettersAndDigits_14 : decode cX9_readLettersAndDigits 14 = .ok (.getfield 19, 3) := by decide +kernel
theorem dX9_readLettersAndDigits_17 : decode cX9_readLettersAndDigits 17 = .ok (.aload_n 0, 1) := by decide +kernel
theorem dX9_readLettersAndDigits_18 : decode cX9_readLettersAndDigits 18 = .ok (.getfield 15, 3) := by decide +kernel
theorem dX9_readLettersAndDigits_21 : decode cX9_readLettersAndDigits 21 = .ok (.if_icmp .ge 88, 3) := by decide +kernel
theorem dX9_readLettersAndDigits_24 : decode cX9_readLettersAndDigits 24 = .ok (.aload_n 1, 1) := by decide +kernel
theorem dX9_readLettersAndDigits_25 : decode cX9_readLettersAndDigits 25 = .ok (.aload_n 0, 1) := by decide +kernel
theorem dX9_readLettersAndDigits_26 : decode cX9_readLettersAndDigits 26 = .ok (.getfield 19, 3) := by decide +kernel
theorem dX9_readLettersAndDigits_29 : decode cX9_readLettersAndDigits 29 = .ok (.baload, 1) := by decide +kernel
theorem dX9_readLettersAndDigits_30 : decode cX9_readLettersAndDigits 30 = .ok (.invokestatic 103, 3) := by decide +kernel
theorem dX9_readLettersAndDigits_33 : decode cX9_readLettersAndDigits 33 = .ok (.ifCond .ne 15, 3) := by decide +kernel
theorem dX9_readLettersAndDigits_36 : decode cX9_readLettersAndDigits 36 = .ok (.aload_n 1, 1) := by decide +kernel
theorem dX9_readLettersAndDigits_37 : decode cX9_readLettersAndDigits 37 = .ok (.aload_n 0, 1) := by decide +kernel
theorem dX9_readLettersAndDigits_38 : decode cX9_readLettersAndDigits 38 = .ok (.getfield 19, 3) := by decide +kernel
theorem dX9_readLettersAndDigits_41 : decode cX9_readLettersAndDigits 41 = .ok (.baload, 1) := by decide +kernel
theorem dX9_readLettersAndDigits_42 : decode cX9_readLettersAndDigits 42 = .ok (.invokestatic 107, 3) := by decide +kernel
theorem dX9_readLettersAndDigits_45 : decode cX9_readLettersAndDigits 45 = .ok (.ifCond .eq 64, 3) := by decide +kernel
theorem dX9_readLettersAndDigits_48 : decode cX9_readLettersAndDigits 48 = .ok (.aload_n 1, 1) := by decide +kernel
theorem dX9_readLettersAndDigits_49 : decode cX9_readLettersAndDigits 49 = .ok (.aload_n 0, 1) := by decide +kernel
theorem dX9_readLettersAndDigits_50 : decode cX9_readLettersAndDigits 50 = .ok (.getfield 19, 3) := by decide +kernel
theorem dX9_readLettersAndDigits_53 : decode cX9_readLettersAndDigits 53 = .ok (.baload, 1) := by decide +kernel
theorem dX9_readLettersAndDigits_54 : decode cX9_readLettersAndDigits 54 = .ok (.invokestatic 107, 3) := by decide +kernel
theorem dX9_readLettersAndDigits_57 : decode cX9_readLettersAndDigits 57 = .ok (.ifCond .eq 26, 3) := by decide +kernel
theorem dX9_readLettersAndDigits_60 : decode cX9_readLettersAndDigits 60 = .ok (.iinc 3 1, 3) := by decide +kernel
theorem dX9_readLettersAndDigits_63 : decode cX9_readLettersAndDigits 63 = .ok (.iload 6, 2) := by decide +kernel
theorem dX9_readLettersAndDigits_65 : decode cX9_readLettersAndDigits 65 = .ok (.bipush 10, 2) := by decide +kernel
theorem dX9_readLettersAndDigits_67 : decode cX9_readLettersAndDigits 67 = .ok (.imul, 1) := by decide +kernel
theorem dX9_readLettersAndDigits_68 : decode cX9_readLettersAndDigits 68 = .ok (.aload_n 1, 1) := by decide +kernel
theorem dX9_readLettersAndDigits_69 : decode cX9_readLettersAndDigits 69 = .ok (.aload_n 0, 1) := by decide +kernel
theorem dX9_readLettersAndDigits_70 : decode cX9_readLettersAndDigits 70 = .ok (.getfield 19, 3) := by decide +kernel
theorem dX9_readLettersAndDigits_73 : decode cX9_readLettersAndDigits 73 = .ok (.baload, 1) := by decide +kernel
theorem dX9_readLettersAndDigits_74 : decode cX9_readLettersAndDigits 74 = .ok (.bipush 48, 2) := by decide +kernel
theorem dX9_readLettersAndDigits_76 : decode cX9_readLettersAndDigits 76 = .ok (.isub, 1) := by decide +kernel
theorem dX9_readLettersAndDigits_77 : decode cX9_readLettersAndDigits 77 = .ok (.iadd, 1) := by decide +kernel
theorem dX9_readLettersAndDigits_78 : decode cX9_readLettersAndDigits 78 = .ok (.istore 6, 2) := by decide +kernel
theorem dX9_readLettersAndDigits_80 : decode cX9_readLettersAndDigits 80 = .ok (.goto 16, 3) := by decide +kernel
theorem dX9_readLettersAndDigits_83 : decode cX9_readLettersAndDigits 83 = .ok (.lload 4, 2) := by decide +kernel
theorem dX9_readLettersAndDigits_85 : decode cX9_readLettersAndDigits 85 = .ok (.aload_n 1, 1) := by decide +kernel
theorem dX9_readLettersAndDigits_86 : decode cX9_readLettersAndDigits 86 = .ok (.aload_n 0, 1) := by decide +kernel
theorem dX9_readLettersAndDigits_87 : decode cX9_readLettersAndDigits 87 = .ok (.getfield 19, 3) := by decide +kernel
theorem dX9_readLettersAndDigits_90 : decode cX9_readLettersAndDigits 90 = .ok (.baload, 1) := by decide +kernel
theorem dX9_readLettersAndDigits_91 : decode cX9_readLettersAndDigits 91 = .ok (.invokestatic 85, 3) := by decide +kernel
theorem dX9_readLettersAndDigits_94 : decode cX9_readLettersAndDigits 94 = .ok (.lstore 4, 2) := by decide +kernel
theorem dX9_readLettersAndDigits_96 : decode cX9_readLettersAndDigits 96 = .ok (.aload_n 0, 1) := by decide +kernel
theorem dX9_readLettersAndDigits_97 : decode cX9_readLettersAndDigits 97 = .ok (.dup, 1) := by decide +kernel
theorem dX9_readLettersAndDigits_98 : decode cX9_readLettersAndDigits 98 = .ok (.getfield 19, 3) := by decide +kernel
theorem dX9_readLettersAndDigits_101 : decode cX9_readLettersAndDigits 101 = .ok (.iconst 1, 1) := by decide +kernel
theorem dX9_readLettersAndDigits_102 : decode cX9_readLettersAndDigits 102 = .ok (.iadd, 1) := by decide +kernel
theorem dX9_readLettersAndDigits_103 : decode cX9_readLettersAndDigits 103 = .ok (.putfield 19, 3) := by decide +kernel
theorem dX9_readLettersAndDigits_106 : decode cX9_readLettersAndDigits 106 = .ok (.goto (-93), 3) := by decide +kernel
theorem dX9_readLettersAndDigits_109 : decode cX9_readLettersAndDigits 109 = .ok (.iload_n 3, 1) := by decide +kernel
theorem dX9_readLettersAndDigits_110 : decode cX9_readLettersAndDigits 110 = .ok (.ifCond .ne 55, 3) := by decide +kernel
theorem dX9_readLettersAndDigits_113 : decode cX9_readLettersAndDigits 113 = .ok (.aload_n 0, 1) := by decide +kernel
theorem dX9_readLettersAndDigits_114 : decode cX9_readLettersAndDigits 114 = .ok (.getfield 19, 3) := by decide +kernel
theorem dX9_readLettersAndDigits_117 : decode cX9_readLettersAndDigits 117 = .ok (.iload_n 2, 1) := by decide +kernel
theorem dX9_readLettersAndDigits_118 : decode cX9_readLettersAndDigits 118 = .ok (.isub, 1) := by decide +kernel
theorem dX9_readLettersAndDigits_119 : decode cX9_readLettersAndDigits 119 = .ok (.bipush 7, 2) := by decide +kernel
theorem dX9_readLettersAndDigits_121 : decode cX9_readLettersAndDigits 121 = .ok (.if_icmp .gt 44, 3) := by decide +kernel
theorem dX9_readLettersAndDigits_124 : decode cX9_readLettersAndDigits 124 = .ok (.aload_n 0, 1) := by decide +kernel
theorem dX9_readLettersAndDigits_125 : decode cX9_readLettersAndDigits 125 = .ok (.lload 4, 2) := by decide +kernel
theorem dX9_readLettersAndDigits_127 : decode cX9_readLettersAndDigits 127 = .ok (.invokevirtual 113, 3) := by decide +kernel
theorem dX9_readLettersAndDigits_130 : decode cX9_readLettersAndDigits 130 = .ok (.istore 7, 2) := by decide +kernel
theorem dX9_readLettersAndDigits_132 : decode cX9_readLettersAndDigits 132 = .ok (.aload_n 0, 1) := by decide +kernel
theorem dX9_readLettersAndDigits_133 : decode cX9_readLettersAndDigits 133 = .ok (.iload 7, 2) := by decide +kernel
theorem dX9_readLettersAndDigits_135 : decode cX9_readLettersAndDigits 135 = .ok (.iconst (-1), 1) := by decide +kernel
theorem dX9_readLettersAndDigits_136 : decode cX9_readLettersAndDigits 136 = .ok (.if_icmp .ne 7, 3) := by decide +kernel
theorem dX9_readLettersAndDigits_139 : decode cX9_readLettersAndDigits 139 = .ok (.iconst 2, 1) := by decide +kernel
theorem dX9_readLettersAndDigits_140 : decode cX9_readLettersAndDigits 140 = .ok (.goto 4, 3) := by decide +kernel
theorem dX9_readLettersAndDigits_143 : decode cX9_readLettersAndDigits 143 = .ok (.iconst 3, 1) := by decide +kernel
theorem dX9_readLettersAndDigits_144 : decode cX9_readLettersAndDigits 144 = .ok (.iload_n 2, 1) := by decide +kernel
theorem dX9_readLettersAndDigits_145 : decode cX9_readLettersAndDigits 145 = .ok (.iload 7, 2) := by decide +kernel
theorem dX9_readLettersAndDigits_147 : decode cX9_readLettersAndDigits 147 = .ok (.iconst (-1), 1) := by decide +kernel
theorem dX9_readLettersAndDigits_148 : decode cX9_readLettersAndDigits 148 = .ok (.if_icmp .ne 8, 3) := by decide +kernel
theorem dX9_readLettersAndDigits_151 : decode cX9_readLettersAndDigits 151 = .ok (.lload 4, 2) := by decide +kernel
theorem dX9_readLettersAndDigits_153 : decode cX9_readLettersAndDigits 153 = .ok (.goto 6, 3) := by decide +kernel
theorem dX9_readLettersAndDigits_156 : decode cX9_readLettersAndDigits 156 = .ok (.iload 7, 2) := by decide +kernel
theorem dX9_readLettersAndDigits_158 : decode cX9_readLettersAndDigits 158 = .ok (.i2l, 1) := by decide +kernel
theorem dX9_readLettersAndDigits_159 : decode cX9_readLettersAndDigits 159 = .ok (.invokevirtual 96, 3) := by decide +kernel
theorem dX9_readLettersAndDigits_162 : decode cX9_readLettersAndDigits 162 = .ok (.goto 39, 3) := by decide +kernel
theorem dX9_readLettersAndDigits_165 : decode cX9_readLettersAndDigits 165 = .ok (.iload_n 3, 1) := by decide +kernel
theorem dX9_readLettersAndDigits_166 : decode cX9_readLettersAndDigits 166 = .ok (.aload_n 0, 1) := by decide +kernel
theorem dX9_readLettersAndDigits_167 : decode cX9_readLettersAndDigits 167 = .ok (.getfield 19, 3) := by decide +kernel
theorem dX9_readLettersAndDigits_170 : decode cX9_readLettersAndDigits 170 = .ok (.iload_n 2, 1) := by decide +kernel
theorem dX9_readLettersAndDigits_171 : decode cX9_readLettersAndDigits 171 = .ok (.isub, 1) := by decide +kernel
theorem dX9_readLettersAndDigits_172 : decode cX9_readLettersAndDigits 172 = .ok (.if_icmp .ne 20, 3) := by decide +kernel
theorem dX9_readLettersAndDigits_175 : decode cX9_readLettersAndDigits 175 = .ok (.iload_n 3, 1) := by decide +kernel
theorem dX9_readLettersAndDigits_176 : decode cX9_readLettersAndDigits 176 = .ok (.iconst 3, 1) := by decide +kernel
theorem dX9_readLettersAndDigits_177 : decode cX9_readLettersAndDigits 177 = .ok (.if_icmp .gt 15, 3) := by decide +kernel
theorem dX9_readLettersAndDigits_180 : decode cX9_readLettersAndDigits 180 = .ok (.aload_n 0, 1) := by decide +kernel
theorem dX9_readLettersAndDigits_181 : decode cX9_readLettersAndDigits 181 = .ok (.iconst 4, 1) := by decide +kernel
theorem dX9_readLettersAndDigits_182 : decode cX9_readLettersAndDigits 182 = .ok (.iload_n 2, 1) := by decide +kernel
theorem dX9_readLettersAndDigits_183 : decode cX9_readLettersAndDigits 183 = .ok (.iload 6, 2) := by decide +kernel
theorem dX9_readLettersAndDigits_185 : decode cX9_readLettersAndDigits 185 = .ok (.i2l, 1) := by decide +kernel
theorem dX9_readLettersAndDigits_186 : decode cX9_readLettersAndDigits 186 = .ok (.invokevirtual 96, 3) := by decide +kernel
theorem dX9_readLettersAndDigits_189 : decode cX9_readLettersAndDigits 189 = .ok (.goto 12, 3) := by decide +kernel
theorem dX9_readLettersAndDigits_192 : decode cX9_readLettersAndDigits 192 = .ok (.aload_n 0, 1) := by decide +kernel
theorem dX9_readLettersAndDigits_193 : decode cX9_readLettersAndDigits 193 = .ok (.iconst 1, 1) := by decide +kernel
theorem dX9_readLettersAndDigits_194 : decode cX9_readLettersAndDigits 194 = .ok (.iload_n 2, 1) := by decide +kernel
theorem dX9_readLettersAndDigits_195 : decode cX9_readLettersAndDigits 195 = .ok (.ldc2_w 43, 3) := by decide +kernel
theorem dX9_readLettersAndDigits_198 : decode cX9_readLettersAndDigits 198 = .ok (.invokevirtual 96, 3) := by decide +kernel
theorem dX9_readLettersAndDigits_201 : decode cX9_readLettersAndDigits 201 = .ok (.return_, 1) := by decide +kernel
theorem dX9_put_0 : decode cX9_put 0 = .ok (.aload_n 0, 1) := by decide +kernel
theorem dX9_put_1 : decode cX9_put 1 = .ok (.getfield 22, 3) := by decide +kernel
theorem dX9_put_4 : decode cX9_put 4 = .ok (.aload_n 0, 1) := by decide +kernel
theorem dX9_put_5 : decode cX9_put 5 = .ok (.getfield 61, 3) := by decide +kernel
theorem dX9_put_8 : decode cX9_put 8 = .ok (.if_icmp .gt 43, 3) := by decide +kernel
theorem dX9_put_11 : decode cX9_put 11 = .ok (.aload_n 0, 1) := by decide +kernel
theorem dX9_put_12 : decode cX9_put 12 = .ok (.getfield 64, 3) := by decide +kernel
theorem dX9_put_15 : decode cX9_put 15 = .ok (.aload_n 0, 1) := by decide +kernel
theorem dX9_put_16 : decode cX9_put 16 = .ok (.getfield 22, 3) := by decide +kernel
theorem dX9_put_19 : decode cX9_put 19 = .ok (.iload_n 1, 1) := by decide +kernel
theorem dX9_put_20 : decode cX9_put 20 = .ok (.iastore, 1) := by decide +kernel
theorem dX9_put_21 : decode cX9_put 21 = .ok (.aload_n 0, 1) := by decide +kernel
theorem dX9_put_22 : decode cX9_put 22 = .ok (.getfield 68, 3) := by decide +kernel
theorem dX9_put_25 : decode cX9_put 25 = .ok (.aload_n 0, 1) := by decide +kernel
theorem dX9_put_26 : decode cX9_put 26 = .ok (.getfield 22, 3) := by decide +kernel
theorem dX9_put_29 : decode cX9_put 29 = .ok (.iload_n 2, 1) := by decide +kernel
theorem dX9_put_30 : decode cX9_put 30 = .ok (.iastore, 1) := by decide +kernel
theorem dX9_put_31 : decode cX9_put 31 = .ok (.aload_n 0, 1) := by decide +kernel
theorem dX9_put_32 : decode cX9_put 32 = .ok (.getfield 71, 3) := by decide +kernel
theorem dX9_put_35 : decode cX9_put 35 = .ok (.aload_n 0, 1) := by decide +kernel
theorem dX9_put_36 : decode cX9_put 36 = .ok (.getfield 22, 3) := by decide +kernel
theorem dX9_put_39 : decode cX9_put 39 = .ok (.lload_n 3, 1) := by decide +kernel
theorem dX9_put_40 : decode cX9_put 40 = .ok (.lastore, 1) := by decide +kernel
theorem dX9_put_41 : decode cX9_put 41 = .ok (.aload_n 0, 1) := by decide +kernel
theorem dX9_put_42 : decode cX9_put 42 = .ok (.dup, 1) := by decide +kernel
theorem dX9_put_43 : decode cX9_put 43 = .ok (.getfield 22, 3) := by decide +kernel
theorem dX9_put_46 : decode cX9_put 46 = .ok (.iconst 1, 1) := by decide +kernel
theorem dX9_put_47 : decode cX9_put 47 = .ok (.iadd, 1) := by decide +kernel
theorem dX9_put_48 : decode cX9_put 48 = .ok (.putfield 22, 3) := by decide +kernel
theorem dX9_put_51 : decode cX9_put 51 = .ok (.return_, 1) := by decide +kernel
theorem dX9_keywordOf_0 : decode cX9_keywordOf 0 = .ok (.iconst 0, 1) := by decide +kernel
theorem dX9_keywordOf_1 : decode cX9_keywordOf 1 = .ok (.istore_n 3, 1) := by decide +kernel
theorem dX9_keywordOf_2 : decode cX9_keywordOf 2 = .ok (.iload_n 3, 1) := by decide +kernel
theorem dX9_keywordOf_3 : decode cX9_keywordOf 3 = .ok (.bipush 22, 2) := by decide +kernel
theorem dX9_keywordOf_5 : decode cX9_keywordOf 5 = .ok (.if_icmp .ge 22, 3) := by decide +kernel
theorem dX9_keywordOf_8 : decode cX9_keywordOf 8 = .ok (.aload_n 0, 1) := by decide +kernel
theorem dX9_keywordOf_9 : decode cX9_keywordOf 9 = .ok (.getfield 9, 3) := by decide +kernel
theorem dX9_keywordOf_12 : decode cX9_keywordOf 12 = .ok (.iload_n 3, 1) := by decide +kernel
theorem dX9_keywordOf_13 : decode cX9_keywordOf 13 = .ok (.laload, 1) := by decide +kernel
theorem dX9_keywordOf_14 : decode cX9_keywordOf 14 = .ok (.lload_n 1, 1) := by decide +kernel
theorem dX9_keywordOf_15 : decode cX9_keywordOf 15 = .ok (.lcmp, 1) := by decide +kernel
theorem dX9_keywordOf_16 : decode cX9_keywordOf 16 = .ok (.ifCond .ne 5, 3) := by decide +kernel
theorem dX9_keywordOf_19 : decode cX9_keywordOf 19 = .ok (.iload_n 3, 1) := by decide +kernel
theorem dX9_keywordOf_20 : decode cX9_keywordOf 20 = .ok (.ireturn, 1) := by decide +kernel
theorem dX9_keywordOf_21 : decode cX9_keywordOf 21 = .ok (.iinc 3 1, 3) := by decide +kernel
theorem dX9_keywordOf_24 : decode cX9_keywordOf 24 = .ok (.goto (-22), 3) := by decide +kernel
theorem dX9_keywordOf_27 : decode cX9_keywordOf 27 = .ok (.iconst (-1), 1) := by decide +kernel
theorem dX9_keywordOf_28 : decode cX9_keywordOf 28 = .ok (.ireturn, 1) := by decide +kernel
theorem dX9_withLetter_0 : decode cX9_withLetter 0 = .ok (.lload_n 0, 1) := by decide +kernel
theorem dX9_withLetter_1 : decode cX9_withLetter 1 = .ok (.ldc2_w 117, 3) := by decide +kernel
theorem dX9_withLetter_4 : decode cX9_withLetter 4 = .ok (.lmul, 1) := by decide +kernel
theorem dX9_withLetter_5 : decode cX9_withLetter 5 = .ok (.iload_n 2, 1) := by decide +kernel
theorem dX9_withLetter_6 : decode cX9_withLetter 6 = .ok (.bipush 97, 2) := by decide +kernel
theorem dX9_withLetter_8 : decode cX9_withLetter 8 = .ok (.isub, 1) := by decide +kernel
theorem dX9_withLetter_9 : decode cX9_withLetter 9 = .ok (.iconst 1, 1) := by decide +kernel
theorem dX9_withLetter_10 : decode cX9_withLetter 10 = .ok (.iadd, 1) := by decide +kernel
theorem dX9_withLetter_11 : decode cX9_withLetter 11 = .ok (.i2l, 1) := by decide +kernel
theorem dX9_withLetter_12 : decode cX9_withLetter 12 = .ok (.ladd, 1) := by decide +kernel
theorem dX9_withLetter_13 : decode cX9_withLetter 13 = .ok (.lreturn, 1) := by decide +kernel
theorem dX9_isLetter_0 : decode cX9_isLetter 0 = .ok (.iload_n 0, 1) := by decide +kernel
theorem dX9_isLetter_1 : decode cX9_isLetter 1 = .ok (.bipush 97, 2) := by decide +kernel
theorem dX9_isLetter_3 : decode cX9_isLetter 3 = .ok (.if_icmp .lt 13, 3) := by decide +kernel
theorem dX9_isLetter_6 : decode cX9_isLetter 6 = .ok (.iload_n 0, 1) := by decide +kernel
theorem dX9_isLetter_7 : decode cX9_isLetter 7 = .ok (.bipush 122, 2) := by decide +kernel
theorem dX9_isLetter_9 : decode cX9_isLetter 9 = .ok (.if_icmp .gt 7, 3) := by decide +kernel
theorem dX9_isLetter_12 : decode cX9_isLetter 12 = .ok (.iconst 1, 1) := by decide +kernel
theorem dX9_isLetter_13 : decode cX9_isLetter 13 = .ok (.goto 4, 3) := by decide +kernel
theorem dX9_isLetter_16 : decode cX9_isLetter 16 = .ok (.iconst 0, 1) := by decide +kernel
theorem dX9_isLetter_17 : decode cX9_isLetter 17 = .ok (.ireturn, 1) := by decide +kernel
theorem dX9_isDigit_0 : decode cX9_isDigit 0 = .ok (.iload_n 0, 1) := by decide +kernel
theorem dX9_isDigit_1 : decode cX9_isDigit 1 = .ok (.bipush 48, 2) := by decide +kernel
theorem dX9_isDigit_3 : decode cX9_isDigit 3 = .ok (.if_icmp .lt 13, 3) := by decide +kernel
theorem dX9_isDigit_6 : decode cX9_isDigit 6 = .ok (.iload_n 0, 1) := by decide +kernel
theorem dX9_isDigit_7 : decode cX9_isDigit 7 = .ok (.bipush 57, 2) := by decide +kernel
theorem dX9_isDigit_9 : decode cX9_isDigit 9 = .ok (.if_icmp .gt 7, 3) := by decide +kernel
theorem dX9_isDigit_12 : decode cX9_isDigit 12 = .ok (.iconst 1, 1) := by decide +kernel
theorem dX9_isDigit_13 : decode cX9_isDigit 13 = .ok (.goto 4, 3) := by decide +kernel
theorem dX9_isDigit_16 : decode cX9_isDigit 16 = .ok (.iconst 0, 1) := by decide +kernel
theorem dX9_isDigit_17 : decode cX9_isDigit 17 = .ok (.ireturn, 1) := by decide +kernel
theorem dX9_advance_0 : decode cX9_advance 0 = .ok (.aload_n 0, 1) := by decide +kernel
theorem dX9_advance_1 : decode cX9_advance 1 = .ok (.getfield 25, 3) := by decide +kernel
theorem dX9_advance_4 : decode cX9_advance 4 = .ok (.iconst 1, 1) := by decide +kernel
theorem dX9_advance_5 : decode cX9_advance 5 = .ok (.iadd, 1) := by decide +kernel
theorem dX9_advance_6 : decode cX9_advance 6 = .ok (.aload_n 0, 1) := by decide +kernel
theorem dX9_advance_7 : decode cX9_advance 7 = .ok (.getfield 22, 3) := by decide +kernel
theorem dX9_advance_10 : decode cX9_advance 10 = .ok (.if_icmp .lt 4, 3) := by decide +kernel
theorem dX9_advance_13 : decode cX9_advance 13 = .ok (.return_, 1) := by decide +kernel
theorem dX9_advance_14 : decode cX9_advance 14 = .ok (.aload_n 0, 1) := by decide +kernel
theorem dX9_advance_15 : decode cX9_advance 15 = .ok (.dup, 1) := by decide +kernel
theorem dX9_advance_16 : decode cX9_advance 16 = .ok (.getfield 25, 3) := by decide +kernel
theorem dX9_advance_19 : decode cX9_advance 19 = .ok (.iconst 1, 1) := by decide +kernel
theorem dX9_advance_20 : decode cX9_advance 20 = .ok (.iadd, 1) := by decide +kernel
theorem dX9_advance_21 : decode cX9_advance 21 = .ok (.putfield 25, 3) := by decide +kernel
theorem dX9_advance_24 : decode cX9_advance 24 = .ok (.aload_n 0, 1) := by decide +kernel
theorem dX9_advance_25 : decode cX9_advance 25 = .ok (.aload_n 0, 1) := by decide +kernel
theorem dX9_advance_26 : decode cX9_advance 26 = .ok (.getfield 64, 3) := by decide +kernel
theorem dX9_advance_29 : decode cX9_advance 29 = .ok (.aload_n 0, 1) := by decide +kernel
theorem dX9_advance_30 : decode cX9_advance 30 = .ok (.getfield 25, 3) := by decide +kernel
theorem dX9_advance_33 : decode cX9_advance 33 = .ok (.iaload, 1) := by decide +kernel
theorem dX9_advance_34 : decode cX9_advance 34 = .ok (.putfield 28, 3) := by decide +kernel
theorem dX9_advance_37 : decode cX9_advance 37 = .ok (.aload_n 0, 1) := by decide +kernel
theorem dX9_advance_38 : decode cX9_advance 38 = .ok (.aload_n 0, 1) := by decide +kernel
theorem dX9_advance_39 : decode cX9_advance 39 = .ok (.getfield 68, 3) := by decide +kernel
theorem dX9_advance_42 : decode cX9_advance 42 = .ok (.aload_n 0, 1) := by decide +kernel
theorem dX9_advance_43 : decode cX9_advance 43 = .ok (.getfield 25, 3) := by decide +kernel
theorem dX9_advance_46 : decode cX9_advance 46 = .ok (.iaload, 1) := by decide +kernel
theorem dX9_advance_47 : decode cX9_advance 47 = .ok (.putfield 31, 3) := by decide +kernel
theorem dX9_advance_50 : decode cX9_advance 50 = .ok (.aload_n 0, 1) := by decide +kernel
theorem dX9_advance_51 : decode cX9_advance 51 = .ok (.aload_n 0, 1) := by decide +kernel
theorem dX9_advance_52 : decode cX9_advance 52 = .ok (.getfield 28, 3) := by decide +kernel
theorem dX9_advance_55 : decode cX9_advance 55 = .ok (.iconst 3, 1) := by decide +kernel
theorem dX9_advance_56 : decode cX9_advance 56 = .ok (.if_icmp .ne 16, 3) := by decide +kernel
theorem dX9_advance_59 : decode cX9_advance 59 = .ok (.aload_n 0, 1) := by decide +kernel
theorem dX9_advance_60 : decode cX9_advance 60 = .ok (.getfield 71, 3) := by decide +kernel
theorem dX9_advance_63 : decode cX9_advance 63 = .ok (.aload_n 0, 1) := by decide +kernel
theorem dX9_advance_64 : decode cX9_advance 64 = .ok (.getfield 25, 3) := by decide +kernel
theorem dX9_advance_67 : decode cX9_advance 67 = .ok (.laload, 1) := by decide +kernel
theorem dX9_advance_68 : decode cX9_advance 68 = .ok (.l2i, 1) := by decide +kernel
theorem dX9_advance_69 : decode cX9_advance 69 = .ok (.goto 4, 3) := by decide +kernel
theorem dX9_advance_72 : decode cX9_advance 72 = .ok (.iconst (-1), 1) := by decide +kernel
theorem dX9_advance_73 : decode cX9_advance 73 = .ok (.putfield 34, 3) := by decide +kernel
theorem dX9_advance_76 : decode cX9_advance 76 = .ok (.aload_n 0, 1) := by decide +kernel
theorem dX9_advance_77 : decode cX9_advance 77 = .ok (.aload_n 0, 1) := by decide +kernel
theorem dX9_advance_78 : decode cX9_advance 78 = .ok (.getfield 28, 3) := by decide +kernel
theorem dX9_advance_81 : decode cX9_advance 81 = .ok (.iconst 4, 1) := by decide +kernel
theorem dX9_advance_82 : decode cX9_advance 82 = .ok (.if_icmp .ne 16, 3) := by decide +kernel
theorem dX9_advance_85 : decode cX9_advance 85 = .ok (.aload_n 0, 1) := by decide +kernel
theorem dX9_advance_86 : decode cX9_advance 86 = .ok (.getfield 71, 3) := by decide +kernel
theorem dX9_advance_89 : decode cX9_advance 89 = .ok (.aload_n 0, 1) := by decide +kernel
theorem dX9_advance_90 : decode cX9_advance 90 = .ok (.getfield 25, 3) := by decide +kernel
theorem dX9_advance_93 : decode cX9_advance 93 = .ok (.laload, 1) := by decide +kernel
theorem dX9_advance_94 : decode cX9_advance 94 = .ok (.l2i, 1) := by decide +kernel
theorem dX9_advance_95 : decode cX9_advance 95 = .ok (.goto 4, 3) := by decide +kernel
theorem dX9_advance_98 : decode cX9_advance 98 = .ok (.iconst (-1), 1) := by decide +kernel
theorem dX9_advance_99 : decode cX9_advance 99 = .ok (.putfield 37, 3) := by decide +kernel
theorem dX9_advance_102 : decode cX9_advance 102 = .ok (.aload_n 0, 1) := by decide +kernel
theorem dX9_advance_103 : decode cX9_advance 103 = .ok (.aload_n 0, 1) := by decide +kernel
theorem dX9_advance_104 : decode cX9_advance 104 = .ok (.getfield 28, 3) := by decide +kernel
theorem dX9_advance_107 : decode cX9_advance 107 = .ok (.iconst 5, 1) := by decide +kernel
theorem dX9_advance_108 : decode cX9_advance 108 = .ok (.if_icmp .ne 16, 3) := by decide +kernel
theorem dX9_advance_111 : decode cX9_advance 111 = .ok (.aload_n 0, 1) := by decide +kernel
theorem dX9_advance_112 : decode cX9_advance 112 = .ok (.getfield 71, 3) := by decide +kernel
theorem dX9_advance_115 : decode cX9_advance 115 = .ok (.aload_n 0, 1) := by decide +kernel
theorem dX9_advance_116 : decode cX9_advance 116 = .ok (.getfield 25, 3) := by decide +kernel
theorem dX9_advance_119 : decode cX9_advance 119 = .ok (.laload, 1) := by decide +kernel
theorem dX9_advance_120 : decode cX9_advance 120 = .ok (.l2i, 1) := by decide +kernel
theorem dX9_advance_121 : decode cX9_advance 121 = .ok (.goto 4, 3) := by decide +kernel
theorem dX9_advance_124 : decode cX9_advance 124 = .ok (.iconst (-1), 1) := by decide +kernel
theorem dX9_advance_125 : decode cX9_advance 125 = .ok (.putfield 40, 3) := by decide +kernel
theorem dX9_advance_128 : decode cX9_advance 128 = .ok (.aload_n 0, 1) := by decide +kernel
theorem dX9_advance_129 : decode cX9_advance 129 = .ok (.aload_n 0, 1) := by decide +kernel
theorem dX9_advance_130 : decode cX9_advance 130 = .ok (.getfield 28, 3) := by decide +kernel
theorem dX9_advance_133 : decode cX9_advance 133 = .ok (.iconst 2, 1) := by decide +kernel
theorem dX9_advance_134 : decode cX9_advance 134 = .ok (.if_icmp .ne 15, 3) := by decide +kernel
theorem dX9_advance_137 : decode cX9_advance 137 = .ok (.aload_n 0, 1) := by decide +kernel
theorem dX9_advance_138 : decode cX9_advance 138 = .ok (.getfield 71, 3) := by decide +kernel
theorem dX9_advance_141 : decode cX9_advance 141 = .ok (.aload_n 0, 1) := by decide +kernel
theorem dX9_advance_142 : decode cX9_advance 142 = .ok (.getfield 25, 3) := by decide +kernel
theorem dX9_advance_145 : decode cX9_advance 145 = .ok (.laload, 1) := by decide +kernel
theorem dX9_advance_146 : decode cX9_advance 146 = .ok (.goto 6, 3) := by decide +kernel
theorem dX9_advance_149 : decode cX9_advance 149 = .ok (.ldc2_w 43, 3) := by decide +kernel
theorem dX9_advance_152 : decode cX9_advance 152 = .ok (.putfield 45, 3) := by decide +kernel
theorem dX9_advance_155 : decode cX9_advance 155 = .ok (.return_, 1) := by decide +kernel
theorem dX9_failsBy_0 : decode cX9_failsBy 0 = .ok (.aload_n 0, 1) := by decide +kernel
theorem dX9_failsBy_1 : decode cX9_failsBy 1 = .ok (.iload_n 1, 1) := by decide +kernel
theorem dX9_failsBy_2 : decode cX9_failsBy 2 = .ok (.putfield 49, 3) := by decide +kernel
theorem dX9_failsBy_5 : decode cX9_failsBy 5 = .ok (.aload_n 0, 1) := by decide +kernel
theorem dX9_failsBy_6 : decode cX9_failsBy 6 = .ok (.aload_n 0, 1) := by decide +kernel
theorem dX9_failsBy_7 : decode cX9_failsBy 7 = .ok (.getfield 31, 3) := by decide +kernel
theorem dX9_failsBy_10 : decode cX9_failsBy 10 = .ok (.putfield 52, 3) := by decide +kernel
theorem dX9_failsBy_13 : decode cX9_failsBy 13 = .ok (.iconst 0, 1) := by decide +kernel
theorem dX9_failsBy_14 : decode cX9_failsBy 14 = .ok (.ireturn, 1) := by decide +kernel
theorem dX9_takesKeyword_0 : decode cX9_takesKeyword 0 = .ok (.aload_n 0, 1) := by decide +kernel
theorem dX9_takesKeyword_1 : decode cX9_takesKeyword 1 = .ok (.getfield 34, 3) := by decide +kernel
theorem dX9_takesKeyword_4 : decode cX9_takesKeyword 4 = .ok (.iload_n 1, 1) := by decide +kernel
theorem dX9_takesKeyword_5 : decode cX9_takesKeyword 5 = .ok (.if_icmp .eq 9, 3) := by decide +kernel
theorem dX9_takesKeyword_8 : decode cX9_takesKeyword 8 = .ok (.aload_n 0, 1) := by decide +kernel
theorem dX9_takesKeyword_9 : decode cX9_takesKeyword 9 = .ok (.iconst 1, 1) := by decide +kernel
theorem dX9_takesKeyword_10 : decode cX9_takesKeyword 10 = .ok (.invokevirtual 119, 3) := by decide +kernel
theorem dX9_takesKeyword_13 : decode cX9_takesKeyword 13 = .ok (.ireturn, 1) := by decide +kernel
theorem dX9_takesKeyword_14 : decode cX9_takesKeyword 14 = .ok (.aload_n 0, 1) := by decide +kernel
theorem dX9_takesKeyword_15 : decode cX9_takesKeyword 15 = .ok (.invokevirtual 100, 3) := by decide +kernel
theorem dX9_takesKeyword_18 : decode cX9_takesKeyword 18 = .ok (.iconst 1, 1) := by decide +kernel
theorem dX9_takesKeyword_19 : decode cX9_takesKeyword 19 = .ok (.ireturn, 1) := by decide +kernel
theorem dX9_takesSign_0 : decode cX9_takesSign 0 = .ok (.aload_n 0, 1) := by decide +kernel
theorem dX9_takesSign_1 : decode cX9_takesSign 1 = .ok (.getfield 40, 3) := by decide +kernel
theorem dX9_takesSign_4 : decode cX9_takesSign 4 = .ok (.iload_n 1, 1) := by decide +kernel
theorem dX9_takesSign_5 : decode cX9_takesSign 5 = .ok (.if_icmp .eq 9, 3) := by decide +kernel
theorem dX9_takesSign_8 : decode cX9_takesSign 8 = .ok (.aload_n 0, 1) := by decide +kernel
theorem dX9_takesSign_9 : decode cX9_takesSign 9 = .ok (.iconst 1, 1) := by decide +kernel
theorem dX9_takesSign_10 : decode cX9_takesSign 10 = .ok (.invokevirtual 119, 3) := by decide +kernel
theorem dX9_takesSign_13 : decode cX9_takesSign 13 = .ok (.ireturn, 1) := by decide +kernel
theorem dX9_takesSign_14 : decode cX9_takesSign 14 = .ok (.aload_n 0, 1) := by decide +kernel
theorem dX9_takesSign_15 : decode cX9_takesSign 15 = .ok (.invokevirtual 100, 3) := by decide +kernel
theorem dX9_takesSign_18 : decode cX9_takesSign 18 = .ok (.iconst 1, 1) := by decide +kernel
theorem dX9_takesSign_19 : decode cX9_takesSign 19 = .ok (.ireturn, 1) := by decide +kernel
theorem dX10_init_0 : decode cX10_init 0 = .ok (.aload_n 0, 1) := by decide +kernel
theorem dX10_init_1 : decode cX10_init 1 = .ok (.invokespecial 1, 3) := by decide +kernel
theorem dX10_init_4 : decode cX10_init 4 = .ok (.aload_n 0, 1) := by decide +kernel
theorem dX10_init_5 : decode cX10_init 5 = .ok (.new 7, 3) := by decide +kernel
theorem dX10_init_8 : decode cX10_init 8 = .ok (.dup, 1) := by decide +kernel
theorem dX10_init_9 : decode cX10_init 9 = .ok (.invokespecial 9, 3) := by decide +kernel
theorem dX10_init_12 : decode cX10_init 12 = .ok (.putfield 10, 3) := by decide +kernel
theorem dX10_init_15 : decode cX10_init 15 = .ok (.aload_n 0, 1) := by decide +kernel
theorem dX10_init_16 : decode cX10_init 16 = .ok (.new 16, 3) := by decide +kernel
theorem dX10_init_19 : decode cX10_init 19 = .ok (.dup, 1) := by decide +kernel
theorem dX10_init_20 : decode cX10_init 20 = .ok (.invokespecial 18, 3) := by decide +kernel
theorem dX10_init_23 : decode cX10_init 23 = .ok (.putfield 19, 3) := by decide +kernel
theorem dX10_init_26 : decode cX10_init 26 = .ok (.aload_n 0, 1) := by decide +kernel
theorem dX10_init_27 : decode cX10_init 27 = .ok (.new 23, 3) := by decide +kernel
theorem dX10_init_30 : decode cX10_init 30 = .ok (.dup, 1) := by decide +kernel
theorem dX10_init_31 : decode cX10_init 31 = .ok (.invokespecial 25, 3) := by decide +kernel
theorem dX10_init_34 : decode cX10_init 34 = .ok (.putfield 26, 3) := by decide +kernel
theorem dX10_init_37 : decode cX10_init 37 = .ok (.return_, 1) := by decide +kernel
theorem dX10_copyFrom_0 : decode cX10_copyFrom 0 = .ok (.aload_n 0, 1) := by decide +kernel
theorem dX10_copyFrom_1 : decode cX10_copyFrom 1 = .ok (.getfield 10, 3) := by decide +kernel
theorem dX10_copyFrom_4 : decode cX10_copyFrom 4 = .ok (.aload_n 1, 1) := by decide +kernel
theorem dX10_copyFrom_5 : decode cX10_copyFrom 5 = .ok (.getfield 10, 3) := by decide +kernel
theorem dX10_copyFrom_8 : decode cX10_copyFrom 8 = .ok (.invokevirtual 30, 3) := by decide +kernel
theorem dX10_copyFrom_11 : decode cX10_copyFrom 11 = .ok (.aload_n 0, 1) := by decide +kernel
theorem dX10_copyFrom_12 : decode cX10_copyFrom 12 = .ok (.getfield 19, 3) := by decide +kernel
theorem dX10_copyFrom_15 : decode cX10_copyFrom 15 = .ok (.aload_n 1, 1) := by decide +kernel
theorem dX10_copyFrom_16 : decode cX10_copyFrom 16 = .ok (.getfield 19, 3) := by decide +kernel
theorem dX10_copyFrom_19 : decode cX10_copyFrom 19 = .ok (.invokevirtual 34, 3) := by decide +kernel
theorem dX10_copyFrom_22 : decode cX10_copyFrom 22 = .ok (.aload_n 0, 1) := by decide +kernel
theorem dX10_copyFrom_23 : decode cX10_copyFrom 23 = .ok (.getfield 26, 3) := by decide +kernel
theorem dX10_copyFrom_26 : decode cX10_copyFrom 26 = .ok (.aload_n 1, 1) := by decide +kernel
theorem dX10_copyFrom_27 : decode cX10_copyFrom 27 = .ok (.getfield 26, 3) := by decide +kernel
theorem dX10_copyFrom_30 : decode cX10_copyFrom 30 = .ok (.invokevirtual 37, 3) := by decide +kernel
theorem dX10_copyFrom_33 : decode cX10_copyFrom 33 = .ok (.return_, 1) := by decide +kernel
theorem dX11_init_0 : decode cX11_init 0 = .ok (.aload_n 0, 1) := by decide +kernel
theorem dX11_init_1 : decode cX11_init 1 = .ok (.invokespecial 3, 3) := by decide +kernel
theorem dX11_init_4 : decode cX11_init 4 = .ok (.aload_n 0, 1) := by decide +kernel
theorem dX11_init_5 : decode cX11_init 5 = .ok (.sipush 940, 3) := by decide +kernel
theorem dX11_init_8 : decode cX11_init 8 = .ok (.newarray .byte, 2) := by decide +kernel
theorem dX11_init_10 : decode cX11_init 10 = .ok (.putfield 9, 3) := by decide +kernel
theorem dX11_init_13 : decode cX11_init 13 = .ok (.aload_n 0, 1) := by decide +kernel
theorem dX11_init_14 : decode cX11_init 14 = .ok (.iconst 0, 1) := by decide +kernel
theorem dX11_init_15 : decode cX11_init 15 = .ok (.putfield 13, 3) := by decide +kernel
theorem dX11_init_18 : decode cX11_init 18 = .ok (.aload_n 0, 1) := by decide +kernel
theorem dX11_init_19 : decode cX11_init 19 = .ok (.new 17, 3) := by decide +kernel
theorem dX11_init_22 : decode cX11_init 22 = .ok (.dup, 1) := by decide +kernel
theorem dX11_init_23 : decode cX11_init 23 = .ok (.invokespecial 19, 3) := by decide +kernel
theorem dX11_init_26 : decode cX11_init 26 = .ok (.putfield 20, 3) := by decide +kernel
theorem dX11_init_29 : decode cX11_init 29 = .ok (.aload_n 0, 1) := by decide +kernel
theorem dX11_init_30 : decode cX11_init 30 = .ok (.new 24, 3) := by decide +kernel
theorem dX11_init_33 : decode cX11_init 33 = .ok (.dup, 1) := by decide +kernel
theorem dX11_init_34 : decode cX11_init 34 = .ok (.invokespecial 26, 3) := by decide +kernel
theorem dX11_init_37 : decode cX11_init 37 = .ok (.putfield 27, 3) := by decide +kernel
theorem dX11_init_40 : decode cX11_init 40 = .ok (.aload_n 0, 1) := by decide +kernel
theorem dX11_init_41 : decode cX11_init 41 = .ok (.new 31, 3) := by decide +kernel
theorem dX11_init_44 : decode cX11_init 44 = .ok (.dup, 1) := by decide +kernel
theorem dX11_init_45 : decode cX11_init 45 = .ok (.invokespecial 33, 3) := by decide +kernel
theorem dX11_init_48 : decode cX11_init 48 = .ok (.putfield 34, 3) := by decide +kernel
theorem dX11_init_51 : decode cX11_init 51 = .ok (.aload_n 0, 1) := by decide +kernel
theorem dX11_init_52 : decode cX11_init 52 = .ok (.iconst 0, 1) := by decide +kernel
theorem dX11_init_53 : decode cX11_init 53 = .ok (.putfield 38, 3) := by decide +kernel
theorem dX11_init_56 : decode cX11_init 56 = .ok (.aload_n 0, 1) := by decide +kernel
theorem dX11_init_57 : decode cX11_init 57 = .ok (.new 41, 3) := by decide +kernel
theorem dX11_init_60 : decode cX11_init 60 = .ok (.dup, 1) := by decide +kernel
theorem dX11_init_61 : decode cX11_init 61 = .ok (.invokespecial 43, 3) := by decide +kernel
theorem dX11_init_64 : decode cX11_init 64 = .ok (.putfield 44, 3) := by decide +kernel
theorem dX11_init_67 : decode cX11_init 67 = .ok (.aload_n 0, 1) := by decide +kernel
theorem dX11_init_68 : decode cX11_init 68 = .ok (.new 48, 3) := by decide +kernel
theorem dX11_init_71 : decode cX11_init 71 = .ok (.dup, 1) := by decide +kernel
theorem dX11_init_72 : decode cX11_init 72 = .ok (.invokespecial 50, 3) := by decide +kernel
theorem dX11_init_75 : decode cX11_init 75 = .ok (.putfield 51, 3) := by decide +kernel
theorem dX11_init_78 : decode cX11_init 78 = .ok (.aload_n 0, 1) := by decide +kernel
theorem dX11_init_79 : decode cX11_init 79 = .ok (.new 55, 3) := by decide +kernel
theorem dX11_init_82 : decode cX11_init 82 = .ok (.dup, 1) := by decide +kernel
theorem dX11_init_83 : decode cX11_init 83 = .ok (.invokespecial 57, 3) := by decide +kernel
theorem dX11_init_86 : decode cX11_init 86 = .ok (.putfield 58, 3) := by decide +kernel
theorem dX11_init_89 : decode cX11_init 89 = .ok (.aload_n 0, 1) := by decide +kernel
