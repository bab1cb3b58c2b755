theorem dX12_frees_9 : decode cX12_frees 9 = .ok (.aload_n 0, 1) := by decide +kernel
theorem dX12_frees_10 : decode cX12_frees 10 = .ok (.getfield 98, 3) := by decide +kernel
theorem dX12_frees_13 : decode cX12_frees 13 = .ok (.iconst 2, 1) := by decide +kernel
theorem dX12_frees_14 : decode cX12_frees 14 = .ok (.iaload, 1) := by decide +kernel
theorem dX12_frees_15 : decode cX12_frees 15 = .ok (.if_icmp .ge 96, 3) := by decide +kernel
theorem dX12_frees_18 : decode cX12_frees 18 = .ok (.aload_n 0, 1) := by decide +kernel
theorem dX12_frees_19 : decode cX12_frees 19 = .ok (.getfield 157, 3) := by decide +kernel
theorem dX12_frees_22 : decode cX12_frees 22 = .ok (.bipush 24, 2) := by decide +kernel
theorem dX12_frees_24 : decode cX12_frees 24 = .ok (.iload_n 2, 1) := by decide +kernel
theorem dX12_frees_25 : decode cX12_frees 25 = .ok (.imul, 1) := by decide +kernel
theorem dX12_frees_26 : decode cX12_frees 26 = .ok (.iload_n 3, 1) := by decide +kernel
theorem dX12_frees_27 : decode cX12_frees 27 = .ok (.iadd, 1) := by decide +kernel
theorem dX12_frees_28 : decode cX12_frees 28 = .ok (.iaload, 1) := by decide +kernel
theorem dX12_frees_29 : decode cX12_frees 29 = .ok (.aload_n 0, 1) := by decide +kernel
theorem dX12_frees_30 : decode cX12_frees 30 = .ok (.getfield 98, 3) := by decide +kernel
theorem dX12_frees_33 : decode cX12_frees 33 = .ok (.sipush 233, 3) := by decide +kernel
theorem dX12_frees_36 : decode cX12_frees 36 = .ok (.iload_n 1, 1) := by decide +kernel
theorem dX12_frees_37 : decode cX12_frees 37 = .ok (.iadd, 1) := by decide +kernel
theorem dX12_frees_38 : decode cX12_frees 38 = .ok (.iaload, 1) := by decide +kernel
theorem dX12_frees_39 : decode cX12_frees 39 = .ok (.if_icmp .eq 6, 3) := by decide +kernel
theorem dX12_frees_42 : decode cX12_frees 42 = .ok (.goto 63, 3) := by decide +kernel
theorem dX12_frees_45 : decode cX12_frees 45 = .ok (.aload_n 0, 1) := by decide +kernel
theorem dX12_frees_46 : decode cX12_frees 46 = .ok (.aload_n 0, 1) := by decide +kernel
theorem dX12_frees_47 : decode cX12_frees 47 = .ok (.iload_n 3, 1) := by decide +kernel
theorem dX12_frees_48 : decode cX12_frees 48 = .ok (.invokevirtual 364, 3) := by decide +kernel
theorem dX12_frees_51 : decode cX12_frees 51 = .ok (.invokevirtual 367, 3) := by decide +kernel
theorem dX12_frees_54 : decode cX12_frees 54 = .ok (.iconst 0, 1) := by decide +kernel
theorem dX12_frees_55 : decode cX12_frees 55 = .ok (.istore 4, 2) := by decide +kernel
theorem dX12_frees_57 : decode cX12_frees 57 = .ok (.iload 4, 2) := by decide +kernel
theorem dX12_frees_59 : decode cX12_frees 59 = .ok (.aload_n 0, 1) := by decide +kernel
theorem dX12_frees_60 : decode cX12_frees 60 = .ok (.aload_n 0, 1) := by decide +kernel
theorem dX12_frees_61 : decode cX12_frees 61 = .ok (.getfield 98, 3) := by decide +kernel
theorem dX12_frees_64 : decode cX12_frees 64 = .ok (.iload_n 2, 1) := by decide +kernel
theorem dX12_frees_65 : decode cX12_frees 65 = .ok (.invokevirtual 193, 3) := by decide +kernel
theorem dX12_frees_68 : decode cX12_frees 68 = .ok (.if_icmp .ge 37, 3) := by decide +kernel
theorem dX12_frees_71 : decode cX12_frees 71 = .ok (.aload_n 0, 1) := by decide +kernel
theorem dX12_frees_72 : decode cX12_frees 72 = .ok (.getfield 142, 3) := by decide +kernel
theorem dX12_frees_75 : decode cX12_frees 75 = .ok (.aload_n 0, 1) := by decide +kernel
theorem dX12_frees_76 : decode cX12_frees 76 = .ok (.iload_n 2, 1) := by decide +kernel
theorem dX12_frees_77 : decode cX12_frees 77 = .ok (.iload 4, 2) := by decide +kernel
theorem dX12_frees_79 : decode cX12_frees 79 = .ok (.invokevirtual 265, 3) := by decide +kernel
theorem dX12_frees_82 : decode cX12_frees 82 = .ok (.iaload, 1) := by decide +kernel
theorem dX12_frees_83 : decode cX12_frees 83 = .ok (.iload_n 3, 1) := by decide +kernel
theorem dX12_frees_84 : decode cX12_frees 84 = .ok (.invokestatic 276, 3) := by decide +kernel
theorem dX12_frees_87 : decode cX12_frees 87 = .ok (.ifCond .eq 12, 3) := by decide +kernel
theorem dX12_frees_90 : decode cX12_frees 90 = .ok (.aload_n 0, 1) := by decide +kernel
theorem dX12_frees_91 : decode cX12_frees 91 = .ok (.iload_n 1, 1) := by decide +kernel
theorem dX12_frees_92 : decode cX12_frees 92 = .ok (.iload 4, 2) := by decide +kernel
theorem dX12_frees_94 : decode cX12_frees 94 = .ok (.iconst 0, 1) := by decide +kernel
theorem dX12_frees_95 : decode cX12_frees 95 = .ok (.iconst 0, 1) := by decide +kernel
theorem dX12_frees_96 : decode cX12_frees 96 = .ok (.invokevirtual 345, 3) := by decide +kernel
theorem dX12_frees_99 : decode cX12_frees 99 = .ok (.iinc 4 1, 3) := by decide +kernel
theorem dX12_frees_102 : decode cX12_frees 102 = .ok (.goto (-45), 3) := by decide +kernel
theorem dX12_frees_105 : decode cX12_frees 105 = .ok (.iinc 3 1, 3) := by decide +kernel
theorem dX12_frees_108 : decode cX12_frees 108 = .ok (.goto (-100), 3) := by decide +kernel
theorem dX12_frees_111 : decode cX12_frees 111 = .ok (.return_, 1) := by decide +kernel
theorem dX12_gives_0 : decode cX12_gives 0 = .ok (.iload_n 1, 1) := by decide +kernel
theorem dX12_gives_1 : decode cX12_gives 1 = .ok (.istore_n 3, 1) := by decide +kernel
theorem dX12_gives_2 : decode cX12_gives 2 = .ok (.iload_n 2, 1) := by decide +kernel
theorem dX12_gives_3 : decode cX12_gives 3 = .ok (.istore 4, 2) := by decide +kernel
theorem dX12_gives_5 : decode cX12_gives 5 = .ok (.aload_n 0, 1) := by decide +kernel
theorem dX12_gives_6 : decode cX12_gives 6 = .ok (.getfield 98, 3) := by decide +kernel
theorem dX12_gives_9 : decode cX12_gives 9 = .ok (.sipush 212, 3) := by decide +kernel
theorem dX12_gives_12 : decode cX12_gives 12 = .ok (.iaload, 1) := by decide +kernel
theorem dX12_gives_13 : decode cX12_gives 13 = .ok (.iconst 1, 1) := by decide +kernel
theorem dX12_gives_14 : decode cX12_gives 14 = .ok (.isub, 1) := by decide +kernel
theorem dX12_gives_15 : decode cX12_gives 15 = .ok (.istore 5, 2) := by decide +kernel
theorem dX12_gives_17 : decode cX12_gives 17 = .ok (.aload_n 0, 1) := by decide +kernel
theorem dX12_gives_18 : decode cX12_gives 18 = .ok (.iload 5, 2) := by decide +kernel
theorem dX12_gives_20 : decode cX12_gives 20 = .ok (.invokevirtual 333, 3) := by decide +kernel
theorem dX12_gives_23 : decode cX12_gives 23 = .ok (.istore 6, 2) := by decide +kernel
theorem dX12_gives_25 : decode cX12_gives 25 = .ok (.aload_n 0, 1) := by decide +kernel
theorem dX12_gives_26 : decode cX12_gives 26 = .ok (.iload 5, 2) := by decide +kernel
theorem dX12_gives_28 : decode cX12_gives 28 = .ok (.aload_n 0, 1) := by decide +kernel
theorem dX12_gives_29 : decode cX12_gives 29 = .ok (.iload 6, 2) := by decide +kernel
theorem dX12_gives_31 : decode cX12_gives 31 = .ok (.aload_n 0, 1) := by decide +kernel
theorem dX12_gives_32 : decode cX12_gives 32 = .ok (.iload 5, 2) := by decide +kernel
theorem dX12_gives_34 : decode cX12_gives 34 = .ok (.invokevirtual 349, 3) := by decide +kernel
theorem dX12_gives_37 : decode cX12_gives 37 = .ok (.invokevirtual 262, 3) := by decide +kernel
theorem dX12_gives_40 : decode cX12_gives 40 = .ok (.iload_n 3, 1) := by decide +kernel
theorem dX12_gives_41 : decode cX12_gives 41 = .ok (.iload 4, 2) := by decide +kernel
theorem dX12_gives_43 : decode cX12_gives 43 = .ok (.invokevirtual 345, 3) := by decide +kernel
theorem dX12_gives_46 : decode cX12_gives 46 = .ok (.aload_n 0, 1) := by decide +kernel
theorem dX12_gives_47 : decode cX12_gives 47 = .ok (.iload 5, 2) := by decide +kernel
theorem dX12_gives_49 : decode cX12_gives 49 = .ok (.invokevirtual 370, 3) := by decide +kernel
theorem dX12_gives_52 : decode cX12_gives 52 = .ok (.aload_n 0, 1) := by decide +kernel
theorem dX12_gives_53 : decode cX12_gives 53 = .ok (.getfield 98, 3) := by decide +kernel
theorem dX12_gives_56 : decode cX12_gives 56 = .ok (.sipush 233, 3) := by decide +kernel
theorem dX12_gives_59 : decode cX12_gives 59 = .ok (.iload 5, 2) := by decide +kernel
theorem dX12_gives_61 : decode cX12_gives 61 = .ok (.iadd, 1) := by decide +kernel
theorem dX12_gives_62 : decode cX12_gives 62 = .ok (.dup2, 1) := by decide +kernel
theorem dX12_gives_63 : decode cX12_gives 63 = .ok (.iaload, 1) := by decide +kernel
theorem dX12_gives_64 : decode cX12_gives 64 = .ok (.iconst 1, 1) := by decide +kernel
theorem dX12_gives_65 : decode cX12_gives 65 = .ok (.iadd, 1) := by decide +kernel
theorem dX12_gives_66 : decode cX12_gives 66 = .ok (.iastore, 1) := by decide +kernel
theorem dX12_gives_67 : decode cX12_gives 67 = .ok (.aload_n 0, 1) := by decide +kernel
theorem dX12_gives_68 : decode cX12_gives 68 = .ok (.getfield 98, 3) := by decide +kernel
theorem dX12_gives_71 : decode cX12_gives 71 = .ok (.sipush 233, 3) := by decide +kernel
theorem dX12_gives_74 : decode cX12_gives 74 = .ok (.iload 5, 2) := by decide +kernel
theorem dX12_gives_76 : decode cX12_gives 76 = .ok (.iadd, 1) := by decide +kernel
theorem dX12_gives_77 : decode cX12_gives 77 = .ok (.iaload, 1) := by decide +kernel
theorem dX12_gives_78 : decode cX12_gives 78 = .ok (.aload_n 0, 1) := by decide +kernel
theorem dX12_gives_79 : decode cX12_gives 79 = .ok (.getfield 98, 3) := by decide +kernel
theorem dX12_gives_82 : decode cX12_gives 82 = .ok (.bipush 13, 2) := by decide +kernel
theorem dX12_gives_84 : decode cX12_gives 84 = .ok (.iload 6, 2) := by decide +kernel
theorem dX12_gives_86 : decode cX12_gives 86 = .ok (.iadd, 1) := by decide +kernel
theorem dX12_gives_87 : decode cX12_gives 87 = .ok (.iaload, 1) := by decide +kernel
theorem dX12_gives_88 : decode cX12_gives 88 = .ok (.if_icmp .ge 4, 3) := by decide +kernel
theorem dX12_gives_91 : decode cX12_gives 91 = .ok (.return_, 1) := by decide +kernel
theorem dX12_gives_92 : decode cX12_gives 92 = .ok (.aload_n 0, 1) := by decide +kernel
theorem dX12_gives_93 : decode cX12_gives 93 = .ok (.iload 5, 2) := by decide +kernel
theorem dX12_gives_95 : decode cX12_gives 95 = .ok (.aload_n 0, 1) := by decide +kernel
theorem dX12_gives_96 : decode cX12_gives 96 = .ok (.aload_n 0, 1) := by decide +kernel
theorem dX12_gives_97 : decode cX12_gives 97 = .ok (.getfield 98, 3) := by decide +kernel
theorem dX12_gives_100 : decode cX12_gives 100 = .ok (.iload 6, 2) := by decide +kernel
theorem dX12_gives_102 : decode cX12_gives 102 = .ok (.invokevirtual 193, 3) := by decide +kernel
theorem dX12_gives_105 : decode cX12_gives 105 = .ok (.iconst 1, 1) := by decide +kernel
theorem dX12_gives_106 : decode cX12_gives 106 = .ok (.isub, 1) := by decide +kernel
theorem dX12_gives_107 : decode cX12_gives 107 = .ok (.invokevirtual 336, 3) := by decide +kernel
theorem dX12_gives_110 : decode cX12_gives 110 = .ok (.istore 7, 2) := by decide +kernel
theorem dX12_gives_112 : decode cX12_gives 112 = .ok (.aload_n 0, 1) := by decide +kernel
theorem dX12_gives_113 : decode cX12_gives 113 = .ok (.getfield 98, 3) := by decide +kernel
theorem dX12_gives_116 : decode cX12_gives 116 = .ok (.sipush 245, 3) := by decide +kernel
theorem dX12_gives_119 : decode cX12_gives 119 = .ok (.iload 7, 2) := by decide +kernel
theorem dX12_gives_121 : decode cX12_gives 121 = .ok (.iadd, 1) := by decide +kernel
theorem dX12_gives_122 : decode cX12_gives 122 = .ok (.iaload, 1) := by decide +kernel
theorem dX12_gives_123 : decode cX12_gives 123 = .ok (.istore_n 3, 1) := by decide +kernel
theorem dX12_gives_124 : decode cX12_gives 124 = .ok (.aload_n 0, 1) := by decide +kernel
theorem dX12_gives_125 : decode cX12_gives 125 = .ok (.getfield 98, 3) := by decide +kernel
theorem dX12_gives_128 : decode cX12_gives 128 = .ok (.sipush 569, 3) := by decide +kernel
theorem dX12_gives_131 : decode cX12_gives 131 = .ok (.iload 7, 2) := by decide +kernel
theorem dX12_gives_133 : decode cX12_gives 133 = .ok (.iadd, 1) := by decide +kernel
theorem dX12_gives_134 : decode cX12_gives 134 = .ok (.iaload, 1) := by decide +kernel
theorem dX12_gives_135 : decode cX12_gives 135 = .ok (.istore 4, 2) := by decide +kernel
theorem dX12_gives_137 : decode cX12_gives 137 = .ok (.aload_n 0, 1) := by decide +kernel
theorem dX12_gives_138 : decode cX12_gives 138 = .ok (.getfield 98, 3) := by decide +kernel
theorem dX12_gives_141 : decode cX12_gives 141 = .ok (.sipush 212, 3) := by decide +kernel
theorem dX12_gives_144 : decode cX12_gives 144 = .ok (.dup2, 1) := by decide +kernel
theorem dX12_gives_145 : decode cX12_gives 145 = .ok (.iaload, 1) := by decide +kernel
theorem dX12_gives_146 : decode cX12_gives 146 = .ok (.iconst 1, 1) := by decide +kernel
theorem dX12_gives_147 : decode cX12_gives 147 = .ok (.isub, 1) := by decide +kernel
theorem dX12_gives_148 : decode cX12_gives 148 = .ok (.iastore, 1) := by decide +kernel
theorem dX12_gives_149 : decode cX12_gives 149 = .ok (.aload_n 0, 1) := by decide +kernel
theorem dX12_gives_150 : decode cX12_gives 150 = .ok (.getfield 98, 3) := by decide +kernel
theorem dX12_gives_153 : decode cX12_gives 153 = .ok (.sipush 212, 3) := by decide +kernel
theorem dX12_gives_156 : decode cX12_gives 156 = .ok (.iaload, 1) := by decide +kernel
theorem dX12_gives_157 : decode cX12_gives 157 = .ok (.ifCond .le 6, 3) := by decide +kernel
theorem dX12_gives_160 : decode cX12_gives 160 = .ok (.goto (-155), 3) := by decide +kernel
theorem dX12_gives_163 : decode cX12_gives 163 = .ok (.aload_n 0, 1) := by decide +kernel
theorem dX12_gives_164 : decode cX12_gives 164 = .ok (.getfield 98, 3) := by decide +kernel
theorem dX12_gives_167 : decode cX12_gives 167 = .ok (.sipush 210, 3) := by decide +kernel
theorem dX12_gives_170 : decode cX12_gives 170 = .ok (.iconst 2, 1) := by decide +kernel
theorem dX12_gives_171 : decode cX12_gives 171 = .ok (.iastore, 1) := by decide +kernel
theorem dX12_gives_172 : decode cX12_gives 172 = .ok (.aload_n 0, 1) := by decide +kernel
theorem dX12_gives_173 : decode cX12_gives 173 = .ok (.getfield 98, 3) := by decide +kernel
theorem dX12_gives_176 : decode cX12_gives 176 = .ok (.sipush 219, 3) := by decide +kernel
theorem dX12_gives_179 : decode cX12_gives 179 = .ok (.iload_n 3, 1) := by decide +kernel
theorem dX12_gives_180 : decode cX12_gives 180 = .ok (.iastore, 1) := by decide +kernel
theorem dX12_gives_181 : decode cX12_gives 181 = .ok (.aload_n 0, 1) := by decide +kernel
theorem dX12_gives_182 : decode cX12_gives 182 = .ok (.getfield 98, 3) := by decide +kernel
theorem dX12_gives_185 : decode cX12_gives 185 = .ok (.sipush 220, 3) := by decide +kernel
theorem dX12_gives_188 : decode cX12_gives 188 = .ok (.iload 4, 2) := by decide +kernel
theorem dX12_gives_190 : decode cX12_gives 190 = .ok (.iastore, 1) := by decide +kernel
theorem dX12_gives_191 : decode cX12_gives 191 = .ok (.return_, 1) := by decide +kernel
theorem dX12_callsFun_0 : decode cX12_callsFun 0 = .ok (.aload_n 0, 1) := by decide +kernel
theorem dX12_callsFun_1 : decode cX12_callsFun 1 = .ok (.iload_n 1, 1) := by decide +kernel
theorem dX12_callsFun_2 : decode cX12_callsFun 2 = .ok (.invokevirtual 349, 3) := by decide +kernel
theorem dX12_callsFun_5 : decode cX12_callsFun 5 = .ok (.istore_n 2, 1) := by decide +kernel
theorem dX12_callsFun_6 : decode cX12_callsFun 6 = .ok (.aload_n 0, 1) := by decide +kernel
theorem dX12_callsFun_7 : decode cX12_callsFun 7 = .ok (.getfield 98, 3) := by decide +kernel
theorem dX12_callsFun_10 : decode cX12_callsFun 10 = .ok (.bipush 42, 2) := by decide +kernel
theorem dX12_callsFun_12 : decode cX12_callsFun 12 = .ok (.iload_n 2, 1) := by decide +kernel
theorem dX12_callsFun_13 : decode cX12_callsFun 13 = .ok (.iadd, 1) := by decide +kernel
theorem dX12_callsFun_14 : decode cX12_callsFun 14 = .ok (.iaload, 1) := by decide +kernel
theorem dX12_callsFun_15 : decode cX12_callsFun 15 = .ok (.istore_n 3, 1) := by decide +kernel
theorem dX12_callsFun_16 : decode cX12_callsFun 16 = .ok (.aload_n 0, 1) := by decide +kernel
theorem dX12_callsFun_17 : decode cX12_callsFun 17 = .ok (.getfield 98, 3) := by decide +kernel
theorem dX12_callsFun_20 : decode cX12_callsFun 20 = .ok (.bipush 18, 2) := by decide +kernel
theorem dX12_callsFun_22 : decode cX12_callsFun 22 = .ok (.iload_n 2, 1) := by decide +kernel
theorem dX12_callsFun_23 : decode cX12_callsFun 23 = .ok (.iadd, 1) := by decide +kernel
theorem dX12_callsFun_24 : decode cX12_callsFun 24 = .ok (.iaload, 1) := by decide +kernel
theorem dX12_callsFun_25 : decode cX12_callsFun 25 = .ok (.bipush 8, 2) := by decide +kernel
theorem dX12_callsFun_27 : decode cX12_callsFun 27 = .ok (.if_icmp .ne 7, 3) := by decide +kernel
theorem dX12_callsFun_30 : decode cX12_callsFun 30 = .ok (.iconst 0, 1) := by decide +kernel
theorem dX12_callsFun_31 : decode cX12_callsFun 31 = .ok (.goto 4, 3) := by decide +kernel
theorem dX12_callsFun_34 : decode cX12_callsFun 34 = .ok (.iconst 1, 1) := by decide +kernel
theorem dX12_callsFun_35 : decode cX12_callsFun 35 = .ok (.istore 4, 2) := by decide +kernel
theorem dX12_callsFun_37 : decode cX12_callsFun 37 = .ok (.iconst 0, 1) := by decide +kernel
theorem dX12_callsFun_38 : decode cX12_callsFun 38 = .ok (.istore 5, 2) := by decide +kernel
theorem dX12_callsFun_40 : decode cX12_callsFun 40 = .ok (.iload 5, 2) := by decide +kernel
theorem dX12_callsFun_42 : decode cX12_callsFun 42 = .ok (.aload_n 0, 1) := by decide +kernel
theorem dX12_callsFun_43 : decode cX12_callsFun 43 = .ok (.getfield 98, 3) := by decide +kernel
theorem dX12_callsFun_46 : decode cX12_callsFun 46 = .ok (.iconst 3, 1) := by decide +kernel
theorem dX12_callsFun_47 : decode cX12_callsFun 47 = .ok (.iload_n 3, 1) := by decide +kernel
theorem dX12_callsFun_48 : decode cX12_callsFun 48 = .ok (.iadd, 1) := by decide +kernel
theorem dX12_callsFun_49 : decode cX12_callsFun 49 = .ok (.iaload, 1) := by decide +kernel
theorem dX12_callsFun_50 : decode cX12_callsFun 50 = .ok (.if_icmp .ge 43, 3) := by decide +kernel
theorem dX12_callsFun_53 : decode cX12_callsFun 53 = .ok (.aload_n 0, 1) := by decide +kernel
theorem dX12_callsFun_54 : decode cX12_callsFun 54 = .ok (.getfield 163, 3) := by decide +kernel
theorem dX12_callsFun_57 : decode cX12_callsFun 57 = .ok (.iload 5, 2) := by decide +kernel
theorem dX12_callsFun_59 : decode cX12_callsFun 59 = .ok (.aload_n 0, 1) := by decide +kernel
theorem dX12_callsFun_60 : decode cX12_callsFun 60 = .ok (.iload_n 1, 1) := by decide +kernel
theorem dX12_callsFun_61 : decode cX12_callsFun 61 = .ok (.iload 4, 2) := by decide +kernel
theorem dX12_callsFun_63 : decode cX12_callsFun 63 = .ok (.iload 5, 2) := by decide +kernel
theorem dX12_callsFun_65 : decode cX12_callsFun 65 = .ok (.iadd, 1) := by decide +kernel
theorem dX12_callsFun_66 : decode cX12_callsFun 66 = .ok (.invokevirtual 355, 3) := by decide +kernel
theorem dX12_callsFun_69 : decode cX12_callsFun 69 = .ok (.iastore, 1) := by decide +kernel
theorem dX12_callsFun_70 : decode cX12_callsFun 70 = .ok (.aload_n 0, 1) := by decide +kernel
theorem dX12_callsFun_71 : decode cX12_callsFun 71 = .ok (.getfield 166, 3) := by decide +kernel
theorem dX12_callsFun_74 : decode cX12_callsFun 74 = .ok (.iload 5, 2) := by decide +kernel
theorem dX12_callsFun_76 : decode cX12_callsFun 76 = .ok (.aload_n 0, 1) := by decide +kernel
theorem dX12_callsFun_77 : decode cX12_callsFun 77 = .ok (.iload_n 1, 1) := by decide +kernel
theorem dX12_callsFun_78 : decode cX12_callsFun 78 = .ok (.iload 4, 2) := by decide +kernel
theorem dX12_callsFun_80 : decode cX12_callsFun 80 = .ok (.iload 5, 2) := by decide +kernel
theorem dX12_callsFun_82 : decode cX12_callsFun 82 = .ok (.iadd, 1) := by decide +kernel
theorem dX12_callsFun_83 : decode cX12_callsFun 83 = .ok (.invokevirtual 352, 3) := by decide +kernel
theorem dX12_callsFun_86 : decode cX12_callsFun 86 = .ok (.iastore, 1) := by decide +kernel
theorem dX12_callsFun_87 : decode cX12_callsFun 87 = .ok (.iinc 5 1, 3) := by decide +kernel
theorem dX12_callsFun_90 : decode cX12_callsFun 90 = .ok (.goto (-50), 3) := by decide +kernel
theorem dX12_callsFun_93 : decode cX12_callsFun 93 = .ok (.aload_n 0, 1) := by decide +kernel
theorem dX12_callsFun_94 : decode cX12_callsFun 94 = .ok (.iload_n 1, 1) := by decide +kernel
theorem dX12_callsFun_95 : decode cX12_callsFun 95 = .ok (.invokevirtual 361, 3) := by decide +kernel
theorem dX12_callsFun_98 : decode cX12_callsFun 98 = .ok (.ifCond .eq 27, 3) := by decide +kernel
theorem dX12_callsFun_101 : decode cX12_callsFun 101 = .ok (.aload_n 0, 1) := by decide +kernel
theorem dX12_callsFun_102 : decode cX12_callsFun 102 = .ok (.getfield 98, 3) := by decide +kernel
theorem dX12_callsFun_105 : decode cX12_callsFun 105 = .ok (.sipush 212, 3) := by decide +kernel
theorem dX12_callsFun_108 : decode cX12_callsFun 108 = .ok (.dup2, 1) := by decide +kernel
theorem dX12_callsFun_109 : decode cX12_callsFun 109 = .ok (.iaload, 1) := by decide +kernel
theorem dX12_callsFun_110 : decode cX12_callsFun 110 = .ok (.iconst 1, 1) := by decide +kernel
theorem dX12_callsFun_111 : decode cX12_callsFun 111 = .ok (.isub, 1) := by decide +kernel
theorem dX12_callsFun_112 : decode cX12_callsFun 112 = .ok (.iastore, 1) := by decide +kernel
theorem dX12_callsFun_113 : decode cX12_callsFun 113 = .ok (.aload_n 0, 1) := by decide +kernel
theorem dX12_callsFun_114 : decode cX12_callsFun 114 = .ok (.getfield 98, 3) := by decide +kernel
theorem dX12_callsFun_117 : decode cX12_callsFun 117 = .ok (.sipush 218, 3) := by decide +kernel
theorem dX12_callsFun_120 : decode cX12_callsFun 120 = .ok (.dup2, 1) := by decide +kernel
theorem dX12_callsFun_121 : decode cX12_callsFun 121 = .ok (.iaload, 1) := by decide +kernel
theorem dX12_callsFun_122 : decode cX12_callsFun 122 = .ok (.iconst 1, 1) := by decide +kernel
theorem dX12_callsFun_123 : decode cX12_callsFun 123 = .ok (.iadd, 1) := by decide +kernel
theorem dX12_callsFun_124 : decode cX12_callsFun 124 = .ok (.iastore, 1) := by decide +kernel
theorem dX12_callsFun_125 : decode cX12_callsFun 125 = .ok (.aload_n 0, 1) := by decide +kernel
theorem dX12_callsFun_126 : decode cX12_callsFun 126 = .ok (.iload_n 3, 1) := by decide +kernel
theorem dX12_callsFun_127 : decode cX12_callsFun 127 = .ok (.invokevirtual 342, 3) := by decide +kernel
theorem dX12_callsFun_130 : decode cX12_callsFun 130 = .ok (.iconst 0, 1) := by decide +kernel
theorem dX12_callsFun_131 : decode cX12_callsFun 131 = .ok (.istore 5, 2) := by decide +kernel
theorem dX12_callsFun_133 : decode cX12_callsFun 133 = .ok (.iload 5, 2) := by decide +kernel
theorem dX12_callsFun_135 : decode cX12_callsFun 135 = .ok (.aload_n 0, 1) := by decide +kernel
theorem dX12_callsFun_136 : decode cX12_callsFun 136 = .ok (.getfield 98, 3) := by decide +kernel
theorem dX12_callsFun_139 : decode cX12_callsFun 139 = .ok (.iconst 3, 1) := by decide +kernel
theorem dX12_callsFun_140 : decode cX12_callsFun 140 = .ok (.iload_n 3, 1) := by decide +kernel
theorem dX12_callsFun_141 : decode cX12_callsFun 141 = .ok (.iadd, 1) := by decide +kernel
theorem dX12_callsFun_142 : decode cX12_callsFun 142 = .ok (.iaload, 1) := by decide +kernel
theorem dX12_callsFun_143 : decode cX12_callsFun 143 = .ok (.if_icmp .ge 39, 3) := by decide +kernel
theorem dX12_callsFun_146 : decode cX12_callsFun 146 = .ok (.aload_n 0, 1) := by decide +kernel
theorem dX12_callsFun_147 : decode cX12_callsFun 147 = .ok (.aload_n 0, 1) := by decide +kernel
theorem dX12_callsFun_148 : decode cX12_callsFun 148 = .ok (.getfield 98, 3) := by decide +kernel
theorem dX12_callsFun_151 : decode cX12_callsFun 151 = .ok (.sipush 212, 3) := by decide +kernel
theorem dX12_callsFun_154 : decode cX12_callsFun 154 = .ok (.iaload, 1) := by decide +kernel
theorem dX12_callsFun_155 : decode cX12_callsFun 155 = .ok (.iconst 1, 1) := by decide +kernel
theorem dX12_callsFun_156 : decode cX12_callsFun 156 = .ok (.isub, 1) := by decide +kernel
theorem dX12_callsFun_157 : decode cX12_callsFun 157 = .ok (.iload 5, 2) := by decide +kernel
theorem dX12_callsFun_159 : decode cX12_callsFun 159 = .ok (.aload_n 0, 1) := by decide +kernel
theorem dX12_callsFun_160 : decode cX12_callsFun 160 = .ok (.getfield 163, 3) := by decide +kernel
theorem dX12_callsFun_163 : decode cX12_callsFun 163 = .ok (.iload 5, 2) := by decide +kernel
theorem dX12_callsFun_165 : decode cX12_callsFun 165 = .ok (.iaload, 1) := by decide +kernel
theorem dX12_callsFun_166 : decode cX12_callsFun 166 = .ok (.aload_n 0, 1) := by decide +kernel
theorem dX12_callsFun_167 : decode cX12_callsFun 167 = .ok (.getfield 166, 3) := by decide +kernel
theorem dX12_callsFun_170 : decode cX12_callsFun 170 = .ok (.iload 5, 2) := by decide +kernel
theorem dX12_callsFun_172 : decode cX12_callsFun 172 = .ok (.iaload, 1) := by decide +kernel
theorem dX12_callsFun_173 : decode cX12_callsFun 173 = .ok (.invokevirtual 345, 3) := by decide +kernel
theorem dX12_callsFun_176 : decode cX12_callsFun 176 = .ok (.iinc 5 1, 3) := by decide +kernel
theorem dX12_callsFun_179 : decode cX12_callsFun 179 = .ok (.goto (-46), 3) := by decide +kernel
theorem dX12_callsFun_182 : decode cX12_callsFun 182 = .ok (.return_, 1) := by decide +kernel
theorem dX12_givesAt_0 : decode cX12_givesAt 0 = .ok (.aload_n 0, 1) := by decide +kernel
theorem dX12_givesAt_1 : decode cX12_givesAt 1 = .ok (.aload_n 0, 1) := by decide +kernel
theorem dX12_givesAt_2 : decode cX12_givesAt 2 = .ok (.iload_n 1, 1) := by decide +kernel
theorem dX12_givesAt_3 : decode cX12_givesAt 3 = .ok (.iload_n 2, 1) := by decide +kernel
theorem dX12_givesAt_4 : decode cX12_givesAt 4 = .ok (.invokevirtual 355, 3) := by decide +kernel
theorem dX12_givesAt_7 : decode cX12_givesAt 7 = .ok (.aload_n 0, 1) := by decide +kernel
theorem dX12_givesAt_8 : decode cX12_givesAt 8 = .ok (.iload_n 1, 1) := by decide +kernel
theorem dX12_givesAt_9 : decode cX12_givesAt 9 = .ok (.iload_n 2, 1) := by decide +kernel
theorem dX12_givesAt_10 : decode cX12_givesAt 10 = .ok (.invokevirtual 352, 3) := by decide +kernel
theorem dX12_givesAt_13 : decode cX12_givesAt 13 = .ok (.invokevirtual 373, 3) := by decide +kernel
theorem dX12_givesAt_16 : decode cX12_givesAt 16 = .ok (.return_, 1) := by decide +kernel
theorem dX12_does_0 : decode cX12_does 0 = .ok (.aload_n 0, 1) := by decide +kernel
theorem dX12_does_1 : decode cX12_does 1 = .ok (.iload_n 1, 1) := by decide +kernel
theorem dX12_does_2 : decode cX12_does 2 = .ok (.invokevirtual 349, 3) := by decide +kernel
theorem dX12_does_5 : decode cX12_does 5 = .ok (.istore_n 2, 1) := by decide +kernel
theorem dX12_does_6 : decode cX12_does 6 = .ok (.aload_n 0, 1) := by decide +kernel
theorem dX12_does_7 : decode cX12_does 7 = .ok (.getfield 98, 3) := by decide +kernel
theorem dX12_does_10 : decode cX12_does 10 = .ok (.bipush 18, 2) := by decide +kernel
theorem dX12_does_12 : decode cX12_does 12 = .ok (.iload_n 2, 1) := by decide +kernel
theorem dX12_does_13 : decode cX12_does 13 = .ok (.iadd, 1) := by decide +kernel
theorem dX12_does_14 : decode cX12_does 14 = .ok (.iaload, 1) := by decide +kernel
theorem dX12_does_15 : decode cX12_does 15 = .ok (.tableswitch 190 0 7 #[45, 61, 68, 79, 79, 125, 144, 170], 45) := by decide +kernel
theorem dX12_does_60 : decode cX12_does 60 = .ok (.aload_n 0, 1) := by decide +kernel
theorem dX12_does_61 : decode cX12_does 61 = .ok (.iconst 1, 1) := by decide +kernel
theorem dX12_does_62 : decode cX12_does 62 = .ok (.aload_n 0, 1) := by decide +kernel
theorem dX12_does_63 : decode cX12_does 63 = .ok (.getfield 98, 3) := by decide +kernel
theorem dX12_does_66 : decode cX12_does 66 = .ok (.sipush 186, 3) := by decide +kernel
theorem dX12_does_69 : decode cX12_does 69 = .ok (.iload_n 2, 1) := by decide +kernel
theorem dX12_does_70 : decode cX12_does 70 = .ok (.iadd, 1) := by decide +kernel
theorem dX12_does_71 : decode cX12_does 71 = .ok (.iaload, 1) := by decide +kernel
theorem dX12_does_72 : decode cX12_does 72 = .ok (.invokevirtual 373, 3) := by decide +kernel
theorem dX12_does_75 : decode cX12_does 75 = .ok (.return_, 1) := by decide +kernel
theorem dX12_does_76 : decode cX12_does 76 = .ok (.aload_n 0, 1) := by decide +kernel
theorem dX12_does_77 : decode cX12_does 77 = .ok (.iload_n 1, 1) := by decide +kernel
theorem dX12_does_78 : decode cX12_does 78 = .ok (.iconst 0, 1) := by decide +kernel
theorem dX12_does_79 : decode cX12_does 79 = .ok (.invokevirtual 376, 3) := by decide +kernel
theorem dX12_does_82 : decode cX12_does 82 = .ok (.return_, 1) := by decide +kernel
theorem dX12_does_83 : decode cX12_does 83 = .ok (.aload_n 0, 1) := by decide +kernel
theorem dX12_does_84 : decode cX12_does 84 = .ok (.iconst 2, 1) := by decide +kernel
theorem dX12_does_85 : decode cX12_does 85 = .ok (.aload_n 0, 1) := by decide +kernel
theorem dX12_does_86 : decode cX12_does 86 = .ok (.iload_n 1, 1) := by decide +kernel
theorem dX12_does_87 : decode cX12_does 87 = .ok (.invokevirtual 379, 3) := by decide +kernel
theorem dX12_does_90 : decode cX12_does 90 = .ok (.invokevirtual 373, 3) := by decide +kernel
theorem dX12_does_93 : decode cX12_does 93 = .ok (.return_, 1) := by decide +kernel
theorem dX12_does_94 : decode cX12_does 94 = .ok (.iconst 2, 1) := by decide +kernel
theorem dX12_does_95 : decode cX12_does 95 = .ok (.aload_n 0, 1) := by decide +kernel
theorem dX12_does_96 : decode cX12_does 96 = .ok (.iload_n 1, 1) := by decide +kernel
theorem dX12_does_97 : decode cX12_does 97 = .ok (.iconst 0, 1) := by decide +kernel
theorem dX12_does_98 : decode cX12_does 98 = .ok (.invokevirtual 352, 3) := by decide +kernel
theorem dX12_does_101 : decode cX12_does 101 = .ok (.imul, 1) := by decide +kernel
theorem dX12_does_102 : decode cX12_does 102 = .ok (.aload_n 0, 1) := by decide +kernel
theorem dX12_does_103 : decode cX12_does 103 = .ok (.getfield 98, 3) := by decide +kernel
theorem dX12_does_106 : decode cX12_does 106 = .ok (.bipush 18, 2) := by decide +kernel
theorem dX12_does_108 : decode cX12_does 108 = .ok (.iload_n 2, 1) := by decide +kernel
theorem dX12_does_109 : decode cX12_does 109 = .ok (.iadd, 1) := by decide +kernel
theorem dX12_does_110 : decode cX12_does 110 = .ok (.iaload, 1) := by decide +kernel
theorem dX12_does_111 : decode cX12_does 111 = .ok (.iadd, 1) := by decide +kernel
theorem dX12_does_112 : decode cX12_does 112 = .ok (.iconst 3, 1) := by decide +kernel
theorem dX12_does_113 : decode cX12_does 113 = .ok (.isub, 1) := by decide +kernel
theorem dX12_does_114 : decode cX12_does 114 = .ok (.istore_n 3, 1) := by decide +kernel
theorem dX12_does_115 : decode cX12_does 115 = .ok (.aload_n 0, 1) := by decide +kernel
theorem dX12_does_116 : decode cX12_does 116 = .ok (.aload_n 0, 1) := by decide +kernel
theorem dX12_does_117 : decode cX12_does 117 = .ok (.getfield 98, 3) := by decide +kernel
theorem dX12_does_120 : decode cX12_does 120 = .ok (.sipush 1293, 3) := by decide +kernel
theorem dX12_does_123 : decode cX12_does 123 = .ok (.iload_n 3, 1) := by decide +kernel
theorem dX12_does_124 : decode cX12_does 124 = .ok (.iadd, 1) := by decide +kernel
theorem dX12_does_125 : decode cX12_does 125 = .ok (.iaload, 1) := by decide +kernel
theorem dX12_does_126 : decode cX12_does 126 = .ok (.aload_n 0, 1) := by decide +kernel
theorem dX12_does_127 : decode cX12_does 127 = .ok (.getfield 98, 3) := by decide +kernel
theorem dX12_does_130 : decode cX12_does 130 = .ok (.sipush 1693, 3) := by decide +kernel
theorem dX12_does_133 : decode cX12_does 133 = .ok (.iload_n 3, 1) := by decide +kernel
theorem dX12_does_134 : decode cX12_does 134 = .ok (.iadd, 1) := by decide +kernel
theorem dX12_does_135 : decode cX12_does 135 = .ok (.iaload, 1) := by decide +kernel
theorem dX12_does_136 : decode cX12_does 136 = .ok (.invokevirtual 373, 3) := by decide +kernel
theorem dX12_does_139 : decode cX12_does 139 = .ok (.return_, 1) := by decide +kernel
theorem dX12_does_140 : decode cX12_does 140 = .ok (.aload_n 0, 1) := by decide +kernel
theorem dX12_does_141 : decode cX12_does 141 = .ok (.iconst 1, 1) := by decide +kernel
theorem dX12_does_142 : decode cX12_does 142 = .ok (.aload_n 0, 1) := by decide +kernel
theorem dX12_does_143 : decode cX12_does 143 = .ok (.iload_n 1, 1) := by decide +kernel
theorem dX12_does_144 : decode cX12_does 144 = .ok (.iconst 0, 1) := by decide +kernel
theorem dX12_does_145 : decode cX12_does 145 = .ok (.invokevirtual 352, 3) := by decide +kernel
theorem dX12_does_148 : decode cX12_does 148 = .ok (.aload_n 0, 1) := by decide +kernel
theorem dX12_does_149 : decode cX12_does 149 = .ok (.iload_n 1, 1) := by decide +kernel
theorem dX12_does_150 : decode cX12_does 150 = .ok (.iconst 1, 1) := by decide +kernel
theorem dX12_does_151 : decode cX12_does 151 = .ok (.invokevirtual 352, 3) := by decide +kernel
theorem dX12_does_154 : decode cX12_does 154 = .ok (.iadd, 1) := by decide +kernel
theorem dX12_does_155 : decode cX12_does 155 = .ok (.invokevirtual 373, 3) := by decide +kernel
theorem dX12_does_158 : decode cX12_does 158 = .ok (.return_, 1) := by decide +kernel
theorem dX12_does_159 : decode cX12_does 159 = .ok (.aload_n 0, 1) := by decide +kernel
theorem dX12_does_160 : decode cX12_does 160 = .ok (.iconst 1, 1) := by decide +kernel
theorem dX12_does_161 : decode cX12_does 161 = .ok (.aload_n 0, 1) := by decide +kernel
theorem dX12_does_162 : decode cX12_does 162 = .ok (.iload_n 1, 1) := by decide +kernel
theorem dX12_does_163 : decode cX12_does 163 = .ok (.iconst 0, 1) := by decide +kernel
theorem dX12_does_164 : decode cX12_does 164 = .ok (.invokevirtual 352, 3) := by decide +kernel
theorem dX12_does_167 : decode cX12_does 167 = .ok (.aload_n 0, 1) := by decide +kernel
theorem dX12_does_168 : decode cX12_does 168 = .ok (.iload_n 1, 1) := by decide +kernel
theorem dX12_does_169 : decode cX12_does 169 = .ok (.iconst 1, 1) := by decide +kernel
theorem dX12_does_170 : decode cX12_does 170 = .ok (.invokevirtual 352, 3) := by decide +kernel
theorem dX12_does_173 : decode cX12_does 173 = .ok (.if_icmp .ge 7, 3) := by decide +kernel
theorem dX12_does_176 : decode cX12_does 176 = .ok (.iconst 1, 1) := by decide +kernel
theorem dX12_does_177 : decode cX12_does 177 = .ok (.goto 4, 3) := by decide +kernel
theorem dX12_does_180 : decode cX12_does 180 = .ok (.iconst 0, 1) := by decide +kernel
theorem dX12_does_181 : decode cX12_does 181 = .ok (.invokevirtual 373, 3) := by decide +kernel
theorem dX12_does_184 : decode cX12_does 184 = .ok (.return_, 1) := by decide +kernel
theorem dX12_does_185 : decode cX12_does 185 = .ok (.aload_n 0, 1) := by decide +kernel
theorem dX12_does_186 : decode cX12_does 186 = .ok (.iload_n 1, 1) := by decide +kernel
theorem dX12_does_187 : decode cX12_does 187 = .ok (.aload_n 0, 1) := by decide +kernel
theorem dX12_does_188 : decode cX12_does 188 = .ok (.iload_n 1, 1) := by decide +kernel
theorem dX12_does_189 : decode cX12_does 189 = .ok (.iconst 0, 1) := by decide +kernel
theorem dX12_does_190 : decode cX12_does 190 = .ok (.invokevirtual 352, 3) := by decide +kernel
theorem dX12_does_193 : decode cX12_does 193 = .ok (.ifCond .eq 7, 3) := by decide +kernel
theorem dX12_does_196 : decode cX12_does 196 = .ok (.iconst 1, 1) := by decide +kernel
theorem dX12_does_197 : decode cX12_does 197 = .ok (.goto 4, 3) := by decide +kernel
theorem dX12_does_200 : decode cX12_does 200 = .ok (.iconst 2, 1) := by decide +kernel
theorem dX12_does_201 : decode cX12_does 201 = .ok (.invokevirtual 376, 3) := by decide +kernel
theorem dX12_does_204 : decode cX12_does 204 = .ok (.return_, 1) := by decide +kernel
theorem dX12_does_205 : decode cX12_does 205 = .ok (.aload_n 0, 1) := by decide +kernel
theorem dX12_does_206 : decode cX12_does 206 = .ok (.iload_n 1, 1) := by decide +kernel
theorem dX12_does_207 : decode cX12_does 207 = .ok (.invokevirtual 358, 3) := by decide +kernel
theorem dX12_does_210 : decode cX12_does 210 = .ok (.ifCond .eq 11, 3) := by decide +kernel
theorem dX12_does_213 : decode cX12_does 213 = .ok (.aload_n 0, 1) := by decide +kernel
theorem dX12_does_214 : decode cX12_does 214 = .ok (.iload_n 1, 1) := by decide +kernel
theorem dX12_does_215 : decode cX12_does 215 = .ok (.invokevirtual 382, 3) := by decide +kernel
theorem dX12_does_218 : decode cX12_does 218 = .ok (.goto 9, 3) := by decide +kernel
theorem dX12_does_221 : decode cX12_does 221 = .ok (.aload_n 0, 1) := by decide +kernel
theorem dX12_does_222 : decode cX12_does 222 = .ok (.iload_n 1, 1) := by decide +kernel
theorem dX12_does_223 : decode cX12_does 223 = .ok (.iconst 4, 1) := by decide +kernel
theorem dX12_does_224 : decode cX12_does 224 = .ok (.invokevirtual 376, 3) := by decide +kernel
theorem dX12_does_227 : decode cX12_does 227 = .ok (.return_, 1) := by decide +kernel
theorem dX12_oneStep_0 : decode cX12_oneStep 0 = .ok (.aload_n 0, 1) := by decide +kernel
theorem dX12_oneStep_1 : decode cX12_oneStep 1 = .ok (.getfield 98, 3) := by decide +kernel
theorem dX12_oneStep_4 : decode cX12_oneStep 4 = .ok (.sipush 212, 3) := by decide +kernel
theorem dX12_oneStep_7 : decode cX12_oneStep 7 = .ok (.iaload, 1) := by decide +kernel
theorem dX12_oneStep_8 : decode cX12_oneStep 8 = .ok (.iconst 1, 1) := by decide +kernel
theorem dX12_oneStep_9 : decode cX12_oneStep 9 = .ok (.isub, 1) := by decide +kernel
theorem dX12_oneStep_10 : decode cX12_oneStep 10 = .ok (.istore_n 1, 1) := by decide +kernel
theorem dX12_oneStep_11 : decode cX12_oneStep 11 = .ok (.aload_n 0, 1) := by decide +kernel
theorem dX12_oneStep_12 : decode cX12_oneStep 12 = .ok (.iload_n 1, 1) := by decide +kernel
theorem dX12_oneStep_13 : decode cX12_oneStep 13 = .ok (.invokevirtual 333, 3) := by decide +kernel
theorem dX12_oneStep_16 : decode cX12_oneStep 16 = .ok (.istore_n 2, 1) := by decide +kernel
theorem dX12_oneStep_17 : decode cX12_oneStep 17 = .ok (.iconst 0, 1) := by decide +kernel
theorem dX12_oneStep_18 : decode cX12_oneStep 18 = .ok (.istore_n 3, 1) := by decide +kernel
theorem dX12_oneStep_19 : decode cX12_oneStep 19 = .ok (.iload_n 3, 1) := by decide +kernel
theorem dX12_oneStep_20 : decode cX12_oneStep 20 = .ok (.aload_n 0, 1) := by decide +kernel
theorem dX12_oneStep_21 : decode cX12_oneStep 21 = .ok (.getfield 98, 3) := by decide +kernel
theorem dX12_oneStep_24 : decode cX12_oneStep 24 = .ok (.iconst 2, 1) := by decide +kernel
theorem dX12_oneStep_25 : decode cX12_oneStep 25 = .ok (.iaload, 1) := by decide +kernel
theorem dX12_oneStep_26 : decode cX12_oneStep 26 = .ok (.if_icmp .ge 38, 3) := by decide +kernel
theorem dX12_oneStep_29 : decode cX12_oneStep 29 = .ok (.aload_n 0, 1) := by decide +kernel
theorem dX12_oneStep_30 : decode cX12_oneStep 30 = .ok (.getfield 154, 3) := by decide +kernel
theorem dX12_oneStep_33 : decode cX12_oneStep 33 = .ok (.bipush 24, 2) := by decide +kernel
theorem dX12_oneStep_35 : decode cX12_oneStep 35 = .ok (.iload_n 2, 1) := by decide +kernel
theorem dX12_oneStep_36 : decode cX12_oneStep 36 = .ok (.imul, 1) := by decide +kernel
theorem dX12_oneStep_37 : decode cX12_oneStep 37 = .ok (.iload_n 3, 1) := by decide +kernel
theorem dX12_oneStep_38 : decode cX12_oneStep 38 = .ok (.iadd, 1) := by decide +kernel
theorem dX12_oneStep_39 : decode cX12_oneStep 39 = .ok (.iaload, 1) := by decide +kernel
theorem dX12_oneStep_40 : decode cX12_oneStep 40 = .ok (.aload_n 0, 1) := by decide +kernel
theorem dX12_oneStep_41 : decode cX12_oneStep 41 = .ok (.getfield 98, 3) := by decide +kernel
theorem dX12_oneStep_44 : decode cX12_oneStep 44 = .ok (.sipush 233, 3) := by decide +kernel
theorem dX12_oneStep_47 : decode cX12_oneStep 47 = .ok (.iload_n 1, 1) := by decide +kernel
theorem dX12_oneStep_48 : decode cX12_oneStep 48 = .ok (.iadd, 1) := by decide +kernel
theorem dX12_oneStep_49 : decode cX12_oneStep 49 = .ok (.iaload, 1) := by decide +kernel
theorem dX12_oneStep_50 : decode cX12_oneStep 50 = .ok (.if_icmp .ne 8, 3) := by decide +kernel
theorem dX12_oneStep_53 : decode cX12_oneStep 53 = .ok (.aload_n 0, 1) := by decide +kernel
theorem dX12_oneStep_54 : decode cX12_oneStep 54 = .ok (.iload_n 3, 1) := by decide +kernel
theorem dX12_oneStep_55 : decode cX12_oneStep 55 = .ok (.invokevirtual 339, 3) := by decide +kernel
theorem dX12_oneStep_58 : decode cX12_oneStep 58 = .ok (.iinc 3 1, 3) := by decide +kernel
theorem dX12_oneStep_61 : decode cX12_oneStep 61 = .ok (.goto (-42), 3) := by decide +kernel
theorem dX12_oneStep_64 : decode cX12_oneStep 64 = .ok (.aload_n 0, 1) := by decide +kernel
theorem dX12_oneStep_65 : decode cX12_oneStep 65 = .ok (.iload_n 1, 1) := by decide +kernel
theorem dX12_oneStep_66 : decode cX12_oneStep 66 = .ok (.invokevirtual 385, 3) := by decide +kernel
theorem dX12_oneStep_69 : decode cX12_oneStep 69 = .ok (.istore_n 3, 1) := by decide +kernel
theorem dX12_oneStep_70 : decode cX12_oneStep 70 = .ok (.aload_n 0, 1) := by decide +kernel
theorem dX12_oneStep_71 : decode cX12_oneStep 71 = .ok (.getfield 98, 3) := by decide +kernel
theorem dX12_oneStep_74 : decode cX12_oneStep 74 = .ok (.sipush 216, 3) := by decide +kernel
theorem dX12_oneStep_77 : decode cX12_oneStep 77 = .ok (.dup2, 1) := by decide +kernel
theorem dX12_oneStep_78 : decode cX12_oneStep 78 = .ok (.iaload, 1) := by decide +kernel
theorem dX12_oneStep_79 : decode cX12_oneStep 79 = .ok (.iconst 1, 1) := by decide +kernel
theorem dX12_oneStep_80 : decode cX12_oneStep 80 = .ok (.iadd, 1) := by decide +kernel
theorem dX12_oneStep_81 : decode cX12_oneStep 81 = .ok (.iastore, 1) := by decide +kernel
theorem dX12_oneStep_82 : decode cX12_oneStep 82 = .ok (.iload_n 3, 1) := by decide +kernel
theorem dX12_oneStep_83 : decode cX12_oneStep 83 = .ok (.ifCond .eq 24, 3) := by decide +kernel
theorem dX12_oneStep_86 : decode cX12_oneStep 86 = .ok (.aload_n 0, 1) := by decide +kernel
theorem dX12_oneStep_87 : decode cX12_oneStep 87 = .ok (.getfield 98, 3) := by decide +kernel
theorem dX12_oneStep_90 : decode cX12_oneStep 90 = .ok (.sipush 210, 3) := by decide +kernel
theorem dX12_oneStep_93 : decode cX12_oneStep 93 = .ok (.iconst 3, 1) := by decide +kernel
theorem dX12_oneStep_94 : decode cX12_oneStep 94 = .ok (.iastore, 1) := by decide +kernel
theorem dX12_oneStep_95 : decode cX12_oneStep 95 = .ok (.aload_n 0, 1) := by decide +kernel
theorem dX12_oneStep_96 : decode cX12_oneStep 96 = .ok (.getfield 98, 3) := by decide +kernel
theorem dX12_oneStep_99 : decode cX12_oneStep 99 = .ok (.sipush 211, 3) := by decide +kernel
theorem dX12_oneStep_102 : decode cX12_oneStep 102 = .ok (.iload_n 3, 1) := by decide +kernel
theorem dX12_oneStep_103 : decode cX12_oneStep 103 = .ok (.iastore, 1) := by decide +kernel
theorem dX12_oneStep_104 : decode cX12_oneStep 104 = .ok (.goto 8, 3) := by decide +kernel
theorem dX12_oneStep_107 : decode cX12_oneStep 107 = .ok (.aload_n 0, 1) := by decide +kernel
theorem dX12_oneStep_108 : decode cX12_oneStep 108 = .ok (.iload_n 1, 1) := by decide +kernel
theorem dX12_oneStep_109 : decode cX12_oneStep 109 = .ok (.invokevirtual 388, 3) := by decide +kernel
theorem dX12_oneStep_112 : decode cX12_oneStep 112 = .ok (.return_, 1) := by decide +kernel
theorem dX12_save_0 : decode cX12_save 0 = .ok (.iconst 0, 1) := by decide +kernel
theorem dX12_save_1 : decode cX12_save 1 = .ok (.istore_n 3, 1) := by decide +kernel
theorem dX12_save_2 : decode cX12_save 2 = .ok (.iload_n 3, 1) := by decide +kernel
theorem dX12_save_3 : decode cX12_save 3 = .ok (.sipush 2195, 3) := by decide +kernel
theorem dX12_save_6 : decode cX12_save 6 = .ok (.if_icmp .ge 24, 3) := by decide +kernel
theorem dX12_save_9 : decode cX12_save 9 = .ok (.aload_n 1, 1) := by decide +kernel
theorem dX12_save_10 : decode cX12_save 10 = .ok (.iload_n 2, 1) := by decide +kernel
theorem dX12_save_11 : decode cX12_save 11 = .ok (.iload_n 3, 1) := by decide +kernel
theorem dX12_save_12 : decode cX12_save 12 = .ok (.iadd, 1) := by decide +kernel
theorem dX12_save_13 : decode cX12_save 13 = .ok (.aload_n 0, 1) := by decide +kernel
theorem dX12_save_14 : decode cX12_save 14 = .ok (.getfield 98, 3) := by decide +kernel
theorem dX12_save_17 : decode cX12_save 17 = .ok (.sipush 210, 3) := by decide +kernel
theorem dX12_save_20 : decode cX12_save 20 = .ok (.iload_n 3, 1) := by decide +kernel
theorem dX12_save_21 : decode cX12_save 21 = .ok (.iadd, 1) := by decide +kernel
theorem dX12_save_22 : decode cX12_save 22 = .ok (.iaload, 1) := by decide +kernel
theorem dX12_save_23 : decode cX12_save 23 = .ok (.iastore, 1) := by decide +kernel
theorem dX12_save_24 : decode cX12_save 24 = .ok (.iinc 3 1, 3) := by decide +kernel
theorem dX12_save_27 : decode cX12_save 27 = .ok (.goto (-25), 3) := by decide +kernel
theorem dX12_save_30 : decode cX12_save 30 = .ok (.return_, 1) := by decide +kernel
theorem dX12_comeBack_0 : decode cX12_comeBack 0 = .ok (.iconst 0, 1) := by decide +kernel
theorem dX12_comeBack_1 : decode cX12_comeBack 1 = .ok (.istore_n 3, 1) := by decide +kernel
theorem dX12_comeBack_2 : decode cX12_comeBack 2 = .ok (.iload_n 3, 1) := by decide +kernel
theorem dX12_comeBack_3 : decode cX12_comeBack 3 = .ok (.sipush 2195, 3) := by decide +kernel
theorem dX12_comeBack_6 : decode cX12_comeBack 6 = .ok (.if_icmp .ge 24, 3) := by decide +kernel
theorem dX12_comeBack_9 : decode cX12_comeBack 9 = .ok (.aload_n 0, 1) := by decide +kernel
theorem dX12_comeBack_10 : decode cX12_comeBack 10 = .ok (.getfield 98, 3) := by decide +kernel
theorem dX12_comeBack_13 : decode cX12_comeBack 13 = .ok (.sipush 210, 3) := by decide +kernel
theorem dX12_comeBack_16 : decode cX12_comeBack 16 = .ok (.iload_n 3, 1) := by decide +kernel
theorem dX12_comeBack_17 : decode cX12_comeBack 17 = .ok (.iadd, 1) := by decide +kernel
theorem dX12_comeBack_18 : decode cX12_comeBack 18 = .ok (.aload_n 1, 1) := by decide +kernel
theorem dX12_comeBack_19 : decode cX12_comeBack 19 = .ok (.iload_n 2, 1) := by decide +kernel
theorem dX12_comeBack_20 : decode cX12_comeBack 20 = .ok (.iload_n 3, 1) := by decide +kernel
theorem dX12_comeBack_21 : decode cX12_comeBack 21 = .ok (.iadd, 1) := by decide +kernel
theorem dX12_comeBack_22 : decode cX12_comeBack 22 = .ok (.iaload, 1) := by decide +kernel
theorem dX12_comeBack_23 : decode cX12_comeBack 23 = .ok (.iastore, 1) := by decide +kernel
theorem dX12_comeBack_24 : decode cX12_comeBack 24 = .ok (.iinc 3 1, 3) := by decide +kernel
theorem dX12_comeBack_27 : decode cX12_comeBack 27 = .ok (.goto (-25), 3) := by decide +kernel
theorem dX12_comeBack_30 : decode cX12_comeBack 30 = .ok (.return_, 1) := by decide +kernel
theorem dX12_snap_0 : decode cX12_snap 0 = .ok (.aload_n 0, 1) := by decide +kernel
theorem dX12_snap_1 : decode cX12_snap 1 = .ok (.getfield 245, 3) := by decide +kernel
theorem dX12_snap_4 : decode cX12_snap 4 = .ok (.bipush 8, 2) := by decide +kernel
theorem dX12_snap_6 : decode cX12_snap 6 = .ok (.if_icmp .ne 44, 3) := by decide +kernel
theorem dX12_snap_9 : decode cX12_snap 9 = .ok (.iconst 0, 1) := by decide +kernel
theorem dX12_snap_10 : decode cX12_snap 10 = .ok (.istore_n 1, 1) := by decide +kernel
theorem dX12_snap_11 : decode cX12_snap 11 = .ok (.iload_n 1, 1) := by decide +kernel
theorem dX12_snap_12 : decode cX12_snap 12 = .ok (.sipush 15365, 3) := by decide +kernel
theorem dX12_snap_15 : decode cX12_snap 15 = .ok (.if_icmp .ge 25, 3) := by decide +kernel
theorem dX12_snap_18 : decode cX12_snap 18 = .ok (.aload_n 0, 1) := by decide +kernel
theorem dX12_snap_19 : decode cX12_snap 19 = .ok (.getfield 107, 3) := by decide +kernel
theorem dX12_snap_22 : decode cX12_snap 22 = .ok (.iload_n 1, 1) := by decide +kernel
theorem dX12_snap_23 : decode cX12_snap 23 = .ok (.aload_n 0, 1) := by decide +kernel
theorem dX12_snap_24 : decode cX12_snap 24 = .ok (.getfield 107, 3) := by decide +kernel
theorem dX12_snap_27 : decode cX12_snap 27 = .ok (.iload_n 1, 1) := by decide +kernel
theorem dX12_snap_28 : decode cX12_snap 28 = .ok (.sipush 2195, 3) := by decide +kernel
theorem dX12_snap_31 : decode cX12_snap 31 = .ok (.iadd, 1) := by decide +kernel
theorem dX12_snap_32 : decode cX12_snap 32 = .ok (.iaload, 1) := by decide +kernel
theorem dX12_snap_33 : decode cX12_snap 33 = .ok (.iastore, 1) := by decide +kernel
theorem dX12_snap_34 : decode cX12_snap 34 = .ok (.iinc 1 1, 3) := by decide +kernel
theorem dX12_snap_37 : decode cX12_snap 37 = .ok (.goto (-26), 3) := by decide +kernel
theorem dX12_snap_40 : decode cX12_snap 40 = .ok (.aload_n 0, 1) := by decide +kernel
theorem dX12_snap_41 : decode cX12_snap 41 = .ok (.dup, 1) := by decide +kernel
theorem dX12_snap_42 : decode cX12_snap 42 = .ok (.getfield 245, 3) := by decide +kernel
theorem dX12_snap_45 : decode cX12_snap 45 = .ok (.iconst 1, 1) := by decide +kernel
theorem dX12_snap_46 : decode cX12_snap 46 = .ok (.isub, 1) := by decide +kernel
theorem dX12_snap_47 : decode cX12_snap 47 = .ok (.putfield 245, 3) := by decide +kernel
theorem dX12_snap_50 : decode cX12_snap 50 = .ok (.aload_n 0, 1) := by decide +kernel
theorem dX12_snap_51 : decode cX12_snap 51 = .ok (.aload_n 0, 1) := by decide +kernel
theorem dX12_snap_52 : decode cX12_snap 52 = .ok (.getfield 107, 3) := by decide +kernel
theorem dX12_snap_55 : decode cX12_snap 55 = .ok (.sipush 2195, 3) := by decide +kernel
theorem dX12_snap_58 : decode cX12_snap 58 = .ok (.aload_n 0, 1) := by decide +kernel
theorem dX12_snap_59 : decode cX12_snap 59 = .ok (.getfield 245, 3) := by decide +kernel
theorem dX12_snap_62 : decode cX12_snap 62 = .ok (.imul, 1) := by decide +kernel
theorem dX12_snap_63 : decode cX12_snap 63 = .ok (.invokevirtual 391, 3) := by decide +kernel
theorem dX12_snap_66 : decode cX12_snap 66 = .ok (.aload_n 0, 1) := by decide +kernel
theorem dX12_snap_67 : decode cX12_snap 67 = .ok (.dup, 1) := by decide +kernel
theorem dX12_snap_68 : decode cX12_snap 68 = .ok (.getfield 245, 3) := by decide +kernel
theorem dX12_snap_71 : decode cX12_snap 71 = .ok (.iconst 1, 1) := by decide +kernel
theorem dX12_snap_72 : decode cX12_snap 72 = .ok (.iadd, 1) := by decide +kernel
theorem dX12_snap_73 : decode cX12_snap 73 = .ok (.putfield 245, 3) := by decide +kernel
theorem dX12_snap_76 : decode cX12_snap 76 = .ok (.return_, 1) := by decide +kernel
theorem dX12_undo_0 : decode cX12_undo 0 = .ok (.aload_n 0, 1) := by decide +kernel
theorem dX12_undo_1 : decode cX12_undo 1 = .ok (.iconst 0, 1) := by decide +kernel
theorem dX12_undo_2 : decode cX12_undo 2 = .ok (.putfield 1, 3) := by decide +kernel
theorem dX12_undo_5 : decode cX12_undo 5 = .ok (.aload_n 0, 1) := by decide +kernel
theorem dX12_undo_6 : decode cX12_undo 6 = .ok (.getfield 245, 3) := by decide +kernel
theorem dX12_undo_9 : decode cX12_undo 9 = .ok (.ifCond .ne 5, 3) := by decide +kernel
theorem dX12_undo_12 : decode cX12_undo 12 = .ok (.iconst (-1), 1) := by decide +kernel
theorem dX12_undo_13 : decode cX12_undo 13 = .ok (.ireturn, 1) := by decide +kernel
theorem dX12_undo_14 : decode cX12_undo 14 = .ok (.aload_n 0, 1) := by decide +kernel
theorem dX12_undo_15 : decode cX12_undo 15 = .ok (.dup, 1) := by decide +kernel
theorem dX12_undo_16 : decode cX12_undo 16 = .ok (.getfield 245, 3) := by decide +kernel
theorem dX12_undo_19 : decode cX12_undo 19 = .ok (.iconst 1, 1) := by decide +kernel
theorem dX12_undo_20 : decode cX12_undo 20 = .ok (.isub, 1) := by decide +kernel
theorem dX12_undo_21 : decode cX12_undo 21 = .ok (.putfield 245, 3) := by decide +kernel
theorem dX12_undo_24 : decode cX12_undo 24 = .ok (.aload_n 0, 1) := by decide +kernel
theorem dX12_undo_25 : decode cX12_undo 25 = .ok (.aload_n 0, 1) := by decide +kernel
theorem dX12_undo_26 : decode cX12_undo 26 = .ok (.getfield 107, 3) := by decide +kernel
theorem dX12_undo_29 : decode cX12_undo 29 = .ok (.sipush 2195, 3) := by decide +kernel
theorem dX12_undo_32 : decode cX12_undo 32 = .ok (.aload_n 0, 1) := by decide +kernel
theorem dX12_undo_33 : decode cX12_undo 33 = .ok (.getfield 245, 3) := by decide +kernel
theorem dX12_undo_36 : decode cX12_undo 36 = .ok (.imul, 1) := by decide +kernel
theorem dX12_undo_37 : decode cX12_undo 37 = .ok (.invokevirtual 395, 3) := by decide +kernel
theorem dX12_undo_40 : decode cX12_undo 40 = .ok (.aload_n 0, 1) := by decide +kernel
theorem dX12_undo_41 : decode cX12_undo 41 = .ok (.getfield 245, 3) := by decide +kernel
theorem dX12_undo_44 : decode cX12_undo 44 = .ok (.ireturn, 1) := by decide +kernel
theorem dX12_canLoad_0 : decode cX12_canLoad 0 = .ok (.aload_n 0, 1) := by decide +kernel
theorem dX12_canLoad_1 : decode cX12_canLoad 1 = .ok (.getfield 98, 3) := by decide +kernel
theorem dX12_canLoad_4 : decode cX12_canLoad 4 = .ok (.iconst 0, 1) := by decide +kernel
theorem dX12_canLoad_5 : decode cX12_canLoad 5 = .ok (.iaload, 1) := by decide +kernel
theorem dX12_canLoad_6 : decode cX12_canLoad 6 = .ok (.ifCond .le 22, 3) := by decide +kernel
theorem dX12_canLoad_9 : decode cX12_canLoad 9 = .ok (.iload_n 1, 1) := by decide +kernel
theorem dX12_canLoad_10 : decode cX12_canLoad 10 = .ok (.aload_n 0, 1) := by decide +kernel
theorem dX12_canLoad_11 : decode cX12_canLoad 11 = .ok (.getfield 98, 3) := by decide +kernel
theorem dX12_canLoad_14 : decode cX12_canLoad 14 = .ok (.iconst 3, 1) := by decide +kernel
theorem dX12_canLoad_15 : decode cX12_canLoad 15 = .ok (.aload_n 0, 1) := by decide +kernel
theorem dX12_canLoad_16 : decode cX12_canLoad 16 = .ok (.invokevirtual 297, 3) := by decide +kernel
theorem dX12_canLoad_19 : decode cX12_canLoad 19 = .ok (.iadd, 1) := by decide +kernel
theorem dX12_canLoad_20 : decode cX12_canLoad 20 = .ok (.iaload, 1) := by decide +kernel
theorem dX12_canLoad_21 : decode cX12_canLoad 21 = .ok (.if_icmp .ne 7, 3) := by decide +kernel
theorem dX12_canLoad_24 : decode cX12_canLoad 24 = .ok (.iconst 1, 1) := by decide +kernel
theorem dX12_canLoad_25 : decode cX12_canLoad 25 = .ok (.goto 4, 3) := by decide +kernel
theorem dX12_canLoad_28 : decode cX12_canLoad 28 = .ok (.iconst 0, 1) := by decide +kernel
theorem dX12_canLoad_29 : decode cX12_canLoad 29 = .ok (.ireturn, 1) := by decide +kernel
theorem dX12_load_0 : decode cX12_load 0 = .ok (.aload_n 0, 1) := by decide +kernel
theorem dX12_load_1 : decode cX12_load 1 = .ok (.iconst 0, 1) := by decide +kernel
theorem dX12_load_2 : decode cX12_load 2 = .ok (.putfield 1, 3) := by decide +kernel
theorem dX12_load_5 : decode cX12_load 5 = .ok (.aload_n 0, 1) := by decide +kernel
theorem dX12_load_6 : decode cX12_load 6 = .ok (.aload_n 0, 1) := by decide +kernel
theorem dX12_load_7 : decode cX12_load 7 = .ok (.invokevirtual 89, 3) := by decide +kernel
theorem dX12_load_10 : decode cX12_load 10 = .ok (.invokevirtual 398, 3) := by decide +kernel
theorem dX12_load_13 : decode cX12_load 13 = .ok (.ifCond .ne 5, 3) := by decide +kernel
theorem dX12_load_16 : decode cX12_load 16 = .ok (.iconst 0, 1) := by decide +kernel
theorem dX12_load_17 : decode cX12_load 17 = .ok (.ireturn, 1) := by decide +kernel
theorem dX12_load_18 : decode cX12_load 18 = .ok (.aload_n 0, 1) := by decide +kernel
theorem dX12_load_19 : decode cX12_load 19 = .ok (.invokevirtual 401, 3) := by decide +kernel
theorem dX12_load_22 : decode cX12_load 22 = .ok (.aload_n 0, 1) := by decide +kernel
theorem dX12_load_23 : decode cX12_load 23 = .ok (.aload_n 0, 1) := by decide +kernel
theorem dX12_load_24 : decode cX12_load 24 = .ok (.getfield 7, 3) := by decide +kernel
theorem dX12_load_27 : decode cX12_load 27 = .ok (.invokevirtual 404, 3) := by decide +kernel
theorem dX12_load_30 : decode cX12_load 30 = .ok (.iconst 1, 1) := by decide +kernel
theorem dX12_load_31 : decode cX12_load 31 = .ok (.ireturn, 1) := by decide +kernel
theorem dX12_steps_0 : decode cX12_steps 0 = .ok (.aload_n 0, 1) := by decide +kernel
theorem dX12_steps_1 : decode cX12_steps 1 = .ok (.iconst 0, 1) := by decide +kernel
theorem dX12_steps_2 : decode cX12_steps 2 = .ok (.putfield 1, 3) := by decide +kernel
theorem dX12_steps_5 : decode cX12_steps 5 = .ok (.iload_n 1, 1) := by decide +kernel
theorem dX12_steps_6 : decode cX12_steps 6 = .ok (.iconst 1, 1) := by decide +kernel
theorem dX12_steps_7 : decode cX12_steps 7 = .ok (.sipush 500, 3) := by decide +kernel
theorem dX12_steps_10 : decode cX12_steps 10 = .ok (.invokestatic 75, 3) := by decide +kernel
theorem dX12_steps_13 : decode cX12_steps 13 = .ok (.ifCond .ne 5, 3) := by decide +kernel
theorem dX12_steps_16 : decode cX12_steps 16 = .ok (.iconst (-1), 1) := by decide +kernel
theorem dX12_steps_17 : decode cX12_steps 17 = .ok (.ireturn, 1) := by decide +kernel
theorem dX12_steps_18 : decode cX12_steps 18 = .ok (.aload_n 0, 1) := by decide +kernel
theorem dX12_steps_19 : decode cX12_steps 19 = .ok (.getfield 98, 3) := by decide +kernel
theorem dX12_steps_22 : decode cX12_steps 22 = .ok (.sipush 210, 3) := by decide +kernel
theorem dX12_steps_25 : decode cX12_steps 25 = .ok (.iaload, 1) := by decide +kernel
theorem dX12_steps_26 : decode cX12_steps 26 = .ok (.iconst 1, 1) := by decide +kernel
theorem dX12_steps_27 : decode cX12_steps 27 = .ok (.if_icmp .eq 5, 3) := by decide +kernel
theorem dX12_steps_30 : decode cX12_steps 30 = .ok (.iconst 0, 1) := by decide +kernel
theorem dX12_steps_31 : decode cX12_steps 31 = .ok (.ireturn, 1) := by decide +kernel
theorem dX12_steps_32 : decode cX12_steps 32 = .ok (.aload_n 0, 1) := by decide +kernel
theorem dX12_steps_33 : decode cX12_steps 33 = .ok (.invokevirtual 401, 3) := by decide +kernel
theorem dX12_steps_36 : decode cX12_steps 36 = .ok (.iconst 0, 1) := by decide +kernel
theorem dX12_steps_37 : decode cX12_steps 37 = .ok (.istore_n 2, 1) := by decide +kernel
theorem dX12_steps_38 : decode cX12_steps 38 = .ok (.iload_n 2, 1) := by decide +kernel
theorem dX12_steps_39 : decode cX12_steps 39 = .ok (.iload_n 1, 1) := by decide +kernel
theorem dX12_steps_40 : decode cX12_steps 40 = .ok (.if_icmp .ge 25, 3) := by decide +kernel
theorem dX12_steps_43 : decode cX12_steps 43 = .ok (.aload_n 0, 1) := by decide +kernel
theorem dX12_steps_44 : decode cX12_steps 44 = .ok (.getfield 98, 3) := by decide +kernel
theorem dX12_steps_47 : decode cX12_steps 47 = .ok (.sipush 210, 3) := by decide +kernel
theorem dX12_steps_50 : decode cX12_steps 50 = .ok (.iaload, 1) := by decide +kernel
theorem dX12_steps_51 : decode cX12_steps 51 = .ok (.iconst 1, 1) := by decide +kernel
theorem dX12_steps_52 : decode cX12_steps 52 = .ok (.if_icmp .ne 13, 3) := by decide +kernel
theorem dX12_steps_55 : decode cX12_steps 55 = .ok (.aload_n 0, 1) := by decide +kernel
theorem dX12_steps_56 : decode cX12_steps 56 = .ok (.invokevirtual 408, 3) := by decide +kernel
theorem dX12_steps_59 : decode cX12_steps 59 = .ok (.iinc 2 1, 3) := by decide +kernel
theorem dX12_steps_62 : decode cX12_steps 62 = .ok (.goto (-24), 3) := by decide +kernel
theorem dX12_steps_65 : decode cX12_steps 65 = .ok (.iload_n 2, 1) := by decide +kernel
theorem dX12_steps_66 : decode cX12_steps 66 = .ok (.ireturn, 1) := by decide +kernel
theorem dX12_now_0 : decode cX12_now 0 = .ok (.aload_n 0, 1) := by decide +kernel
theorem dX12_now_1 : decode cX12_now 1 = .ok (.iconst 0, 1) := by decide +kernel
theorem dX12_now_2 : decode cX12_now 2 = .ok (.putfield 1, 3) := by decide +kernel
theorem dX12_now_5 : decode cX12_now 5 = .ok (.aload_n 0, 1) := by decide +kernel
theorem dX12_now_6 : decode cX12_now 6 = .ok (.getfield 98, 3) := by decide +kernel
theorem dX12_now_9 : decode cX12_now 9 = .ok (.sipush 212, 3) := by decide +kernel
theorem dX12_now_12 : decode cX12_now 12 = .ok (.iaload, 1) := by decide +kernel
theorem dX12_now_13 : decode cX12_now 13 = .ok (.iconst 1, 1) := by decide +kernel
theorem dX12_now_14 : decode cX12_now 14 = .ok (.isub, 1) := by decide +kernel
theorem dX12_now_15 : decode cX12_now 15 = .ok (.istore_n 2, 1) := by decide +kernel
theorem dX12_now_16 : decode cX12_now 16 = .ok (.iload_n 1, 1) := by decide +kernel
theorem dX12_now_17 : decode cX12_now 17 = .ok (.tableswitch 173 0 10 #[59, 68, 77, 86, 100, 119, 128, 137, 146, 155, 164], 59) := by decide +kernel
theorem dX12_now_76 : decode cX12_now 76 = .ok (.aload_n 0, 1) := by decide +kernel
theorem dX12_now_77 : decode cX12_now 77 = .ok (.getfield 98, 3) := by decide +kernel
theorem dX12_now_80 : decode cX12_now 80 = .ok (.sipush 210, 3) := by decide +kernel
theorem dX12_now_83 : decode cX12_now 83 = .ok (.iaload, 1) := by decide +kernel
theorem dX12_now_84 : decode cX12_now 84 = .ok (.ireturn, 1) := by decide +kernel
theorem dX12_now_85 : decode cX12_now 85 = .ok (.aload_n 0, 1) := by decide +kernel
theorem dX12_now_86 : decode cX12_now 86 = .ok (.getfield 98, 3) := by decide +kernel
theorem dX12_now_89 : decode cX12_now 89 = .ok (.sipush 211, 3) := by decide +kernel
theorem dX12_now_92 : decode cX12_now 92 = .ok (.iaload, 1) := by decide +kernel
theorem dX12_now_93 : decode cX12_now 93 = .ok (.ireturn, 1) := by decide +kernel
theorem dX12_now_94 : decode cX12_now 94 = .ok (.aload_n 0, 1) := by decide +kernel
theorem dX12_now_95 : decode cX12_now 95 = .ok (.getfield 98, 3) := by decide +kernel
theorem dX12_now_98 : decode cX12_now 98 = .ok (.sipush 212, 3) := by decide +kernel
theorem dX12_now_101 : decode cX12_now 101 = .ok (.iaload, 1) := by decide +kernel
theorem dX12_now_102 : decode cX12_now 102 = .ok (.ireturn, 1) := by decide +kernel
theorem dX12_now_103 : decode cX12_now 103 = .ok (.iload_n 2, 1) := by decide +kernel
theorem dX12_now_104 : decode cX12_now 104 = .ok (.ifCond .ge 7, 3) := by decide +kernel
theorem dX12_now_107 : decode cX12_now 107 = .ok (.iconst (-1), 1) := by decide +kernel
theorem dX12_now_108 : decode cX12_now 108 = .ok (.goto 8, 3) := by decide +kernel
theorem dX12_now_111 : decode cX12_now 111 = .ok (.aload_n 0, 1) := by decide +kernel
theorem dX12_now_112 : decode cX12_now 112 = .ok (.iload_n 2, 1) := by decide +kernel
theorem dX12_now_113 : decode cX12_now 113 = .ok (.invokevirtual 333, 3) := by decide +kernel
theorem dX12_now_116 : decode cX12_now 116 = .ok (.ireturn, 1) := by decide +kernel
theorem dX12_now_117 : decode cX12_now 117 = .ok (.iload_n 2, 1) := by decide +kernel
theorem dX12_now_118 : decode cX12_now 118 = .ok (.ifCond .ge 7, 3) := by decide +kernel
theorem dX12_now_121 : decode cX12_now 121 = .ok (.iconst (-1), 1) := by decide +kernel
theorem dX12_now_122 : decode cX12_now 122 = .ok (.goto 13, 3) := by decide +kernel
theorem dX12_now_125 : decode cX12_now 125 = .ok (.aload_n 0, 1) := by decide +kernel
theorem dX12_now_126 : decode cX12_now 126 = .ok (.getfield 98, 3) := by decide +kernel
theorem dX12_now_129 : decode cX12_now 129 = .ok (.sipush 233, 3) := by decide +kernel
theorem dX12_now_132 : decode cX12_now 132 = .ok (.iload_n 2, 1) := by decide +kernel
theorem dX12_now_133 : decode cX12_now 133 = .ok (.iadd, 1) := by decide +kernel
theorem dX12_now_134 : decode cX12_now 134 = .ok (.iaload, 1) := by decide +kernel
theorem dX12_now_135 : decode cX12_now 135 = .ok (.ireturn, 1) := by decide +kernel
theorem dX12_now_136 : decode cX12_now 136 = .ok (.aload_n 0, 1) := by decide +kernel
theorem dX12_now_137 : decode cX12_now 137 = .ok (.getfield 98, 3) := by decide +kernel
theorem dX12_now_140 : decode cX12_now 140 = .ok (.sipush 213, 3) := by decide +kernel
theorem dX12_now_143 : decode cX12_now 143 = .ok (.iaload, 1) := by decide +kernel
theorem dX12_now_144 : decode cX12_now 144 = .ok (.ireturn, 1) := by decide +kernel
theorem dX12_now_145 : decode cX12_now 145 = .ok (.aload_n 0, 1) := by decide +kernel
theorem dX12_now_146 : decode cX12_now 146 = .ok (.getfield 98, 3) := by decide +kernel
theorem dX12_now_149 : decode cX12_now 149 = .ok (.sipush 214, 3) := by decide +kernel
theorem dX12_now_152 : decode cX12_now 152 = .ok (.iaload, 1) := by decide +kernel
theorem dX12_now_153 : decode cX12_now 153 = .ok (.ireturn, 1) := by decide +kernel
theorem dX12_now_154 : decode cX12_now 154 = .ok (.aload_n 0, 1) := by decide +kernel
theorem dX12_now_155 : decode cX12_now 155 = .ok (.getfield 98, 3) := by decide +kernel
theorem dX12_now_158 : decode cX12_now 158 = .ok (.sipush 215, 3) := by decide +kernel
theorem dX12_now_161 : decode cX12_now 161 = .ok (.iaload, 1) := by decide +kernel
theorem dX12_now_162 : decode cX12_now 162 = .ok (.ireturn, 1) := by decide +kernel
theorem dX12_now_163 : decode cX12_now 163 = .ok (.aload_n 0, 1) := by decide +kernel
theorem dX12_now_164 : decode cX12_now 164 = .ok (.getfield 98, 3) := by decide +kernel
theorem dX12_now_167 : decode cX12_now 167 = .ok (.sipush 216, 3) := by decide +kernel
theorem dX12_now_170 : decode cX12_now 170 = .ok (.iaload, 1) := by decide +kernel
theorem dX12_now_171 : decode cX12_now 171 = .ok (.ireturn, 1) := by decide +kernel
theorem dX12_now_172 : decode cX12_now 172 = .ok (.aload_n 0, 1) := by decide +kernel
theorem dX12_now_173 : decode cX12_now 173 = .ok (.getfield 98, 3) := by decide +kernel
theorem dX12_now_176 : decode cX12_now 176 = .ok (.sipush 217, 3) := by decide +kernel
theorem dX12_now_179 : decode cX12_now 179 = .ok (.iaload, 1) := by decide +kernel
theorem dX12_now_180 : decode cX12_now 180 = .ok (.ireturn, 1) := by decide +kernel
theorem dX12_now_181 : decode cX12_now 181 = .ok (.aload_n 0, 1) := by decide +kernel
theorem dX12_now_182 : decode cX12_now 182 = .ok (.getfield 98, 3) := by decide +kernel
theorem dX12_now_185 : decode cX12_now 185 = .ok (.sipush 218, 3) := by decide +kernel
theorem dX12_now_188 : decode cX12_now 188 = .ok (.iaload, 1) := by decide +kernel
theorem dX12_now_189 : decode cX12_now 189 = .ok (.ireturn, 1) := by decide +kernel
theorem dX12_now_190 : decode cX12_now 190 = .ok (.iconst (-1), 1) := by decide +kernel
theorem dX12_now_191 : decode cX12_now 191 = .ok (.ireturn, 1) := by decide +kernel
theorem dX12_isVar_0 : decode cX12_isVar 0 = .ok (.iload_n 1, 1) := by decide +kernel
theorem dX12_isVar_1 : decode cX12_isVar 1 = .ok (.iconst 0, 1) := by decide +kernel
theorem dX12_isVar_2 : decode cX12_isVar 2 = .ok (.aload_n 0, 1) := by decide +kernel
theorem dX12_isVar_3 : decode cX12_isVar 3 = .ok (.getfield 98, 3) := by decide +kernel
theorem dX12_isVar_6 : decode cX12_isVar 6 = .ok (.sipush 212, 3) := by decide +kernel
theorem dX12_isVar_9 : decode cX12_isVar 9 = .ok (.iaload, 1) := by decide +kernel
theorem dX12_isVar_10 : decode cX12_isVar 10 = .ok (.iconst 1, 1) := by decide +kernel
theorem dX12_isVar_11 : decode cX12_isVar 11 = .ok (.isub, 1) := by decide +kernel
theorem dX12_isVar_12 : decode cX12_isVar 12 = .ok (.invokestatic 75, 3) := by decide +kernel
theorem dX12_isVar_15 : decode cX12_isVar 15 = .ok (.ifCond .eq 30, 3) := by decide +kernel
theorem dX12_isVar_18 : decode cX12_isVar 18 = .ok (.iload_n 2, 1) := by decide +kernel
theorem dX12_isVar_19 : decode cX12_isVar 19 = .ok (.iconst 0, 1) := by decide +kernel
theorem dX12_isVar_20 : decode cX12_isVar 20 = .ok (.aload_n 0, 1) := by decide +kernel
theorem dX12_isVar_21 : decode cX12_isVar 21 = .ok (.aload_n 0, 1) := by decide +kernel
theorem dX12_isVar_22 : decode cX12_isVar 22 = .ok (.getfield 98, 3) := by decide +kernel
theorem dX12_isVar_25 : decode cX12_isVar 25 = .ok (.aload_n 0, 1) := by decide +kernel
theorem dX12_isVar_26 : decode cX12_isVar 26 = .ok (.iload_n 1, 1) := by decide +kernel
theorem dX12_isVar_27 : decode cX12_isVar 27 = .ok (.invokevirtual 333, 3) := by decide +kernel
theorem dX12_isVar_30 : decode cX12_isVar 30 = .ok (.invokevirtual 193, 3) := by decide +kernel
theorem dX12_isVar_33 : decode cX12_isVar 33 = .ok (.iconst 1, 1) := by decide +kernel
theorem dX12_isVar_34 : decode cX12_isVar 34 = .ok (.isub, 1) := by decide +kernel
theorem dX12_isVar_35 : decode cX12_isVar 35 = .ok (.invokestatic 75, 3) := by decide +kernel
theorem dX12_isVar_38 : decode cX12_isVar 38 = .ok (.ifCond .eq 7, 3) := by decide +kernel
theorem dX12_isVar_41 : decode cX12_isVar 41 = .ok (.iconst 1, 1) := by decide +kernel
theorem dX12_isVar_42 : decode cX12_isVar 42 = .ok (.goto 4, 3) := by decide +kernel
theorem dX12_isVar_45 : decode cX12_isVar 45 = .ok (.iconst 0, 1) := by decide +kernel
theorem dX12_isVar_46 : decode cX12_isVar 46 = .ok (.ireturn, 1) := by decide +kernel
theorem dX12_kind_0 : decode cX12_kind 0 = .ok (.aload_n 0, 1) := by decide +kernel
theorem dX12_kind_1 : decode cX12_kind 1 = .ok (.iconst 0, 1) := by decide +kernel
theorem dX12_kind_2 : decode cX12_kind 2 = .ok (.putfield 1, 3) := by decide +kernel
theorem dX12_kind_5 : decode cX12_kind 5 = .ok (.aload_n 0, 1) := by decide +kernel
theorem dX12_kind_6 : decode cX12_kind 6 = .ok (.iload_n 1, 1) := by decide +kernel
theorem dX12_kind_7 : decode cX12_kind 7 = .ok (.iload_n 2, 1) := by decide +kernel
theorem dX12_kind_8 : decode cX12_kind 8 = .ok (.invokevirtual 411, 3) := by decide +kernel
theorem dX12_kind_11 : decode cX12_kind 11 = .ok (.ifCond .eq 21, 3) := by decide +kernel
theorem dX12_kind_14 : decode cX12_kind 14 = .ok (.aload_n 0, 1) := by decide +kernel
theorem dX12_kind_15 : decode cX12_kind 15 = .ok (.getfield 98, 3) := by decide +kernel
theorem dX12_kind_18 : decode cX12_kind 18 = .ok (.sipush 245, 3) := by decide +kernel
theorem dX12_kind_21 : decode cX12_kind 21 = .ok (.aload_n 0, 1) := by decide +kernel
theorem dX12_kind_22 : decode cX12_kind 22 = .ok (.iload_n 1, 1) := by decide +kernel
theorem dX12_kind_23 : decode cX12_kind 23 = .ok (.iload_n 2, 1) := by decide +kernel
theorem dX12_kind_24 : decode cX12_kind 24 = .ok (.invokevirtual 336, 3) := by decide +kernel
theorem dX12_kind_27 : decode cX12_kind 27 = .ok (.iadd, 1) := by decide +kernel
theorem dX12_kind_28 : decode cX12_kind 28 = .ok (.iaload, 1) := by decide +kernel
theorem dX12_kind_29 : decode cX12_kind 29 = .ok (.goto 4, 3) := by decide +kernel
theorem dX12_kind_32 : decode cX12_kind 32 = .ok (.iconst (-1), 1) := by decide +kernel
theorem dX12_kind_33 : decode cX12_kind 33 = .ok (.ireturn, 1) := by decide +kernel
theorem dX12_value_0 : decode cX12_value 0 = .ok (.aload_n 0, 1) := by decide +kernel
theorem dX12_value_1 : decode cX12_value 1 = .ok (.iconst 0, 1) := by decide +kernel
theorem dX12_value_2 : decode cX12_value 2 = .ok (.putfield 1, 3) := by decide +kernel
theorem dX12_value_5 : decode cX12_value 5 = .ok (.aload_n 0, 1) := by decide +kernel
theorem dX12_value_6 : decode cX12_value 6 = .ok (.iload_n 1, 1) := by decide +kernel
theorem dX12_value_7 : decode cX12_value 7 = .ok (.iload_n 2, 1) := by decide +kernel
theorem dX12_value_8 : decode cX12_value 8 = .ok (.invokevirtual 411, 3) := by decide +kernel
theorem dX12_value_11 : decode cX12_value 11 = .ok (.ifCond .eq 39, 3) := by decide +kernel
theorem dX12_value_14 : decode cX12_value 14 = .ok (.aload_n 0, 1) := by decide +kernel
theorem dX12_value_15 : decode cX12_value 15 = .ok (.getfield 98, 3) := by decide +kernel
theorem dX12_value_18 : decode cX12_value 18 = .ok (.sipush 245, 3) := by decide +kernel
theorem dX12_value_21 : decode cX12_value 21 = .ok (.aload_n 0, 1) := by decide +kernel
theorem dX12_value_22 : decode cX12_value 22 = .ok (.iload_n 1, 1) := by decide +kernel
theorem dX12_value_23 : decode cX12_value 23 = .ok (.iload_n 2, 1) := by decide +kernel
theorem dX12_value_24 : decode cX12_value 24 = .ok (.invokevirtual 336, 3) := by decide +kernel
theorem dX12_value_27 : decode cX12_value 27 = .ok (.iadd, 1) := by decide +kernel
theorem dX12_value_28 : decode cX12_value 28 = .ok (.iaload, 1) := by decide +kernel
theorem dX12_value_29 : decode cX12_value 29 = .ok (.ifCond .eq 21, 3) := by decide +kernel
theorem dX12_value_32 : decode cX12_value 32 = .ok (.aload_n 0, 1) := by decide +kernel
theorem dX12_value_33 : decode cX12_value 33 = .ok (.getfield 98, 3) := by decide +kernel
theorem dX12_value_36 : decode cX12_value 36 = .ok (.sipush 569, 3) := by decide +kernel
theorem dX12_value_39 : decode cX12_value 39 = .ok (.aload_n 0, 1) := by decide +kernel
theorem dX12_value_40 : decode cX12_value 40 = .ok (.iload_n 1, 1) := by decide +kernel
theorem dX12_value_41 : decode cX12_value 41 = .ok (.iload_n 2, 1) := by decide +kernel
theorem dX12_value_42 : decode cX12_value 42 = .ok (.invokevirtual 336, 3) := by decide +kernel
theorem dX12_value_45 : decode cX12_value 45 = .ok (.iadd, 1) := by decide +kernel
theorem dX12_value_46 : decode cX12_value 46 = .ok (.iaload, 1) := by decide +kernel
theorem dX12_value_47 : decode cX12_value 47 = .ok (.goto 7, 3) := by decide +kernel
theorem dX12_value_50 : decode cX12_value 50 = .ok (.aload_n 0, 1) := by decide +kernel
theorem dX12_value_51 : decode cX12_value 51 = .ok (.invokevirtual 312, 3) := by decide +kernel
theorem dX12_value_54 : decode cX12_value 54 = .ok (.ireturn, 1) := by decide +kernel
theorem dX12_isCell_0 : decode cX12_isCell 0 = .ok (.iload_n 1, 1) := by decide +kernel
theorem dX12_isCell_1 : decode cX12_isCell 1 = .ok (.iconst 0, 1) := by decide +kernel
theorem dX12_isCell_2 : decode cX12_isCell 2 = .ok (.sipush 199, 3) := by decide +kernel
theorem dX12_isCell_5 : decode cX12_isCell 5 = .ok (.invokestatic 75, 3) := by decide +kernel
theorem dX12_isCell_8 : decode cX12_isCell 8 = .ok (.ifCond .eq 21, 3) := by decide +kernel
theorem dX12_isCell_11 : decode cX12_isCell 11 = .ok (.aload_n 0, 1) := by decide +kernel
theorem dX12_isCell_12 : decode cX12_isCell 12 = .ok (.getfield 98, 3) := by decide +kernel
theorem dX12_isCell_15 : decode cX12_isCell 15 = .ok (.sipush 893, 3) := by decide +kernel
theorem dX12_isCell_18 : decode cX12_isCell 18 = .ok (.iload_n 1, 1) := by decide +kernel
theorem dX12_isCell_19 : decode cX12_isCell 19 = .ok (.iadd, 1) := by decide +kernel
theorem dX12_isCell_20 : decode cX12_isCell 20 = .ok (.iaload, 1) := by decide +kernel
theorem dX12_isCell_21 : decode cX12_isCell 21 = .ok (.iconst (-1), 1) := by decide +kernel
theorem dX12_isCell_22 : decode cX12_isCell 22 = .ok (.if_icmp .eq 7, 3) := by decide +kernel
theorem dX12_isCell_25 : decode cX12_isCell 25 = .ok (.iconst 1, 1) := by decide +kernel
theorem dX12_isCell_26 : decode cX12_isCell 26 = .ok (.goto 4, 3) := by decide +kernel
theorem dX12_isCell_29 : decode cX12_isCell 29 = .ok (.iconst 0, 1) := by decide +kernel
theorem dX12_isCell_30 : decode cX12_isCell 30 = .ok (.ireturn, 1) := by decide +kernel
theorem dX12_cell_0 : decode cX12_cell 0 = .ok (.aload_n 0, 1) := by decide +kernel
theorem dX12_cell_1 : decode cX12_cell 1 = .ok (.iconst 0, 1) := by decide +kernel
theorem dX12_cell_2 : decode cX12_cell 2 = .ok (.putfield 1, 3) := by decide +kernel
theorem dX12_cell_5 : decode cX12_cell 5 = .ok (.aload_n 0, 1) := by decide +kernel
theorem dX12_cell_6 : decode cX12_cell 6 = .ok (.iload_n 1, 1) := by decide +kernel
theorem dX12_cell_7 : decode cX12_cell 7 = .ok (.invokevirtual 414, 3) := by decide +kernel
theorem dX12_cell_10 : decode cX12_cell 10 = .ok (.ifCond .ne 5, 3) := by decide +kernel
theorem dX12_cell_13 : decode cX12_cell 13 = .ok (.iconst (-1), 1) := by decide +kernel
theorem dX12_cell_14 : decode cX12_cell 14 = .ok (.ireturn, 1) := by decide +kernel
theorem dX12_cell_15 : decode cX12_cell 15 = .ok (.iload_n 2, 1) := by decide +kernel
theorem dX12_cell_16 : decode cX12_cell 16 = .ok (.tableswitch 56 0 2 #[28, 39, 39], 28) := by decide +kernel
theorem dX12_cell_44 : decode cX12_cell 44 = .ok (.aload_n 0, 1) := by decide +kernel
theorem dX12_cell_45 : decode cX12_cell 45 = .ok (.getfield 98, 3) := by decide +kernel
theorem dX12_cell_48 : decode cX12_cell 48 = .ok (.sipush 893, 3) := by decide +kernel
theorem dX12_cell_51 : decode cX12_cell 51 = .ok (.iload_n 1, 1) := by decide +kernel
theorem dX12_cell_52 : decode cX12_cell 52 = .ok (.iadd, 1) := by decide +kernel
theorem dX12_cell_53 : decode cX12_cell 53 = .ok (.iaload, 1) := by decide +kernel
theorem dX12_cell_54 : decode cX12_cell 54 = .ok (.ireturn, 1) := by decide +kernel
theorem dX12_cell_55 : decode cX12_cell 55 = .ok (.aload_n 0, 1) := by decide +kernel
theorem dX12_cell_56 : decode cX12_cell 56 = .ok (.getfield 98, 3) := by decide +kernel
theorem dX12_cell_59 : decode cX12_cell 59 = .ok (.sipush 1293, 3) := by decide +kernel
theorem dX12_cell_62 : decode cX12_cell 62 = .ok (.iconst 2, 1) := by decide +kernel
theorem dX12_cell_63 : decode cX12_cell 63 = .ok (.iload_n 1, 1) := by decide +kernel
theorem dX12_cell_64 : decode cX12_cell 64 = .ok (.imul, 1) := by decide +kernel
theorem dX12_cell_65 : decode cX12_cell 65 = .ok (.iadd, 1) := by decide +kernel
theorem dX12_cell_66 : decode cX12_cell 66 = .ok (.iload_n 2, 1) := by decide +kernel
theorem dX12_cell_67 : decode cX12_cell 67 = .ok (.iadd, 1) := by decide +kernel
theorem dX12_cell_68 : decode cX12_cell 68 = .ok (.iconst 1, 1) := by decide +kernel
theorem dX12_cell_69 : decode cX12_cell 69 = .ok (.isub, 1) := by decide +kernel
theorem dX12_cell_70 : decode cX12_cell 70 = .ok (.iaload, 1) := by decide +kernel
theorem dX12_cell_71 : decode cX12_cell 71 = .ok (.ireturn, 1) := by decide +kernel
theorem dX12_cell_72 : decode cX12_cell 72 = .ok (.iconst (-1), 1) := by decide +kernel
theorem dX12_cell_73 : decode cX12_cell 73 = .ok (.ireturn, 1) := by decide +kernel
theorem dX12_in_0 : decode cX12_in 0 = .ok (.aload_n 0, 1) := by decide +kernel
theorem dX12_in_1 : decode cX12_in 1 = .ok (.iconst 0, 1) := by decide +kernel
theorem dX12_in_2 : decode cX12_in 2 = .ok (.putfield 1, 3) := by decide +kernel
theorem dX12_in_5 : decode cX12_in 5 = .ok (.aload_n 0, 1) := by decide +kernel
theorem dX12_in_6 : decode cX12_in 6 = .ok (.iload_n 1, 1) := by decide +kernel
theorem dX12_in_7 : decode cX12_in 7 = .ok (.invokevirtual 414, 3) := by decide +kernel
theorem dX12_in_10 : decode cX12_in 10 = .ok (.ifCond .eq 29, 3) := by decide +kernel
theorem dX12_in_13 : decode cX12_in 13 = .ok (.iload_n 2, 1) := by decide +kernel
theorem dX12_in_14 : decode cX12_in 14 = .ok (.iconst 0, 1) := by decide +kernel
theorem dX12_in_15 : decode cX12_in 15 = .ok (.iconst 1, 1) := by decide +kernel
theorem dX12_in_16 : decode cX12_in 16 = .ok (.invokestatic 75, 3) := by decide +kernel
theorem dX12_in_19 : decode cX12_in 19 = .ok (.ifCond .eq 20, 3) := by decide +kernel
theorem dX12_in_22 : decode cX12_in 22 = .ok (.aload_n 0, 1) := by decide +kernel
theorem dX12_in_23 : decode cX12_in 23 = .ok (.getfield 98, 3) := by decide +kernel
theorem dX12_in_26 : decode cX12_in 26 = .ok (.sipush 1693, 3) := by decide +kernel
theorem dX12_in_29 : decode cX12_in 29 = .ok (.iconst 2, 1) := by decide +kernel
theorem dX12_in_30 : decode cX12_in 30 = .ok (.iload_n 1, 1) := by decide +kernel
theorem dX12_in_31 : decode cX12_in 31 = .ok (.imul, 1) := by decide +kernel
theorem dX12_in_32 : decode cX12_in 32 = .ok (.iadd, 1) := by decide +kernel
theorem dX12_in_33 : decode cX12_in 33 = .ok (.iload_n 2, 1) := by decide +kernel
theorem dX12_in_34 : decode cX12_in 34 = .ok (.iadd, 1) := by decide +kernel
theorem dX12_in_35 : decode cX12_in 35 = .ok (.iaload, 1) := by decide +kernel
theorem dX12_in_36 : decode cX12_in 36 = .ok (.goto 7, 3) := by decide +kernel
theorem dX12_in_39 : decode cX12_in 39 = .ok (.aload_n 0, 1) := by decide +kernel
theorem dX12_in_40 : decode cX12_in 40 = .ok (.invokevirtual 312, 3) := by decide +kernel
theorem dX12_in_43 : decode cX12_in 43 = .ok (.ireturn, 1) := by decide +kernel
theorem dX12_gave_0 : decode cX12_gave 0 = .ok (.aload_n 0, 1) := by decide +kernel
theorem dX12_gave_1 : decode cX12_gave 1 = .ok (.iconst 0, 1) := by decide +kernel
theorem dX12_gave_2 : decode cX12_gave 2 = .ok (.putfield 1, 3) := by decide +kernel
theorem dX12_gave_5 : decode cX12_gave 5 = .ok (.aload_n 0, 1) := by decide +kernel
theorem dX12_gave_6 : decode cX12_gave 6 = .ok (.getfield 98, 3) := by decide +kernel
theorem dX12_gave_9 : decode cX12_gave 9 = .ok (.sipush 219, 3) := by decide +kernel
theorem dX12_gave_12 : decode cX12_gave 12 = .ok (.iaload, 1) := by decide +kernel
theorem dX12_gave_13 : decode cX12_gave 13 = .ok (.ireturn, 1) := by decide +kernel
theorem dX12_result_0 : decode cX12_result 0 = .ok (.aload_n 0, 1) := by decide +kernel
theorem dX12_result_1 : decode cX12_result 1 = .ok (.iconst 0, 1) := by decide +kernel
theorem dX12_result_2 : decode cX12_result 2 = .ok (.putfield 1, 3) := by decide +kernel
theorem dX12_result_5 : decode cX12_result 5 = .ok (.aload_n 0, 1) := by decide +kernel
theorem dX12_result_6 : decode cX12_result 6 = .ok (.getfield 98, 3) := by decide +kernel
theorem dX12_result_9 : decode cX12_result 9 = .ok (.sipush 210, 3) := by decide +kernel
theorem dX12_result_12 : decode cX12_result 12 = .ok (.iaload, 1) := by decide +kernel
theorem dX12_result_13 : decode cX12_result 13 = .ok (.iconst 2, 1) := by decide +kernel
theorem dX12_result_14 : decode cX12_result 14 = .ok (.if_icmp .ne 14, 3) := by decide +kernel
theorem dX12_result_17 : decode cX12_result 17 = .ok (.aload_n 0, 1) := by decide +kernel
theorem dX12_result_18 : decode cX12_result 18 = .ok (.getfield 98, 3) := by decide +kernel
theorem dX12_result_21 : decode cX12_result 21 = .ok (.sipush 220, 3) := by decide +kernel
theorem dX12_result_24 : decode cX12_result 24 = .ok (.iaload, 1) := by decide +kernel
theorem dX12_result_25 : decode cX12_result 25 = .ok (.goto 7, 3) := by decide +kernel
theorem dX12_result_28 : decode cX12_result 28 = .ok (.aload_n 0, 1) := by decide +kernel
theorem dX12_result_29 : decode cX12_result 29 = .ok (.invokevirtual 312, 3) := by decide +kernel
theorem dX12_result_32 : decode cX12_result 32 = .ok (.ireturn, 1) := by decide +kernel
theorem dX12_room_0 : decode cX12_room 0 = .ok (.aload_n 0, 1) := by decide +kernel
theorem dX12_room_1 : decode cX12_room 1 = .ok (.iconst 0, 1) := by decide +kernel
theorem dX12_room_2 : decode cX12_room 2 = .ok (.putfield 1, 3) := by decide +kernel
theorem dX12_room_5 : decode cX12_room 5 = .ok (.iload_n 1, 1) := by decide +kernel
theorem dX12_room_6 : decode cX12_room 6 = .ok (.iconst 0, 1) := by decide +kernel
theorem dX12_room_7 : decode cX12_room 7 = .ok (.aload_n 0, 1) := by decide +kernel
theorem dX12_room_8 : decode cX12_room 8 = .ok (.getfield 98, 3) := by decide +kernel
theorem dX12_room_11 : decode cX12_room 11 = .ok (.sipush 214, 3) := by decide +kernel
theorem dX12_room_14 : decode cX12_room 14 = .ok (.iaload, 1) := by decide +kernel
theorem dX12_room_15 : decode cX12_room 15 = .ok (.iconst 1, 1) := by decide +kernel
theorem dX12_room_16 : decode cX12_room 16 = .ok (.isub, 1) := by decide +kernel
theorem dX12_room_17 : decode cX12_room 17 = .ok (.invokestatic 75, 3) := by decide +kernel
theorem dX12_room_20 : decode cX12_room 20 = .ok (.ifCond .eq 16, 3) := by decide +kernel
theorem dX12_room_23 : decode cX12_room 23 = .ok (.aload_n 0, 1) := by decide +kernel
theorem dX12_room_24 : decode cX12_room 24 = .ok (.getfield 98, 3) := by decide +kernel
theorem dX12_room_27 : decode cX12_room 27 = .ok (.sipush 2093, 3) := by decide +kernel
theorem dX12_room_30 : decode cX12_room 30 = .ok (.iload_n 1, 1) := by decide +kernel
theorem dX12_room_31 : decode cX12_room 31 = .ok (.iadd, 1) := by decide +kernel
theorem dX12_room_32 : decode cX12_room 32 = .ok (.iaload, 1) := by decide +kernel
theorem dX12_room_33 : decode cX12_room 33 = .ok (.goto 4, 3) := by decide +kernel
theorem dX12_room_36 : decode cX12_room 36 = .ok (.iconst (-1), 1) := by decide +kernel
theorem dX12_room_37 : decode cX12_room 37 = .ok (.ireturn, 1) := by decide +kernel
theorem dX12_roomful_0 : decode cX12_roomful 0 = .ok (.aload_n 0, 1) := by decide +kernel
theorem dX12_roomful_1 : decode cX12_roomful 1 = .ok (.iconst 0, 1) := by decide +kernel
theorem dX12_roomful_2 : decode cX12_roomful 2 = .ok (.putfield 1, 3) := by decide +kernel
theorem dX12_roomful_5 : decode cX12_roomful 5 = .ok (.iload_n 1, 1) := by decide +kernel
theorem dX12_roomful_6 : decode cX12_roomful 6 = .ok (.iconst 0, 1) := by decide +kernel
theorem dX12_roomful_7 : decode cX12_roomful 7 = .ok (.aload_n 0, 1) := by decide +kernel
theorem dX12_roomful_8 : decode cX12_roomful 8 = .ok (.getfield 98, 3) := by decide +kernel
theorem dX12_roomful_11 : decode cX12_roomful 11 = .ok (.sipush 214, 3) := by decide +kernel
theorem dX12_roomful_14 : decode cX12_roomful 14 = .ok (.iaload, 1) := by decide +kernel
theorem dX12_roomful_15 : decode cX12_roomful 15 = .ok (.iconst 1, 1) := by decide +kernel
theorem dX12_roomful_16 : decode cX12_roomful 16 = .ok (.isub, 1) := by decide +kernel
theorem dX12_roomful_17 : decode cX12_roomful 17 = .ok (.invokestatic 75, 3) := by decide +kernel
theorem dX12_roomful_20 : decode cX12_roomful 20 = .ok (.ifCond .ne 5, 3) := by decide +kernel
theorem dX12_roomful_23 : decode cX12_roomful 23 = .ok (.iconst (-1), 1) := by decide +kernel
theorem dX12_roomful_24 : decode cX12_roomful 24 = .ok (.ireturn, 1) := by decide +kernel
theorem dX12_roomful_25 : decode cX12_roomful 25 = .ok (.iconst 0, 1) := by decide +kernel
theorem dX12_roomful_26 : decode cX12_roomful 26 = .ok (.istore_n 2, 1) := by decide +kernel
theorem dX12_roomful_27 : decode cX12_roomful 27 = .ok (.iconst 0, 1) := by decide +kernel
theorem dX12_roomful_28 : decode cX12_roomful 28 = .ok (.istore_n 3, 1) := by decide +kernel
theorem dX12_roomful_29 : decode cX12_roomful 29 = .ok (.iload_n 3, 1) := by decide +kernel
theorem dX12_roomful_30 : decode cX12_roomful 30 = .ok (.sipush 200, 3) := by decide +kernel
theorem dX12_roomful_33 : decode cX12_roomful 33 = .ok (.if_icmp .ge 34, 3) := by decide +kernel
theorem dX12_roomful_36 : decode cX12_roomful 36 = .ok (.aload_n 0, 1) := by decide +kernel
theorem dX12_roomful_37 : decode cX12_roomful 37 = .ok (.iload_n 3, 1) := by decide +kernel
theorem dX12_roomful_38 : decode cX12_roomful 38 = .ok (.invokevirtual 414, 3) := by decide +kernel
theorem dX12_roomful_41 : decode cX12_roomful 41 = .ok (.ifCond .eq 20, 3) := by decide +kernel
theorem dX12_roomful_44 : decode cX12_roomful 44 = .ok (.aload_n 0, 1) := by decide +kernel
theorem dX12_roomful_45 : decode cX12_roomful 45 = .ok (.getfield 98, 3) := by decide +kernel
theorem dX12_roomful_48 : decode cX12_roomful 48 = .ok (.sipush 1093, 3) := by decide +kernel
theorem dX12_roomful_51 : decode cX12_roomful 51 = .ok (.iload_n 3, 1) := by decide +kernel
theorem dX12_roomful_52 : decode cX12_roomful 52 = .ok (.iadd, 1) := by decide +kernel
theorem dX12_roomful_53 : decode cX12_roomful 53 = .ok (.iaload, 1) := by decide +kernel
theorem dX12_roomful_54 : decode cX12_roomful 54 = .ok (.iload_n 1, 1) := by decide +kernel
theorem dX12_roomful_55 : decode cX12_roomful 55 = .ok (.if_icmp .ne 6, 3) := by decide +kernel
theorem dX12_roomful_58 : decode cX12_roomful 58 = .ok (.iinc 2 1, 3) := by decide +kernel
theorem dX12_roomful_61 : decode cX12_roomful 61 = .ok (.iinc 3 1, 3) := by decide +kernel
theorem dX12_roomful_64 : decode cX12_roomful 64 = .ok (.goto (-35), 3) := by decide +kernel
theorem dX12_roomful_67 : decode cX12_roomful 67 = .ok (.iload_n 2, 1) := by decide +kernel
theorem dX12_roomful_68 : decode cX12_roomful 68 = .ok (.ireturn, 1) := by decide +kernel
theorem dX12_comesTo_0 : decode cX12_comesTo 0 = .ok (.iload_n 1, 1) := by decide +kernel
theorem dX12_comesTo_1 : decode cX12_comesTo 1 = .ok (.iconst 2, 1) := by decide +kernel
theorem dX12_comesTo_2 : decode cX12_comesTo 2 = .ok (.if_icmp .ne 12, 3) := by decide +kernel
theorem dX12_comesTo_5 : decode cX12_comesTo 5 = .ok (.aload_n 0, 1) := by decide +kernel
theorem dX12_comesTo_6 : decode cX12_comesTo 6 = .ok (.getfield 169, 3) := by decide +kernel
theorem dX12_comesTo_9 : decode cX12_comesTo 9 = .ok (.iload_n 2, 1) := by decide +kernel
theorem dX12_comesTo_10 : decode cX12_comesTo 10 = .ok (.baload, 1) := by decide +kernel
theorem dX12_comesTo_11 : decode cX12_comesTo 11 = .ok (.ifCond .eq 4, 3) := by decide +kernel
theorem dX12_comesTo_14 : decode cX12_comesTo 14 = .ok (.return_, 1) := by decide +kernel
theorem dX12_comesTo_15 : decode cX12_comesTo 15 = .ok (.aload_n 0, 1) := by decide +kernel
theorem dX12_comesTo_16 : decode cX12_comesTo 16 = .ok (.getfield 169, 3) := by decide +kernel
theorem dX12_comesTo_19 : decode cX12_comesTo 19 = .ok (.iload_n 2, 1) := by decide +kernel
theorem dX12_comesTo_20 : decode cX12_comesTo 20 = .ok (.iconst 1, 1) := by decide +kernel
theorem dX12_comesTo_21 : decode cX12_comesTo 21 = .ok (.bastore, 1) := by decide +kernel
theorem dX12_comesTo_22 : decode cX12_comesTo 22 = .ok (.aload_n 0, 1) := by decide +kernel
theorem dX12_comesTo_23 : decode cX12_comesTo 23 = .ok (.getfield 172, 3) := by decide +kernel
theorem dX12_comesTo_26 : decode cX12_comesTo 26 = .ok (.aload_n 0, 1) := by decide +kernel
theorem dX12_comesTo_27 : decode cX12_comesTo 27 = .ok (.getfield 417, 3) := by decide +kernel
theorem dX12_comesTo_30 : decode cX12_comesTo 30 = .ok (.iload_n 2, 1) := by decide +kernel
theorem dX12_comesTo_31 : decode cX12_comesTo 31 = .ok (.iastore, 1) := by decide +kernel
theorem dX12_comesTo_32 : decode cX12_comesTo 32 = .ok (.aload_n 0, 1) := by decide +kernel
theorem dX12_comesTo_33 : decode cX12_comesTo 33 = .ok (.dup, 1) := by decide +kernel
theorem dX12_comesTo_34 : decode cX12_comesTo 34 = .ok (.getfield 417, 3) := by decide +kernel
theorem dX12_comesTo_37 : decode cX12_comesTo 37 = .ok (.iconst 1, 1) := by decide +kernel
theorem dX12_comesTo_38 : decode cX12_comesTo 38 = .ok (.iadd, 1) := by decide +kernel
theorem dX12_comesTo_39 : decode cX12_comesTo 39 = .ok (.putfield 417, 3) := by decide +kernel
theorem dX12_comesTo_42 : decode cX12_comesTo 42 = .ok (.return_, 1) := by decide +kernel
theorem dX12_markReached_0 : decode cX12_markReached 0 = .ok (.iconst 0, 1) := by decide +kernel
theorem dX12_markReached_1 : decode cX12_markReached 1 = .ok (.istore_n 1, 1) := by decide +kernel
theorem dX12_markReached_2 : decode cX12_markReached 2 = .ok (.iload_n 1, 1) := by decide +kernel
theorem dX12_markReached_3 : decode cX12_markReached 3 = .ok (.sipush 200, 3) := by decide +kernel
theorem dX12_markReached_6 : decode cX12_markReached 6 = .ok (.if_icmp .ge 16, 3) := by decide +kernel
theorem dX12_markReached_9 : decode cX12_markReached 9 = .ok (.aload_n 0, 1) := by decide +kernel
theorem dX12_markReached_10 : decode cX12_markReached 10 = .ok (.getfield 169, 3) := by decide +kernel
theorem dX12_markReached_13 : decode cX12_markReached 13 = .ok (.iload_n 1, 1) := by decide +kernel
theorem dX12_markReached_14 : decode cX12_markReached 14 = .ok (.iconst 0, 1) := by decide +kernel
theorem dX12_markReached_15 : decode cX12_markReached 15 = .ok (.bastore, 1) := by decide +kernel
theorem dX12_markReached_16 : decode cX12_markReached 16 = .ok (.iinc 1 1, 3) := by decide +kernel
theorem dX12_markReached_19 : decode cX12_markReached 19 = .ok (.goto (-17), 3) := by decide +kernel
theorem dX12_markReached_22 : decode cX12_markReached 22 = .ok (.aload_n 0, 1) := by decide +kernel
theorem dX12_markReached_23 : decode cX12_markReached 23 = .ok (.iconst 0, 1) := by decide +kernel
theorem dX12_markReached_24 : decode cX12_markReached 24 = .ok (.putfield 417, 3) := by decide +kernel
theorem dX12_markReached_27 : decode cX12_markReached 27 = .ok (.iconst 0, 1) := by decide +kernel
theorem dX12_markReached_28 : decode cX12_markReached 28 = .ok (.istore_n 1, 1) := by decide +kernel
theorem dX12_markReached_29 : decode cX12_markReached 29 = .ok (.iload_n 1, 1) := by decide +kernel
theorem dX12_markReached_30 : decode cX12_markReached 30 = .ok (.aload_n 0, 1) := by decide +kernel
theorem dX12_markReached_31 : decode cX12_markReached 31 = .ok (.getfield 98, 3) := by decide +kernel
theorem dX12_markReached_34 : decode cX12_markReached 34 = .ok (.sipush 212, 3) := by decide +kernel
theorem dX12_markReached_37 : decode cX12_markReached 37 = .ok (.iaload, 1) := by decide +kernel
theorem dX12_markReached_38 : decode cX12_markReached 38 = .ok (.if_icmp .ge 68, 3) := by decide +kernel
theorem dX12_markReached_41 : decode cX12_markReached 41 = .ok (.iconst 0, 1) := by decide +kernel
theorem dX12_markReached_42 : decode cX12_markReached 42 = .ok (.istore_n 2, 1) := by decide +kernel
theorem dX12_markReached_43 : decode cX12_markReached 43 = .ok (.iload_n 2, 1) := by decide +kernel
theorem dX12_markReached_44 : decode cX12_markReached 44 = .ok (.aload_n 0, 1) := by decide +kernel
theorem dX12_markReached_45 : decode cX12_markReached 45 = .ok (.aload_n 0, 1) := by decide +kernel
theorem dX12_markReached_46 : decode cX12_markReached 46 = .ok (.getfield 98, 3) := by decide +kernel
theorem dX12_markReached_49 : decode cX12_markReached 49 = .ok (.aload_n 0, 1) := by decide +kernel
theorem dX12_markReached_50 : decode cX12_markReached 50 = .ok (.iload_n 1, 1) := by decide +kernel
theorem dX12_markReached_51 : decode cX12_markReached 51 = .ok (.invokevirtual 333, 3) := by decide +kernel
theorem dX12_markReached_54 : decode cX12_markReached 54 = .ok (.invokevirtual 193, 3) := by decide +kernel
theorem dX12_markReached_57 : decode cX12_markReached 57 = .ok (.if_icmp .ge 43, 3) := by decide +kernel
theorem dX12_markReached_60 : decode cX12_markReached 60 = .ok (.aload_n 0, 1) := by decide +kernel
theorem dX12_markReached_61 : decode cX12_markReached 61 = .ok (.aload_n 0, 1) := by decide +kernel
theorem dX12_markReached_62 : decode cX12_markReached 62 = .ok (.getfield 98, 3) := by decide +kernel
theorem dX12_markReached_65 : decode cX12_markReached 65 = .ok (.sipush 245, 3) := by decide +kernel
theorem dX12_markReached_68 : decode cX12_markReached 68 = .ok (.aload_n 0, 1) := by decide +kernel
theorem dX12_markReached_69 : decode cX12_markReached 69 = .ok (.iload_n 1, 1) := by decide +kernel
theorem dX12_markReached_70 : decode cX12_markReached 70 = .ok (.iload_n 2, 1) := by decide +kernel
theorem dX12_markReached_71 : decode cX12_markReached 71 = .ok (.invokevirtual 336, 3) := by decide +kernel
theorem dX12_markReached_74 : decode cX12_markReached 74 = .ok (.iadd, 1) := by decide +kernel
theorem dX12_markReached_75 : decode cX12_markReached 75 = .ok (.iaload, 1) := by decide +kernel
theorem dX12_markReached_76 : decode cX12_markReached 76 = .ok (.aload_n 0, 1) := by decide +kernel
theorem dX12_markReached_77 : decode cX12_markReached 77 = .ok (.getfield 98, 3) := by decide +kernel
theorem dX12_markReached_80 : decode cX12_markReached 80 = .ok (.sipush 569, 3) := by decide +kernel
theorem dX12_markReached_83 : decode cX12_markReached 83 = .ok (.aload_n 0, 1) := by decide +kernel
theorem dX12_markReached_84 : decode cX12_markReached 84 = .ok (.iload_n 1, 1) := by decide +kernel
theorem dX12_markReached_85 : decode cX12_markReached 85 = .ok (.iload_n 2, 1) := by decide +kernel
theorem dX12_markReached_86 : decode cX12_markReached 86 = .ok (.invokevirtual 336, 3) := by decide +kernel
theorem dX12_markReached_89 : decode cX12_markReached 89 = .ok (.iadd, 1) := by decide +kernel
theorem dX12_markReached_90 : decode cX12_markReached 90 = .ok (.iaload, 1) := by decide +kernel
theorem dX12_markReached_91 : decode cX12_markReached 91 = .ok (.invokevirtual 420, 3) := by decide +kernel
theorem dX12_markReached_94 : decode cX12_markReached 94 = .ok (.iinc 2 1, 3) := by decide +kernel
theorem dX12_markReached_97 : decode cX12_markReached 97 = .ok (.goto (-54), 3) := by decide +kernel
theorem dX12_markReached_100 : decode cX12_markReached 100 = .ok (.iinc 1 1, 3) := by decide +kernel
theorem dX12_markReached_103 : decode cX12_markReached 103 = .ok (.goto (-74), 3) := by decide +kernel
theorem dX12_markReached_106 : decode cX12_markReached 106 = .ok (.aload_n 0, 1) := by decide +kernel
theorem dX12_markReached_107 : decode cX12_markReached 107 = .ok (.getfield 98, 3) := by decide +kernel
theorem dX12_markReached_110 : decode cX12_markReached 110 = .ok (.sipush 210, 3) := by decide +kernel
theorem dX12_markReached_113 : decode cX12_markReached 113 = .ok (.iaload, 1) := by decide +kernel
theorem dX12_markReached_114 : decode cX12_markReached 114 = .ok (.iconst 2, 1) := by decide +kernel
theorem dX12_markReached_115 : decode cX12_markReached 115 = .ok (.if_icmp .ne 23, 3) := by decide +kernel
theorem dX12_markReached_118 : decode cX12_markReached 118 = .ok (.aload_n 0, 1) := by decide +kernel
theorem dX12_markReached_119 : decode cX12_markReached 119 = .ok (.aload_n 0, 1) := by decide +kernel
theorem dX12_markReached_120 : decode cX12_markReached 120 = .ok (.getfield 98, 3) := by decide +kernel
theorem dX12_markReached_123 : decode cX12_markReached 123 = .ok (.sipush 219, 3) := by decide +kernel
theorem dX12_markReached_126 : decode cX12_markReached 126 = .ok (.iaload, 1) := by decide +kernel
theorem dX12_markReached_127 : decode cX12_markReached 127 = .ok (.aload_n 0, 1) := by decide +kernel
theorem dX12_markReached_128 : decode cX12_markReached 128 = .ok (.getfield 98, 3) := by decide +kernel
theorem dX12_markReached_131 : decode cX12_markReached 131 = .ok (.sipush 220, 3) := by decide +kernel
theorem dX12_markReached_134 : decode cX12_markReached 134 = .ok (.iaload, 1) := by decide +kernel
theorem dX12_markReached_135 : decode cX12_markReached 135 = .ok (.invokevirtual 420, 3) := by decide +kernel
theorem dX12_markReached_138 : decode cX12_markReached 138 = .ok (.iconst 0, 1) := by decide +kernel
theorem dX12_markReached_139 : decode cX12_markReached 139 = .ok (.istore_n 1, 1) := by decide +kernel
theorem dX12_markReached_140 : decode cX12_markReached 140 = .ok (.iload_n 1, 1) := by decide +kernel
theorem dX12_markReached_141 : decode cX12_markReached 141 = .ok (.aload_n 0, 1) := by decide +kernel
theorem dX12_markReached_142 : decode cX12_markReached 142 = .ok (.getfield 417, 3) := by decide +kernel
theorem dX12_markReached_145 : decode cX12_markReached 145 = .ok (.if_icmp .ge 64, 3) := by decide +kernel
theorem dX12_markReached_148 : decode cX12_markReached 148 = .ok (.iconst 0, 1) := by decide +kernel
theorem dX12_markReached_149 : decode cX12_markReached 149 = .ok (.istore_n 2, 1) := by decide +kernel
theorem dX12_markReached_150 : decode cX12_markReached 150 = .ok (.iload_n 2, 1) := by decide +kernel
theorem dX12_markReached_151 : decode cX12_markReached 151 = .ok (.iconst 2, 1) := by decide +kernel
theorem dX12_markReached_152 : decode cX12_markReached 152 = .ok (.if_icmp .ge 51, 3) := by decide +kernel
theorem dX12_markReached_155 : decode cX12_markReached 155 = .ok (.aload_n 0, 1) := by decide +kernel
theorem dX12_markReached_156 : decode cX12_markReached 156 = .ok (.aload_n 0, 1) := by decide +kernel
theorem dX12_markReached_157 : decode cX12_markReached 157 = .ok (.getfield 98, 3) := by decide +kernel
theorem dX12_markReached_160 : decode cX12_markReached 160 = .ok (.sipush 1293, 3) := by decide +kernel
theorem dX12_markReached_163 : decode cX12_markReached 163 = .ok (.iconst 2, 1) := by decide +kernel
theorem dX12_markReached_164 : decode cX12_markReached 164 = .ok (.aload_n 0, 1) := by decide +kernel
theorem dX12_markReached_165 : decode cX12_markReached 165 = .ok (.getfield 172, 3) := by decide +kernel
theorem dX12_markReached_168 : decode cX12_markReached 168 = .ok (.iload_n 1, 1) := by decide +kernel
theorem dX12_markReached_169 : decode cX12_markReached 169 = .ok (.iaload, 1) := by decide +kernel
theorem dX12_markReached_170 : decode cX12_markReached 170 = .ok (.imul, 1) := by decide +kernel
theorem dX12_markReached_171 : decode cX12_markReached 171 = .ok (.iadd, 1) := by decide +kernel
theorem dX12_markReached_172 : decode cX12_markReached 172 = .ok (.iload_n 2, 1) := by decide +kernel
theorem dX12_markReached_173 : decode cX12_markReached 173 = .ok (.iadd, 1) := by decide +kernel
theorem dX12_markReached_174 : decode cX12_markReached 174 = .ok (.iaload, 1) := by decide +kernel
theorem dX12_markReached_175 : decode cX12_markReached 175 = .ok (.aload_n 0, 1) := by decide +kernel
theorem dX12_markReached_176 : decode cX12_markReached 176 = .ok (.getfield 98, 3) := by decide +kernel
theorem dX12_markReached_179 : decode cX12_markReached 179 = .ok (.sipush 1693, 3) := by decide +kernel
theorem dX12_markReached_182 : decode cX12_markReached 182 = .ok (.iconst 2, 1) := by decide +kernel
theorem dX12_markReached_183 : decode cX12_markReached 183 = .ok (.aload_n 0, 1) := by decide +kernel
theorem dX12_markReached_184 : decode cX12_markReached 184 = .ok (.getfield 172, 3) := by decide +kernel
theorem dX12_markReached_187 : decode cX12_markReached 187 = .ok (.iload_n 1, 1) := by decide +kernel
theorem dX12_markReached_188 : decode cX12_markReached 188 = .ok (.iaload, 1) := by decide +kernel
theorem dX12_markReached_189 : decode cX12_markReached 189 = .ok (.imul, 1) := by decide +kernel
theorem dX12_markReached_190 : decode cX12_markReached 190 = .ok (.iadd, 1) := by decide +kernel
theorem dX12_markReached_191 : decode cX12_markReached 191 = .ok (.iload_n 2, 1) := by decide +kernel
theorem dX12_markReached_192 : decode cX12_markReached 192 = .ok (.iadd, 1) := by decide +kernel
theorem dX12_markReached_193 : decode cX12_markReached 193 = .ok (.iaload, 1) := by decide +kernel
theorem dX12_markReached_194 : decode cX12_markReached 194 = .ok (.invokevirtual 420, 3) := by decide +kernel
theorem dX12_markReached_197 : decode cX12_markReached 197 = .ok (.iinc 2 1, 3) := by decide +kernel
theorem dX12_markReached_200 : decode cX12_markReached 200 = .ok (.goto (-50), 3) := by decide +kernel
theorem dX12_markReached_203 : decode cX12_markReached 203 = .ok (.iinc 1 1, 3) := by decide +kernel
theorem dX12_markReached_206 : decode cX12_markReached 206 = .ok (.goto (-66), 3) := by decide +kernel
theorem dX12_markReached_209 : decode cX12_markReached 209 = .ok (.aload_n 0, 1) := by decide +kernel
theorem dX12_markReached_210 : decode cX12_markReached 210 = .ok (.getfield 417, 3) := by decide +kernel
theorem dX12_markReached_213 : decode cX12_markReached 213 = .ok (.ireturn, 1) := by decide +kernel
theorem dX12_reached_0 : decode cX12_reached 0 = .ok (.aload_n 0, 1) := by decide +kernel
theorem dX12_reached_1 : decode cX12_reached 1 = .ok (.iconst 0, 1) := by decide +kernel
theorem dX12_reached_2 : decode cX12_reached 2 = .ok (.putfield 1, 3) := by decide +kernel
theorem dX12_reached_5 : decode cX12_reached 5 = .ok (.aload_n 0, 1) := by decide +kernel
theorem dX12_reached_6 : decode cX12_reached 6 = .ok (.invokevirtual 423, 3) := by decide +kernel
theorem dX12_reached_9 : decode cX12_reached 9 = .ok (.ireturn, 1) := by decide +kernel
theorem dX12_isReached_0 : decode cX12_isReached 0 = .ok (.aload_n 0, 1) := by decide +kernel
theorem dX12_isReached_1 : decode cX12_isReached 1 = .ok (.iconst 0, 1) := by decide +kernel
theorem dX12_isReached_2 : decode cX12_isReached 2 = .ok (.putfield 1, 3) := by decide +kernel
theorem dX12_isReached_5 : decode cX12_isReached 5 = .ok (.aload_n 0, 1) := by decide +kernel
theorem dX12_isReached_6 : decode cX12_isReached 6 = .ok (.iload_n 1, 1) := by decide +kernel
theorem dX12_isReached_7 : decode cX12_isReached 7 = .ok (.invokevirtual 414, 3) := by decide +kernel
theorem dX12_isReached_10 : decode cX12_isReached 10 = .ok (.ifCond .ne 5, 3) := by decide +kernel
theorem dX12_isReached_13 : decode cX12_isReached 13 = .ok (.iconst (-1), 1) := by decide +kernel
theorem dX12_isReached_14 : decode cX12_isReached 14 = .ok (.ireturn, 1) := by decide +kernel
theorem dX12_isReached_15 : decode cX12_isReached 15 = .ok (.aload_n 0, 1) := by decide +kernel
theorem dX12_isReached_16 : decode cX12_isReached 16 = .ok (.invokevirtual 423, 3) := by decide +kernel
theorem dX12_isReached_19 : decode cX12_isReached 19 = .ok (.pop, 1) := by decide +kernel
theorem dX12_isReached_20 : decode cX12_isReached 20 = .ok (.aload_n 0, 1) := by decide +kernel
theorem dX12_isReached_21 : decode cX12_isReached 21 = .ok (.getfield 169, 3) := by decide +kernel
theorem dX12_isReached_24 : decode cX12_isReached 24 = .ok (.iload_n 1, 1) := by decide +kernel
theorem dX12_isReached_25 : decode cX12_isReached 25 = .ok (.baload, 1) := by decide +kernel
theorem dX12_isReached_26 : decode cX12_isReached 26 = .ok (.ifCond .eq 7, 3) := by decide +kernel
theorem dX12_isReached_29 : decode cX12_isReached 29 = .ok (.iconst 1, 1) := by decide +kernel
theorem dX12_isReached_30 : decode cX12_isReached 30 = .ok (.goto 4, 3) := by decide +kernel
theorem dX12_isReached_33 : decode cX12_isReached 33 = .ok (.iconst 0, 1) := by decide +kernel
theorem dX12_isReached_34 : decode cX12_isReached 34 = .ok (.ireturn, 1) := by decide +kernel
theorem dX12_dragNow_0 : decode cX12_dragNow 0 = .ok (.aload_n 0, 1) := by decide +kernel
theorem dX12_dragNow_1 : decode cX12_dragNow 1 = .ok (.getfield 98, 3) := by decide +kernel
theorem dX12_dragNow_4 : decode cX12_dragNow 4 = .ok (.sipush 213, 3) := by decide +kernel
theorem dX12_dragNow_7 : decode cX12_dragNow 7 = .ok (.iaload, 1) := by decide +kernel
theorem dX12_dragNow_8 : decode cX12_dragNow 8 = .ok (.aload_n 0, 1) := by decide +kernel
theorem dX12_dragNow_9 : decode cX12_dragNow 9 = .ok (.invokevirtual 423, 3) := by decide +kernel
theorem dX12_dragNow_12 : decode cX12_dragNow 12 = .ok (.isub, 1) := by decide +kernel
theorem dX12_dragNow_13 : decode cX12_dragNow 13 = .ok (.ireturn, 1) := by decide +kernel
theorem dX12_drag_0 : decode cX12_drag 0 = .ok (.aload_n 0, 1) := by decide +kernel
theorem dX12_drag_1 : decode cX12_drag 1 = .ok (.iconst 0, 1) := by decide +kernel
theorem dX12_drag_2 : decode cX12_drag 2 = .ok (.putfield 1, 3) := by decide +kernel
theorem dX12_drag_5 : decode cX12_drag 5 = .ok (.aload_n 0, 1) := by decide +kernel
theorem dX12_drag_6 : decode cX12_drag 6 = .ok (.invokevirtual 426, 3) := by decide +kernel
theorem dX12_drag_9 : decode cX12_drag 9 = .ok (.ireturn, 1) := by decide +kernel
theorem dX12_run_0 : decode cX12_run 0 = .ok (.aload_n 0, 1) := by decide +kernel
theorem dX12_run_1 : decode cX12_run 1 = .ok (.iconst 0, 1) := by decide +kernel
theorem dX12_run_2 : decode cX12_run 2 = .ok (.putfield 1, 3) := by decide +kernel
theorem dX12_run_5 : decode cX12_run 5 = .ok (.aload_n 0, 1) := by decide +kernel
theorem dX12_run_6 : decode cX12_run 6 = .ok (.aload_n 0, 1) := by decide +kernel
theorem dX12_run_7 : decode cX12_run 7 = .ok (.invokevirtual 89, 3) := by decide +kernel
theorem dX12_run_10 : decode cX12_run 10 = .ok (.invokevirtual 398, 3) := by decide +kernel
theorem dX12_run_13 : decode cX12_run 13 = .ok (.ifCond .ne 5, 3) := by decide +kernel
theorem dX12_run_16 : decode cX12_run 16 = .ok (.iconst (-1), 1) := by decide +kernel
theorem dX12_run_17 : decode cX12_run 17 = .ok (.ireturn, 1) := by decide +kernel
theorem dX12_run_18 : decode cX12_run 18 = .ok (.aload_n 0, 1) := by decide +kernel
theorem dX12_run_19 : decode cX12_run 19 = .ok (.aload_n 0, 1) := by decide +kernel
theorem dX12_run_20 : decode cX12_run 20 = .ok (.getfield 110, 3) := by decide +kernel
theorem dX12_run_23 : decode cX12_run 23 = .ok (.iconst 0, 1) := by decide +kernel
theorem dX12_run_24 : decode cX12_run 24 = .ok (.invokevirtual 391, 3) := by decide +kernel
theorem dX12_run_27 : decode cX12_run 27 = .ok (.aload_n 0, 1) := by decide +kernel
theorem dX12_run_28 : decode cX12_run 28 = .ok (.aload_n 0, 1) := by decide +kernel
theorem dX12_run_29 : decode cX12_run 29 = .ok (.getfield 7, 3) := by decide +kernel
theorem dX12_run_32 : decode cX12_run 32 = .ok (.invokevirtual 404, 3) := by decide +kernel
theorem dX12_run_35 : decode cX12_run 35 = .ok (.iconst 0, 1) := by decide +kernel
theorem dX12_run_36 : decode cX12_run 36 = .ok (.istore_n 1, 1) := by decide +kernel
theorem dX12_run_37 : decode cX12_run 37 = .ok (.aload_n 0, 1) := by decide +kernel
theorem dX12_run_38 : decode cX12_run 38 = .ok (.getfield 98, 3) := by decide +kernel
theorem dX12_run_41 : decode cX12_run 41 = .ok (.sipush 210, 3) := by decide +kernel
theorem dX12_run_44 : decode cX12_run 44 = .ok (.iaload, 1) := by decide +kernel
theorem dX12_run_45 : decode cX12_run 45 = .ok (.iconst 1, 1) := by decide +kernel
theorem dX12_run_46 : decode cX12_run 46 = .ok (.if_icmp .ne 23, 3) := by decide +kernel
theorem dX12_run_49 : decode cX12_run 49 = .ok (.aload_n 0, 1) := by decide +kernel
theorem dX12_run_50 : decode cX12_run 50 = .ok (.invokevirtual 408, 3) := by decide +kernel
theorem dX12_run_53 : decode cX12_run 53 = .ok (.aload_n 0, 1) := by decide +kernel
theorem dX12_run_54 : decode cX12_run 54 = .ok (.invokevirtual 426, 3) := by decide +kernel
theorem dX12_run_57 : decode cX12_run 57 = .ok (.iload_n 1, 1) := by decide +kernel
theorem dX12_run_58 : decode cX12_run 58 = .ok (.if_icmp .le (-21), 3) := by decide +kernel
theorem dX12_run_61 : decode cX12_run 61 = .ok (.aload_n 0, 1) := by decide +kernel
theorem dX12_run_62 : decode cX12_run 62 = .ok (.invokevirtual 426, 3) := by decide +kernel
theorem dX12_run_65 : decode cX12_run 65 = .ok (.istore_n 1, 1) := by decide +kernel
theorem dX12_run_66 : decode cX12_run 66 = .ok (.goto (-29), 3) := by decide +kernel
theorem dX12_run_69 : decode cX12_run 69 = .ok (.aload_n 0, 1) := by decide +kernel
theorem dX12_run_70 : decode cX12_run 70 = .ok (.getfield 98, 3) := by decide +kernel
theorem dX12_run_73 : decode cX12_run 73 = .ok (.sipush 210, 3) := by decide +kernel
theorem dX12_run_76 : decode cX12_run 76 = .ok (.iaload, 1) := by decide +kernel
theorem dX12_run_77 : decode cX12_run 77 = .ok (.istore_n 2, 1) := by decide +kernel
theorem dX12_run_78 : decode cX12_run 78 = .ok (.aload_n 0, 1) := by decide +kernel
theorem dX12_run_79 : decode cX12_run 79 = .ok (.getfield 175, 3) := by decide +kernel
theorem dX12_run_82 : decode cX12_run 82 = .ok (.iconst 0, 1) := by decide +kernel
theorem dX12_run_83 : decode cX12_run 83 = .ok (.aload_n 0, 1) := by decide +kernel
theorem dX12_run_84 : decode cX12_run 84 = .ok (.getfield 98, 3) := by decide +kernel
theorem dX12_run_87 : decode cX12_run 87 = .ok (.sipush 216, 3) := by decide +kernel
theorem dX12_run_90 : decode cX12_run 90 = .ok (.iaload, 1) := by decide +kernel
theorem dX12_run_91 : decode cX12_run 91 = .ok (.iastore, 1) := by decide +kernel
theorem dX12_run_92 : decode cX12_run 92 = .ok (.aload_n 0, 1) := by decide +kernel
theorem dX12_run_93 : decode cX12_run 93 = .ok (.getfield 175, 3) := by decide +kernel
theorem dX12_run_96 : decode cX12_run 96 = .ok (.iconst 1, 1) := by decide +kernel
theorem dX12_run_97 : decode cX12_run 97 = .ok (.aload_n 0, 1) := by decide +kernel
theorem dX12_run_98 : decode cX12_run 98 = .ok (.getfield 98, 3) := by decide +kernel
theorem dX12_run_101 : decode cX12_run 101 = .ok (.sipush 215, 3) := by decide +kernel
theorem dX12_run_104 : decode cX12_run 104 = .ok (.iaload, 1) := by decide +kernel
theorem dX12_run_105 : decode cX12_run 105 = .ok (.iastore, 1) := by decide +kernel
theorem dX12_run_106 : decode cX12_run 106 = .ok (.aload_n 0, 1) := by decide +kernel
theorem dX12_run_107 : decode cX12_run 107 = .ok (.getfield 175, 3) := by decide +kernel
theorem dX12_run_110 : decode cX12_run 110 = .ok (.iconst 2, 1) := by decide +kernel
theorem dX12_run_111 : decode cX12_run 111 = .ok (.aload_n 0, 1) := by decide +kernel
theorem dX12_run_112 : decode cX12_run 112 = .ok (.getfield 98, 3) := by decide +kernel
theorem dX12_run_115 : decode cX12_run 115 = .ok (.sipush 213, 3) := by decide +kernel
theorem dX12_run_118 : decode cX12_run 118 = .ok (.iaload, 1) := by decide +kernel
theorem dX12_run_119 : decode cX12_run 119 = .ok (.iastore, 1) := by decide +kernel
theorem dX12_run_120 : decode cX12_run 120 = .ok (.aload_n 0, 1) := by decide +kernel
theorem dX12_run_121 : decode cX12_run 121 = .ok (.getfield 175, 3) := by decide +kernel
theorem dX12_run_124 : decode cX12_run 124 = .ok (.iconst 3, 1) := by decide +kernel
theorem dX12_run_125 : decode cX12_run 125 = .ok (.aload_n 0, 1) := by decide +kernel
theorem dX12_run_126 : decode cX12_run 126 = .ok (.getfield 98, 3) := by decide +kernel
theorem dX12_run_129 : decode cX12_run 129 = .ok (.sipush 217, 3) := by decide +kernel
theorem dX12_run_132 : decode cX12_run 132 = .ok (.iaload, 1) := by decide +kernel
theorem dX12_run_133 : decode cX12_run 133 = .ok (.iastore, 1) := by decide +kernel
theorem dX12_run_134 : decode cX12_run 134 = .ok (.aload_n 0, 1) := by decide +kernel
theorem dX12_run_135 : decode cX12_run 135 = .ok (.getfield 175, 3) := by decide +kernel
theorem dX12_run_138 : decode cX12_run 138 = .ok (.iconst 4, 1) := by decide +kernel
theorem dX12_run_139 : decode cX12_run 139 = .ok (.aload_n 0, 1) := by decide +kernel
theorem dX12_run_140 : decode cX12_run 140 = .ok (.getfield 98, 3) := by decide +kernel
theorem dX12_run_143 : decode cX12_run 143 = .ok (.sipush 211, 3) := by decide +kernel
theorem dX12_run_146 : decode cX12_run 146 = .ok (.iaload, 1) := by decide +kernel
theorem dX12_run_147 : decode cX12_run 147 = .ok (.iastore, 1) := by decide +kernel
theorem dX12_run_148 : decode cX12_run 148 = .ok (.aload_n 0, 1) := by decide +kernel
theorem dX12_run_149 : decode cX12_run 149 = .ok (.getfield 175, 3) := by decide +kernel
theorem dX12_run_152 : decode cX12_run 152 = .ok (.iconst 5, 1) := by decide +kernel
theorem dX12_run_153 : decode cX12_run 153 = .ok (.aload_n 0, 1) := by decide +kernel
theorem dX12_run_154 : decode cX12_run 154 = .ok (.getfield 98, 3) := by decide +kernel
theorem dX12_run_157 : decode cX12_run 157 = .ok (.sipush 219, 3) := by decide +kernel
theorem dX12_run_160 : decode cX12_run 160 = .ok (.iaload, 1) := by decide +kernel
theorem dX12_run_161 : decode cX12_run 161 = .ok (.iastore, 1) := by decide +kernel
theorem dX12_run_162 : decode cX12_run 162 = .ok (.aload_n 0, 1) := by decide +kernel
theorem dX12_run_163 : decode cX12_run 163 = .ok (.getfield 175, 3) := by decide +kernel
theorem dX12_run_166 : decode cX12_run 166 = .ok (.bipush 6, 2) := by decide +kernel
theorem dX12_run_168 : decode cX12_run 168 = .ok (.aload_n 0, 1) := by decide +kernel
theorem dX12_run_169 : decode cX12_run 169 = .ok (.getfield 98, 3) := by decide +kernel
theorem dX12_run_172 : decode cX12_run 172 = .ok (.sipush 219, 3) := by decide +kernel
theorem dX12_run_175 : decode cX12_run 175 = .ok (.iaload, 1) := by decide +kernel
theorem dX12_run_176 : decode cX12_run 176 = .ok (.iconst 1, 1) := by decide +kernel
theorem dX12_run_177 : decode cX12_run 177 = .ok (.if_icmp .ne 14, 3) := by decide +kernel
theorem dX12_run_180 : decode cX12_run 180 = .ok (.aload_n 0, 1) := by decide +kernel
theorem dX12_run_181 : decode cX12_run 181 = .ok (.getfield 98, 3) := by decide +kernel
theorem dX12_run_184 : decode cX12_run 184 = .ok (.sipush 220, 3) := by decide +kernel
theorem dX12_run_187 : decode cX12_run 187 = .ok (.iaload, 1) := by decide +kernel
theorem dX12_run_188 : decode cX12_run 188 = .ok (.goto 4, 3) := by decide +kernel
theorem dX12_run_191 : decode cX12_run 191 = .ok (.iconst 0, 1) := by decide +kernel
theorem dX12_run_192 : decode cX12_run 192 = .ok (.iastore, 1) := by decide +kernel
theorem dX12_run_193 : decode cX12_run 193 = .ok (.aload_n 0, 1) := by decide +kernel
theorem dX12_run_194 : decode cX12_run 194 = .ok (.getfield 175, 3) := by decide +kernel
theorem dX12_run_197 : decode cX12_run 197 = .ok (.bipush 7, 2) := by decide +kernel
theorem dX12_run_199 : decode cX12_run 199 = .ok (.iload_n 1, 1) := by decide +kernel
theorem dX12_run_200 : decode cX12_run 200 = .ok (.iastore, 1) := by decide +kernel
theorem dX12_run_201 : decode cX12_run 201 = .ok (.aload_n 0, 1) := by decide +kernel
theorem dX12_run_202 : decode cX12_run 202 = .ok (.iconst 1, 1) := by decide +kernel
theorem dX12_run_203 : decode cX12_run 203 = .ok (.putfield 429, 3) := by decide +kernel
theorem dX12_run_206 : decode cX12_run 206 = .ok (.aload_n 0, 1) := by decide +kernel
theorem dX12_run_207 : decode cX12_run 207 = .ok (.aload_n 0, 1) := by decide +kernel
theorem dX12_run_208 : decode cX12_run 208 = .ok (.getfield 110, 3) := by decide +kernel
theorem dX12_run_211 : decode cX12_run 211 = .ok (.iconst 0, 1) := by decide +kernel
theorem dX12_run_212 : decode cX12_run 212 = .ok (.invokevirtual 395, 3) := by decide +kernel
theorem dX12_run_215 : decode cX12_run 215 = .ok (.iload_n 2, 1) := by decide +kernel
theorem dX12_run_216 : decode cX12_run 216 = .ok (.ireturn, 1) := by decide +kernel
theorem dX12_ran_0 : decode cX12_ran 0 = .ok (.aload_n 0, 1) := by decide +kernel
theorem dX12_ran_1 : decode cX12_ran 1 = .ok (.iconst 0, 1) := by decide +kernel
theorem dX12_ran_2 : decode cX12_ran 2 = .ok (.putfield 1, 3) := by decide +kernel
theorem dX12_ran_5 : decode cX12_ran 5 = .ok (.aload_n 0, 1) := by decide +kernel
theorem dX12_ran_6 : decode cX12_ran 6 = .ok (.getfield 429, 3) := by decide +kernel
theorem dX12_ran_9 : decode cX12_ran 9 = .ok (.ifCond .eq 22, 3) := by decide +kernel
theorem dX12_ran_12 : decode cX12_ran 12 = .ok (.iload_n 1, 1) := by decide +kernel
theorem dX12_ran_13 : decode cX12_ran 13 = .ok (.iconst 0, 1) := by decide +kernel
theorem dX12_ran_14 : decode cX12_ran 14 = .ok (.bipush 7, 2) := by decide +kernel
theorem dX12_ran_16 : decode cX12_ran 16 = .ok (.invokestatic 75, 3) := by decide +kernel
theorem dX12_ran_19 : decode cX12_ran 19 = .ok (.ifCond .eq 12, 3) := by decide +kernel
theorem dX12_ran_22 : decode cX12_ran 22 = .ok (.aload_n 0, 1) := by decide +kernel
theorem dX12_ran_23 : decode cX12_ran 23 = .ok (.getfield 175, 3) := by decide +kernel
theorem dX12_ran_26 : decode cX12_ran 26 = .ok (.iload_n 1, 1) := by decide +kernel
theorem dX12_ran_27 : decode cX12_ran 27 = .ok (.iaload, 1) := by decide +kernel
theorem dX12_ran_28 : decode cX12_ran 28 = .ok (.goto 4, 3) := by decide +kernel
theorem dX12_ran_31 : decode cX12_ran 31 = .ok (.iconst (-1), 1) := by decide +kernel
theorem dX12_ran_32 : decode cX12_ran 32 = .ok (.ireturn, 1) := by decide +kernel
theorem dX12_draw_0 : decode cX12_draw 0 = .ok (.aload_n 0, 1) := by decide +kernel
theorem dX12_draw_1 : decode cX12_draw 1 = .ok (.aload_n 0, 1) := by decide +kernel
theorem dX12_draw_2 : decode cX12_draw 2 = .ok (.getfield 433, 3) := by decide +kernel
theorem dX12_draw_5 : decode cX12_draw 5 = .ok (.ldc_w 436, 3) := by decide +kernel
theorem dX12_draw_8 : decode cX12_draw 8 = .ok (.imul, 1) := by decide +kernel
theorem dX12_draw_9 : decode cX12_draw 9 = .ok (.sipush 12345, 3) := by decide +kernel
theorem dX12_draw_12 : decode cX12_draw 12 = .ok (.iadd, 1) := by decide +kernel
theorem dX12_draw_13 : decode cX12_draw 13 = .ok (.putfield 433, 3) := by decide +kernel
theorem dX12_draw_16 : decode cX12_draw 16 = .ok (.aload_n 0, 1) := by decide +kernel
theorem dX12_draw_17 : decode cX12_draw 17 = .ok (.getfield 433, 3) := by decide +kernel
theorem dX12_draw_20 : decode cX12_draw 20 = .ok (.bipush 8, 2) := by decide +kernel
theorem dX12_draw_22 : decode cX12_draw 22 = .ok (.iushr, 1) := by decide +kernel
theorem dX12_draw_23 : decode cX12_draw 23 = .ok (.iload_n 1, 1) := by decide +kernel
theorem dX12_draw_24 : decode cX12_draw 24 = .ok (.irem, 1) := by decide +kernel
theorem dX12_draw_25 : decode cX12_draw 25 = .ok (.ireturn, 1) := by decide +kernel
theorem dX12_ends_0 : decode cX12_ends 0 = .ok (.aload_n 0, 1) := by decide +kernel
theorem dX12_ends_1 : decode cX12_ends 1 = .ok (.iload_n 1, 1) := by decide +kernel
theorem dX12_ends_2 : decode cX12_ends 2 = .ok (.putfield 433, 3) := by decide +kernel
theorem dX12_ends_5 : decode cX12_ends 5 = .ok (.iconst 0, 1) := by decide +kernel
theorem dX12_ends_6 : decode cX12_ends 6 = .ok (.istore_n 2, 1) := by decide +kernel
theorem dX12_ends_7 : decode cX12_ends 7 = .ok (.iload_n 2, 1) := by decide +kernel
theorem dX12_ends_8 : decode cX12_ends 8 = .ok (.aload_n 0, 1) := by decide +kernel
theorem dX12_ends_9 : decode cX12_ends 9 = .ok (.getfield 98, 3) := by decide +kernel
theorem dX12_ends_12 : decode cX12_ends 12 = .ok (.iconst 3, 1) := by decide +kernel
theorem dX12_ends_13 : decode cX12_ends 13 = .ok (.aload_n 0, 1) := by decide +kernel
theorem dX12_ends_14 : decode cX12_ends 14 = .ok (.invokevirtual 297, 3) := by decide +kernel
theorem dX12_ends_17 : decode cX12_ends 17 = .ok (.iadd, 1) := by decide +kernel
theorem dX12_ends_18 : decode cX12_ends 18 = .ok (.iaload, 1) := by decide +kernel
theorem dX12_ends_19 : decode cX12_ends 19 = .ok (.if_icmp .ge 21, 3) := by decide +kernel
theorem dX12_ends_22 : decode cX12_ends 22 = .ok (.aload_n 0, 1) := by decide +kernel
theorem dX12_ends_23 : decode cX12_ends 23 = .ok (.getfield 178, 3) := by decide +kernel
theorem dX12_ends_26 : decode cX12_ends 26 = .ok (.iload_n 2, 1) := by decide +kernel
theorem dX12_ends_27 : decode cX12_ends 27 = .ok (.aload_n 0, 1) := by decide +kernel
theorem dX12_ends_28 : decode cX12_ends 28 = .ok (.bipush 10, 2) := by decide +kernel
theorem dX12_ends_30 : decode cX12_ends 30 = .ok (.invokevirtual 437, 3) := by decide +kernel
theorem dX12_ends_33 : decode cX12_ends 33 = .ok (.iastore, 1) := by decide +kernel
theorem dX12_ends_34 : decode cX12_ends 34 = .ok (.iinc 2 1, 3) := by decide +kernel
theorem dX12_ends_37 : decode cX12_ends 37 = .ok (.goto (-30), 3) := by decide +kernel
theorem dX12_ends_40 : decode cX12_ends 40 = .ok (.aload_n 0, 1) := by decide +kernel
theorem dX12_ends_41 : decode cX12_ends 41 = .ok (.aload_n 0, 1) := by decide +kernel
theorem dX12_ends_42 : decode cX12_ends 42 = .ok (.getfield 178, 3) := by decide +kernel
theorem dX12_ends_45 : decode cX12_ends 45 = .ok (.invokevirtual 404, 3) := by decide +kernel
theorem dX12_ends_48 : decode cX12_ends 48 = .ok (.aload_n 0, 1) := by decide +kernel
theorem dX12_ends_49 : decode cX12_ends 49 = .ok (.getfield 98, 3) := by decide +kernel
theorem dX12_ends_52 : decode cX12_ends 52 = .ok (.sipush 210, 3) := by decide +kernel
theorem dX12_ends_55 : decode cX12_ends 55 = .ok (.iaload, 1) := by decide +kernel
theorem dX12_ends_56 : decode cX12_ends 56 = .ok (.iconst 1, 1) := by decide +kernel
theorem dX12_ends_57 : decode cX12_ends 57 = .ok (.if_icmp .ne 10, 3) := by decide +kernel
theorem dX12_ends_60 : decode cX12_ends 60 = .ok (.aload_n 0, 1) := by decide +kernel
theorem dX12_ends_61 : decode cX12_ends 61 = .ok (.invokevirtual 408, 3) := by decide +kernel
theorem dX12_ends_64 : decode cX12_ends 64 = .ok (.goto (-16), 3) := by decide +kernel
theorem dX12_ends_67 : decode cX12_ends 67 = .ok (.aload_n 0, 1) := by decide +kernel
theorem dX12_ends_68 : decode cX12_ends 68 = .ok (.getfield 98, 3) := by decide +kernel
theorem dX12_ends_71 : decode cX12_ends 71 = .ok (.sipush 210, 3) := by decide +kernel
theorem dX12_ends_74 : decode cX12_ends 74 = .ok (.iaload, 1) := by decide +kernel
theorem dX12_ends_75 : decode cX12_ends 75 = .ok (.iconst 2, 1) := by decide +kernel
theorem dX12_ends_76 : decode cX12_ends 76 = .ok (.if_icmp .ne 7, 3) := by decide +kernel
theorem dX12_ends_79 : decode cX12_ends 79 = .ok (.iconst 1, 1) := by decide +kernel
theorem dX12_ends_80 : decode cX12_ends 80 = .ok (.goto 4, 3) := by decide +kernel
theorem dX12_ends_83 : decode cX12_ends 83 = .ok (.iconst 0, 1) := by decide +kernel
theorem dX12_ends_84 : decode cX12_ends 84 = .ok (.ireturn, 1) := by decide +kernel
theorem dX12_odds_0 : decode cX12_odds 0 = .ok (.aload_n 0, 1) := by decide +kernel
theorem dX12_odds_1 : decode cX12_odds 1 = .ok (.iconst 0, 1) := by decide +kernel
theorem dX12_odds_2 : decode cX12_odds 2 = .ok (.putfield 1, 3) := by decide +kernel
theorem dX12_odds_5 : decode cX12_odds 5 = .ok (.aload_n 0, 1) := by decide +kernel
theorem dX12_odds_6 : decode cX12_odds 6 = .ok (.getfield 98, 3) := by decide +kernel
theorem dX12_odds_9 : decode cX12_odds 9 = .ok (.iconst 0, 1) := by decide +kernel
theorem dX12_odds_10 : decode cX12_odds 10 = .ok (.iaload, 1) := by decide +kernel
theorem dX12_odds_11 : decode cX12_odds 11 = .ok (.ifCond .eq 13, 3) := by decide +kernel
theorem dX12_odds_14 : decode cX12_odds 14 = .ok (.iload_n 1, 1) := by decide +kernel
theorem dX12_odds_15 : decode cX12_odds 15 = .ok (.iconst 1, 1) := by decide +kernel
theorem dX12_odds_16 : decode cX12_odds 16 = .ok (.bipush 20, 2) := by decide +kernel
theorem dX12_odds_18 : decode cX12_odds 18 = .ok (.invokestatic 75, 3) := by decide +kernel
theorem dX12_odds_21 : decode cX12_odds 21 = .ok (.ifCond .ne 5, 3) := by decide +kernel
theorem dX12_odds_24 : decode cX12_odds 24 = .ok (.iconst (-1), 1) := by decide +kernel
theorem dX12_odds_25 : decode cX12_odds 25 = .ok (.ireturn, 1) := by decide +kernel
theorem dX12_odds_26 : decode cX12_odds 26 = .ok (.aload_n 0, 1) := by decide +kernel
theorem dX12_odds_27 : decode cX12_odds 27 = .ok (.aload_n 0, 1) := by decide +kernel
theorem dX12_odds_28 : decode cX12_odds 28 = .ok (.getfield 110, 3) := by decide +kernel
theorem dX12_odds_31 : decode cX12_odds 31 = .ok (.iconst 0, 1) := by decide +kernel
theorem dX12_odds_32 : decode cX12_odds 32 = .ok (.invokevirtual 391, 3) := by decide +kernel
theorem dX12_odds_35 : decode cX12_odds 35 = .ok (.iconst 0, 1) := by decide +kernel
theorem dX12_odds_36 : decode cX12_odds 36 = .ok (.istore_n 3, 1) := by decide +kernel
theorem dX12_odds_37 : decode cX12_odds 37 = .ok (.iconst 0, 1) := by decide +kernel
theorem dX12_odds_38 : decode cX12_odds 38 = .ok (.istore 4, 2) := by decide +kernel
theorem dX12_odds_40 : decode cX12_odds 40 = .ok (.iload 4, 2) := by decide +kernel
theorem dX12_odds_42 : decode cX12_odds 42 = .ok (.iload_n 1, 1) := by decide +kernel
theorem dX12_odds_43 : decode cX12_odds 43 = .ok (.if_icmp .ge 23, 3) := by decide +kernel
theorem dX12_odds_46 : decode cX12_odds 46 = .ok (.aload_n 0, 1) := by decide +kernel
theorem dX12_odds_47 : decode cX12_odds 47 = .ok (.iload_n 2, 1) := by decide +kernel
theorem dX12_odds_48 : decode cX12_odds 48 = .ok (.iload 4, 2) := by decide +kernel
theorem dX12_odds_50 : decode cX12_odds 50 = .ok (.iadd, 1) := by decide +kernel
theorem dX12_odds_51 : decode cX12_odds 51 = .ok (.invokevirtual 440, 3) := by decide +kernel
theorem dX12_odds_54 : decode cX12_odds 54 = .ok (.ifCond .eq 6, 3) := by decide +kernel
theorem dX12_odds_57 : decode cX12_odds 57 = .ok (.iinc 3 1, 3) := by decide +kernel
theorem dX12_odds_60 : decode cX12_odds 60 = .ok (.iinc 4 1, 3) := by decide +kernel
theorem dX12_odds_63 : decode cX12_odds 63 = .ok (.goto (-23), 3) := by decide +kernel
theorem dX12_odds_66 : decode cX12_odds 66 = .ok (.aload_n 0, 1) := by decide +kernel
theorem dX12_odds_67 : decode cX12_odds 67 = .ok (.aload_n 0, 1) := by decide +kernel
theorem dX12_odds_68 : decode cX12_odds 68 = .ok (.getfield 110, 3) := by decide +kernel
theorem dX12_odds_71 : decode cX12_odds 71 = .ok (.iconst 0, 1) := by decide +kernel
theorem dX12_odds_72 : decode cX12_odds 72 = .ok (.invokevirtual 395, 3) := by decide +kernel
theorem dX12_odds_75 : decode cX12_odds 75 = .ok (.iload_n 3, 1) := by decide +kernel
theorem dX12_odds_76 : decode cX12_odds 76 = .ok (.ireturn, 1) := by decide +kernel
theorem dX12_finiteMany_0 : decode cX12_finiteMany 0 = .ok (.iconst 0, 1) := by decide +kernel
theorem dX12_finiteMany_1 : decode cX12_finiteMany 1 = .ok (.istore_n 1, 1) := by decide +kernel
theorem dX12_finiteMany_2 : decode cX12_finiteMany 2 = .ok (.iconst 0, 1) := by decide +kernel
theorem dX12_finiteMany_3 : decode cX12_finiteMany 3 = .ok (.istore_n 2, 1) := by decide +kernel
theorem dX12_finiteMany_4 : decode cX12_finiteMany 4 = .ok (.iload_n 2, 1) := by decide +kernel
theorem dX12_finiteMany_5 : decode cX12_finiteMany 5 = .ok (.aload_n 0, 1) := by decide +kernel
theorem dX12_finiteMany_6 : decode cX12_finiteMany 6 = .ok (.getfield 98, 3) := by decide +kernel
theorem dX12_finiteMany_9 : decode cX12_finiteMany 9 = .ok (.iconst 2, 1) := by decide +kernel
theorem dX12_finiteMany_10 : decode cX12_finiteMany 10 = .ok (.iaload, 1) := by decide +kernel
theorem dX12_finiteMany_11 : decode cX12_finiteMany 11 = .ok (.if_icmp .ge 20, 3) := by decide +kernel
theorem dX12_finiteMany_14 : decode cX12_finiteMany 14 = .ok (.aload_n 0, 1) := by decide +kernel
theorem dX12_finiteMany_15 : decode cX12_finiteMany 15 = .ok (.iload_n 2, 1) := by decide +kernel
theorem dX12_finiteMany_16 : decode cX12_finiteMany 16 = .ok (.invokevirtual 324, 3) := by decide +kernel
theorem dX12_finiteMany_19 : decode cX12_finiteMany 19 = .ok (.ifCond .eq 6, 3) := by decide +kernel
theorem dX12_finiteMany_22 : decode cX12_finiteMany 22 = .ok (.iinc 1 1, 3) := by decide +kernel
theorem dX12_finiteMany_25 : decode cX12_finiteMany 25 = .ok (.iinc 2 1, 3) := by decide +kernel
theorem dX12_finiteMany_28 : decode cX12_finiteMany 28 = .ok (.goto (-24), 3) := by decide +kernel
theorem dX12_finiteMany_31 : decode cX12_finiteMany 31 = .ok (.iload_n 1, 1) := by decide +kernel
theorem dX12_finiteMany_32 : decode cX12_finiteMany 32 = .ok (.ireturn, 1) := by decide +kernel
theorem dX12_readFunName_0 : decode cX12_readFunName 0 = .ok (.aload_n 0, 1) := by decide +kernel
theorem dX12_readFunName_1 : decode cX12_readFunName 1 = .ok (.invokevirtual 208, 3) := by decide +kernel
theorem dX12_readFunName_4 : decode cX12_readFunName 4 = .ok (.ifCond .ne 9, 3) := by decide +kernel
theorem dX12_readFunName_7 : decode cX12_readFunName 7 = .ok (.aload_n 0, 1) := by decide +kernel
theorem dX12_readFunName_8 : decode cX12_readFunName 8 = .ok (.iconst 1, 1) := by decide +kernel
theorem dX12_readFunName_9 : decode cX12_readFunName 9 = .ok (.invokevirtual 72, 3) := by decide +kernel
theorem dX12_readFunName_12 : decode cX12_readFunName 12 = .ok (.ireturn, 1) := by decide +kernel
theorem dX12_readFunName_13 : decode cX12_readFunName 13 = .ok (.aload_n 0, 1) := by decide +kernel
theorem dX12_readFunName_14 : decode cX12_readFunName 14 = .ok (.aload_n 0, 1) := by decide +kernel
theorem dX12_readFunName_15 : decode cX12_readFunName 15 = .ok (.getfield 113, 3) := by decide +kernel
theorem dX12_readFunName_18 : decode cX12_readFunName 18 = .ok (.iconst 0, 1) := by decide +kernel
theorem dX12_readFunName_19 : decode cX12_readFunName 19 = .ok (.aload_n 0, 1) := by decide +kernel
theorem dX12_readFunName_20 : decode cX12_readFunName 20 = .ok (.getfield 98, 3) := by decide +kernel
theorem dX12_readFunName_23 : decode cX12_readFunName 23 = .ok (.iconst 0, 1) := by decide +kernel
theorem dX12_readFunName_24 : decode cX12_readFunName 24 = .ok (.iaload, 1) := by decide +kernel
theorem dX12_readFunName_25 : decode cX12_readFunName 25 = .ok (.aload_n 0, 1) := by decide +kernel
theorem dX12_readFunName_26 : decode cX12_readFunName 26 = .ok (.getfield 43, 3) := by decide +kernel
theorem dX12_readFunName_29 : decode cX12_readFunName 29 = .ok (.invokestatic 197, 3) := by decide +kernel
theorem dX12_readFunName_32 : decode cX12_readFunName 32 = .ok (.putfield 79, 3) := by decide +kernel
theorem dX12_readFunName_35 : decode cX12_readFunName 35 = .ok (.aload_n 0, 1) := by decide +kernel
theorem dX12_readFunName_36 : decode cX12_readFunName 36 = .ok (.getfield 79, 3) := by decide +kernel
theorem dX12_readFunName_39 : decode cX12_readFunName 39 = .ok (.iconst (-1), 1) := by decide +kernel
theorem dX12_readFunName_40 : decode cX12_readFunName 40 = .ok (.if_icmp .ne 9, 3) := by decide +kernel
theorem dX12_readFunName_43 : decode cX12_readFunName 43 = .ok (.aload_n 0, 1) := by decide +kernel
theorem dX12_readFunName_44 : decode cX12_readFunName 44 = .ok (.iconst 3, 1) := by decide +kernel
theorem dX12_readFunName_45 : decode cX12_readFunName 45 = .ok (.invokevirtual 72, 3) := by decide +kernel
theorem dX12_readFunName_48 : decode cX12_readFunName 48 = .ok (.ireturn, 1) := by decide +kernel
theorem dX12_readFunName_49 : decode cX12_readFunName 49 = .ok (.aload_n 0, 1) := by decide +kernel
theorem dX12_readFunName_50 : decode cX12_readFunName 50 = .ok (.invokevirtual 82, 3) := by decide +kernel
theorem dX12_readFunName_53 : decode cX12_readFunName 53 = .ok (.iconst 1, 1) := by decide +kernel
theorem dX12_readFunName_54 : decode cX12_readFunName 54 = .ok (.ireturn, 1) := by decide +kernel
theorem dX12_saysOne_0 : decode cX12_saysOne 0 = .ok (.iconst 4, 1) := by decide +kernel
theorem dX12_saysOne_1 : decode cX12_saysOne 1 = .ok (.aload_n 0, 1) := by decide +kernel
theorem dX12_saysOne_2 : decode cX12_saysOne 2 = .ok (.getfield 443, 3) := by decide +kernel
theorem dX12_saysOne_5 : decode cX12_saysOne 5 = .ok (.imul, 1) := by decide +kernel
theorem dX12_saysOne_6 : decode cX12_saysOne 6 = .ok (.istore 5, 2) := by decide +kernel
theorem dX12_saysOne_8 : decode cX12_saysOne 8 = .ok (.aload_n 0, 1) := by decide +kernel
theorem dX12_saysOne_9 : decode cX12_saysOne 9 = .ok (.getfield 181, 3) := by decide +kernel
theorem dX12_saysOne_12 : decode cX12_saysOne 12 = .ok (.iload 5, 2) := by decide +kernel
theorem dX12_saysOne_14 : decode cX12_saysOne 14 = .ok (.iload_n 1, 1) := by decide +kernel
theorem dX12_saysOne_15 : decode cX12_saysOne 15 = .ok (.iastore, 1) := by decide +kernel
theorem dX12_saysOne_16 : decode cX12_saysOne 16 = .ok (.aload_n 0, 1) := by decide +kernel
theorem dX12_saysOne_17 : decode cX12_saysOne 17 = .ok (.getfield 181, 3) := by decide +kernel
theorem dX12_saysOne_20 : decode cX12_saysOne 20 = .ok (.iload 5, 2) := by decide +kernel
theorem dX12_saysOne_22 : decode cX12_saysOne 22 = .ok (.iconst 1, 1) := by decide +kernel
theorem dX12_saysOne_23 : decode cX12_saysOne 23 = .ok (.iadd, 1) := by decide +kernel
theorem dX12_saysOne_24 : decode cX12_saysOne 24 = .ok (.iload_n 2, 1) := by decide +kernel
theorem dX12_saysOne_25 : decode cX12_saysOne 25 = .ok (.iastore, 1) := by decide +kernel
theorem dX12_saysOne_26 : decode cX12_saysOne 26 = .ok (.aload_n 0, 1) := by decide +kernel
theorem dX12_saysOne_27 : decode cX12_saysOne 27 = .ok (.getfield 181, 3) := by decide +kernel
theorem dX12_saysOne_30 : decode cX12_saysOne 30 = .ok (.iload 5, 2) := by decide +kernel
theorem dX12_saysOne_32 : decode cX12_saysOne 32 = .ok (.iconst 2, 1) := by decide +kernel
theorem dX12_saysOne_33 : decode cX12_saysOne 33 = .ok (.iadd, 1) := by decide +kernel
theorem dX12_saysOne_34 : decode cX12_saysOne 34 = .ok (.iload_n 3, 1) := by decide +kernel
theorem dX12_saysOne_35 : decode cX12_saysOne 35 = .ok (.iastore, 1) := by decide +kernel
theorem dX12_saysOne_36 : decode cX12_saysOne 36 = .ok (.aload_n 0, 1) := by decide +kernel
theorem dX12_saysOne_37 : decode cX12_saysOne 37 = .ok (.getfield 181, 3) := by decide +kernel
theorem dX12_saysOne_40 : decode cX12_saysOne 40 = .ok (.iload 5, 2) := by decide +kernel
theorem dX12_saysOne_42 : decode cX12_saysOne 42 = .ok (.iconst 3, 1) := by decide +kernel
theorem dX12_saysOne_43 : decode cX12_saysOne 43 = .ok (.iadd, 1) := by decide +kernel
theorem dX12_saysOne_44 : decode cX12_saysOne 44 = .ok (.iload 4, 2) := by decide +kernel
theorem dX12_saysOne_46 : decode cX12_saysOne 46 = .ok (.iastore, 1) := by decide +kernel
theorem dX12_saysOne_47 : decode cX12_saysOne 47 = .ok (.aload_n 0, 1) := by decide +kernel
theorem dX12_saysOne_48 : decode cX12_saysOne 48 = .ok (.dup, 1) := by decide +kernel
theorem dX12_saysOne_49 : decode cX12_saysOne 49 = .ok (.getfield 443, 3) := by decide +kernel
theorem dX12_saysOne_52 : decode cX12_saysOne 52 = .ok (.iconst 1, 1) := by decide +kernel
theorem dX12_saysOne_53 : decode cX12_saysOne 53 = .ok (.iadd, 1) := by decide +kernel
theorem dX12_saysOne_54 : decode cX12_saysOne 54 = .ok (.putfield 443, 3) := by decide +kernel
theorem dX12_saysOne_57 : decode cX12_saysOne 57 = .ok (.aload_n 0, 1) := by decide +kernel
theorem dX12_saysOne_58 : decode cX12_saysOne 58 = .ok (.getfield 443, 3) := by decide +kernel
theorem dX12_saysOne_61 : decode cX12_saysOne 61 = .ok (.iconst 1, 1) := by decide +kernel
theorem dX12_saysOne_62 : decode cX12_saysOne 62 = .ok (.isub, 1) := by decide +kernel
theorem dX12_saysOne_63 : decode cX12_saysOne 63 = .ok (.ireturn, 1) := by decide +kernel
theorem dX12_readOr_0 : decode cX12_readOr 0 = .ok (.aload_n 0, 1) := by decide +kernel
theorem dX12_readOr_1 : decode cX12_readOr 1 = .ok (.invokevirtual 446, 3) := by decide +kernel
theorem dX12_readOr_4 : decode cX12_readOr 4 = .ok (.ifCond .ne 5, 3) := by decide +kernel
theorem dX12_readOr_7 : decode cX12_readOr 7 = .ok (.iconst 0, 1) := by decide +kernel
theorem dX12_readOr_8 : decode cX12_readOr 8 = .ok (.ireturn, 1) := by decide +kernel
theorem dX12_readOr_9 : decode cX12_readOr 9 = .ok (.aload_n 0, 1) := by decide +kernel
theorem dX12_readOr_10 : decode cX12_readOr 10 = .ok (.getfield 449, 3) := by decide +kernel
theorem dX12_readOr_13 : decode cX12_readOr 13 = .ok (.istore_n 1, 1) := by decide +kernel
theorem dX12_readOr_14 : decode cX12_readOr 14 = .ok (.aload_n 0, 1) := by decide +kernel
theorem dX12_readOr_15 : decode cX12_readOr 15 = .ok (.bipush 11, 2) := by decide +kernel
theorem dX12_readOr_17 : decode cX12_readOr 17 = .ok (.invokevirtual 224, 3) := by decide +kernel
theorem dX12_readOr_20 : decode cX12_readOr 20 = .ok (.ifCond .eq 31, 3) := by decide +kernel
theorem dX12_readOr_23 : decode cX12_readOr 23 = .ok (.aload_n 0, 1) := by decide +kernel
theorem dX12_readOr_24 : decode cX12_readOr 24 = .ok (.invokevirtual 82, 3) := by decide +kernel
theorem dX12_readOr_27 : decode cX12_readOr 27 = .ok (.aload_n 0, 1) := by decide +kernel
theorem dX12_readOr_28 : decode cX12_readOr 28 = .ok (.invokevirtual 446, 3) := by decide +kernel
theorem dX12_readOr_31 : decode cX12_readOr 31 = .ok (.ifCond .ne 5, 3) := by decide +kernel
theorem dX12_readOr_34 : decode cX12_readOr 34 = .ok (.iconst 0, 1) := by decide +kernel
theorem dX12_readOr_35 : decode cX12_readOr 35 = .ok (.ireturn, 1) := by decide +kernel
theorem dX12_readOr_36 : decode cX12_readOr 36 = .ok (.aload_n 0, 1) := by decide +kernel
theorem dX12_readOr_37 : decode cX12_readOr 37 = .ok (.iconst 3, 1) := by decide +kernel
theorem dX12_readOr_38 : decode cX12_readOr 38 = .ok (.iload_n 1, 1) := by decide +kernel
theorem dX12_readOr_39 : decode cX12_readOr 39 = .ok (.aload_n 0, 1) := by decide +kernel
theorem dX12_readOr_40 : decode cX12_readOr 40 = .ok (.getfield 449, 3) := by decide +kernel
theorem dX12_readOr_43 : decode cX12_readOr 43 = .ok (.iconst 0, 1) := by decide +kernel
theorem dX12_readOr_44 : decode cX12_readOr 44 = .ok (.invokevirtual 452, 3) := by decide +kernel
theorem dX12_readOr_47 : decode cX12_readOr 47 = .ok (.istore_n 1, 1) := by decide +kernel
theorem dX12_readOr_48 : decode cX12_readOr 48 = .ok (.goto (-34), 3) := by decide +kernel
theorem dX12_readOr_51 : decode cX12_readOr 51 = .ok (.aload_n 0, 1) := by decide +kernel
theorem dX12_readOr_52 : decode cX12_readOr 52 = .ok (.iload_n 1, 1) := by decide +kernel
theorem dX12_readOr_53 : decode cX12_readOr 53 = .ok (.putfield 449, 3) := by decide +kernel
theorem dX12_readOr_56 : decode cX12_readOr 56 = .ok (.iconst 1, 1) := by decide +kernel
theorem dX12_readOr_57 : decode cX12_readOr 57 = .ok (.ireturn, 1) := by decide +kernel
theorem dX12_readAnd_0 : decode cX12_readAnd 0 = .ok (.aload_n 0, 1) := by decide +kernel
theorem dX12_readAnd_1 : decode cX12_readAnd 1 = .ok (.invokevirtual 456, 3) := by decide +kernel
theorem dX12_readAnd_4 : decode cX12_readAnd 4 = .ok (.ifCond .ne 5, 3) := by decide +kernel
theorem dX12_readAnd_7 : decode cX12_readAnd 7 = .ok (.iconst 0, 1) := by decide +kernel
theorem dX12_readAnd_8 : decode cX12_readAnd 8 = .ok (.ireturn, 1) := by decide +kernel
theorem dX12_readAnd_9 : decode cX12_readAnd 9 = .ok (.aload_n 0, 1) := by decide +kernel
theorem dX12_readAnd_10 : decode cX12_readAnd 10 = .ok (.getfield 449, 3) := by decide +kernel
theorem dX12_readAnd_13 : decode cX12_readAnd 13 = .ok (.istore_n 1, 1) := by decide +kernel
theorem dX12_readAnd_14 : decode cX12_readAnd 14 = .ok (.aload_n 0, 1) := by decide +kernel
theorem dX12_readAnd_15 : decode cX12_readAnd 15 = .ok (.bipush 12, 2) := by decide +kernel
theorem dX12_readAnd_17 : decode cX12_readAnd 17 = .ok (.invokevirtual 224, 3) := by decide +kernel
theorem dX12_readAnd_20 : decode cX12_readAnd 20 = .ok (.ifCond .eq 31, 3) := by decide +kernel
theorem dX12_readAnd_23 : decode cX12_readAnd 23 = .ok (.aload_n 0, 1) := by decide +kernel
theorem dX12_readAnd_24 : decode cX12_readAnd 24 = .ok (.invokevirtual 82, 3) := by decide +kernel
theorem dX12_readAnd_27 : decode cX12_readAnd 27 = .ok (.aload_n 0, 1) := by decide +kernel
theorem dX12_readAnd_28 : decode cX12_readAnd 28 = .ok (.invokevirtual 456, 3) := by decide +kernel
theorem dX12_readAnd_31 : decode cX12_readAnd 31 = .ok (.ifCond .ne 5, 3) := by decide +kernel
theorem dX12_readAnd_34 : decode cX12_readAnd 34 = .ok (.iconst 0, 1) := by decide +kernel
theorem dX12_readAnd_35 : decode cX12_readAnd 35 = .ok (.ireturn, 1) := by decide +kernel
theorem dX12_readAnd_36 : decode cX12_readAnd 36 = .ok (.aload_n 0, 1) := by decide +kernel
theorem dX12_readAnd_37 : decode cX12_readAnd 37 = .ok (.iconst 2, 1) := by decide +kernel
theorem dX12_readAnd_38 : decode cX12_readAnd 38 = .ok (.iload_n 1, 1) := by decide +kernel
theorem dX12_readAnd_39 : decode cX12_readAnd 39 = .ok (.aload_n 0, 1) := by decide +kernel
theorem dX12_readAnd_40 : decode cX12_readAnd 40 = .ok (.getfield 449, 3) := by decide +kernel
theorem dX12_readAnd_43 : decode cX12_readAnd 43 = .ok (.iconst 0, 1) := by decide +kernel
theorem dX12_readAnd_44 : decode cX12_readAnd 44 = .ok (.invokevirtual 452, 3) := by decide +kernel
theorem dX12_readAnd_47 : decode cX12_readAnd 47 = .ok (.istore_n 1, 1) := by decide +kernel
theorem dX12_readAnd_48 : decode cX12_readAnd 48 = .ok (.goto (-34), 3) := by decide +kernel
theorem dX12_readAnd_51 : decode cX12_readAnd 51 = .ok (.aload_n 0, 1) := by decide +kernel
theorem dX12_readAnd_52 : decode cX12_readAnd 52 = .ok (.iload_n 1, 1) := by decide +kernel
theorem dX12_readAnd_53 : decode cX12_readAnd 53 = .ok (.putfield 449, 3) := by decide +kernel
theorem dX12_readAnd_56 : decode cX12_readAnd 56 = .ok (.iconst 1, 1) := by decide +kernel
theorem dX12_readAnd_57 : decode cX12_readAnd 57 = .ok (.ireturn, 1) := by decide +kernel
theorem dX12_readSaid_0 : decode cX12_readSaid 0 = .ok (.aload_n 0, 1) := by decide +kernel
theorem dX12_readSaid_1 : decode cX12_readSaid 1 = .ok (.bipush 40, 2) := by decide +kernel
theorem dX12_readSaid_3 : decode cX12_readSaid 3 = .ok (.invokevirtual 86, 3) := by decide +kernel
theorem dX12_readSaid_6 : decode cX12_readSaid 6 = .ok (.istore_n 1, 1) := by decide +kernel
theorem dX12_readSaid_7 : decode cX12_readSaid 7 = .ok (.bipush 13, 2) := by decide +kernel
theorem dX12_readSaid_9 : decode cX12_readSaid 9 = .ok (.istore_n 2, 1) := by decide +kernel
theorem dX12_readSaid_10 : decode cX12_readSaid 10 = .ok (.iload_n 2, 1) := by decide +kernel
theorem dX12_readSaid_11 : decode cX12_readSaid 11 = .ok (.bipush 21, 2) := by decide +kernel
theorem dX12_readSaid_13 : decode cX12_readSaid 13 = .ok (.if_icmp .gt 17, 3) := by decide +kernel
theorem dX12_readSaid_16 : decode cX12_readSaid 16 = .ok (.aload_n 0, 1) := by decide +kernel
theorem dX12_readSaid_17 : decode cX12_readSaid 17 = .ok (.iload_n 2, 1) := by decide +kernel
theorem dX12_readSaid_18 : decode cX12_readSaid 18 = .ok (.invokevirtual 224, 3) := by decide +kernel
theorem dX12_readSaid_21 : decode cX12_readSaid 21 = .ok (.ifCond .ne 9, 3) := by decide +kernel
theorem dX12_readSaid_24 : decode cX12_readSaid 24 = .ok (.iinc 2 1, 3) := by decide +kernel
theorem dX12_readSaid_27 : decode cX12_readSaid 27 = .ok (.goto (-17), 3) := by decide +kernel
theorem dX12_readSaid_30 : decode cX12_readSaid 30 = .ok (.iload_n 1, 1) := by decide +kernel
theorem dX12_readSaid_31 : decode cX12_readSaid 31 = .ok (.ifCond .ne 15, 3) := by decide +kernel
theorem dX12_readSaid_34 : decode cX12_readSaid 34 = .ok (.iload_n 2, 1) := by decide +kernel
theorem dX12_readSaid_35 : decode cX12_readSaid 35 = .ok (.bipush 21, 2) := by decide +kernel
theorem dX12_readSaid_37 : decode cX12_readSaid 37 = .ok (.if_icmp .le 9, 3) := by decide +kernel
theorem dX12_readSaid_40 : decode cX12_readSaid 40 = .ok (.aload_n 0, 1) := by decide +kernel
theorem dX12_readSaid_41 : decode cX12_readSaid 41 = .ok (.iconst 1, 1) := by decide +kernel
theorem dX12_readSaid_42 : decode cX12_readSaid 42 = .ok (.invokevirtual 72, 3) := by decide +kernel
theorem dX12_readSaid_45 : decode cX12_readSaid 45 = .ok (.ireturn, 1) := by decide +kernel
theorem dX12_readSaid_46 : decode cX12_readSaid 46 = .ok (.aload_n 0, 1) := by decide +kernel
theorem dX12_readSaid_47 : decode cX12_readSaid 47 = .ok (.getfield 459, 3) := by decide +kernel
theorem dX12_readSaid_50 : decode cX12_readSaid 50 = .ok (.bipush 20, 2) := by decide +kernel
theorem dX12_readSaid_52 : decode cX12_readSaid 52 = .ok (.if_icmp .eq 12, 3) := by decide +kernel
theorem dX12_readSaid_55 : decode cX12_readSaid 55 = .ok (.aload_n 0, 1) := by decide +kernel
theorem dX12_readSaid_56 : decode cX12_readSaid 56 = .ok (.getfield 462, 3) := by decide +kernel
theorem dX12_readSaid_59 : decode cX12_readSaid 59 = .ok (.bipush 8, 2) := by decide +kernel
theorem dX12_readSaid_61 : decode cX12_readSaid 61 = .ok (.if_icmp .ne 9, 3) := by decide +kernel
theorem dX12_readSaid_64 : decode cX12_readSaid 64 = .ok (.aload_n 0, 1) := by decide +kernel
theorem dX12_readSaid_65 : decode cX12_readSaid 65 = .ok (.iconst 4, 1) := by decide +kernel
theorem dX12_readSaid_66 : decode cX12_readSaid 66 = .ok (.invokevirtual 72, 3) := by decide +kernel
theorem dX12_readSaid_69 : decode cX12_readSaid 69 = .ok (.ireturn, 1) := by decide +kernel
theorem dX12_readSaid_70 : decode cX12_readSaid 70 = .ok (.aload_n 0, 1) := by decide +kernel
theorem dX12_readSaid_71 : decode cX12_readSaid 71 = .ok (.dup, 1) := by decide +kernel
theorem dX12_readSaid_72 : decode cX12_readSaid 72 = .ok (.getfield 459, 3) := by decide +kernel
theorem dX12_readSaid_75 : decode cX12_readSaid 75 = .ok (.iconst 1, 1) := by decide +kernel
theorem dX12_readSaid_76 : decode cX12_readSaid 76 = .ok (.iadd, 1) := by decide +kernel
theorem dX12_readSaid_77 : decode cX12_readSaid 77 = .ok (.putfield 459, 3) := by decide +kernel
theorem dX12_readSaid_80 : decode cX12_readSaid 80 = .ok (.aload_n 0, 1) := by decide +kernel
theorem dX12_readSaid_81 : decode cX12_readSaid 81 = .ok (.dup, 1) := by decide +kernel
theorem dX12_readSaid_82 : decode cX12_readSaid 82 = .ok (.getfield 462, 3) := by decide +kernel
theorem dX12_readSaid_85 : decode cX12_readSaid 85 = .ok (.iconst 1, 1) := by decide +kernel
theorem dX12_readSaid_86 : decode cX12_readSaid 86 = .ok (.iadd, 1) := by decide +kernel
theorem dX12_readSaid_87 : decode cX12_readSaid 87 = .ok (.putfield 462, 3) := by decide +kernel
theorem dX12_readSaid_90 : decode cX12_readSaid 90 = .ok (.aload_n 0, 1) := by decide +kernel
theorem dX12_readSaid_91 : decode cX12_readSaid 91 = .ok (.invokevirtual 82, 3) := by decide +kernel
theorem dX12_readSaid_94 : decode cX12_readSaid 94 = .ok (.iconst 1, 1) := by decide +kernel
theorem dX12_readSaid_95 : decode cX12_readSaid 95 = .ok (.istore_n 3, 1) := by decide +kernel
theorem dX12_readSaid_96 : decode cX12_readSaid 96 = .ok (.iload_n 1, 1) := by decide +kernel
theorem dX12_readSaid_97 : decode cX12_readSaid 97 = .ok (.ifCond .eq 11, 3) := by decide +kernel
theorem dX12_readSaid_100 : decode cX12_readSaid 100 = .ok (.aload_n 0, 1) := by decide +kernel
theorem dX12_readSaid_101 : decode cX12_readSaid 101 = .ok (.invokevirtual 465, 3) := by decide +kernel
theorem dX12_readSaid_104 : decode cX12_readSaid 104 = .ok (.istore_n 3, 1) := by decide +kernel
theorem dX12_readSaid_105 : decode cX12_readSaid 105 = .ok (.goto 61, 3) := by decide +kernel
theorem dX12_readSaid_108 : decode cX12_readSaid 108 = .ok (.iload_n 2, 1) := by decide +kernel
theorem dX12_readSaid_109 : decode cX12_readSaid 109 = .ok (.bipush 13, 2) := by decide +kernel
theorem dX12_readSaid_111 : decode cX12_readSaid 111 = .ok (.if_icmp .ne 11, 3) := by decide +kernel
theorem dX12_readSaid_114 : decode cX12_readSaid 114 = .ok (.aload_n 0, 1) := by decide +kernel
theorem dX12_readSaid_115 : decode cX12_readSaid 115 = .ok (.invokevirtual 468, 3) := by decide +kernel
theorem dX12_readSaid_118 : decode cX12_readSaid 118 = .ok (.istore_n 3, 1) := by decide +kernel
theorem dX12_readSaid_119 : decode cX12_readSaid 119 = .ok (.goto 47, 3) := by decide +kernel
theorem dX12_readSaid_122 : decode cX12_readSaid 122 = .ok (.iload_n 2, 1) := by decide +kernel
theorem dX12_readSaid_123 : decode cX12_readSaid 123 = .ok (.bipush 17, 2) := by decide +kernel
theorem dX12_readSaid_125 : decode cX12_readSaid 125 = .ok (.if_icmp .ge 21, 3) := by decide +kernel
theorem dX12_readSaid_128 : decode cX12_readSaid 128 = .ok (.aload_n 0, 1) := by decide +kernel
theorem dX12_readSaid_129 : decode cX12_readSaid 129 = .ok (.aload_n 0, 1) := by decide +kernel
theorem dX12_readSaid_130 : decode cX12_readSaid 130 = .ok (.bipush 50, 2) := by decide +kernel
theorem dX12_readSaid_132 : decode cX12_readSaid 132 = .ok (.iload_n 2, 1) := by decide +kernel
theorem dX12_readSaid_133 : decode cX12_readSaid 133 = .ok (.iadd, 1) := by decide +kernel
theorem dX12_readSaid_134 : decode cX12_readSaid 134 = .ok (.iconst 0, 1) := by decide +kernel
theorem dX12_readSaid_135 : decode cX12_readSaid 135 = .ok (.iconst 0, 1) := by decide +kernel
theorem dX12_readSaid_136 : decode cX12_readSaid 136 = .ok (.iconst 0, 1) := by decide +kernel
theorem dX12_readSaid_137 : decode cX12_readSaid 137 = .ok (.invokevirtual 452, 3) := by decide +kernel
theorem dX12_readSaid_140 : decode cX12_readSaid 140 = .ok (.putfield 449, 3) := by decide +kernel
theorem dX12_readSaid_143 : decode cX12_readSaid 143 = .ok (.goto 23, 3) := by decide +kernel
theorem dX12_readSaid_146 : decode cX12_readSaid 146 = .ok (.iload_n 2, 1) := by decide +kernel
theorem dX12_readSaid_147 : decode cX12_readSaid 147 = .ok (.bipush 19, 2) := by decide +kernel
theorem dX12_readSaid_149 : decode cX12_readSaid 149 = .ok (.if_icmp .ge 11, 3) := by decide +kernel
theorem dX12_readSaid_152 : decode cX12_readSaid 152 = .ok (.aload_n 0, 1) := by decide +kernel
theorem dX12_readSaid_153 : decode cX12_readSaid 153 = .ok (.iload_n 2, 1) := by decide +kernel
theorem dX12_readSaid_154 : decode cX12_readSaid 154 = .ok (.invokevirtual 471, 3) := by decide +kernel
theorem dX12_readSaid_157 : decode cX12_readSaid 157 = .ok (.goto 8, 3) := by decide +kernel
theorem dX12_readSaid_160 : decode cX12_readSaid 160 = .ok (.aload_n 0, 1) := by decide +kernel
theorem dX12_readSaid_161 : decode cX12_readSaid 161 = .ok (.iload_n 2, 1) := by decide +kernel
theorem dX12_readSaid_162 : decode cX12_readSaid 162 = .ok (.invokevirtual 474, 3) := by decide +kernel
theorem dX12_readSaid_165 : decode cX12_readSaid 165 = .ok (.istore_n 3, 1) := by decide +kernel
theorem dX12_readSaid_166 : decode cX12_readSaid 166 = .ok (.aload_n 0, 1) := by decide +kernel
theorem dX12_readSaid_167 : decode cX12_readSaid 167 = .ok (.dup, 1) := by decide +kernel
theorem dX12_readSaid_168 : decode cX12_readSaid 168 = .ok (.getfield 462, 3) := by decide +kernel
theorem dX12_readSaid_171 : decode cX12_readSaid 171 = .ok (.iconst 1, 1) := by decide +kernel
theorem dX12_readSaid_172 : decode cX12_readSaid 172 = .ok (.isub, 1) := by decide +kernel
theorem dX12_readSaid_173 : decode cX12_readSaid 173 = .ok (.putfield 462, 3) := by decide +kernel
theorem dX12_readSaid_176 : decode cX12_readSaid 176 = .ok (.iload_n 3, 1) := by decide +kernel
theorem dX12_readSaid_177 : decode cX12_readSaid 177 = .ok (.ireturn, 1) := by decide +kernel
theorem dX12_readNot_0 : decode cX12_readNot 0 = .ok (.aload_n 0, 1) := by decide +kernel
theorem dX12_readNot_1 : decode cX12_readNot 1 = .ok (.invokevirtual 456, 3) := by decide +kernel
theorem dX12_readNot_4 : decode cX12_readNot 4 = .ok (.ifCond .ne 5, 3) := by decide +kernel
theorem dX12_readNot_7 : decode cX12_readNot 7 = .ok (.iconst 0, 1) := by decide +kernel
theorem dX12_readNot_8 : decode cX12_readNot 8 = .ok (.ireturn, 1) := by decide +kernel
theorem dX12_readNot_9 : decode cX12_readNot 9 = .ok (.aload_n 0, 1) := by decide +kernel
theorem dX12_readNot_10 : decode cX12_readNot 10 = .ok (.aload_n 0, 1) := by decide +kernel
theorem dX12_readNot_11 : decode cX12_readNot 11 = .ok (.iconst 1, 1) := by decide +kernel
theorem dX12_readNot_12 : decode cX12_readNot 12 = .ok (.aload_n 0, 1) := by decide +kernel
theorem dX12_readNot_13 : decode cX12_readNot 13 = .ok (.getfield 449, 3) := by decide +kernel
theorem dX12_readNot_16 : decode cX12_readNot 16 = .ok (.iconst 0, 1) := by decide +kernel
theorem dX12_readNot_17 : decode cX12_readNot 17 = .ok (.iconst 0, 1) := by decide +kernel
theorem dX12_readNot_18 : decode cX12_readNot 18 = .ok (.invokevirtual 452, 3) := by decide +kernel
theorem dX12_readNot_21 : decode cX12_readNot 21 = .ok (.putfield 449, 3) := by decide +kernel
theorem dX12_readNot_24 : decode cX12_readNot 24 = .ok (.iconst 1, 1) := by decide +kernel
theorem dX12_readNot_25 : decode cX12_readNot 25 = .ok (.ireturn, 1) := by decide +kernel
theorem dX12_readBracket_0 : decode cX12_readBracket 0 = .ok (.aload_n 0, 1) := by decide +kernel
theorem dX12_readBracket_1 : decode cX12_readBracket 1 = .ok (.invokevirtual 477, 3) := by decide +kernel
theorem dX12_readBracket_4 : decode cX12_readBracket 4 = .ok (.ifCond .ne 5, 3) := by decide +kernel
theorem dX12_readBracket_7 : decode cX12_readBracket 7 = .ok (.iconst 0, 1) := by decide +kernel
theorem dX12_readBracket_8 : decode cX12_readBracket 8 = .ok (.ireturn, 1) := by decide +kernel
theorem dX12_readBracket_9 : decode cX12_readBracket 9 = .ok (.aload_n 0, 1) := by decide +kernel
theorem dX12_readBracket_10 : decode cX12_readBracket 10 = .ok (.bipush 41, 2) := by decide +kernel
theorem dX12_readBracket_12 : decode cX12_readBracket 12 = .ok (.invokevirtual 86, 3) := by decide +kernel
theorem dX12_readBracket_15 : decode cX12_readBracket 15 = .ok (.ifCond .ne 9, 3) := by decide +kernel
theorem dX12_readBracket_18 : decode cX12_readBracket 18 = .ok (.aload_n 0, 1) := by decide +kernel
theorem dX12_readBracket_19 : decode cX12_readBracket 19 = .ok (.iconst 1, 1) := by decide +kernel
theorem dX12_readBracket_20 : decode cX12_readBracket 20 = .ok (.invokevirtual 72, 3) := by decide +kernel
theorem dX12_readBracket_23 : decode cX12_readBracket 23 = .ok (.ireturn, 1) := by decide +kernel
theorem dX12_readBracket_24 : decode cX12_readBracket 24 = .ok (.aload_n 0, 1) := by decide +kernel
theorem dX12_readBracket_25 : decode cX12_readBracket 25 = .ok (.invokevirtual 82, 3) := by decide +kernel
theorem dX12_readBracket_28 : decode cX12_readBracket 28 = .ok (.iconst 1, 1) := by decide +kernel
theorem dX12_readBracket_29 : decode cX12_readBracket 29 = .ok (.ireturn, 1) := by decide +kernel
theorem dX12_readOf_0 : decode cX12_readOf 0 = .ok (.aload_n 0, 1) := by decide +kernel
theorem dX12_readOf_1 : decode cX12_readOf 1 = .ok (.invokevirtual 480, 3) := by decide +kernel
theorem dX12_readOf_4 : decode cX12_readOf 4 = .ok (.ifCond .ne 5, 3) := by decide +kernel
theorem dX12_readOf_7 : decode cX12_readOf 7 = .ok (.iconst 0, 1) := by decide +kernel
theorem dX12_readOf_8 : decode cX12_readOf 8 = .ok (.ireturn, 1) := by decide +kernel
theorem dX12_readOf_9 : decode cX12_readOf 9 = .ok (.aload_n 0, 1) := by decide +kernel
theorem dX12_readOf_10 : decode cX12_readOf 10 = .ok (.aload_n 0, 1) := by decide +kernel
theorem dX12_readOf_11 : decode cX12_readOf 11 = .ok (.bipush 50, 2) := by decide +kernel
theorem dX12_readOf_13 : decode cX12_readOf 13 = .ok (.iload_n 1, 1) := by decide +kernel
theorem dX12_readOf_14 : decode cX12_readOf 14 = .ok (.iadd, 1) := by decide +kernel
theorem dX12_readOf_15 : decode cX12_readOf 15 = .ok (.aload_n 0, 1) := by decide +kernel
theorem dX12_readOf_16 : decode cX12_readOf 16 = .ok (.getfield 79, 3) := by decide +kernel
theorem dX12_readOf_19 : decode cX12_readOf 19 = .ok (.iconst 0, 1) := by decide +kernel
theorem dX12_readOf_20 : decode cX12_readOf 20 = .ok (.iconst 0, 1) := by decide +kernel
theorem dX12_readOf_21 : decode cX12_readOf 21 = .ok (.invokevirtual 452, 3) := by decide +kernel
