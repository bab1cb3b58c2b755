theorem dX3_copyFrom_107 : decode cX3_copyFrom 107 = .ok (.getfield 35, 3) := by decide +kernel
theorem dX3_copyFrom_110 : decode cX3_copyFrom 110 = .ok (.iconst 0, 1) := by decide +kernel
theorem dX3_copyFrom_111 : decode cX3_copyFrom 111 = .ok (.aload_n 0, 1) := by decide +kernel
theorem dX3_copyFrom_112 : decode cX3_copyFrom 112 = .ok (.getfield 35, 3) := by decide +kernel
theorem dX3_copyFrom_115 : decode cX3_copyFrom 115 = .ok (.iconst 0, 1) := by decide +kernel
theorem dX3_copyFrom_116 : decode cX3_copyFrom 116 = .ok (.aload_n 0, 1) := by decide +kernel
theorem dX3_copyFrom_117 : decode cX3_copyFrom 117 = .ok (.getfield 35, 3) := by decide +kernel
theorem dX3_copyFrom_120 : decode cX3_copyFrom 120 = .ok (.arraylength, 1) := by decide +kernel
theorem dX3_copyFrom_121 : decode cX3_copyFrom 121 = .ok (.invokestatic 48, 3) := by decide +kernel
theorem dX3_copyFrom_124 : decode cX3_copyFrom 124 = .ok (.aload_n 1, 1) := by decide +kernel
theorem dX3_copyFrom_125 : decode cX3_copyFrom 125 = .ok (.getfield 38, 3) := by decide +kernel
theorem dX3_copyFrom_128 : decode cX3_copyFrom 128 = .ok (.iconst 0, 1) := by decide +kernel
theorem dX3_copyFrom_129 : decode cX3_copyFrom 129 = .ok (.aload_n 0, 1) := by decide +kernel
theorem dX3_copyFrom_130 : decode cX3_copyFrom 130 = .ok (.getfield 38, 3) := by decide +kernel
theorem dX3_copyFrom_133 : decode cX3_copyFrom 133 = .ok (.iconst 0, 1) := by decide +kernel
theorem dX3_copyFrom_134 : decode cX3_copyFrom 134 = .ok (.aload_n 0, 1) := by decide +kernel
theorem dX3_copyFrom_135 : decode cX3_copyFrom 135 = .ok (.getfield 38, 3) := by decide +kernel
theorem dX3_copyFrom_138 : decode cX3_copyFrom 138 = .ok (.arraylength, 1) := by decide +kernel
theorem dX3_copyFrom_139 : decode cX3_copyFrom 139 = .ok (.invokestatic 48, 3) := by decide +kernel
theorem dX3_copyFrom_142 : decode cX3_copyFrom 142 = .ok (.aload_n 0, 1) := by decide +kernel
theorem dX3_copyFrom_143 : decode cX3_copyFrom 143 = .ok (.getfield 44, 3) := by decide +kernel
theorem dX3_copyFrom_146 : decode cX3_copyFrom 146 = .ok (.aload_n 1, 1) := by decide +kernel
theorem dX3_copyFrom_147 : decode cX3_copyFrom 147 = .ok (.getfield 44, 3) := by decide +kernel
theorem dX3_copyFrom_150 : decode cX3_copyFrom 150 = .ok (.invokevirtual 54, 3) := by decide +kernel
theorem dX3_copyFrom_153 : decode cX3_copyFrom 153 = .ok (.return_, 1) := by decide +kernel
theorem dX3_openFun_0 : decode cX3_openFun 0 = .ok (.aload_n 0, 1) := by decide +kernel
theorem dX3_openFun_1 : decode cX3_openFun 1 = .ok (.getfield 18, 3) := by decide +kernel
theorem dX3_openFun_4 : decode cX3_openFun 4 = .ok (.aload_n 0, 1) := by decide +kernel
theorem dX3_openFun_5 : decode cX3_openFun 5 = .ok (.getfield 9, 3) := by decide +kernel
theorem dX3_openFun_8 : decode cX3_openFun 8 = .ok (.lload_n 1, 1) := by decide +kernel
theorem dX3_openFun_9 : decode cX3_openFun 9 = .ok (.lastore, 1) := by decide +kernel
theorem dX3_openFun_10 : decode cX3_openFun 10 = .ok (.aload_n 0, 1) := by decide +kernel
theorem dX3_openFun_11 : decode cX3_openFun 11 = .ok (.getfield 22, 3) := by decide +kernel
theorem dX3_openFun_14 : decode cX3_openFun 14 = .ok (.aload_n 0, 1) := by decide +kernel
theorem dX3_openFun_15 : decode cX3_openFun 15 = .ok (.getfield 9, 3) := by decide +kernel
theorem dX3_openFun_18 : decode cX3_openFun 18 = .ok (.iconst 0, 1) := by decide +kernel
theorem dX3_openFun_19 : decode cX3_openFun 19 = .ok (.iastore, 1) := by decide +kernel
theorem dX3_openFun_20 : decode cX3_openFun 20 = .ok (.aload_n 0, 1) := by decide +kernel
theorem dX3_openFun_21 : decode cX3_openFun 21 = .ok (.getfield 26, 3) := by decide +kernel
theorem dX3_openFun_24 : decode cX3_openFun 24 = .ok (.aload_n 0, 1) := by decide +kernel
theorem dX3_openFun_25 : decode cX3_openFun 25 = .ok (.getfield 9, 3) := by decide +kernel
theorem dX3_openFun_28 : decode cX3_openFun 28 = .ok (.aload_n 0, 1) := by decide +kernel
theorem dX3_openFun_29 : decode cX3_openFun 29 = .ok (.getfield 15, 3) := by decide +kernel
theorem dX3_openFun_32 : decode cX3_openFun 32 = .ok (.iastore, 1) := by decide +kernel
theorem dX3_openFun_33 : decode cX3_openFun 33 = .ok (.aload_n 0, 1) := by decide +kernel
theorem dX3_openFun_34 : decode cX3_openFun 34 = .ok (.getfield 29, 3) := by decide +kernel
theorem dX3_openFun_37 : decode cX3_openFun 37 = .ok (.aload_n 0, 1) := by decide +kernel
theorem dX3_openFun_38 : decode cX3_openFun 38 = .ok (.getfield 9, 3) := by decide +kernel
theorem dX3_openFun_41 : decode cX3_openFun 41 = .ok (.iconst 0, 1) := by decide +kernel
theorem dX3_openFun_42 : decode cX3_openFun 42 = .ok (.iastore, 1) := by decide +kernel
theorem dX3_openFun_43 : decode cX3_openFun 43 = .ok (.aload_n 0, 1) := by decide +kernel
theorem dX3_openFun_44 : decode cX3_openFun 44 = .ok (.dup, 1) := by decide +kernel
theorem dX3_openFun_45 : decode cX3_openFun 45 = .ok (.getfield 9, 3) := by decide +kernel
theorem dX3_openFun_48 : decode cX3_openFun 48 = .ok (.iconst 1, 1) := by decide +kernel
theorem dX3_openFun_49 : decode cX3_openFun 49 = .ok (.iadd, 1) := by decide +kernel
theorem dX3_openFun_50 : decode cX3_openFun 50 = .ok (.putfield 9, 3) := by decide +kernel
theorem dX3_openFun_53 : decode cX3_openFun 53 = .ok (.return_, 1) := by decide +kernel
theorem dX3_closeLine_0 : decode cX3_closeLine 0 = .ok (.aload_n 0, 1) := by decide +kernel
theorem dX3_closeLine_1 : decode cX3_closeLine 1 = .ok (.getfield 29, 3) := by decide +kernel
theorem dX3_closeLine_4 : decode cX3_closeLine 4 = .ok (.aload_n 0, 1) := by decide +kernel
theorem dX3_closeLine_5 : decode cX3_closeLine 5 = .ok (.getfield 9, 3) := by decide +kernel
theorem dX3_closeLine_8 : decode cX3_closeLine 8 = .ok (.iconst 1, 1) := by decide +kernel
theorem dX3_closeLine_9 : decode cX3_closeLine 9 = .ok (.isub, 1) := by decide +kernel
theorem dX3_closeLine_10 : decode cX3_closeLine 10 = .ok (.dup2, 1) := by decide +kernel
theorem dX3_closeLine_11 : decode cX3_closeLine 11 = .ok (.iaload, 1) := by decide +kernel
theorem dX3_closeLine_12 : decode cX3_closeLine 12 = .ok (.iconst 1, 1) := by decide +kernel
theorem dX3_closeLine_13 : decode cX3_closeLine 13 = .ok (.iadd, 1) := by decide +kernel
theorem dX3_closeLine_14 : decode cX3_closeLine 14 = .ok (.iastore, 1) := by decide +kernel
theorem dX3_closeLine_15 : decode cX3_closeLine 15 = .ok (.aload_n 0, 1) := by decide +kernel
theorem dX3_closeLine_16 : decode cX3_closeLine 16 = .ok (.dup, 1) := by decide +kernel
theorem dX3_closeLine_17 : decode cX3_closeLine 17 = .ok (.getfield 15, 3) := by decide +kernel
theorem dX3_closeLine_20 : decode cX3_closeLine 20 = .ok (.iconst 1, 1) := by decide +kernel
theorem dX3_closeLine_21 : decode cX3_closeLine 21 = .ok (.iadd, 1) := by decide +kernel
theorem dX3_closeLine_22 : decode cX3_closeLine 22 = .ok (.putfield 15, 3) := by decide +kernel
theorem dX3_closeLine_25 : decode cX3_closeLine 25 = .ok (.return_, 1) := by decide +kernel
theorem dX3_funOf_0 : decode cX3_funOf 0 = .ok (.iconst 0, 1) := by decide +kernel
theorem dX3_funOf_1 : decode cX3_funOf 1 = .ok (.istore_n 3, 1) := by decide +kernel
theorem dX3_funOf_2 : decode cX3_funOf 2 = .ok (.iload_n 3, 1) := by decide +kernel
theorem dX3_funOf_3 : decode cX3_funOf 3 = .ok (.aload_n 0, 1) := by decide +kernel
theorem dX3_funOf_4 : decode cX3_funOf 4 = .ok (.getfield 9, 3) := by decide +kernel
theorem dX3_funOf_7 : decode cX3_funOf 7 = .ok (.if_icmp .ge 22, 3) := by decide +kernel
theorem dX3_funOf_10 : decode cX3_funOf 10 = .ok (.aload_n 0, 1) := by decide +kernel
theorem dX3_funOf_11 : decode cX3_funOf 11 = .ok (.getfield 18, 3) := by decide +kernel
theorem dX3_funOf_14 : decode cX3_funOf 14 = .ok (.iload_n 3, 1) := by decide +kernel
theorem dX3_funOf_15 : decode cX3_funOf 15 = .ok (.laload, 1) := by decide +kernel
theorem dX3_funOf_16 : decode cX3_funOf 16 = .ok (.lload_n 1, 1) := by decide +kernel
theorem dX3_funOf_17 : decode cX3_funOf 17 = .ok (.lcmp, 1) := by decide +kernel
theorem dX3_funOf_18 : decode cX3_funOf 18 = .ok (.ifCond .ne 5, 3) := by decide +kernel
theorem dX3_funOf_21 : decode cX3_funOf 21 = .ok (.iload_n 3, 1) := by decide +kernel
theorem dX3_funOf_22 : decode cX3_funOf 22 = .ok (.ireturn, 1) := by decide +kernel
theorem dX3_funOf_23 : decode cX3_funOf 23 = .ok (.iinc 3 1, 3) := by decide +kernel
theorem dX3_funOf_26 : decode cX3_funOf 26 = .ok (.goto (-24), 3) := by decide +kernel
theorem dX3_funOf_29 : decode cX3_funOf 29 = .ok (.iconst (-1), 1) := by decide +kernel
theorem dX3_funOf_30 : decode cX3_funOf 30 = .ok (.ireturn, 1) := by decide +kernel
theorem dX3_hasFun_0 : decode cX3_hasFun 0 = .ok (.iload_n 1, 1) := by decide +kernel
theorem dX3_hasFun_1 : decode cX3_hasFun 1 = .ok (.ifCond .lt 15, 3) := by decide +kernel
theorem dX3_hasFun_4 : decode cX3_hasFun 4 = .ok (.iload_n 1, 1) := by decide +kernel
theorem dX3_hasFun_5 : decode cX3_hasFun 5 = .ok (.aload_n 0, 1) := by decide +kernel
theorem dX3_hasFun_6 : decode cX3_hasFun 6 = .ok (.getfield 9, 3) := by decide +kernel
theorem dX3_hasFun_9 : decode cX3_hasFun 9 = .ok (.if_icmp .ge 7, 3) := by decide +kernel
theorem dX3_hasFun_12 : decode cX3_hasFun 12 = .ok (.iconst 1, 1) := by decide +kernel
theorem dX3_hasFun_13 : decode cX3_hasFun 13 = .ok (.goto 4, 3) := by decide +kernel
theorem dX3_hasFun_16 : decode cX3_hasFun 16 = .ok (.iconst 0, 1) := by decide +kernel
theorem dX3_hasFun_17 : decode cX3_hasFun 17 = .ok (.ireturn, 1) := by decide +kernel
theorem dX3_hasVar_0 : decode cX3_hasVar 0 = .ok (.aload_n 0, 1) := by decide +kernel
theorem dX3_hasVar_1 : decode cX3_hasVar 1 = .ok (.iload_n 1, 1) := by decide +kernel
theorem dX3_hasVar_2 : decode cX3_hasVar 2 = .ok (.invokevirtual 58, 3) := by decide +kernel
theorem dX3_hasVar_5 : decode cX3_hasVar 5 = .ok (.ifCond .eq 20, 3) := by decide +kernel
theorem dX3_hasVar_8 : decode cX3_hasVar 8 = .ok (.iload_n 2, 1) := by decide +kernel
theorem dX3_hasVar_9 : decode cX3_hasVar 9 = .ok (.ifCond .lt 16, 3) := by decide +kernel
theorem dX3_hasVar_12 : decode cX3_hasVar 12 = .ok (.iload_n 2, 1) := by decide +kernel
theorem dX3_hasVar_13 : decode cX3_hasVar 13 = .ok (.aload_n 0, 1) := by decide +kernel
theorem dX3_hasVar_14 : decode cX3_hasVar 14 = .ok (.iload_n 1, 1) := by decide +kernel
theorem dX3_hasVar_15 : decode cX3_hasVar 15 = .ok (.invokevirtual 62, 3) := by decide +kernel
theorem dX3_hasVar_18 : decode cX3_hasVar 18 = .ok (.if_icmp .ge 7, 3) := by decide +kernel
theorem dX3_hasVar_21 : decode cX3_hasVar 21 = .ok (.iconst 1, 1) := by decide +kernel
theorem dX3_hasVar_22 : decode cX3_hasVar 22 = .ok (.goto 4, 3) := by decide +kernel
theorem dX3_hasVar_25 : decode cX3_hasVar 25 = .ok (.iconst 0, 1) := by decide +kernel
theorem dX3_hasVar_26 : decode cX3_hasVar 26 = .ok (.ireturn, 1) := by decide +kernel
theorem dX3_varCount_0 : decode cX3_varCount 0 = .ok (.aload_n 0, 1) := by decide +kernel
theorem dX3_varCount_1 : decode cX3_varCount 1 = .ok (.getfield 22, 3) := by decide +kernel
theorem dX3_varCount_4 : decode cX3_varCount 4 = .ok (.iload_n 1, 1) := by decide +kernel
theorem dX3_varCount_5 : decode cX3_varCount 5 = .ok (.iaload, 1) := by decide +kernel
theorem dX3_varCount_6 : decode cX3_varCount 6 = .ok (.aload_n 0, 1) := by decide +kernel
theorem dX3_varCount_7 : decode cX3_varCount 7 = .ok (.getfield 29, 3) := by decide +kernel
theorem dX3_varCount_10 : decode cX3_varCount 10 = .ok (.iload_n 1, 1) := by decide +kernel
theorem dX3_varCount_11 : decode cX3_varCount 11 = .ok (.iaload, 1) := by decide +kernel
theorem dX3_varCount_12 : decode cX3_varCount 12 = .ok (.iadd, 1) := by decide +kernel
theorem dX3_varCount_13 : decode cX3_varCount 13 = .ok (.ireturn, 1) := by decide +kernel
theorem dX3_parametersOfMain_0 : decode cX3_parametersOfMain 0 = .ok (.aload_n 0, 1) := by decide +kernel
theorem dX3_parametersOfMain_1 : decode cX3_parametersOfMain 1 = .ok (.getfield 9, 3) := by decide +kernel
theorem dX3_parametersOfMain_4 : decode cX3_parametersOfMain 4 = .ok (.ifCond .le 17, 3) := by decide +kernel
theorem dX3_parametersOfMain_7 : decode cX3_parametersOfMain 7 = .ok (.aload_n 0, 1) := by decide +kernel
theorem dX3_parametersOfMain_8 : decode cX3_parametersOfMain 8 = .ok (.getfield 22, 3) := by decide +kernel
theorem dX3_parametersOfMain_11 : decode cX3_parametersOfMain 11 = .ok (.aload_n 0, 1) := by decide +kernel
theorem dX3_parametersOfMain_12 : decode cX3_parametersOfMain 12 = .ok (.getfield 9, 3) := by decide +kernel
theorem dX3_parametersOfMain_15 : decode cX3_parametersOfMain 15 = .ok (.iconst 1, 1) := by decide +kernel
theorem dX3_parametersOfMain_16 : decode cX3_parametersOfMain 16 = .ok (.isub, 1) := by decide +kernel
theorem dX3_parametersOfMain_17 : decode cX3_parametersOfMain 17 = .ok (.iaload, 1) := by decide +kernel
theorem dX3_parametersOfMain_18 : decode cX3_parametersOfMain 18 = .ok (.goto 4, 3) := by decide +kernel
theorem dX3_parametersOfMain_21 : decode cX3_parametersOfMain 21 = .ok (.iconst 0, 1) := by decide +kernel
theorem dX3_parametersOfMain_22 : decode cX3_parametersOfMain 22 = .ok (.ireturn, 1) := by decide +kernel
theorem dX3_varOfLine_0 : decode cX3_varOfLine 0 = .ok (.aload_n 0, 1) := by decide +kernel
theorem dX3_varOfLine_1 : decode cX3_varOfLine 1 = .ok (.getfield 22, 3) := by decide +kernel
theorem dX3_varOfLine_4 : decode cX3_varOfLine 4 = .ok (.iload_n 1, 1) := by decide +kernel
theorem dX3_varOfLine_5 : decode cX3_varOfLine 5 = .ok (.iaload, 1) := by decide +kernel
theorem dX3_varOfLine_6 : decode cX3_varOfLine 6 = .ok (.iload_n 2, 1) := by decide +kernel
theorem dX3_varOfLine_7 : decode cX3_varOfLine 7 = .ok (.iadd, 1) := by decide +kernel
theorem dX3_varOfLine_8 : decode cX3_varOfLine 8 = .ok (.aload_n 0, 1) := by decide +kernel
theorem dX3_varOfLine_9 : decode cX3_varOfLine 9 = .ok (.getfield 26, 3) := by decide +kernel
theorem dX3_varOfLine_12 : decode cX3_varOfLine 12 = .ok (.iload_n 1, 1) := by decide +kernel
theorem dX3_varOfLine_13 : decode cX3_varOfLine 13 = .ok (.iaload, 1) := by decide +kernel
theorem dX3_varOfLine_14 : decode cX3_varOfLine 14 = .ok (.isub, 1) := by decide +kernel
theorem dX3_varOfLine_15 : decode cX3_varOfLine 15 = .ok (.ireturn, 1) := by decide +kernel
theorem dX3_resultOf_0 : decode cX3_resultOf 0 = .ok (.aload_n 0, 1) := by decide +kernel
theorem dX3_resultOf_1 : decode cX3_resultOf 1 = .ok (.iload_n 1, 1) := by decide +kernel
theorem dX3_resultOf_2 : decode cX3_resultOf 2 = .ok (.invokevirtual 62, 3) := by decide +kernel
theorem dX3_resultOf_5 : decode cX3_resultOf 5 = .ok (.iconst 1, 1) := by decide +kernel
theorem dX3_resultOf_6 : decode cX3_resultOf 6 = .ok (.isub, 1) := by decide +kernel
theorem dX3_resultOf_7 : decode cX3_resultOf 7 = .ok (.ireturn, 1) := by decide +kernel
theorem dX3_isCall_0 : decode cX3_isCall 0 = .ok (.aload_n 0, 1) := by decide +kernel
theorem dX3_isCall_1 : decode cX3_isCall 1 = .ok (.getfield 32, 3) := by decide +kernel
theorem dX3_isCall_4 : decode cX3_isCall 4 = .ok (.iload_n 1, 1) := by decide +kernel
theorem dX3_isCall_5 : decode cX3_isCall 5 = .ok (.iaload, 1) := by decide +kernel
theorem dX3_isCall_6 : decode cX3_isCall 6 = .ok (.bipush 8, 2) := by decide +kernel
theorem dX3_isCall_8 : decode cX3_isCall 8 = .ok (.if_icmp .eq 14, 3) := by decide +kernel
theorem dX3_isCall_11 : decode cX3_isCall 11 = .ok (.aload_n 0, 1) := by decide +kernel
theorem dX3_isCall_12 : decode cX3_isCall 12 = .ok (.getfield 32, 3) := by decide +kernel
theorem dX3_isCall_15 : decode cX3_isCall 15 = .ok (.iload_n 1, 1) := by decide +kernel
theorem dX3_isCall_16 : decode cX3_isCall 16 = .ok (.iaload, 1) := by decide +kernel
theorem dX3_isCall_17 : decode cX3_isCall 17 = .ok (.bipush 9, 2) := by decide +kernel
theorem dX3_isCall_19 : decode cX3_isCall 19 = .ok (.if_icmp .ne 7, 3) := by decide +kernel
theorem dX3_isCall_22 : decode cX3_isCall 22 = .ok (.iconst 1, 1) := by decide +kernel
theorem dX3_isCall_23 : decode cX3_isCall 23 = .ok (.goto 4, 3) := by decide +kernel
theorem dX3_isCall_26 : decode cX3_isCall 26 = .ok (.iconst 0, 1) := by decide +kernel
theorem dX3_isCall_27 : decode cX3_isCall 27 = .ok (.ireturn, 1) := by decide +kernel
theorem dX3_argumentCount_0 : decode cX3_argumentCount 0 = .ok (.aload_n 0, 1) := by decide +kernel
theorem dX3_argumentCount_1 : decode cX3_argumentCount 1 = .ok (.getfield 22, 3) := by decide +kernel
theorem dX3_argumentCount_4 : decode cX3_argumentCount 4 = .ok (.aload_n 0, 1) := by decide +kernel
theorem dX3_argumentCount_5 : decode cX3_argumentCount 5 = .ok (.getfield 35, 3) := by decide +kernel
theorem dX3_argumentCount_8 : decode cX3_argumentCount 8 = .ok (.iload_n 1, 1) := by decide +kernel
theorem dX3_argumentCount_9 : decode cX3_argumentCount 9 = .ok (.iaload, 1) := by decide +kernel
theorem dX3_argumentCount_10 : decode cX3_argumentCount 10 = .ok (.iaload, 1) := by decide +kernel
theorem dX3_argumentCount_11 : decode cX3_argumentCount 11 = .ok (.ireturn, 1) := by decide +kernel
theorem dX3_operandCount_0 : decode cX3_operandCount 0 = .ok (.aload_n 0, 1) := by decide +kernel
theorem dX3_operandCount_1 : decode cX3_operandCount 1 = .ok (.getfield 32, 3) := by decide +kernel
theorem dX3_operandCount_4 : decode cX3_operandCount 4 = .ok (.iload_n 1, 1) := by decide +kernel
theorem dX3_operandCount_5 : decode cX3_operandCount 5 = .ok (.iaload, 1) := by decide +kernel
theorem dX3_operandCount_6 : decode cX3_operandCount 6 = .ok (.tableswitch 118 3 23 #[100, 100, 118, 118, 102, 104, 110, 118, 118, 118, 118, 118, 118, 118, 118, 118, 118, 118, 118, 98, 100], 98) := by decide +kernel
theorem dX3_operandCount_104 : decode cX3_operandCount 104 = .ok (.iconst 0, 1) := by decide +kernel
theorem dX3_operandCount_105 : decode cX3_operandCount 105 = .ok (.ireturn, 1) := by decide +kernel
theorem dX3_operandCount_106 : decode cX3_operandCount 106 = .ok (.iconst 1, 1) := by decide +kernel
theorem dX3_operandCount_107 : decode cX3_operandCount 107 = .ok (.ireturn, 1) := by decide +kernel
theorem dX3_operandCount_108 : decode cX3_operandCount 108 = .ok (.iconst 3, 1) := by decide +kernel
theorem dX3_operandCount_109 : decode cX3_operandCount 109 = .ok (.ireturn, 1) := by decide +kernel
theorem dX3_operandCount_110 : decode cX3_operandCount 110 = .ok (.aload_n 0, 1) := by decide +kernel
theorem dX3_operandCount_111 : decode cX3_operandCount 111 = .ok (.iload_n 1, 1) := by decide +kernel
theorem dX3_operandCount_112 : decode cX3_operandCount 112 = .ok (.invokevirtual 66, 3) := by decide +kernel
theorem dX3_operandCount_115 : decode cX3_operandCount 115 = .ok (.ireturn, 1) := by decide +kernel
theorem dX3_operandCount_116 : decode cX3_operandCount 116 = .ok (.aload_n 0, 1) := by decide +kernel
theorem dX3_operandCount_117 : decode cX3_operandCount 117 = .ok (.iload_n 1, 1) := by decide +kernel
theorem dX3_operandCount_118 : decode cX3_operandCount 118 = .ok (.invokevirtual 66, 3) := by decide +kernel
theorem dX3_operandCount_121 : decode cX3_operandCount 121 = .ok (.iconst 2, 1) := by decide +kernel
theorem dX3_operandCount_122 : decode cX3_operandCount 122 = .ok (.iadd, 1) := by decide +kernel
theorem dX3_operandCount_123 : decode cX3_operandCount 123 = .ok (.ireturn, 1) := by decide +kernel
theorem dX3_operandCount_124 : decode cX3_operandCount 124 = .ok (.iconst 2, 1) := by decide +kernel
theorem dX3_operandCount_125 : decode cX3_operandCount 125 = .ok (.ireturn, 1) := by decide +kernel
theorem dX3_conditionSlot_0 : decode cX3_conditionSlot 0 = .ok (.aload_n 0, 1) := by decide +kernel
theorem dX3_conditionSlot_1 : decode cX3_conditionSlot 1 = .ok (.iload_n 1, 1) := by decide +kernel
theorem dX3_conditionSlot_2 : decode cX3_conditionSlot 2 = .ok (.invokevirtual 66, 3) := by decide +kernel
theorem dX3_conditionSlot_5 : decode cX3_conditionSlot 5 = .ok (.ireturn, 1) := by decide +kernel
theorem dX3_elseSlot_0 : decode cX3_elseSlot 0 = .ok (.aload_n 0, 1) := by decide +kernel
theorem dX3_elseSlot_1 : decode cX3_elseSlot 1 = .ok (.iload_n 1, 1) := by decide +kernel
theorem dX3_elseSlot_2 : decode cX3_elseSlot 2 = .ok (.invokevirtual 66, 3) := by decide +kernel
theorem dX3_elseSlot_5 : decode cX3_elseSlot 5 = .ok (.iconst 1, 1) := by decide +kernel
theorem dX3_elseSlot_6 : decode cX3_elseSlot 6 = .ok (.iadd, 1) := by decide +kernel
theorem dX3_elseSlot_7 : decode cX3_elseSlot 7 = .ok (.ireturn, 1) := by decide +kernel
theorem dX3_operandAt_0 : decode cX3_operandAt 0 = .ok (.aload_n 0, 1) := by decide +kernel
theorem dX3_operandAt_1 : decode cX3_operandAt 1 = .ok (.getfield 38, 3) := by decide +kernel
theorem dX3_operandAt_4 : decode cX3_operandAt 4 = .ok (.iload_n 1, 1) := by decide +kernel
theorem dX3_operandAt_5 : decode cX3_operandAt 5 = .ok (.iconst 5, 1) := by decide +kernel
theorem dX3_operandAt_6 : decode cX3_operandAt 6 = .ok (.imul, 1) := by decide +kernel
theorem dX3_operandAt_7 : decode cX3_operandAt 7 = .ok (.iload_n 2, 1) := by decide +kernel
theorem dX3_operandAt_8 : decode cX3_operandAt 8 = .ok (.iadd, 1) := by decide +kernel
theorem dX3_operandAt_9 : decode cX3_operandAt 9 = .ok (.iaload, 1) := by decide +kernel
theorem dX3_operandAt_10 : decode cX3_operandAt 10 = .ok (.ireturn, 1) := by decide +kernel
theorem dX3_calledBy_0 : decode cX3_calledBy 0 = .ok (.iconst 0, 1) := by decide +kernel
theorem dX3_calledBy_1 : decode cX3_calledBy 1 = .ok (.istore_n 2, 1) := by decide +kernel
theorem dX3_calledBy_2 : decode cX3_calledBy 2 = .ok (.aload_n 0, 1) := by decide +kernel
theorem dX3_calledBy_3 : decode cX3_calledBy 3 = .ok (.getfield 26, 3) := by decide +kernel
theorem dX3_calledBy_6 : decode cX3_calledBy 6 = .ok (.iload_n 1, 1) := by decide +kernel
theorem dX3_calledBy_7 : decode cX3_calledBy 7 = .ok (.iaload, 1) := by decide +kernel
theorem dX3_calledBy_8 : decode cX3_calledBy 8 = .ok (.istore_n 3, 1) := by decide +kernel
theorem dX3_calledBy_9 : decode cX3_calledBy 9 = .ok (.iload_n 3, 1) := by decide +kernel
theorem dX3_calledBy_10 : decode cX3_calledBy 10 = .ok (.aload_n 0, 1) := by decide +kernel
theorem dX3_calledBy_11 : decode cX3_calledBy 11 = .ok (.getfield 26, 3) := by decide +kernel
theorem dX3_calledBy_14 : decode cX3_calledBy 14 = .ok (.iload_n 1, 1) := by decide +kernel
theorem dX3_calledBy_15 : decode cX3_calledBy 15 = .ok (.iaload, 1) := by decide +kernel
theorem dX3_calledBy_16 : decode cX3_calledBy 16 = .ok (.aload_n 0, 1) := by decide +kernel
theorem dX3_calledBy_17 : decode cX3_calledBy 17 = .ok (.getfield 29, 3) := by decide +kernel
theorem dX3_calledBy_20 : decode cX3_calledBy 20 = .ok (.iload_n 1, 1) := by decide +kernel
theorem dX3_calledBy_21 : decode cX3_calledBy 21 = .ok (.iaload, 1) := by decide +kernel
theorem dX3_calledBy_22 : decode cX3_calledBy 22 = .ok (.iadd, 1) := by decide +kernel
theorem dX3_calledBy_23 : decode cX3_calledBy 23 = .ok (.if_icmp .ge 28, 3) := by decide +kernel
theorem dX3_calledBy_26 : decode cX3_calledBy 26 = .ok (.aload_n 0, 1) := by decide +kernel
theorem dX3_calledBy_27 : decode cX3_calledBy 27 = .ok (.iload_n 3, 1) := by decide +kernel
theorem dX3_calledBy_28 : decode cX3_calledBy 28 = .ok (.invokevirtual 69, 3) := by decide +kernel
theorem dX3_calledBy_31 : decode cX3_calledBy 31 = .ok (.ifCond .eq 14, 3) := by decide +kernel
theorem dX3_calledBy_34 : decode cX3_calledBy 34 = .ok (.iload_n 2, 1) := by decide +kernel
theorem dX3_calledBy_35 : decode cX3_calledBy 35 = .ok (.iconst 1, 1) := by decide +kernel
theorem dX3_calledBy_36 : decode cX3_calledBy 36 = .ok (.aload_n 0, 1) := by decide +kernel
theorem dX3_calledBy_37 : decode cX3_calledBy 37 = .ok (.getfield 35, 3) := by decide +kernel
theorem dX3_calledBy_40 : decode cX3_calledBy 40 = .ok (.iload_n 3, 1) := by decide +kernel
theorem dX3_calledBy_41 : decode cX3_calledBy 41 = .ok (.iaload, 1) := by decide +kernel
theorem dX3_calledBy_42 : decode cX3_calledBy 42 = .ok (.ishl, 1) := by decide +kernel
theorem dX3_calledBy_43 : decode cX3_calledBy 43 = .ok (.ior, 1) := by decide +kernel
theorem dX3_calledBy_44 : decode cX3_calledBy 44 = .ok (.istore_n 2, 1) := by decide +kernel
theorem dX3_calledBy_45 : decode cX3_calledBy 45 = .ok (.iinc 3 1, 3) := by decide +kernel
theorem dX3_calledBy_48 : decode cX3_calledBy 48 = .ok (.goto (-39), 3) := by decide +kernel
theorem dX3_calledBy_51 : decode cX3_calledBy 51 = .ok (.iload_n 2, 1) := by decide +kernel
theorem dX3_calledBy_52 : decode cX3_calledBy 52 = .ok (.ireturn, 1) := by decide +kernel
theorem dX3_leavesBy_0 : decode cX3_leavesBy 0 = .ok (.iload_n 2, 1) := by decide +kernel
theorem dX3_leavesBy_1 : decode cX3_leavesBy 1 = .ok (.aload_n 0, 1) := by decide +kernel
theorem dX3_leavesBy_2 : decode cX3_leavesBy 2 = .ok (.getfield 26, 3) := by decide +kernel
theorem dX3_leavesBy_5 : decode cX3_leavesBy 5 = .ok (.iload_n 1, 1) := by decide +kernel
theorem dX3_leavesBy_6 : decode cX3_leavesBy 6 = .ok (.iaload, 1) := by decide +kernel
theorem dX3_leavesBy_7 : decode cX3_leavesBy 7 = .ok (.aload_n 0, 1) := by decide +kernel
theorem dX3_leavesBy_8 : decode cX3_leavesBy 8 = .ok (.getfield 29, 3) := by decide +kernel
theorem dX3_leavesBy_11 : decode cX3_leavesBy 11 = .ok (.iload_n 1, 1) := by decide +kernel
theorem dX3_leavesBy_12 : decode cX3_leavesBy 12 = .ok (.iaload, 1) := by decide +kernel
theorem dX3_leavesBy_13 : decode cX3_leavesBy 13 = .ok (.iadd, 1) := by decide +kernel
theorem dX3_leavesBy_14 : decode cX3_leavesBy 14 = .ok (.iconst 1, 1) := by decide +kernel
theorem dX3_leavesBy_15 : decode cX3_leavesBy 15 = .ok (.isub, 1) := by decide +kernel
theorem dX3_leavesBy_16 : decode cX3_leavesBy 16 = .ok (.if_icmp .ne 19, 3) := by decide +kernel
theorem dX3_leavesBy_19 : decode cX3_leavesBy 19 = .ok (.aload_n 0, 1) := by decide +kernel
theorem dX3_leavesBy_20 : decode cX3_leavesBy 20 = .ok (.getfield 44, 3) := by decide +kernel
theorem dX3_leavesBy_23 : decode cX3_leavesBy 23 = .ok (.getfield 72, 3) := by decide +kernel
theorem dX3_leavesBy_26 : decode cX3_leavesBy 26 = .ok (.iload_n 2, 1) := by decide +kernel
theorem dX3_leavesBy_27 : decode cX3_leavesBy 27 = .ok (.iaload, 1) := by decide +kernel
theorem dX3_leavesBy_28 : decode cX3_leavesBy 28 = .ok (.ifCond .ne 7, 3) := by decide +kernel
theorem dX3_leavesBy_31 : decode cX3_leavesBy 31 = .ok (.iconst 1, 1) := by decide +kernel
theorem dX3_leavesBy_32 : decode cX3_leavesBy 32 = .ok (.goto 4, 3) := by decide +kernel
theorem dX3_leavesBy_35 : decode cX3_leavesBy 35 = .ok (.iconst 0, 1) := by decide +kernel
theorem dX3_leavesBy_36 : decode cX3_leavesBy 36 = .ok (.ireturn, 1) := by decide +kernel
theorem dX3_endsWithLeavingCall_0 : decode cX3_endsWithLeavingCall 0 = .ok (.aload_n 0, 1) := by decide +kernel
theorem dX3_endsWithLeavingCall_1 : decode cX3_endsWithLeavingCall 1 = .ok (.getfield 26, 3) := by decide +kernel
theorem dX3_endsWithLeavingCall_4 : decode cX3_endsWithLeavingCall 4 = .ok (.iload_n 1, 1) := by decide +kernel
theorem dX3_endsWithLeavingCall_5 : decode cX3_endsWithLeavingCall 5 = .ok (.iaload, 1) := by decide +kernel
theorem dX3_endsWithLeavingCall_6 : decode cX3_endsWithLeavingCall 6 = .ok (.aload_n 0, 1) := by decide +kernel
theorem dX3_endsWithLeavingCall_7 : decode cX3_endsWithLeavingCall 7 = .ok (.getfield 29, 3) := by decide +kernel
theorem dX3_endsWithLeavingCall_10 : decode cX3_endsWithLeavingCall 10 = .ok (.iload_n 1, 1) := by decide +kernel
theorem dX3_endsWithLeavingCall_11 : decode cX3_endsWithLeavingCall 11 = .ok (.iaload, 1) := by decide +kernel
theorem dX3_endsWithLeavingCall_12 : decode cX3_endsWithLeavingCall 12 = .ok (.iadd, 1) := by decide +kernel
theorem dX3_endsWithLeavingCall_13 : decode cX3_endsWithLeavingCall 13 = .ok (.iconst 1, 1) := by decide +kernel
theorem dX3_endsWithLeavingCall_14 : decode cX3_endsWithLeavingCall 14 = .ok (.isub, 1) := by decide +kernel
theorem dX3_endsWithLeavingCall_15 : decode cX3_endsWithLeavingCall 15 = .ok (.istore_n 2, 1) := by decide +kernel
theorem dX3_endsWithLeavingCall_16 : decode cX3_endsWithLeavingCall 16 = .ok (.iload_n 2, 1) := by decide +kernel
theorem dX3_endsWithLeavingCall_17 : decode cX3_endsWithLeavingCall 17 = .ok (.ifCond .lt 24, 3) := by decide +kernel
theorem dX3_endsWithLeavingCall_20 : decode cX3_endsWithLeavingCall 20 = .ok (.aload_n 0, 1) := by decide +kernel
theorem dX3_endsWithLeavingCall_21 : decode cX3_endsWithLeavingCall 21 = .ok (.iload_n 2, 1) := by decide +kernel
theorem dX3_endsWithLeavingCall_22 : decode cX3_endsWithLeavingCall 22 = .ok (.invokevirtual 69, 3) := by decide +kernel
theorem dX3_endsWithLeavingCall_25 : decode cX3_endsWithLeavingCall 25 = .ok (.ifCond .eq 16, 3) := by decide +kernel
theorem dX3_endsWithLeavingCall_28 : decode cX3_endsWithLeavingCall 28 = .ok (.aload_n 0, 1) := by decide +kernel
theorem dX3_endsWithLeavingCall_29 : decode cX3_endsWithLeavingCall 29 = .ok (.iload_n 1, 1) := by decide +kernel
theorem dX3_endsWithLeavingCall_30 : decode cX3_endsWithLeavingCall 30 = .ok (.iload_n 2, 1) := by decide +kernel
theorem dX3_endsWithLeavingCall_31 : decode cX3_endsWithLeavingCall 31 = .ok (.invokevirtual 75, 3) := by decide +kernel
theorem dX3_endsWithLeavingCall_34 : decode cX3_endsWithLeavingCall 34 = .ok (.ifCond .eq 7, 3) := by decide +kernel
theorem dX3_endsWithLeavingCall_37 : decode cX3_endsWithLeavingCall 37 = .ok (.iconst 1, 1) := by decide +kernel
theorem dX3_endsWithLeavingCall_38 : decode cX3_endsWithLeavingCall 38 = .ok (.goto 4, 3) := by decide +kernel
theorem dX3_endsWithLeavingCall_41 : decode cX3_endsWithLeavingCall 41 = .ok (.iconst 0, 1) := by decide +kernel
theorem dX3_endsWithLeavingCall_42 : decode cX3_endsWithLeavingCall 42 = .ok (.ireturn, 1) := by decide +kernel
theorem dX4_init_0 : decode cX4_init 0 = .ok (.aload_n 0, 1) := by decide +kernel
theorem dX4_init_1 : decode cX4_init 1 = .ok (.invokespecial 3, 3) := by decide +kernel
theorem dX4_init_4 : decode cX4_init 4 = .ok (.aload_n 0, 1) := by decide +kernel
theorem dX4_init_5 : decode cX4_init 5 = .ok (.new 9, 3) := by decide +kernel
theorem dX4_init_8 : decode cX4_init 8 = .ok (.dup, 1) := by decide +kernel
theorem dX4_init_9 : decode cX4_init 9 = .ok (.invokespecial 11, 3) := by decide +kernel
theorem dX4_init_12 : decode cX4_init 12 = .ok (.putfield 12, 3) := by decide +kernel
theorem dX4_init_15 : decode cX4_init 15 = .ok (.aload_n 0, 1) := by decide +kernel
theorem dX4_init_16 : decode cX4_init 16 = .ok (.new 18, 3) := by decide +kernel
theorem dX4_init_19 : decode cX4_init 19 = .ok (.dup, 1) := by decide +kernel
theorem dX4_init_20 : decode cX4_init 20 = .ok (.sipush 900, 3) := by decide +kernel
theorem dX4_init_23 : decode cX4_init 23 = .ok (.invokespecial 20, 3) := by decide +kernel
theorem dX4_init_26 : decode cX4_init 26 = .ok (.putfield 23, 3) := by decide +kernel
theorem dX4_init_29 : decode cX4_init 29 = .ok (.aload_n 0, 1) := by decide +kernel
theorem dX4_init_30 : decode cX4_init 30 = .ok (.bipush 27, 2) := by decide +kernel
theorem dX4_init_32 : decode cX4_init 32 = .ok (.newarray .long, 2) := by decide +kernel
theorem dX4_init_34 : decode cX4_init 34 = .ok (.putfield 27, 3) := by decide +kernel
theorem dX4_init_37 : decode cX4_init 37 = .ok (.aload_n 0, 1) := by decide +kernel
theorem dX4_init_38 : decode cX4_init 38 = .ok (.iconst 0, 1) := by decide +kernel
theorem dX4_init_39 : decode cX4_init 39 = .ok (.putfield 31, 3) := by decide +kernel
theorem dX4_init_42 : decode cX4_init 42 = .ok (.return_, 1) := by decide +kernel
theorem dX4_readsAll_0 : decode cX4_readsAll 0 = .ok (.aload_n 0, 1) := by decide +kernel
theorem dX4_readsAll_1 : decode cX4_readsAll 1 = .ok (.getfield 12, 3) := by decide +kernel
theorem dX4_readsAll_4 : decode cX4_readsAll 4 = .ok (.invokevirtual 35, 3) := by decide +kernel
theorem dX4_readsAll_7 : decode cX4_readsAll 7 = .ok (.aload_n 0, 1) := by decide +kernel
theorem dX4_readsAll_8 : decode cX4_readsAll 8 = .ok (.iconst 0, 1) := by decide +kernel
theorem dX4_readsAll_9 : decode cX4_readsAll 9 = .ok (.putfield 31, 3) := by decide +kernel
theorem dX4_readsAll_12 : decode cX4_readsAll 12 = .ok (.aload_n 0, 1) := by decide +kernel
theorem dX4_readsAll_13 : decode cX4_readsAll 13 = .ok (.getfield 23, 3) := by decide +kernel
theorem dX4_readsAll_16 : decode cX4_readsAll 16 = .ok (.aload_n 1, 1) := by decide +kernel
theorem dX4_readsAll_17 : decode cX4_readsAll 17 = .ok (.iload_n 2, 1) := by decide +kernel
theorem dX4_readsAll_18 : decode cX4_readsAll 18 = .ok (.invokevirtual 38, 3) := by decide +kernel
theorem dX4_readsAll_21 : decode cX4_readsAll 21 = .ok (.iconst 0, 1) := by decide +kernel
theorem dX4_readsAll_22 : decode cX4_readsAll 22 = .ok (.istore_n 3, 1) := by decide +kernel
theorem dX4_readsAll_23 : decode cX4_readsAll 23 = .ok (.iload_n 3, 1) := by decide +kernel
theorem dX4_readsAll_24 : decode cX4_readsAll 24 = .ok (.sipush 900, 3) := by decide +kernel
theorem dX4_readsAll_27 : decode cX4_readsAll 27 = .ok (.if_icmp .ge 61, 3) := by decide +kernel
theorem dX4_readsAll_30 : decode cX4_readsAll 30 = .ok (.aload_n 0, 1) := by decide +kernel
theorem dX4_readsAll_31 : decode cX4_readsAll 31 = .ok (.getfield 23, 3) := by decide +kernel
theorem dX4_readsAll_34 : decode cX4_readsAll 34 = .ok (.getfield 42, 3) := by decide +kernel
theorem dX4_readsAll_37 : decode cX4_readsAll 37 = .ok (.ifCond .eq 51, 3) := by decide +kernel
theorem dX4_readsAll_40 : decode cX4_readsAll 40 = .ok (.aload_n 0, 1) := by decide +kernel
theorem dX4_readsAll_41 : decode cX4_readsAll 41 = .ok (.getfield 23, 3) := by decide +kernel
theorem dX4_readsAll_44 : decode cX4_readsAll 44 = .ok (.getfield 45, 3) := by decide +kernel
theorem dX4_readsAll_47 : decode cX4_readsAll 47 = .ok (.ifCond .ne 10, 3) := by decide +kernel
theorem dX4_readsAll_50 : decode cX4_readsAll 50 = .ok (.aload_n 0, 1) := by decide +kernel
theorem dX4_readsAll_51 : decode cX4_readsAll 51 = .ok (.invokevirtual 48, 3) := by decide +kernel
theorem dX4_readsAll_54 : decode cX4_readsAll 54 = .ok (.goto 7, 3) := by decide +kernel
theorem dX4_readsAll_57 : decode cX4_readsAll 57 = .ok (.aload_n 0, 1) := by decide +kernel
theorem dX4_readsAll_58 : decode cX4_readsAll 58 = .ok (.invokevirtual 52, 3) := by decide +kernel
theorem dX4_readsAll_61 : decode cX4_readsAll 61 = .ok (.istore 4, 2) := by decide +kernel
theorem dX4_readsAll_63 : decode cX4_readsAll 63 = .ok (.iload 4, 2) := by decide +kernel
theorem dX4_readsAll_65 : decode cX4_readsAll 65 = .ok (.ifCond .eq 15, 3) := by decide +kernel
theorem dX4_readsAll_68 : decode cX4_readsAll 68 = .ok (.aload_n 0, 1) := by decide +kernel
theorem dX4_readsAll_69 : decode cX4_readsAll 69 = .ok (.getfield 23, 3) := by decide +kernel
theorem dX4_readsAll_72 : decode cX4_readsAll 72 = .ok (.bipush 59, 2) := by decide +kernel
theorem dX4_readsAll_74 : decode cX4_readsAll 74 = .ok (.invokevirtual 55, 3) := by decide +kernel
theorem dX4_readsAll_77 : decode cX4_readsAll 77 = .ok (.ifCond .ne 5, 3) := by decide +kernel
theorem dX4_readsAll_80 : decode cX4_readsAll 80 = .ok (.iconst 0, 1) := by decide +kernel
theorem dX4_readsAll_81 : decode cX4_readsAll 81 = .ok (.ireturn, 1) := by decide +kernel
theorem dX4_readsAll_82 : decode cX4_readsAll 82 = .ok (.iinc 3 1, 3) := by decide +kernel
theorem dX4_readsAll_85 : decode cX4_readsAll 85 = .ok (.goto (-62), 3) := by decide +kernel
theorem dX4_readsAll_88 : decode cX4_readsAll 88 = .ok (.aload_n 0, 1) := by decide +kernel
theorem dX4_readsAll_89 : decode cX4_readsAll 89 = .ok (.invokevirtual 59, 3) := by decide +kernel
theorem dX4_readsAll_92 : decode cX4_readsAll 92 = .ok (.ifCond .eq 14, 3) := by decide +kernel
theorem dX4_readsAll_95 : decode cX4_readsAll 95 = .ok (.aload_n 0, 1) := by decide +kernel
theorem dX4_readsAll_96 : decode cX4_readsAll 96 = .ok (.getfield 23, 3) := by decide +kernel
theorem dX4_readsAll_99 : decode cX4_readsAll 99 = .ok (.iconst 3, 1) := by decide +kernel
theorem dX4_readsAll_100 : decode cX4_readsAll 100 = .ok (.invokevirtual 62, 3) := by decide +kernel
theorem dX4_readsAll_103 : decode cX4_readsAll 103 = .ok (.ifCond .eq 7, 3) := by decide +kernel
theorem dX4_readsAll_106 : decode cX4_readsAll 106 = .ok (.iconst 1, 1) := by decide +kernel
theorem dX4_readsAll_107 : decode cX4_readsAll 107 = .ok (.goto 4, 3) := by decide +kernel
theorem dX4_readsAll_110 : decode cX4_readsAll 110 = .ok (.iconst 0, 1) := by decide +kernel
theorem dX4_readsAll_111 : decode cX4_readsAll 111 = .ok (.ireturn, 1) := by decide +kernel
theorem dX4_latestFunIsBare_0 : decode cX4_latestFunIsBare 0 = .ok (.aload_n 0, 1) := by decide +kernel
theorem dX4_latestFunIsBare_1 : decode cX4_latestFunIsBare 1 = .ok (.getfield 12, 3) := by decide +kernel
theorem dX4_latestFunIsBare_4 : decode cX4_latestFunIsBare 4 = .ok (.getfield 65, 3) := by decide +kernel
theorem dX4_latestFunIsBare_7 : decode cX4_latestFunIsBare 7 = .ok (.ifCond .le 27, 3) := by decide +kernel
theorem dX4_latestFunIsBare_10 : decode cX4_latestFunIsBare 10 = .ok (.aload_n 0, 1) := by decide +kernel
theorem dX4_latestFunIsBare_11 : decode cX4_latestFunIsBare 11 = .ok (.getfield 12, 3) := by decide +kernel
theorem dX4_latestFunIsBare_14 : decode cX4_latestFunIsBare 14 = .ok (.getfield 68, 3) := by decide +kernel
theorem dX4_latestFunIsBare_17 : decode cX4_latestFunIsBare 17 = .ok (.aload_n 0, 1) := by decide +kernel
theorem dX4_latestFunIsBare_18 : decode cX4_latestFunIsBare 18 = .ok (.getfield 12, 3) := by decide +kernel
theorem dX4_latestFunIsBare_21 : decode cX4_latestFunIsBare 21 = .ok (.getfield 65, 3) := by decide +kernel
theorem dX4_latestFunIsBare_24 : decode cX4_latestFunIsBare 24 = .ok (.iconst 1, 1) := by decide +kernel
theorem dX4_latestFunIsBare_25 : decode cX4_latestFunIsBare 25 = .ok (.isub, 1) := by decide +kernel
theorem dX4_latestFunIsBare_26 : decode cX4_latestFunIsBare 26 = .ok (.iaload, 1) := by decide +kernel
theorem dX4_latestFunIsBare_27 : decode cX4_latestFunIsBare 27 = .ok (.ifCond .ne 7, 3) := by decide +kernel
theorem dX4_latestFunIsBare_30 : decode cX4_latestFunIsBare 30 = .ok (.iconst 1, 1) := by decide +kernel
theorem dX4_latestFunIsBare_31 : decode cX4_latestFunIsBare 31 = .ok (.goto 4, 3) := by decide +kernel
theorem dX4_latestFunIsBare_34 : decode cX4_latestFunIsBare 34 = .ok (.iconst 0, 1) := by decide +kernel
theorem dX4_latestFunIsBare_35 : decode cX4_latestFunIsBare 35 = .ok (.ireturn, 1) := by decide +kernel
theorem dX4_readsFun_0 : decode cX4_readsFun 0 = .ok (.aload_n 0, 1) := by decide +kernel
theorem dX4_readsFun_1 : decode cX4_readsFun 1 = .ok (.invokevirtual 59, 3) := by decide +kernel
theorem dX4_readsFun_4 : decode cX4_readsFun 4 = .ok (.ifCond .eq 12, 3) := by decide +kernel
theorem dX4_readsFun_7 : decode cX4_readsFun 7 = .ok (.aload_n 0, 1) := by decide +kernel
theorem dX4_readsFun_8 : decode cX4_readsFun 8 = .ok (.getfield 23, 3) := by decide +kernel
theorem dX4_readsFun_11 : decode cX4_readsFun 11 = .ok (.iconst 3, 1) := by decide +kernel
theorem dX4_readsFun_12 : decode cX4_readsFun 12 = .ok (.invokevirtual 62, 3) := by decide +kernel
theorem dX4_readsFun_15 : decode cX4_readsFun 15 = .ok (.ireturn, 1) := by decide +kernel
theorem dX4_readsFun_16 : decode cX4_readsFun 16 = .ok (.aload_n 0, 1) := by decide +kernel
theorem dX4_readsFun_17 : decode cX4_readsFun 17 = .ok (.getfield 12, 3) := by decide +kernel
theorem dX4_readsFun_20 : decode cX4_readsFun 20 = .ok (.getfield 65, 3) := by decide +kernel
theorem dX4_readsFun_23 : decode cX4_readsFun 23 = .ok (.iconst 5, 1) := by decide +kernel
theorem dX4_readsFun_24 : decode cX4_readsFun 24 = .ok (.if_icmp .lt 12, 3) := by decide +kernel
theorem dX4_readsFun_27 : decode cX4_readsFun 27 = .ok (.aload_n 0, 1) := by decide +kernel
theorem dX4_readsFun_28 : decode cX4_readsFun 28 = .ok (.getfield 23, 3) := by decide +kernel
theorem dX4_readsFun_31 : decode cX4_readsFun 31 = .ok (.iconst 4, 1) := by decide +kernel
theorem dX4_readsFun_32 : decode cX4_readsFun 32 = .ok (.invokevirtual 62, 3) := by decide +kernel
theorem dX4_readsFun_35 : decode cX4_readsFun 35 = .ok (.ireturn, 1) := by decide +kernel
theorem dX4_readsFun_36 : decode cX4_readsFun 36 = .ok (.aload_n 0, 1) := by decide +kernel
theorem dX4_readsFun_37 : decode cX4_readsFun 37 = .ok (.getfield 23, 3) := by decide +kernel
theorem dX4_readsFun_40 : decode cX4_readsFun 40 = .ok (.invokevirtual 72, 3) := by decide +kernel
theorem dX4_readsFun_43 : decode cX4_readsFun 43 = .ok (.aload_n 0, 1) := by decide +kernel
theorem dX4_readsFun_44 : decode cX4_readsFun 44 = .ok (.getfield 23, 3) := by decide +kernel
theorem dX4_readsFun_47 : decode cX4_readsFun 47 = .ok (.getfield 42, 3) := by decide +kernel
theorem dX4_readsFun_50 : decode cX4_readsFun 50 = .ok (.iconst 2, 1) := by decide +kernel
theorem dX4_readsFun_51 : decode cX4_readsFun 51 = .ok (.if_icmp .eq 12, 3) := by decide +kernel
theorem dX4_readsFun_54 : decode cX4_readsFun 54 = .ok (.aload_n 0, 1) := by decide +kernel
theorem dX4_readsFun_55 : decode cX4_readsFun 55 = .ok (.getfield 23, 3) := by decide +kernel
theorem dX4_readsFun_58 : decode cX4_readsFun 58 = .ok (.iconst 1, 1) := by decide +kernel
theorem dX4_readsFun_59 : decode cX4_readsFun 59 = .ok (.invokevirtual 62, 3) := by decide +kernel
theorem dX4_readsFun_62 : decode cX4_readsFun 62 = .ok (.ireturn, 1) := by decide +kernel
theorem dX4_readsFun_63 : decode cX4_readsFun 63 = .ok (.aload_n 0, 1) := by decide +kernel
theorem dX4_readsFun_64 : decode cX4_readsFun 64 = .ok (.getfield 12, 3) := by decide +kernel
theorem dX4_readsFun_67 : decode cX4_readsFun 67 = .ok (.aload_n 0, 1) := by decide +kernel
theorem dX4_readsFun_68 : decode cX4_readsFun 68 = .ok (.getfield 23, 3) := by decide +kernel
theorem dX4_readsFun_71 : decode cX4_readsFun 71 = .ok (.getfield 75, 3) := by decide +kernel
theorem dX4_readsFun_74 : decode cX4_readsFun 74 = .ok (.invokevirtual 79, 3) := by decide +kernel
theorem dX4_readsFun_77 : decode cX4_readsFun 77 = .ok (.iconst (-1), 1) := by decide +kernel
theorem dX4_readsFun_78 : decode cX4_readsFun 78 = .ok (.if_icmp .eq 12, 3) := by decide +kernel
theorem dX4_readsFun_81 : decode cX4_readsFun 81 = .ok (.aload_n 0, 1) := by decide +kernel
theorem dX4_readsFun_82 : decode cX4_readsFun 82 = .ok (.getfield 23, 3) := by decide +kernel
theorem dX4_readsFun_85 : decode cX4_readsFun 85 = .ok (.iconst 3, 1) := by decide +kernel
theorem dX4_readsFun_86 : decode cX4_readsFun 86 = .ok (.invokevirtual 62, 3) := by decide +kernel
theorem dX4_readsFun_89 : decode cX4_readsFun 89 = .ok (.ireturn, 1) := by decide +kernel
theorem dX4_readsFun_90 : decode cX4_readsFun 90 = .ok (.aload_n 0, 1) := by decide +kernel
theorem dX4_readsFun_91 : decode cX4_readsFun 91 = .ok (.getfield 12, 3) := by decide +kernel
theorem dX4_readsFun_94 : decode cX4_readsFun 94 = .ok (.aload_n 0, 1) := by decide +kernel
theorem dX4_readsFun_95 : decode cX4_readsFun 95 = .ok (.getfield 23, 3) := by decide +kernel
theorem dX4_readsFun_98 : decode cX4_readsFun 98 = .ok (.getfield 75, 3) := by decide +kernel
theorem dX4_readsFun_101 : decode cX4_readsFun 101 = .ok (.invokevirtual 83, 3) := by decide +kernel
theorem dX4_readsFun_104 : decode cX4_readsFun 104 = .ok (.aload_n 0, 1) := by decide +kernel
theorem dX4_readsFun_105 : decode cX4_readsFun 105 = .ok (.iconst 0, 1) := by decide +kernel
theorem dX4_readsFun_106 : decode cX4_readsFun 106 = .ok (.putfield 31, 3) := by decide +kernel
theorem dX4_readsFun_109 : decode cX4_readsFun 109 = .ok (.aload_n 0, 1) := by decide +kernel
theorem dX4_readsFun_110 : decode cX4_readsFun 110 = .ok (.getfield 23, 3) := by decide +kernel
theorem dX4_readsFun_113 : decode cX4_readsFun 113 = .ok (.invokevirtual 72, 3) := by decide +kernel
theorem dX4_readsFun_116 : decode cX4_readsFun 116 = .ok (.aload_n 0, 1) := by decide +kernel
theorem dX4_readsFun_117 : decode cX4_readsFun 117 = .ok (.invokevirtual 87, 3) := by decide +kernel
theorem dX4_readsFun_120 : decode cX4_readsFun 120 = .ok (.ireturn, 1) := by decide +kernel
theorem dX4_readsParameters_0 : decode cX4_readsParameters 0 = .ok (.iconst 0, 1) := by decide +kernel
theorem dX4_readsParameters_1 : decode cX4_readsParameters 1 = .ok (.istore_n 1, 1) := by decide +kernel
theorem dX4_readsParameters_2 : decode cX4_readsParameters 2 = .ok (.iload_n 1, 1) := by decide +kernel
theorem dX4_readsParameters_3 : decode cX4_readsParameters 3 = .ok (.iconst 3, 1) := by decide +kernel
theorem dX4_readsParameters_4 : decode cX4_readsParameters 4 = .ok (.if_icmp .gt 97, 3) := by decide +kernel
theorem dX4_readsParameters_7 : decode cX4_readsParameters 7 = .ok (.aload_n 0, 1) := by decide +kernel
theorem dX4_readsParameters_8 : decode cX4_readsParameters 8 = .ok (.getfield 23, 3) := by decide +kernel
theorem dX4_readsParameters_11 : decode cX4_readsParameters 11 = .ok (.getfield 42, 3) := by decide +kernel
theorem dX4_readsParameters_14 : decode cX4_readsParameters 14 = .ok (.iconst 2, 1) := by decide +kernel
theorem dX4_readsParameters_15 : decode cX4_readsParameters 15 = .ok (.if_icmp .ne 86, 3) := by decide +kernel
theorem dX4_readsParameters_18 : decode cX4_readsParameters 18 = .ok (.aload_n 0, 1) := by decide +kernel
theorem dX4_readsParameters_19 : decode cX4_readsParameters 19 = .ok (.aload_n 0, 1) := by decide +kernel
theorem dX4_readsParameters_20 : decode cX4_readsParameters 20 = .ok (.getfield 23, 3) := by decide +kernel
theorem dX4_readsParameters_23 : decode cX4_readsParameters 23 = .ok (.getfield 75, 3) := by decide +kernel
theorem dX4_readsParameters_26 : decode cX4_readsParameters 26 = .ok (.invokevirtual 90, 3) := by decide +kernel
theorem dX4_readsParameters_29 : decode cX4_readsParameters 29 = .ok (.iconst (-1), 1) := by decide +kernel
theorem dX4_readsParameters_30 : decode cX4_readsParameters 30 = .ok (.if_icmp .eq 12, 3) := by decide +kernel
theorem dX4_readsParameters_33 : decode cX4_readsParameters 33 = .ok (.aload_n 0, 1) := by decide +kernel
theorem dX4_readsParameters_34 : decode cX4_readsParameters 34 = .ok (.getfield 23, 3) := by decide +kernel
theorem dX4_readsParameters_37 : decode cX4_readsParameters 37 = .ok (.iconst 3, 1) := by decide +kernel
theorem dX4_readsParameters_38 : decode cX4_readsParameters 38 = .ok (.invokevirtual 62, 3) := by decide +kernel
theorem dX4_readsParameters_41 : decode cX4_readsParameters 41 = .ok (.ireturn, 1) := by decide +kernel
theorem dX4_readsParameters_42 : decode cX4_readsParameters 42 = .ok (.iload_n 1, 1) := by decide +kernel
theorem dX4_readsParameters_43 : decode cX4_readsParameters 43 = .ok (.iconst 3, 1) := by decide +kernel
theorem dX4_readsParameters_44 : decode cX4_readsParameters 44 = .ok (.if_icmp .ne 12, 3) := by decide +kernel
theorem dX4_readsParameters_47 : decode cX4_readsParameters 47 = .ok (.aload_n 0, 1) := by decide +kernel
theorem dX4_readsParameters_48 : decode cX4_readsParameters 48 = .ok (.getfield 23, 3) := by decide +kernel
theorem dX4_readsParameters_51 : decode cX4_readsParameters 51 = .ok (.iconst 4, 1) := by decide +kernel
theorem dX4_readsParameters_52 : decode cX4_readsParameters 52 = .ok (.invokevirtual 62, 3) := by decide +kernel
theorem dX4_readsParameters_55 : decode cX4_readsParameters 55 = .ok (.ireturn, 1) := by decide +kernel
theorem dX4_readsParameters_56 : decode cX4_readsParameters 56 = .ok (.aload_n 0, 1) := by decide +kernel
theorem dX4_readsParameters_57 : decode cX4_readsParameters 57 = .ok (.aload_n 0, 1) := by decide +kernel
theorem dX4_readsParameters_58 : decode cX4_readsParameters 58 = .ok (.getfield 23, 3) := by decide +kernel
theorem dX4_readsParameters_61 : decode cX4_readsParameters 61 = .ok (.getfield 75, 3) := by decide +kernel
theorem dX4_readsParameters_64 : decode cX4_readsParameters 64 = .ok (.invokevirtual 93, 3) := by decide +kernel
theorem dX4_readsParameters_67 : decode cX4_readsParameters 67 = .ok (.aload_n 0, 1) := by decide +kernel
theorem dX4_readsParameters_68 : decode cX4_readsParameters 68 = .ok (.getfield 12, 3) := by decide +kernel
theorem dX4_readsParameters_71 : decode cX4_readsParameters 71 = .ok (.getfield 96, 3) := by decide +kernel
theorem dX4_readsParameters_74 : decode cX4_readsParameters 74 = .ok (.aload_n 0, 1) := by decide +kernel
theorem dX4_readsParameters_75 : decode cX4_readsParameters 75 = .ok (.getfield 12, 3) := by decide +kernel
theorem dX4_readsParameters_78 : decode cX4_readsParameters 78 = .ok (.getfield 65, 3) := by decide +kernel
theorem dX4_readsParameters_81 : decode cX4_readsParameters 81 = .ok (.iconst 1, 1) := by decide +kernel
theorem dX4_readsParameters_82 : decode cX4_readsParameters 82 = .ok (.isub, 1) := by decide +kernel
theorem dX4_readsParameters_83 : decode cX4_readsParameters 83 = .ok (.dup2, 1) := by decide +kernel
theorem dX4_readsParameters_84 : decode cX4_readsParameters 84 = .ok (.iaload, 1) := by decide +kernel
theorem dX4_readsParameters_85 : decode cX4_readsParameters 85 = .ok (.iconst 1, 1) := by decide +kernel
theorem dX4_readsParameters_86 : decode cX4_readsParameters 86 = .ok (.iadd, 1) := by decide +kernel
theorem dX4_readsParameters_87 : decode cX4_readsParameters 87 = .ok (.iastore, 1) := by decide +kernel
theorem dX4_readsParameters_88 : decode cX4_readsParameters 88 = .ok (.aload_n 0, 1) := by decide +kernel
theorem dX4_readsParameters_89 : decode cX4_readsParameters 89 = .ok (.getfield 23, 3) := by decide +kernel
theorem dX4_readsParameters_92 : decode cX4_readsParameters 92 = .ok (.invokevirtual 72, 3) := by decide +kernel
theorem dX4_readsParameters_95 : decode cX4_readsParameters 95 = .ok (.iinc 1 1, 3) := by decide +kernel
theorem dX4_readsParameters_98 : decode cX4_readsParameters 98 = .ok (.goto (-96), 3) := by decide +kernel
theorem dX4_readsParameters_101 : decode cX4_readsParameters 101 = .ok (.iconst 1, 1) := by decide +kernel
theorem dX4_readsParameters_102 : decode cX4_readsParameters 102 = .ok (.ireturn, 1) := by decide +kernel
theorem dX4_readsIs_0 : decode cX4_readsIs 0 = .ok (.aload_n 0, 1) := by decide +kernel
theorem dX4_readsIs_1 : decode cX4_readsIs 1 = .ok (.getfield 23, 3) := by decide +kernel
theorem dX4_readsIs_4 : decode cX4_readsIs 4 = .ok (.getfield 42, 3) := by decide +kernel
theorem dX4_readsIs_7 : decode cX4_readsIs 7 = .ok (.iconst 2, 1) := by decide +kernel
theorem dX4_readsIs_8 : decode cX4_readsIs 8 = .ok (.if_icmp .eq 12, 3) := by decide +kernel
theorem dX4_readsIs_11 : decode cX4_readsIs 11 = .ok (.aload_n 0, 1) := by decide +kernel
theorem dX4_readsIs_12 : decode cX4_readsIs 12 = .ok (.getfield 23, 3) := by decide +kernel
theorem dX4_readsIs_15 : decode cX4_readsIs 15 = .ok (.iconst 1, 1) := by decide +kernel
theorem dX4_readsIs_16 : decode cX4_readsIs 16 = .ok (.invokevirtual 62, 3) := by decide +kernel
theorem dX4_readsIs_19 : decode cX4_readsIs 19 = .ok (.ireturn, 1) := by decide +kernel
theorem dX4_readsIs_20 : decode cX4_readsIs 20 = .ok (.aload_n 0, 1) := by decide +kernel
theorem dX4_readsIs_21 : decode cX4_readsIs 21 = .ok (.aload_n 0, 1) := by decide +kernel
theorem dX4_readsIs_22 : decode cX4_readsIs 22 = .ok (.getfield 23, 3) := by decide +kernel
theorem dX4_readsIs_25 : decode cX4_readsIs 25 = .ok (.getfield 75, 3) := by decide +kernel
theorem dX4_readsIs_28 : decode cX4_readsIs 28 = .ok (.invokevirtual 90, 3) := by decide +kernel
theorem dX4_readsIs_31 : decode cX4_readsIs 31 = .ok (.iconst (-1), 1) := by decide +kernel
theorem dX4_readsIs_32 : decode cX4_readsIs 32 = .ok (.if_icmp .eq 12, 3) := by decide +kernel
theorem dX4_readsIs_35 : decode cX4_readsIs 35 = .ok (.aload_n 0, 1) := by decide +kernel
theorem dX4_readsIs_36 : decode cX4_readsIs 36 = .ok (.getfield 23, 3) := by decide +kernel
theorem dX4_readsIs_39 : decode cX4_readsIs 39 = .ok (.iconst 3, 1) := by decide +kernel
theorem dX4_readsIs_40 : decode cX4_readsIs 40 = .ok (.invokevirtual 62, 3) := by decide +kernel
theorem dX4_readsIs_43 : decode cX4_readsIs 43 = .ok (.ireturn, 1) := by decide +kernel
theorem dX4_readsIs_44 : decode cX4_readsIs 44 = .ok (.aload_n 0, 1) := by decide +kernel
theorem dX4_readsIs_45 : decode cX4_readsIs 45 = .ok (.getfield 12, 3) := by decide +kernel
theorem dX4_readsIs_48 : decode cX4_readsIs 48 = .ok (.getfield 65, 3) := by decide +kernel
theorem dX4_readsIs_51 : decode cX4_readsIs 51 = .ok (.ifCond .eq 15, 3) := by decide +kernel
theorem dX4_readsIs_54 : decode cX4_readsIs 54 = .ok (.aload_n 0, 1) := by decide +kernel
theorem dX4_readsIs_55 : decode cX4_readsIs 55 = .ok (.getfield 12, 3) := by decide +kernel
theorem dX4_readsIs_58 : decode cX4_readsIs 58 = .ok (.getfield 99, 3) := by decide +kernel
theorem dX4_readsIs_61 : decode cX4_readsIs 61 = .ok (.bipush 24, 2) := by decide +kernel
theorem dX4_readsIs_63 : decode cX4_readsIs 63 = .ok (.if_icmp .lt 12, 3) := by decide +kernel
theorem dX4_readsIs_66 : decode cX4_readsIs 66 = .ok (.aload_n 0, 1) := by decide +kernel
theorem dX4_readsIs_67 : decode cX4_readsIs 67 = .ok (.getfield 23, 3) := by decide +kernel
theorem dX4_readsIs_70 : decode cX4_readsIs 70 = .ok (.iconst 4, 1) := by decide +kernel
theorem dX4_readsIs_71 : decode cX4_readsIs 71 = .ok (.invokevirtual 62, 3) := by decide +kernel
theorem dX4_readsIs_74 : decode cX4_readsIs 74 = .ok (.ireturn, 1) := by decide +kernel
theorem dX4_readsIs_75 : decode cX4_readsIs 75 = .ok (.aload_n 0, 1) := by decide +kernel
theorem dX4_readsIs_76 : decode cX4_readsIs 76 = .ok (.getfield 23, 3) := by decide +kernel
theorem dX4_readsIs_79 : decode cX4_readsIs 79 = .ok (.getfield 75, 3) := by decide +kernel
theorem dX4_readsIs_82 : decode cX4_readsIs 82 = .ok (.lstore_n 1, 1) := by decide +kernel
theorem dX4_readsIs_83 : decode cX4_readsIs 83 = .ok (.aload_n 0, 1) := by decide +kernel
theorem dX4_readsIs_84 : decode cX4_readsIs 84 = .ok (.getfield 23, 3) := by decide +kernel
theorem dX4_readsIs_87 : decode cX4_readsIs 87 = .ok (.invokevirtual 72, 3) := by decide +kernel
theorem dX4_readsIs_90 : decode cX4_readsIs 90 = .ok (.aload_n 0, 1) := by decide +kernel
theorem dX4_readsIs_91 : decode cX4_readsIs 91 = .ok (.getfield 23, 3) := by decide +kernel
theorem dX4_readsIs_94 : decode cX4_readsIs 94 = .ok (.iconst 1, 1) := by decide +kernel
theorem dX4_readsIs_95 : decode cX4_readsIs 95 = .ok (.invokevirtual 102, 3) := by decide +kernel
theorem dX4_readsIs_98 : decode cX4_readsIs 98 = .ok (.ifCond .eq 17, 3) := by decide +kernel
theorem dX4_readsIs_101 : decode cX4_readsIs 101 = .ok (.aload_n 0, 1) := by decide +kernel
theorem dX4_readsIs_102 : decode cX4_readsIs 102 = .ok (.aload_n 0, 1) := by decide +kernel
theorem dX4_readsIs_103 : decode cX4_readsIs 103 = .ok (.getfield 12, 3) := by decide +kernel
theorem dX4_readsIs_106 : decode cX4_readsIs 106 = .ok (.getfield 99, 3) := by decide +kernel
theorem dX4_readsIs_109 : decode cX4_readsIs 109 = .ok (.invokevirtual 105, 3) := by decide +kernel
theorem dX4_readsIs_112 : decode cX4_readsIs 112 = .ok (.ifCond .ne 5, 3) := by decide +kernel
theorem dX4_readsIs_115 : decode cX4_readsIs 115 = .ok (.iconst 0, 1) := by decide +kernel
theorem dX4_readsIs_116 : decode cX4_readsIs 116 = .ok (.ireturn, 1) := by decide +kernel
theorem dX4_readsIs_117 : decode cX4_readsIs 117 = .ok (.aload_n 0, 1) := by decide +kernel
theorem dX4_readsIs_118 : decode cX4_readsIs 118 = .ok (.lload_n 1, 1) := by decide +kernel
theorem dX4_readsIs_119 : decode cX4_readsIs 119 = .ok (.invokevirtual 93, 3) := by decide +kernel
theorem dX4_readsIs_122 : decode cX4_readsIs 122 = .ok (.aload_n 0, 1) := by decide +kernel
theorem dX4_readsIs_123 : decode cX4_readsIs 123 = .ok (.getfield 12, 3) := by decide +kernel
theorem dX4_readsIs_126 : decode cX4_readsIs 126 = .ok (.invokevirtual 108, 3) := by decide +kernel
theorem dX4_readsIs_129 : decode cX4_readsIs 129 = .ok (.iconst 1, 1) := by decide +kernel
theorem dX4_readsIs_130 : decode cX4_readsIs 130 = .ok (.ireturn, 1) := by decide +kernel
theorem dX4_readsExpr_0 : decode cX4_readsExpr 0 = .ok (.aload_n 0, 1) := by decide +kernel
theorem dX4_readsExpr_1 : decode cX4_readsExpr 1 = .ok (.getfield 23, 3) := by decide +kernel
theorem dX4_readsExpr_4 : decode cX4_readsExpr 4 = .ok (.getfield 42, 3) := by decide +kernel
theorem dX4_readsExpr_7 : decode cX4_readsExpr 7 = .ok (.iconst 4, 1) := by decide +kernel
theorem dX4_readsExpr_8 : decode cX4_readsExpr 8 = .ok (.if_icmp .ne 41, 3) := by decide +kernel
theorem dX4_readsExpr_11 : decode cX4_readsExpr 11 = .ok (.aload_n 0, 1) := by decide +kernel
theorem dX4_readsExpr_12 : decode cX4_readsExpr 12 = .ok (.getfield 12, 3) := by decide +kernel
theorem dX4_readsExpr_15 : decode cX4_readsExpr 15 = .ok (.getfield 111, 3) := by decide +kernel
theorem dX4_readsExpr_18 : decode cX4_readsExpr 18 = .ok (.iload_n 1, 1) := by decide +kernel
theorem dX4_readsExpr_19 : decode cX4_readsExpr 19 = .ok (.bipush 22, 2) := by decide +kernel
theorem dX4_readsExpr_21 : decode cX4_readsExpr 21 = .ok (.iastore, 1) := by decide +kernel
theorem dX4_readsExpr_22 : decode cX4_readsExpr 22 = .ok (.aload_n 0, 1) := by decide +kernel
theorem dX4_readsExpr_23 : decode cX4_readsExpr 23 = .ok (.getfield 12, 3) := by decide +kernel
theorem dX4_readsExpr_26 : decode cX4_readsExpr 26 = .ok (.getfield 114, 3) := by decide +kernel
theorem dX4_readsExpr_29 : decode cX4_readsExpr 29 = .ok (.iload_n 1, 1) := by decide +kernel
theorem dX4_readsExpr_30 : decode cX4_readsExpr 30 = .ok (.iconst 5, 1) := by decide +kernel
theorem dX4_readsExpr_31 : decode cX4_readsExpr 31 = .ok (.imul, 1) := by decide +kernel
theorem dX4_readsExpr_32 : decode cX4_readsExpr 32 = .ok (.aload_n 0, 1) := by decide +kernel
theorem dX4_readsExpr_33 : decode cX4_readsExpr 33 = .ok (.getfield 23, 3) := by decide +kernel
theorem dX4_readsExpr_36 : decode cX4_readsExpr 36 = .ok (.getfield 117, 3) := by decide +kernel
theorem dX4_readsExpr_39 : decode cX4_readsExpr 39 = .ok (.iastore, 1) := by decide +kernel
theorem dX4_readsExpr_40 : decode cX4_readsExpr 40 = .ok (.aload_n 0, 1) := by decide +kernel
theorem dX4_readsExpr_41 : decode cX4_readsExpr 41 = .ok (.getfield 23, 3) := by decide +kernel
theorem dX4_readsExpr_44 : decode cX4_readsExpr 44 = .ok (.invokevirtual 72, 3) := by decide +kernel
theorem dX4_readsExpr_47 : decode cX4_readsExpr 47 = .ok (.iconst 1, 1) := by decide +kernel
theorem dX4_readsExpr_48 : decode cX4_readsExpr 48 = .ok (.ireturn, 1) := by decide +kernel
theorem dX4_readsExpr_49 : decode cX4_readsExpr 49 = .ok (.aload_n 0, 1) := by decide +kernel
theorem dX4_readsExpr_50 : decode cX4_readsExpr 50 = .ok (.getfield 23, 3) := by decide +kernel
theorem dX4_readsExpr_53 : decode cX4_readsExpr 53 = .ok (.getfield 42, 3) := by decide +kernel
theorem dX4_readsExpr_56 : decode cX4_readsExpr 56 = .ok (.iconst 2, 1) := by decide +kernel
theorem dX4_readsExpr_57 : decode cX4_readsExpr 57 = .ok (.if_icmp .ne 22, 3) := by decide +kernel
theorem dX4_readsExpr_60 : decode cX4_readsExpr 60 = .ok (.aload_n 0, 1) := by decide +kernel
theorem dX4_readsExpr_61 : decode cX4_readsExpr 61 = .ok (.getfield 12, 3) := by decide +kernel
theorem dX4_readsExpr_64 : decode cX4_readsExpr 64 = .ok (.getfield 111, 3) := by decide +kernel
theorem dX4_readsExpr_67 : decode cX4_readsExpr 67 = .ok (.iload_n 1, 1) := by decide +kernel
theorem dX4_readsExpr_68 : decode cX4_readsExpr 68 = .ok (.bipush 23, 2) := by decide +kernel
theorem dX4_readsExpr_70 : decode cX4_readsExpr 70 = .ok (.iastore, 1) := by decide +kernel
theorem dX4_readsExpr_71 : decode cX4_readsExpr 71 = .ok (.aload_n 0, 1) := by decide +kernel
theorem dX4_readsExpr_72 : decode cX4_readsExpr 72 = .ok (.iload_n 1, 1) := by decide +kernel
theorem dX4_readsExpr_73 : decode cX4_readsExpr 73 = .ok (.iconst 0, 1) := by decide +kernel
theorem dX4_readsExpr_74 : decode cX4_readsExpr 74 = .ok (.iconst 1, 1) := by decide +kernel
theorem dX4_readsExpr_75 : decode cX4_readsExpr 75 = .ok (.invokevirtual 120, 3) := by decide +kernel
theorem dX4_readsExpr_78 : decode cX4_readsExpr 78 = .ok (.ireturn, 1) := by decide +kernel
theorem dX4_readsExpr_79 : decode cX4_readsExpr 79 = .ok (.aload_n 0, 1) := by decide +kernel
theorem dX4_readsExpr_80 : decode cX4_readsExpr 80 = .ok (.getfield 23, 3) := by decide +kernel
theorem dX4_readsExpr_83 : decode cX4_readsExpr 83 = .ok (.getfield 45, 3) := by decide +kernel
theorem dX4_readsExpr_86 : decode cX4_readsExpr 86 = .ok (.iconst 2, 1) := by decide +kernel
theorem dX4_readsExpr_87 : decode cX4_readsExpr 87 = .ok (.if_icmp .lt 15, 3) := by decide +kernel
theorem dX4_readsExpr_90 : decode cX4_readsExpr 90 = .ok (.aload_n 0, 1) := by decide +kernel
theorem dX4_readsExpr_91 : decode cX4_readsExpr 91 = .ok (.getfield 23, 3) := by decide +kernel
theorem dX4_readsExpr_94 : decode cX4_readsExpr 94 = .ok (.getfield 45, 3) := by decide +kernel
theorem dX4_readsExpr_97 : decode cX4_readsExpr 97 = .ok (.bipush 9, 2) := by decide +kernel
theorem dX4_readsExpr_99 : decode cX4_readsExpr 99 = .ok (.if_icmp .le 12, 3) := by decide +kernel
theorem dX4_readsExpr_102 : decode cX4_readsExpr 102 = .ok (.aload_n 0, 1) := by decide +kernel
theorem dX4_readsExpr_103 : decode cX4_readsExpr 103 = .ok (.getfield 23, 3) := by decide +kernel
theorem dX4_readsExpr_106 : decode cX4_readsExpr 106 = .ok (.iconst 1, 1) := by decide +kernel
theorem dX4_readsExpr_107 : decode cX4_readsExpr 107 = .ok (.invokevirtual 62, 3) := by decide +kernel
theorem dX4_readsExpr_110 : decode cX4_readsExpr 110 = .ok (.ireturn, 1) := by decide +kernel
theorem dX4_readsExpr_111 : decode cX4_readsExpr 111 = .ok (.aload_n 0, 1) := by decide +kernel
theorem dX4_readsExpr_112 : decode cX4_readsExpr 112 = .ok (.getfield 12, 3) := by decide +kernel
theorem dX4_readsExpr_115 : decode cX4_readsExpr 115 = .ok (.getfield 111, 3) := by decide +kernel
theorem dX4_readsExpr_118 : decode cX4_readsExpr 118 = .ok (.iload_n 1, 1) := by decide +kernel
theorem dX4_readsExpr_119 : decode cX4_readsExpr 119 = .ok (.aload_n 0, 1) := by decide +kernel
theorem dX4_readsExpr_120 : decode cX4_readsExpr 120 = .ok (.getfield 23, 3) := by decide +kernel
theorem dX4_readsExpr_123 : decode cX4_readsExpr 123 = .ok (.getfield 45, 3) := by decide +kernel
theorem dX4_readsExpr_126 : decode cX4_readsExpr 126 = .ok (.iastore, 1) := by decide +kernel
theorem dX4_readsExpr_127 : decode cX4_readsExpr 127 = .ok (.aload_n 0, 1) := by decide +kernel
theorem dX4_readsExpr_128 : decode cX4_readsExpr 128 = .ok (.getfield 23, 3) := by decide +kernel
theorem dX4_readsExpr_131 : decode cX4_readsExpr 131 = .ok (.invokevirtual 72, 3) := by decide +kernel
theorem dX4_readsExpr_134 : decode cX4_readsExpr 134 = .ok (.aload_n 0, 1) := by decide +kernel
theorem dX4_readsExpr_135 : decode cX4_readsExpr 135 = .ok (.getfield 12, 3) := by decide +kernel
theorem dX4_readsExpr_138 : decode cX4_readsExpr 138 = .ok (.getfield 111, 3) := by decide +kernel
theorem dX4_readsExpr_141 : decode cX4_readsExpr 141 = .ok (.iload_n 1, 1) := by decide +kernel
theorem dX4_readsExpr_142 : decode cX4_readsExpr 142 = .ok (.iaload, 1) := by decide +kernel
theorem dX4_readsExpr_143 : decode cX4_readsExpr 143 = .ok (.tableswitch 94 3 9 #[41, 41, 94, 94, 49, 57, 88], 41) := by decide +kernel
theorem dX4_readsExpr_184 : decode cX4_readsExpr 184 = .ok (.aload_n 0, 1) := by decide +kernel
theorem dX4_readsExpr_185 : decode cX4_readsExpr 185 = .ok (.iload_n 1, 1) := by decide +kernel
theorem dX4_readsExpr_186 : decode cX4_readsExpr 186 = .ok (.iconst 0, 1) := by decide +kernel
theorem dX4_readsExpr_187 : decode cX4_readsExpr 187 = .ok (.iconst 1, 1) := by decide +kernel
theorem dX4_readsExpr_188 : decode cX4_readsExpr 188 = .ok (.invokevirtual 120, 3) := by decide +kernel
theorem dX4_readsExpr_191 : decode cX4_readsExpr 191 = .ok (.ireturn, 1) := by decide +kernel
theorem dX4_readsExpr_192 : decode cX4_readsExpr 192 = .ok (.aload_n 0, 1) := by decide +kernel
theorem dX4_readsExpr_193 : decode cX4_readsExpr 193 = .ok (.iload_n 1, 1) := by decide +kernel
theorem dX4_readsExpr_194 : decode cX4_readsExpr 194 = .ok (.iconst 0, 1) := by decide +kernel
theorem dX4_readsExpr_195 : decode cX4_readsExpr 195 = .ok (.iconst 3, 1) := by decide +kernel
theorem dX4_readsExpr_196 : decode cX4_readsExpr 196 = .ok (.invokevirtual 120, 3) := by decide +kernel
theorem dX4_readsExpr_199 : decode cX4_readsExpr 199 = .ok (.ireturn, 1) := by decide +kernel
theorem dX4_readsExpr_200 : decode cX4_readsExpr 200 = .ok (.aload_n 0, 1) := by decide +kernel
theorem dX4_readsExpr_201 : decode cX4_readsExpr 201 = .ok (.iload_n 1, 1) := by decide +kernel
theorem dX4_readsExpr_202 : decode cX4_readsExpr 202 = .ok (.invokevirtual 124, 3) := by decide +kernel
theorem dX4_readsExpr_205 : decode cX4_readsExpr 205 = .ok (.ifCond .eq 24, 3) := by decide +kernel
theorem dX4_readsExpr_208 : decode cX4_readsExpr 208 = .ok (.aload_n 0, 1) := by decide +kernel
theorem dX4_readsExpr_209 : decode cX4_readsExpr 209 = .ok (.iload_n 1, 1) := by decide +kernel
theorem dX4_readsExpr_210 : decode cX4_readsExpr 210 = .ok (.iconst 0, 1) := by decide +kernel
theorem dX4_readsExpr_211 : decode cX4_readsExpr 211 = .ok (.aload_n 0, 1) := by decide +kernel
theorem dX4_readsExpr_212 : decode cX4_readsExpr 212 = .ok (.getfield 12, 3) := by decide +kernel
theorem dX4_readsExpr_215 : decode cX4_readsExpr 215 = .ok (.iload_n 1, 1) := by decide +kernel
theorem dX4_readsExpr_216 : decode cX4_readsExpr 216 = .ok (.invokevirtual 127, 3) := by decide +kernel
theorem dX4_readsExpr_219 : decode cX4_readsExpr 219 = .ok (.invokevirtual 120, 3) := by decide +kernel
theorem dX4_readsExpr_222 : decode cX4_readsExpr 222 = .ok (.ifCond .eq 7, 3) := by decide +kernel
theorem dX4_readsExpr_225 : decode cX4_readsExpr 225 = .ok (.iconst 1, 1) := by decide +kernel
theorem dX4_readsExpr_226 : decode cX4_readsExpr 226 = .ok (.goto 4, 3) := by decide +kernel
theorem dX4_readsExpr_229 : decode cX4_readsExpr 229 = .ok (.iconst 0, 1) := by decide +kernel
theorem dX4_readsExpr_230 : decode cX4_readsExpr 230 = .ok (.ireturn, 1) := by decide +kernel
theorem dX4_readsExpr_231 : decode cX4_readsExpr 231 = .ok (.aload_n 0, 1) := by decide +kernel
theorem dX4_readsExpr_232 : decode cX4_readsExpr 232 = .ok (.iload_n 1, 1) := by decide +kernel
theorem dX4_readsExpr_233 : decode cX4_readsExpr 233 = .ok (.invokevirtual 131, 3) := by decide +kernel
theorem dX4_readsExpr_236 : decode cX4_readsExpr 236 = .ok (.ireturn, 1) := by decide +kernel
theorem dX4_readsExpr_237 : decode cX4_readsExpr 237 = .ok (.aload_n 0, 1) := by decide +kernel
theorem dX4_readsExpr_238 : decode cX4_readsExpr 238 = .ok (.iload_n 1, 1) := by decide +kernel
theorem dX4_readsExpr_239 : decode cX4_readsExpr 239 = .ok (.iconst 0, 1) := by decide +kernel
theorem dX4_readsExpr_240 : decode cX4_readsExpr 240 = .ok (.iconst 2, 1) := by decide +kernel
theorem dX4_readsExpr_241 : decode cX4_readsExpr 241 = .ok (.invokevirtual 120, 3) := by decide +kernel
theorem dX4_readsExpr_244 : decode cX4_readsExpr 244 = .ok (.ireturn, 1) := by decide +kernel
theorem dX4_readsWhen_0 : decode cX4_readsWhen 0 = .ok (.aload_n 0, 1) := by decide +kernel
theorem dX4_readsWhen_1 : decode cX4_readsWhen 1 = .ok (.iload_n 1, 1) := by decide +kernel
theorem dX4_readsWhen_2 : decode cX4_readsWhen 2 = .ok (.iconst 0, 1) := by decide +kernel
theorem dX4_readsWhen_3 : decode cX4_readsWhen 3 = .ok (.iconst 1, 1) := by decide +kernel
theorem dX4_readsWhen_4 : decode cX4_readsWhen 4 = .ok (.invokevirtual 120, 3) := by decide +kernel
theorem dX4_readsWhen_7 : decode cX4_readsWhen 7 = .ok (.ifCond .ne 5, 3) := by decide +kernel
theorem dX4_readsWhen_10 : decode cX4_readsWhen 10 = .ok (.iconst 0, 1) := by decide +kernel
theorem dX4_readsWhen_11 : decode cX4_readsWhen 11 = .ok (.ireturn, 1) := by decide +kernel
theorem dX4_readsWhen_12 : decode cX4_readsWhen 12 = .ok (.aload_n 0, 1) := by decide +kernel
theorem dX4_readsWhen_13 : decode cX4_readsWhen 13 = .ok (.getfield 12, 3) := by decide +kernel
theorem dX4_readsWhen_16 : decode cX4_readsWhen 16 = .ok (.getfield 114, 3) := by decide +kernel
theorem dX4_readsWhen_19 : decode cX4_readsWhen 19 = .ok (.iload_n 1, 1) := by decide +kernel
theorem dX4_readsWhen_20 : decode cX4_readsWhen 20 = .ok (.iconst 5, 1) := by decide +kernel
theorem dX4_readsWhen_21 : decode cX4_readsWhen 21 = .ok (.imul, 1) := by decide +kernel
theorem dX4_readsWhen_22 : decode cX4_readsWhen 22 = .ok (.iaload, 1) := by decide +kernel
theorem dX4_readsWhen_23 : decode cX4_readsWhen 23 = .ok (.istore_n 2, 1) := by decide +kernel
theorem dX4_readsWhen_24 : decode cX4_readsWhen 24 = .ok (.aload_n 0, 1) := by decide +kernel
theorem dX4_readsWhen_25 : decode cX4_readsWhen 25 = .ok (.iload_n 1, 1) := by decide +kernel
theorem dX4_readsWhen_26 : decode cX4_readsWhen 26 = .ok (.invokevirtual 124, 3) := by decide +kernel
theorem dX4_readsWhen_29 : decode cX4_readsWhen 29 = .ok (.ifCond .ne 5, 3) := by decide +kernel
theorem dX4_readsWhen_32 : decode cX4_readsWhen 32 = .ok (.iconst 0, 1) := by decide +kernel
theorem dX4_readsWhen_33 : decode cX4_readsWhen 33 = .ok (.ireturn, 1) := by decide +kernel
theorem dX4_readsWhen_34 : decode cX4_readsWhen 34 = .ok (.aload_n 0, 1) := by decide +kernel
theorem dX4_readsWhen_35 : decode cX4_readsWhen 35 = .ok (.getfield 12, 3) := by decide +kernel
theorem dX4_readsWhen_38 : decode cX4_readsWhen 38 = .ok (.iload_n 1, 1) := by decide +kernel
theorem dX4_readsWhen_39 : decode cX4_readsWhen 39 = .ok (.invokevirtual 127, 3) := by decide +kernel
theorem dX4_readsWhen_42 : decode cX4_readsWhen 42 = .ok (.istore_n 3, 1) := by decide +kernel
theorem dX4_readsWhen_43 : decode cX4_readsWhen 43 = .ok (.aload_n 0, 1) := by decide +kernel
theorem dX4_readsWhen_44 : decode cX4_readsWhen 44 = .ok (.getfield 12, 3) := by decide +kernel
theorem dX4_readsWhen_47 : decode cX4_readsWhen 47 = .ok (.getfield 114, 3) := by decide +kernel
theorem dX4_readsWhen_50 : decode cX4_readsWhen 50 = .ok (.iload_n 1, 1) := by decide +kernel
theorem dX4_readsWhen_51 : decode cX4_readsWhen 51 = .ok (.iconst 5, 1) := by decide +kernel
theorem dX4_readsWhen_52 : decode cX4_readsWhen 52 = .ok (.imul, 1) := by decide +kernel
theorem dX4_readsWhen_53 : decode cX4_readsWhen 53 = .ok (.iload_n 3, 1) := by decide +kernel
theorem dX4_readsWhen_54 : decode cX4_readsWhen 54 = .ok (.iadd, 1) := by decide +kernel
theorem dX4_readsWhen_55 : decode cX4_readsWhen 55 = .ok (.iload_n 2, 1) := by decide +kernel
theorem dX4_readsWhen_56 : decode cX4_readsWhen 56 = .ok (.iastore, 1) := by decide +kernel
theorem dX4_readsWhen_57 : decode cX4_readsWhen 57 = .ok (.aload_n 0, 1) := by decide +kernel
theorem dX4_readsWhen_58 : decode cX4_readsWhen 58 = .ok (.iload_n 1, 1) := by decide +kernel
theorem dX4_readsWhen_59 : decode cX4_readsWhen 59 = .ok (.iconst 0, 1) := by decide +kernel
theorem dX4_readsWhen_60 : decode cX4_readsWhen 60 = .ok (.iload_n 3, 1) := by decide +kernel
theorem dX4_readsWhen_61 : decode cX4_readsWhen 61 = .ok (.invokevirtual 120, 3) := by decide +kernel
theorem dX4_readsWhen_64 : decode cX4_readsWhen 64 = .ok (.ifCond .eq 15, 3) := by decide +kernel
theorem dX4_readsWhen_67 : decode cX4_readsWhen 67 = .ok (.aload_n 0, 1) := by decide +kernel
theorem dX4_readsWhen_68 : decode cX4_readsWhen 68 = .ok (.getfield 23, 3) := by decide +kernel
theorem dX4_readsWhen_71 : decode cX4_readsWhen 71 = .ok (.bipush 10, 2) := by decide +kernel
theorem dX4_readsWhen_73 : decode cX4_readsWhen 73 = .ok (.invokevirtual 102, 3) := by decide +kernel
theorem dX4_readsWhen_76 : decode cX4_readsWhen 76 = .ok (.ifCond .ne 5, 3) := by decide +kernel
theorem dX4_readsWhen_79 : decode cX4_readsWhen 79 = .ok (.iconst 0, 1) := by decide +kernel
theorem dX4_readsWhen_80 : decode cX4_readsWhen 80 = .ok (.ireturn, 1) := by decide +kernel
theorem dX4_readsWhen_81 : decode cX4_readsWhen 81 = .ok (.aload_n 0, 1) := by decide +kernel
theorem dX4_readsWhen_82 : decode cX4_readsWhen 82 = .ok (.iload_n 1, 1) := by decide +kernel
theorem dX4_readsWhen_83 : decode cX4_readsWhen 83 = .ok (.iload_n 3, 1) := by decide +kernel
theorem dX4_readsWhen_84 : decode cX4_readsWhen 84 = .ok (.iconst 1, 1) := by decide +kernel
theorem dX4_readsWhen_85 : decode cX4_readsWhen 85 = .ok (.iadd, 1) := by decide +kernel
theorem dX4_readsWhen_86 : decode cX4_readsWhen 86 = .ok (.iconst 1, 1) := by decide +kernel
theorem dX4_readsWhen_87 : decode cX4_readsWhen 87 = .ok (.invokevirtual 120, 3) := by decide +kernel
theorem dX4_readsWhen_90 : decode cX4_readsWhen 90 = .ok (.ireturn, 1) := by decide +kernel
theorem dX4_takesFun_0 : decode cX4_takesFun 0 = .ok (.aload_n 0, 1) := by decide +kernel
theorem dX4_takesFun_1 : decode cX4_takesFun 1 = .ok (.getfield 23, 3) := by decide +kernel
theorem dX4_takesFun_4 : decode cX4_takesFun 4 = .ok (.getfield 42, 3) := by decide +kernel
theorem dX4_takesFun_7 : decode cX4_takesFun 7 = .ok (.iconst 2, 1) := by decide +kernel
theorem dX4_takesFun_8 : decode cX4_takesFun 8 = .ok (.if_icmp .eq 12, 3) := by decide +kernel
theorem dX4_takesFun_11 : decode cX4_takesFun 11 = .ok (.aload_n 0, 1) := by decide +kernel
theorem dX4_takesFun_12 : decode cX4_takesFun 12 = .ok (.getfield 23, 3) := by decide +kernel
theorem dX4_takesFun_15 : decode cX4_takesFun 15 = .ok (.iconst 1, 1) := by decide +kernel
theorem dX4_takesFun_16 : decode cX4_takesFun 16 = .ok (.invokevirtual 62, 3) := by decide +kernel
theorem dX4_takesFun_19 : decode cX4_takesFun 19 = .ok (.ireturn, 1) := by decide +kernel
theorem dX4_takesFun_20 : decode cX4_takesFun 20 = .ok (.aload_n 0, 1) := by decide +kernel
theorem dX4_takesFun_21 : decode cX4_takesFun 21 = .ok (.getfield 12, 3) := by decide +kernel
theorem dX4_takesFun_24 : decode cX4_takesFun 24 = .ok (.aload_n 0, 1) := by decide +kernel
theorem dX4_takesFun_25 : decode cX4_takesFun 25 = .ok (.getfield 23, 3) := by decide +kernel
theorem dX4_takesFun_28 : decode cX4_takesFun 28 = .ok (.getfield 75, 3) := by decide +kernel
theorem dX4_takesFun_31 : decode cX4_takesFun 31 = .ok (.invokevirtual 79, 3) := by decide +kernel
theorem dX4_takesFun_34 : decode cX4_takesFun 34 = .ok (.istore_n 2, 1) := by decide +kernel
theorem dX4_takesFun_35 : decode cX4_takesFun 35 = .ok (.iload_n 2, 1) := by decide +kernel
theorem dX4_takesFun_36 : decode cX4_takesFun 36 = .ok (.iconst (-1), 1) := by decide +kernel
theorem dX4_takesFun_37 : decode cX4_takesFun 37 = .ok (.if_icmp .ne 12, 3) := by decide +kernel
theorem dX4_takesFun_40 : decode cX4_takesFun 40 = .ok (.aload_n 0, 1) := by decide +kernel
theorem dX4_takesFun_41 : decode cX4_takesFun 41 = .ok (.getfield 23, 3) := by decide +kernel
theorem dX4_takesFun_44 : decode cX4_takesFun 44 = .ok (.iconst 3, 1) := by decide +kernel
theorem dX4_takesFun_45 : decode cX4_takesFun 45 = .ok (.invokevirtual 62, 3) := by decide +kernel
theorem dX4_takesFun_48 : decode cX4_takesFun 48 = .ok (.ireturn, 1) := by decide +kernel
theorem dX4_takesFun_49 : decode cX4_takesFun 49 = .ok (.aload_n 0, 1) := by decide +kernel
theorem dX4_takesFun_50 : decode cX4_takesFun 50 = .ok (.getfield 12, 3) := by decide +kernel
theorem dX4_takesFun_53 : decode cX4_takesFun 53 = .ok (.getfield 134, 3) := by decide +kernel
theorem dX4_takesFun_56 : decode cX4_takesFun 56 = .ok (.iload_n 1, 1) := by decide +kernel
theorem dX4_takesFun_57 : decode cX4_takesFun 57 = .ok (.iload_n 2, 1) := by decide +kernel
theorem dX4_takesFun_58 : decode cX4_takesFun 58 = .ok (.iastore, 1) := by decide +kernel
theorem dX4_takesFun_59 : decode cX4_takesFun 59 = .ok (.aload_n 0, 1) := by decide +kernel
theorem dX4_takesFun_60 : decode cX4_takesFun 60 = .ok (.getfield 23, 3) := by decide +kernel
theorem dX4_takesFun_63 : decode cX4_takesFun 63 = .ok (.invokevirtual 72, 3) := by decide +kernel
theorem dX4_takesFun_66 : decode cX4_takesFun 66 = .ok (.iconst 1, 1) := by decide +kernel
theorem dX4_takesFun_67 : decode cX4_takesFun 67 = .ok (.ireturn, 1) := by decide +kernel
theorem dX4_takesVars_0 : decode cX4_takesVars 0 = .ok (.iload_n 2, 1) := by decide +kernel
theorem dX4_takesVars_1 : decode cX4_takesVars 1 = .ok (.istore 4, 2) := by decide +kernel
theorem dX4_takesVars_3 : decode cX4_takesVars 3 = .ok (.iload 4, 2) := by decide +kernel
theorem dX4_takesVars_5 : decode cX4_takesVars 5 = .ok (.iload_n 2, 1) := by decide +kernel
theorem dX4_takesVars_6 : decode cX4_takesVars 6 = .ok (.iload_n 3, 1) := by decide +kernel
theorem dX4_takesVars_7 : decode cX4_takesVars 7 = .ok (.iadd, 1) := by decide +kernel
theorem dX4_takesVars_8 : decode cX4_takesVars 8 = .ok (.if_icmp .ge 80, 3) := by decide +kernel
theorem dX4_takesVars_11 : decode cX4_takesVars 11 = .ok (.aload_n 0, 1) := by decide +kernel
theorem dX4_takesVars_12 : decode cX4_takesVars 12 = .ok (.getfield 23, 3) := by decide +kernel
theorem dX4_takesVars_15 : decode cX4_takesVars 15 = .ok (.getfield 42, 3) := by decide +kernel
theorem dX4_takesVars_18 : decode cX4_takesVars 18 = .ok (.iconst 2, 1) := by decide +kernel
theorem dX4_takesVars_19 : decode cX4_takesVars 19 = .ok (.if_icmp .eq 12, 3) := by decide +kernel
theorem dX4_takesVars_22 : decode cX4_takesVars 22 = .ok (.aload_n 0, 1) := by decide +kernel
theorem dX4_takesVars_23 : decode cX4_takesVars 23 = .ok (.getfield 23, 3) := by decide +kernel
theorem dX4_takesVars_26 : decode cX4_takesVars 26 = .ok (.iconst 1, 1) := by decide +kernel
theorem dX4_takesVars_27 : decode cX4_takesVars 27 = .ok (.invokevirtual 62, 3) := by decide +kernel
theorem dX4_takesVars_30 : decode cX4_takesVars 30 = .ok (.ireturn, 1) := by decide +kernel
theorem dX4_takesVars_31 : decode cX4_takesVars 31 = .ok (.aload_n 0, 1) := by decide +kernel
theorem dX4_takesVars_32 : decode cX4_takesVars 32 = .ok (.aload_n 0, 1) := by decide +kernel
theorem dX4_takesVars_33 : decode cX4_takesVars 33 = .ok (.getfield 23, 3) := by decide +kernel
theorem dX4_takesVars_36 : decode cX4_takesVars 36 = .ok (.getfield 75, 3) := by decide +kernel
theorem dX4_takesVars_39 : decode cX4_takesVars 39 = .ok (.invokevirtual 90, 3) := by decide +kernel
theorem dX4_takesVars_42 : decode cX4_takesVars 42 = .ok (.istore 5, 2) := by decide +kernel
theorem dX4_takesVars_44 : decode cX4_takesVars 44 = .ok (.iload 5, 2) := by decide +kernel
theorem dX4_takesVars_46 : decode cX4_takesVars 46 = .ok (.iconst (-1), 1) := by decide +kernel
theorem dX4_takesVars_47 : decode cX4_takesVars 47 = .ok (.if_icmp .ne 12, 3) := by decide +kernel
theorem dX4_takesVars_50 : decode cX4_takesVars 50 = .ok (.aload_n 0, 1) := by decide +kernel
theorem dX4_takesVars_51 : decode cX4_takesVars 51 = .ok (.getfield 23, 3) := by decide +kernel
theorem dX4_takesVars_54 : decode cX4_takesVars 54 = .ok (.iconst 3, 1) := by decide +kernel
theorem dX4_takesVars_55 : decode cX4_takesVars 55 = .ok (.invokevirtual 62, 3) := by decide +kernel
theorem dX4_takesVars_58 : decode cX4_takesVars 58 = .ok (.ireturn, 1) := by decide +kernel
theorem dX4_takesVars_59 : decode cX4_takesVars 59 = .ok (.aload_n 0, 1) := by decide +kernel
theorem dX4_takesVars_60 : decode cX4_takesVars 60 = .ok (.getfield 12, 3) := by decide +kernel
theorem dX4_takesVars_63 : decode cX4_takesVars 63 = .ok (.getfield 114, 3) := by decide +kernel
theorem dX4_takesVars_66 : decode cX4_takesVars 66 = .ok (.iload_n 1, 1) := by decide +kernel
theorem dX4_takesVars_67 : decode cX4_takesVars 67 = .ok (.iconst 5, 1) := by decide +kernel
theorem dX4_takesVars_68 : decode cX4_takesVars 68 = .ok (.imul, 1) := by decide +kernel
theorem dX4_takesVars_69 : decode cX4_takesVars 69 = .ok (.iload 4, 2) := by decide +kernel
theorem dX4_takesVars_71 : decode cX4_takesVars 71 = .ok (.iadd, 1) := by decide +kernel
theorem dX4_takesVars_72 : decode cX4_takesVars 72 = .ok (.iload 5, 2) := by decide +kernel
theorem dX4_takesVars_74 : decode cX4_takesVars 74 = .ok (.iastore, 1) := by decide +kernel
theorem dX4_takesVars_75 : decode cX4_takesVars 75 = .ok (.aload_n 0, 1) := by decide +kernel
theorem dX4_takesVars_76 : decode cX4_takesVars 76 = .ok (.getfield 23, 3) := by decide +kernel
theorem dX4_takesVars_79 : decode cX4_takesVars 79 = .ok (.invokevirtual 72, 3) := by decide +kernel
theorem dX4_takesVars_82 : decode cX4_takesVars 82 = .ok (.iinc 4 1, 3) := by decide +kernel
theorem dX4_takesVars_85 : decode cX4_takesVars 85 = .ok (.goto (-82), 3) := by decide +kernel
theorem dX4_takesVars_88 : decode cX4_takesVars 88 = .ok (.iconst 1, 1) := by decide +kernel
theorem dX4_takesVars_89 : decode cX4_takesVars 89 = .ok (.ireturn, 1) := by decide +kernel
theorem dX4_varOf_0 : decode cX4_varOf 0 = .ok (.iconst 0, 1) := by decide +kernel
theorem dX4_varOf_1 : decode cX4_varOf 1 = .ok (.istore_n 3, 1) := by decide +kernel
theorem dX4_varOf_2 : decode cX4_varOf 2 = .ok (.iload_n 3, 1) := by decide +kernel
theorem dX4_varOf_3 : decode cX4_varOf 3 = .ok (.aload_n 0, 1) := by decide +kernel
theorem dX4_varOf_4 : decode cX4_varOf 4 = .ok (.getfield 31, 3) := by decide +kernel
theorem dX4_varOf_7 : decode cX4_varOf 7 = .ok (.if_icmp .ge 22, 3) := by decide +kernel
theorem dX4_varOf_10 : decode cX4_varOf 10 = .ok (.aload_n 0, 1) := by decide +kernel
theorem dX4_varOf_11 : decode cX4_varOf 11 = .ok (.getfield 27, 3) := by decide +kernel
theorem dX4_varOf_14 : decode cX4_varOf 14 = .ok (.iload_n 3, 1) := by decide +kernel
theorem dX4_varOf_15 : decode cX4_varOf 15 = .ok (.laload, 1) := by decide +kernel
theorem dX4_varOf_16 : decode cX4_varOf 16 = .ok (.lload_n 1, 1) := by decide +kernel
theorem dX4_varOf_17 : decode cX4_varOf 17 = .ok (.lcmp, 1) := by decide +kernel
theorem dX4_varOf_18 : decode cX4_varOf 18 = .ok (.ifCond .ne 5, 3) := by decide +kernel
theorem dX4_varOf_21 : decode cX4_varOf 21 = .ok (.iload_n 3, 1) := by decide +kernel
theorem dX4_varOf_22 : decode cX4_varOf 22 = .ok (.ireturn, 1) := by decide +kernel
theorem dX4_varOf_23 : decode cX4_varOf 23 = .ok (.iinc 3 1, 3) := by decide +kernel
theorem dX4_varOf_26 : decode cX4_varOf 26 = .ok (.goto (-24), 3) := by decide +kernel
theorem dX4_varOf_29 : decode cX4_varOf 29 = .ok (.iconst (-1), 1) := by decide +kernel
theorem dX4_varOf_30 : decode cX4_varOf 30 = .ok (.ireturn, 1) := by decide +kernel
theorem dX4_addVar_0 : decode cX4_addVar 0 = .ok (.aload_n 0, 1) := by decide +kernel
theorem dX4_addVar_1 : decode cX4_addVar 1 = .ok (.getfield 31, 3) := by decide +kernel
theorem dX4_addVar_4 : decode cX4_addVar 4 = .ok (.bipush 27, 2) := by decide +kernel
theorem dX4_addVar_6 : decode cX4_addVar 6 = .ok (.if_icmp .ge 23, 3) := by decide +kernel
theorem dX4_addVar_9 : decode cX4_addVar 9 = .ok (.aload_n 0, 1) := by decide +kernel
theorem dX4_addVar_10 : decode cX4_addVar 10 = .ok (.getfield 27, 3) := by decide +kernel
theorem dX4_addVar_13 : decode cX4_addVar 13 = .ok (.aload_n 0, 1) := by decide +kernel
theorem dX4_addVar_14 : decode cX4_addVar 14 = .ok (.getfield 31, 3) := by decide +kernel
theorem dX4_addVar_17 : decode cX4_addVar 17 = .ok (.lload_n 1, 1) := by decide +kernel
theorem dX4_addVar_18 : decode cX4_addVar 18 = .ok (.lastore, 1) := by decide +kernel
theorem dX4_addVar_19 : decode cX4_addVar 19 = .ok (.aload_n 0, 1) := by decide +kernel
theorem dX4_addVar_20 : decode cX4_addVar 20 = .ok (.dup, 1) := by decide +kernel
theorem dX4_addVar_21 : decode cX4_addVar 21 = .ok (.getfield 31, 3) := by decide +kernel
theorem dX4_addVar_24 : decode cX4_addVar 24 = .ok (.iconst 1, 1) := by decide +kernel
theorem dX4_addVar_25 : decode cX4_addVar 25 = .ok (.iadd, 1) := by decide +kernel
theorem dX4_addVar_26 : decode cX4_addVar 26 = .ok (.putfield 31, 3) := by decide +kernel
theorem dX4_addVar_29 : decode cX4_addVar 29 = .ok (.return_, 1) := by decide +kernel
theorem dX5_init_0 : decode cX5_init 0 = .ok (.aload_n 0, 1) := by decide +kernel
theorem dX5_init_1 : decode cX5_init 1 = .ok (.invokespecial 5, 3) := by decide +kernel
theorem dX5_init_4 : decode cX5_init 4 = .ok (.aload_n 0, 1) := by decide +kernel
theorem dX5_init_5 : decode cX5_init 5 = .ok (.sipush 183, 3) := by decide +kernel
theorem dX5_init_8 : decode cX5_init 8 = .ok (.newarray .int, 2) := by decide +kernel
theorem dX5_init_10 : decode cX5_init 10 = .ok (.putfield 11, 3) := by decide +kernel
theorem dX5_init_13 : decode cX5_init 13 = .ok (.aload_n 0, 1) := by decide +kernel
theorem dX5_init_14 : decode cX5_init 14 = .ok (.sipush 183, 3) := by decide +kernel
theorem dX5_init_17 : decode cX5_init 17 = .ok (.newarray .int, 2) := by decide +kernel
theorem dX5_init_19 : decode cX5_init 19 = .ok (.putfield 15, 3) := by decide +kernel
theorem dX5_init_22 : decode cX5_init 22 = .ok (.aload_n 0, 1) := by decide +kernel
theorem dX5_init_23 : decode cX5_init 23 = .ok (.sipush 183, 3) := by decide +kernel
theorem dX5_init_26 : decode cX5_init 26 = .ok (.newarray .int, 2) := by decide +kernel
theorem dX5_init_28 : decode cX5_init 28 = .ok (.putfield 18, 3) := by decide +kernel
theorem dX5_init_31 : decode cX5_init 31 = .ok (.aload_n 0, 1) := by decide +kernel
theorem dX5_init_32 : decode cX5_init 32 = .ok (.sipush 183, 3) := by decide +kernel
theorem dX5_init_35 : decode cX5_init 35 = .ok (.newarray .int, 2) := by decide +kernel
theorem dX5_init_37 : decode cX5_init 37 = .ok (.putfield 21, 3) := by decide +kernel
theorem dX5_init_40 : decode cX5_init 40 = .ok (.aload_n 0, 1) := by decide +kernel
theorem dX5_init_41 : decode cX5_init 41 = .ok (.sipush 135, 3) := by decide +kernel
theorem dX5_init_44 : decode cX5_init 44 = .ok (.putfield 24, 3) := by decide +kernel
theorem dX5_init_47 : decode cX5_init 47 = .ok (.return_, 1) := by decide +kernel
theorem dX5_findAll_0 : decode cX5_findAll 0 = .ok (.aload_n 0, 1) := by decide +kernel
theorem dX5_findAll_1 : decode cX5_findAll 1 = .ok (.invokevirtual 28, 3) := by decide +kernel
theorem dX5_findAll_4 : decode cX5_findAll 4 = .ok (.iconst 0, 1) := by decide +kernel
theorem dX5_findAll_5 : decode cX5_findAll 5 = .ok (.istore_n 2, 1) := by decide +kernel
theorem dX5_findAll_6 : decode cX5_findAll 6 = .ok (.iload_n 2, 1) := by decide +kernel
theorem dX5_findAll_7 : decode cX5_findAll 7 = .ok (.aload_n 1, 1) := by decide +kernel
theorem dX5_findAll_8 : decode cX5_findAll 8 = .ok (.getfield 31, 3) := by decide +kernel
theorem dX5_findAll_11 : decode cX5_findAll 11 = .ok (.if_icmp .ge 46, 3) := by decide +kernel
theorem dX5_findAll_14 : decode cX5_findAll 14 = .ok (.aload_n 1, 1) := by decide +kernel
theorem dX5_findAll_15 : decode cX5_findAll 15 = .ok (.getfield 36, 3) := by decide +kernel
theorem dX5_findAll_18 : decode cX5_findAll 18 = .ok (.iload_n 2, 1) := by decide +kernel
theorem dX5_findAll_19 : decode cX5_findAll 19 = .ok (.iaload, 1) := by decide +kernel
theorem dX5_findAll_20 : decode cX5_findAll 20 = .ok (.istore_n 3, 1) := by decide +kernel
theorem dX5_findAll_21 : decode cX5_findAll 21 = .ok (.iload_n 3, 1) := by decide +kernel
theorem dX5_findAll_22 : decode cX5_findAll 22 = .ok (.aload_n 1, 1) := by decide +kernel
theorem dX5_findAll_23 : decode cX5_findAll 23 = .ok (.getfield 36, 3) := by decide +kernel
theorem dX5_findAll_26 : decode cX5_findAll 26 = .ok (.iload_n 2, 1) := by decide +kernel
theorem dX5_findAll_27 : decode cX5_findAll 27 = .ok (.iaload, 1) := by decide +kernel
theorem dX5_findAll_28 : decode cX5_findAll 28 = .ok (.aload_n 1, 1) := by decide +kernel
theorem dX5_findAll_29 : decode cX5_findAll 29 = .ok (.getfield 39, 3) := by decide +kernel
theorem dX5_findAll_32 : decode cX5_findAll 32 = .ok (.iload_n 2, 1) := by decide +kernel
theorem dX5_findAll_33 : decode cX5_findAll 33 = .ok (.iaload, 1) := by decide +kernel
theorem dX5_findAll_34 : decode cX5_findAll 34 = .ok (.iadd, 1) := by decide +kernel
theorem dX5_findAll_35 : decode cX5_findAll 35 = .ok (.if_icmp .ge 16, 3) := by decide +kernel
theorem dX5_findAll_38 : decode cX5_findAll 38 = .ok (.aload_n 0, 1) := by decide +kernel
theorem dX5_findAll_39 : decode cX5_findAll 39 = .ok (.aload_n 1, 1) := by decide +kernel
theorem dX5_findAll_40 : decode cX5_findAll 40 = .ok (.iload_n 2, 1) := by decide +kernel
theorem dX5_findAll_41 : decode cX5_findAll 41 = .ok (.iload_n 3, 1) := by decide +kernel
theorem dX5_findAll_42 : decode cX5_findAll 42 = .ok (.invokevirtual 42, 3) := by decide +kernel
theorem dX5_findAll_45 : decode cX5_findAll 45 = .ok (.iinc 3 1, 3) := by decide +kernel
theorem dX5_findAll_48 : decode cX5_findAll 48 = .ok (.goto (-27), 3) := by decide +kernel
theorem dX5_findAll_51 : decode cX5_findAll 51 = .ok (.iinc 2 1, 3) := by decide +kernel
theorem dX5_findAll_54 : decode cX5_findAll 54 = .ok (.goto (-48), 3) := by decide +kernel
theorem dX5_findAll_57 : decode cX5_findAll 57 = .ok (.aload_n 0, 1) := by decide +kernel
theorem dX5_findAll_58 : decode cX5_findAll 58 = .ok (.aload_n 1, 1) := by decide +kernel
theorem dX5_findAll_59 : decode cX5_findAll 59 = .ok (.invokevirtual 46, 3) := by decide +kernel
theorem dX5_findAll_62 : decode cX5_findAll 62 = .ok (.aload_n 0, 1) := by decide +kernel
theorem dX5_findAll_63 : decode cX5_findAll 63 = .ok (.aload_n 1, 1) := by decide +kernel
theorem dX5_findAll_64 : decode cX5_findAll 64 = .ok (.invokevirtual 50, 3) := by decide +kernel
theorem dX5_findAll_67 : decode cX5_findAll 67 = .ok (.return_, 1) := by decide +kernel
theorem dX5_clear_0 : decode cX5_clear 0 = .ok (.aload_n 0, 1) := by decide +kernel
theorem dX5_clear_1 : decode cX5_clear 1 = .ok (.sipush 135, 3) := by decide +kernel
theorem dX5_clear_4 : decode cX5_clear 4 = .ok (.putfield 24, 3) := by decide +kernel
theorem dX5_clear_7 : decode cX5_clear 7 = .ok (.iconst 0, 1) := by decide +kernel
theorem dX5_clear_8 : decode cX5_clear 8 = .ok (.istore_n 1, 1) := by decide +kernel
theorem dX5_clear_9 : decode cX5_clear 9 = .ok (.iload_n 1, 1) := by decide +kernel
theorem dX5_clear_10 : decode cX5_clear 10 = .ok (.sipush 183, 3) := by decide +kernel
theorem dX5_clear_13 : decode cX5_clear 13 = .ok (.if_icmp .ge 16, 3) := by decide +kernel
theorem dX5_clear_16 : decode cX5_clear 16 = .ok (.aload_n 0, 1) := by decide +kernel
theorem dX5_clear_17 : decode cX5_clear 17 = .ok (.getfield 11, 3) := by decide +kernel
theorem dX5_clear_20 : decode cX5_clear 20 = .ok (.iload_n 1, 1) := by decide +kernel
theorem dX5_clear_21 : decode cX5_clear 21 = .ok (.iload_n 1, 1) := by decide +kernel
theorem dX5_clear_22 : decode cX5_clear 22 = .ok (.iastore, 1) := by decide +kernel
theorem dX5_clear_23 : decode cX5_clear 23 = .ok (.iinc 1 1, 3) := by decide +kernel
theorem dX5_clear_26 : decode cX5_clear 26 = .ok (.goto (-17), 3) := by decide +kernel
theorem dX5_clear_29 : decode cX5_clear 29 = .ok (.aload_n 0, 1) := by decide +kernel
theorem dX5_clear_30 : decode cX5_clear 30 = .ok (.getfield 15, 3) := by decide +kernel
theorem dX5_clear_33 : decode cX5_clear 33 = .ok (.iconst (-1), 1) := by decide +kernel
theorem dX5_clear_34 : decode cX5_clear 34 = .ok (.invokestatic 53, 3) := by decide +kernel
theorem dX5_clear_37 : decode cX5_clear 37 = .ok (.aload_n 0, 1) := by decide +kernel
theorem dX5_clear_38 : decode cX5_clear 38 = .ok (.getfield 18, 3) := by decide +kernel
theorem dX5_clear_41 : decode cX5_clear 41 = .ok (.iconst (-1), 1) := by decide +kernel
theorem dX5_clear_42 : decode cX5_clear 42 = .ok (.invokestatic 53, 3) := by decide +kernel
theorem dX5_clear_45 : decode cX5_clear 45 = .ok (.aload_n 0, 1) := by decide +kernel
theorem dX5_clear_46 : decode cX5_clear 46 = .ok (.getfield 21, 3) := by decide +kernel
theorem dX5_clear_49 : decode cX5_clear 49 = .ok (.iconst (-1), 1) := by decide +kernel
theorem dX5_clear_50 : decode cX5_clear 50 = .ok (.invokestatic 53, 3) := by decide +kernel
theorem dX5_clear_53 : decode cX5_clear 53 = .ok (.return_, 1) := by decide +kernel
theorem dX5_nodeOf_0 : decode cX5_nodeOf 0 = .ok (.iload_n 0, 1) := by decide +kernel
theorem dX5_nodeOf_1 : decode cX5_nodeOf 1 = .ok (.bipush 27, 2) := by decide +kernel
theorem dX5_nodeOf_3 : decode cX5_nodeOf 3 = .ok (.imul, 1) := by decide +kernel
theorem dX5_nodeOf_4 : decode cX5_nodeOf 4 = .ok (.iload_n 1, 1) := by decide +kernel
theorem dX5_nodeOf_5 : decode cX5_nodeOf 5 = .ok (.iadd, 1) := by decide +kernel
theorem dX5_nodeOf_6 : decode cX5_nodeOf 6 = .ok (.ireturn, 1) := by decide +kernel
theorem dX5_operandNode_0 : decode cX5_operandNode 0 = .ok (.iload_n 1, 1) := by decide +kernel
theorem dX5_operandNode_1 : decode cX5_operandNode 1 = .ok (.aload_n 0, 1) := by decide +kernel
theorem dX5_operandNode_2 : decode cX5_operandNode 2 = .ok (.iload_n 2, 1) := by decide +kernel
theorem dX5_operandNode_3 : decode cX5_operandNode 3 = .ok (.iload_n 3, 1) := by decide +kernel
theorem dX5_operandNode_4 : decode cX5_operandNode 4 = .ok (.invokevirtual 59, 3) := by decide +kernel
theorem dX5_operandNode_7 : decode cX5_operandNode 7 = .ok (.invokestatic 63, 3) := by decide +kernel
theorem dX5_operandNode_10 : decode cX5_operandNode 10 = .ok (.ireturn, 1) := by decide +kernel
theorem dX5_rootOf_0 : decode cX5_rootOf 0 = .ok (.iload_n 1, 1) := by decide +kernel
theorem dX5_rootOf_1 : decode cX5_rootOf 1 = .ok (.istore_n 2, 1) := by decide +kernel
theorem dX5_rootOf_2 : decode cX5_rootOf 2 = .ok (.iconst 0, 1) := by decide +kernel
theorem dX5_rootOf_3 : decode cX5_rootOf 3 = .ok (.istore_n 3, 1) := by decide +kernel
theorem dX5_rootOf_4 : decode cX5_rootOf 4 = .ok (.iload_n 3, 1) := by decide +kernel
theorem dX5_rootOf_5 : decode cX5_rootOf 5 = .ok (.sipush 183, 3) := by decide +kernel
theorem dX5_rootOf_8 : decode cX5_rootOf 8 = .ok (.if_icmp .ge 26, 3) := by decide +kernel
theorem dX5_rootOf_11 : decode cX5_rootOf 11 = .ok (.aload_n 0, 1) := by decide +kernel
theorem dX5_rootOf_12 : decode cX5_rootOf 12 = .ok (.getfield 11, 3) := by decide +kernel
theorem dX5_rootOf_15 : decode cX5_rootOf 15 = .ok (.iload_n 2, 1) := by decide +kernel
theorem dX5_rootOf_16 : decode cX5_rootOf 16 = .ok (.iaload, 1) := by decide +kernel
theorem dX5_rootOf_17 : decode cX5_rootOf 17 = .ok (.iload_n 2, 1) := by decide +kernel
theorem dX5_rootOf_18 : decode cX5_rootOf 18 = .ok (.if_icmp .eq 16, 3) := by decide +kernel
theorem dX5_rootOf_21 : decode cX5_rootOf 21 = .ok (.aload_n 0, 1) := by decide +kernel
theorem dX5_rootOf_22 : decode cX5_rootOf 22 = .ok (.getfield 11, 3) := by decide +kernel
theorem dX5_rootOf_25 : decode cX5_rootOf 25 = .ok (.iload_n 2, 1) := by decide +kernel
theorem dX5_rootOf_26 : decode cX5_rootOf 26 = .ok (.iaload, 1) := by decide +kernel
theorem dX5_rootOf_27 : decode cX5_rootOf 27 = .ok (.istore_n 2, 1) := by decide +kernel
theorem dX5_rootOf_28 : decode cX5_rootOf 28 = .ok (.iinc 3 1, 3) := by decide +kernel
theorem dX5_rootOf_31 : decode cX5_rootOf 31 = .ok (.goto (-27), 3) := by decide +kernel
theorem dX5_rootOf_34 : decode cX5_rootOf 34 = .ok (.iload_n 2, 1) := by decide +kernel
theorem dX5_rootOf_35 : decode cX5_rootOf 35 = .ok (.ireturn, 1) := by decide +kernel
theorem dX5_joinLine_0 : decode cX5_joinLine 0 = .ok (.iload_n 2, 1) := by decide +kernel
theorem dX5_joinLine_1 : decode cX5_joinLine 1 = .ok (.aload_n 1, 1) := by decide +kernel
theorem dX5_joinLine_2 : decode cX5_joinLine 2 = .ok (.iload_n 2, 1) := by decide +kernel
theorem dX5_joinLine_3 : decode cX5_joinLine 3 = .ok (.iload_n 3, 1) := by decide +kernel
theorem dX5_joinLine_4 : decode cX5_joinLine 4 = .ok (.invokevirtual 66, 3) := by decide +kernel
theorem dX5_joinLine_7 : decode cX5_joinLine 7 = .ok (.invokestatic 63, 3) := by decide +kernel
theorem dX5_joinLine_10 : decode cX5_joinLine 10 = .ok (.istore 4, 2) := by decide +kernel
theorem dX5_joinLine_12 : decode cX5_joinLine 12 = .ok (.aload_n 1, 1) := by decide +kernel
theorem dX5_joinLine_13 : decode cX5_joinLine 13 = .ok (.getfield 69, 3) := by decide +kernel
theorem dX5_joinLine_16 : decode cX5_joinLine 16 = .ok (.iload_n 3, 1) := by decide +kernel
theorem dX5_joinLine_17 : decode cX5_joinLine 17 = .ok (.iaload, 1) := by decide +kernel
theorem dX5_joinLine_18 : decode cX5_joinLine 18 = .ok (.tableswitch 273 2 23 #[119, 158, 179, 273, 273, 200, 231, 243, 273, 273, 273, 273, 273, 273, 273, 273, 273, 273, 273, 273, 273, 102], 102) := by decide +kernel
theorem dX5_joinLine_120 : decode cX5_joinLine 120 = .ok (.aload_n 0, 1) := by decide +kernel
theorem dX5_joinLine_121 : decode cX5_joinLine 121 = .ok (.iload 4, 2) := by decide +kernel
theorem dX5_joinLine_123 : decode cX5_joinLine 123 = .ok (.aload_n 1, 1) := by decide +kernel
theorem dX5_joinLine_124 : decode cX5_joinLine 124 = .ok (.iload_n 2, 1) := by decide +kernel
theorem dX5_joinLine_125 : decode cX5_joinLine 125 = .ok (.iload_n 3, 1) := by decide +kernel
theorem dX5_joinLine_126 : decode cX5_joinLine 126 = .ok (.iconst 0, 1) := by decide +kernel
theorem dX5_joinLine_127 : decode cX5_joinLine 127 = .ok (.invokestatic 72, 3) := by decide +kernel
theorem dX5_joinLine_130 : decode cX5_joinLine 130 = .ok (.iconst 0, 1) := by decide +kernel
theorem dX5_joinLine_131 : decode cX5_joinLine 131 = .ok (.invokevirtual 76, 3) := by decide +kernel
theorem dX5_joinLine_134 : decode cX5_joinLine 134 = .ok (.goto 157, 3) := by decide +kernel
theorem dX5_joinLine_137 : decode cX5_joinLine 137 = .ok (.aload_n 0, 1) := by decide +kernel
theorem dX5_joinLine_138 : decode cX5_joinLine 138 = .ok (.aload_n 0, 1) := by decide +kernel
theorem dX5_joinLine_139 : decode cX5_joinLine 139 = .ok (.iload 4, 2) := by decide +kernel
theorem dX5_joinLine_141 : decode cX5_joinLine 141 = .ok (.invokevirtual 80, 3) := by decide +kernel
theorem dX5_joinLine_144 : decode cX5_joinLine 144 = .ok (.aload_n 1, 1) := by decide +kernel
theorem dX5_joinLine_145 : decode cX5_joinLine 145 = .ok (.iload_n 2, 1) := by decide +kernel
theorem dX5_joinLine_146 : decode cX5_joinLine 146 = .ok (.iload_n 3, 1) := by decide +kernel
theorem dX5_joinLine_147 : decode cX5_joinLine 147 = .ok (.iconst 0, 1) := by decide +kernel
theorem dX5_joinLine_148 : decode cX5_joinLine 148 = .ok (.invokestatic 72, 3) := by decide +kernel
theorem dX5_joinLine_151 : decode cX5_joinLine 151 = .ok (.iconst 0, 1) := by decide +kernel
theorem dX5_joinLine_152 : decode cX5_joinLine 152 = .ok (.invokevirtual 76, 3) := by decide +kernel
theorem dX5_joinLine_155 : decode cX5_joinLine 155 = .ok (.aload_n 0, 1) := by decide +kernel
theorem dX5_joinLine_156 : decode cX5_joinLine 156 = .ok (.aload_n 0, 1) := by decide +kernel
theorem dX5_joinLine_157 : decode cX5_joinLine 157 = .ok (.iload 4, 2) := by decide +kernel
theorem dX5_joinLine_159 : decode cX5_joinLine 159 = .ok (.invokevirtual 84, 3) := by decide +kernel
theorem dX5_joinLine_162 : decode cX5_joinLine 162 = .ok (.aload_n 1, 1) := by decide +kernel
theorem dX5_joinLine_163 : decode cX5_joinLine 163 = .ok (.iload_n 2, 1) := by decide +kernel
theorem dX5_joinLine_164 : decode cX5_joinLine 164 = .ok (.iload_n 3, 1) := by decide +kernel
theorem dX5_joinLine_165 : decode cX5_joinLine 165 = .ok (.iconst 1, 1) := by decide +kernel
theorem dX5_joinLine_166 : decode cX5_joinLine 166 = .ok (.invokestatic 72, 3) := by decide +kernel
theorem dX5_joinLine_169 : decode cX5_joinLine 169 = .ok (.iconst 0, 1) := by decide +kernel
theorem dX5_joinLine_170 : decode cX5_joinLine 170 = .ok (.invokevirtual 76, 3) := by decide +kernel
theorem dX5_joinLine_173 : decode cX5_joinLine 173 = .ok (.goto 118, 3) := by decide +kernel
theorem dX5_joinLine_176 : decode cX5_joinLine 176 = .ok (.aload_n 0, 1) := by decide +kernel
theorem dX5_joinLine_177 : decode cX5_joinLine 177 = .ok (.aload_n 0, 1) := by decide +kernel
theorem dX5_joinLine_178 : decode cX5_joinLine 178 = .ok (.aload_n 1, 1) := by decide +kernel
theorem dX5_joinLine_179 : decode cX5_joinLine 179 = .ok (.iload_n 2, 1) := by decide +kernel
theorem dX5_joinLine_180 : decode cX5_joinLine 180 = .ok (.iload_n 3, 1) := by decide +kernel
theorem dX5_joinLine_181 : decode cX5_joinLine 181 = .ok (.iconst 0, 1) := by decide +kernel
theorem dX5_joinLine_182 : decode cX5_joinLine 182 = .ok (.invokestatic 72, 3) := by decide +kernel
theorem dX5_joinLine_185 : decode cX5_joinLine 185 = .ok (.invokevirtual 80, 3) := by decide +kernel
theorem dX5_joinLine_188 : decode cX5_joinLine 188 = .ok (.iload 4, 2) := by decide +kernel
theorem dX5_joinLine_190 : decode cX5_joinLine 190 = .ok (.iconst 0, 1) := by decide +kernel
theorem dX5_joinLine_191 : decode cX5_joinLine 191 = .ok (.invokevirtual 76, 3) := by decide +kernel
theorem dX5_joinLine_194 : decode cX5_joinLine 194 = .ok (.goto 97, 3) := by decide +kernel
theorem dX5_joinLine_197 : decode cX5_joinLine 197 = .ok (.aload_n 0, 1) := by decide +kernel
theorem dX5_joinLine_198 : decode cX5_joinLine 198 = .ok (.aload_n 0, 1) := by decide +kernel
theorem dX5_joinLine_199 : decode cX5_joinLine 199 = .ok (.aload_n 1, 1) := by decide +kernel
theorem dX5_joinLine_200 : decode cX5_joinLine 200 = .ok (.iload_n 2, 1) := by decide +kernel
theorem dX5_joinLine_201 : decode cX5_joinLine 201 = .ok (.iload_n 3, 1) := by decide +kernel
theorem dX5_joinLine_202 : decode cX5_joinLine 202 = .ok (.iconst 0, 1) := by decide +kernel
theorem dX5_joinLine_203 : decode cX5_joinLine 203 = .ok (.invokestatic 72, 3) := by decide +kernel
theorem dX5_joinLine_206 : decode cX5_joinLine 206 = .ok (.invokevirtual 84, 3) := by decide +kernel
theorem dX5_joinLine_209 : decode cX5_joinLine 209 = .ok (.iload 4, 2) := by decide +kernel
theorem dX5_joinLine_211 : decode cX5_joinLine 211 = .ok (.iconst 0, 1) := by decide +kernel
theorem dX5_joinLine_212 : decode cX5_joinLine 212 = .ok (.invokevirtual 76, 3) := by decide +kernel
theorem dX5_joinLine_215 : decode cX5_joinLine 215 = .ok (.goto 76, 3) := by decide +kernel
theorem dX5_joinLine_218 : decode cX5_joinLine 218 = .ok (.aload_n 0, 1) := by decide +kernel
theorem dX5_joinLine_219 : decode cX5_joinLine 219 = .ok (.iload 4, 2) := by decide +kernel
theorem dX5_joinLine_221 : decode cX5_joinLine 221 = .ok (.aload_n 1, 1) := by decide +kernel
theorem dX5_joinLine_222 : decode cX5_joinLine 222 = .ok (.iload_n 2, 1) := by decide +kernel
theorem dX5_joinLine_223 : decode cX5_joinLine 223 = .ok (.iload_n 3, 1) := by decide +kernel
theorem dX5_joinLine_224 : decode cX5_joinLine 224 = .ok (.iconst 1, 1) := by decide +kernel
theorem dX5_joinLine_225 : decode cX5_joinLine 225 = .ok (.invokestatic 72, 3) := by decide +kernel
theorem dX5_joinLine_228 : decode cX5_joinLine 228 = .ok (.iconst 0, 1) := by decide +kernel
theorem dX5_joinLine_229 : decode cX5_joinLine 229 = .ok (.invokevirtual 76, 3) := by decide +kernel
theorem dX5_joinLine_232 : decode cX5_joinLine 232 = .ok (.aload_n 0, 1) := by decide +kernel
theorem dX5_joinLine_233 : decode cX5_joinLine 233 = .ok (.iload 4, 2) := by decide +kernel
theorem dX5_joinLine_235 : decode cX5_joinLine 235 = .ok (.aload_n 1, 1) := by decide +kernel
theorem dX5_joinLine_236 : decode cX5_joinLine 236 = .ok (.iload_n 2, 1) := by decide +kernel
theorem dX5_joinLine_237 : decode cX5_joinLine 237 = .ok (.iload_n 3, 1) := by decide +kernel
theorem dX5_joinLine_238 : decode cX5_joinLine 238 = .ok (.iconst 2, 1) := by decide +kernel
theorem dX5_joinLine_239 : decode cX5_joinLine 239 = .ok (.invokestatic 72, 3) := by decide +kernel
theorem dX5_joinLine_242 : decode cX5_joinLine 242 = .ok (.iconst 0, 1) := by decide +kernel
theorem dX5_joinLine_243 : decode cX5_joinLine 243 = .ok (.invokevirtual 76, 3) := by decide +kernel
theorem dX5_joinLine_246 : decode cX5_joinLine 246 = .ok (.goto 45, 3) := by decide +kernel
theorem dX5_joinLine_249 : decode cX5_joinLine 249 = .ok (.aload_n 0, 1) := by decide +kernel
theorem dX5_joinLine_250 : decode cX5_joinLine 250 = .ok (.aload_n 1, 1) := by decide +kernel
theorem dX5_joinLine_251 : decode cX5_joinLine 251 = .ok (.iload_n 2, 1) := by decide +kernel
theorem dX5_joinLine_252 : decode cX5_joinLine 252 = .ok (.iload_n 3, 1) := by decide +kernel
theorem dX5_joinLine_253 : decode cX5_joinLine 253 = .ok (.iload 4, 2) := by decide +kernel
theorem dX5_joinLine_255 : decode cX5_joinLine 255 = .ok (.invokevirtual 87, 3) := by decide +kernel
theorem dX5_joinLine_258 : decode cX5_joinLine 258 = .ok (.goto 33, 3) := by decide +kernel
theorem dX5_joinLine_261 : decode cX5_joinLine 261 = .ok (.aload_n 0, 1) := by decide +kernel
theorem dX5_joinLine_262 : decode cX5_joinLine 262 = .ok (.aload_n 1, 1) := by decide +kernel
theorem dX5_joinLine_263 : decode cX5_joinLine 263 = .ok (.iload_n 2, 1) := by decide +kernel
theorem dX5_joinLine_264 : decode cX5_joinLine 264 = .ok (.iload_n 3, 1) := by decide +kernel
theorem dX5_joinLine_265 : decode cX5_joinLine 265 = .ok (.iload 4, 2) := by decide +kernel
theorem dX5_joinLine_267 : decode cX5_joinLine 267 = .ok (.invokevirtual 87, 3) := by decide +kernel
theorem dX5_joinLine_270 : decode cX5_joinLine 270 = .ok (.aload_n 0, 1) := by decide +kernel
theorem dX5_joinLine_271 : decode cX5_joinLine 271 = .ok (.iload 4, 2) := by decide +kernel
theorem dX5_joinLine_273 : decode cX5_joinLine 273 = .ok (.aload_n 1, 1) := by decide +kernel
theorem dX5_joinLine_274 : decode cX5_joinLine 274 = .ok (.iload_n 2, 1) := by decide +kernel
theorem dX5_joinLine_275 : decode cX5_joinLine 275 = .ok (.iload_n 3, 1) := by decide +kernel
theorem dX5_joinLine_276 : decode cX5_joinLine 276 = .ok (.aload_n 1, 1) := by decide +kernel
theorem dX5_joinLine_277 : decode cX5_joinLine 277 = .ok (.iload_n 3, 1) := by decide +kernel
theorem dX5_joinLine_278 : decode cX5_joinLine 278 = .ok (.invokevirtual 91, 3) := by decide +kernel
theorem dX5_joinLine_281 : decode cX5_joinLine 281 = .ok (.invokestatic 72, 3) := by decide +kernel
theorem dX5_joinLine_284 : decode cX5_joinLine 284 = .ok (.iconst 0, 1) := by decide +kernel
theorem dX5_joinLine_285 : decode cX5_joinLine 285 = .ok (.invokevirtual 76, 3) := by decide +kernel
theorem dX5_joinLine_288 : decode cX5_joinLine 288 = .ok (.goto 3, 3) := by decide +kernel
theorem dX5_joinLine_291 : decode cX5_joinLine 291 = .ok (.return_, 1) := by decide +kernel
theorem dX5_joinCall_0 : decode cX5_joinCall 0 = .ok (.aload_n 1, 1) := by decide +kernel
theorem dX5_joinCall_1 : decode cX5_joinCall 1 = .ok (.getfield 94, 3) := by decide +kernel
theorem dX5_joinCall_4 : decode cX5_joinCall 4 = .ok (.iload_n 3, 1) := by decide +kernel
theorem dX5_joinCall_5 : decode cX5_joinCall 5 = .ok (.iaload, 1) := by decide +kernel
theorem dX5_joinCall_6 : decode cX5_joinCall 6 = .ok (.istore 5, 2) := by decide +kernel
theorem dX5_joinCall_8 : decode cX5_joinCall 8 = .ok (.iconst 0, 1) := by decide +kernel
theorem dX5_joinCall_9 : decode cX5_joinCall 9 = .ok (.istore 6, 2) := by decide +kernel
theorem dX5_joinCall_11 : decode cX5_joinCall 11 = .ok (.iload 6, 2) := by decide +kernel
theorem dX5_joinCall_13 : decode cX5_joinCall 13 = .ok (.aload_n 1, 1) := by decide +kernel
theorem dX5_joinCall_14 : decode cX5_joinCall 14 = .ok (.getfield 97, 3) := by decide +kernel
theorem dX5_joinCall_17 : decode cX5_joinCall 17 = .ok (.iload 5, 2) := by decide +kernel
theorem dX5_joinCall_19 : decode cX5_joinCall 19 = .ok (.iaload, 1) := by decide +kernel
theorem dX5_joinCall_20 : decode cX5_joinCall 20 = .ok (.if_icmp .ge 29, 3) := by decide +kernel
theorem dX5_joinCall_23 : decode cX5_joinCall 23 = .ok (.aload_n 0, 1) := by decide +kernel
theorem dX5_joinCall_24 : decode cX5_joinCall 24 = .ok (.iload 5, 2) := by decide +kernel
theorem dX5_joinCall_26 : decode cX5_joinCall 26 = .ok (.iload 6, 2) := by decide +kernel
theorem dX5_joinCall_28 : decode cX5_joinCall 28 = .ok (.invokestatic 63, 3) := by decide +kernel
theorem dX5_joinCall_31 : decode cX5_joinCall 31 = .ok (.aload_n 1, 1) := by decide +kernel
theorem dX5_joinCall_32 : decode cX5_joinCall 32 = .ok (.iload_n 2, 1) := by decide +kernel
theorem dX5_joinCall_33 : decode cX5_joinCall 33 = .ok (.iload_n 3, 1) := by decide +kernel
theorem dX5_joinCall_34 : decode cX5_joinCall 34 = .ok (.iload 6, 2) := by decide +kernel
theorem dX5_joinCall_36 : decode cX5_joinCall 36 = .ok (.invokestatic 72, 3) := by decide +kernel
theorem dX5_joinCall_39 : decode cX5_joinCall 39 = .ok (.iconst 0, 1) := by decide +kernel
theorem dX5_joinCall_40 : decode cX5_joinCall 40 = .ok (.invokevirtual 76, 3) := by decide +kernel
theorem dX5_joinCall_43 : decode cX5_joinCall 43 = .ok (.iinc 6 1, 3) := by decide +kernel
theorem dX5_joinCall_46 : decode cX5_joinCall 46 = .ok (.goto (-35), 3) := by decide +kernel
theorem dX5_joinCall_49 : decode cX5_joinCall 49 = .ok (.aload_n 0, 1) := by decide +kernel
theorem dX5_joinCall_50 : decode cX5_joinCall 50 = .ok (.iload 5, 2) := by decide +kernel
theorem dX5_joinCall_52 : decode cX5_joinCall 52 = .ok (.aload_n 1, 1) := by decide +kernel
theorem dX5_joinCall_53 : decode cX5_joinCall 53 = .ok (.iload 5, 2) := by decide +kernel
theorem dX5_joinCall_55 : decode cX5_joinCall 55 = .ok (.invokevirtual 100, 3) := by decide +kernel
theorem dX5_joinCall_58 : decode cX5_joinCall 58 = .ok (.invokestatic 63, 3) := by decide +kernel
theorem dX5_joinCall_61 : decode cX5_joinCall 61 = .ok (.iload 4, 2) := by decide +kernel
theorem dX5_joinCall_63 : decode cX5_joinCall 63 = .ok (.iconst 0, 1) := by decide +kernel
theorem dX5_joinCall_64 : decode cX5_joinCall 64 = .ok (.invokevirtual 76, 3) := by decide +kernel
theorem dX5_joinCall_67 : decode cX5_joinCall 67 = .ok (.return_, 1) := by decide +kernel
theorem dX5_leftOf_0 : decode cX5_leftOf 0 = .ok (.aload_n 0, 1) := by decide +kernel
theorem dX5_leftOf_1 : decode cX5_leftOf 1 = .ok (.getfield 15, 3) := by decide +kernel
theorem dX5_leftOf_4 : decode cX5_leftOf 4 = .ok (.aload_n 0, 1) := by decide +kernel
theorem dX5_leftOf_5 : decode cX5_leftOf 5 = .ok (.iload_n 1, 1) := by decide +kernel
theorem dX5_leftOf_6 : decode cX5_leftOf 6 = .ok (.invokevirtual 103, 3) := by decide +kernel
theorem dX5_leftOf_9 : decode cX5_leftOf 9 = .ok (.iaload, 1) := by decide +kernel
theorem dX5_leftOf_10 : decode cX5_leftOf 10 = .ok (.ireturn, 1) := by decide +kernel
theorem dX5_rightOf_0 : decode cX5_rightOf 0 = .ok (.aload_n 0, 1) := by decide +kernel
theorem dX5_rightOf_1 : decode cX5_rightOf 1 = .ok (.getfield 18, 3) := by decide +kernel
theorem dX5_rightOf_4 : decode cX5_rightOf 4 = .ok (.aload_n 0, 1) := by decide +kernel
theorem dX5_rightOf_5 : decode cX5_rightOf 5 = .ok (.iload_n 1, 1) := by decide +kernel
theorem dX5_rightOf_6 : decode cX5_rightOf 6 = .ok (.invokevirtual 103, 3) := by decide +kernel
theorem dX5_rightOf_9 : decode cX5_rightOf 9 = .ok (.iaload, 1) := by decide +kernel
theorem dX5_rightOf_10 : decode cX5_rightOf 10 = .ok (.ireturn, 1) := by decide +kernel
theorem dX5_rootWithRegion_0 : decode cX5_rootWithRegion 0 = .ok (.aload_n 0, 1) := by decide +kernel
theorem dX5_rootWithRegion_1 : decode cX5_rootWithRegion 1 = .ok (.iload_n 1, 1) := by decide +kernel
theorem dX5_rootWithRegion_2 : decode cX5_rootWithRegion 2 = .ok (.invokevirtual 106, 3) := by decide +kernel
theorem dX5_rootWithRegion_5 : decode cX5_rootWithRegion 5 = .ok (.istore_n 2, 1) := by decide +kernel
theorem dX5_rootWithRegion_6 : decode cX5_rootWithRegion 6 = .ok (.aload_n 0, 1) := by decide +kernel
theorem dX5_rootWithRegion_7 : decode cX5_rootWithRegion 7 = .ok (.getfield 15, 3) := by decide +kernel
theorem dX5_rootWithRegion_10 : decode cX5_rootWithRegion 10 = .ok (.iload_n 2, 1) := by decide +kernel
theorem dX5_rootWithRegion_11 : decode cX5_rootWithRegion 11 = .ok (.iaload, 1) := by decide +kernel
theorem dX5_rootWithRegion_12 : decode cX5_rootWithRegion 12 = .ok (.iconst (-1), 1) := by decide +kernel
theorem dX5_rootWithRegion_13 : decode cX5_rootWithRegion 13 = .ok (.if_icmp .ne 47, 3) := by decide +kernel
theorem dX5_rootWithRegion_16 : decode cX5_rootWithRegion 16 = .ok (.aload_n 0, 1) := by decide +kernel
theorem dX5_rootWithRegion_17 : decode cX5_rootWithRegion 17 = .ok (.getfield 24, 3) := by decide +kernel
theorem dX5_rootWithRegion_20 : decode cX5_rootWithRegion 20 = .ok (.iconst 2, 1) := by decide +kernel
theorem dX5_rootWithRegion_21 : decode cX5_rootWithRegion 21 = .ok (.iadd, 1) := by decide +kernel
theorem dX5_rootWithRegion_22 : decode cX5_rootWithRegion 22 = .ok (.sipush 183, 3) := by decide +kernel
theorem dX5_rootWithRegion_25 : decode cX5_rootWithRegion 25 = .ok (.if_icmp .gt 35, 3) := by decide +kernel
theorem dX5_rootWithRegion_28 : decode cX5_rootWithRegion 28 = .ok (.aload_n 0, 1) := by decide +kernel
theorem dX5_rootWithRegion_29 : decode cX5_rootWithRegion 29 = .ok (.getfield 15, 3) := by decide +kernel
theorem dX5_rootWithRegion_32 : decode cX5_rootWithRegion 32 = .ok (.iload_n 2, 1) := by decide +kernel
theorem dX5_rootWithRegion_33 : decode cX5_rootWithRegion 33 = .ok (.aload_n 0, 1) := by decide +kernel
theorem dX5_rootWithRegion_34 : decode cX5_rootWithRegion 34 = .ok (.getfield 24, 3) := by decide +kernel
theorem dX5_rootWithRegion_37 : decode cX5_rootWithRegion 37 = .ok (.iastore, 1) := by decide +kernel
theorem dX5_rootWithRegion_38 : decode cX5_rootWithRegion 38 = .ok (.aload_n 0, 1) := by decide +kernel
theorem dX5_rootWithRegion_39 : decode cX5_rootWithRegion 39 = .ok (.getfield 18, 3) := by decide +kernel
theorem dX5_rootWithRegion_42 : decode cX5_rootWithRegion 42 = .ok (.iload_n 2, 1) := by decide +kernel
theorem dX5_rootWithRegion_43 : decode cX5_rootWithRegion 43 = .ok (.aload_n 0, 1) := by decide +kernel
theorem dX5_rootWithRegion_44 : decode cX5_rootWithRegion 44 = .ok (.getfield 24, 3) := by decide +kernel
theorem dX5_rootWithRegion_47 : decode cX5_rootWithRegion 47 = .ok (.iconst 1, 1) := by decide +kernel
theorem dX5_rootWithRegion_48 : decode cX5_rootWithRegion 48 = .ok (.iadd, 1) := by decide +kernel
theorem dX5_rootWithRegion_49 : decode cX5_rootWithRegion 49 = .ok (.iastore, 1) := by decide +kernel
theorem dX5_rootWithRegion_50 : decode cX5_rootWithRegion 50 = .ok (.aload_n 0, 1) := by decide +kernel
theorem dX5_rootWithRegion_51 : decode cX5_rootWithRegion 51 = .ok (.dup, 1) := by decide +kernel
theorem dX5_rootWithRegion_52 : decode cX5_rootWithRegion 52 = .ok (.getfield 24, 3) := by decide +kernel
theorem dX5_rootWithRegion_55 : decode cX5_rootWithRegion 55 = .ok (.iconst 2, 1) := by decide +kernel
theorem dX5_rootWithRegion_56 : decode cX5_rootWithRegion 56 = .ok (.iadd, 1) := by decide +kernel
theorem dX5_rootWithRegion_57 : decode cX5_rootWithRegion 57 = .ok (.putfield 24, 3) := by decide +kernel
theorem dX5_rootWithRegion_60 : decode cX5_rootWithRegion 60 = .ok (.iload_n 2, 1) := by decide +kernel
theorem dX5_rootWithRegion_61 : decode cX5_rootWithRegion 61 = .ok (.ireturn, 1) := by decide +kernel
theorem dX5_join_0 : decode cX5_join 0 = .ok (.iload_n 1, 1) := by decide +kernel
theorem dX5_join_1 : decode cX5_join 1 = .ok (.iconst (-1), 1) := by decide +kernel
theorem dX5_join_2 : decode cX5_join 2 = .ok (.if_icmp .eq 8, 3) := by decide +kernel
theorem dX5_join_5 : decode cX5_join 5 = .ok (.iload_n 2, 1) := by decide +kernel
theorem dX5_join_6 : decode cX5_join 6 = .ok (.iconst (-1), 1) := by decide +kernel
theorem dX5_join_7 : decode cX5_join 7 = .ok (.if_icmp .ne 4, 3) := by decide +kernel
theorem dX5_join_10 : decode cX5_join 10 = .ok (.return_, 1) := by decide +kernel
theorem dX5_join_11 : decode cX5_join 11 = .ok (.aload_n 0, 1) := by decide +kernel
theorem dX5_join_12 : decode cX5_join 12 = .ok (.iload_n 1, 1) := by decide +kernel
theorem dX5_join_13 : decode cX5_join 13 = .ok (.invokevirtual 106, 3) := by decide +kernel
theorem dX5_join_16 : decode cX5_join 16 = .ok (.istore 4, 2) := by decide +kernel
theorem dX5_join_18 : decode cX5_join 18 = .ok (.aload_n 0, 1) := by decide +kernel
theorem dX5_join_19 : decode cX5_join 19 = .ok (.iload_n 2, 1) := by decide +kernel
theorem dX5_join_20 : decode cX5_join 20 = .ok (.invokevirtual 106, 3) := by decide +kernel
theorem dX5_join_23 : decode cX5_join 23 = .ok (.istore 5, 2) := by decide +kernel
theorem dX5_join_25 : decode cX5_join 25 = .ok (.iload 4, 2) := by decide +kernel
theorem dX5_join_27 : decode cX5_join 27 = .ok (.iload 5, 2) := by decide +kernel
theorem dX5_join_29 : decode cX5_join 29 = .ok (.if_icmp .eq 9, 3) := by decide +kernel
theorem dX5_join_32 : decode cX5_join 32 = .ok (.iload_n 3, 1) := by decide +kernel
theorem dX5_join_33 : decode cX5_join 33 = .ok (.bipush 25, 2) := by decide +kernel
theorem dX5_join_35 : decode cX5_join 35 = .ok (.if_icmp .le 4, 3) := by decide +kernel
theorem dX5_join_38 : decode cX5_join 38 = .ok (.return_, 1) := by decide +kernel
theorem dX5_join_39 : decode cX5_join 39 = .ok (.aload_n 0, 1) := by decide +kernel
theorem dX5_join_40 : decode cX5_join 40 = .ok (.getfield 11, 3) := by decide +kernel
theorem dX5_join_43 : decode cX5_join 43 = .ok (.iload 5, 2) := by decide +kernel
theorem dX5_join_45 : decode cX5_join 45 = .ok (.iload 4, 2) := by decide +kernel
theorem dX5_join_47 : decode cX5_join 47 = .ok (.iastore, 1) := by decide +kernel
theorem dX5_join_48 : decode cX5_join 48 = .ok (.aload_n 0, 1) := by decide +kernel
theorem dX5_join_49 : decode cX5_join 49 = .ok (.getfield 15, 3) := by decide +kernel
theorem dX5_join_52 : decode cX5_join 52 = .ok (.iload 5, 2) := by decide +kernel
theorem dX5_join_54 : decode cX5_join 54 = .ok (.iaload, 1) := by decide +kernel
theorem dX5_join_55 : decode cX5_join 55 = .ok (.istore 6, 2) := by decide +kernel
theorem dX5_join_57 : decode cX5_join 57 = .ok (.aload_n 0, 1) := by decide +kernel
theorem dX5_join_58 : decode cX5_join 58 = .ok (.getfield 18, 3) := by decide +kernel
theorem dX5_join_61 : decode cX5_join 61 = .ok (.iload 5, 2) := by decide +kernel
theorem dX5_join_63 : decode cX5_join 63 = .ok (.iaload, 1) := by decide +kernel
theorem dX5_join_64 : decode cX5_join 64 = .ok (.istore 7, 2) := by decide +kernel
theorem dX5_join_66 : decode cX5_join 66 = .ok (.aload_n 0, 1) := by decide +kernel
theorem dX5_join_67 : decode cX5_join 67 = .ok (.getfield 15, 3) := by decide +kernel
theorem dX5_join_70 : decode cX5_join 70 = .ok (.iload 4, 2) := by decide +kernel
theorem dX5_join_72 : decode cX5_join 72 = .ok (.iaload, 1) := by decide +kernel
theorem dX5_join_73 : decode cX5_join 73 = .ok (.iconst (-1), 1) := by decide +kernel
theorem dX5_join_74 : decode cX5_join 74 = .ok (.if_icmp .ne 24, 3) := by decide +kernel
theorem dX5_join_77 : decode cX5_join 77 = .ok (.aload_n 0, 1) := by decide +kernel
theorem dX5_join_78 : decode cX5_join 78 = .ok (.getfield 15, 3) := by decide +kernel
theorem dX5_join_81 : decode cX5_join 81 = .ok (.iload 4, 2) := by decide +kernel
theorem dX5_join_83 : decode cX5_join 83 = .ok (.iload 6, 2) := by decide +kernel
theorem dX5_join_85 : decode cX5_join 85 = .ok (.iastore, 1) := by decide +kernel
theorem dX5_join_86 : decode cX5_join 86 = .ok (.aload_n 0, 1) := by decide +kernel
theorem dX5_join_87 : decode cX5_join 87 = .ok (.getfield 18, 3) := by decide +kernel
theorem dX5_join_90 : decode cX5_join 90 = .ok (.iload 4, 2) := by decide +kernel
theorem dX5_join_92 : decode cX5_join 92 = .ok (.iload 7, 2) := by decide +kernel
theorem dX5_join_94 : decode cX5_join 94 = .ok (.iastore, 1) := by decide +kernel
theorem dX5_join_95 : decode cX5_join 95 = .ok (.goto 45, 3) := by decide +kernel
theorem dX5_join_98 : decode cX5_join 98 = .ok (.iload 6, 2) := by decide +kernel
theorem dX5_join_100 : decode cX5_join 100 = .ok (.iconst (-1), 1) := by decide +kernel
theorem dX5_join_101 : decode cX5_join 101 = .ok (.if_icmp .eq 39, 3) := by decide +kernel
theorem dX5_join_104 : decode cX5_join 104 = .ok (.aload_n 0, 1) := by decide +kernel
theorem dX5_join_105 : decode cX5_join 105 = .ok (.getfield 18, 3) := by decide +kernel
theorem dX5_join_108 : decode cX5_join 108 = .ok (.iload 4, 2) := by decide +kernel
theorem dX5_join_110 : decode cX5_join 110 = .ok (.iaload, 1) := by decide +kernel
theorem dX5_join_111 : decode cX5_join 111 = .ok (.istore 8, 2) := by decide +kernel
theorem dX5_join_113 : decode cX5_join 113 = .ok (.aload_n 0, 1) := by decide +kernel
theorem dX5_join_114 : decode cX5_join 114 = .ok (.aload_n 0, 1) := by decide +kernel
theorem dX5_join_115 : decode cX5_join 115 = .ok (.getfield 15, 3) := by decide +kernel
theorem dX5_join_118 : decode cX5_join 118 = .ok (.iload 4, 2) := by decide +kernel
theorem dX5_join_120 : decode cX5_join 120 = .ok (.iaload, 1) := by decide +kernel
theorem dX5_join_121 : decode cX5_join 121 = .ok (.iload 6, 2) := by decide +kernel
theorem dX5_join_123 : decode cX5_join 123 = .ok (.iload_n 3, 1) := by decide +kernel
theorem dX5_join_124 : decode cX5_join 124 = .ok (.iconst 1, 1) := by decide +kernel
theorem dX5_join_125 : decode cX5_join 125 = .ok (.iadd, 1) := by decide +kernel
theorem dX5_join_126 : decode cX5_join 126 = .ok (.invokevirtual 76, 3) := by decide +kernel
theorem dX5_join_129 : decode cX5_join 129 = .ok (.aload_n 0, 1) := by decide +kernel
theorem dX5_join_130 : decode cX5_join 130 = .ok (.iload 8, 2) := by decide +kernel
theorem dX5_join_132 : decode cX5_join 132 = .ok (.iload 7, 2) := by decide +kernel
theorem dX5_join_134 : decode cX5_join 134 = .ok (.iload_n 3, 1) := by decide +kernel
theorem dX5_join_135 : decode cX5_join 135 = .ok (.iconst 1, 1) := by decide +kernel
theorem dX5_join_136 : decode cX5_join 136 = .ok (.iadd, 1) := by decide +kernel
theorem dX5_join_137 : decode cX5_join 137 = .ok (.invokevirtual 76, 3) := by decide +kernel
theorem dX5_join_140 : decode cX5_join 140 = .ok (.return_, 1) := by decide +kernel
theorem dX5_numberAll_0 : decode cX5_numberAll 0 = .ok (.aload_n 1, 1) := by decide +kernel
theorem dX5_numberAll_1 : decode cX5_numberAll 1 = .ok (.getfield 109, 3) := by decide +kernel
theorem dX5_numberAll_4 : decode cX5_numberAll 4 = .ok (.iconst 0, 1) := by decide +kernel
theorem dX5_numberAll_5 : decode cX5_numberAll 5 = .ok (.putfield 113, 3) := by decide +kernel
theorem dX5_numberAll_8 : decode cX5_numberAll 8 = .ok (.iconst 0, 1) := by decide +kernel
theorem dX5_numberAll_9 : decode cX5_numberAll 9 = .ok (.istore_n 2, 1) := by decide +kernel
theorem dX5_numberAll_10 : decode cX5_numberAll 10 = .ok (.iload_n 2, 1) := by decide +kernel
theorem dX5_numberAll_11 : decode cX5_numberAll 11 = .ok (.aload_n 1, 1) := by decide +kernel
theorem dX5_numberAll_12 : decode cX5_numberAll 12 = .ok (.getfield 31, 3) := by decide +kernel
theorem dX5_numberAll_15 : decode cX5_numberAll 15 = .ok (.if_icmp .ge 40, 3) := by decide +kernel
theorem dX5_numberAll_18 : decode cX5_numberAll 18 = .ok (.iconst 0, 1) := by decide +kernel
theorem dX5_numberAll_19 : decode cX5_numberAll 19 = .ok (.istore_n 3, 1) := by decide +kernel
theorem dX5_numberAll_20 : decode cX5_numberAll 20 = .ok (.iload_n 3, 1) := by decide +kernel
theorem dX5_numberAll_21 : decode cX5_numberAll 21 = .ok (.aload_n 1, 1) := by decide +kernel
theorem dX5_numberAll_22 : decode cX5_numberAll 22 = .ok (.iload_n 2, 1) := by decide +kernel
theorem dX5_numberAll_23 : decode cX5_numberAll 23 = .ok (.invokevirtual 118, 3) := by decide +kernel
theorem dX5_numberAll_26 : decode cX5_numberAll 26 = .ok (.if_icmp .ge 23, 3) := by decide +kernel
theorem dX5_numberAll_29 : decode cX5_numberAll 29 = .ok (.aload_n 0, 1) := by decide +kernel
theorem dX5_numberAll_30 : decode cX5_numberAll 30 = .ok (.iload_n 2, 1) := by decide +kernel
theorem dX5_numberAll_31 : decode cX5_numberAll 31 = .ok (.iload_n 3, 1) := by decide +kernel
theorem dX5_numberAll_32 : decode cX5_numberAll 32 = .ok (.invokestatic 63, 3) := by decide +kernel
theorem dX5_numberAll_35 : decode cX5_numberAll 35 = .ok (.aload_n 1, 1) := by decide +kernel
theorem dX5_numberAll_36 : decode cX5_numberAll 36 = .ok (.getfield 109, 3) := by decide +kernel
theorem dX5_numberAll_39 : decode cX5_numberAll 39 = .ok (.iconst 0, 1) := by decide +kernel
theorem dX5_numberAll_40 : decode cX5_numberAll 40 = .ok (.invokevirtual 121, 3) := by decide +kernel
theorem dX5_numberAll_43 : decode cX5_numberAll 43 = .ok (.iinc 3 1, 3) := by decide +kernel
theorem dX5_numberAll_46 : decode cX5_numberAll 46 = .ok (.goto (-26), 3) := by decide +kernel
theorem dX5_numberAll_49 : decode cX5_numberAll 49 = .ok (.iinc 2 1, 3) := by decide +kernel
theorem dX5_numberAll_52 : decode cX5_numberAll 52 = .ok (.goto (-42), 3) := by decide +kernel
theorem dX5_numberAll_55 : decode cX5_numberAll 55 = .ok (.return_, 1) := by decide +kernel
theorem dX5_numberFrom_0 : decode cX5_numberFrom 0 = .ok (.aload_n 0, 1) := by decide +kernel
theorem dX5_numberFrom_1 : decode cX5_numberFrom 1 = .ok (.iload_n 1, 1) := by decide +kernel
theorem dX5_numberFrom_2 : decode cX5_numberFrom 2 = .ok (.invokevirtual 106, 3) := by decide +kernel
theorem dX5_numberFrom_5 : decode cX5_numberFrom 5 = .ok (.istore 4, 2) := by decide +kernel
theorem dX5_numberFrom_7 : decode cX5_numberFrom 7 = .ok (.aload_n 0, 1) := by decide +kernel
theorem dX5_numberFrom_8 : decode cX5_numberFrom 8 = .ok (.getfield 15, 3) := by decide +kernel
theorem dX5_numberFrom_11 : decode cX5_numberFrom 11 = .ok (.iload 4, 2) := by decide +kernel
theorem dX5_numberFrom_13 : decode cX5_numberFrom 13 = .ok (.iaload, 1) := by decide +kernel
theorem dX5_numberFrom_14 : decode cX5_numberFrom 14 = .ok (.iconst (-1), 1) := by decide +kernel
theorem dX5_numberFrom_15 : decode cX5_numberFrom 15 = .ok (.if_icmp .eq 14, 3) := by decide +kernel
theorem dX5_numberFrom_18 : decode cX5_numberFrom 18 = .ok (.aload_n 0, 1) := by decide +kernel
theorem dX5_numberFrom_19 : decode cX5_numberFrom 19 = .ok (.getfield 21, 3) := by decide +kernel
theorem dX5_numberFrom_22 : decode cX5_numberFrom 22 = .ok (.iload 4, 2) := by decide +kernel
theorem dX5_numberFrom_24 : decode cX5_numberFrom 24 = .ok (.iaload, 1) := by decide +kernel
theorem dX5_numberFrom_25 : decode cX5_numberFrom 25 = .ok (.iconst (-1), 1) := by decide +kernel
theorem dX5_numberFrom_26 : decode cX5_numberFrom 26 = .ok (.if_icmp .eq 4, 3) := by decide +kernel
theorem dX5_numberFrom_29 : decode cX5_numberFrom 29 = .ok (.return_, 1) := by decide +kernel
theorem dX5_numberFrom_30 : decode cX5_numberFrom 30 = .ok (.iload_n 3, 1) := by decide +kernel
theorem dX5_numberFrom_31 : decode cX5_numberFrom 31 = .ok (.bipush 25, 2) := by decide +kernel
theorem dX5_numberFrom_33 : decode cX5_numberFrom 33 = .ok (.if_icmp .gt 12, 3) := by decide +kernel
theorem dX5_numberFrom_36 : decode cX5_numberFrom 36 = .ok (.aload_n 2, 1) := by decide +kernel
theorem dX5_numberFrom_37 : decode cX5_numberFrom 37 = .ok (.getfield 113, 3) := by decide +kernel
theorem dX5_numberFrom_40 : decode cX5_numberFrom 40 = .ok (.bipush 24, 2) := by decide +kernel
theorem dX5_numberFrom_42 : decode cX5_numberFrom 42 = .ok (.if_icmp .lt 4, 3) := by decide +kernel
theorem dX5_numberFrom_45 : decode cX5_numberFrom 45 = .ok (.return_, 1) := by decide +kernel
theorem dX5_numberFrom_46 : decode cX5_numberFrom 46 = .ok (.aload_n 0, 1) := by decide +kernel
theorem dX5_numberFrom_47 : decode cX5_numberFrom 47 = .ok (.getfield 21, 3) := by decide +kernel
theorem dX5_numberFrom_50 : decode cX5_numberFrom 50 = .ok (.iload 4, 2) := by decide +kernel
theorem dX5_numberFrom_52 : decode cX5_numberFrom 52 = .ok (.aload_n 2, 1) := by decide +kernel
theorem dX5_numberFrom_53 : decode cX5_numberFrom 53 = .ok (.getfield 113, 3) := by decide +kernel
theorem dX5_numberFrom_56 : decode cX5_numberFrom 56 = .ok (.iastore, 1) := by decide +kernel
theorem dX5_numberFrom_57 : decode cX5_numberFrom 57 = .ok (.aload_n 2, 1) := by decide +kernel
theorem dX5_numberFrom_58 : decode cX5_numberFrom 58 = .ok (.dup, 1) := by decide +kernel
theorem dX5_numberFrom_59 : decode cX5_numberFrom 59 = .ok (.getfield 113, 3) := by decide +kernel
theorem dX5_numberFrom_62 : decode cX5_numberFrom 62 = .ok (.iconst 1, 1) := by decide +kernel
theorem dX5_numberFrom_63 : decode cX5_numberFrom 63 = .ok (.iadd, 1) := by decide +kernel
theorem dX5_numberFrom_64 : decode cX5_numberFrom 64 = .ok (.putfield 113, 3) := by decide +kernel
theorem dX5_numberFrom_67 : decode cX5_numberFrom 67 = .ok (.aload_n 0, 1) := by decide +kernel
theorem dX5_numberFrom_68 : decode cX5_numberFrom 68 = .ok (.aload_n 0, 1) := by decide +kernel
theorem dX5_numberFrom_69 : decode cX5_numberFrom 69 = .ok (.getfield 15, 3) := by decide +kernel
theorem dX5_numberFrom_72 : decode cX5_numberFrom 72 = .ok (.iload 4, 2) := by decide +kernel
theorem dX5_numberFrom_74 : decode cX5_numberFrom 74 = .ok (.iaload, 1) := by decide +kernel
theorem dX5_numberFrom_75 : decode cX5_numberFrom 75 = .ok (.aload_n 2, 1) := by decide +kernel
theorem dX5_numberFrom_76 : decode cX5_numberFrom 76 = .ok (.iload_n 3, 1) := by decide +kernel
theorem dX5_numberFrom_77 : decode cX5_numberFrom 77 = .ok (.iconst 1, 1) := by decide +kernel
theorem dX5_numberFrom_78 : decode cX5_numberFrom 78 = .ok (.iadd, 1) := by decide +kernel
theorem dX5_numberFrom_79 : decode cX5_numberFrom 79 = .ok (.invokevirtual 121, 3) := by decide +kernel
theorem dX5_numberFrom_82 : decode cX5_numberFrom 82 = .ok (.aload_n 0, 1) := by decide +kernel
theorem dX5_numberFrom_83 : decode cX5_numberFrom 83 = .ok (.aload_n 0, 1) := by decide +kernel
theorem dX5_numberFrom_84 : decode cX5_numberFrom 84 = .ok (.getfield 18, 3) := by decide +kernel
theorem dX5_numberFrom_87 : decode cX5_numberFrom 87 = .ok (.iload 4, 2) := by decide +kernel
theorem dX5_numberFrom_89 : decode cX5_numberFrom 89 = .ok (.iaload, 1) := by decide +kernel
theorem dX5_numberFrom_90 : decode cX5_numberFrom 90 = .ok (.aload_n 2, 1) := by decide +kernel
theorem dX5_numberFrom_91 : decode cX5_numberFrom 91 = .ok (.iload_n 3, 1) := by decide +kernel
theorem dX5_numberFrom_92 : decode cX5_numberFrom 92 = .ok (.iconst 1, 1) := by decide +kernel
theorem dX5_numberFrom_93 : decode cX5_numberFrom 93 = .ok (.iadd, 1) := by decide +kernel
theorem dX5_numberFrom_94 : decode cX5_numberFrom 94 = .ok (.invokevirtual 121, 3) := by decide +kernel
theorem dX5_numberFrom_97 : decode cX5_numberFrom 97 = .ok (.return_, 1) := by decide +kernel
theorem dX5_tellAll_0 : decode cX5_tellAll 0 = .ok (.iconst 0, 1) := by decide +kernel
theorem dX5_tellAll_1 : decode cX5_tellAll 1 = .ok (.istore_n 2, 1) := by decide +kernel
theorem dX5_tellAll_2 : decode cX5_tellAll 2 = .ok (.iload_n 2, 1) := by decide +kernel
theorem dX5_tellAll_3 : decode cX5_tellAll 3 = .ok (.aload_n 1, 1) := by decide +kernel
theorem dX5_tellAll_4 : decode cX5_tellAll 4 = .ok (.getfield 31, 3) := by decide +kernel
theorem dX5_tellAll_7 : decode cX5_tellAll 7 = .ok (.if_icmp .ge 53, 3) := by decide +kernel
theorem dX5_tellAll_10 : decode cX5_tellAll 10 = .ok (.iconst 0, 1) := by decide +kernel
theorem dX5_tellAll_11 : decode cX5_tellAll 11 = .ok (.istore_n 3, 1) := by decide +kernel
theorem dX5_tellAll_12 : decode cX5_tellAll 12 = .ok (.iload_n 3, 1) := by decide +kernel
theorem dX5_tellAll_13 : decode cX5_tellAll 13 = .ok (.aload_n 1, 1) := by decide +kernel
theorem dX5_tellAll_14 : decode cX5_tellAll 14 = .ok (.iload_n 2, 1) := by decide +kernel
theorem dX5_tellAll_15 : decode cX5_tellAll 15 = .ok (.invokevirtual 118, 3) := by decide +kernel
theorem dX5_tellAll_18 : decode cX5_tellAll 18 = .ok (.if_icmp .ge 36, 3) := by decide +kernel
theorem dX5_tellAll_21 : decode cX5_tellAll 21 = .ok (.aload_n 1, 1) := by decide +kernel
theorem dX5_tellAll_22 : decode cX5_tellAll 22 = .ok (.getfield 109, 3) := by decide +kernel
theorem dX5_tellAll_25 : decode cX5_tellAll 25 = .ok (.getfield 125, 3) := by decide +kernel
theorem dX5_tellAll_28 : decode cX5_tellAll 28 = .ok (.iload_n 2, 1) := by decide +kernel
theorem dX5_tellAll_29 : decode cX5_tellAll 29 = .ok (.iload_n 3, 1) := by decide +kernel
theorem dX5_tellAll_30 : decode cX5_tellAll 30 = .ok (.invokestatic 63, 3) := by decide +kernel
theorem dX5_tellAll_33 : decode cX5_tellAll 33 = .ok (.aload_n 0, 1) := by decide +kernel
theorem dX5_tellAll_34 : decode cX5_tellAll 34 = .ok (.getfield 21, 3) := by decide +kernel
theorem dX5_tellAll_37 : decode cX5_tellAll 37 = .ok (.aload_n 0, 1) := by decide +kernel
theorem dX5_tellAll_38 : decode cX5_tellAll 38 = .ok (.iload_n 2, 1) := by decide +kernel
theorem dX5_tellAll_39 : decode cX5_tellAll 39 = .ok (.iload_n 3, 1) := by decide +kernel
theorem dX5_tellAll_40 : decode cX5_tellAll 40 = .ok (.invokestatic 63, 3) := by decide +kernel
theorem dX5_tellAll_43 : decode cX5_tellAll 43 = .ok (.invokevirtual 106, 3) := by decide +kernel
theorem dX5_tellAll_46 : decode cX5_tellAll 46 = .ok (.iaload, 1) := by decide +kernel
theorem dX5_tellAll_47 : decode cX5_tellAll 47 = .ok (.iastore, 1) := by decide +kernel
theorem dX5_tellAll_48 : decode cX5_tellAll 48 = .ok (.iinc 3 1, 3) := by decide +kernel
theorem dX5_tellAll_51 : decode cX5_tellAll 51 = .ok (.goto (-39), 3) := by decide +kernel
theorem dX5_tellAll_54 : decode cX5_tellAll 54 = .ok (.iinc 2 1, 3) := by decide +kernel
theorem dX5_tellAll_57 : decode cX5_tellAll 57 = .ok (.goto (-55), 3) := by decide +kernel
theorem dX5_tellAll_60 : decode cX5_tellAll 60 = .ok (.iconst 0, 1) := by decide +kernel
theorem dX5_tellAll_61 : decode cX5_tellAll 61 = .ok (.istore_n 2, 1) := by decide +kernel
theorem dX5_tellAll_62 : decode cX5_tellAll 62 = .ok (.iload_n 2, 1) := by decide +kernel
theorem dX5_tellAll_63 : decode cX5_tellAll 63 = .ok (.sipush 183, 3) := by decide +kernel
theorem dX5_tellAll_66 : decode cX5_tellAll 66 = .ok (.if_icmp .ge 69, 3) := by decide +kernel
theorem dX5_tellAll_69 : decode cX5_tellAll 69 = .ok (.aload_n 0, 1) := by decide +kernel
theorem dX5_tellAll_70 : decode cX5_tellAll 70 = .ok (.getfield 21, 3) := by decide +kernel
theorem dX5_tellAll_73 : decode cX5_tellAll 73 = .ok (.iload_n 2, 1) := by decide +kernel
theorem dX5_tellAll_74 : decode cX5_tellAll 74 = .ok (.iaload, 1) := by decide +kernel
theorem dX5_tellAll_75 : decode cX5_tellAll 75 = .ok (.istore_n 3, 1) := by decide +kernel
theorem dX5_tellAll_76 : decode cX5_tellAll 76 = .ok (.iload_n 3, 1) := by decide +kernel
theorem dX5_tellAll_77 : decode cX5_tellAll 77 = .ok (.iconst (-1), 1) := by decide +kernel
theorem dX5_tellAll_78 : decode cX5_tellAll 78 = .ok (.if_icmp .eq 51, 3) := by decide +kernel
theorem dX5_tellAll_81 : decode cX5_tellAll 81 = .ok (.aload_n 1, 1) := by decide +kernel
theorem dX5_tellAll_82 : decode cX5_tellAll 82 = .ok (.getfield 109, 3) := by decide +kernel
theorem dX5_tellAll_85 : decode cX5_tellAll 85 = .ok (.getfield 128, 3) := by decide +kernel
theorem dX5_tellAll_88 : decode cX5_tellAll 88 = .ok (.iload_n 3, 1) := by decide +kernel
theorem dX5_tellAll_89 : decode cX5_tellAll 89 = .ok (.aload_n 0, 1) := by decide +kernel
theorem dX5_tellAll_90 : decode cX5_tellAll 90 = .ok (.getfield 21, 3) := by decide +kernel
theorem dX5_tellAll_93 : decode cX5_tellAll 93 = .ok (.aload_n 0, 1) := by decide +kernel
theorem dX5_tellAll_94 : decode cX5_tellAll 94 = .ok (.aload_n 0, 1) := by decide +kernel
theorem dX5_tellAll_95 : decode cX5_tellAll 95 = .ok (.getfield 15, 3) := by decide +kernel
theorem dX5_tellAll_98 : decode cX5_tellAll 98 = .ok (.iload_n 2, 1) := by decide +kernel
theorem dX5_tellAll_99 : decode cX5_tellAll 99 = .ok (.iaload, 1) := by decide +kernel
theorem dX5_tellAll_100 : decode cX5_tellAll 100 = .ok (.invokevirtual 106, 3) := by decide +kernel
theorem dX5_tellAll_103 : decode cX5_tellAll 103 = .ok (.iaload, 1) := by decide +kernel
theorem dX5_tellAll_104 : decode cX5_tellAll 104 = .ok (.iastore, 1) := by decide +kernel
theorem dX5_tellAll_105 : decode cX5_tellAll 105 = .ok (.aload_n 1, 1) := by decide +kernel
theorem dX5_tellAll_106 : decode cX5_tellAll 106 = .ok (.getfield 109, 3) := by decide +kernel
theorem dX5_tellAll_109 : decode cX5_tellAll 109 = .ok (.getfield 131, 3) := by decide +kernel
theorem dX5_tellAll_112 : decode cX5_tellAll 112 = .ok (.iload_n 3, 1) := by decide +kernel
theorem dX5_tellAll_113 : decode cX5_tellAll 113 = .ok (.aload_n 0, 1) := by decide +kernel
theorem dX5_tellAll_114 : decode cX5_tellAll 114 = .ok (.getfield 21, 3) := by decide +kernel
theorem dX5_tellAll_117 : decode cX5_tellAll 117 = .ok (.aload_n 0, 1) := by decide +kernel
theorem dX5_tellAll_118 : decode cX5_tellAll 118 = .ok (.aload_n 0, 1) := by decide +kernel
theorem dX5_tellAll_119 : decode cX5_tellAll 119 = .ok (.getfield 18, 3) := by decide +kernel
theorem dX5_tellAll_122 : decode cX5_tellAll 122 = .ok (.iload_n 2, 1) := by decide +kernel
theorem dX5_tellAll_123 : decode cX5_tellAll 123 = .ok (.iaload, 1) := by decide +kernel
theorem dX5_tellAll_124 : decode cX5_tellAll 124 = .ok (.invokevirtual 106, 3) := by decide +kernel
theorem dX5_tellAll_127 : decode cX5_tellAll 127 = .ok (.iaload, 1) := by decide +kernel
theorem dX5_tellAll_128 : decode cX5_tellAll 128 = .ok (.iastore, 1) := by decide +kernel
theorem dX5_tellAll_129 : decode cX5_tellAll 129 = .ok (.iinc 2 1, 3) := by decide +kernel
theorem dX5_tellAll_132 : decode cX5_tellAll 132 = .ok (.goto (-70), 3) := by decide +kernel
theorem dX5_tellAll_135 : decode cX5_tellAll 135 = .ok (.return_, 1) := by decide +kernel
theorem dX6_init_0 : decode cX6_init 0 = .ok (.aload_n 0, 1) := by decide +kernel
theorem dX6_init_1 : decode cX6_init 1 = .ok (.invokespecial 3, 3) := by decide +kernel
theorem dX6_init_4 : decode cX6_init 4 = .ok (.aload_n 0, 1) := by decide +kernel
theorem dX6_init_5 : decode cX6_init 5 = .ok (.iconst 0, 1) := by decide +kernel
theorem dX6_init_6 : decode cX6_init 6 = .ok (.putfield 9, 3) := by decide +kernel
theorem dX6_init_9 : decode cX6_init 9 = .ok (.aload_n 0, 1) := by decide +kernel
theorem dX6_init_10 : decode cX6_init 10 = .ok (.iconst 0, 1) := by decide +kernel
theorem dX6_init_11 : decode cX6_init 11 = .ok (.putfield 15, 3) := by decide +kernel
theorem dX6_init_14 : decode cX6_init 14 = .ok (.aload_n 0, 1) := by decide +kernel
theorem dX6_init_15 : decode cX6_init 15 = .ok (.sipush 135, 3) := by decide +kernel
theorem dX6_init_18 : decode cX6_init 18 = .ok (.newarray .int, 2) := by decide +kernel
theorem dX6_init_20 : decode cX6_init 20 = .ok (.putfield 18, 3) := by decide +kernel
theorem dX6_init_23 : decode cX6_init 23 = .ok (.aload_n 0, 1) := by decide +kernel
theorem dX6_init_24 : decode cX6_init 24 = .ok (.sipush 135, 3) := by decide +kernel
theorem dX6_init_27 : decode cX6_init 27 = .ok (.newarray .int, 2) := by decide +kernel
theorem dX6_init_29 : decode cX6_init 29 = .ok (.putfield 22, 3) := by decide +kernel
theorem dX6_init_32 : decode cX6_init 32 = .ok (.aload_n 0, 1) := by decide +kernel
theorem dX6_init_33 : decode cX6_init 33 = .ok (.bipush 24, 2) := by decide +kernel
theorem dX6_init_35 : decode cX6_init 35 = .ok (.newarray .int, 2) := by decide +kernel
theorem dX6_init_37 : decode cX6_init 37 = .ok (.putfield 25, 3) := by decide +kernel
theorem dX6_init_40 : decode cX6_init 40 = .ok (.aload_n 0, 1) := by decide +kernel
theorem dX6_init_41 : decode cX6_init 41 = .ok (.bipush 24, 2) := by decide +kernel
theorem dX6_init_43 : decode cX6_init 43 = .ok (.newarray .int, 2) := by decide +kernel
theorem dX6_init_45 : decode cX6_init 45 = .ok (.putfield 28, 3) := by decide +kernel
theorem dX6_init_48 : decode cX6_init 48 = .ok (.aload_n 0, 1) := by decide +kernel
theorem dX6_init_49 : decode cX6_init 49 = .ok (.bipush 24, 2) := by decide +kernel
theorem dX6_init_51 : decode cX6_init 51 = .ok (.newarray .int, 2) := by decide +kernel
theorem dX6_init_53 : decode cX6_init 53 = .ok (.putfield 31, 3) := by decide +kernel
theorem dX6_init_56 : decode cX6_init 56 = .ok (.aload_n 0, 1) := by decide +kernel
theorem dX6_init_57 : decode cX6_init 57 = .ok (.bipush 24, 2) := by decide +kernel
theorem dX6_init_59 : decode cX6_init 59 = .ok (.newarray .int, 2) := by decide +kernel
theorem dX6_init_61 : decode cX6_init 61 = .ok (.putfield 34, 3) := by decide +kernel
theorem dX6_init_64 : decode cX6_init 64 = .ok (.aload_n 0, 1) := by decide +kernel
theorem dX6_init_65 : decode cX6_init 65 = .ok (.bipush 24, 2) := by decide +kernel
theorem dX6_init_67 : decode cX6_init 67 = .ok (.newarray .int, 2) := by decide +kernel
theorem dX6_init_69 : decode cX6_init 69 = .ok (.putfield 37, 3) := by decide +kernel
theorem dX6_init_72 : decode cX6_init 72 = .ok (.aload_n 0, 1) := by decide +kernel
theorem dX6_init_73 : decode cX6_init 73 = .ok (.iconst 5, 1) := by decide +kernel
theorem dX6_init_74 : decode cX6_init 74 = .ok (.newarray .int, 2) := by decide +kernel
theorem dX6_init_76 : decode cX6_init 76 = .ok (.putfield 40, 3) := by decide +kernel
theorem dX6_init_79 : decode cX6_init 79 = .ok (.aload_n 0, 1) := by decide +kernel
theorem dX6_init_80 : decode cX6_init 80 = .ok (.iconst 5, 1) := by decide +kernel
theorem dX6_init_81 : decode cX6_init 81 = .ok (.newarray .int, 2) := by decide +kernel
theorem dX6_init_83 : decode cX6_init 83 = .ok (.putfield 43, 3) := by decide +kernel
theorem dX6_init_86 : decode cX6_init 86 = .ok (.aload_n 0, 1) := by decide +kernel
theorem dX6_init_87 : decode cX6_init 87 = .ok (.bipush 120, 2) := by decide +kernel
theorem dX6_init_89 : decode cX6_init 89 = .ok (.newarray .int, 2) := by decide +kernel
theorem dX6_init_91 : decode cX6_init 91 = .ok (.putfield 46, 3) := by decide +kernel
theorem dX6_init_94 : decode cX6_init 94 = .ok (.aload_n 0, 1) := by decide +kernel
theorem dX6_init_95 : decode cX6_init 95 = .ok (.bipush 120, 2) := by decide +kernel
theorem dX6_init_97 : decode cX6_init 97 = .ok (.newarray .int, 2) := by decide +kernel
theorem dX6_init_99 : decode cX6_init 99 = .ok (.putfield 49, 3) := by decide +kernel
theorem dX6_init_102 : decode cX6_init 102 = .ok (.aload_n 0, 1) := by decide +kernel
theorem dX6_init_103 : decode cX6_init 103 = .ok (.bipush 24, 2) := by decide +kernel
theorem dX6_init_105 : decode cX6_init 105 = .ok (.newarray .int, 2) := by decide +kernel
theorem dX6_init_107 : decode cX6_init 107 = .ok (.putfield 52, 3) := by decide +kernel
theorem dX6_init_110 : decode cX6_init 110 = .ok (.aload_n 0, 1) := by decide +kernel
theorem dX6_init_111 : decode cX6_init 111 = .ok (.bipush 24, 2) := by decide +kernel
theorem dX6_init_113 : decode cX6_init 113 = .ok (.newarray .int, 2) := by decide +kernel
theorem dX6_init_115 : decode cX6_init 115 = .ok (.putfield 55, 3) := by decide +kernel
theorem dX6_init_118 : decode cX6_init 118 = .ok (.return_, 1) := by decide +kernel
theorem dX6_copyFrom_0 : decode cX6_copyFrom 0 = .ok (.aload_n 0, 1) := by decide +kernel
theorem dX6_copyFrom_1 : decode cX6_copyFrom 1 = .ok (.aload_n 1, 1) := by decide +kernel
theorem dX6_copyFrom_2 : decode cX6_copyFrom 2 = .ok (.getfield 9, 3) := by decide +kernel
theorem dX6_copyFrom_5 : decode cX6_copyFrom 5 = .ok (.putfield 9, 3) := by decide +kernel
theorem dX6_copyFrom_8 : decode cX6_copyFrom 8 = .ok (.aload_n 0, 1) := by decide +kernel
theorem dX6_copyFrom_9 : decode cX6_copyFrom 9 = .ok (.aload_n 1, 1) := by decide +kernel
theorem dX6_copyFrom_10 : decode cX6_copyFrom 10 = .ok (.getfield 15, 3) := by decide +kernel
theorem dX6_copyFrom_13 : decode cX6_copyFrom 13 = .ok (.putfield 15, 3) := by decide +kernel
theorem dX6_copyFrom_16 : decode cX6_copyFrom 16 = .ok (.aload_n 1, 1) := by decide +kernel
theorem dX6_copyFrom_17 : decode cX6_copyFrom 17 = .ok (.getfield 18, 3) := by decide +kernel
theorem dX6_copyFrom_20 : decode cX6_copyFrom 20 = .ok (.iconst 0, 1) := by decide +kernel
theorem dX6_copyFrom_21 : decode cX6_copyFrom 21 = .ok (.aload_n 0, 1) := by decide +kernel
theorem dX6_copyFrom_22 : decode cX6_copyFrom 22 = .ok (.getfield 18, 3) := by decide +kernel
theorem dX6_copyFrom_25 : decode cX6_copyFrom 25 = .ok (.iconst 0, 1) := by decide +kernel
theorem dX6_copyFrom_26 : decode cX6_copyFrom 26 = .ok (.aload_n 0, 1) := by decide +kernel
theorem dX6_copyFrom_27 : decode cX6_copyFrom 27 = .ok (.getfield 18, 3) := by decide +kernel
theorem dX6_copyFrom_30 : decode cX6_copyFrom 30 = .ok (.arraylength, 1) := by decide +kernel
theorem dX6_copyFrom_31 : decode cX6_copyFrom 31 = .ok (.invokestatic 58, 3) := by decide +kernel
theorem dX6_copyFrom_34 : decode cX6_copyFrom 34 = .ok (.aload_n 1, 1) := by decide +kernel
theorem dX6_copyFrom_35 : decode cX6_copyFrom 35 = .ok (.getfield 22, 3) := by decide +kernel
theorem dX6_copyFrom_38 : decode cX6_copyFrom 38 = .ok (.iconst 0, 1) := by decide +kernel
theorem dX6_copyFrom_39 : decode cX6_copyFrom 39 = .ok (.aload_n 0, 1) := by decide +kernel
theorem dX6_copyFrom_40 : decode cX6_copyFrom 40 = .ok (.getfield 22, 3) := by decide +kernel
theorem dX6_copyFrom_43 : decode cX6_copyFrom 43 = .ok (.iconst 0, 1) := by decide +kernel
theorem dX6_copyFrom_44 : decode cX6_copyFrom 44 = .ok (.aload_n 0, 1) := by decide +kernel
theorem dX6_copyFrom_45 : decode cX6_copyFrom 45 = .ok (.getfield 22, 3) := by decide +kernel
theorem dX6_copyFrom_48 : decode cX6_copyFrom 48 = .ok (.arraylength, 1) := by decide +kernel
theorem dX6_copyFrom_49 : decode cX6_copyFrom 49 = .ok (.invokestatic 58, 3) := by decide +kernel
theorem dX6_copyFrom_52 : decode cX6_copyFrom 52 = .ok (.aload_n 1, 1) := by decide +kernel
theorem dX6_copyFrom_53 : decode cX6_copyFrom 53 = .ok (.getfield 25, 3) := by decide +kernel
theorem dX6_copyFrom_56 : decode cX6_copyFrom 56 = .ok (.iconst 0, 1) := by decide +kernel
theorem dX6_copyFrom_57 : decode cX6_copyFrom 57 = .ok (.aload_n 0, 1) := by decide +kernel
theorem dX6_copyFrom_58 : decode cX6_copyFrom 58 = .ok (.getfield 25, 3) := by decide +kernel
theorem dX6_copyFrom_61 : decode cX6_copyFrom 61 = .ok (.iconst 0, 1) := by decide +kernel
theorem dX6_copyFrom_62 : decode cX6_copyFrom 62 = .ok (.aload_n 0, 1) := by decide +kernel
theorem dX6_copyFrom_63 : decode cX6_copyFrom 63 = .ok (.getfield 25, 3) := by decide +kernel
theorem dX6_copyFrom_66 : decode cX6_copyFrom 66 = .ok (.arraylength, 1) := by decide +kernel
theorem dX6_copyFrom_67 : decode cX6_copyFrom 67 = .ok (.invokestatic 58, 3) := by decide +kernel
theorem dX6_copyFrom_70 : decode cX6_copyFrom 70 = .ok (.aload_n 1, 1) := by decide +kernel
theorem dX6_copyFrom_71 : decode cX6_copyFrom 71 = .ok (.getfield 28, 3) := by decide +kernel
theorem dX6_copyFrom_74 : decode cX6_copyFrom 74 = .ok (.iconst 0, 1) := by decide +kernel
theorem dX6_copyFrom_75 : decode cX6_copyFrom 75 = .ok (.aload_n 0, 1) := by decide +kernel
theorem dX6_copyFrom_76 : decode cX6_copyFrom 76 = .ok (.getfield 28, 3) := by decide +kernel
theorem dX6_copyFrom_79 : decode cX6_copyFrom 79 = .ok (.iconst 0, 1) := by decide +kernel
theorem dX6_copyFrom_80 : decode cX6_copyFrom 80 = .ok (.aload_n 0, 1) := by decide +kernel
theorem dX6_copyFrom_81 : decode cX6_copyFrom 81 = .ok (.getfield 28, 3) := by decide +kernel
theorem dX6_copyFrom_84 : decode cX6_copyFrom 84 = .ok (.arraylength, 1) := by decide +kernel
theorem dX6_copyFrom_85 : decode cX6_copyFrom 85 = .ok (.invokestatic 58, 3) := by decide +kernel
theorem dX6_copyFrom_88 : decode cX6_copyFrom 88 = .ok (.aload_n 1, 1) := by decide +kernel
theorem dX6_copyFrom_89 : decode cX6_copyFrom 89 = .ok (.getfield 31, 3) := by decide +kernel
theorem dX6_copyFrom_92 : decode cX6_copyFrom 92 = .ok (.iconst 0, 1) := by decide +kernel
theorem dX6_copyFrom_93 : decode cX6_copyFrom 93 = .ok (.aload_n 0, 1) := by decide +kernel
theorem dX6_copyFrom_94 : decode cX6_copyFrom 94 = .ok (.getfield 31, 3) := by decide +kernel
theorem dX6_copyFrom_97 : decode cX6_copyFrom 97 = .ok (.iconst 0, 1) := by decide +kernel
theorem dX6_copyFrom_98 : decode cX6_copyFrom 98 = .ok (.aload_n 0, 1) := by decide +kernel
theorem dX6_copyFrom_99 : decode cX6_copyFrom 99 = .ok (.getfield 31, 3) := by decide +kernel
theorem dX6_copyFrom_102 : decode cX6_copyFrom 102 = .ok (.arraylength, 1) := by decide +kernel
theorem dX6_copyFrom_103 : decode cX6_copyFrom 103 = .ok (.invokestatic 58, 3) := by decide +kernel
theorem dX6_copyFrom_106 : decode cX6_copyFrom 106 = .ok (.aload_n 1, 1) := by decide +kernel
theorem dX6_copyFrom_107 : decode cX6_copyFrom 107 = .ok (.getfield 34, 3) := by decide +kernel
theorem dX6_copyFrom_110 : decode cX6_copyFrom 110 = .ok (.iconst 0, 1) := by decide +kernel
theorem dX6_copyFrom_111 : decode cX6_copyFrom 111 = .ok (.aload_n 0, 1) := by decide +kernel
theorem dX6_copyFrom_112 : decode cX6_copyFrom 112 = .ok (.getfield 34, 3) := by decide +kernel
theorem dX6_copyFrom_115 : decode cX6_copyFrom 115 = .ok (.iconst 0, 1) := by decide +kernel
theorem dX6_copyFrom_116 : decode cX6_copyFrom 116 = .ok (.aload_n 0, 1) := by decide +kernel
theorem dX6_copyFrom_117 : decode cX6_copyFrom 117 = .ok (.getfield 34, 3) := by decide +kernel
theorem dX6_copyFrom_120 : decode cX6_copyFrom 120 = .ok (.arraylength, 1) := by decide +kernel
theorem dX6_copyFrom_121 : decode cX6_copyFrom 121 = .ok (.invokestatic 58, 3) := by decide +kernel
theorem dX6_copyFrom_124 : decode cX6_copyFrom 124 = .ok (.aload_n 1, 1) := by decide +kernel
theorem dX6_copyFrom_125 : decode cX6_copyFrom 125 = .ok (.getfield 37, 3) := by decide +kernel
theorem dX6_copyFrom_128 : decode cX6_copyFrom 128 = .ok (.iconst 0, 1) := by decide +kernel
theorem dX6_copyFrom_129 : decode cX6_copyFrom 129 = .ok (.aload_n 0, 1) := by decide +kernel
theorem dX6_copyFrom_130 : decode cX6_copyFrom 130 = .ok (.getfield 37, 3) := by decide +kernel
theorem dX6_copyFrom_133 : decode cX6_copyFrom 133 = .ok (.iconst 0, 1) := by decide +kernel
theorem dX6_copyFrom_134 : decode cX6_copyFrom 134 = .ok (.aload_n 0, 1) := by decide +kernel
theorem dX6_copyFrom_135 : decode cX6_copyFrom 135 = .ok (.getfield 37, 3) := by decide +kernel
theorem dX6_copyFrom_138 : decode cX6_copyFrom 138 = .ok (.arraylength, 1) := by decide +kernel
theorem dX6_copyFrom_139 : decode cX6_copyFrom 139 = .ok (.invokestatic 58, 3) := by decide +kernel
theorem dX6_copyFrom_142 : decode cX6_copyFrom 142 = .ok (.aload_n 1, 1) := by decide +kernel
theorem dX6_copyFrom_143 : decode cX6_copyFrom 143 = .ok (.getfield 40, 3) := by decide +kernel
theorem dX6_copyFrom_146 : decode cX6_copyFrom 146 = .ok (.iconst 0, 1) := by decide +kernel
theorem dX6_copyFrom_147 : decode cX6_copyFrom 147 = .ok (.aload_n 0, 1) := by decide +kernel
theorem dX6_copyFrom_148 : decode cX6_copyFrom 148 = .ok (.getfield 40, 3) := by decide +kernel
theorem dX6_copyFrom_151 : decode cX6_copyFrom 151 = .ok (.iconst 0, 1) := by decide +kernel
theorem dX6_copyFrom_152 : decode cX6_copyFrom 152 = .ok (.aload_n 0, 1) := by decide +kernel
theorem dX6_copyFrom_153 : decode cX6_copyFrom 153 = .ok (.getfield 40, 3) := by decide +kernel
theorem dX6_copyFrom_156 : decode cX6_copyFrom 156 = .ok (.arraylength, 1) := by decide +kernel
theorem dX6_copyFrom_157 : decode cX6_copyFrom 157 = .ok (.invokestatic 58, 3) := by decide +kernel
theorem dX6_copyFrom_160 : decode cX6_copyFrom 160 = .ok (.aload_n 1, 1) := by decide +kernel
theorem dX6_copyFrom_161 : decode cX6_copyFrom 161 = .ok (.getfield 43, 3) := by decide +kernel
theorem dX6_copyFrom_164 : decode cX6_copyFrom 164 = .ok (.iconst 0, 1) := by decide +kernel
theorem dX6_copyFrom_165 : decode cX6_copyFrom 165 = .ok (.aload_n 0, 1) := by decide +kernel
theorem dX6_copyFrom_166 : decode cX6_copyFrom 166 = .ok (.getfield 43, 3) := by decide +kernel
theorem dX6_copyFrom_169 : decode cX6_copyFrom 169 = .ok (.iconst 0, 1) := by decide +kernel
theorem dX6_copyFrom_170 : decode cX6_copyFrom 170 = .ok (.aload_n 0, 1) := by decide +kernel
theorem dX6_copyFrom_171 : decode cX6_copyFrom 171 = .ok (.getfield 43, 3) := by decide +kernel
theorem dX6_copyFrom_174 : decode cX6_copyFrom 174 = .ok (.arraylength, 1) := by decide +kernel
theorem dX6_copyFrom_175 : decode cX6_copyFrom 175 = .ok (.invokestatic 58, 3) := by decide +kernel
theorem dX6_copyFrom_178 : decode cX6_copyFrom 178 = .ok (.aload_n 1, 1) := by decide +kernel
theorem dX6_copyFrom_179 : decode cX6_copyFrom 179 = .ok (.getfield 46, 3) := by decide +kernel
theorem dX6_copyFrom_182 : decode cX6_copyFrom 182 = .ok (.iconst 0, 1) := by decide +kernel
theorem dX6_copyFrom_183 : decode cX6_copyFrom 183 = .ok (.aload_n 0, 1) := by decide +kernel
theorem dX6_copyFrom_184 : decode cX6_copyFrom 184 = .ok (.getfield 46, 3) := by decide +kernel
theorem dX6_copyFrom_187 : decode cX6_copyFrom 187 = .ok (.iconst 0, 1) := by decide +kernel
theorem dX6_copyFrom_188 : decode cX6_copyFrom 188 = .ok (.aload_n 0, 1) := by decide +kernel
theorem dX6_copyFrom_189 : decode cX6_copyFrom 189 = .ok (.getfield 46, 3) := by decide +kernel
theorem dX6_copyFrom_192 : decode cX6_copyFrom 192 = .ok (.arraylength, 1) := by decide +kernel
theorem dX6_copyFrom_193 : decode cX6_copyFrom 193 = .ok (.invokestatic 58, 3) := by decide +kernel
theorem dX6_copyFrom_196 : decode cX6_copyFrom 196 = .ok (.aload_n 1, 1) := by decide +kernel
theorem dX6_copyFrom_197 : decode cX6_copyFrom 197 = .ok (.getfield 49, 3) := by decide +kernel
theorem dX6_copyFrom_200 : decode cX6_copyFrom 200 = .ok (.iconst 0, 1) := by decide +kernel
theorem dX6_copyFrom_201 : decode cX6_copyFrom 201 = .ok (.aload_n 0, 1) := by decide +kernel
theorem dX6_copyFrom_202 : decode cX6_copyFrom 202 = .ok (.getfield 49, 3) := by decide +kernel
theorem dX6_copyFrom_205 : decode cX6_copyFrom 205 = .ok (.iconst 0, 1) := by decide +kernel
theorem dX6_copyFrom_206 : decode cX6_copyFrom 206 = .ok (.aload_n 0, 1) := by decide +kernel
theorem dX6_copyFrom_207 : decode cX6_copyFrom 207 = .ok (.getfield 49, 3) := by decide +kernel
theorem dX6_copyFrom_210 : decode cX6_copyFrom 210 = .ok (.arraylength, 1) := by decide +kernel
theorem dX6_copyFrom_211 : decode cX6_copyFrom 211 = .ok (.invokestatic 58, 3) := by decide +kernel
theorem dX6_copyFrom_214 : decode cX6_copyFrom 214 = .ok (.aload_n 1, 1) := by decide +kernel
theorem dX6_copyFrom_215 : decode cX6_copyFrom 215 = .ok (.getfield 52, 3) := by decide +kernel
theorem dX6_copyFrom_218 : decode cX6_copyFrom 218 = .ok (.iconst 0, 1) := by decide +kernel
theorem dX6_copyFrom_219 : decode cX6_copyFrom 219 = .ok (.aload_n 0, 1) := by decide +kernel
theorem dX6_copyFrom_220 : decode cX6_copyFrom 220 = .ok (.getfield 52, 3) := by decide +kernel
theorem dX6_copyFrom_223 : decode cX6_copyFrom 223 = .ok (.iconst 0, 1) := by decide +kernel
theorem dX6_copyFrom_224 : decode cX6_copyFrom 224 = .ok (.aload_n 0, 1) := by decide +kernel
theorem dX6_copyFrom_225 : decode cX6_copyFrom 225 = .ok (.getfield 52, 3) := by decide +kernel
theorem dX6_copyFrom_228 : decode cX6_copyFrom 228 = .ok (.arraylength, 1) := by decide +kernel
theorem dX6_copyFrom_229 : decode cX6_copyFrom 229 = .ok (.invokestatic 58, 3) := by decide +kernel
theorem dX6_copyFrom_232 : decode cX6_copyFrom 232 = .ok (.aload_n 1, 1) := by decide +kernel
theorem dX6_copyFrom_233 : decode cX6_copyFrom 233 = .ok (.getfield 55, 3) := by decide +kernel
theorem dX6_copyFrom_236 : decode cX6_copyFrom 236 = .ok (.iconst 0, 1) := by decide +kernel
theorem dX6_copyFrom_237 : decode cX6_copyFrom 237 = .ok (.aload_n 0, 1) := by decide +kernel
theorem dX6_copyFrom_238 : decode cX6_copyFrom 238 = .ok (.getfield 55, 3) := by decide +kernel
theorem dX6_copyFrom_241 : decode cX6_copyFrom 241 = .ok (.iconst 0, 1) := by decide +kernel
theorem dX6_copyFrom_242 : decode cX6_copyFrom 242 = .ok (.aload_n 0, 1) := by decide +kernel
theorem dX6_copyFrom_243 : decode cX6_copyFrom 243 = .ok (.getfield 55, 3) := by decide +kernel
theorem dX6_copyFrom_246 : decode cX6_copyFrom 246 = .ok (.arraylength, 1) := by decide +kernel
theorem dX6_copyFrom_247 : decode cX6_copyFrom 247 = .ok (.invokestatic 58, 3) := by decide +kernel
theorem dX6_copyFrom_250 : decode cX6_copyFrom 250 = .ok (.return_, 1) := by decide +kernel
theorem dX6_has_0 : decode cX6_has 0 = .ok (.iload_n 1, 1) := by decide +kernel
theorem dX6_has_1 : decode cX6_has 1 = .ok (.ifCond .lt 15, 3) := by decide +kernel
theorem dX6_has_4 : decode cX6_has 4 = .ok (.iload_n 1, 1) := by decide +kernel
theorem dX6_has_5 : decode cX6_has 5 = .ok (.aload_n 0, 1) := by decide +kernel
theorem dX6_has_6 : decode cX6_has 6 = .ok (.getfield 9, 3) := by decide +kernel
theorem dX6_has_9 : decode cX6_has 9 = .ok (.if_icmp .ge 7, 3) := by decide +kernel
theorem dX6_has_12 : decode cX6_has 12 = .ok (.iconst 1, 1) := by decide +kernel
theorem dX6_has_13 : decode cX6_has 13 = .ok (.goto 4, 3) := by decide +kernel
theorem dX6_has_16 : decode cX6_has 16 = .ok (.iconst 0, 1) := by decide +kernel
theorem dX6_has_17 : decode cX6_has 17 = .ok (.ireturn, 1) := by decide +kernel
theorem dX6_pointedBy_0 : decode cX6_pointedBy 0 = .ok (.aload_n 0, 1) := by decide +kernel
theorem dX6_pointedBy_1 : decode cX6_pointedBy 1 = .ok (.getfield 18, 3) := by decide +kernel
theorem dX6_pointedBy_4 : decode cX6_pointedBy 4 = .ok (.iload_n 1, 1) := by decide +kernel
theorem dX6_pointedBy_5 : decode cX6_pointedBy 5 = .ok (.bipush 27, 2) := by decide +kernel
theorem dX6_pointedBy_7 : decode cX6_pointedBy 7 = .ok (.imul, 1) := by decide +kernel
theorem dX6_pointedBy_8 : decode cX6_pointedBy 8 = .ok (.iload_n 2, 1) := by decide +kernel
theorem dX6_pointedBy_9 : decode cX6_pointedBy 9 = .ok (.iadd, 1) := by decide +kernel
theorem dX6_pointedBy_10 : decode cX6_pointedBy 10 = .ok (.iaload, 1) := by decide +kernel
theorem dX6_pointedBy_11 : decode cX6_pointedBy 11 = .ok (.ireturn, 1) := by decide +kernel
theorem dX6_isOwned_0 : decode cX6_isOwned 0 = .ok (.aload_n 0, 1) := by decide +kernel
theorem dX6_isOwned_1 : decode cX6_isOwned 1 = .ok (.getfield 43, 3) := by decide +kernel
theorem dX6_isOwned_4 : decode cX6_isOwned 4 = .ok (.iload_n 1, 1) := by decide +kernel
theorem dX6_isOwned_5 : decode cX6_isOwned 5 = .ok (.iaload, 1) := by decide +kernel
theorem dX6_isOwned_6 : decode cX6_isOwned 6 = .ok (.iload_n 2, 1) := by decide +kernel
theorem dX6_isOwned_7 : decode cX6_isOwned 7 = .ok (.ishr, 1) := by decide +kernel
theorem dX6_isOwned_8 : decode cX6_isOwned 8 = .ok (.iconst 1, 1) := by decide +kernel
theorem dX6_isOwned_9 : decode cX6_isOwned 9 = .ok (.iand, 1) := by decide +kernel
theorem dX6_isOwned_10 : decode cX6_isOwned 10 = .ok (.ifCond .eq 7, 3) := by decide +kernel
theorem dX6_isOwned_13 : decode cX6_isOwned 13 = .ok (.iconst 1, 1) := by decide +kernel
theorem dX6_isOwned_14 : decode cX6_isOwned 14 = .ok (.goto 4, 3) := by decide +kernel
theorem dX6_isOwned_17 : decode cX6_isOwned 17 = .ok (.iconst 0, 1) := by decide +kernel
theorem dX6_isOwned_18 : decode cX6_isOwned 18 = .ok (.ireturn, 1) := by decide +kernel
theorem dX6_isFinite_0 : decode cX6_isFinite 0 = .ok (.aload_n 0, 1) := by decide +kernel
theorem dX6_isFinite_1 : decode cX6_isFinite 1 = .ok (.getfield 15, 3) := by decide +kernel
theorem dX6_isFinite_4 : decode cX6_isFinite 4 = .ok (.iload_n 1, 1) := by decide +kernel
theorem dX6_isFinite_5 : decode cX6_isFinite 5 = .ok (.ishr, 1) := by decide +kernel
theorem dX6_isFinite_6 : decode cX6_isFinite 6 = .ok (.iconst 1, 1) := by decide +kernel
theorem dX6_isFinite_7 : decode cX6_isFinite 7 = .ok (.iand, 1) := by decide +kernel
theorem dX6_isFinite_8 : decode cX6_isFinite 8 = .ok (.ifCond .eq 7, 3) := by decide +kernel
theorem dX6_isFinite_11 : decode cX6_isFinite 11 = .ok (.iconst 1, 1) := by decide +kernel
theorem dX6_isFinite_12 : decode cX6_isFinite 12 = .ok (.goto 4, 3) := by decide +kernel
theorem dX6_isFinite_15 : decode cX6_isFinite 15 = .ok (.iconst 0, 1) := by decide +kernel
theorem dX6_isFinite_16 : decode cX6_isFinite 16 = .ok (.ireturn, 1) := by decide +kernel
theorem dX6_reachOf_0 : decode cX6_reachOf 0 = .ok (.aload_n 0, 1) := by decide +kernel
theorem dX6_reachOf_1 : decode cX6_reachOf 1 = .ok (.iload_n 1, 1) := by decide +kernel
theorem dX6_reachOf_2 : decode cX6_reachOf 2 = .ok (.invokevirtual 64, 3) := by decide +kernel
theorem dX6_reachOf_5 : decode cX6_reachOf 5 = .ok (.ifCond .eq 12, 3) := by decide +kernel
theorem dX6_reachOf_8 : decode cX6_reachOf 8 = .ok (.aload_n 0, 1) := by decide +kernel
theorem dX6_reachOf_9 : decode cX6_reachOf 9 = .ok (.getfield 31, 3) := by decide +kernel
theorem dX6_reachOf_12 : decode cX6_reachOf 12 = .ok (.iload_n 1, 1) := by decide +kernel
theorem dX6_reachOf_13 : decode cX6_reachOf 13 = .ok (.iaload, 1) := by decide +kernel
theorem dX6_reachOf_14 : decode cX6_reachOf 14 = .ok (.goto 4, 3) := by decide +kernel
theorem dX6_reachOf_17 : decode cX6_reachOf 17 = .ok (.iconst 0, 1) := by decide +kernel
theorem dX6_reachOf_18 : decode cX6_reachOf 18 = .ok (.ireturn, 1) := by decide +kernel
theorem dX6_reachOfVar_0 : decode cX6_reachOfVar 0 = .ok (.aload_n 0, 1) := by decide +kernel
theorem dX6_reachOfVar_1 : decode cX6_reachOfVar 1 = .ok (.getfield 22, 3) := by decide +kernel
