theorem dX10_priceOf_17 : decode cX10_priceOf 17 = .ok (.iload 4, 2) := by decide +kernel
theorem dX10_priceOf_19 : decode cX10_priceOf 19 = .ok (.invokevirtual 424, 3) := by decide +kernel
theorem dX10_priceOf_22 : decode cX10_priceOf 22 = .ok (.lsub, 1) := by decide +kernel
theorem dX10_priceOf_23 : decode cX10_priceOf 23 = .ok (.lreturn, 1) := by decide +kernel
theorem dX10_gainOf_0 : decode cX10_gainOf 0 = .ok (.aload_n 0, 1) := by decide +kernel
theorem dX10_gainOf_1 : decode cX10_gainOf 1 = .ok (.getfield 47, 3) := by decide +kernel
theorem dX10_gainOf_4 : decode cX10_gainOf 4 = .ok (.iload_n 1, 1) := by decide +kernel
theorem dX10_gainOf_5 : decode cX10_gainOf 5 = .ok (.iload 4, 2) := by decide +kernel
theorem dX10_gainOf_7 : decode cX10_gainOf 7 = .ok (.iload 5, 2) := by decide +kernel
theorem dX10_gainOf_9 : decode cX10_gainOf 9 = .ok (.iload_n 3, 1) := by decide +kernel
theorem dX10_gainOf_10 : decode cX10_gainOf 10 = .ok (.invokevirtual 427, 3) := by decide +kernel
theorem dX10_gainOf_13 : decode cX10_gainOf 13 = .ok (.aload_n 0, 1) := by decide +kernel
theorem dX10_gainOf_14 : decode cX10_gainOf 14 = .ok (.getfield 47, 3) := by decide +kernel
theorem dX10_gainOf_17 : decode cX10_gainOf 17 = .ok (.iload_n 1, 1) := by decide +kernel
theorem dX10_gainOf_18 : decode cX10_gainOf 18 = .ok (.iload 4, 2) := by decide +kernel
theorem dX10_gainOf_20 : decode cX10_gainOf 20 = .ok (.iload 5, 2) := by decide +kernel
theorem dX10_gainOf_22 : decode cX10_gainOf 22 = .ok (.iload_n 2, 1) := by decide +kernel
theorem dX10_gainOf_23 : decode cX10_gainOf 23 = .ok (.invokevirtual 427, 3) := by decide +kernel
theorem dX10_gainOf_26 : decode cX10_gainOf 26 = .ok (.lsub, 1) := by decide +kernel
theorem dX10_gainOf_27 : decode cX10_gainOf 27 = .ok (.lreturn, 1) := by decide +kernel
theorem dX10_offerAct_0 : decode cX10_offerAct 0 = .ok (.aload_n 0, 1) := by decide +kernel
theorem dX10_offerAct_1 : decode cX10_offerAct 1 = .ok (.iload_n 2, 1) := by decide +kernel
theorem dX10_offerAct_2 : decode cX10_offerAct 2 = .ok (.iload_n 3, 1) := by decide +kernel
theorem dX10_offerAct_3 : decode cX10_offerAct 3 = .ok (.iload 4, 2) := by decide +kernel
theorem dX10_offerAct_5 : decode cX10_offerAct 5 = .ok (.iload 5, 2) := by decide +kernel
theorem dX10_offerAct_7 : decode cX10_offerAct 7 = .ok (.invokevirtual 209, 3) := by decide +kernel
theorem dX10_offerAct_10 : decode cX10_offerAct 10 = .ok (.lstore 6, 2) := by decide +kernel
theorem dX10_offerAct_12 : decode cX10_offerAct 12 = .ok (.aload_n 0, 1) := by decide +kernel
theorem dX10_offerAct_13 : decode cX10_offerAct 13 = .ok (.getfield 47, 3) := by decide +kernel
theorem dX10_offerAct_16 : decode cX10_offerAct 16 = .ok (.iload_n 2, 1) := by decide +kernel
theorem dX10_offerAct_17 : decode cX10_offerAct 17 = .ok (.iload_n 3, 1) := by decide +kernel
theorem dX10_offerAct_18 : decode cX10_offerAct 18 = .ok (.iload 4, 2) := by decide +kernel
theorem dX10_offerAct_20 : decode cX10_offerAct 20 = .ok (.invokevirtual 152, 3) := by decide +kernel
theorem dX10_offerAct_23 : decode cX10_offerAct 23 = .ok (.istore 8, 2) := by decide +kernel
theorem dX10_offerAct_25 : decode cX10_offerAct 25 = .ok (.iconst 0, 1) := by decide +kernel
theorem dX10_offerAct_26 : decode cX10_offerAct 26 = .ok (.istore 9, 2) := by decide +kernel
theorem dX10_offerAct_28 : decode cX10_offerAct 28 = .ok (.iload 9, 2) := by decide +kernel
theorem dX10_offerAct_30 : decode cX10_offerAct 30 = .ok (.aload_n 0, 1) := by decide +kernel
theorem dX10_offerAct_31 : decode cX10_offerAct 31 = .ok (.getfield 34, 3) := by decide +kernel
theorem dX10_offerAct_34 : decode cX10_offerAct 34 = .ok (.getfield 81, 3) := by decide +kernel
theorem dX10_offerAct_37 : decode cX10_offerAct 37 = .ok (.getfield 318, 3) := by decide +kernel
theorem dX10_offerAct_40 : decode cX10_offerAct 40 = .ok (.if_icmp .ge 59, 3) := by decide +kernel
theorem dX10_offerAct_43 : decode cX10_offerAct 43 = .ok (.iconst 1, 1) := by decide +kernel
theorem dX10_offerAct_44 : decode cX10_offerAct 44 = .ok (.istore 10, 2) := by decide +kernel
theorem dX10_offerAct_46 : decode cX10_offerAct 46 = .ok (.iload 10, 2) := by decide +kernel
theorem dX10_offerAct_48 : decode cX10_offerAct 48 = .ok (.aload_n 0, 1) := by decide +kernel
theorem dX10_offerAct_49 : decode cX10_offerAct 49 = .ok (.getfield 34, 3) := by decide +kernel
theorem dX10_offerAct_52 : decode cX10_offerAct 52 = .ok (.getfield 81, 3) := by decide +kernel
theorem dX10_offerAct_55 : decode cX10_offerAct 55 = .ok (.getfield 223, 3) := by decide +kernel
theorem dX10_offerAct_58 : decode cX10_offerAct 58 = .ok (.if_icmp .ge 35, 3) := by decide +kernel
theorem dX10_offerAct_61 : decode cX10_offerAct 61 = .ok (.aload_n 1, 1) := by decide +kernel
theorem dX10_offerAct_62 : decode cX10_offerAct 62 = .ok (.aload_n 0, 1) := by decide +kernel
theorem dX10_offerAct_63 : decode cX10_offerAct 63 = .ok (.iload_n 2, 1) := by decide +kernel
theorem dX10_offerAct_64 : decode cX10_offerAct 64 = .ok (.iload 8, 2) := by decide +kernel
theorem dX10_offerAct_66 : decode cX10_offerAct 66 = .ok (.iload 5, 2) := by decide +kernel
theorem dX10_offerAct_68 : decode cX10_offerAct 68 = .ok (.iload 9, 2) := by decide +kernel
theorem dX10_offerAct_70 : decode cX10_offerAct 70 = .ok (.iload 10, 2) := by decide +kernel
theorem dX10_offerAct_72 : decode cX10_offerAct 72 = .ok (.invokevirtual 216, 3) := by decide +kernel
theorem dX10_offerAct_75 : decode cX10_offerAct 75 = .ok (.lload 6, 2) := by decide +kernel
theorem dX10_offerAct_77 : decode cX10_offerAct 77 = .ok (.lsub, 1) := by decide +kernel
theorem dX10_offerAct_78 : decode cX10_offerAct 78 = .ok (.iload 5, 2) := by decide +kernel
theorem dX10_offerAct_80 : decode cX10_offerAct 80 = .ok (.iload 9, 2) := by decide +kernel
theorem dX10_offerAct_82 : decode cX10_offerAct 82 = .ok (.iload 10, 2) := by decide +kernel
theorem dX10_offerAct_84 : decode cX10_offerAct 84 = .ok (.invokevirtual 430, 3) := by decide +kernel
theorem dX10_offerAct_87 : decode cX10_offerAct 87 = .ok (.iinc 10 1, 3) := by decide +kernel
theorem dX10_offerAct_90 : decode cX10_offerAct 90 = .ok (.goto (-44), 3) := by decide +kernel
theorem dX10_offerAct_93 : decode cX10_offerAct 93 = .ok (.iinc 9 1, 3) := by decide +kernel
theorem dX10_offerAct_96 : decode cX10_offerAct 96 = .ok (.goto (-68), 3) := by decide +kernel
theorem dX10_offerAct_99 : decode cX10_offerAct 99 = .ok (.return_, 1) := by decide +kernel
theorem dX10_hopesUnder_0 : decode cX10_hopesUnder 0 = .ok (.aload_n 0, 1) := by decide +kernel
theorem dX10_hopesUnder_1 : decode cX10_hopesUnder 1 = .ok (.iload_n 1, 1) := by decide +kernel
theorem dX10_hopesUnder_2 : decode cX10_hopesUnder 2 = .ok (.iload_n 3, 1) := by decide +kernel
theorem dX10_hopesUnder_3 : decode cX10_hopesUnder 3 = .ok (.iload 4, 2) := by decide +kernel
theorem dX10_hopesUnder_5 : decode cX10_hopesUnder 5 = .ok (.invokevirtual 176, 3) := by decide +kernel
theorem dX10_hopesUnder_8 : decode cX10_hopesUnder 8 = .ok (.aload_n 0, 1) := by decide +kernel
theorem dX10_hopesUnder_9 : decode cX10_hopesUnder 9 = .ok (.getfield 47, 3) := by decide +kernel
theorem dX10_hopesUnder_12 : decode cX10_hopesUnder 12 = .ok (.iconst 0, 1) := by decide +kernel
theorem dX10_hopesUnder_13 : decode cX10_hopesUnder 13 = .ok (.invokevirtual 148, 3) := by decide +kernel
theorem dX10_hopesUnder_16 : decode cX10_hopesUnder 16 = .ok (.aload_n 0, 1) := by decide +kernel
theorem dX10_hopesUnder_17 : decode cX10_hopesUnder 17 = .ok (.getfield 56, 3) := by decide +kernel
theorem dX10_hopesUnder_20 : decode cX10_hopesUnder 20 = .ok (.iload_n 1, 1) := by decide +kernel
theorem dX10_hopesUnder_21 : decode cX10_hopesUnder 21 = .ok (.iload_n 2, 1) := by decide +kernel
theorem dX10_hopesUnder_22 : decode cX10_hopesUnder 22 = .ok (.invokevirtual 255, 3) := by decide +kernel
theorem dX10_hopesUnder_25 : decode cX10_hopesUnder 25 = .ok (.lreturn, 1) := by decide +kernel
theorem dX10_isSetOut_0 : decode cX10_isSetOut 0 = .ok (.aload_n 0, 1) := by decide +kernel
theorem dX10_isSetOut_1 : decode cX10_isSetOut 1 = .ok (.getfield 34, 3) := by decide +kernel
theorem dX10_isSetOut_4 : decode cX10_isSetOut 4 = .ok (.getfield 81, 3) := by decide +kernel
theorem dX10_isSetOut_7 : decode cX10_isSetOut 7 = .ok (.astore_n 2, 1) := by decide +kernel
theorem dX10_isSetOut_8 : decode cX10_isSetOut 8 = .ok (.iload_n 1, 1) := by decide +kernel
theorem dX10_isSetOut_9 : decode cX10_isSetOut 9 = .ok (.iconst 1, 1) := by decide +kernel
theorem dX10_isSetOut_10 : decode cX10_isSetOut 10 = .ok (.if_icmp .lt 23, 3) := by decide +kernel
theorem dX10_isSetOut_13 : decode cX10_isSetOut 13 = .ok (.iload_n 1, 1) := by decide +kernel
theorem dX10_isSetOut_14 : decode cX10_isSetOut 14 = .ok (.iconst 3, 1) := by decide +kernel
theorem dX10_isSetOut_15 : decode cX10_isSetOut 15 = .ok (.if_icmp .gt 18, 3) := by decide +kernel
theorem dX10_isSetOut_18 : decode cX10_isSetOut 18 = .ok (.iload_n 1, 1) := by decide +kernel
theorem dX10_isSetOut_19 : decode cX10_isSetOut 19 = .ok (.aload_n 2, 1) := by decide +kernel
theorem dX10_isSetOut_20 : decode cX10_isSetOut 20 = .ok (.getfield 200, 3) := by decide +kernel
theorem dX10_isSetOut_23 : decode cX10_isSetOut 23 = .ok (.if_icmp .gt 10, 3) := by decide +kernel
theorem dX10_isSetOut_26 : decode cX10_isSetOut 26 = .ok (.aload_n 2, 1) := by decide +kernel
theorem dX10_isSetOut_27 : decode cX10_isSetOut 27 = .ok (.getfield 318, 3) := by decide +kernel
theorem dX10_isSetOut_30 : decode cX10_isSetOut 30 = .ok (.ifCond .ne 5, 3) := by decide +kernel
theorem dX10_isSetOut_33 : decode cX10_isSetOut 33 = .ok (.iconst 0, 1) := by decide +kernel
theorem dX10_isSetOut_34 : decode cX10_isSetOut 34 = .ok (.ireturn, 1) := by decide +kernel
theorem dX10_isSetOut_35 : decode cX10_isSetOut 35 = .ok (.iconst 0, 1) := by decide +kernel
theorem dX10_isSetOut_36 : decode cX10_isSetOut 36 = .ok (.istore_n 3, 1) := by decide +kernel
theorem dX10_isSetOut_37 : decode cX10_isSetOut 37 = .ok (.iload_n 3, 1) := by decide +kernel
theorem dX10_isSetOut_38 : decode cX10_isSetOut 38 = .ok (.iload_n 1, 1) := by decide +kernel
theorem dX10_isSetOut_39 : decode cX10_isSetOut 39 = .ok (.if_icmp .ge 22, 3) := by decide +kernel
theorem dX10_isSetOut_42 : decode cX10_isSetOut 42 = .ok (.aload_n 2, 1) := by decide +kernel
theorem dX10_isSetOut_43 : decode cX10_isSetOut 43 = .ok (.getfield 434, 3) := by decide +kernel
theorem dX10_isSetOut_46 : decode cX10_isSetOut 46 = .ok (.iload_n 3, 1) := by decide +kernel
theorem dX10_isSetOut_47 : decode cX10_isSetOut 47 = .ok (.iaload, 1) := by decide +kernel
theorem dX10_isSetOut_48 : decode cX10_isSetOut 48 = .ok (.bipush (-2), 2) := by decide +kernel
theorem dX10_isSetOut_50 : decode cX10_isSetOut 50 = .ok (.if_icmp .ne 5, 3) := by decide +kernel
theorem dX10_isSetOut_53 : decode cX10_isSetOut 53 = .ok (.iconst 0, 1) := by decide +kernel
theorem dX10_isSetOut_54 : decode cX10_isSetOut 54 = .ok (.ireturn, 1) := by decide +kernel
theorem dX10_isSetOut_55 : decode cX10_isSetOut 55 = .ok (.iinc 3 1, 3) := by decide +kernel
theorem dX10_isSetOut_58 : decode cX10_isSetOut 58 = .ok (.goto (-21), 3) := by decide +kernel
theorem dX10_isSetOut_61 : decode cX10_isSetOut 61 = .ok (.iconst 1, 1) := by decide +kernel
theorem dX10_isSetOut_62 : decode cX10_isSetOut 62 = .ok (.ireturn, 1) := by decide +kernel
theorem dX10_rowsOfQuestions_0 : decode cX10_rowsOfQuestions 0 = .ok (.iconst 1, 1) := by decide +kernel
theorem dX10_rowsOfQuestions_1 : decode cX10_rowsOfQuestions 1 = .ok (.istore_n 2, 1) := by decide +kernel
theorem dX10_rowsOfQuestions_2 : decode cX10_rowsOfQuestions 2 = .ok (.iconst 0, 1) := by decide +kernel
theorem dX10_rowsOfQuestions_3 : decode cX10_rowsOfQuestions 3 = .ok (.istore_n 3, 1) := by decide +kernel
theorem dX10_rowsOfQuestions_4 : decode cX10_rowsOfQuestions 4 = .ok (.iload_n 3, 1) := by decide +kernel
theorem dX10_rowsOfQuestions_5 : decode cX10_rowsOfQuestions 5 = .ok (.iload_n 1, 1) := by decide +kernel
theorem dX10_rowsOfQuestions_6 : decode cX10_rowsOfQuestions 6 = .ok (.if_icmp .ge 24, 3) := by decide +kernel
theorem dX10_rowsOfQuestions_9 : decode cX10_rowsOfQuestions 9 = .ok (.iload_n 2, 1) := by decide +kernel
theorem dX10_rowsOfQuestions_10 : decode cX10_rowsOfQuestions 10 = .ok (.aload_n 0, 1) := by decide +kernel
theorem dX10_rowsOfQuestions_11 : decode cX10_rowsOfQuestions 11 = .ok (.getfield 34, 3) := by decide +kernel
theorem dX10_rowsOfQuestions_14 : decode cX10_rowsOfQuestions 14 = .ok (.getfield 81, 3) := by decide +kernel
theorem dX10_rowsOfQuestions_17 : decode cX10_rowsOfQuestions 17 = .ok (.getfield 261, 3) := by decide +kernel
theorem dX10_rowsOfQuestions_20 : decode cX10_rowsOfQuestions 20 = .ok (.iconst 1, 1) := by decide +kernel
theorem dX10_rowsOfQuestions_21 : decode cX10_rowsOfQuestions 21 = .ok (.iadd, 1) := by decide +kernel
theorem dX10_rowsOfQuestions_22 : decode cX10_rowsOfQuestions 22 = .ok (.imul, 1) := by decide +kernel
theorem dX10_rowsOfQuestions_23 : decode cX10_rowsOfQuestions 23 = .ok (.istore_n 2, 1) := by decide +kernel
theorem dX10_rowsOfQuestions_24 : decode cX10_rowsOfQuestions 24 = .ok (.iinc 3 1, 3) := by decide +kernel
theorem dX10_rowsOfQuestions_27 : decode cX10_rowsOfQuestions 27 = .ok (.goto (-23), 3) := by decide +kernel
theorem dX10_rowsOfQuestions_30 : decode cX10_rowsOfQuestions 30 = .ok (.iload_n 2, 1) := by decide +kernel
theorem dX10_rowsOfQuestions_31 : decode cX10_rowsOfQuestions 31 = .ok (.bipush 64, 2) := by decide +kernel
theorem dX10_rowsOfQuestions_33 : decode cX10_rowsOfQuestions 33 = .ok (.invokestatic 437, 3) := by decide +kernel
theorem dX10_rowsOfQuestions_36 : decode cX10_rowsOfQuestions 36 = .ok (.ireturn, 1) := by decide +kernel
theorem dX10_keepQuestions_0 : decode cX10_keepQuestions 0 = .ok (.aload_n 0, 1) := by decide +kernel
theorem dX10_keepQuestions_1 : decode cX10_keepQuestions 1 = .ok (.getfield 34, 3) := by decide +kernel
theorem dX10_keepQuestions_4 : decode cX10_keepQuestions 4 = .ok (.getfield 276, 3) := by decide +kernel
theorem dX10_keepQuestions_7 : decode cX10_keepQuestions 7 = .ok (.iconst 0, 1) := by decide +kernel
theorem dX10_keepQuestions_8 : decode cX10_keepQuestions 8 = .ok (.aload_n 0, 1) := by decide +kernel
theorem dX10_keepQuestions_9 : decode cX10_keepQuestions 9 = .ok (.getfield 78, 3) := by decide +kernel
theorem dX10_keepQuestions_12 : decode cX10_keepQuestions 12 = .ok (.iconst 0, 1) := by decide +kernel
theorem dX10_keepQuestions_13 : decode cX10_keepQuestions 13 = .ok (.iload_n 1, 1) := by decide +kernel
theorem dX10_keepQuestions_14 : decode cX10_keepQuestions 14 = .ok (.invokestatic 440, 3) := by decide +kernel
theorem dX10_keepQuestions_17 : decode cX10_keepQuestions 17 = .ok (.return_, 1) := by decide +kernel
theorem dX10_restoreQuestions_0 : decode cX10_restoreQuestions 0 = .ok (.iconst 0, 1) := by decide +kernel
theorem dX10_restoreQuestions_1 : decode cX10_restoreQuestions 1 = .ok (.istore_n 2, 1) := by decide +kernel
theorem dX10_restoreQuestions_2 : decode cX10_restoreQuestions 2 = .ok (.iload_n 2, 1) := by decide +kernel
theorem dX10_restoreQuestions_3 : decode cX10_restoreQuestions 3 = .ok (.iload_n 1, 1) := by decide +kernel
theorem dX10_restoreQuestions_4 : decode cX10_restoreQuestions 4 = .ok (.if_icmp .ge 20, 3) := by decide +kernel
theorem dX10_restoreQuestions_7 : decode cX10_restoreQuestions 7 = .ok (.aload_n 0, 1) := by decide +kernel
theorem dX10_restoreQuestions_8 : decode cX10_restoreQuestions 8 = .ok (.iload_n 2, 1) := by decide +kernel
theorem dX10_restoreQuestions_9 : decode cX10_restoreQuestions 9 = .ok (.aload_n 0, 1) := by decide +kernel
theorem dX10_restoreQuestions_10 : decode cX10_restoreQuestions 10 = .ok (.getfield 78, 3) := by decide +kernel
theorem dX10_restoreQuestions_13 : decode cX10_restoreQuestions 13 = .ok (.iload_n 2, 1) := by decide +kernel
theorem dX10_restoreQuestions_14 : decode cX10_restoreQuestions 14 = .ok (.iaload, 1) := by decide +kernel
theorem dX10_restoreQuestions_15 : decode cX10_restoreQuestions 15 = .ok (.invokevirtual 172, 3) := by decide +kernel
theorem dX10_restoreQuestions_18 : decode cX10_restoreQuestions 18 = .ok (.iinc 2 1, 3) := by decide +kernel
theorem dX10_restoreQuestions_21 : decode cX10_restoreQuestions 21 = .ok (.goto (-19), 3) := by decide +kernel
theorem dX10_restoreQuestions_24 : decode cX10_restoreQuestions 24 = .ok (.return_, 1) := by decide +kernel
theorem dX10_setQuestions_0 : decode cX10_setQuestions 0 = .ok (.iconst 1, 1) := by decide +kernel
theorem dX10_setQuestions_1 : decode cX10_setQuestions 1 = .ok (.aload_n 0, 1) := by decide +kernel
theorem dX10_setQuestions_2 : decode cX10_setQuestions 2 = .ok (.getfield 34, 3) := by decide +kernel
theorem dX10_setQuestions_5 : decode cX10_setQuestions 5 = .ok (.getfield 81, 3) := by decide +kernel
theorem dX10_setQuestions_8 : decode cX10_setQuestions 8 = .ok (.getfield 261, 3) := by decide +kernel
theorem dX10_setQuestions_11 : decode cX10_setQuestions 11 = .ok (.iconst 1, 1) := by decide +kernel
theorem dX10_setQuestions_12 : decode cX10_setQuestions 12 = .ok (.iadd, 1) := by decide +kernel
theorem dX10_setQuestions_13 : decode cX10_setQuestions 13 = .ok (.invokestatic 446, 3) := by decide +kernel
theorem dX10_setQuestions_16 : decode cX10_setQuestions 16 = .ok (.istore_n 3, 1) := by decide +kernel
theorem dX10_setQuestions_17 : decode cX10_setQuestions 17 = .ok (.iload_n 2, 1) := by decide +kernel
theorem dX10_setQuestions_18 : decode cX10_setQuestions 18 = .ok (.istore 4, 2) := by decide +kernel
theorem dX10_setQuestions_20 : decode cX10_setQuestions 20 = .ok (.iload_n 1, 1) := by decide +kernel
theorem dX10_setQuestions_21 : decode cX10_setQuestions 21 = .ok (.iconst 1, 1) := by decide +kernel
theorem dX10_setQuestions_22 : decode cX10_setQuestions 22 = .ok (.isub, 1) := by decide +kernel
theorem dX10_setQuestions_23 : decode cX10_setQuestions 23 = .ok (.istore 5, 2) := by decide +kernel
theorem dX10_setQuestions_25 : decode cX10_setQuestions 25 = .ok (.iload 5, 2) := by decide +kernel
theorem dX10_setQuestions_27 : decode cX10_setQuestions 27 = .ok (.ifCond .lt 27, 3) := by decide +kernel
theorem dX10_setQuestions_30 : decode cX10_setQuestions 30 = .ok (.aload_n 0, 1) := by decide +kernel
theorem dX10_setQuestions_31 : decode cX10_setQuestions 31 = .ok (.iload 5, 2) := by decide +kernel
theorem dX10_setQuestions_33 : decode cX10_setQuestions 33 = .ok (.iload 4, 2) := by decide +kernel
theorem dX10_setQuestions_35 : decode cX10_setQuestions 35 = .ok (.iload_n 3, 1) := by decide +kernel
theorem dX10_setQuestions_36 : decode cX10_setQuestions 36 = .ok (.irem, 1) := by decide +kernel
theorem dX10_setQuestions_37 : decode cX10_setQuestions 37 = .ok (.iconst 1, 1) := by decide +kernel
theorem dX10_setQuestions_38 : decode cX10_setQuestions 38 = .ok (.isub, 1) := by decide +kernel
theorem dX10_setQuestions_39 : decode cX10_setQuestions 39 = .ok (.invokevirtual 172, 3) := by decide +kernel
theorem dX10_setQuestions_42 : decode cX10_setQuestions 42 = .ok (.iload 4, 2) := by decide +kernel
theorem dX10_setQuestions_44 : decode cX10_setQuestions 44 = .ok (.iload_n 3, 1) := by decide +kernel
theorem dX10_setQuestions_45 : decode cX10_setQuestions 45 = .ok (.idiv, 1) := by decide +kernel
theorem dX10_setQuestions_46 : decode cX10_setQuestions 46 = .ok (.istore 4, 2) := by decide +kernel
theorem dX10_setQuestions_48 : decode cX10_setQuestions 48 = .ok (.iinc 5 (-1), 3) := by decide +kernel
theorem dX10_setQuestions_51 : decode cX10_setQuestions 51 = .ok (.goto (-26), 3) := by decide +kernel
theorem dX10_setQuestions_54 : decode cX10_setQuestions 54 = .ok (.return_, 1) := by decide +kernel
theorem dX10_findFirstRows_0 : decode cX10_findFirstRows 0 = .ok (.aload_n 0, 1) := by decide +kernel
theorem dX10_findFirstRows_1 : decode cX10_findFirstRows 1 = .ok (.getfield 74, 3) := by decide +kernel
theorem dX10_findFirstRows_4 : decode cX10_findFirstRows 4 = .ok (.iconst (-1), 1) := by decide +kernel
theorem dX10_findFirstRows_5 : decode cX10_findFirstRows 5 = .ok (.invokestatic 449, 3) := by decide +kernel
theorem dX10_findFirstRows_8 : decode cX10_findFirstRows 8 = .ok (.aload_n 0, 1) := by decide +kernel
theorem dX10_findFirstRows_9 : decode cX10_findFirstRows 9 = .ok (.iload_n 1, 1) := by decide +kernel
theorem dX10_findFirstRows_10 : decode cX10_findFirstRows 10 = .ok (.invokevirtual 327, 3) := by decide +kernel
theorem dX10_findFirstRows_13 : decode cX10_findFirstRows 13 = .ok (.aload_n 0, 1) := by decide +kernel
theorem dX10_findFirstRows_14 : decode cX10_findFirstRows 14 = .ok (.iload_n 1, 1) := by decide +kernel
theorem dX10_findFirstRows_15 : decode cX10_findFirstRows 15 = .ok (.invokevirtual 330, 3) := by decide +kernel
theorem dX10_findFirstRows_18 : decode cX10_findFirstRows 18 = .ok (.istore_n 2, 1) := by decide +kernel
theorem dX10_findFirstRows_19 : decode cX10_findFirstRows 19 = .ok (.iconst 0, 1) := by decide +kernel
theorem dX10_findFirstRows_20 : decode cX10_findFirstRows 20 = .ok (.istore_n 3, 1) := by decide +kernel
theorem dX10_findFirstRows_21 : decode cX10_findFirstRows 21 = .ok (.iload_n 3, 1) := by decide +kernel
theorem dX10_findFirstRows_22 : decode cX10_findFirstRows 22 = .ok (.iload_n 2, 1) := by decide +kernel
theorem dX10_findFirstRows_23 : decode cX10_findFirstRows 23 = .ok (.if_icmp .ge 49, 3) := by decide +kernel
theorem dX10_findFirstRows_26 : decode cX10_findFirstRows 26 = .ok (.aload_n 0, 1) := by decide +kernel
theorem dX10_findFirstRows_27 : decode cX10_findFirstRows 27 = .ok (.iload_n 1, 1) := by decide +kernel
theorem dX10_findFirstRows_28 : decode cX10_findFirstRows 28 = .ok (.iload_n 3, 1) := by decide +kernel
theorem dX10_findFirstRows_29 : decode cX10_findFirstRows 29 = .ok (.invokevirtual 333, 3) := by decide +kernel
theorem dX10_findFirstRows_32 : decode cX10_findFirstRows 32 = .ok (.aload_n 0, 1) := by decide +kernel
theorem dX10_findFirstRows_33 : decode cX10_findFirstRows 33 = .ok (.getfield 47, 3) := by decide +kernel
theorem dX10_findFirstRows_36 : decode cX10_findFirstRows 36 = .ok (.iconst 0, 1) := by decide +kernel
theorem dX10_findFirstRows_37 : decode cX10_findFirstRows 37 = .ok (.invokevirtual 148, 3) := by decide +kernel
theorem dX10_findFirstRows_40 : decode cX10_findFirstRows 40 = .ok (.aload_n 0, 1) := by decide +kernel
theorem dX10_findFirstRows_41 : decode cX10_findFirstRows 41 = .ok (.iload_n 1, 1) := by decide +kernel
theorem dX10_findFirstRows_42 : decode cX10_findFirstRows 42 = .ok (.invokevirtual 455, 3) := by decide +kernel
theorem dX10_findFirstRows_45 : decode cX10_findFirstRows 45 = .ok (.istore 4, 2) := by decide +kernel
theorem dX10_findFirstRows_47 : decode cX10_findFirstRows 47 = .ok (.aload_n 0, 1) := by decide +kernel
theorem dX10_findFirstRows_48 : decode cX10_findFirstRows 48 = .ok (.getfield 74, 3) := by decide +kernel
theorem dX10_findFirstRows_51 : decode cX10_findFirstRows 51 = .ok (.iload 4, 2) := by decide +kernel
theorem dX10_findFirstRows_53 : decode cX10_findFirstRows 53 = .ok (.iaload, 1) := by decide +kernel
theorem dX10_findFirstRows_54 : decode cX10_findFirstRows 54 = .ok (.iconst (-1), 1) := by decide +kernel
theorem dX10_findFirstRows_55 : decode cX10_findFirstRows 55 = .ok (.if_icmp .ne 11, 3) := by decide +kernel
theorem dX10_findFirstRows_58 : decode cX10_findFirstRows 58 = .ok (.aload_n 0, 1) := by decide +kernel
theorem dX10_findFirstRows_59 : decode cX10_findFirstRows 59 = .ok (.getfield 74, 3) := by decide +kernel
theorem dX10_findFirstRows_62 : decode cX10_findFirstRows 62 = .ok (.iload 4, 2) := by decide +kernel
theorem dX10_findFirstRows_64 : decode cX10_findFirstRows 64 = .ok (.iload_n 3, 1) := by decide +kernel
theorem dX10_findFirstRows_65 : decode cX10_findFirstRows 65 = .ok (.iastore, 1) := by decide +kernel
theorem dX10_findFirstRows_66 : decode cX10_findFirstRows 66 = .ok (.iinc 3 1, 3) := by decide +kernel
theorem dX10_findFirstRows_69 : decode cX10_findFirstRows 69 = .ok (.goto (-48), 3) := by decide +kernel
theorem dX10_findFirstRows_72 : decode cX10_findFirstRows 72 = .ok (.aload_n 0, 1) := by decide +kernel
theorem dX10_findFirstRows_73 : decode cX10_findFirstRows 73 = .ok (.iload_n 1, 1) := by decide +kernel
theorem dX10_findFirstRows_74 : decode cX10_findFirstRows 74 = .ok (.invokevirtual 339, 3) := by decide +kernel
theorem dX10_findFirstRows_77 : decode cX10_findFirstRows 77 = .ok (.return_, 1) := by decide +kernel
theorem dX10_standsBehind_0 : decode cX10_standsBehind 0 = .ok (.aload_n 0, 1) := by decide +kernel
theorem dX10_standsBehind_1 : decode cX10_standsBehind 1 = .ok (.getfield 34, 3) := by decide +kernel
theorem dX10_standsBehind_4 : decode cX10_standsBehind 4 = .ok (.getfield 81, 3) := by decide +kernel
theorem dX10_standsBehind_7 : decode cX10_standsBehind 7 = .ok (.invokevirtual 336, 3) := by decide +kernel
theorem dX10_standsBehind_10 : decode cX10_standsBehind 10 = .ok (.istore_n 2, 1) := by decide +kernel
theorem dX10_standsBehind_11 : decode cX10_standsBehind 11 = .ok (.iconst 0, 1) := by decide +kernel
theorem dX10_standsBehind_12 : decode cX10_standsBehind 12 = .ok (.istore_n 3, 1) := by decide +kernel
theorem dX10_standsBehind_13 : decode cX10_standsBehind 13 = .ok (.iload_n 3, 1) := by decide +kernel
theorem dX10_standsBehind_14 : decode cX10_standsBehind 14 = .ok (.iload_n 1, 1) := by decide +kernel
theorem dX10_standsBehind_15 : decode cX10_standsBehind 15 = .ok (.if_icmp .ge 40, 3) := by decide +kernel
theorem dX10_standsBehind_18 : decode cX10_standsBehind 18 = .ok (.aload_n 0, 1) := by decide +kernel
theorem dX10_standsBehind_19 : decode cX10_standsBehind 19 = .ok (.getfield 34, 3) := by decide +kernel
theorem dX10_standsBehind_22 : decode cX10_standsBehind 22 = .ok (.getfield 81, 3) := by decide +kernel
theorem dX10_standsBehind_25 : decode cX10_standsBehind 25 = .ok (.getfield 434, 3) := by decide +kernel
theorem dX10_standsBehind_28 : decode cX10_standsBehind 28 = .ok (.iload_n 3, 1) := by decide +kernel
theorem dX10_standsBehind_29 : decode cX10_standsBehind 29 = .ok (.iaload, 1) := by decide +kernel
theorem dX10_standsBehind_30 : decode cX10_standsBehind 30 = .ok (.istore 4, 2) := by decide +kernel
theorem dX10_standsBehind_32 : decode cX10_standsBehind 32 = .ok (.iload 4, 2) := by decide +kernel
theorem dX10_standsBehind_34 : decode cX10_standsBehind 34 = .ok (.ifCond .lt 15, 3) := by decide +kernel
theorem dX10_standsBehind_37 : decode cX10_standsBehind 37 = .ok (.aload_n 0, 1) := by decide +kernel
theorem dX10_standsBehind_38 : decode cX10_standsBehind 38 = .ok (.getfield 47, 3) := by decide +kernel
theorem dX10_standsBehind_41 : decode cX10_standsBehind 41 = .ok (.iload_n 3, 1) := by decide +kernel
theorem dX10_standsBehind_42 : decode cX10_standsBehind 42 = .ok (.iload 4, 2) := by decide +kernel
theorem dX10_standsBehind_44 : decode cX10_standsBehind 44 = .ok (.iload_n 2, 1) := by decide +kernel
theorem dX10_standsBehind_45 : decode cX10_standsBehind 45 = .ok (.invokevirtual 152, 3) := by decide +kernel
theorem dX10_standsBehind_48 : decode cX10_standsBehind 48 = .ok (.istore_n 2, 1) := by decide +kernel
theorem dX10_standsBehind_49 : decode cX10_standsBehind 49 = .ok (.iinc 3 1, 3) := by decide +kernel
theorem dX10_standsBehind_52 : decode cX10_standsBehind 52 = .ok (.goto (-39), 3) := by decide +kernel
theorem dX10_standsBehind_55 : decode cX10_standsBehind 55 = .ok (.iload_n 2, 1) := by decide +kernel
theorem dX10_standsBehind_56 : decode cX10_standsBehind 56 = .ok (.ireturn, 1) := by decide +kernel
theorem dX10_countOthers_0 : decode cX10_countOthers 0 = .ok (.iconst 0, 1) := by decide +kernel
theorem dX10_countOthers_1 : decode cX10_countOthers 1 = .ok (.istore_n 1, 1) := by decide +kernel
theorem dX10_countOthers_2 : decode cX10_countOthers 2 = .ok (.iconst 0, 1) := by decide +kernel
theorem dX10_countOthers_3 : decode cX10_countOthers 3 = .ok (.istore_n 2, 1) := by decide +kernel
theorem dX10_countOthers_4 : decode cX10_countOthers 4 = .ok (.iload_n 2, 1) := by decide +kernel
theorem dX10_countOthers_5 : decode cX10_countOthers 5 = .ok (.aload_n 0, 1) := by decide +kernel
theorem dX10_countOthers_6 : decode cX10_countOthers 6 = .ok (.arraylength, 1) := by decide +kernel
theorem dX10_countOthers_7 : decode cX10_countOthers 7 = .ok (.if_icmp .ge 19, 3) := by decide +kernel
theorem dX10_countOthers_10 : decode cX10_countOthers 10 = .ok (.aload_n 0, 1) := by decide +kernel
theorem dX10_countOthers_11 : decode cX10_countOthers 11 = .ok (.iload_n 2, 1) := by decide +kernel
theorem dX10_countOthers_12 : decode cX10_countOthers 12 = .ok (.iaload, 1) := by decide +kernel
theorem dX10_countOthers_13 : decode cX10_countOthers 13 = .ok (.iconst (-1), 1) := by decide +kernel
theorem dX10_countOthers_14 : decode cX10_countOthers 14 = .ok (.if_icmp .eq 6, 3) := by decide +kernel
theorem dX10_countOthers_17 : decode cX10_countOthers 17 = .ok (.iinc 1 1, 3) := by decide +kernel
theorem dX10_countOthers_20 : decode cX10_countOthers 20 = .ok (.iinc 2 1, 3) := by decide +kernel
theorem dX10_countOthers_23 : decode cX10_countOthers 23 = .ok (.goto (-19), 3) := by decide +kernel
theorem dX10_countOthers_26 : decode cX10_countOthers 26 = .ok (.iload_n 1, 1) := by decide +kernel
theorem dX10_countOthers_27 : decode cX10_countOthers 27 = .ok (.ireturn, 1) := by decide +kernel
theorem dX11_thrown_0 : decode cX11_thrown 0 = .ok (.aload_n 0, 1) := by decide +kernel
theorem dX11_thrown_1 : decode cX11_thrown 1 = .ok (.getfield 1, 3) := by decide +kernel
theorem dX11_thrown_4 : decode cX11_thrown 4 = .ok (.ireturn, 1) := by decide +kernel
theorem dX11_feed_0 : decode cX11_feed 0 = .ok (.aload_n 0, 1) := by decide +kernel
theorem dX11_feed_1 : decode cX11_feed 1 = .ok (.iconst 0, 1) := by decide +kernel
theorem dX11_feed_2 : decode cX11_feed 2 = .ok (.putfield 1, 3) := by decide +kernel
theorem dX11_feed_5 : decode cX11_feed 5 = .ok (.aload_n 0, 1) := by decide +kernel
theorem dX11_feed_6 : decode cX11_feed 6 = .ok (.lload_n 1, 1) := by decide +kernel
theorem dX11_feed_7 : decode cX11_feed 7 = .ok (.invokevirtual 7, 3) := by decide +kernel
theorem dX11_feed_10 : decode cX11_feed 10 = .ok (.aload_n 0, 1) := by decide +kernel
theorem dX11_feed_11 : decode cX11_feed 11 = .ok (.lload_n 3, 1) := by decide +kernel
theorem dX11_feed_12 : decode cX11_feed 12 = .ok (.invokevirtual 7, 3) := by decide +kernel
theorem dX11_feed_15 : decode cX11_feed 15 = .ok (.aload_n 0, 1) := by decide +kernel
theorem dX11_feed_16 : decode cX11_feed 16 = .ok (.lload 5, 2) := by decide +kernel
theorem dX11_feed_18 : decode cX11_feed 18 = .ok (.invokevirtual 7, 3) := by decide +kernel
theorem dX11_feed_21 : decode cX11_feed 21 = .ok (.aload_n 0, 1) := by decide +kernel
theorem dX11_feed_22 : decode cX11_feed 22 = .ok (.getfield 11, 3) := by decide +kernel
theorem dX11_feed_25 : decode cX11_feed 25 = .ok (.ireturn, 1) := by decide +kernel
theorem dX11_lay_0 : decode cX11_lay 0 = .ok (.bipush 56, 2) := by decide +kernel
theorem dX11_lay_2 : decode cX11_lay 2 = .ok (.istore_n 3, 1) := by decide +kernel
theorem dX11_lay_3 : decode cX11_lay 3 = .ok (.iload_n 3, 1) := by decide +kernel
theorem dX11_lay_4 : decode cX11_lay 4 = .ok (.ifCond .lt 71, 3) := by decide +kernel
theorem dX11_lay_7 : decode cX11_lay 7 = .ok (.lload_n 1, 1) := by decide +kernel
theorem dX11_lay_8 : decode cX11_lay 8 = .ok (.iload_n 3, 1) := by decide +kernel
theorem dX11_lay_9 : decode cX11_lay 9 = .ok (.lshr, 1) := by decide +kernel
theorem dX11_lay_10 : decode cX11_lay 10 = .ok (.l2i, 1) := by decide +kernel
theorem dX11_lay_11 : decode cX11_lay 11 = .ok (.sipush 255, 3) := by decide +kernel
theorem dX11_lay_14 : decode cX11_lay 14 = .ok (.iand, 1) := by decide +kernel
theorem dX11_lay_15 : decode cX11_lay 15 = .ok (.istore 4, 2) := by decide +kernel
theorem dX11_lay_17 : decode cX11_lay 17 = .ok (.iload 4, 2) := by decide +kernel
theorem dX11_lay_19 : decode cX11_lay 19 = .ok (.bipush 10, 2) := by decide +kernel
theorem dX11_lay_21 : decode cX11_lay 21 = .ok (.if_icmp .eq 17, 3) := by decide +kernel
theorem dX11_lay_24 : decode cX11_lay 24 = .ok (.iload 4, 2) := by decide +kernel
theorem dX11_lay_26 : decode cX11_lay 26 = .ok (.bipush 32, 2) := by decide +kernel
theorem dX11_lay_28 : decode cX11_lay 28 = .ok (.if_icmp .lt 41, 3) := by decide +kernel
theorem dX11_lay_31 : decode cX11_lay 31 = .ok (.iload 4, 2) := by decide +kernel
theorem dX11_lay_33 : decode cX11_lay 33 = .ok (.bipush 126, 2) := by decide +kernel
theorem dX11_lay_35 : decode cX11_lay 35 = .ok (.if_icmp .gt 34, 3) := by decide +kernel
theorem dX11_lay_38 : decode cX11_lay 38 = .ok (.aload_n 0, 1) := by decide +kernel
theorem dX11_lay_39 : decode cX11_lay 39 = .ok (.getfield 11, 3) := by decide +kernel
theorem dX11_lay_42 : decode cX11_lay 42 = .ok (.sipush 1000, 3) := by decide +kernel
theorem dX11_lay_45 : decode cX11_lay 45 = .ok (.if_icmp .ge 24, 3) := by decide +kernel
theorem dX11_lay_48 : decode cX11_lay 48 = .ok (.aload_n 0, 1) := by decide +kernel
theorem dX11_lay_49 : decode cX11_lay 49 = .ok (.getfield 14, 3) := by decide +kernel
theorem dX11_lay_52 : decode cX11_lay 52 = .ok (.aload_n 0, 1) := by decide +kernel
theorem dX11_lay_53 : decode cX11_lay 53 = .ok (.getfield 11, 3) := by decide +kernel
theorem dX11_lay_56 : decode cX11_lay 56 = .ok (.iload 4, 2) := by decide +kernel
theorem dX11_lay_58 : decode cX11_lay 58 = .ok (.iastore, 1) := by decide +kernel
theorem dX11_lay_59 : decode cX11_lay 59 = .ok (.aload_n 0, 1) := by decide +kernel
theorem dX11_lay_60 : decode cX11_lay 60 = .ok (.dup, 1) := by decide +kernel
theorem dX11_lay_61 : decode cX11_lay 61 = .ok (.getfield 11, 3) := by decide +kernel
theorem dX11_lay_64 : decode cX11_lay 64 = .ok (.iconst 1, 1) := by decide +kernel
theorem dX11_lay_65 : decode cX11_lay 65 = .ok (.iadd, 1) := by decide +kernel
theorem dX11_lay_66 : decode cX11_lay 66 = .ok (.putfield 11, 3) := by decide +kernel
theorem dX11_lay_69 : decode cX11_lay 69 = .ok (.iinc 3 (-8), 3) := by decide +kernel
theorem dX11_lay_72 : decode cX11_lay 72 = .ok (.goto (-69), 3) := by decide +kernel
theorem dX11_lay_75 : decode cX11_lay 75 = .ok (.return_, 1) := by decide +kernel
theorem dX11_init_0 : decode cX11_init 0 = .ok (.aload_n 0, 1) := by decide +kernel
theorem dX11_init_1 : decode cX11_init 1 = .ok (.invokespecial 18, 3) := by decide +kernel
theorem dX11_init_4 : decode cX11_init 4 = .ok (.aload_n 0, 1) := by decide +kernel
theorem dX11_init_5 : decode cX11_init 5 = .ok (.sipush 1000, 3) := by decide +kernel
theorem dX11_init_8 : decode cX11_init 8 = .ok (.newarray .int, 2) := by decide +kernel
theorem dX11_init_10 : decode cX11_init 10 = .ok (.putfield 14, 3) := by decide +kernel
theorem dX11_init_13 : decode cX11_init 13 = .ok (.aload_n 0, 1) := by decide +kernel
theorem dX11_init_14 : decode cX11_init 14 = .ok (.sipush 1002, 3) := by decide +kernel
theorem dX11_init_17 : decode cX11_init 17 = .ok (.newarray .int, 2) := by decide +kernel
theorem dX11_init_19 : decode cX11_init 19 = .ok (.putfield 24, 3) := by decide +kernel
theorem dX11_init_22 : decode cX11_init 22 = .ok (.aload_n 0, 1) := by decide +kernel
theorem dX11_init_23 : decode cX11_init 23 = .ok (.sipush 1002, 3) := by decide +kernel
theorem dX11_init_26 : decode cX11_init 26 = .ok (.newarray .int, 2) := by decide +kernel
theorem dX11_init_28 : decode cX11_init 28 = .ok (.putfield 27, 3) := by decide +kernel
theorem dX11_init_31 : decode cX11_init 31 = .ok (.aload_n 0, 1) := by decide +kernel
theorem dX11_init_32 : decode cX11_init 32 = .ok (.sipush 1002, 3) := by decide +kernel
theorem dX11_init_35 : decode cX11_init 35 = .ok (.newarray .long, 2) := by decide +kernel
theorem dX11_init_37 : decode cX11_init 37 = .ok (.putfield 30, 3) := by decide +kernel
theorem dX11_init_40 : decode cX11_init 40 = .ok (.aload_n 0, 1) := by decide +kernel
theorem dX11_init_41 : decode cX11_init 41 = .ok (.bipush 18, 2) := by decide +kernel
theorem dX11_init_43 : decode cX11_init 43 = .ok (.newarray .long, 2) := by decide +kernel
theorem dX11_init_45 : decode cX11_init 45 = .ok (.dup, 1) := by decide +kernel
theorem dX11_init_46 : decode cX11_init 46 = .ok (.iconst 0, 1) := by decide +kernel
theorem dX11_init_47 : decode cX11_init 47 = .ok (.ldc2_w 34, 3) := by decide +kernel
theorem dX11_init_50 : decode cX11_init 50 = .ok (.lastore, 1) := by decide +kernel
theorem dX11_init_51 : decode cX11_init 51 = .ok (.dup, 1) := by decide +kernel
theorem dX11_init_52 : decode cX11_init 52 = .ok (.iconst 1, 1) := by decide +kernel
theorem dX11_init_53 : decode cX11_init 53 = .ok (.ldc2_w 36, 3) := by decide +kernel
theorem dX11_init_56 : decode cX11_init 56 = .ok (.lastore, 1) := by decide +kernel
theorem dX11_init_57 : decode cX11_init 57 = .ok (.dup, 1) := by decide +kernel
theorem dX11_init_58 : decode cX11_init 58 = .ok (.iconst 2, 1) := by decide +kernel
theorem dX11_init_59 : decode cX11_init 59 = .ok (.ldc2_w 38, 3) := by decide +kernel
theorem dX11_init_62 : decode cX11_init 62 = .ok (.lastore, 1) := by decide +kernel
theorem dX11_init_63 : decode cX11_init 63 = .ok (.dup, 1) := by decide +kernel
theorem dX11_init_64 : decode cX11_init 64 = .ok (.iconst 3, 1) := by decide +kernel
theorem dX11_init_65 : decode cX11_init 65 = .ok (.ldc2_w 40, 3) := by decide +kernel
theorem dX11_init_68 : decode cX11_init 68 = .ok (.lastore, 1) := by decide +kernel
theorem dX11_init_69 : decode cX11_init 69 = .ok (.dup, 1) := by decide +kernel
theorem dX11_init_70 : decode cX11_init 70 = .ok (.iconst 4, 1) := by decide +kernel
theorem dX11_init_71 : decode cX11_init 71 = .ok (.ldc2_w 42, 3) := by decide +kernel
theorem dX11_init_74 : decode cX11_init 74 = .ok (.lastore, 1) := by decide +kernel
theorem dX11_init_75 : decode cX11_init 75 = .ok (.dup, 1) := by decide +kernel
theorem dX11_init_76 : decode cX11_init 76 = .ok (.iconst 5, 1) := by decide +kernel
theorem dX11_init_77 : decode cX11_init 77 = .ok (.ldc2_w 44, 3) := by decide +kernel
theorem dX11_init_80 : decode cX11_init 80 = .ok (.lastore, 1) := by decide +kernel
theorem dX11_init_81 : decode cX11_init 81 = .ok (.dup, 1) := by decide +kernel
theorem dX11_init_82 : decode cX11_init 82 = .ok (.bipush 6, 2) := by decide +kernel
theorem dX11_init_84 : decode cX11_init 84 = .ok (.ldc2_w 46, 3) := by decide +kernel
theorem dX11_init_87 : decode cX11_init 87 = .ok (.lastore, 1) := by decide +kernel
theorem dX11_init_88 : decode cX11_init 88 = .ok (.dup, 1) := by decide +kernel
theorem dX11_init_89 : decode cX11_init 89 = .ok (.bipush 7, 2) := by decide +kernel
theorem dX11_init_91 : decode cX11_init 91 = .ok (.ldc2_w 48, 3) := by decide +kernel
theorem dX11_init_94 : decode cX11_init 94 = .ok (.lastore, 1) := by decide +kernel
theorem dX11_init_95 : decode cX11_init 95 = .ok (.dup, 1) := by decide +kernel
theorem dX11_init_96 : decode cX11_init 96 = .ok (.bipush 8, 2) := by decide +kernel
theorem dX11_init_98 : decode cX11_init 98 = .ok (.ldc2_w 50, 3) := by decide +kernel
theorem dX11_init_101 : decode cX11_init 101 = .ok (.lastore, 1) := by decide +kernel
theorem dX11_init_102 : decode cX11_init 102 = .ok (.dup, 1) := by decide +kernel
theorem dX11_init_103 : decode cX11_init 103 = .ok (.bipush 9, 2) := by decide +kernel
theorem dX11_init_105 : decode cX11_init 105 = .ok (.ldc2_w 52, 3) := by decide +kernel
theorem dX11_init_108 : decode cX11_init 108 = .ok (.lastore, 1) := by decide +kernel
theorem dX11_init_109 : decode cX11_init 109 = .ok (.dup, 1) := by decide +kernel
theorem dX11_init_110 : decode cX11_init 110 = .ok (.bipush 10, 2) := by decide +kernel
theorem dX11_init_112 : decode cX11_init 112 = .ok (.ldc2_w 54, 3) := by decide +kernel
theorem dX11_init_115 : decode cX11_init 115 = .ok (.lastore, 1) := by decide +kernel
theorem dX11_init_116 : decode cX11_init 116 = .ok (.dup, 1) := by decide +kernel
theorem dX11_init_117 : decode cX11_init 117 = .ok (.bipush 11, 2) := by decide +kernel
theorem dX11_init_119 : decode cX11_init 119 = .ok (.ldc2_w 56, 3) := by decide +kernel
theorem dX11_init_122 : decode cX11_init 122 = .ok (.lastore, 1) := by decide +kernel
theorem dX11_init_123 : decode cX11_init 123 = .ok (.dup, 1) := by decide +kernel
theorem dX11_init_124 : decode cX11_init 124 = .ok (.bipush 12, 2) := by decide +kernel
theorem dX11_init_126 : decode cX11_init 126 = .ok (.ldc2_w 58, 3) := by decide +kernel
theorem dX11_init_129 : decode cX11_init 129 = .ok (.lastore, 1) := by decide +kernel
theorem dX11_init_130 : decode cX11_init 130 = .ok (.dup, 1) := by decide +kernel
theorem dX11_init_131 : decode cX11_init 131 = .ok (.bipush 13, 2) := by decide +kernel
theorem dX11_init_133 : decode cX11_init 133 = .ok (.ldc2_w 60, 3) := by decide +kernel
theorem dX11_init_136 : decode cX11_init 136 = .ok (.lastore, 1) := by decide +kernel
theorem dX11_init_137 : decode cX11_init 137 = .ok (.dup, 1) := by decide +kernel
theorem dX11_init_138 : decode cX11_init 138 = .ok (.bipush 14, 2) := by decide +kernel
theorem dX11_init_140 : decode cX11_init 140 = .ok (.ldc2_w 62, 3) := by decide +kernel
theorem dX11_init_143 : decode cX11_init 143 = .ok (.lastore, 1) := by decide +kernel
theorem dX11_init_144 : decode cX11_init 144 = .ok (.dup, 1) := by decide +kernel
theorem dX11_init_145 : decode cX11_init 145 = .ok (.bipush 15, 2) := by decide +kernel
theorem dX11_init_147 : decode cX11_init 147 = .ok (.ldc2_w 64, 3) := by decide +kernel
theorem dX11_init_150 : decode cX11_init 150 = .ok (.lastore, 1) := by decide +kernel
theorem dX11_init_151 : decode cX11_init 151 = .ok (.dup, 1) := by decide +kernel
theorem dX11_init_152 : decode cX11_init 152 = .ok (.bipush 16, 2) := by decide +kernel
theorem dX11_init_154 : decode cX11_init 154 = .ok (.ldc2_w 66, 3) := by decide +kernel
theorem dX11_init_157 : decode cX11_init 157 = .ok (.lastore, 1) := by decide +kernel
theorem dX11_init_158 : decode cX11_init 158 = .ok (.dup, 1) := by decide +kernel
theorem dX11_init_159 : decode cX11_init 159 = .ok (.bipush 17, 2) := by decide +kernel
theorem dX11_init_161 : decode cX11_init 161 = .ok (.ldc2_w 68, 3) := by decide +kernel
theorem dX11_init_164 : decode cX11_init 164 = .ok (.lastore, 1) := by decide +kernel
theorem dX11_init_165 : decode cX11_init 165 = .ok (.putfield 70, 3) := by decide +kernel
theorem dX11_init_168 : decode cX11_init 168 = .ok (.aload_n 0, 1) := by decide +kernel
theorem dX11_init_169 : decode cX11_init 169 = .ok (.sipush 480, 3) := by decide +kernel
theorem dX11_init_172 : decode cX11_init 172 = .ok (.newarray .int, 2) := by decide +kernel
theorem dX11_init_174 : decode cX11_init 174 = .ok (.putfield 73, 3) := by decide +kernel
theorem dX11_init_177 : decode cX11_init 177 = .ok (.aload_n 0, 1) := by decide +kernel
theorem dX11_init_178 : decode cX11_init 178 = .ok (.sipush 6600, 3) := by decide +kernel
theorem dX11_init_181 : decode cX11_init 181 = .ok (.newarray .int, 2) := by decide +kernel
theorem dX11_init_183 : decode cX11_init 183 = .ok (.putfield 76, 3) := by decide +kernel
theorem dX11_init_186 : decode cX11_init 186 = .ok (.aload_n 0, 1) := by decide +kernel
theorem dX11_init_187 : decode cX11_init 187 = .ok (.sipush 6600, 3) := by decide +kernel
theorem dX11_init_190 : decode cX11_init 190 = .ok (.newarray .int, 2) := by decide +kernel
theorem dX11_init_192 : decode cX11_init 192 = .ok (.putfield 79, 3) := by decide +kernel
theorem dX11_init_195 : decode cX11_init 195 = .ok (.aload_n 0, 1) := by decide +kernel
theorem dX11_init_196 : decode cX11_init 196 = .ok (.bipush 7, 2) := by decide +kernel
theorem dX11_init_198 : decode cX11_init 198 = .ok (.newarray .long, 2) := by decide +kernel
theorem dX11_init_200 : decode cX11_init 200 = .ok (.putfield 82, 3) := by decide +kernel
theorem dX11_init_203 : decode cX11_init 203 = .ok (.aload_n 0, 1) := by decide +kernel
theorem dX11_init_204 : decode cX11_init 204 = .ok (.iconst 4, 1) := by decide +kernel
theorem dX11_init_205 : decode cX11_init 205 = .ok (.newarray .boolean, 2) := by decide +kernel
theorem dX11_init_207 : decode cX11_init 207 = .ok (.putfield 85, 3) := by decide +kernel
theorem dX11_init_210 : decode cX11_init 210 = .ok (.aload_n 0, 1) := by decide +kernel
theorem dX11_init_211 : decode cX11_init 211 = .ok (.iconst 5, 1) := by decide +kernel
theorem dX11_init_212 : decode cX11_init 212 = .ok (.newarray .int, 2) := by decide +kernel
theorem dX11_init_214 : decode cX11_init 214 = .ok (.putfield 89, 3) := by decide +kernel
theorem dX11_init_217 : decode cX11_init 217 = .ok (.aload_n 0, 1) := by decide +kernel
theorem dX11_init_218 : decode cX11_init 218 = .ok (.sipush 1100, 3) := by decide +kernel
theorem dX11_init_221 : decode cX11_init 221 = .ok (.newarray .int, 2) := by decide +kernel
theorem dX11_init_223 : decode cX11_init 223 = .ok (.putfield 92, 3) := by decide +kernel
theorem dX11_init_226 : decode cX11_init 226 = .ok (.aload_n 0, 1) := by decide +kernel
theorem dX11_init_227 : decode cX11_init 227 = .ok (.sipush 10368, 3) := by decide +kernel
theorem dX11_init_230 : decode cX11_init 230 = .ok (.newarray .int, 2) := by decide +kernel
theorem dX11_init_232 : decode cX11_init 232 = .ok (.putfield 95, 3) := by decide +kernel
theorem dX11_init_235 : decode cX11_init 235 = .ok (.aload_n 0, 1) := by decide +kernel
theorem dX11_init_236 : decode cX11_init 236 = .ok (.bipush 27, 2) := by decide +kernel
theorem dX11_init_238 : decode cX11_init 238 = .ok (.newarray .boolean, 2) := by decide +kernel
theorem dX11_init_240 : decode cX11_init 240 = .ok (.putfield 98, 3) := by decide +kernel
theorem dX11_init_243 : decode cX11_init 243 = .ok (.aload_n 0, 1) := by decide +kernel
theorem dX11_init_244 : decode cX11_init 244 = .ok (.sipush 1728, 3) := by decide +kernel
theorem dX11_init_247 : decode cX11_init 247 = .ok (.newarray .int, 2) := by decide +kernel
theorem dX11_init_249 : decode cX11_init 249 = .ok (.putfield 101, 3) := by decide +kernel
theorem dX11_init_252 : decode cX11_init 252 = .ok (.aload_n 0, 1) := by decide +kernel
theorem dX11_init_253 : decode cX11_init 253 = .ok (.sipush 12852, 3) := by decide +kernel
theorem dX11_init_256 : decode cX11_init 256 = .ok (.newarray .long, 2) := by decide +kernel
theorem dX11_init_258 : decode cX11_init 258 = .ok (.putfield 104, 3) := by decide +kernel
theorem dX11_init_261 : decode cX11_init 261 = .ok (.aload_n 0, 1) := by decide +kernel
theorem dX11_init_262 : decode cX11_init 262 = .ok (.bipush 8, 2) := by decide +kernel
theorem dX11_init_264 : decode cX11_init 264 = .ok (.newarray .long, 2) := by decide +kernel
theorem dX11_init_266 : decode cX11_init 266 = .ok (.dup, 1) := by decide +kernel
theorem dX11_init_267 : decode cX11_init 267 = .ok (.iconst 0, 1) := by decide +kernel
theorem dX11_init_268 : decode cX11_init 268 = .ok (.lconst 1, 1) := by decide +kernel
theorem dX11_init_269 : decode cX11_init 269 = .ok (.lastore, 1) := by decide +kernel
theorem dX11_init_270 : decode cX11_init 270 = .ok (.dup, 1) := by decide +kernel
theorem dX11_init_271 : decode cX11_init 271 = .ok (.iconst 1, 1) := by decide +kernel
theorem dX11_init_272 : decode cX11_init 272 = .ok (.ldc2_w 107, 3) := by decide +kernel
theorem dX11_init_275 : decode cX11_init 275 = .ok (.lastore, 1) := by decide +kernel
theorem dX11_init_276 : decode cX11_init 276 = .ok (.dup, 1) := by decide +kernel
theorem dX11_init_277 : decode cX11_init 277 = .ok (.iconst 2, 1) := by decide +kernel
theorem dX11_init_278 : decode cX11_init 278 = .ok (.ldc2_w 109, 3) := by decide +kernel
theorem dX11_init_281 : decode cX11_init 281 = .ok (.lastore, 1) := by decide +kernel
theorem dX11_init_282 : decode cX11_init 282 = .ok (.dup, 1) := by decide +kernel
theorem dX11_init_283 : decode cX11_init 283 = .ok (.iconst 3, 1) := by decide +kernel
theorem dX11_init_284 : decode cX11_init 284 = .ok (.ldc2_w 111, 3) := by decide +kernel
theorem dX11_init_287 : decode cX11_init 287 = .ok (.lastore, 1) := by decide +kernel
theorem dX11_init_288 : decode cX11_init 288 = .ok (.dup, 1) := by decide +kernel
theorem dX11_init_289 : decode cX11_init 289 = .ok (.iconst 4, 1) := by decide +kernel
theorem dX11_init_290 : decode cX11_init 290 = .ok (.ldc2_w 113, 3) := by decide +kernel
theorem dX11_init_293 : decode cX11_init 293 = .ok (.lastore, 1) := by decide +kernel
theorem dX11_init_294 : decode cX11_init 294 = .ok (.dup, 1) := by decide +kernel
theorem dX11_init_295 : decode cX11_init 295 = .ok (.iconst 5, 1) := by decide +kernel
theorem dX11_init_296 : decode cX11_init 296 = .ok (.ldc2_w 115, 3) := by decide +kernel
theorem dX11_init_299 : decode cX11_init 299 = .ok (.lastore, 1) := by decide +kernel
theorem dX11_init_300 : decode cX11_init 300 = .ok (.dup, 1) := by decide +kernel
theorem dX11_init_301 : decode cX11_init 301 = .ok (.bipush 6, 2) := by decide +kernel
theorem dX11_init_303 : decode cX11_init 303 = .ok (.ldc2_w 117, 3) := by decide +kernel
theorem dX11_init_306 : decode cX11_init 306 = .ok (.lastore, 1) := by decide +kernel
theorem dX11_init_307 : decode cX11_init 307 = .ok (.dup, 1) := by decide +kernel
theorem dX11_init_308 : decode cX11_init 308 = .ok (.bipush 7, 2) := by decide +kernel
theorem dX11_init_310 : decode cX11_init 310 = .ok (.ldc2_w 119, 3) := by decide +kernel
theorem dX11_init_313 : decode cX11_init 313 = .ok (.lastore, 1) := by decide +kernel
theorem dX11_init_314 : decode cX11_init 314 = .ok (.putfield 121, 3) := by decide +kernel
theorem dX11_init_317 : decode cX11_init 317 = .ok (.aload_n 0, 1) := by decide +kernel
theorem dX11_init_318 : decode cX11_init 318 = .ok (.bipush 27, 2) := by decide +kernel
theorem dX11_init_320 : decode cX11_init 320 = .ok (.newarray .long, 2) := by decide +kernel
theorem dX11_init_322 : decode cX11_init 322 = .ok (.putfield 124, 3) := by decide +kernel
theorem dX11_init_325 : decode cX11_init 325 = .ok (.aload_n 0, 1) := by decide +kernel
theorem dX11_init_326 : decode cX11_init 326 = .ok (.bipush 27, 2) := by decide +kernel
theorem dX11_init_328 : decode cX11_init 328 = .ok (.newarray .long, 2) := by decide +kernel
theorem dX11_init_330 : decode cX11_init 330 = .ok (.putfield 127, 3) := by decide +kernel
theorem dX11_init_333 : decode cX11_init 333 = .ok (.aload_n 0, 1) := by decide +kernel
theorem dX11_init_334 : decode cX11_init 334 = .ok (.bipush 16, 2) := by decide +kernel
theorem dX11_init_336 : decode cX11_init 336 = .ok (.newarray .int, 2) := by decide +kernel
theorem dX11_init_338 : decode cX11_init 338 = .ok (.putfield 130, 3) := by decide +kernel
theorem dX11_init_341 : decode cX11_init 341 = .ok (.aload_n 0, 1) := by decide +kernel
theorem dX11_init_342 : decode cX11_init 342 = .ok (.bipush 16, 2) := by decide +kernel
theorem dX11_init_344 : decode cX11_init 344 = .ok (.newarray .int, 2) := by decide +kernel
theorem dX11_init_346 : decode cX11_init 346 = .ok (.putfield 133, 3) := by decide +kernel
theorem dX11_init_349 : decode cX11_init 349 = .ok (.aload_n 0, 1) := by decide +kernel
theorem dX11_init_350 : decode cX11_init 350 = .ok (.bipush 16, 2) := by decide +kernel
theorem dX11_init_352 : decode cX11_init 352 = .ok (.newarray .int, 2) := by decide +kernel
theorem dX11_init_354 : decode cX11_init 354 = .ok (.putfield 136, 3) := by decide +kernel
theorem dX11_init_357 : decode cX11_init 357 = .ok (.aload_n 0, 1) := by decide +kernel
theorem dX11_init_358 : decode cX11_init 358 = .ok (.bipush 16, 2) := by decide +kernel
theorem dX11_init_360 : decode cX11_init 360 = .ok (.newarray .int, 2) := by decide +kernel
theorem dX11_init_362 : decode cX11_init 362 = .ok (.putfield 139, 3) := by decide +kernel
theorem dX11_init_365 : decode cX11_init 365 = .ok (.aload_n 0, 1) := by decide +kernel
theorem dX11_init_366 : decode cX11_init 366 = .ok (.bipush 16, 2) := by decide +kernel
theorem dX11_init_368 : decode cX11_init 368 = .ok (.newarray .int, 2) := by decide +kernel
theorem dX11_init_370 : decode cX11_init 370 = .ok (.putfield 142, 3) := by decide +kernel
theorem dX11_init_373 : decode cX11_init 373 = .ok (.aload_n 0, 1) := by decide +kernel
theorem dX11_init_374 : decode cX11_init 374 = .ok (.iconst 3, 1) := by decide +kernel
theorem dX11_init_375 : decode cX11_init 375 = .ok (.newarray .int, 2) := by decide +kernel
theorem dX11_init_377 : decode cX11_init 377 = .ok (.putfield 145, 3) := by decide +kernel
theorem dX11_init_380 : decode cX11_init 380 = .ok (.aload_n 0, 1) := by decide +kernel
theorem dX11_init_381 : decode cX11_init 381 = .ok (.bipush 48, 2) := by decide +kernel
theorem dX11_init_383 : decode cX11_init 383 = .ok (.newarray .int, 2) := by decide +kernel
theorem dX11_init_385 : decode cX11_init 385 = .ok (.putfield 148, 3) := by decide +kernel
theorem dX11_init_388 : decode cX11_init 388 = .ok (.aload_n 0, 1) := by decide +kernel
theorem dX11_init_389 : decode cX11_init 389 = .ok (.bipush 16, 2) := by decide +kernel
theorem dX11_init_391 : decode cX11_init 391 = .ok (.newarray .int, 2) := by decide +kernel
theorem dX11_init_393 : decode cX11_init 393 = .ok (.putfield 151, 3) := by decide +kernel
theorem dX11_init_396 : decode cX11_init 396 = .ok (.aload_n 0, 1) := by decide +kernel
theorem dX11_init_397 : decode cX11_init 397 = .ok (.iconst 4, 1) := by decide +kernel
theorem dX11_init_398 : decode cX11_init 398 = .ok (.newarray .boolean, 2) := by decide +kernel
theorem dX11_init_400 : decode cX11_init 400 = .ok (.putfield 154, 3) := by decide +kernel
theorem dX11_init_403 : decode cX11_init 403 = .ok (.aload_n 0, 1) := by decide +kernel
theorem dX11_init_404 : decode cX11_init 404 = .ok (.iconst 4, 1) := by decide +kernel
theorem dX11_init_405 : decode cX11_init 405 = .ok (.newarray .int, 2) := by decide +kernel
theorem dX11_init_407 : decode cX11_init 407 = .ok (.putfield 157, 3) := by decide +kernel
theorem dX11_init_410 : decode cX11_init 410 = .ok (.aload_n 0, 1) := by decide +kernel
theorem dX11_init_411 : decode cX11_init 411 = .ok (.sipush 192, 3) := by decide +kernel
theorem dX11_init_414 : decode cX11_init 414 = .ok (.newarray .int, 2) := by decide +kernel
theorem dX11_init_416 : decode cX11_init 416 = .ok (.putfield 160, 3) := by decide +kernel
theorem dX11_init_419 : decode cX11_init 419 = .ok (.aload_n 0, 1) := by decide +kernel
theorem dX11_init_420 : decode cX11_init 420 = .ok (.getfield 73, 3) := by decide +kernel
theorem dX11_init_423 : decode cX11_init 423 = .ok (.bipush 27, 2) := by decide +kernel
theorem dX11_init_425 : decode cX11_init 425 = .ok (.iconst 4, 1) := by decide +kernel
theorem dX11_init_426 : decode cX11_init 426 = .ok (.iastore, 1) := by decide +kernel
theorem dX11_init_427 : decode cX11_init 427 = .ok (.aload_n 0, 1) := by decide +kernel
theorem dX11_init_428 : decode cX11_init 428 = .ok (.getfield 73, 3) := by decide +kernel
theorem dX11_init_431 : decode cX11_init 431 = .ok (.bipush 28, 2) := by decide +kernel
theorem dX11_init_433 : decode cX11_init 433 = .ok (.bipush 8, 2) := by decide +kernel
theorem dX11_init_435 : decode cX11_init 435 = .ok (.iastore, 1) := by decide +kernel
theorem dX11_init_436 : decode cX11_init 436 = .ok (.aload_n 0, 1) := by decide +kernel
theorem dX11_init_437 : decode cX11_init 437 = .ok (.iconst 1, 1) := by decide +kernel
theorem dX11_init_438 : decode cX11_init 438 = .ok (.putfield 163, 3) := by decide +kernel
theorem dX11_init_441 : decode cX11_init 441 = .ok (.aload_n 0, 1) := by decide +kernel
theorem dX11_init_442 : decode cX11_init 442 = .ok (.iconst 1, 1) := by decide +kernel
theorem dX11_init_443 : decode cX11_init 443 = .ok (.putfield 167, 3) := by decide +kernel
theorem dX11_init_446 : decode cX11_init 446 = .ok (.return_, 1) := by decide +kernel
theorem dX11_isLetter_0 : decode cX11_isLetter 0 = .ok (.iload_n 0, 1) := by decide +kernel
theorem dX11_isLetter_1 : decode cX11_isLetter 1 = .ok (.bipush 97, 2) := by decide +kernel
theorem dX11_isLetter_3 : decode cX11_isLetter 3 = .ok (.if_icmp .lt 13, 3) := by decide +kernel
theorem dX11_isLetter_6 : decode cX11_isLetter 6 = .ok (.iload_n 0, 1) := by decide +kernel
theorem dX11_isLetter_7 : decode cX11_isLetter 7 = .ok (.bipush 122, 2) := by decide +kernel
theorem dX11_isLetter_9 : decode cX11_isLetter 9 = .ok (.if_icmp .gt 7, 3) := by decide +kernel
theorem dX11_isLetter_12 : decode cX11_isLetter 12 = .ok (.iconst 1, 1) := by decide +kernel
theorem dX11_isLetter_13 : decode cX11_isLetter 13 = .ok (.goto 4, 3) := by decide +kernel
theorem dX11_isLetter_16 : decode cX11_isLetter 16 = .ok (.iconst 0, 1) := by decide +kernel
theorem dX11_isLetter_17 : decode cX11_isLetter 17 = .ok (.ireturn, 1) := by decide +kernel
theorem dX11_isDigit_0 : decode cX11_isDigit 0 = .ok (.iload_n 0, 1) := by decide +kernel
theorem dX11_isDigit_1 : decode cX11_isDigit 1 = .ok (.bipush 48, 2) := by decide +kernel
theorem dX11_isDigit_3 : decode cX11_isDigit 3 = .ok (.if_icmp .lt 13, 3) := by decide +kernel
theorem dX11_isDigit_6 : decode cX11_isDigit 6 = .ok (.iload_n 0, 1) := by decide +kernel
theorem dX11_isDigit_7 : decode cX11_isDigit 7 = .ok (.bipush 57, 2) := by decide +kernel
theorem dX11_isDigit_9 : decode cX11_isDigit 9 = .ok (.if_icmp .gt 7, 3) := by decide +kernel
theorem dX11_isDigit_12 : decode cX11_isDigit 12 = .ok (.iconst 1, 1) := by decide +kernel
theorem dX11_isDigit_13 : decode cX11_isDigit 13 = .ok (.goto 4, 3) := by decide +kernel
theorem dX11_isDigit_16 : decode cX11_isDigit 16 = .ok (.iconst 0, 1) := by decide +kernel
theorem dX11_isDigit_17 : decode cX11_isDigit 17 = .ok (.ireturn, 1) := by decide +kernel
theorem dX11_rank_0 : decode cX11_rank 0 = .ok (.iload_n 0, 1) := by decide +kernel
theorem dX11_rank_1 : decode cX11_rank 1 = .ok (.invokestatic 170, 3) := by decide +kernel
theorem dX11_rank_4 : decode cX11_rank 4 = .ok (.ifCond .eq 10, 3) := by decide +kernel
theorem dX11_rank_7 : decode cX11_rank 7 = .ok (.iload_n 0, 1) := by decide +kernel
theorem dX11_rank_8 : decode cX11_rank 8 = .ok (.bipush 96, 2) := by decide +kernel
theorem dX11_rank_10 : decode cX11_rank 10 = .ok (.isub, 1) := by decide +kernel
theorem dX11_rank_11 : decode cX11_rank 11 = .ok (.goto 7, 3) := by decide +kernel
theorem dX11_rank_14 : decode cX11_rank 14 = .ok (.iload_n 0, 1) := by decide +kernel
theorem dX11_rank_15 : decode cX11_rank 15 = .ok (.bipush 21, 2) := by decide +kernel
theorem dX11_rank_17 : decode cX11_rank 17 = .ok (.isub, 1) := by decide +kernel
theorem dX11_rank_18 : decode cX11_rank 18 = .ok (.ireturn, 1) := by decide +kernel
theorem dX11_isSignOf_0 : decode cX11_isSignOf 0 = .ok (.iload_n 0, 1) := by decide +kernel
theorem dX11_isSignOf_1 : decode cX11_isSignOf 1 = .ok (.bipush 40, 2) := by decide +kernel
theorem dX11_isSignOf_3 : decode cX11_isSignOf 3 = .ok (.if_icmp .eq 45, 3) := by decide +kernel
theorem dX11_isSignOf_6 : decode cX11_isSignOf 6 = .ok (.iload_n 0, 1) := by decide +kernel
theorem dX11_isSignOf_7 : decode cX11_isSignOf 7 = .ok (.bipush 41, 2) := by decide +kernel
theorem dX11_isSignOf_9 : decode cX11_isSignOf 9 = .ok (.if_icmp .eq 39, 3) := by decide +kernel
theorem dX11_isSignOf_12 : decode cX11_isSignOf 12 = .ok (.iload_n 0, 1) := by decide +kernel
theorem dX11_isSignOf_13 : decode cX11_isSignOf 13 = .ok (.bipush 59, 2) := by decide +kernel
theorem dX11_isSignOf_15 : decode cX11_isSignOf 15 = .ok (.if_icmp .eq 33, 3) := by decide +kernel
theorem dX11_isSignOf_18 : decode cX11_isSignOf 18 = .ok (.iload_n 0, 1) := by decide +kernel
theorem dX11_isSignOf_19 : decode cX11_isSignOf 19 = .ok (.bipush 61, 2) := by decide +kernel
theorem dX11_isSignOf_21 : decode cX11_isSignOf 21 = .ok (.if_icmp .eq 27, 3) := by decide +kernel
theorem dX11_isSignOf_24 : decode cX11_isSignOf 24 = .ok (.iload_n 0, 1) := by decide +kernel
theorem dX11_isSignOf_25 : decode cX11_isSignOf 25 = .ok (.bipush 60, 2) := by decide +kernel
theorem dX11_isSignOf_27 : decode cX11_isSignOf 27 = .ok (.if_icmp .eq 21, 3) := by decide +kernel
theorem dX11_isSignOf_30 : decode cX11_isSignOf 30 = .ok (.iload_n 0, 1) := by decide +kernel
theorem dX11_isSignOf_31 : decode cX11_isSignOf 31 = .ok (.bipush 43, 2) := by decide +kernel
theorem dX11_isSignOf_33 : decode cX11_isSignOf 33 = .ok (.if_icmp .eq 15, 3) := by decide +kernel
theorem dX11_isSignOf_36 : decode cX11_isSignOf 36 = .ok (.iload_n 0, 1) := by decide +kernel
theorem dX11_isSignOf_37 : decode cX11_isSignOf 37 = .ok (.bipush 45, 2) := by decide +kernel
theorem dX11_isSignOf_39 : decode cX11_isSignOf 39 = .ok (.if_icmp .eq 9, 3) := by decide +kernel
theorem dX11_isSignOf_42 : decode cX11_isSignOf 42 = .ok (.iload_n 0, 1) := by decide +kernel
theorem dX11_isSignOf_43 : decode cX11_isSignOf 43 = .ok (.bipush 42, 2) := by decide +kernel
theorem dX11_isSignOf_45 : decode cX11_isSignOf 45 = .ok (.if_icmp .ne 7, 3) := by decide +kernel
theorem dX11_isSignOf_48 : decode cX11_isSignOf 48 = .ok (.iconst 1, 1) := by decide +kernel
theorem dX11_isSignOf_49 : decode cX11_isSignOf 49 = .ok (.goto 4, 3) := by decide +kernel
theorem dX11_isSignOf_52 : decode cX11_isSignOf 52 = .ok (.iconst 0, 1) := by decide +kernel
theorem dX11_isSignOf_53 : decode cX11_isSignOf 53 = .ok (.ireturn, 1) := by decide +kernel
theorem dX11_cutAll_0 : decode cX11_cutAll 0 = .ok (.aload_n 0, 1) := by decide +kernel
theorem dX11_cutAll_1 : decode cX11_cutAll 1 = .ok (.aload_n 0, 1) := by decide +kernel
theorem dX11_cutAll_2 : decode cX11_cutAll 2 = .ok (.getfield 11, 3) := by decide +kernel
theorem dX11_cutAll_5 : decode cX11_cutAll 5 = .ok (.putfield 174, 3) := by decide +kernel
theorem dX11_cutAll_8 : decode cX11_cutAll 8 = .ok (.aload_n 0, 1) := by decide +kernel
theorem dX11_cutAll_9 : decode cX11_cutAll 9 = .ok (.iconst 0, 1) := by decide +kernel
theorem dX11_cutAll_10 : decode cX11_cutAll 10 = .ok (.putfield 11, 3) := by decide +kernel
theorem dX11_cutAll_13 : decode cX11_cutAll 13 = .ok (.iconst 0, 1) := by decide +kernel
theorem dX11_cutAll_14 : decode cX11_cutAll 14 = .ok (.istore_n 1, 1) := by decide +kernel
theorem dX11_cutAll_15 : decode cX11_cutAll 15 = .ok (.iconst 0, 1) := by decide +kernel
theorem dX11_cutAll_16 : decode cX11_cutAll 16 = .ok (.istore_n 2, 1) := by decide +kernel
theorem dX11_cutAll_17 : decode cX11_cutAll 17 = .ok (.iload_n 2, 1) := by decide +kernel
theorem dX11_cutAll_18 : decode cX11_cutAll 18 = .ok (.aload_n 0, 1) := by decide +kernel
theorem dX11_cutAll_19 : decode cX11_cutAll 19 = .ok (.getfield 174, 3) := by decide +kernel
theorem dX11_cutAll_22 : decode cX11_cutAll 22 = .ok (.if_icmp .ge 257, 3) := by decide +kernel
theorem dX11_cutAll_25 : decode cX11_cutAll 25 = .ok (.aload_n 0, 1) := by decide +kernel
theorem dX11_cutAll_26 : decode cX11_cutAll 26 = .ok (.getfield 14, 3) := by decide +kernel
theorem dX11_cutAll_29 : decode cX11_cutAll 29 = .ok (.iload_n 2, 1) := by decide +kernel
theorem dX11_cutAll_30 : decode cX11_cutAll 30 = .ok (.iaload, 1) := by decide +kernel
theorem dX11_cutAll_31 : decode cX11_cutAll 31 = .ok (.istore_n 3, 1) := by decide +kernel
theorem dX11_cutAll_32 : decode cX11_cutAll 32 = .ok (.iload_n 3, 1) := by decide +kernel
theorem dX11_cutAll_33 : decode cX11_cutAll 33 = .ok (.bipush 10, 2) := by decide +kernel
theorem dX11_cutAll_35 : decode cX11_cutAll 35 = .ok (.if_icmp .eq 9, 3) := by decide +kernel
theorem dX11_cutAll_38 : decode cX11_cutAll 38 = .ok (.iload_n 3, 1) := by decide +kernel
theorem dX11_cutAll_39 : decode cX11_cutAll 39 = .ok (.bipush 32, 2) := by decide +kernel
theorem dX11_cutAll_41 : decode cX11_cutAll 41 = .ok (.if_icmp .ne 9, 3) := by decide +kernel
theorem dX11_cutAll_44 : decode cX11_cutAll 44 = .ok (.iinc 2 1, 3) := by decide +kernel
theorem dX11_cutAll_47 : decode cX11_cutAll 47 = .ok (.goto (-30), 3) := by decide +kernel
theorem dX11_cutAll_50 : decode cX11_cutAll 50 = .ok (.iload_n 2, 1) := by decide +kernel
theorem dX11_cutAll_51 : decode cX11_cutAll 51 = .ok (.istore 4, 2) := by decide +kernel
theorem dX11_cutAll_53 : decode cX11_cutAll 53 = .ok (.lconst 0, 1) := by decide +kernel
theorem dX11_cutAll_54 : decode cX11_cutAll 54 = .ok (.lstore 5, 2) := by decide +kernel
theorem dX11_cutAll_56 : decode cX11_cutAll 56 = .ok (.aload_n 0, 1) := by decide +kernel
theorem dX11_cutAll_57 : decode cX11_cutAll 57 = .ok (.getfield 27, 3) := by decide +kernel
theorem dX11_cutAll_60 : decode cX11_cutAll 60 = .ok (.iload_n 1, 1) := by decide +kernel
theorem dX11_cutAll_61 : decode cX11_cutAll 61 = .ok (.iload_n 2, 1) := by decide +kernel
theorem dX11_cutAll_62 : decode cX11_cutAll 62 = .ok (.iastore, 1) := by decide +kernel
theorem dX11_cutAll_63 : decode cX11_cutAll 63 = .ok (.iload_n 3, 1) := by decide +kernel
theorem dX11_cutAll_64 : decode cX11_cutAll 64 = .ok (.invokestatic 170, 3) := by decide +kernel
theorem dX11_cutAll_67 : decode cX11_cutAll 67 = .ok (.ifCond .eq 85, 3) := by decide +kernel
theorem dX11_cutAll_70 : decode cX11_cutAll 70 = .ok (.iload_n 2, 1) := by decide +kernel
theorem dX11_cutAll_71 : decode cX11_cutAll 71 = .ok (.aload_n 0, 1) := by decide +kernel
theorem dX11_cutAll_72 : decode cX11_cutAll 72 = .ok (.getfield 174, 3) := by decide +kernel
theorem dX11_cutAll_75 : decode cX11_cutAll 75 = .ok (.if_icmp .ge 54, 3) := by decide +kernel
theorem dX11_cutAll_78 : decode cX11_cutAll 78 = .ok (.aload_n 0, 1) := by decide +kernel
theorem dX11_cutAll_79 : decode cX11_cutAll 79 = .ok (.getfield 14, 3) := by decide +kernel
theorem dX11_cutAll_82 : decode cX11_cutAll 82 = .ok (.iload_n 2, 1) := by decide +kernel
theorem dX11_cutAll_83 : decode cX11_cutAll 83 = .ok (.iaload, 1) := by decide +kernel
theorem dX11_cutAll_84 : decode cX11_cutAll 84 = .ok (.invokestatic 170, 3) := by decide +kernel
theorem dX11_cutAll_87 : decode cX11_cutAll 87 = .ok (.ifCond .eq 42, 3) := by decide +kernel
theorem dX11_cutAll_90 : decode cX11_cutAll 90 = .ok (.iload_n 2, 1) := by decide +kernel
theorem dX11_cutAll_91 : decode cX11_cutAll 91 = .ok (.iload 4, 2) := by decide +kernel
theorem dX11_cutAll_93 : decode cX11_cutAll 93 = .ok (.isub, 1) := by decide +kernel
theorem dX11_cutAll_94 : decode cX11_cutAll 94 = .ok (.bipush 8, 2) := by decide +kernel
theorem dX11_cutAll_96 : decode cX11_cutAll 96 = .ok (.if_icmp .ge 23, 3) := by decide +kernel
theorem dX11_cutAll_99 : decode cX11_cutAll 99 = .ok (.ldc2_w 177, 3) := by decide +kernel
theorem dX11_cutAll_102 : decode cX11_cutAll 102 = .ok (.lload 5, 2) := by decide +kernel
theorem dX11_cutAll_104 : decode cX11_cutAll 104 = .ok (.lmul, 1) := by decide +kernel
theorem dX11_cutAll_105 : decode cX11_cutAll 105 = .ok (.aload_n 0, 1) := by decide +kernel
theorem dX11_cutAll_106 : decode cX11_cutAll 106 = .ok (.getfield 14, 3) := by decide +kernel
theorem dX11_cutAll_109 : decode cX11_cutAll 109 = .ok (.iload_n 2, 1) := by decide +kernel
theorem dX11_cutAll_110 : decode cX11_cutAll 110 = .ok (.iaload, 1) := by decide +kernel
theorem dX11_cutAll_111 : decode cX11_cutAll 111 = .ok (.invokestatic 179, 3) := by decide +kernel
theorem dX11_cutAll_114 : decode cX11_cutAll 114 = .ok (.i2l, 1) := by decide +kernel
theorem dX11_cutAll_115 : decode cX11_cutAll 115 = .ok (.ladd, 1) := by decide +kernel
theorem dX11_cutAll_116 : decode cX11_cutAll 116 = .ok (.goto 5, 3) := by decide +kernel
theorem dX11_cutAll_119 : decode cX11_cutAll 119 = .ok (.lload 5, 2) := by decide +kernel
theorem dX11_cutAll_121 : decode cX11_cutAll 121 = .ok (.lstore 5, 2) := by decide +kernel
theorem dX11_cutAll_123 : decode cX11_cutAll 123 = .ok (.iinc 2 1, 3) := by decide +kernel
theorem dX11_cutAll_126 : decode cX11_cutAll 126 = .ok (.goto (-56), 3) := by decide +kernel
theorem dX11_cutAll_129 : decode cX11_cutAll 129 = .ok (.aload_n 0, 1) := by decide +kernel
theorem dX11_cutAll_130 : decode cX11_cutAll 130 = .ok (.getfield 24, 3) := by decide +kernel
theorem dX11_cutAll_133 : decode cX11_cutAll 133 = .ok (.iload_n 1, 1) := by decide +kernel
theorem dX11_cutAll_134 : decode cX11_cutAll 134 = .ok (.iload_n 2, 1) := by decide +kernel
theorem dX11_cutAll_135 : decode cX11_cutAll 135 = .ok (.iload 4, 2) := by decide +kernel
theorem dX11_cutAll_137 : decode cX11_cutAll 137 = .ok (.isub, 1) := by decide +kernel
theorem dX11_cutAll_138 : decode cX11_cutAll 138 = .ok (.bipush 8, 2) := by decide +kernel
theorem dX11_cutAll_140 : decode cX11_cutAll 140 = .ok (.if_icmp .le 7, 3) := by decide +kernel
theorem dX11_cutAll_143 : decode cX11_cutAll 143 = .ok (.iconst 4, 1) := by decide +kernel
theorem dX11_cutAll_144 : decode cX11_cutAll 144 = .ok (.goto 4, 3) := by decide +kernel
theorem dX11_cutAll_147 : decode cX11_cutAll 147 = .ok (.iconst 1, 1) := by decide +kernel
theorem dX11_cutAll_148 : decode cX11_cutAll 148 = .ok (.iastore, 1) := by decide +kernel
theorem dX11_cutAll_149 : decode cX11_cutAll 149 = .ok (.goto 116, 3) := by decide +kernel
theorem dX11_cutAll_152 : decode cX11_cutAll 152 = .ok (.iload_n 3, 1) := by decide +kernel
theorem dX11_cutAll_153 : decode cX11_cutAll 153 = .ok (.invokestatic 183, 3) := by decide +kernel
theorem dX11_cutAll_156 : decode cX11_cutAll 156 = .ok (.ifCond .eq 84, 3) := by decide +kernel
theorem dX11_cutAll_159 : decode cX11_cutAll 159 = .ok (.iload_n 2, 1) := by decide +kernel
theorem dX11_cutAll_160 : decode cX11_cutAll 160 = .ok (.aload_n 0, 1) := by decide +kernel
theorem dX11_cutAll_161 : decode cX11_cutAll 161 = .ok (.getfield 174, 3) := by decide +kernel
theorem dX11_cutAll_164 : decode cX11_cutAll 164 = .ok (.if_icmp .ge 54, 3) := by decide +kernel
theorem dX11_cutAll_167 : decode cX11_cutAll 167 = .ok (.aload_n 0, 1) := by decide +kernel
theorem dX11_cutAll_168 : decode cX11_cutAll 168 = .ok (.getfield 14, 3) := by decide +kernel
theorem dX11_cutAll_171 : decode cX11_cutAll 171 = .ok (.iload_n 2, 1) := by decide +kernel
theorem dX11_cutAll_172 : decode cX11_cutAll 172 = .ok (.iaload, 1) := by decide +kernel
theorem dX11_cutAll_173 : decode cX11_cutAll 173 = .ok (.invokestatic 183, 3) := by decide +kernel
theorem dX11_cutAll_176 : decode cX11_cutAll 176 = .ok (.ifCond .eq 42, 3) := by decide +kernel
theorem dX11_cutAll_179 : decode cX11_cutAll 179 = .ok (.iload_n 2, 1) := by decide +kernel
theorem dX11_cutAll_180 : decode cX11_cutAll 180 = .ok (.iload 4, 2) := by decide +kernel
theorem dX11_cutAll_182 : decode cX11_cutAll 182 = .ok (.isub, 1) := by decide +kernel
theorem dX11_cutAll_183 : decode cX11_cutAll 183 = .ok (.iconst 4, 1) := by decide +kernel
theorem dX11_cutAll_184 : decode cX11_cutAll 184 = .ok (.if_icmp .ge 24, 3) := by decide +kernel
theorem dX11_cutAll_187 : decode cX11_cutAll 187 = .ok (.ldc2_w 186, 3) := by decide +kernel
theorem dX11_cutAll_190 : decode cX11_cutAll 190 = .ok (.lload 5, 2) := by decide +kernel
theorem dX11_cutAll_192 : decode cX11_cutAll 192 = .ok (.lmul, 1) := by decide +kernel
theorem dX11_cutAll_193 : decode cX11_cutAll 193 = .ok (.aload_n 0, 1) := by decide +kernel
theorem dX11_cutAll_194 : decode cX11_cutAll 194 = .ok (.getfield 14, 3) := by decide +kernel
theorem dX11_cutAll_197 : decode cX11_cutAll 197 = .ok (.iload_n 2, 1) := by decide +kernel
theorem dX11_cutAll_198 : decode cX11_cutAll 198 = .ok (.iaload, 1) := by decide +kernel
theorem dX11_cutAll_199 : decode cX11_cutAll 199 = .ok (.i2l, 1) := by decide +kernel
theorem dX11_cutAll_200 : decode cX11_cutAll 200 = .ok (.ladd, 1) := by decide +kernel
theorem dX11_cutAll_201 : decode cX11_cutAll 201 = .ok (.ldc2_w 188, 3) := by decide +kernel
theorem dX11_cutAll_204 : decode cX11_cutAll 204 = .ok (.lsub, 1) := by decide +kernel
theorem dX11_cutAll_205 : decode cX11_cutAll 205 = .ok (.goto 5, 3) := by decide +kernel
theorem dX11_cutAll_208 : decode cX11_cutAll 208 = .ok (.lload 5, 2) := by decide +kernel
theorem dX11_cutAll_210 : decode cX11_cutAll 210 = .ok (.lstore 5, 2) := by decide +kernel
theorem dX11_cutAll_212 : decode cX11_cutAll 212 = .ok (.iinc 2 1, 3) := by decide +kernel
theorem dX11_cutAll_215 : decode cX11_cutAll 215 = .ok (.goto (-56), 3) := by decide +kernel
theorem dX11_cutAll_218 : decode cX11_cutAll 218 = .ok (.aload_n 0, 1) := by decide +kernel
theorem dX11_cutAll_219 : decode cX11_cutAll 219 = .ok (.getfield 24, 3) := by decide +kernel
theorem dX11_cutAll_222 : decode cX11_cutAll 222 = .ok (.iload_n 1, 1) := by decide +kernel
theorem dX11_cutAll_223 : decode cX11_cutAll 223 = .ok (.iload_n 2, 1) := by decide +kernel
theorem dX11_cutAll_224 : decode cX11_cutAll 224 = .ok (.iload 4, 2) := by decide +kernel
theorem dX11_cutAll_226 : decode cX11_cutAll 226 = .ok (.isub, 1) := by decide +kernel
theorem dX11_cutAll_227 : decode cX11_cutAll 227 = .ok (.iconst 4, 1) := by decide +kernel
theorem dX11_cutAll_228 : decode cX11_cutAll 228 = .ok (.if_icmp .le 7, 3) := by decide +kernel
theorem dX11_cutAll_231 : decode cX11_cutAll 231 = .ok (.iconst 4, 1) := by decide +kernel
theorem dX11_cutAll_232 : decode cX11_cutAll 232 = .ok (.goto 4, 3) := by decide +kernel
theorem dX11_cutAll_235 : decode cX11_cutAll 235 = .ok (.iconst 2, 1) := by decide +kernel
theorem dX11_cutAll_236 : decode cX11_cutAll 236 = .ok (.iastore, 1) := by decide +kernel
theorem dX11_cutAll_237 : decode cX11_cutAll 237 = .ok (.goto 28, 3) := by decide +kernel
theorem dX11_cutAll_240 : decode cX11_cutAll 240 = .ok (.iload_n 3, 1) := by decide +kernel
theorem dX11_cutAll_241 : decode cX11_cutAll 241 = .ok (.i2l, 1) := by decide +kernel
theorem dX11_cutAll_242 : decode cX11_cutAll 242 = .ok (.lstore 5, 2) := by decide +kernel
theorem dX11_cutAll_244 : decode cX11_cutAll 244 = .ok (.aload_n 0, 1) := by decide +kernel
theorem dX11_cutAll_245 : decode cX11_cutAll 245 = .ok (.getfield 24, 3) := by decide +kernel
theorem dX11_cutAll_248 : decode cX11_cutAll 248 = .ok (.iload_n 1, 1) := by decide +kernel
theorem dX11_cutAll_249 : decode cX11_cutAll 249 = .ok (.iload_n 3, 1) := by decide +kernel
theorem dX11_cutAll_250 : decode cX11_cutAll 250 = .ok (.invokestatic 190, 3) := by decide +kernel
theorem dX11_cutAll_253 : decode cX11_cutAll 253 = .ok (.ifCond .eq 7, 3) := by decide +kernel
theorem dX11_cutAll_256 : decode cX11_cutAll 256 = .ok (.iconst 3, 1) := by decide +kernel
theorem dX11_cutAll_257 : decode cX11_cutAll 257 = .ok (.goto 4, 3) := by decide +kernel
theorem dX11_cutAll_260 : decode cX11_cutAll 260 = .ok (.iconst 4, 1) := by decide +kernel
theorem dX11_cutAll_261 : decode cX11_cutAll 261 = .ok (.iastore, 1) := by decide +kernel
theorem dX11_cutAll_262 : decode cX11_cutAll 262 = .ok (.iinc 2 1, 3) := by decide +kernel
theorem dX11_cutAll_265 : decode cX11_cutAll 265 = .ok (.aload_n 0, 1) := by decide +kernel
theorem dX11_cutAll_266 : decode cX11_cutAll 266 = .ok (.getfield 30, 3) := by decide +kernel
theorem dX11_cutAll_269 : decode cX11_cutAll 269 = .ok (.iload_n 1, 1) := by decide +kernel
theorem dX11_cutAll_270 : decode cX11_cutAll 270 = .ok (.lload 5, 2) := by decide +kernel
theorem dX11_cutAll_272 : decode cX11_cutAll 272 = .ok (.lastore, 1) := by decide +kernel
theorem dX11_cutAll_273 : decode cX11_cutAll 273 = .ok (.iinc 1 1, 3) := by decide +kernel
theorem dX11_cutAll_276 : decode cX11_cutAll 276 = .ok (.goto (-259), 3) := by decide +kernel
theorem dX11_cutAll_279 : decode cX11_cutAll 279 = .ok (.aload_n 0, 1) := by decide +kernel
theorem dX11_cutAll_280 : decode cX11_cutAll 280 = .ok (.getfield 24, 3) := by decide +kernel
theorem dX11_cutAll_283 : decode cX11_cutAll 283 = .ok (.iload_n 1, 1) := by decide +kernel
theorem dX11_cutAll_284 : decode cX11_cutAll 284 = .ok (.iconst 0, 1) := by decide +kernel
theorem dX11_cutAll_285 : decode cX11_cutAll 285 = .ok (.iastore, 1) := by decide +kernel
theorem dX11_cutAll_286 : decode cX11_cutAll 286 = .ok (.aload_n 0, 1) := by decide +kernel
theorem dX11_cutAll_287 : decode cX11_cutAll 287 = .ok (.getfield 27, 3) := by decide +kernel
theorem dX11_cutAll_290 : decode cX11_cutAll 290 = .ok (.iload_n 1, 1) := by decide +kernel
theorem dX11_cutAll_291 : decode cX11_cutAll 291 = .ok (.aload_n 0, 1) := by decide +kernel
theorem dX11_cutAll_292 : decode cX11_cutAll 292 = .ok (.getfield 174, 3) := by decide +kernel
theorem dX11_cutAll_295 : decode cX11_cutAll 295 = .ok (.iastore, 1) := by decide +kernel
theorem dX11_cutAll_296 : decode cX11_cutAll 296 = .ok (.aload_n 0, 1) := by decide +kernel
theorem dX11_cutAll_297 : decode cX11_cutAll 297 = .ok (.iconst 0, 1) := by decide +kernel
theorem dX11_cutAll_298 : decode cX11_cutAll 298 = .ok (.putfield 193, 3) := by decide +kernel
theorem dX11_cutAll_301 : decode cX11_cutAll 301 = .ok (.aload_n 0, 1) := by decide +kernel
theorem dX11_cutAll_302 : decode cX11_cutAll 302 = .ok (.iconst 0, 1) := by decide +kernel
theorem dX11_cutAll_303 : decode cX11_cutAll 303 = .ok (.putfield 196, 3) := by decide +kernel
theorem dX11_cutAll_306 : decode cX11_cutAll 306 = .ok (.return_, 1) := by decide +kernel
theorem dX11_wrong_0 : decode cX11_wrong 0 = .ok (.aload_n 0, 1) := by decide +kernel
theorem dX11_wrong_1 : decode cX11_wrong 1 = .ok (.getfield 196, 3) := by decide +kernel
theorem dX11_wrong_4 : decode cX11_wrong 4 = .ok (.ifCond .ne 21, 3) := by decide +kernel
theorem dX11_wrong_7 : decode cX11_wrong 7 = .ok (.aload_n 0, 1) := by decide +kernel
theorem dX11_wrong_8 : decode cX11_wrong 8 = .ok (.iload_n 1, 1) := by decide +kernel
theorem dX11_wrong_9 : decode cX11_wrong 9 = .ok (.bipush 16, 2) := by decide +kernel
theorem dX11_wrong_11 : decode cX11_wrong 11 = .ok (.aload_n 0, 1) := by decide +kernel
theorem dX11_wrong_12 : decode cX11_wrong 12 = .ok (.getfield 27, 3) := by decide +kernel
theorem dX11_wrong_15 : decode cX11_wrong 15 = .ok (.aload_n 0, 1) := by decide +kernel
theorem dX11_wrong_16 : decode cX11_wrong 16 = .ok (.getfield 193, 3) := by decide +kernel
theorem dX11_wrong_19 : decode cX11_wrong 19 = .ok (.iaload, 1) := by decide +kernel
theorem dX11_wrong_20 : decode cX11_wrong 20 = .ok (.imul, 1) := by decide +kernel
theorem dX11_wrong_21 : decode cX11_wrong 21 = .ok (.iadd, 1) := by decide +kernel
theorem dX11_wrong_22 : decode cX11_wrong 22 = .ok (.putfield 196, 3) := by decide +kernel
theorem dX11_wrong_25 : decode cX11_wrong 25 = .ok (.return_, 1) := by decide +kernel
theorem dX11_isSign_0 : decode cX11_isSign 0 = .ok (.aload_n 0, 1) := by decide +kernel
theorem dX11_isSign_1 : decode cX11_isSign 1 = .ok (.getfield 196, 3) := by decide +kernel
theorem dX11_isSign_4 : decode cX11_isSign 4 = .ok (.ifCond .ne 35, 3) := by decide +kernel
theorem dX11_isSign_7 : decode cX11_isSign 7 = .ok (.aload_n 0, 1) := by decide +kernel
theorem dX11_isSign_8 : decode cX11_isSign 8 = .ok (.getfield 24, 3) := by decide +kernel
theorem dX11_isSign_11 : decode cX11_isSign 11 = .ok (.aload_n 0, 1) := by decide +kernel
theorem dX11_isSign_12 : decode cX11_isSign 12 = .ok (.getfield 193, 3) := by decide +kernel
theorem dX11_isSign_15 : decode cX11_isSign 15 = .ok (.iaload, 1) := by decide +kernel
theorem dX11_isSign_16 : decode cX11_isSign 16 = .ok (.iconst 3, 1) := by decide +kernel
theorem dX11_isSign_17 : decode cX11_isSign 17 = .ok (.if_icmp .ne 22, 3) := by decide +kernel
theorem dX11_isSign_20 : decode cX11_isSign 20 = .ok (.aload_n 0, 1) := by decide +kernel
theorem dX11_isSign_21 : decode cX11_isSign 21 = .ok (.getfield 30, 3) := by decide +kernel
theorem dX11_isSign_24 : decode cX11_isSign 24 = .ok (.aload_n 0, 1) := by decide +kernel
theorem dX11_isSign_25 : decode cX11_isSign 25 = .ok (.getfield 193, 3) := by decide +kernel
theorem dX11_isSign_28 : decode cX11_isSign 28 = .ok (.laload, 1) := by decide +kernel
theorem dX11_isSign_29 : decode cX11_isSign 29 = .ok (.iload_n 1, 1) := by decide +kernel
theorem dX11_isSign_30 : decode cX11_isSign 30 = .ok (.i2l, 1) := by decide +kernel
theorem dX11_isSign_31 : decode cX11_isSign 31 = .ok (.lcmp, 1) := by decide +kernel
theorem dX11_isSign_32 : decode cX11_isSign 32 = .ok (.ifCond .ne 7, 3) := by decide +kernel
theorem dX11_isSign_35 : decode cX11_isSign 35 = .ok (.iconst 1, 1) := by decide +kernel
theorem dX11_isSign_36 : decode cX11_isSign 36 = .ok (.goto 4, 3) := by decide +kernel
theorem dX11_isSign_39 : decode cX11_isSign 39 = .ok (.iconst 0, 1) := by decide +kernel
theorem dX11_isSign_40 : decode cX11_isSign 40 = .ok (.ireturn, 1) := by decide +kernel
theorem dX11_isWord_0 : decode cX11_isWord 0 = .ok (.aload_n 0, 1) := by decide +kernel
theorem dX11_isWord_1 : decode cX11_isWord 1 = .ok (.getfield 196, 3) := by decide +kernel
theorem dX11_isWord_4 : decode cX11_isWord 4 = .ok (.ifCond .ne 39, 3) := by decide +kernel
theorem dX11_isWord_7 : decode cX11_isWord 7 = .ok (.aload_n 0, 1) := by decide +kernel
theorem dX11_isWord_8 : decode cX11_isWord 8 = .ok (.getfield 24, 3) := by decide +kernel
theorem dX11_isWord_11 : decode cX11_isWord 11 = .ok (.aload_n 0, 1) := by decide +kernel
theorem dX11_isWord_12 : decode cX11_isWord 12 = .ok (.getfield 193, 3) := by decide +kernel
theorem dX11_isWord_15 : decode cX11_isWord 15 = .ok (.iaload, 1) := by decide +kernel
theorem dX11_isWord_16 : decode cX11_isWord 16 = .ok (.iconst 1, 1) := by decide +kernel
theorem dX11_isWord_17 : decode cX11_isWord 17 = .ok (.if_icmp .ne 26, 3) := by decide +kernel
theorem dX11_isWord_20 : decode cX11_isWord 20 = .ok (.aload_n 0, 1) := by decide +kernel
theorem dX11_isWord_21 : decode cX11_isWord 21 = .ok (.getfield 30, 3) := by decide +kernel
theorem dX11_isWord_24 : decode cX11_isWord 24 = .ok (.aload_n 0, 1) := by decide +kernel
theorem dX11_isWord_25 : decode cX11_isWord 25 = .ok (.getfield 193, 3) := by decide +kernel
theorem dX11_isWord_28 : decode cX11_isWord 28 = .ok (.laload, 1) := by decide +kernel
theorem dX11_isWord_29 : decode cX11_isWord 29 = .ok (.aload_n 0, 1) := by decide +kernel
theorem dX11_isWord_30 : decode cX11_isWord 30 = .ok (.getfield 70, 3) := by decide +kernel
theorem dX11_isWord_33 : decode cX11_isWord 33 = .ok (.iload_n 1, 1) := by decide +kernel
theorem dX11_isWord_34 : decode cX11_isWord 34 = .ok (.laload, 1) := by decide +kernel
theorem dX11_isWord_35 : decode cX11_isWord 35 = .ok (.lcmp, 1) := by decide +kernel
theorem dX11_isWord_36 : decode cX11_isWord 36 = .ok (.ifCond .ne 7, 3) := by decide +kernel
theorem dX11_isWord_39 : decode cX11_isWord 39 = .ok (.iconst 1, 1) := by decide +kernel
theorem dX11_isWord_40 : decode cX11_isWord 40 = .ok (.goto 4, 3) := by decide +kernel
theorem dX11_isWord_43 : decode cX11_isWord 43 = .ok (.iconst 0, 1) := by decide +kernel
theorem dX11_isWord_44 : decode cX11_isWord 44 = .ok (.ireturn, 1) := by decide +kernel
theorem dX11_takeSign_0 : decode cX11_takeSign 0 = .ok (.aload_n 0, 1) := by decide +kernel
theorem dX11_takeSign_1 : decode cX11_takeSign 1 = .ok (.iload_n 1, 1) := by decide +kernel
theorem dX11_takeSign_2 : decode cX11_takeSign 2 = .ok (.invokevirtual 199, 3) := by decide +kernel
theorem dX11_takeSign_5 : decode cX11_takeSign 5 = .ok (.ifCond .eq 16, 3) := by decide +kernel
theorem dX11_takeSign_8 : decode cX11_takeSign 8 = .ok (.aload_n 0, 1) := by decide +kernel
theorem dX11_takeSign_9 : decode cX11_takeSign 9 = .ok (.dup, 1) := by decide +kernel
theorem dX11_takeSign_10 : decode cX11_takeSign 10 = .ok (.getfield 193, 3) := by decide +kernel
theorem dX11_takeSign_13 : decode cX11_takeSign 13 = .ok (.iconst 1, 1) := by decide +kernel
theorem dX11_takeSign_14 : decode cX11_takeSign 14 = .ok (.iadd, 1) := by decide +kernel
theorem dX11_takeSign_15 : decode cX11_takeSign 15 = .ok (.putfield 193, 3) := by decide +kernel
theorem dX11_takeSign_18 : decode cX11_takeSign 18 = .ok (.goto 8, 3) := by decide +kernel
theorem dX11_takeSign_21 : decode cX11_takeSign 21 = .ok (.aload_n 0, 1) := by decide +kernel
theorem dX11_takeSign_22 : decode cX11_takeSign 22 = .ok (.iconst 1, 1) := by decide +kernel
theorem dX11_takeSign_23 : decode cX11_takeSign 23 = .ok (.invokevirtual 202, 3) := by decide +kernel
theorem dX11_takeSign_26 : decode cX11_takeSign 26 = .ok (.return_, 1) := by decide +kernel
theorem dX11_hasSign_0 : decode cX11_hasSign 0 = .ok (.aload_n 0, 1) := by decide +kernel
theorem dX11_hasSign_1 : decode cX11_hasSign 1 = .ok (.iload_n 1, 1) := by decide +kernel
theorem dX11_hasSign_2 : decode cX11_hasSign 2 = .ok (.invokevirtual 199, 3) := by decide +kernel
theorem dX11_hasSign_5 : decode cX11_hasSign 5 = .ok (.istore_n 2, 1) := by decide +kernel
theorem dX11_hasSign_6 : decode cX11_hasSign 6 = .ok (.aload_n 0, 1) := by decide +kernel
theorem dX11_hasSign_7 : decode cX11_hasSign 7 = .ok (.dup, 1) := by decide +kernel
theorem dX11_hasSign_8 : decode cX11_hasSign 8 = .ok (.getfield 193, 3) := by decide +kernel
theorem dX11_hasSign_11 : decode cX11_hasSign 11 = .ok (.iload_n 2, 1) := by decide +kernel
theorem dX11_hasSign_12 : decode cX11_hasSign 12 = .ok (.ifCond .eq 7, 3) := by decide +kernel
theorem dX11_hasSign_15 : decode cX11_hasSign 15 = .ok (.iconst 1, 1) := by decide +kernel
theorem dX11_hasSign_16 : decode cX11_hasSign 16 = .ok (.goto 4, 3) := by decide +kernel
theorem dX11_hasSign_19 : decode cX11_hasSign 19 = .ok (.iconst 0, 1) := by decide +kernel
theorem dX11_hasSign_20 : decode cX11_hasSign 20 = .ok (.iadd, 1) := by decide +kernel
theorem dX11_hasSign_21 : decode cX11_hasSign 21 = .ok (.putfield 193, 3) := by decide +kernel
theorem dX11_hasSign_24 : decode cX11_hasSign 24 = .ok (.iload_n 2, 1) := by decide +kernel
theorem dX11_hasSign_25 : decode cX11_hasSign 25 = .ok (.ireturn, 1) := by decide +kernel
theorem dX11_hasWord_0 : decode cX11_hasWord 0 = .ok (.aload_n 0, 1) := by decide +kernel
theorem dX11_hasWord_1 : decode cX11_hasWord 1 = .ok (.iload_n 1, 1) := by decide +kernel
theorem dX11_hasWord_2 : decode cX11_hasWord 2 = .ok (.invokevirtual 206, 3) := by decide +kernel
theorem dX11_hasWord_5 : decode cX11_hasWord 5 = .ok (.istore_n 2, 1) := by decide +kernel
theorem dX11_hasWord_6 : decode cX11_hasWord 6 = .ok (.aload_n 0, 1) := by decide +kernel
theorem dX11_hasWord_7 : decode cX11_hasWord 7 = .ok (.dup, 1) := by decide +kernel
theorem dX11_hasWord_8 : decode cX11_hasWord 8 = .ok (.getfield 193, 3) := by decide +kernel
theorem dX11_hasWord_11 : decode cX11_hasWord 11 = .ok (.iload_n 2, 1) := by decide +kernel
theorem dX11_hasWord_12 : decode cX11_hasWord 12 = .ok (.ifCond .eq 7, 3) := by decide +kernel
theorem dX11_hasWord_15 : decode cX11_hasWord 15 = .ok (.iconst 1, 1) := by decide +kernel
theorem dX11_hasWord_16 : decode cX11_hasWord 16 = .ok (.goto 4, 3) := by decide +kernel
theorem dX11_hasWord_19 : decode cX11_hasWord 19 = .ok (.iconst 0, 1) := by decide +kernel
theorem dX11_hasWord_20 : decode cX11_hasWord 20 = .ok (.iadd, 1) := by decide +kernel
theorem dX11_hasWord_21 : decode cX11_hasWord 21 = .ok (.putfield 193, 3) := by decide +kernel
theorem dX11_hasWord_24 : decode cX11_hasWord 24 = .ok (.iload_n 2, 1) := by decide +kernel
theorem dX11_hasWord_25 : decode cX11_hasWord 25 = .ok (.ireturn, 1) := by decide +kernel
theorem dX11_takeWord_0 : decode cX11_takeWord 0 = .ok (.aload_n 0, 1) := by decide +kernel
theorem dX11_takeWord_1 : decode cX11_takeWord 1 = .ok (.iload_n 1, 1) := by decide +kernel
theorem dX11_takeWord_2 : decode cX11_takeWord 2 = .ok (.invokevirtual 209, 3) := by decide +kernel
theorem dX11_takeWord_5 : decode cX11_takeWord 5 = .ok (.ifCond .ne 8, 3) := by decide +kernel
theorem dX11_takeWord_8 : decode cX11_takeWord 8 = .ok (.aload_n 0, 1) := by decide +kernel
theorem dX11_takeWord_9 : decode cX11_takeWord 9 = .ok (.iconst 1, 1) := by decide +kernel
theorem dX11_takeWord_10 : decode cX11_takeWord 10 = .ok (.invokevirtual 202, 3) := by decide +kernel
theorem dX11_takeWord_13 : decode cX11_takeWord 13 = .ok (.return_, 1) := by decide +kernel
theorem dX11_within_0 : decode cX11_within 0 = .ok (.iload_n 0, 1) := by decide +kernel
theorem dX11_within_1 : decode cX11_within 1 = .ok (.iload_n 1, 1) := by decide +kernel
theorem dX11_within_2 : decode cX11_within 2 = .ok (.if_icmp .lt 12, 3) := by decide +kernel
theorem dX11_within_5 : decode cX11_within 5 = .ok (.iload_n 0, 1) := by decide +kernel
theorem dX11_within_6 : decode cX11_within 6 = .ok (.iload_n 2, 1) := by decide +kernel
theorem dX11_within_7 : decode cX11_within 7 = .ok (.if_icmp .gt 7, 3) := by decide +kernel
theorem dX11_within_10 : decode cX11_within 10 = .ok (.iconst 1, 1) := by decide +kernel
theorem dX11_within_11 : decode cX11_within 11 = .ok (.goto 4, 3) := by decide +kernel
theorem dX11_within_14 : decode cX11_within 14 = .ok (.iconst 0, 1) := by decide +kernel
theorem dX11_within_15 : decode cX11_within 15 = .ok (.ireturn, 1) := by decide +kernel
theorem dX11_takeNumber_0 : decode cX11_takeNumber 0 = .ok (.aload_n 0, 1) := by decide +kernel
theorem dX11_takeNumber_1 : decode cX11_takeNumber 1 = .ok (.getfield 196, 3) := by decide +kernel
theorem dX11_takeNumber_4 : decode cX11_takeNumber 4 = .ok (.ifCond .ne 24, 3) := by decide +kernel
theorem dX11_takeNumber_7 : decode cX11_takeNumber 7 = .ok (.aload_n 0, 1) := by decide +kernel
theorem dX11_takeNumber_8 : decode cX11_takeNumber 8 = .ok (.getfield 24, 3) := by decide +kernel
theorem dX11_takeNumber_11 : decode cX11_takeNumber 11 = .ok (.aload_n 0, 1) := by decide +kernel
theorem dX11_takeNumber_12 : decode cX11_takeNumber 12 = .ok (.getfield 193, 3) := by decide +kernel
theorem dX11_takeNumber_15 : decode cX11_takeNumber 15 = .ok (.iaload, 1) := by decide +kernel
theorem dX11_takeNumber_16 : decode cX11_takeNumber 16 = .ok (.iconst 2, 1) := by decide +kernel
theorem dX11_takeNumber_17 : decode cX11_takeNumber 17 = .ok (.if_icmp .eq 11, 3) := by decide +kernel
theorem dX11_takeNumber_20 : decode cX11_takeNumber 20 = .ok (.aload_n 0, 1) := by decide +kernel
theorem dX11_takeNumber_21 : decode cX11_takeNumber 21 = .ok (.iconst 1, 1) := by decide +kernel
theorem dX11_takeNumber_22 : decode cX11_takeNumber 22 = .ok (.invokevirtual 202, 3) := by decide +kernel
theorem dX11_takeNumber_25 : decode cX11_takeNumber 25 = .ok (.goto 45, 3) := by decide +kernel
theorem dX11_takeNumber_28 : decode cX11_takeNumber 28 = .ok (.aload_n 0, 1) := by decide +kernel
theorem dX11_takeNumber_29 : decode cX11_takeNumber 29 = .ok (.getfield 196, 3) := by decide +kernel
theorem dX11_takeNumber_32 : decode cX11_takeNumber 32 = .ok (.ifCond .ne 38, 3) := by decide +kernel
theorem dX11_takeNumber_35 : decode cX11_takeNumber 35 = .ok (.aload_n 0, 1) := by decide +kernel
theorem dX11_takeNumber_36 : decode cX11_takeNumber 36 = .ok (.getfield 30, 3) := by decide +kernel
theorem dX11_takeNumber_39 : decode cX11_takeNumber 39 = .ok (.aload_n 0, 1) := by decide +kernel
theorem dX11_takeNumber_40 : decode cX11_takeNumber 40 = .ok (.getfield 193, 3) := by decide +kernel
theorem dX11_takeNumber_43 : decode cX11_takeNumber 43 = .ok (.laload, 1) := by decide +kernel
theorem dX11_takeNumber_44 : decode cX11_takeNumber 44 = .ok (.iload_n 1, 1) := by decide +kernel
theorem dX11_takeNumber_45 : decode cX11_takeNumber 45 = .ok (.i2l, 1) := by decide +kernel
theorem dX11_takeNumber_46 : decode cX11_takeNumber 46 = .ok (.lcmp, 1) := by decide +kernel
theorem dX11_takeNumber_47 : decode cX11_takeNumber 47 = .ok (.ifCond .lt 18, 3) := by decide +kernel
theorem dX11_takeNumber_50 : decode cX11_takeNumber 50 = .ok (.aload_n 0, 1) := by decide +kernel
theorem dX11_takeNumber_51 : decode cX11_takeNumber 51 = .ok (.getfield 30, 3) := by decide +kernel
theorem dX11_takeNumber_54 : decode cX11_takeNumber 54 = .ok (.aload_n 0, 1) := by decide +kernel
theorem dX11_takeNumber_55 : decode cX11_takeNumber 55 = .ok (.getfield 193, 3) := by decide +kernel
theorem dX11_takeNumber_58 : decode cX11_takeNumber 58 = .ok (.laload, 1) := by decide +kernel
theorem dX11_takeNumber_59 : decode cX11_takeNumber 59 = .ok (.iload_n 2, 1) := by decide +kernel
theorem dX11_takeNumber_60 : decode cX11_takeNumber 60 = .ok (.i2l, 1) := by decide +kernel
theorem dX11_takeNumber_61 : decode cX11_takeNumber 61 = .ok (.lcmp, 1) := by decide +kernel
theorem dX11_takeNumber_62 : decode cX11_takeNumber 62 = .ok (.ifCond .le 8, 3) := by decide +kernel
theorem dX11_takeNumber_65 : decode cX11_takeNumber 65 = .ok (.aload_n 0, 1) := by decide +kernel
theorem dX11_takeNumber_66 : decode cX11_takeNumber 66 = .ok (.iconst 4, 1) := by decide +kernel
theorem dX11_takeNumber_67 : decode cX11_takeNumber 67 = .ok (.invokevirtual 202, 3) := by decide +kernel
theorem dX11_takeNumber_70 : decode cX11_takeNumber 70 = .ok (.aload_n 0, 1) := by decide +kernel
theorem dX11_takeNumber_71 : decode cX11_takeNumber 71 = .ok (.getfield 196, 3) := by decide +kernel
theorem dX11_takeNumber_74 : decode cX11_takeNumber 74 = .ok (.ifCond .le 5, 3) := by decide +kernel
theorem dX11_takeNumber_77 : decode cX11_takeNumber 77 = .ok (.iconst 0, 1) := by decide +kernel
theorem dX11_takeNumber_78 : decode cX11_takeNumber 78 = .ok (.ireturn, 1) := by decide +kernel
theorem dX11_takeNumber_79 : decode cX11_takeNumber 79 = .ok (.aload_n 0, 1) := by decide +kernel
theorem dX11_takeNumber_80 : decode cX11_takeNumber 80 = .ok (.dup, 1) := by decide +kernel
theorem dX11_takeNumber_81 : decode cX11_takeNumber 81 = .ok (.getfield 193, 3) := by decide +kernel
theorem dX11_takeNumber_84 : decode cX11_takeNumber 84 = .ok (.iconst 1, 1) := by decide +kernel
theorem dX11_takeNumber_85 : decode cX11_takeNumber 85 = .ok (.iadd, 1) := by decide +kernel
theorem dX11_takeNumber_86 : decode cX11_takeNumber 86 = .ok (.putfield 193, 3) := by decide +kernel
theorem dX11_takeNumber_89 : decode cX11_takeNumber 89 = .ok (.aload_n 0, 1) := by decide +kernel
theorem dX11_takeNumber_90 : decode cX11_takeNumber 90 = .ok (.getfield 30, 3) := by decide +kernel
theorem dX11_takeNumber_93 : decode cX11_takeNumber 93 = .ok (.aload_n 0, 1) := by decide +kernel
theorem dX11_takeNumber_94 : decode cX11_takeNumber 94 = .ok (.getfield 193, 3) := by decide +kernel
theorem dX11_takeNumber_97 : decode cX11_takeNumber 97 = .ok (.iconst 1, 1) := by decide +kernel
theorem dX11_takeNumber_98 : decode cX11_takeNumber 98 = .ok (.isub, 1) := by decide +kernel
theorem dX11_takeNumber_99 : decode cX11_takeNumber 99 = .ok (.laload, 1) := by decide +kernel
theorem dX11_takeNumber_100 : decode cX11_takeNumber 100 = .ok (.l2i, 1) := by decide +kernel
theorem dX11_takeNumber_101 : decode cX11_takeNumber 101 = .ok (.ireturn, 1) := by decide +kernel
theorem dX11_isName_0 : decode cX11_isName 0 = .ok (.aload_n 0, 1) := by decide +kernel
theorem dX11_isName_1 : decode cX11_isName 1 = .ok (.getfield 196, 3) := by decide +kernel
theorem dX11_isName_4 : decode cX11_isName 4 = .ok (.ifCond .ne 20, 3) := by decide +kernel
theorem dX11_isName_7 : decode cX11_isName 7 = .ok (.aload_n 0, 1) := by decide +kernel
theorem dX11_isName_8 : decode cX11_isName 8 = .ok (.getfield 24, 3) := by decide +kernel
theorem dX11_isName_11 : decode cX11_isName 11 = .ok (.aload_n 0, 1) := by decide +kernel
theorem dX11_isName_12 : decode cX11_isName 12 = .ok (.getfield 193, 3) := by decide +kernel
theorem dX11_isName_15 : decode cX11_isName 15 = .ok (.iaload, 1) := by decide +kernel
theorem dX11_isName_16 : decode cX11_isName 16 = .ok (.iconst 1, 1) := by decide +kernel
theorem dX11_isName_17 : decode cX11_isName 17 = .ok (.if_icmp .ne 7, 3) := by decide +kernel
theorem dX11_isName_20 : decode cX11_isName 20 = .ok (.iconst 1, 1) := by decide +kernel
theorem dX11_isName_21 : decode cX11_isName 21 = .ok (.goto 4, 3) := by decide +kernel
theorem dX11_isName_24 : decode cX11_isName 24 = .ok (.iconst 0, 1) := by decide +kernel
theorem dX11_isName_25 : decode cX11_isName 25 = .ok (.istore_n 1, 1) := by decide +kernel
theorem dX11_isName_26 : decode cX11_isName 26 = .ok (.iconst 0, 1) := by decide +kernel
theorem dX11_isName_27 : decode cX11_isName 27 = .ok (.istore_n 2, 1) := by decide +kernel
theorem dX11_isName_28 : decode cX11_isName 28 = .ok (.iload_n 2, 1) := by decide +kernel
theorem dX11_isName_29 : decode cX11_isName 29 = .ok (.bipush 18, 2) := by decide +kernel
theorem dX11_isName_31 : decode cX11_isName 31 = .ok (.if_icmp .ge 38, 3) := by decide +kernel
theorem dX11_isName_34 : decode cX11_isName 34 = .ok (.iload_n 1, 1) := by decide +kernel
theorem dX11_isName_35 : decode cX11_isName 35 = .ok (.ifCond .eq 26, 3) := by decide +kernel
theorem dX11_isName_38 : decode cX11_isName 38 = .ok (.aload_n 0, 1) := by decide +kernel
theorem dX11_isName_39 : decode cX11_isName 39 = .ok (.getfield 30, 3) := by decide +kernel
theorem dX11_isName_42 : decode cX11_isName 42 = .ok (.aload_n 0, 1) := by decide +kernel
theorem dX11_isName_43 : decode cX11_isName 43 = .ok (.getfield 193, 3) := by decide +kernel
theorem dX11_isName_46 : decode cX11_isName 46 = .ok (.laload, 1) := by decide +kernel
theorem dX11_isName_47 : decode cX11_isName 47 = .ok (.aload_n 0, 1) := by decide +kernel
theorem dX11_isName_48 : decode cX11_isName 48 = .ok (.getfield 70, 3) := by decide +kernel
theorem dX11_isName_51 : decode cX11_isName 51 = .ok (.iload_n 2, 1) := by decide +kernel
theorem dX11_isName_52 : decode cX11_isName 52 = .ok (.laload, 1) := by decide +kernel
theorem dX11_isName_53 : decode cX11_isName 53 = .ok (.lcmp, 1) := by decide +kernel
theorem dX11_isName_54 : decode cX11_isName 54 = .ok (.ifCond .eq 7, 3) := by decide +kernel
theorem dX11_isName_57 : decode cX11_isName 57 = .ok (.iconst 1, 1) := by decide +kernel
theorem dX11_isName_58 : decode cX11_isName 58 = .ok (.goto 4, 3) := by decide +kernel
theorem dX11_isName_61 : decode cX11_isName 61 = .ok (.iconst 0, 1) := by decide +kernel
theorem dX11_isName_62 : decode cX11_isName 62 = .ok (.istore_n 1, 1) := by decide +kernel
theorem dX11_isName_63 : decode cX11_isName 63 = .ok (.iinc 2 1, 3) := by decide +kernel
theorem dX11_isName_66 : decode cX11_isName 66 = .ok (.goto (-38), 3) := by decide +kernel
theorem dX11_isName_69 : decode cX11_isName 69 = .ok (.iload_n 1, 1) := by decide +kernel
theorem dX11_isName_70 : decode cX11_isName 70 = .ok (.ireturn, 1) := by decide +kernel
theorem dX11_nameOf_0 : decode cX11_nameOf 0 = .ok (.iconst 0, 1) := by decide +kernel
theorem dX11_nameOf_1 : decode cX11_nameOf 1 = .ok (.istore_n 3, 1) := by decide +kernel
theorem dX11_nameOf_2 : decode cX11_nameOf 2 = .ok (.iload_n 3, 1) := by decide +kernel
theorem dX11_nameOf_3 : decode cX11_nameOf 3 = .ok (.bipush 7, 2) := by decide +kernel
theorem dX11_nameOf_5 : decode cX11_nameOf 5 = .ok (.if_icmp .ge 71, 3) := by decide +kernel
theorem dX11_nameOf_8 : decode cX11_nameOf 8 = .ok (.iload_n 3, 1) := by decide +kernel
theorem dX11_nameOf_9 : decode cX11_nameOf 9 = .ok (.iconst 3, 1) := by decide +kernel
theorem dX11_nameOf_10 : decode cX11_nameOf 10 = .ok (.if_icmp .ge 22, 3) := by decide +kernel
theorem dX11_nameOf_13 : decode cX11_nameOf 13 = .ok (.iload_n 3, 1) := by decide +kernel
theorem dX11_nameOf_14 : decode cX11_nameOf 14 = .ok (.aload_n 0, 1) := by decide +kernel
theorem dX11_nameOf_15 : decode cX11_nameOf 15 = .ok (.getfield 73, 3) := by decide +kernel
theorem dX11_nameOf_18 : decode cX11_nameOf 18 = .ok (.bipush 80, 2) := by decide +kernel
theorem dX11_nameOf_20 : decode cX11_nameOf 20 = .ok (.iaload, 1) := by decide +kernel
theorem dX11_nameOf_21 : decode cX11_nameOf 21 = .ok (.if_icmp .ge 7, 3) := by decide +kernel
theorem dX11_nameOf_24 : decode cX11_nameOf 24 = .ok (.iconst 1, 1) := by decide +kernel
theorem dX11_nameOf_25 : decode cX11_nameOf 25 = .ok (.goto 25, 3) := by decide +kernel
theorem dX11_nameOf_28 : decode cX11_nameOf 28 = .ok (.iconst 0, 1) := by decide +kernel
theorem dX11_nameOf_29 : decode cX11_nameOf 29 = .ok (.goto 21, 3) := by decide +kernel
theorem dX11_nameOf_32 : decode cX11_nameOf 32 = .ok (.iload_n 3, 1) := by decide +kernel
theorem dX11_nameOf_33 : decode cX11_nameOf 33 = .ok (.iconst 3, 1) := by decide +kernel
theorem dX11_nameOf_34 : decode cX11_nameOf 34 = .ok (.isub, 1) := by decide +kernel
theorem dX11_nameOf_35 : decode cX11_nameOf 35 = .ok (.aload_n 0, 1) := by decide +kernel
theorem dX11_nameOf_36 : decode cX11_nameOf 36 = .ok (.getfield 73, 3) := by decide +kernel
theorem dX11_nameOf_39 : decode cX11_nameOf 39 = .ok (.bipush 93, 2) := by decide +kernel
theorem dX11_nameOf_41 : decode cX11_nameOf 41 = .ok (.iaload, 1) := by decide +kernel
theorem dX11_nameOf_42 : decode cX11_nameOf 42 = .ok (.if_icmp .ge 7, 3) := by decide +kernel
theorem dX11_nameOf_45 : decode cX11_nameOf 45 = .ok (.iconst 1, 1) := by decide +kernel
theorem dX11_nameOf_46 : decode cX11_nameOf 46 = .ok (.goto 4, 3) := by decide +kernel
theorem dX11_nameOf_49 : decode cX11_nameOf 49 = .ok (.iconst 0, 1) := by decide +kernel
theorem dX11_nameOf_50 : decode cX11_nameOf 50 = .ok (.istore 4, 2) := by decide +kernel
theorem dX11_nameOf_52 : decode cX11_nameOf 52 = .ok (.iload 4, 2) := by decide +kernel
theorem dX11_nameOf_54 : decode cX11_nameOf 54 = .ok (.ifCond .eq 16, 3) := by decide +kernel
theorem dX11_nameOf_57 : decode cX11_nameOf 57 = .ok (.aload_n 0, 1) := by decide +kernel
theorem dX11_nameOf_58 : decode cX11_nameOf 58 = .ok (.getfield 82, 3) := by decide +kernel
theorem dX11_nameOf_61 : decode cX11_nameOf 61 = .ok (.iload_n 3, 1) := by decide +kernel
theorem dX11_nameOf_62 : decode cX11_nameOf 62 = .ok (.laload, 1) := by decide +kernel
theorem dX11_nameOf_63 : decode cX11_nameOf 63 = .ok (.lload_n 1, 1) := by decide +kernel
theorem dX11_nameOf_64 : decode cX11_nameOf 64 = .ok (.lcmp, 1) := by decide +kernel
theorem dX11_nameOf_65 : decode cX11_nameOf 65 = .ok (.ifCond .ne 5, 3) := by decide +kernel
theorem dX11_nameOf_68 : decode cX11_nameOf 68 = .ok (.iload_n 3, 1) := by decide +kernel
theorem dX11_nameOf_69 : decode cX11_nameOf 69 = .ok (.ireturn, 1) := by decide +kernel
theorem dX11_nameOf_70 : decode cX11_nameOf 70 = .ok (.iinc 3 1, 3) := by decide +kernel
theorem dX11_nameOf_73 : decode cX11_nameOf 73 = .ok (.goto (-71), 3) := by decide +kernel
theorem dX11_nameOf_76 : decode cX11_nameOf 76 = .ok (.iconst (-1), 1) := by decide +kernel
theorem dX11_nameOf_77 : decode cX11_nameOf 77 = .ok (.ireturn, 1) := by decide +kernel
theorem dX11_village_0 : decode cX11_village 0 = .ok (.aload_n 0, 1) := by decide +kernel
theorem dX11_village_1 : decode cX11_village 1 = .ok (.iconst 0, 1) := by decide +kernel
theorem dX11_village_2 : decode cX11_village 2 = .ok (.putfield 1, 3) := by decide +kernel
theorem dX11_village_5 : decode cX11_village 5 = .ok (.aload_n 0, 1) := by decide +kernel
theorem dX11_village_6 : decode cX11_village 6 = .ok (.invokevirtual 212, 3) := by decide +kernel
theorem dX11_village_9 : decode cX11_village 9 = .ok (.aload_n 0, 1) := by decide +kernel
theorem dX11_village_10 : decode cX11_village 10 = .ok (.iconst 0, 1) := by decide +kernel
theorem dX11_village_11 : decode cX11_village 11 = .ok (.putfield 215, 3) := by decide +kernel
theorem dX11_village_14 : decode cX11_village 14 = .ok (.iconst 0, 1) := by decide +kernel
theorem dX11_village_15 : decode cX11_village 15 = .ok (.istore_n 1, 1) := by decide +kernel
theorem dX11_village_16 : decode cX11_village 16 = .ok (.iload_n 1, 1) := by decide +kernel
theorem dX11_village_17 : decode cX11_village 17 = .ok (.bipush 80, 2) := by decide +kernel
theorem dX11_village_19 : decode cX11_village 19 = .ok (.if_icmp .ge 19, 3) := by decide +kernel
theorem dX11_village_22 : decode cX11_village 22 = .ok (.aload_n 0, 1) := by decide +kernel
theorem dX11_village_23 : decode cX11_village 23 = .ok (.getfield 73, 3) := by decide +kernel
theorem dX11_village_26 : decode cX11_village 26 = .ok (.bipush 80, 2) := by decide +kernel
theorem dX11_village_28 : decode cX11_village 28 = .ok (.iload_n 1, 1) := by decide +kernel
theorem dX11_village_29 : decode cX11_village 29 = .ok (.iadd, 1) := by decide +kernel
theorem dX11_village_30 : decode cX11_village 30 = .ok (.iconst 0, 1) := by decide +kernel
theorem dX11_village_31 : decode cX11_village 31 = .ok (.iastore, 1) := by decide +kernel
theorem dX11_village_32 : decode cX11_village 32 = .ok (.iinc 1 1, 3) := by decide +kernel
theorem dX11_village_35 : decode cX11_village 35 = .ok (.goto (-19), 3) := by decide +kernel
theorem dX11_village_38 : decode cX11_village 38 = .ok (.aload_n 0, 1) := by decide +kernel
theorem dX11_village_39 : decode cX11_village 39 = .ok (.getfield 73, 3) := by decide +kernel
theorem dX11_village_42 : decode cX11_village 42 = .ok (.bipush 107, 2) := by decide +kernel
theorem dX11_village_44 : decode cX11_village 44 = .ok (.iconst 4, 1) := by decide +kernel
theorem dX11_village_45 : decode cX11_village 45 = .ok (.iastore, 1) := by decide +kernel
theorem dX11_village_46 : decode cX11_village 46 = .ok (.aload_n 0, 1) := by decide +kernel
theorem dX11_village_47 : decode cX11_village 47 = .ok (.getfield 73, 3) := by decide +kernel
theorem dX11_village_50 : decode cX11_village 50 = .ok (.bipush 108, 2) := by decide +kernel
theorem dX11_village_52 : decode cX11_village 52 = .ok (.bipush 8, 2) := by decide +kernel
theorem dX11_village_54 : decode cX11_village 54 = .ok (.iastore, 1) := by decide +kernel
theorem dX11_village_55 : decode cX11_village 55 = .ok (.aload_n 0, 1) := by decide +kernel
theorem dX11_village_56 : decode cX11_village 56 = .ok (.iconst 0, 1) := by decide +kernel
theorem dX11_village_57 : decode cX11_village 57 = .ok (.putfield 218, 3) := by decide +kernel
theorem dX11_village_60 : decode cX11_village 60 = .ok (.aload_n 0, 1) := by decide +kernel
theorem dX11_village_61 : decode cX11_village 61 = .ok (.iconst 0, 1) := by decide +kernel
theorem dX11_village_62 : decode cX11_village 62 = .ok (.putfield 221, 3) := by decide +kernel
theorem dX11_village_65 : decode cX11_village 65 = .ok (.aload_n 0, 1) := by decide +kernel
theorem dX11_village_66 : decode cX11_village 66 = .ok (.getfield 196, 3) := by decide +kernel
theorem dX11_village_69 : decode cX11_village 69 = .ok (.ifCond .ne 28, 3) := by decide +kernel
theorem dX11_village_72 : decode cX11_village 72 = .ok (.aload_n 0, 1) := by decide +kernel
theorem dX11_village_73 : decode cX11_village 73 = .ok (.getfield 24, 3) := by decide +kernel
theorem dX11_village_76 : decode cX11_village 76 = .ok (.aload_n 0, 1) := by decide +kernel
theorem dX11_village_77 : decode cX11_village 77 = .ok (.getfield 193, 3) := by decide +kernel
theorem dX11_village_80 : decode cX11_village 80 = .ok (.iaload, 1) := by decide +kernel
theorem dX11_village_81 : decode cX11_village 81 = .ok (.ifCond .eq 16, 3) := by decide +kernel
theorem dX11_village_84 : decode cX11_village 84 = .ok (.aload_n 0, 1) := by decide +kernel
theorem dX11_village_85 : decode cX11_village 85 = .ok (.invokevirtual 224, 3) := by decide +kernel
theorem dX11_village_88 : decode cX11_village 88 = .ok (.aload_n 0, 1) := by decide +kernel
theorem dX11_village_89 : decode cX11_village 89 = .ok (.bipush 59, 2) := by decide +kernel
theorem dX11_village_91 : decode cX11_village 91 = .ok (.invokevirtual 227, 3) := by decide +kernel
theorem dX11_village_94 : decode cX11_village 94 = .ok (.goto (-29), 3) := by decide +kernel
theorem dX11_village_97 : decode cX11_village 97 = .ok (.iconst 0, 1) := by decide +kernel
theorem dX11_village_98 : decode cX11_village 98 = .ok (.istore_n 1, 1) := by decide +kernel
theorem dX11_village_99 : decode cX11_village 99 = .ok (.iconst 0, 1) := by decide +kernel
theorem dX11_village_100 : decode cX11_village 100 = .ok (.istore_n 2, 1) := by decide +kernel
theorem dX11_village_101 : decode cX11_village 101 = .ok (.iload_n 2, 1) := by decide +kernel
theorem dX11_village_102 : decode cX11_village 102 = .ok (.iconst 4, 1) := by decide +kernel
theorem dX11_village_103 : decode cX11_village 103 = .ok (.if_icmp .ge 21, 3) := by decide +kernel
theorem dX11_village_106 : decode cX11_village 106 = .ok (.iload_n 1, 1) := by decide +kernel
theorem dX11_village_107 : decode cX11_village 107 = .ok (.aload_n 0, 1) := by decide +kernel
theorem dX11_village_108 : decode cX11_village 108 = .ok (.getfield 73, 3) := by decide +kernel
theorem dX11_village_111 : decode cX11_village 111 = .ok (.bipush 98, 2) := by decide +kernel
theorem dX11_village_113 : decode cX11_village 113 = .ok (.iload_n 2, 1) := by decide +kernel
theorem dX11_village_114 : decode cX11_village 114 = .ok (.iadd, 1) := by decide +kernel
theorem dX11_village_115 : decode cX11_village 115 = .ok (.iaload, 1) := by decide +kernel
theorem dX11_village_116 : decode cX11_village 116 = .ok (.iadd, 1) := by decide +kernel
theorem dX11_village_117 : decode cX11_village 117 = .ok (.istore_n 1, 1) := by decide +kernel
theorem dX11_village_118 : decode cX11_village 118 = .ok (.iinc 2 1, 3) := by decide +kernel
theorem dX11_village_121 : decode cX11_village 121 = .ok (.goto (-20), 3) := by decide +kernel
theorem dX11_village_124 : decode cX11_village 124 = .ok (.aload_n 0, 1) := by decide +kernel
theorem dX11_village_125 : decode cX11_village 125 = .ok (.getfield 196, 3) := by decide +kernel
theorem dX11_village_128 : decode cX11_village 128 = .ok (.ifCond .ne 25, 3) := by decide +kernel
theorem dX11_village_131 : decode cX11_village 131 = .ok (.aload_n 0, 1) := by decide +kernel
theorem dX11_village_132 : decode cX11_village 132 = .ok (.getfield 73, 3) := by decide +kernel
theorem dX11_village_135 : decode cX11_village 135 = .ok (.bipush 93, 2) := by decide +kernel
theorem dX11_village_137 : decode cX11_village 137 = .ok (.iaload, 1) := by decide +kernel
theorem dX11_village_138 : decode cX11_village 138 = .ok (.ifCond .le 15, 3) := by decide +kernel
theorem dX11_village_141 : decode cX11_village 141 = .ok (.iload_n 1, 1) := by decide +kernel
theorem dX11_village_142 : decode cX11_village 142 = .ok (.bipush 6, 2) := by decide +kernel
theorem dX11_village_144 : decode cX11_village 144 = .ok (.if_icmp .eq 9, 3) := by decide +kernel
theorem dX11_village_147 : decode cX11_village 147 = .ok (.aload_n 0, 1) := by decide +kernel
theorem dX11_village_148 : decode cX11_village 148 = .ok (.bipush 6, 2) := by decide +kernel
theorem dX11_village_150 : decode cX11_village 150 = .ok (.invokevirtual 202, 3) := by decide +kernel
theorem dX11_village_153 : decode cX11_village 153 = .ok (.aload_n 0, 1) := by decide +kernel
theorem dX11_village_154 : decode cX11_village 154 = .ok (.getfield 196, 3) := by decide +kernel
theorem dX11_village_157 : decode cX11_village 157 = .ok (.ifCond .le 8, 3) := by decide +kernel
theorem dX11_village_160 : decode cX11_village 160 = .ok (.aload_n 0, 1) := by decide +kernel
theorem dX11_village_161 : decode cX11_village 161 = .ok (.getfield 196, 3) := by decide +kernel
theorem dX11_village_164 : decode cX11_village 164 = .ok (.ireturn, 1) := by decide +kernel
theorem dX11_village_165 : decode cX11_village 165 = .ok (.aload_n 0, 1) := by decide +kernel
theorem dX11_village_166 : decode cX11_village 166 = .ok (.iconst 1, 1) := by decide +kernel
theorem dX11_village_167 : decode cX11_village 167 = .ok (.iconst 0, 1) := by decide +kernel
theorem dX11_village_168 : decode cX11_village 168 = .ok (.invokevirtual 230, 3) := by decide +kernel
theorem dX11_village_171 : decode cX11_village 171 = .ok (.aload_n 0, 1) := by decide +kernel
theorem dX11_village_172 : decode cX11_village 172 = .ok (.iconst 1, 1) := by decide +kernel
theorem dX11_village_173 : decode cX11_village 173 = .ok (.putfield 163, 3) := by decide +kernel
theorem dX11_village_176 : decode cX11_village 176 = .ok (.aload_n 0, 1) := by decide +kernel
theorem dX11_village_177 : decode cX11_village 177 = .ok (.iconst 1, 1) := by decide +kernel
theorem dX11_village_178 : decode cX11_village 178 = .ok (.putfield 167, 3) := by decide +kernel
theorem dX11_village_181 : decode cX11_village 181 = .ok (.aload_n 0, 1) := by decide +kernel
theorem dX11_village_182 : decode cX11_village 182 = .ok (.iconst 0, 1) := by decide +kernel
theorem dX11_village_183 : decode cX11_village 183 = .ok (.putfield 234, 3) := by decide +kernel
theorem dX11_village_186 : decode cX11_village 186 = .ok (.iconst 0, 1) := by decide +kernel
theorem dX11_village_187 : decode cX11_village 187 = .ok (.ireturn, 1) := by decide +kernel
theorem dX11_carry_0 : decode cX11_carry 0 = .ok (.iconst 0, 1) := by decide +kernel
theorem dX11_carry_1 : decode cX11_carry 1 = .ok (.istore_n 3, 1) := by decide +kernel
theorem dX11_carry_2 : decode cX11_carry 2 = .ok (.iload_n 3, 1) := by decide +kernel
theorem dX11_carry_3 : decode cX11_carry 3 = .ok (.bipush 80, 2) := by decide +kernel
theorem dX11_carry_5 : decode cX11_carry 5 = .ok (.if_icmp .ge 31, 3) := by decide +kernel
theorem dX11_carry_8 : decode cX11_carry 8 = .ok (.aload_n 0, 1) := by decide +kernel
theorem dX11_carry_9 : decode cX11_carry 9 = .ok (.getfield 73, 3) := by decide +kernel
theorem dX11_carry_12 : decode cX11_carry 12 = .ok (.bipush 80, 2) := by decide +kernel
theorem dX11_carry_14 : decode cX11_carry 14 = .ok (.iload_n 2, 1) := by decide +kernel
theorem dX11_carry_15 : decode cX11_carry 15 = .ok (.imul, 1) := by decide +kernel
theorem dX11_carry_16 : decode cX11_carry 16 = .ok (.iload_n 3, 1) := by decide +kernel
theorem dX11_carry_17 : decode cX11_carry 17 = .ok (.iadd, 1) := by decide +kernel
theorem dX11_carry_18 : decode cX11_carry 18 = .ok (.aload_n 0, 1) := by decide +kernel
theorem dX11_carry_19 : decode cX11_carry 19 = .ok (.getfield 73, 3) := by decide +kernel
theorem dX11_carry_22 : decode cX11_carry 22 = .ok (.bipush 80, 2) := by decide +kernel
theorem dX11_carry_24 : decode cX11_carry 24 = .ok (.iload_n 1, 1) := by decide +kernel
theorem dX11_carry_25 : decode cX11_carry 25 = .ok (.imul, 1) := by decide +kernel
theorem dX11_carry_26 : decode cX11_carry 26 = .ok (.iload_n 3, 1) := by decide +kernel
theorem dX11_carry_27 : decode cX11_carry 27 = .ok (.iadd, 1) := by decide +kernel
theorem dX11_carry_28 : decode cX11_carry 28 = .ok (.iaload, 1) := by decide +kernel
theorem dX11_carry_29 : decode cX11_carry 29 = .ok (.iastore, 1) := by decide +kernel
theorem dX11_carry_30 : decode cX11_carry 30 = .ok (.iinc 3 1, 3) := by decide +kernel
theorem dX11_carry_33 : decode cX11_carry 33 = .ok (.goto (-31), 3) := by decide +kernel
theorem dX11_carry_36 : decode cX11_carry 36 = .ok (.iconst 0, 1) := by decide +kernel
theorem dX11_carry_37 : decode cX11_carry 37 = .ok (.istore_n 3, 1) := by decide +kernel
theorem dX11_carry_38 : decode cX11_carry 38 = .ok (.iload_n 3, 1) := by decide +kernel
theorem dX11_carry_39 : decode cX11_carry 39 = .ok (.sipush 1100, 3) := by decide +kernel
theorem dX11_carry_42 : decode cX11_carry 42 = .ok (.if_icmp .ge 57, 3) := by decide +kernel
theorem dX11_carry_45 : decode cX11_carry 45 = .ok (.aload_n 0, 1) := by decide +kernel
theorem dX11_carry_46 : decode cX11_carry 46 = .ok (.getfield 76, 3) := by decide +kernel
theorem dX11_carry_49 : decode cX11_carry 49 = .ok (.sipush 1100, 3) := by decide +kernel
theorem dX11_carry_52 : decode cX11_carry 52 = .ok (.iload_n 2, 1) := by decide +kernel
theorem dX11_carry_53 : decode cX11_carry 53 = .ok (.imul, 1) := by decide +kernel
theorem dX11_carry_54 : decode cX11_carry 54 = .ok (.iload_n 3, 1) := by decide +kernel
theorem dX11_carry_55 : decode cX11_carry 55 = .ok (.iadd, 1) := by decide +kernel
theorem dX11_carry_56 : decode cX11_carry 56 = .ok (.aload_n 0, 1) := by decide +kernel
theorem dX11_carry_57 : decode cX11_carry 57 = .ok (.getfield 76, 3) := by decide +kernel
theorem dX11_carry_60 : decode cX11_carry 60 = .ok (.sipush 1100, 3) := by decide +kernel
theorem dX11_carry_63 : decode cX11_carry 63 = .ok (.iload_n 1, 1) := by decide +kernel
theorem dX11_carry_64 : decode cX11_carry 64 = .ok (.imul, 1) := by decide +kernel
theorem dX11_carry_65 : decode cX11_carry 65 = .ok (.iload_n 3, 1) := by decide +kernel
theorem dX11_carry_66 : decode cX11_carry 66 = .ok (.iadd, 1) := by decide +kernel
theorem dX11_carry_67 : decode cX11_carry 67 = .ok (.iaload, 1) := by decide +kernel
theorem dX11_carry_68 : decode cX11_carry 68 = .ok (.iastore, 1) := by decide +kernel
theorem dX11_carry_69 : decode cX11_carry 69 = .ok (.aload_n 0, 1) := by decide +kernel
theorem dX11_carry_70 : decode cX11_carry 70 = .ok (.getfield 79, 3) := by decide +kernel
theorem dX11_carry_73 : decode cX11_carry 73 = .ok (.sipush 1100, 3) := by decide +kernel
theorem dX11_carry_76 : decode cX11_carry 76 = .ok (.iload_n 2, 1) := by decide +kernel
theorem dX11_carry_77 : decode cX11_carry 77 = .ok (.imul, 1) := by decide +kernel
theorem dX11_carry_78 : decode cX11_carry 78 = .ok (.iload_n 3, 1) := by decide +kernel
theorem dX11_carry_79 : decode cX11_carry 79 = .ok (.iadd, 1) := by decide +kernel
theorem dX11_carry_80 : decode cX11_carry 80 = .ok (.aload_n 0, 1) := by decide +kernel
theorem dX11_carry_81 : decode cX11_carry 81 = .ok (.getfield 79, 3) := by decide +kernel
theorem dX11_carry_84 : decode cX11_carry 84 = .ok (.sipush 1100, 3) := by decide +kernel
theorem dX11_carry_87 : decode cX11_carry 87 = .ok (.iload_n 1, 1) := by decide +kernel
theorem dX11_carry_88 : decode cX11_carry 88 = .ok (.imul, 1) := by decide +kernel
theorem dX11_carry_89 : decode cX11_carry 89 = .ok (.iload_n 3, 1) := by decide +kernel
theorem dX11_carry_90 : decode cX11_carry 90 = .ok (.iadd, 1) := by decide +kernel
theorem dX11_carry_91 : decode cX11_carry 91 = .ok (.iaload, 1) := by decide +kernel
theorem dX11_carry_92 : decode cX11_carry 92 = .ok (.iastore, 1) := by decide +kernel
theorem dX11_carry_93 : decode cX11_carry 93 = .ok (.iinc 3 1, 3) := by decide +kernel
theorem dX11_carry_96 : decode cX11_carry 96 = .ok (.goto (-58), 3) := by decide +kernel
theorem dX11_carry_99 : decode cX11_carry 99 = .ok (.return_, 1) := by decide +kernel
theorem dX11_readLine_0 : decode cX11_readLine 0 = .ok (.aload_n 0, 1) := by decide +kernel
theorem dX11_readLine_1 : decode cX11_readLine 1 = .ok (.iconst 0, 1) := by decide +kernel
theorem dX11_readLine_2 : decode cX11_readLine 2 = .ok (.invokevirtual 206, 3) := by decide +kernel
theorem dX11_readLine_5 : decode cX11_readLine 5 = .ok (.ifCond .eq 10, 3) := by decide +kernel
theorem dX11_readLine_8 : decode cX11_readLine 8 = .ok (.aload_n 0, 1) := by decide +kernel
theorem dX11_readLine_9 : decode cX11_readLine 9 = .ok (.invokevirtual 237, 3) := by decide +kernel
theorem dX11_readLine_12 : decode cX11_readLine 12 = .ok (.goto 179, 3) := by decide +kernel
theorem dX11_readLine_15 : decode cX11_readLine 15 = .ok (.aload_n 0, 1) := by decide +kernel
theorem dX11_readLine_16 : decode cX11_readLine 16 = .ok (.iconst 5, 1) := by decide +kernel
theorem dX11_readLine_17 : decode cX11_readLine 17 = .ok (.invokevirtual 206, 3) := by decide +kernel
theorem dX11_readLine_20 : decode cX11_readLine 20 = .ok (.ifCond .eq 10, 3) := by decide +kernel
theorem dX11_readLine_23 : decode cX11_readLine 23 = .ok (.aload_n 0, 1) := by decide +kernel
theorem dX11_readLine_24 : decode cX11_readLine 24 = .ok (.invokevirtual 240, 3) := by decide +kernel
theorem dX11_readLine_27 : decode cX11_readLine 27 = .ok (.goto 164, 3) := by decide +kernel
theorem dX11_readLine_30 : decode cX11_readLine 30 = .ok (.aload_n 0, 1) := by decide +kernel
theorem dX11_readLine_31 : decode cX11_readLine 31 = .ok (.bipush 7, 2) := by decide +kernel
theorem dX11_readLine_33 : decode cX11_readLine 33 = .ok (.invokevirtual 206, 3) := by decide +kernel
theorem dX11_readLine_36 : decode cX11_readLine 36 = .ok (.ifCond .eq 10, 3) := by decide +kernel
theorem dX11_readLine_39 : decode cX11_readLine 39 = .ok (.aload_n 0, 1) := by decide +kernel
theorem dX11_readLine_40 : decode cX11_readLine 40 = .ok (.invokevirtual 243, 3) := by decide +kernel
theorem dX11_readLine_43 : decode cX11_readLine 43 = .ok (.goto 148, 3) := by decide +kernel
theorem dX11_readLine_46 : decode cX11_readLine 46 = .ok (.aload_n 0, 1) := by decide +kernel
theorem dX11_readLine_47 : decode cX11_readLine 47 = .ok (.bipush 8, 2) := by decide +kernel
theorem dX11_readLine_49 : decode cX11_readLine 49 = .ok (.invokevirtual 206, 3) := by decide +kernel
theorem dX11_readLine_52 : decode cX11_readLine 52 = .ok (.ifCond .eq 10, 3) := by decide +kernel
theorem dX11_readLine_55 : decode cX11_readLine 55 = .ok (.aload_n 0, 1) := by decide +kernel
theorem dX11_readLine_56 : decode cX11_readLine 56 = .ok (.invokevirtual 246, 3) := by decide +kernel
theorem dX11_readLine_59 : decode cX11_readLine 59 = .ok (.goto 132, 3) := by decide +kernel
theorem dX11_readLine_62 : decode cX11_readLine 62 = .ok (.aload_n 0, 1) := by decide +kernel
theorem dX11_readLine_63 : decode cX11_readLine 63 = .ok (.bipush 11, 2) := by decide +kernel
theorem dX11_readLine_65 : decode cX11_readLine 65 = .ok (.invokevirtual 206, 3) := by decide +kernel
theorem dX11_readLine_68 : decode cX11_readLine 68 = .ok (.ifCond .eq 10, 3) := by decide +kernel
theorem dX11_readLine_71 : decode cX11_readLine 71 = .ok (.aload_n 0, 1) := by decide +kernel
theorem dX11_readLine_72 : decode cX11_readLine 72 = .ok (.invokevirtual 249, 3) := by decide +kernel
theorem dX11_readLine_75 : decode cX11_readLine 75 = .ok (.goto 116, 3) := by decide +kernel
theorem dX11_readLine_78 : decode cX11_readLine 78 = .ok (.aload_n 0, 1) := by decide +kernel
theorem dX11_readLine_79 : decode cX11_readLine 79 = .ok (.bipush 12, 2) := by decide +kernel
theorem dX11_readLine_81 : decode cX11_readLine 81 = .ok (.invokevirtual 206, 3) := by decide +kernel
theorem dX11_readLine_84 : decode cX11_readLine 84 = .ok (.ifCond .eq 48, 3) := by decide +kernel
theorem dX11_readLine_87 : decode cX11_readLine 87 = .ok (.aload_n 0, 1) := by decide +kernel
theorem dX11_readLine_88 : decode cX11_readLine 88 = .ok (.getfield 218, 3) := by decide +kernel
theorem dX11_readLine_91 : decode cX11_readLine 91 = .ok (.ifCond .eq 9, 3) := by decide +kernel
theorem dX11_readLine_94 : decode cX11_readLine 94 = .ok (.aload_n 0, 1) := by decide +kernel
theorem dX11_readLine_95 : decode cX11_readLine 95 = .ok (.iconst 3, 1) := by decide +kernel
theorem dX11_readLine_96 : decode cX11_readLine 96 = .ok (.invokevirtual 202, 3) := by decide +kernel
theorem dX11_readLine_99 : decode cX11_readLine 99 = .ok (.return_, 1) := by decide +kernel
theorem dX11_readLine_100 : decode cX11_readLine 100 = .ok (.aload_n 0, 1) := by decide +kernel
theorem dX11_readLine_101 : decode cX11_readLine 101 = .ok (.iconst 1, 1) := by decide +kernel
theorem dX11_readLine_102 : decode cX11_readLine 102 = .ok (.putfield 218, 3) := by decide +kernel
theorem dX11_readLine_105 : decode cX11_readLine 105 = .ok (.aload_n 0, 1) := by decide +kernel
theorem dX11_readLine_106 : decode cX11_readLine 106 = .ok (.dup, 1) := by decide +kernel
theorem dX11_readLine_107 : decode cX11_readLine 107 = .ok (.getfield 193, 3) := by decide +kernel
theorem dX11_readLine_110 : decode cX11_readLine 110 = .ok (.iconst 1, 1) := by decide +kernel
theorem dX11_readLine_111 : decode cX11_readLine 111 = .ok (.iadd, 1) := by decide +kernel
theorem dX11_readLine_112 : decode cX11_readLine 112 = .ok (.putfield 193, 3) := by decide +kernel
theorem dX11_readLine_115 : decode cX11_readLine 115 = .ok (.aload_n 0, 1) := by decide +kernel
theorem dX11_readLine_116 : decode cX11_readLine 116 = .ok (.getfield 73, 3) := by decide +kernel
theorem dX11_readLine_119 : decode cX11_readLine 119 = .ok (.bipush 107, 2) := by decide +kernel
theorem dX11_readLine_121 : decode cX11_readLine 121 = .ok (.aload_n 0, 1) := by decide +kernel
theorem dX11_readLine_122 : decode cX11_readLine 122 = .ok (.iconst 1, 1) := by decide +kernel
theorem dX11_readLine_123 : decode cX11_readLine 123 = .ok (.bipush 6, 2) := by decide +kernel
theorem dX11_readLine_125 : decode cX11_readLine 125 = .ok (.invokevirtual 252, 3) := by decide +kernel
theorem dX11_readLine_128 : decode cX11_readLine 128 = .ok (.iastore, 1) := by decide +kernel
theorem dX11_readLine_129 : decode cX11_readLine 129 = .ok (.goto 62, 3) := by decide +kernel
theorem dX11_readLine_132 : decode cX11_readLine 132 = .ok (.aload_n 0, 1) := by decide +kernel
theorem dX11_readLine_133 : decode cX11_readLine 133 = .ok (.bipush 13, 2) := by decide +kernel
theorem dX11_readLine_135 : decode cX11_readLine 135 = .ok (.invokevirtual 206, 3) := by decide +kernel
theorem dX11_readLine_138 : decode cX11_readLine 138 = .ok (.ifCond .eq 48, 3) := by decide +kernel
theorem dX11_readLine_141 : decode cX11_readLine 141 = .ok (.aload_n 0, 1) := by decide +kernel
theorem dX11_readLine_142 : decode cX11_readLine 142 = .ok (.getfield 221, 3) := by decide +kernel
theorem dX11_readLine_145 : decode cX11_readLine 145 = .ok (.ifCond .eq 9, 3) := by decide +kernel
theorem dX11_readLine_148 : decode cX11_readLine 148 = .ok (.aload_n 0, 1) := by decide +kernel
theorem dX11_readLine_149 : decode cX11_readLine 149 = .ok (.iconst 3, 1) := by decide +kernel
theorem dX11_readLine_150 : decode cX11_readLine 150 = .ok (.invokevirtual 202, 3) := by decide +kernel
theorem dX11_readLine_153 : decode cX11_readLine 153 = .ok (.return_, 1) := by decide +kernel
theorem dX11_readLine_154 : decode cX11_readLine 154 = .ok (.aload_n 0, 1) := by decide +kernel
theorem dX11_readLine_155 : decode cX11_readLine 155 = .ok (.iconst 1, 1) := by decide +kernel
theorem dX11_readLine_156 : decode cX11_readLine 156 = .ok (.putfield 221, 3) := by decide +kernel
theorem dX11_readLine_159 : decode cX11_readLine 159 = .ok (.aload_n 0, 1) := by decide +kernel
theorem dX11_readLine_160 : decode cX11_readLine 160 = .ok (.dup, 1) := by decide +kernel
theorem dX11_readLine_161 : decode cX11_readLine 161 = .ok (.getfield 193, 3) := by decide +kernel
theorem dX11_readLine_164 : decode cX11_readLine 164 = .ok (.iconst 1, 1) := by decide +kernel
theorem dX11_readLine_165 : decode cX11_readLine 165 = .ok (.iadd, 1) := by decide +kernel
theorem dX11_readLine_166 : decode cX11_readLine 166 = .ok (.putfield 193, 3) := by decide +kernel
theorem dX11_readLine_169 : decode cX11_readLine 169 = .ok (.aload_n 0, 1) := by decide +kernel
theorem dX11_readLine_170 : decode cX11_readLine 170 = .ok (.getfield 73, 3) := by decide +kernel
theorem dX11_readLine_173 : decode cX11_readLine 173 = .ok (.bipush 108, 2) := by decide +kernel
theorem dX11_readLine_175 : decode cX11_readLine 175 = .ok (.aload_n 0, 1) := by decide +kernel
theorem dX11_readLine_176 : decode cX11_readLine 176 = .ok (.iconst 1, 1) := by decide +kernel
theorem dX11_readLine_177 : decode cX11_readLine 177 = .ok (.bipush 16, 2) := by decide +kernel
theorem dX11_readLine_179 : decode cX11_readLine 179 = .ok (.invokevirtual 252, 3) := by decide +kernel
theorem dX11_readLine_182 : decode cX11_readLine 182 = .ok (.iastore, 1) := by decide +kernel
theorem dX11_readLine_183 : decode cX11_readLine 183 = .ok (.goto 8, 3) := by decide +kernel
theorem dX11_readLine_186 : decode cX11_readLine 186 = .ok (.aload_n 0, 1) := by decide +kernel
theorem dX11_readLine_187 : decode cX11_readLine 187 = .ok (.iconst 1, 1) := by decide +kernel
theorem dX11_readLine_188 : decode cX11_readLine 188 = .ok (.invokevirtual 202, 3) := by decide +kernel
theorem dX11_readLine_191 : decode cX11_readLine 191 = .ok (.return_, 1) := by decide +kernel
theorem dX11_takeNewName_0 : decode cX11_takeNewName 0 = .ok (.aload_n 0, 1) := by decide +kernel
theorem dX11_takeNewName_1 : decode cX11_takeNewName 1 = .ok (.invokevirtual 256, 3) := by decide +kernel
theorem dX11_takeNewName_4 : decode cX11_takeNewName 4 = .ok (.ifCond .ne 11, 3) := by decide +kernel
theorem dX11_takeNewName_7 : decode cX11_takeNewName 7 = .ok (.aload_n 0, 1) := by decide +kernel
theorem dX11_takeNewName_8 : decode cX11_takeNewName 8 = .ok (.iconst 1, 1) := by decide +kernel
theorem dX11_takeNewName_9 : decode cX11_takeNewName 9 = .ok (.invokevirtual 202, 3) := by decide +kernel
theorem dX11_takeNewName_12 : decode cX11_takeNewName 12 = .ok (.goto 24, 3) := by decide +kernel
theorem dX11_takeNewName_15 : decode cX11_takeNewName 15 = .ok (.aload_n 0, 1) := by decide +kernel
theorem dX11_takeNewName_16 : decode cX11_takeNewName 16 = .ok (.aload_n 0, 1) := by decide +kernel
theorem dX11_takeNewName_17 : decode cX11_takeNewName 17 = .ok (.getfield 30, 3) := by decide +kernel
theorem dX11_takeNewName_20 : decode cX11_takeNewName 20 = .ok (.aload_n 0, 1) := by decide +kernel
theorem dX11_takeNewName_21 : decode cX11_takeNewName 21 = .ok (.getfield 193, 3) := by decide +kernel
theorem dX11_takeNewName_24 : decode cX11_takeNewName 24 = .ok (.laload, 1) := by decide +kernel
theorem dX11_takeNewName_25 : decode cX11_takeNewName 25 = .ok (.invokevirtual 260, 3) := by decide +kernel
theorem dX11_takeNewName_28 : decode cX11_takeNewName 28 = .ok (.ifCond .lt 8, 3) := by decide +kernel
theorem dX11_takeNewName_31 : decode cX11_takeNewName 31 = .ok (.aload_n 0, 1) := by decide +kernel
theorem dX11_takeNewName_32 : decode cX11_takeNewName 32 = .ok (.iconst 3, 1) := by decide +kernel
theorem dX11_takeNewName_33 : decode cX11_takeNewName 33 = .ok (.invokevirtual 202, 3) := by decide +kernel
theorem dX11_takeNewName_36 : decode cX11_takeNewName 36 = .ok (.aload_n 0, 1) := by decide +kernel
theorem dX11_takeNewName_37 : decode cX11_takeNewName 37 = .ok (.getfield 196, 3) := by decide +kernel
theorem dX11_takeNewName_40 : decode cX11_takeNewName 40 = .ok (.ifCond .ne 28, 3) := by decide +kernel
theorem dX11_takeNewName_43 : decode cX11_takeNewName 43 = .ok (.aload_n 0, 1) := by decide +kernel
theorem dX11_takeNewName_44 : decode cX11_takeNewName 44 = .ok (.getfield 82, 3) := by decide +kernel
theorem dX11_takeNewName_47 : decode cX11_takeNewName 47 = .ok (.iload_n 1, 1) := by decide +kernel
theorem dX11_takeNewName_48 : decode cX11_takeNewName 48 = .ok (.aload_n 0, 1) := by decide +kernel
theorem dX11_takeNewName_49 : decode cX11_takeNewName 49 = .ok (.getfield 30, 3) := by decide +kernel
theorem dX11_takeNewName_52 : decode cX11_takeNewName 52 = .ok (.aload_n 0, 1) := by decide +kernel
theorem dX11_takeNewName_53 : decode cX11_takeNewName 53 = .ok (.getfield 193, 3) := by decide +kernel
theorem dX11_takeNewName_56 : decode cX11_takeNewName 56 = .ok (.laload, 1) := by decide +kernel
theorem dX11_takeNewName_57 : decode cX11_takeNewName 57 = .ok (.lastore, 1) := by decide +kernel
theorem dX11_takeNewName_58 : decode cX11_takeNewName 58 = .ok (.aload_n 0, 1) := by decide +kernel
theorem dX11_takeNewName_59 : decode cX11_takeNewName 59 = .ok (.dup, 1) := by decide +kernel
theorem dX11_takeNewName_60 : decode cX11_takeNewName 60 = .ok (.getfield 193, 3) := by decide +kernel
theorem dX11_takeNewName_63 : decode cX11_takeNewName 63 = .ok (.iconst 1, 1) := by decide +kernel
theorem dX11_takeNewName_64 : decode cX11_takeNewName 64 = .ok (.iadd, 1) := by decide +kernel
theorem dX11_takeNewName_65 : decode cX11_takeNewName 65 = .ok (.putfield 193, 3) := by decide +kernel
theorem dX11_takeNewName_68 : decode cX11_takeNewName 68 = .ok (.return_, 1) := by decide +kernel
theorem dX11_readThing_0 : decode cX11_readThing 0 = .ok (.aload_n 0, 1) := by decide +kernel
theorem dX11_readThing_1 : decode cX11_readThing 1 = .ok (.getfield 73, 3) := by decide +kernel
theorem dX11_readThing_4 : decode cX11_readThing 4 = .ok (.bipush 80, 2) := by decide +kernel
theorem dX11_readThing_6 : decode cX11_readThing 6 = .ok (.iaload, 1) := by decide +kernel
theorem dX11_readThing_7 : decode cX11_readThing 7 = .ok (.istore_n 1, 1) := by decide +kernel
theorem dX11_readThing_8 : decode cX11_readThing 8 = .ok (.iload_n 1, 1) := by decide +kernel
theorem dX11_readThing_9 : decode cX11_readThing 9 = .ok (.iconst 3, 1) := by decide +kernel
theorem dX11_readThing_10 : decode cX11_readThing 10 = .ok (.if_icmp .ne 9, 3) := by decide +kernel
theorem dX11_readThing_13 : decode cX11_readThing 13 = .ok (.aload_n 0, 1) := by decide +kernel
theorem dX11_readThing_14 : decode cX11_readThing 14 = .ok (.iconst 5, 1) := by decide +kernel
theorem dX11_readThing_15 : decode cX11_readThing 15 = .ok (.invokevirtual 202, 3) := by decide +kernel
theorem dX11_readThing_18 : decode cX11_readThing 18 = .ok (.return_, 1) := by decide +kernel
theorem dX11_readThing_19 : decode cX11_readThing 19 = .ok (.aload_n 0, 1) := by decide +kernel
theorem dX11_readThing_20 : decode cX11_readThing 20 = .ok (.dup, 1) := by decide +kernel
theorem dX11_readThing_21 : decode cX11_readThing 21 = .ok (.getfield 193, 3) := by decide +kernel
theorem dX11_readThing_24 : decode cX11_readThing 24 = .ok (.iconst 1, 1) := by decide +kernel
theorem dX11_readThing_25 : decode cX11_readThing 25 = .ok (.iadd, 1) := by decide +kernel
theorem dX11_readThing_26 : decode cX11_readThing 26 = .ok (.putfield 193, 3) := by decide +kernel
theorem dX11_readThing_29 : decode cX11_readThing 29 = .ok (.aload_n 0, 1) := by decide +kernel
theorem dX11_readThing_30 : decode cX11_readThing 30 = .ok (.iload_n 1, 1) := by decide +kernel
theorem dX11_readThing_31 : decode cX11_readThing 31 = .ok (.invokevirtual 264, 3) := by decide +kernel
theorem dX11_readThing_34 : decode cX11_readThing 34 = .ok (.bipush 81, 2) := by decide +kernel
theorem dX11_readThing_36 : decode cX11_readThing 36 = .ok (.iconst 4, 1) := by decide +kernel
theorem dX11_readThing_37 : decode cX11_readThing 37 = .ok (.iload_n 1, 1) := by decide +kernel
theorem dX11_readThing_38 : decode cX11_readThing 38 = .ok (.imul, 1) := by decide +kernel
theorem dX11_readThing_39 : decode cX11_readThing 39 = .ok (.iadd, 1) := by decide +kernel
theorem dX11_readThing_40 : decode cX11_readThing 40 = .ok (.istore_n 2, 1) := by decide +kernel
theorem dX11_readThing_41 : decode cX11_readThing 41 = .ok (.aload_n 0, 1) := by decide +kernel
theorem dX11_readThing_42 : decode cX11_readThing 42 = .ok (.iconst 1, 1) := by decide +kernel
theorem dX11_readThing_43 : decode cX11_readThing 43 = .ok (.invokevirtual 267, 3) := by decide +kernel
theorem dX11_readThing_46 : decode cX11_readThing 46 = .ok (.aload_n 0, 1) := by decide +kernel
theorem dX11_readThing_47 : decode cX11_readThing 47 = .ok (.iconst 2, 1) := by decide +kernel
theorem dX11_readThing_48 : decode cX11_readThing 48 = .ok (.iconst 3, 1) := by decide +kernel
theorem dX11_readThing_49 : decode cX11_readThing 49 = .ok (.invokevirtual 252, 3) := by decide +kernel
theorem dX11_readThing_52 : decode cX11_readThing 52 = .ok (.istore_n 3, 1) := by decide +kernel
theorem dX11_readThing_53 : decode cX11_readThing 53 = .ok (.aload_n 0, 1) := by decide +kernel
theorem dX11_readThing_54 : decode cX11_readThing 54 = .ok (.iconst 2, 1) := by decide +kernel
theorem dX11_readThing_55 : decode cX11_readThing 55 = .ok (.invokevirtual 267, 3) := by decide +kernel
theorem dX11_readThing_58 : decode cX11_readThing 58 = .ok (.aload_n 0, 1) := by decide +kernel
theorem dX11_readThing_59 : decode cX11_readThing 59 = .ok (.iconst 0, 1) := by decide +kernel
theorem dX11_readThing_60 : decode cX11_readThing 60 = .ok (.iload_n 3, 1) := by decide +kernel
theorem dX11_readThing_61 : decode cX11_readThing 61 = .ok (.iconst 1, 1) := by decide +kernel
theorem dX11_readThing_62 : decode cX11_readThing 62 = .ok (.isub, 1) := by decide +kernel
theorem dX11_readThing_63 : decode cX11_readThing 63 = .ok (.invokevirtual 252, 3) := by decide +kernel
theorem dX11_readThing_66 : decode cX11_readThing 66 = .ok (.istore 4, 2) := by decide +kernel
theorem dX11_readThing_68 : decode cX11_readThing 68 = .ok (.aload_n 0, 1) := by decide +kernel
theorem dX11_readThing_69 : decode cX11_readThing 69 = .ok (.iconst 3, 1) := by decide +kernel
theorem dX11_readThing_70 : decode cX11_readThing 70 = .ok (.invokevirtual 267, 3) := by decide +kernel
theorem dX11_readThing_73 : decode cX11_readThing 73 = .ok (.aload_n 0, 1) := by decide +kernel
theorem dX11_readThing_74 : decode cX11_readThing 74 = .ok (.iconst 0, 1) := by decide +kernel
theorem dX11_readThing_75 : decode cX11_readThing 75 = .ok (.sipush 999, 3) := by decide +kernel
theorem dX11_readThing_78 : decode cX11_readThing 78 = .ok (.invokevirtual 252, 3) := by decide +kernel
theorem dX11_readThing_81 : decode cX11_readThing 81 = .ok (.istore 5, 2) := by decide +kernel
theorem dX11_readThing_83 : decode cX11_readThing 83 = .ok (.aload_n 0, 1) := by decide +kernel
theorem dX11_readThing_84 : decode cX11_readThing 84 = .ok (.getfield 196, 3) := by decide +kernel
theorem dX11_readThing_87 : decode cX11_readThing 87 = .ok (.ifCond .le 4, 3) := by decide +kernel
theorem dX11_readThing_90 : decode cX11_readThing 90 = .ok (.return_, 1) := by decide +kernel
theorem dX11_readThing_91 : decode cX11_readThing 91 = .ok (.aload_n 0, 1) := by decide +kernel
theorem dX11_readThing_92 : decode cX11_readThing 92 = .ok (.getfield 73, 3) := by decide +kernel
theorem dX11_readThing_95 : decode cX11_readThing 95 = .ok (.iload_n 2, 1) := by decide +kernel
theorem dX11_readThing_96 : decode cX11_readThing 96 = .ok (.iload_n 3, 1) := by decide +kernel
theorem dX11_readThing_97 : decode cX11_readThing 97 = .ok (.iastore, 1) := by decide +kernel
theorem dX11_readThing_98 : decode cX11_readThing 98 = .ok (.aload_n 0, 1) := by decide +kernel
theorem dX11_readThing_99 : decode cX11_readThing 99 = .ok (.getfield 73, 3) := by decide +kernel
theorem dX11_readThing_102 : decode cX11_readThing 102 = .ok (.iload_n 2, 1) := by decide +kernel
theorem dX11_readThing_103 : decode cX11_readThing 103 = .ok (.iconst 1, 1) := by decide +kernel
theorem dX11_readThing_104 : decode cX11_readThing 104 = .ok (.iadd, 1) := by decide +kernel
theorem dX11_readThing_105 : decode cX11_readThing 105 = .ok (.iload 4, 2) := by decide +kernel
theorem dX11_readThing_107 : decode cX11_readThing 107 = .ok (.iastore, 1) := by decide +kernel
theorem dX11_readThing_108 : decode cX11_readThing 108 = .ok (.aload_n 0, 1) := by decide +kernel
theorem dX11_readThing_109 : decode cX11_readThing 109 = .ok (.getfield 73, 3) := by decide +kernel
theorem dX11_readThing_112 : decode cX11_readThing 112 = .ok (.iload_n 2, 1) := by decide +kernel
theorem dX11_readThing_113 : decode cX11_readThing 113 = .ok (.iconst 2, 1) := by decide +kernel
theorem dX11_readThing_114 : decode cX11_readThing 114 = .ok (.iadd, 1) := by decide +kernel
theorem dX11_readThing_115 : decode cX11_readThing 115 = .ok (.iload 5, 2) := by decide +kernel
theorem dX11_readThing_117 : decode cX11_readThing 117 = .ok (.iastore, 1) := by decide +kernel
theorem dX11_readThing_118 : decode cX11_readThing 118 = .ok (.aload_n 0, 1) := by decide +kernel
theorem dX11_readThing_119 : decode cX11_readThing 119 = .ok (.getfield 73, 3) := by decide +kernel
theorem dX11_readThing_122 : decode cX11_readThing 122 = .ok (.iload_n 2, 1) := by decide +kernel
theorem dX11_readThing_123 : decode cX11_readThing 123 = .ok (.iconst 3, 1) := by decide +kernel
theorem dX11_readThing_124 : decode cX11_readThing 124 = .ok (.iadd, 1) := by decide +kernel
theorem dX11_readThing_125 : decode cX11_readThing 125 = .ok (.aload_n 0, 1) := by decide +kernel
theorem dX11_readThing_126 : decode cX11_readThing 126 = .ok (.iconst 4, 1) := by decide +kernel
theorem dX11_readThing_127 : decode cX11_readThing 127 = .ok (.invokevirtual 209, 3) := by decide +kernel
theorem dX11_readThing_130 : decode cX11_readThing 130 = .ok (.ifCond .eq 7, 3) := by decide +kernel
theorem dX11_readThing_133 : decode cX11_readThing 133 = .ok (.iconst 1, 1) := by decide +kernel
theorem dX11_readThing_134 : decode cX11_readThing 134 = .ok (.goto 4, 3) := by decide +kernel
theorem dX11_readThing_137 : decode cX11_readThing 137 = .ok (.iconst 0, 1) := by decide +kernel
theorem dX11_readThing_138 : decode cX11_readThing 138 = .ok (.iastore, 1) := by decide +kernel
theorem dX11_readThing_139 : decode cX11_readThing 139 = .ok (.aload_n 0, 1) := by decide +kernel
theorem dX11_readThing_140 : decode cX11_readThing 140 = .ok (.getfield 73, 3) := by decide +kernel
theorem dX11_readThing_143 : decode cX11_readThing 143 = .ok (.bipush 80, 2) := by decide +kernel
theorem dX11_readThing_145 : decode cX11_readThing 145 = .ok (.dup2, 1) := by decide +kernel
theorem dX11_readThing_146 : decode cX11_readThing 146 = .ok (.iaload, 1) := by decide +kernel
theorem dX11_readThing_147 : decode cX11_readThing 147 = .ok (.iconst 1, 1) := by decide +kernel
theorem dX11_readThing_148 : decode cX11_readThing 148 = .ok (.iadd, 1) := by decide +kernel
theorem dX11_readThing_149 : decode cX11_readThing 149 = .ok (.iastore, 1) := by decide +kernel
theorem dX11_readThing_150 : decode cX11_readThing 150 = .ok (.return_, 1) := by decide +kernel
theorem dX11_readSort_0 : decode cX11_readSort 0 = .ok (.aload_n 0, 1) := by decide +kernel
theorem dX11_readSort_1 : decode cX11_readSort 1 = .ok (.getfield 73, 3) := by decide +kernel
theorem dX11_readSort_4 : decode cX11_readSort 4 = .ok (.bipush 93, 2) := by decide +kernel
theorem dX11_readSort_6 : decode cX11_readSort 6 = .ok (.iaload, 1) := by decide +kernel
theorem dX11_readSort_7 : decode cX11_readSort 7 = .ok (.istore_n 1, 1) := by decide +kernel
theorem dX11_readSort_8 : decode cX11_readSort 8 = .ok (.iload_n 1, 1) := by decide +kernel
theorem dX11_readSort_9 : decode cX11_readSort 9 = .ok (.iconst 4, 1) := by decide +kernel
theorem dX11_readSort_10 : decode cX11_readSort 10 = .ok (.if_icmp .ne 9, 3) := by decide +kernel
