theorem dX4_addScores_13 : decode cX4_addScores 13 = .ok (.getfield 32, 3) := by decide +kernel
theorem dX4_addScores_16 : decode cX4_addScores 16 = .ok (.getfield 36, 3) := by decide +kernel
theorem dX4_addScores_19 : decode cX4_addScores 19 = .ok (.getfield 42, 3) := by decide +kernel
theorem dX4_addScores_22 : decode cX4_addScores 22 = .ok (.iload_n 1, 1) := by decide +kernel
theorem dX4_addScores_23 : decode cX4_addScores 23 = .ok (.isub, 1) := by decide +kernel
theorem dX4_addScores_24 : decode cX4_addScores 24 = .ok (.invokestatic 47, 3) := by decide +kernel
theorem dX4_addScores_27 : decode cX4_addScores 27 = .ok (.istore 4, 2) := by decide +kernel
theorem dX4_addScores_29 : decode cX4_addScores 29 = .ok (.iconst 0, 1) := by decide +kernel
theorem dX4_addScores_30 : decode cX4_addScores 30 = .ok (.istore 5, 2) := by decide +kernel
theorem dX4_addScores_32 : decode cX4_addScores 32 = .ok (.iload 5, 2) := by decide +kernel
theorem dX4_addScores_34 : decode cX4_addScores 34 = .ok (.iload 4, 2) := by decide +kernel
theorem dX4_addScores_36 : decode cX4_addScores 36 = .ok (.if_icmp .ge 72, 3) := by decide +kernel
theorem dX4_addScores_39 : decode cX4_addScores 39 = .ok (.iconst 0, 1) := by decide +kernel
theorem dX4_addScores_40 : decode cX4_addScores 40 = .ok (.istore 6, 2) := by decide +kernel
theorem dX4_addScores_42 : decode cX4_addScores 42 = .ok (.iload 6, 2) := by decide +kernel
theorem dX4_addScores_44 : decode cX4_addScores 44 = .ok (.aload_n 0, 1) := by decide +kernel
theorem dX4_addScores_45 : decode cX4_addScores 45 = .ok (.getfield 32, 3) := by decide +kernel
theorem dX4_addScores_48 : decode cX4_addScores 48 = .ok (.getfield 113, 3) := by decide +kernel
theorem dX4_addScores_51 : decode cX4_addScores 51 = .ok (.if_icmp .ge 51, 3) := by decide +kernel
theorem dX4_addScores_54 : decode cX4_addScores 54 = .ok (.aload_n 0, 1) := by decide +kernel
theorem dX4_addScores_55 : decode cX4_addScores 55 = .ok (.getfield 32, 3) := by decide +kernel
theorem dX4_addScores_58 : decode cX4_addScores 58 = .ok (.getfield 116, 3) := by decide +kernel
theorem dX4_addScores_61 : decode cX4_addScores 61 = .ok (.iload 6, 2) := by decide +kernel
theorem dX4_addScores_63 : decode cX4_addScores 63 = .ok (.iaload, 1) := by decide +kernel
theorem dX4_addScores_64 : decode cX4_addScores 64 = .ok (.istore 7, 2) := by decide +kernel
theorem dX4_addScores_66 : decode cX4_addScores 66 = .ok (.aload_n 0, 1) := by decide +kernel
theorem dX4_addScores_67 : decode cX4_addScores 67 = .ok (.getfield 22, 3) := by decide +kernel
theorem dX4_addScores_70 : decode cX4_addScores 70 = .ok (.iload 7, 2) := by decide +kernel
theorem dX4_addScores_72 : decode cX4_addScores 72 = .ok (.dup2, 1) := by decide +kernel
theorem dX4_addScores_73 : decode cX4_addScores 73 = .ok (.laload, 1) := by decide +kernel
theorem dX4_addScores_74 : decode cX4_addScores 74 = .ok (.aload_n 0, 1) := by decide +kernel
theorem dX4_addScores_75 : decode cX4_addScores 75 = .ok (.iload_n 1, 1) := by decide +kernel
theorem dX4_addScores_76 : decode cX4_addScores 76 = .ok (.iload 5, 2) := by decide +kernel
theorem dX4_addScores_78 : decode cX4_addScores 78 = .ok (.iadd, 1) := by decide +kernel
theorem dX4_addScores_79 : decode cX4_addScores 79 = .ok (.iload_n 2, 1) := by decide +kernel
theorem dX4_addScores_80 : decode cX4_addScores 80 = .ok (.iload_n 3, 1) := by decide +kernel
theorem dX4_addScores_81 : decode cX4_addScores 81 = .ok (.iload 5, 2) := by decide +kernel
theorem dX4_addScores_83 : decode cX4_addScores 83 = .ok (.iadd, 1) := by decide +kernel
theorem dX4_addScores_84 : decode cX4_addScores 84 = .ok (.iload 7, 2) := by decide +kernel
theorem dX4_addScores_86 : decode cX4_addScores 86 = .ok (.invokevirtual 119, 3) := by decide +kernel
theorem dX4_addScores_89 : decode cX4_addScores 89 = .ok (.i2l, 1) := by decide +kernel
theorem dX4_addScores_90 : decode cX4_addScores 90 = .ok (.ldc2_w 81, 3) := by decide +kernel
theorem dX4_addScores_93 : decode cX4_addScores 93 = .ok (.lmul, 1) := by decide +kernel
theorem dX4_addScores_94 : decode cX4_addScores 94 = .ok (.ladd, 1) := by decide +kernel
theorem dX4_addScores_95 : decode cX4_addScores 95 = .ok (.lastore, 1) := by decide +kernel
theorem dX4_addScores_96 : decode cX4_addScores 96 = .ok (.iinc 6 1, 3) := by decide +kernel
theorem dX4_addScores_99 : decode cX4_addScores 99 = .ok (.goto (-57), 3) := by decide +kernel
theorem dX4_addScores_102 : decode cX4_addScores 102 = .ok (.iinc 5 1, 3) := by decide +kernel
theorem dX4_addScores_105 : decode cX4_addScores 105 = .ok (.goto (-73), 3) := by decide +kernel
theorem dX4_addScores_108 : decode cX4_addScores 108 = .ok (.return_, 1) := by decide +kernel
theorem dX4_bestByScores_0 : decode cX4_bestByScores 0 = .ok (.aload_n 0, 1) := by decide +kernel
theorem dX4_bestByScores_1 : decode cX4_bestByScores 1 = .ok (.aload_n 0, 1) := by decide +kernel
theorem dX4_bestByScores_2 : decode cX4_bestByScores 2 = .ok (.getfield 22, 3) := by decide +kernel
theorem dX4_bestByScores_5 : decode cX4_bestByScores 5 = .ok (.iconst 0, 1) := by decide +kernel
theorem dX4_bestByScores_6 : decode cX4_bestByScores 6 = .ok (.invokevirtual 122, 3) := by decide +kernel
theorem dX4_bestByScores_9 : decode cX4_bestByScores 9 = .ok (.ireturn, 1) := by decide +kernel
theorem dX4_at_0 : decode cX4_at 0 = .ok (.iload_n 0, 1) := by decide +kernel
theorem dX4_at_1 : decode cX4_at 1 = .ok (.iconst 4, 1) := by decide +kernel
theorem dX4_at_2 : decode cX4_at 2 = .ok (.imul, 1) := by decide +kernel
theorem dX4_at_3 : decode cX4_at 3 = .ok (.iload_n 1, 1) := by decide +kernel
theorem dX4_at_4 : decode cX4_at 4 = .ok (.iadd, 1) := by decide +kernel
theorem dX4_at_5 : decode cX4_at 5 = .ok (.bipush 6, 2) := by decide +kernel
theorem dX4_at_7 : decode cX4_at 7 = .ok (.imul, 1) := by decide +kernel
theorem dX4_at_8 : decode cX4_at 8 = .ok (.iload_n 2, 1) := by decide +kernel
theorem dX4_at_9 : decode cX4_at 9 = .ok (.iadd, 1) := by decide +kernel
theorem dX4_at_10 : decode cX4_at 10 = .ok (.bipush 27, 2) := by decide +kernel
theorem dX4_at_12 : decode cX4_at 12 = .ok (.imul, 1) := by decide +kernel
theorem dX4_at_13 : decode cX4_at 13 = .ok (.iload_n 3, 1) := by decide +kernel
theorem dX4_at_14 : decode cX4_at 14 = .ok (.iadd, 1) := by decide +kernel
theorem dX4_at_15 : decode cX4_at 15 = .ok (.ireturn, 1) := by decide +kernel
theorem dX4_choiceAt_0 : decode cX4_choiceAt 0 = .ok (.iload_n 0, 1) := by decide +kernel
theorem dX4_choiceAt_1 : decode cX4_choiceAt 1 = .ok (.iconst 4, 1) := by decide +kernel
theorem dX4_choiceAt_2 : decode cX4_choiceAt 2 = .ok (.imul, 1) := by decide +kernel
theorem dX4_choiceAt_3 : decode cX4_choiceAt 3 = .ok (.iload_n 1, 1) := by decide +kernel
theorem dX4_choiceAt_4 : decode cX4_choiceAt 4 = .ok (.iadd, 1) := by decide +kernel
theorem dX4_choiceAt_5 : decode cX4_choiceAt 5 = .ok (.bipush 27, 2) := by decide +kernel
theorem dX4_choiceAt_7 : decode cX4_choiceAt 7 = .ok (.imul, 1) := by decide +kernel
theorem dX4_choiceAt_8 : decode cX4_choiceAt 8 = .ok (.iload_n 2, 1) := by decide +kernel
theorem dX4_choiceAt_9 : decode cX4_choiceAt 9 = .ok (.iadd, 1) := by decide +kernel
theorem dX4_choiceAt_10 : decode cX4_choiceAt 10 = .ok (.ireturn, 1) := by decide +kernel
theorem dX4_reckonWorths_0 : decode cX4_reckonWorths 0 = .ok (.aload_n 0, 1) := by decide +kernel
theorem dX4_reckonWorths_1 : decode cX4_reckonWorths 1 = .ok (.getfield 32, 3) := by decide +kernel
theorem dX4_reckonWorths_4 : decode cX4_reckonWorths 4 = .ok (.getfield 36, 3) := by decide +kernel
theorem dX4_reckonWorths_7 : decode cX4_reckonWorths 7 = .ok (.astore_n 2, 1) := by decide +kernel
theorem dX4_reckonWorths_8 : decode cX4_reckonWorths 8 = .ok (.iconst 0, 1) := by decide +kernel
theorem dX4_reckonWorths_9 : decode cX4_reckonWorths 9 = .ok (.istore_n 3, 1) := by decide +kernel
theorem dX4_reckonWorths_10 : decode cX4_reckonWorths 10 = .ok (.iload_n 3, 1) := by decide +kernel
theorem dX4_reckonWorths_11 : decode cX4_reckonWorths 11 = .ok (.aload_n 2, 1) := by decide +kernel
theorem dX4_reckonWorths_12 : decode cX4_reckonWorths 12 = .ok (.getfield 126, 3) := by decide +kernel
theorem dX4_reckonWorths_15 : decode cX4_reckonWorths 15 = .ok (.if_icmp .ge 85, 3) := by decide +kernel
theorem dX4_reckonWorths_18 : decode cX4_reckonWorths 18 = .ok (.iconst 0, 1) := by decide +kernel
theorem dX4_reckonWorths_19 : decode cX4_reckonWorths 19 = .ok (.istore 4, 2) := by decide +kernel
theorem dX4_reckonWorths_21 : decode cX4_reckonWorths 21 = .ok (.iload 4, 2) := by decide +kernel
theorem dX4_reckonWorths_23 : decode cX4_reckonWorths 23 = .ok (.aload_n 2, 1) := by decide +kernel
theorem dX4_reckonWorths_24 : decode cX4_reckonWorths 24 = .ok (.getfield 110, 3) := by decide +kernel
theorem dX4_reckonWorths_27 : decode cX4_reckonWorths 27 = .ok (.if_icmp .ge 67, 3) := by decide +kernel
theorem dX4_reckonWorths_30 : decode cX4_reckonWorths 30 = .ok (.iload_n 1, 1) := by decide +kernel
theorem dX4_reckonWorths_31 : decode cX4_reckonWorths 31 = .ok (.iload_n 3, 1) := by decide +kernel
theorem dX4_reckonWorths_32 : decode cX4_reckonWorths 32 = .ok (.iload 4, 2) := by decide +kernel
theorem dX4_reckonWorths_34 : decode cX4_reckonWorths 34 = .ok (.iconst 0, 1) := by decide +kernel
theorem dX4_reckonWorths_35 : decode cX4_reckonWorths 35 = .ok (.invokestatic 70, 3) := by decide +kernel
theorem dX4_reckonWorths_38 : decode cX4_reckonWorths 38 = .ok (.istore 5, 2) := by decide +kernel
theorem dX4_reckonWorths_40 : decode cX4_reckonWorths 40 = .ok (.iconst 0, 1) := by decide +kernel
theorem dX4_reckonWorths_41 : decode cX4_reckonWorths 41 = .ok (.istore 6, 2) := by decide +kernel
theorem dX4_reckonWorths_43 : decode cX4_reckonWorths 43 = .ok (.iload 6, 2) := by decide +kernel
theorem dX4_reckonWorths_45 : decode cX4_reckonWorths 45 = .ok (.aload_n 2, 1) := by decide +kernel
theorem dX4_reckonWorths_46 : decode cX4_reckonWorths 46 = .ok (.getfield 129, 3) := by decide +kernel
theorem dX4_reckonWorths_49 : decode cX4_reckonWorths 49 = .ok (.if_icmp .ge 39, 3) := by decide +kernel
theorem dX4_reckonWorths_52 : decode cX4_reckonWorths 52 = .ok (.aload_n 0, 1) := by decide +kernel
theorem dX4_reckonWorths_53 : decode cX4_reckonWorths 53 = .ok (.getfield 9, 3) := by decide +kernel
theorem dX4_reckonWorths_56 : decode cX4_reckonWorths 56 = .ok (.iload 5, 2) := by decide +kernel
theorem dX4_reckonWorths_58 : decode cX4_reckonWorths 58 = .ok (.aload_n 2, 1) := by decide +kernel
theorem dX4_reckonWorths_59 : decode cX4_reckonWorths 59 = .ok (.getfield 132, 3) := by decide +kernel
theorem dX4_reckonWorths_62 : decode cX4_reckonWorths 62 = .ok (.iload 6, 2) := by decide +kernel
theorem dX4_reckonWorths_64 : decode cX4_reckonWorths 64 = .ok (.iaload, 1) := by decide +kernel
theorem dX4_reckonWorths_65 : decode cX4_reckonWorths 65 = .ok (.iadd, 1) := by decide +kernel
theorem dX4_reckonWorths_66 : decode cX4_reckonWorths 66 = .ok (.aload_n 2, 1) := by decide +kernel
theorem dX4_reckonWorths_67 : decode cX4_reckonWorths 67 = .ok (.iload_n 3, 1) := by decide +kernel
theorem dX4_reckonWorths_68 : decode cX4_reckonWorths 68 = .ok (.aload_n 2, 1) := by decide +kernel
theorem dX4_reckonWorths_69 : decode cX4_reckonWorths 69 = .ok (.getfield 132, 3) := by decide +kernel
theorem dX4_reckonWorths_72 : decode cX4_reckonWorths 72 = .ok (.iload 6, 2) := by decide +kernel
theorem dX4_reckonWorths_74 : decode cX4_reckonWorths 74 = .ok (.iaload, 1) := by decide +kernel
theorem dX4_reckonWorths_75 : decode cX4_reckonWorths 75 = .ok (.iload 4, 2) := by decide +kernel
theorem dX4_reckonWorths_77 : decode cX4_reckonWorths 77 = .ok (.iload_n 1, 1) := by decide +kernel
theorem dX4_reckonWorths_78 : decode cX4_reckonWorths 78 = .ok (.invokevirtual 135, 3) := by decide +kernel
theorem dX4_reckonWorths_81 : decode cX4_reckonWorths 81 = .ok (.iastore, 1) := by decide +kernel
theorem dX4_reckonWorths_82 : decode cX4_reckonWorths 82 = .ok (.iinc 6 1, 3) := by decide +kernel
theorem dX4_reckonWorths_85 : decode cX4_reckonWorths 85 = .ok (.goto (-42), 3) := by decide +kernel
theorem dX4_reckonWorths_88 : decode cX4_reckonWorths 88 = .ok (.iinc 4 1, 3) := by decide +kernel
theorem dX4_reckonWorths_91 : decode cX4_reckonWorths 91 = .ok (.goto (-70), 3) := by decide +kernel
theorem dX4_reckonWorths_94 : decode cX4_reckonWorths 94 = .ok (.iinc 3 1, 3) := by decide +kernel
theorem dX4_reckonWorths_97 : decode cX4_reckonWorths 97 = .ok (.goto (-87), 3) := by decide +kernel
theorem dX4_reckonWorths_100 : decode cX4_reckonWorths 100 = .ok (.return_, 1) := by decide +kernel
theorem dX4_sumUp_0 : decode cX4_sumUp 0 = .ok (.aload_n 0, 1) := by decide +kernel
theorem dX4_sumUp_1 : decode cX4_sumUp 1 = .ok (.getfield 32, 3) := by decide +kernel
theorem dX4_sumUp_4 : decode cX4_sumUp 4 = .ok (.getfield 36, 3) := by decide +kernel
theorem dX4_sumUp_7 : decode cX4_sumUp 7 = .ok (.astore_n 2, 1) := by decide +kernel
theorem dX4_sumUp_8 : decode cX4_sumUp 8 = .ok (.iconst 0, 1) := by decide +kernel
theorem dX4_sumUp_9 : decode cX4_sumUp 9 = .ok (.istore_n 3, 1) := by decide +kernel
theorem dX4_sumUp_10 : decode cX4_sumUp 10 = .ok (.iload_n 3, 1) := by decide +kernel
theorem dX4_sumUp_11 : decode cX4_sumUp 11 = .ok (.aload_n 2, 1) := by decide +kernel
theorem dX4_sumUp_12 : decode cX4_sumUp 12 = .ok (.getfield 126, 3) := by decide +kernel
theorem dX4_sumUp_15 : decode cX4_sumUp 15 = .ok (.if_icmp .ge 165, 3) := by decide +kernel
theorem dX4_sumUp_18 : decode cX4_sumUp 18 = .ok (.iconst 0, 1) := by decide +kernel
theorem dX4_sumUp_19 : decode cX4_sumUp 19 = .ok (.istore 4, 2) := by decide +kernel
theorem dX4_sumUp_21 : decode cX4_sumUp 21 = .ok (.iload 4, 2) := by decide +kernel
theorem dX4_sumUp_23 : decode cX4_sumUp 23 = .ok (.aload_n 2, 1) := by decide +kernel
theorem dX4_sumUp_24 : decode cX4_sumUp 24 = .ok (.getfield 110, 3) := by decide +kernel
theorem dX4_sumUp_27 : decode cX4_sumUp 27 = .ok (.if_icmp .ge 147, 3) := by decide +kernel
theorem dX4_sumUp_30 : decode cX4_sumUp 30 = .ok (.iload 4, 2) := by decide +kernel
theorem dX4_sumUp_32 : decode cX4_sumUp 32 = .ok (.iconst 1, 1) := by decide +kernel
theorem dX4_sumUp_33 : decode cX4_sumUp 33 = .ok (.iadd, 1) := by decide +kernel
theorem dX4_sumUp_34 : decode cX4_sumUp 34 = .ok (.aload_n 2, 1) := by decide +kernel
theorem dX4_sumUp_35 : decode cX4_sumUp 35 = .ok (.getfield 110, 3) := by decide +kernel
theorem dX4_sumUp_38 : decode cX4_sumUp 38 = .ok (.if_icmp .ge 17, 3) := by decide +kernel
theorem dX4_sumUp_41 : decode cX4_sumUp 41 = .ok (.iload_n 1, 1) := by decide +kernel
theorem dX4_sumUp_42 : decode cX4_sumUp 42 = .ok (.iconst 1, 1) := by decide +kernel
theorem dX4_sumUp_43 : decode cX4_sumUp 43 = .ok (.iadd, 1) := by decide +kernel
theorem dX4_sumUp_44 : decode cX4_sumUp 44 = .ok (.aload_n 2, 1) := by decide +kernel
theorem dX4_sumUp_45 : decode cX4_sumUp 45 = .ok (.getfield 42, 3) := by decide +kernel
theorem dX4_sumUp_48 : decode cX4_sumUp 48 = .ok (.if_icmp .ge 7, 3) := by decide +kernel
theorem dX4_sumUp_51 : decode cX4_sumUp 51 = .ok (.iconst 1, 1) := by decide +kernel
theorem dX4_sumUp_52 : decode cX4_sumUp 52 = .ok (.goto 4, 3) := by decide +kernel
theorem dX4_sumUp_55 : decode cX4_sumUp 55 = .ok (.iconst 0, 1) := by decide +kernel
theorem dX4_sumUp_56 : decode cX4_sumUp 56 = .ok (.istore 5, 2) := by decide +kernel
theorem dX4_sumUp_58 : decode cX4_sumUp 58 = .ok (.iload_n 1, 1) := by decide +kernel
theorem dX4_sumUp_59 : decode cX4_sumUp 59 = .ok (.iload_n 3, 1) := by decide +kernel
theorem dX4_sumUp_60 : decode cX4_sumUp 60 = .ok (.iload 4, 2) := by decide +kernel
theorem dX4_sumUp_62 : decode cX4_sumUp 62 = .ok (.iconst 0, 1) := by decide +kernel
theorem dX4_sumUp_63 : decode cX4_sumUp 63 = .ok (.invokestatic 70, 3) := by decide +kernel
theorem dX4_sumUp_66 : decode cX4_sumUp 66 = .ok (.istore 6, 2) := by decide +kernel
theorem dX4_sumUp_68 : decode cX4_sumUp 68 = .ok (.iload 5, 2) := by decide +kernel
theorem dX4_sumUp_70 : decode cX4_sumUp 70 = .ok (.ifCond .eq 18, 3) := by decide +kernel
theorem dX4_sumUp_73 : decode cX4_sumUp 73 = .ok (.iload_n 1, 1) := by decide +kernel
theorem dX4_sumUp_74 : decode cX4_sumUp 74 = .ok (.iconst 1, 1) := by decide +kernel
theorem dX4_sumUp_75 : decode cX4_sumUp 75 = .ok (.iadd, 1) := by decide +kernel
theorem dX4_sumUp_76 : decode cX4_sumUp 76 = .ok (.iload_n 3, 1) := by decide +kernel
theorem dX4_sumUp_77 : decode cX4_sumUp 77 = .ok (.iload 4, 2) := by decide +kernel
theorem dX4_sumUp_79 : decode cX4_sumUp 79 = .ok (.iconst 1, 1) := by decide +kernel
theorem dX4_sumUp_80 : decode cX4_sumUp 80 = .ok (.iadd, 1) := by decide +kernel
theorem dX4_sumUp_81 : decode cX4_sumUp 81 = .ok (.iconst 0, 1) := by decide +kernel
theorem dX4_sumUp_82 : decode cX4_sumUp 82 = .ok (.invokestatic 70, 3) := by decide +kernel
theorem dX4_sumUp_85 : decode cX4_sumUp 85 = .ok (.goto 4, 3) := by decide +kernel
theorem dX4_sumUp_88 : decode cX4_sumUp 88 = .ok (.iconst 0, 1) := by decide +kernel
theorem dX4_sumUp_89 : decode cX4_sumUp 89 = .ok (.istore 7, 2) := by decide +kernel
theorem dX4_sumUp_91 : decode cX4_sumUp 91 = .ok (.iconst 0, 1) := by decide +kernel
theorem dX4_sumUp_92 : decode cX4_sumUp 92 = .ok (.istore 8, 2) := by decide +kernel
theorem dX4_sumUp_94 : decode cX4_sumUp 94 = .ok (.iload 8, 2) := by decide +kernel
theorem dX4_sumUp_96 : decode cX4_sumUp 96 = .ok (.aload_n 2, 1) := by decide +kernel
theorem dX4_sumUp_97 : decode cX4_sumUp 97 = .ok (.getfield 129, 3) := by decide +kernel
theorem dX4_sumUp_100 : decode cX4_sumUp 100 = .ok (.if_icmp .ge 68, 3) := by decide +kernel
theorem dX4_sumUp_103 : decode cX4_sumUp 103 = .ok (.aload_n 2, 1) := by decide +kernel
theorem dX4_sumUp_104 : decode cX4_sumUp 104 = .ok (.getfield 132, 3) := by decide +kernel
theorem dX4_sumUp_107 : decode cX4_sumUp 107 = .ok (.iload 8, 2) := by decide +kernel
theorem dX4_sumUp_109 : decode cX4_sumUp 109 = .ok (.iaload, 1) := by decide +kernel
theorem dX4_sumUp_110 : decode cX4_sumUp 110 = .ok (.istore 9, 2) := by decide +kernel
theorem dX4_sumUp_112 : decode cX4_sumUp 112 = .ok (.iload 5, 2) := by decide +kernel
theorem dX4_sumUp_114 : decode cX4_sumUp 114 = .ok (.ifCond .eq 17, 3) := by decide +kernel
theorem dX4_sumUp_117 : decode cX4_sumUp 117 = .ok (.aload_n 0, 1) := by decide +kernel
theorem dX4_sumUp_118 : decode cX4_sumUp 118 = .ok (.iload_n 1, 1) := by decide +kernel
theorem dX4_sumUp_119 : decode cX4_sumUp 119 = .ok (.iconst 1, 1) := by decide +kernel
theorem dX4_sumUp_120 : decode cX4_sumUp 120 = .ok (.iadd, 1) := by decide +kernel
theorem dX4_sumUp_121 : decode cX4_sumUp 121 = .ok (.iload 9, 2) := by decide +kernel
theorem dX4_sumUp_123 : decode cX4_sumUp 123 = .ok (.iload 7, 2) := by decide +kernel
theorem dX4_sumUp_125 : decode cX4_sumUp 125 = .ok (.invokevirtual 138, 3) := by decide +kernel
theorem dX4_sumUp_128 : decode cX4_sumUp 128 = .ok (.goto 4, 3) := by decide +kernel
theorem dX4_sumUp_131 : decode cX4_sumUp 131 = .ok (.lconst 0, 1) := by decide +kernel
theorem dX4_sumUp_132 : decode cX4_sumUp 132 = .ok (.lstore 10, 2) := by decide +kernel
theorem dX4_sumUp_134 : decode cX4_sumUp 134 = .ok (.aload_n 0, 1) := by decide +kernel
theorem dX4_sumUp_135 : decode cX4_sumUp 135 = .ok (.getfield 15, 3) := by decide +kernel
theorem dX4_sumUp_138 : decode cX4_sumUp 138 = .ok (.iload 6, 2) := by decide +kernel
theorem dX4_sumUp_140 : decode cX4_sumUp 140 = .ok (.iload 9, 2) := by decide +kernel
theorem dX4_sumUp_142 : decode cX4_sumUp 142 = .ok (.iadd, 1) := by decide +kernel
theorem dX4_sumUp_143 : decode cX4_sumUp 143 = .ok (.aload_n 0, 1) := by decide +kernel
theorem dX4_sumUp_144 : decode cX4_sumUp 144 = .ok (.getfield 9, 3) := by decide +kernel
theorem dX4_sumUp_147 : decode cX4_sumUp 147 = .ok (.iload 6, 2) := by decide +kernel
theorem dX4_sumUp_149 : decode cX4_sumUp 149 = .ok (.iload 9, 2) := by decide +kernel
theorem dX4_sumUp_151 : decode cX4_sumUp 151 = .ok (.iadd, 1) := by decide +kernel
theorem dX4_sumUp_152 : decode cX4_sumUp 152 = .ok (.iaload, 1) := by decide +kernel
theorem dX4_sumUp_153 : decode cX4_sumUp 153 = .ok (.i2l, 1) := by decide +kernel
theorem dX4_sumUp_154 : decode cX4_sumUp 154 = .ok (.ldc2_w 81, 3) := by decide +kernel
theorem dX4_sumUp_157 : decode cX4_sumUp 157 = .ok (.lmul, 1) := by decide +kernel
theorem dX4_sumUp_158 : decode cX4_sumUp 158 = .ok (.lload 10, 2) := by decide +kernel
theorem dX4_sumUp_160 : decode cX4_sumUp 160 = .ok (.ladd, 1) := by decide +kernel
theorem dX4_sumUp_161 : decode cX4_sumUp 161 = .ok (.lastore, 1) := by decide +kernel
theorem dX4_sumUp_162 : decode cX4_sumUp 162 = .ok (.iinc 8 1, 3) := by decide +kernel
theorem dX4_sumUp_165 : decode cX4_sumUp 165 = .ok (.goto (-71), 3) := by decide +kernel
theorem dX4_sumUp_168 : decode cX4_sumUp 168 = .ok (.iinc 4 1, 3) := by decide +kernel
theorem dX4_sumUp_171 : decode cX4_sumUp 171 = .ok (.goto (-150), 3) := by decide +kernel
theorem dX4_sumUp_174 : decode cX4_sumUp 174 = .ok (.iinc 3 1, 3) := by decide +kernel
theorem dX4_sumUp_177 : decode cX4_sumUp 177 = .ok (.goto (-167), 3) := by decide +kernel
theorem dX4_sumUp_180 : decode cX4_sumUp 180 = .ok (.return_, 1) := by decide +kernel
theorem dX4_likelyLater_0 : decode cX4_likelyLater 0 = .ok (.aload_n 0, 1) := by decide +kernel
theorem dX4_likelyLater_1 : decode cX4_likelyLater 1 = .ok (.getfield 32, 3) := by decide +kernel
theorem dX4_likelyLater_4 : decode cX4_likelyLater 4 = .ok (.getfield 36, 3) := by decide +kernel
theorem dX4_likelyLater_7 : decode cX4_likelyLater 7 = .ok (.astore 4, 2) := by decide +kernel
theorem dX4_likelyLater_9 : decode cX4_likelyLater 9 = .ok (.aload_n 0, 1) := by decide +kernel
theorem dX4_likelyLater_10 : decode cX4_likelyLater 10 = .ok (.getfield 15, 3) := by decide +kernel
theorem dX4_likelyLater_13 : decode cX4_likelyLater 13 = .ok (.iload_n 3, 1) := by decide +kernel
theorem dX4_likelyLater_14 : decode cX4_likelyLater 14 = .ok (.iload_n 2, 1) := by decide +kernel
theorem dX4_likelyLater_15 : decode cX4_likelyLater 15 = .ok (.iadd, 1) := by decide +kernel
theorem dX4_likelyLater_16 : decode cX4_likelyLater 16 = .ok (.laload, 1) := by decide +kernel
theorem dX4_likelyLater_17 : decode cX4_likelyLater 17 = .ok (.aload 4, 2) := by decide +kernel
theorem dX4_likelyLater_19 : decode cX4_likelyLater 19 = .ok (.iload_n 1, 1) := by decide +kernel
theorem dX4_likelyLater_20 : decode cX4_likelyLater 20 = .ok (.invokevirtual 142, 3) := by decide +kernel
theorem dX4_likelyLater_23 : decode cX4_likelyLater 23 = .ok (.i2l, 1) := by decide +kernel
theorem dX4_likelyLater_24 : decode cX4_likelyLater 24 = .ok (.lmul, 1) := by decide +kernel
theorem dX4_likelyLater_25 : decode cX4_likelyLater 25 = .ok (.lstore 5, 2) := by decide +kernel
theorem dX4_likelyLater_27 : decode cX4_likelyLater 27 = .ok (.iconst 0, 1) := by decide +kernel
theorem dX4_likelyLater_28 : decode cX4_likelyLater 28 = .ok (.istore 7, 2) := by decide +kernel
theorem dX4_likelyLater_30 : decode cX4_likelyLater 30 = .ok (.iload 7, 2) := by decide +kernel
theorem dX4_likelyLater_32 : decode cX4_likelyLater 32 = .ok (.aload 4, 2) := by decide +kernel
theorem dX4_likelyLater_34 : decode cX4_likelyLater 34 = .ok (.getfield 126, 3) := by decide +kernel
theorem dX4_likelyLater_37 : decode cX4_likelyLater 37 = .ok (.if_icmp .ge 52, 3) := by decide +kernel
theorem dX4_likelyLater_40 : decode cX4_likelyLater 40 = .ok (.aload 4, 2) := by decide +kernel
theorem dX4_likelyLater_42 : decode cX4_likelyLater 42 = .ok (.iload_n 1, 1) := by decide +kernel
theorem dX4_likelyLater_43 : decode cX4_likelyLater 43 = .ok (.iload 7, 2) := by decide +kernel
theorem dX4_likelyLater_45 : decode cX4_likelyLater 45 = .ok (.invokevirtual 146, 3) := by decide +kernel
theorem dX4_likelyLater_48 : decode cX4_likelyLater 48 = .ok (.istore 8, 2) := by decide +kernel
theorem dX4_likelyLater_50 : decode cX4_likelyLater 50 = .ok (.iload 8, 2) := by decide +kernel
theorem dX4_likelyLater_52 : decode cX4_likelyLater 52 = .ok (.ifCond .le 31, 3) := by decide +kernel
theorem dX4_likelyLater_55 : decode cX4_likelyLater 55 = .ok (.lload 5, 2) := by decide +kernel
theorem dX4_likelyLater_57 : decode cX4_likelyLater 57 = .ok (.aload_n 0, 1) := by decide +kernel
theorem dX4_likelyLater_58 : decode cX4_likelyLater 58 = .ok (.getfield 15, 3) := by decide +kernel
theorem dX4_likelyLater_61 : decode cX4_likelyLater 61 = .ok (.iload_n 3, 1) := by decide +kernel
theorem dX4_likelyLater_62 : decode cX4_likelyLater 62 = .ok (.aload_n 0, 1) := by decide +kernel
theorem dX4_likelyLater_63 : decode cX4_likelyLater 63 = .ok (.getfield 19, 3) := by decide +kernel
theorem dX4_likelyLater_66 : decode cX4_likelyLater 66 = .ok (.iload_n 1, 1) := by decide +kernel
theorem dX4_likelyLater_67 : decode cX4_likelyLater 67 = .ok (.iload 7, 2) := by decide +kernel
theorem dX4_likelyLater_69 : decode cX4_likelyLater 69 = .ok (.iload_n 2, 1) := by decide +kernel
theorem dX4_likelyLater_70 : decode cX4_likelyLater 70 = .ok (.invokestatic 66, 3) := by decide +kernel
theorem dX4_likelyLater_73 : decode cX4_likelyLater 73 = .ok (.iaload, 1) := by decide +kernel
theorem dX4_likelyLater_74 : decode cX4_likelyLater 74 = .ok (.iadd, 1) := by decide +kernel
theorem dX4_likelyLater_75 : decode cX4_likelyLater 75 = .ok (.laload, 1) := by decide +kernel
theorem dX4_likelyLater_76 : decode cX4_likelyLater 76 = .ok (.iload 8, 2) := by decide +kernel
theorem dX4_likelyLater_78 : decode cX4_likelyLater 78 = .ok (.i2l, 1) := by decide +kernel
theorem dX4_likelyLater_79 : decode cX4_likelyLater 79 = .ok (.lmul, 1) := by decide +kernel
theorem dX4_likelyLater_80 : decode cX4_likelyLater 80 = .ok (.ladd, 1) := by decide +kernel
theorem dX4_likelyLater_81 : decode cX4_likelyLater 81 = .ok (.lstore 5, 2) := by decide +kernel
theorem dX4_likelyLater_83 : decode cX4_likelyLater 83 = .ok (.iinc 7 1, 3) := by decide +kernel
theorem dX4_likelyLater_86 : decode cX4_likelyLater 86 = .ok (.goto (-56), 3) := by decide +kernel
theorem dX4_likelyLater_89 : decode cX4_likelyLater 89 = .ok (.lload 5, 2) := by decide +kernel
theorem dX4_likelyLater_91 : decode cX4_likelyLater 91 = .ok (.ldc2_w 149, 3) := by decide +kernel
theorem dX4_likelyLater_94 : decode cX4_likelyLater 94 = .ok (.ldiv, 1) := by decide +kernel
theorem dX4_likelyLater_95 : decode cX4_likelyLater 95 = .ok (.lreturn, 1) := by decide +kernel
theorem dX4_choose_0 : decode cX4_choose 0 = .ok (.aload_n 0, 1) := by decide +kernel
theorem dX4_choose_1 : decode cX4_choose 1 = .ok (.getfield 32, 3) := by decide +kernel
theorem dX4_choose_4 : decode cX4_choose 4 = .ok (.getfield 36, 3) := by decide +kernel
theorem dX4_choose_7 : decode cX4_choose 7 = .ok (.astore_n 2, 1) := by decide +kernel
theorem dX4_choose_8 : decode cX4_choose 8 = .ok (.iconst 0, 1) := by decide +kernel
theorem dX4_choose_9 : decode cX4_choose 9 = .ok (.istore_n 3, 1) := by decide +kernel
theorem dX4_choose_10 : decode cX4_choose 10 = .ok (.iload_n 3, 1) := by decide +kernel
theorem dX4_choose_11 : decode cX4_choose 11 = .ok (.aload_n 2, 1) := by decide +kernel
theorem dX4_choose_12 : decode cX4_choose 12 = .ok (.getfield 129, 3) := by decide +kernel
theorem dX4_choose_15 : decode cX4_choose 15 = .ok (.if_icmp .ge 128, 3) := by decide +kernel
theorem dX4_choose_18 : decode cX4_choose 18 = .ok (.aload_n 2, 1) := by decide +kernel
theorem dX4_choose_19 : decode cX4_choose 19 = .ok (.getfield 132, 3) := by decide +kernel
theorem dX4_choose_22 : decode cX4_choose 22 = .ok (.iload_n 3, 1) := by decide +kernel
theorem dX4_choose_23 : decode cX4_choose 23 = .ok (.iaload, 1) := by decide +kernel
theorem dX4_choose_24 : decode cX4_choose 24 = .ok (.istore 4, 2) := by decide +kernel
theorem dX4_choose_26 : decode cX4_choose 26 = .ok (.aload_n 0, 1) := by decide +kernel
theorem dX4_choose_27 : decode cX4_choose 27 = .ok (.getfield 32, 3) := by decide +kernel
theorem dX4_choose_30 : decode cX4_choose 30 = .ok (.iload_n 1, 1) := by decide +kernel
theorem dX4_choose_31 : decode cX4_choose 31 = .ok (.invokevirtual 151, 3) := by decide +kernel
theorem dX4_choose_34 : decode cX4_choose 34 = .ok (.istore 5, 2) := by decide +kernel
theorem dX4_choose_36 : decode cX4_choose 36 = .ok (.aload_n 0, 1) := by decide +kernel
theorem dX4_choose_37 : decode cX4_choose 37 = .ok (.getfield 32, 3) := by decide +kernel
theorem dX4_choose_40 : decode cX4_choose 40 = .ok (.iload_n 1, 1) := by decide +kernel
theorem dX4_choose_41 : decode cX4_choose 41 = .ok (.iload 4, 2) := by decide +kernel
theorem dX4_choose_43 : decode cX4_choose 43 = .ok (.aload_n 0, 1) := by decide +kernel
theorem dX4_choose_44 : decode cX4_choose 44 = .ok (.getfield 32, 3) := by decide +kernel
theorem dX4_choose_47 : decode cX4_choose 47 = .ok (.getfield 155, 3) := by decide +kernel
theorem dX4_choose_50 : decode cX4_choose 50 = .ok (.iload_n 1, 1) := by decide +kernel
theorem dX4_choose_51 : decode cX4_choose 51 = .ok (.iaload, 1) := by decide +kernel
theorem dX4_choose_52 : decode cX4_choose 52 = .ok (.aload_n 0, 1) := by decide +kernel
theorem dX4_choose_53 : decode cX4_choose 53 = .ok (.getfield 32, 3) := by decide +kernel
theorem dX4_choose_56 : decode cX4_choose 56 = .ok (.getfield 158, 3) := by decide +kernel
theorem dX4_choose_59 : decode cX4_choose 59 = .ok (.iload_n 1, 1) := by decide +kernel
theorem dX4_choose_60 : decode cX4_choose 60 = .ok (.iaload, 1) := by decide +kernel
theorem dX4_choose_61 : decode cX4_choose 61 = .ok (.invokevirtual 161, 3) := by decide +kernel
theorem dX4_choose_64 : decode cX4_choose 64 = .ok (.istore 6, 2) := by decide +kernel
theorem dX4_choose_66 : decode cX4_choose 66 = .ok (.aload_n 0, 1) := by decide +kernel
theorem dX4_choose_67 : decode cX4_choose 67 = .ok (.getfield 32, 3) := by decide +kernel
theorem dX4_choose_70 : decode cX4_choose 70 = .ok (.iload_n 1, 1) := by decide +kernel
theorem dX4_choose_71 : decode cX4_choose 71 = .ok (.iload 4, 2) := by decide +kernel
theorem dX4_choose_73 : decode cX4_choose 73 = .ok (.invokevirtual 101, 3) := by decide +kernel
theorem dX4_choose_76 : decode cX4_choose 76 = .ok (.iconst 0, 1) := by decide +kernel
theorem dX4_choose_77 : decode cX4_choose 77 = .ok (.istore 7, 2) := by decide +kernel
theorem dX4_choose_79 : decode cX4_choose 79 = .ok (.iload 7, 2) := by decide +kernel
theorem dX4_choose_81 : decode cX4_choose 81 = .ok (.aload_n 2, 1) := by decide +kernel
theorem dX4_choose_82 : decode cX4_choose 82 = .ok (.getfield 126, 3) := by decide +kernel
theorem dX4_choose_85 : decode cX4_choose 85 = .ok (.if_icmp .ge 52, 3) := by decide +kernel
theorem dX4_choose_88 : decode cX4_choose 88 = .ok (.iload 5, 2) := by decide +kernel
theorem dX4_choose_90 : decode cX4_choose 90 = .ok (.ifCond .eq 8, 3) := by decide +kernel
theorem dX4_choose_93 : decode cX4_choose 93 = .ok (.iload 6, 2) := by decide +kernel
theorem dX4_choose_95 : decode cX4_choose 95 = .ok (.goto 19, 3) := by decide +kernel
theorem dX4_choose_98 : decode cX4_choose 98 = .ok (.aload_n 0, 1) := by decide +kernel
theorem dX4_choose_99 : decode cX4_choose 99 = .ok (.aload_n 0, 1) := by decide +kernel
theorem dX4_choose_100 : decode cX4_choose 100 = .ok (.getfield 15, 3) := by decide +kernel
theorem dX4_choose_103 : decode cX4_choose 103 = .ok (.iload_n 1, 1) := by decide +kernel
theorem dX4_choose_104 : decode cX4_choose 104 = .ok (.iload 7, 2) := by decide +kernel
theorem dX4_choose_106 : decode cX4_choose 106 = .ok (.iconst 0, 1) := by decide +kernel
theorem dX4_choose_107 : decode cX4_choose 107 = .ok (.iconst 0, 1) := by decide +kernel
theorem dX4_choose_108 : decode cX4_choose 108 = .ok (.invokestatic 70, 3) := by decide +kernel
theorem dX4_choose_111 : decode cX4_choose 111 = .ok (.invokevirtual 122, 3) := by decide +kernel
theorem dX4_choose_114 : decode cX4_choose 114 = .ok (.istore 8, 2) := by decide +kernel
theorem dX4_choose_116 : decode cX4_choose 116 = .ok (.aload_n 0, 1) := by decide +kernel
theorem dX4_choose_117 : decode cX4_choose 117 = .ok (.getfield 19, 3) := by decide +kernel
theorem dX4_choose_120 : decode cX4_choose 120 = .ok (.iload_n 1, 1) := by decide +kernel
theorem dX4_choose_121 : decode cX4_choose 121 = .ok (.iload 7, 2) := by decide +kernel
theorem dX4_choose_123 : decode cX4_choose 123 = .ok (.iload 4, 2) := by decide +kernel
theorem dX4_choose_125 : decode cX4_choose 125 = .ok (.invokestatic 66, 3) := by decide +kernel
theorem dX4_choose_128 : decode cX4_choose 128 = .ok (.iload 8, 2) := by decide +kernel
theorem dX4_choose_130 : decode cX4_choose 130 = .ok (.iastore, 1) := by decide +kernel
theorem dX4_choose_131 : decode cX4_choose 131 = .ok (.iinc 7 1, 3) := by decide +kernel
theorem dX4_choose_134 : decode cX4_choose 134 = .ok (.goto (-55), 3) := by decide +kernel
theorem dX4_choose_137 : decode cX4_choose 137 = .ok (.iinc 3 1, 3) := by decide +kernel
theorem dX4_choose_140 : decode cX4_choose 140 = .ok (.goto (-130), 3) := by decide +kernel
theorem dX4_choose_143 : decode cX4_choose 143 = .ok (.return_, 1) := by decide +kernel
theorem dX4_bestAct_0 : decode cX4_bestAct 0 = .ok (.aload_n 0, 1) := by decide +kernel
theorem dX4_bestAct_1 : decode cX4_bestAct 1 = .ok (.getfield 32, 3) := by decide +kernel
theorem dX4_bestAct_4 : decode cX4_bestAct 4 = .ok (.getfield 116, 3) := by decide +kernel
theorem dX4_bestAct_7 : decode cX4_bestAct 7 = .ok (.iconst 0, 1) := by decide +kernel
theorem dX4_bestAct_8 : decode cX4_bestAct 8 = .ok (.iaload, 1) := by decide +kernel
theorem dX4_bestAct_9 : decode cX4_bestAct 9 = .ok (.istore_n 3, 1) := by decide +kernel
theorem dX4_bestAct_10 : decode cX4_bestAct 10 = .ok (.aload_n 1, 1) := by decide +kernel
theorem dX4_bestAct_11 : decode cX4_bestAct 11 = .ok (.iload_n 2, 1) := by decide +kernel
theorem dX4_bestAct_12 : decode cX4_bestAct 12 = .ok (.iload_n 3, 1) := by decide +kernel
theorem dX4_bestAct_13 : decode cX4_bestAct 13 = .ok (.iadd, 1) := by decide +kernel
theorem dX4_bestAct_14 : decode cX4_bestAct 14 = .ok (.laload, 1) := by decide +kernel
theorem dX4_bestAct_15 : decode cX4_bestAct 15 = .ok (.lstore 4, 2) := by decide +kernel
theorem dX4_bestAct_17 : decode cX4_bestAct 17 = .ok (.iconst 1, 1) := by decide +kernel
theorem dX4_bestAct_18 : decode cX4_bestAct 18 = .ok (.istore 6, 2) := by decide +kernel
theorem dX4_bestAct_20 : decode cX4_bestAct 20 = .ok (.iload 6, 2) := by decide +kernel
theorem dX4_bestAct_22 : decode cX4_bestAct 22 = .ok (.aload_n 0, 1) := by decide +kernel
theorem dX4_bestAct_23 : decode cX4_bestAct 23 = .ok (.getfield 32, 3) := by decide +kernel
theorem dX4_bestAct_26 : decode cX4_bestAct 26 = .ok (.getfield 113, 3) := by decide +kernel
theorem dX4_bestAct_29 : decode cX4_bestAct 29 = .ok (.if_icmp .ge 64, 3) := by decide +kernel
theorem dX4_bestAct_32 : decode cX4_bestAct 32 = .ok (.aload_n 1, 1) := by decide +kernel
theorem dX4_bestAct_33 : decode cX4_bestAct 33 = .ok (.iload_n 2, 1) := by decide +kernel
theorem dX4_bestAct_34 : decode cX4_bestAct 34 = .ok (.aload_n 0, 1) := by decide +kernel
theorem dX4_bestAct_35 : decode cX4_bestAct 35 = .ok (.getfield 32, 3) := by decide +kernel
theorem dX4_bestAct_38 : decode cX4_bestAct 38 = .ok (.getfield 116, 3) := by decide +kernel
theorem dX4_bestAct_41 : decode cX4_bestAct 41 = .ok (.iload 6, 2) := by decide +kernel
theorem dX4_bestAct_43 : decode cX4_bestAct 43 = .ok (.iaload, 1) := by decide +kernel
theorem dX4_bestAct_44 : decode cX4_bestAct 44 = .ok (.iadd, 1) := by decide +kernel
theorem dX4_bestAct_45 : decode cX4_bestAct 45 = .ok (.laload, 1) := by decide +kernel
theorem dX4_bestAct_46 : decode cX4_bestAct 46 = .ok (.aload_n 0, 1) := by decide +kernel
theorem dX4_bestAct_47 : decode cX4_bestAct 47 = .ok (.getfield 32, 3) := by decide +kernel
theorem dX4_bestAct_50 : decode cX4_bestAct 50 = .ok (.getfield 164, 3) := by decide +kernel
theorem dX4_bestAct_53 : decode cX4_bestAct 53 = .ok (.iload 6, 2) := by decide +kernel
theorem dX4_bestAct_55 : decode cX4_bestAct 55 = .ok (.iaload, 1) := by decide +kernel
theorem dX4_bestAct_56 : decode cX4_bestAct 56 = .ok (.i2l, 1) := by decide +kernel
theorem dX4_bestAct_57 : decode cX4_bestAct 57 = .ok (.ldc2_w 81, 3) := by decide +kernel
theorem dX4_bestAct_60 : decode cX4_bestAct 60 = .ok (.lmul, 1) := by decide +kernel
theorem dX4_bestAct_61 : decode cX4_bestAct 61 = .ok (.lsub, 1) := by decide +kernel
theorem dX4_bestAct_62 : decode cX4_bestAct 62 = .ok (.lstore 7, 2) := by decide +kernel
theorem dX4_bestAct_64 : decode cX4_bestAct 64 = .ok (.lload 7, 2) := by decide +kernel
theorem dX4_bestAct_66 : decode cX4_bestAct 66 = .ok (.lload 4, 2) := by decide +kernel
theorem dX4_bestAct_68 : decode cX4_bestAct 68 = .ok (.lcmp, 1) := by decide +kernel
theorem dX4_bestAct_69 : decode cX4_bestAct 69 = .ok (.ifCond .le 18, 3) := by decide +kernel
theorem dX4_bestAct_72 : decode cX4_bestAct 72 = .ok (.lload 7, 2) := by decide +kernel
theorem dX4_bestAct_74 : decode cX4_bestAct 74 = .ok (.lstore 4, 2) := by decide +kernel
theorem dX4_bestAct_76 : decode cX4_bestAct 76 = .ok (.aload_n 0, 1) := by decide +kernel
theorem dX4_bestAct_77 : decode cX4_bestAct 77 = .ok (.getfield 32, 3) := by decide +kernel
theorem dX4_bestAct_80 : decode cX4_bestAct 80 = .ok (.getfield 116, 3) := by decide +kernel
theorem dX4_bestAct_83 : decode cX4_bestAct 83 = .ok (.iload 6, 2) := by decide +kernel
theorem dX4_bestAct_85 : decode cX4_bestAct 85 = .ok (.iaload, 1) := by decide +kernel
theorem dX4_bestAct_86 : decode cX4_bestAct 86 = .ok (.istore_n 3, 1) := by decide +kernel
theorem dX4_bestAct_87 : decode cX4_bestAct 87 = .ok (.iinc 6 1, 3) := by decide +kernel
theorem dX4_bestAct_90 : decode cX4_bestAct 90 = .ok (.goto (-70), 3) := by decide +kernel
theorem dX4_bestAct_93 : decode cX4_bestAct 93 = .ok (.iload_n 3, 1) := by decide +kernel
theorem dX4_bestAct_94 : decode cX4_bestAct 94 = .ok (.ireturn, 1) := by decide +kernel
theorem dX5_init_0 : decode cX5_init 0 = .ok (.aload_n 0, 1) := by decide +kernel
theorem dX5_init_1 : decode cX5_init 1 = .ok (.invokespecial 1, 3) := by decide +kernel
theorem dX5_init_4 : decode cX5_init 4 = .ok (.aload_n 0, 1) := by decide +kernel
theorem dX5_init_5 : decode cX5_init 5 = .ok (.iconst 0, 1) := by decide +kernel
theorem dX5_init_6 : decode cX5_init 6 = .ok (.putfield 7, 3) := by decide +kernel
theorem dX5_init_9 : decode cX5_init 9 = .ok (.aload_n 0, 1) := by decide +kernel
theorem dX5_init_10 : decode cX5_init 10 = .ok (.lconst 0, 1) := by decide +kernel
theorem dX5_init_11 : decode cX5_init 11 = .ok (.putfield 13, 3) := by decide +kernel
theorem dX5_init_14 : decode cX5_init 14 = .ok (.aload_n 0, 1) := by decide +kernel
theorem dX5_init_15 : decode cX5_init 15 = .ok (.iconst 0, 1) := by decide +kernel
theorem dX5_init_16 : decode cX5_init 16 = .ok (.putfield 17, 3) := by decide +kernel
theorem dX5_init_19 : decode cX5_init 19 = .ok (.aload_n 0, 1) := by decide +kernel
theorem dX5_init_20 : decode cX5_init 20 = .ok (.iconst 0, 1) := by decide +kernel
theorem dX5_init_21 : decode cX5_init 21 = .ok (.putfield 21, 3) := by decide +kernel
theorem dX5_init_24 : decode cX5_init 24 = .ok (.aload_n 0, 1) := by decide +kernel
theorem dX5_init_25 : decode cX5_init 25 = .ok (.iconst 0, 1) := by decide +kernel
theorem dX5_init_26 : decode cX5_init 26 = .ok (.putfield 24, 3) := by decide +kernel
theorem dX5_init_29 : decode cX5_init 29 = .ok (.return_, 1) := by decide +kernel
theorem dX5_offer_0 : decode cX5_offer 0 = .ok (.aload_n 0, 1) := by decide +kernel
theorem dX5_offer_1 : decode cX5_offer 1 = .ok (.getfield 7, 3) := by decide +kernel
theorem dX5_offer_4 : decode cX5_offer 4 = .ok (.ifCond .eq 12, 3) := by decide +kernel
theorem dX5_offer_7 : decode cX5_offer 7 = .ok (.lload_n 1, 1) := by decide +kernel
theorem dX5_offer_8 : decode cX5_offer 8 = .ok (.aload_n 0, 1) := by decide +kernel
theorem dX5_offer_9 : decode cX5_offer 9 = .ok (.getfield 13, 3) := by decide +kernel
theorem dX5_offer_12 : decode cX5_offer 12 = .ok (.lcmp, 1) := by decide +kernel
theorem dX5_offer_13 : decode cX5_offer 13 = .ok (.ifCond .le 30, 3) := by decide +kernel
theorem dX5_offer_16 : decode cX5_offer 16 = .ok (.aload_n 0, 1) := by decide +kernel
theorem dX5_offer_17 : decode cX5_offer 17 = .ok (.iconst 1, 1) := by decide +kernel
theorem dX5_offer_18 : decode cX5_offer 18 = .ok (.putfield 7, 3) := by decide +kernel
theorem dX5_offer_21 : decode cX5_offer 21 = .ok (.aload_n 0, 1) := by decide +kernel
theorem dX5_offer_22 : decode cX5_offer 22 = .ok (.lload_n 1, 1) := by decide +kernel
theorem dX5_offer_23 : decode cX5_offer 23 = .ok (.putfield 13, 3) := by decide +kernel
theorem dX5_offer_26 : decode cX5_offer 26 = .ok (.aload_n 0, 1) := by decide +kernel
theorem dX5_offer_27 : decode cX5_offer 27 = .ok (.iload_n 3, 1) := by decide +kernel
theorem dX5_offer_28 : decode cX5_offer 28 = .ok (.putfield 17, 3) := by decide +kernel
theorem dX5_offer_31 : decode cX5_offer 31 = .ok (.aload_n 0, 1) := by decide +kernel
theorem dX5_offer_32 : decode cX5_offer 32 = .ok (.iload 4, 2) := by decide +kernel
theorem dX5_offer_34 : decode cX5_offer 34 = .ok (.putfield 21, 3) := by decide +kernel
theorem dX5_offer_37 : decode cX5_offer 37 = .ok (.aload_n 0, 1) := by decide +kernel
theorem dX5_offer_38 : decode cX5_offer 38 = .ok (.iload 5, 2) := by decide +kernel
theorem dX5_offer_40 : decode cX5_offer 40 = .ok (.putfield 24, 3) := by decide +kernel
theorem dX5_offer_43 : decode cX5_offer 43 = .ok (.return_, 1) := by decide +kernel
theorem dX6_init_0 : decode cX6_init 0 = .ok (.aload_n 0, 1) := by decide +kernel
theorem dX6_init_1 : decode cX6_init 1 = .ok (.invokespecial 3, 3) := by decide +kernel
theorem dX6_init_4 : decode cX6_init 4 = .ok (.aload_n 0, 1) := by decide +kernel
theorem dX6_init_5 : decode cX6_init 5 = .ok (.iconst 0, 1) := by decide +kernel
theorem dX6_init_6 : decode cX6_init 6 = .ok (.putfield 9, 3) := by decide +kernel
theorem dX6_init_9 : decode cX6_init 9 = .ok (.aload_n 0, 1) := by decide +kernel
theorem dX6_init_10 : decode cX6_init 10 = .ok (.bipush 28, 2) := by decide +kernel
theorem dX6_init_12 : decode cX6_init 12 = .ok (.putfield 17, 3) := by decide +kernel
theorem dX6_init_15 : decode cX6_init 15 = .ok (.aload_n 0, 1) := by decide +kernel
theorem dX6_init_16 : decode cX6_init 16 = .ok (.iconst 0, 1) := by decide +kernel
theorem dX6_init_17 : decode cX6_init 17 = .ok (.putfield 20, 3) := by decide +kernel
theorem dX6_init_20 : decode cX6_init 20 = .ok (.aload_n 0, 1) := by decide +kernel
theorem dX6_init_21 : decode cX6_init 21 = .ok (.new 23, 3) := by decide +kernel
theorem dX6_init_24 : decode cX6_init 24 = .ok (.dup, 1) := by decide +kernel
theorem dX6_init_25 : decode cX6_init 25 = .ok (.invokespecial 25, 3) := by decide +kernel
theorem dX6_init_28 : decode cX6_init 28 = .ok (.putfield 26, 3) := by decide +kernel
theorem dX6_init_31 : decode cX6_init 31 = .ok (.aload_n 0, 1) := by decide +kernel
theorem dX6_init_32 : decode cX6_init 32 = .ok (.iconst 3, 1) := by decide +kernel
theorem dX6_init_33 : decode cX6_init 33 = .ok (.newarray .long, 2) := by decide +kernel
theorem dX6_init_35 : decode cX6_init 35 = .ok (.putfield 30, 3) := by decide +kernel
theorem dX6_init_38 : decode cX6_init 38 = .ok (.aload_n 0, 1) := by decide +kernel
theorem dX6_init_39 : decode cX6_init 39 = .ok (.iconst 4, 1) := by decide +kernel
theorem dX6_init_40 : decode cX6_init 40 = .ok (.newarray .long, 2) := by decide +kernel
theorem dX6_init_42 : decode cX6_init 42 = .ok (.putfield 34, 3) := by decide +kernel
theorem dX6_init_45 : decode cX6_init 45 = .ok (.aload_n 0, 1) := by decide +kernel
theorem dX6_init_46 : decode cX6_init 46 = .ok (.iconst 4, 1) := by decide +kernel
theorem dX6_init_47 : decode cX6_init 47 = .ok (.newarray .boolean, 2) := by decide +kernel
theorem dX6_init_49 : decode cX6_init 49 = .ok (.putfield 37, 3) := by decide +kernel
theorem dX6_init_52 : decode cX6_init 52 = .ok (.aload_n 0, 1) := by decide +kernel
theorem dX6_init_53 : decode cX6_init 53 = .ok (.iconst 0, 1) := by decide +kernel
theorem dX6_init_54 : decode cX6_init 54 = .ok (.putfield 41, 3) := by decide +kernel
theorem dX6_init_57 : decode cX6_init 57 = .ok (.aload_n 0, 1) := by decide +kernel
theorem dX6_init_58 : decode cX6_init 58 = .ok (.iconst 0, 1) := by decide +kernel
theorem dX6_init_59 : decode cX6_init 59 = .ok (.putfield 45, 3) := by decide +kernel
theorem dX6_init_62 : decode cX6_init 62 = .ok (.aload_n 0, 1) := by decide +kernel
theorem dX6_init_63 : decode cX6_init 63 = .ok (.iconst 0, 1) := by decide +kernel
theorem dX6_init_64 : decode cX6_init 64 = .ok (.putfield 48, 3) := by decide +kernel
theorem dX6_init_67 : decode cX6_init 67 = .ok (.aload_n 0, 1) := by decide +kernel
theorem dX6_init_68 : decode cX6_init 68 = .ok (.sipush 1000, 3) := by decide +kernel
theorem dX6_init_71 : decode cX6_init 71 = .ok (.newarray .int, 2) := by decide +kernel
theorem dX6_init_73 : decode cX6_init 73 = .ok (.putfield 51, 3) := by decide +kernel
theorem dX6_init_76 : decode cX6_init 76 = .ok (.aload_n 0, 1) := by decide +kernel
theorem dX6_init_77 : decode cX6_init 77 = .ok (.iconst 0, 1) := by decide +kernel
theorem dX6_init_78 : decode cX6_init 78 = .ok (.putfield 55, 3) := by decide +kernel
theorem dX6_init_81 : decode cX6_init 81 = .ok (.aload_n 0, 1) := by decide +kernel
theorem dX6_init_82 : decode cX6_init 82 = .ok (.new 15, 3) := by decide +kernel
theorem dX6_init_85 : decode cX6_init 85 = .ok (.dup, 1) := by decide +kernel
theorem dX6_init_86 : decode cX6_init 86 = .ok (.aload_n 1, 1) := by decide +kernel
theorem dX6_init_87 : decode cX6_init 87 = .ok (.invokespecial 58, 3) := by decide +kernel
theorem dX6_init_90 : decode cX6_init 90 = .ok (.putfield 61, 3) := by decide +kernel
theorem dX6_init_93 : decode cX6_init 93 = .ok (.return_, 1) := by decide +kernel
theorem dX6_readInto_0 : decode cX6_readInto 0 = .ok (.aload_n 0, 1) := by decide +kernel
theorem dX6_readInto_1 : decode cX6_readInto 1 = .ok (.aload_n 1, 1) := by decide +kernel
theorem dX6_readInto_2 : decode cX6_readInto 2 = .ok (.invokevirtual 65, 3) := by decide +kernel
theorem dX6_readInto_5 : decode cX6_readInto 5 = .ok (.aload_n 0, 1) := by decide +kernel
theorem dX6_readInto_6 : decode cX6_readInto 6 = .ok (.getfield 61, 3) := by decide +kernel
theorem dX6_readInto_9 : decode cX6_readInto 9 = .ok (.iload_n 2, 1) := by decide +kernel
theorem dX6_readInto_10 : decode cX6_readInto 10 = .ok (.invokevirtual 69, 3) := by decide +kernel
theorem dX6_readInto_13 : decode cX6_readInto 13 = .ok (.aload_n 0, 1) := by decide +kernel
theorem dX6_readInto_14 : decode cX6_readInto 14 = .ok (.aload_n 0, 1) := by decide +kernel
theorem dX6_readInto_15 : decode cX6_readInto 15 = .ok (.getfield 61, 3) := by decide +kernel
theorem dX6_readInto_18 : decode cX6_readInto 18 = .ok (.getfield 73, 3) := by decide +kernel
theorem dX6_readInto_21 : decode cX6_readInto 21 = .ok (.iconst 0, 1) := by decide +kernel
theorem dX6_readInto_22 : decode cX6_readInto 22 = .ok (.iaload, 1) := by decide +kernel
theorem dX6_readInto_23 : decode cX6_readInto 23 = .ok (.putfield 17, 3) := by decide +kernel
theorem dX6_readInto_26 : decode cX6_readInto 26 = .ok (.iconst 1, 1) := by decide +kernel
theorem dX6_readInto_27 : decode cX6_readInto 27 = .ok (.istore_n 3, 1) := by decide +kernel
theorem dX6_readInto_28 : decode cX6_readInto 28 = .ok (.iconst 0, 1) := by decide +kernel
theorem dX6_readInto_29 : decode cX6_readInto 29 = .ok (.istore 4, 2) := by decide +kernel
theorem dX6_readInto_31 : decode cX6_readInto 31 = .ok (.iload 4, 2) := by decide +kernel
theorem dX6_readInto_33 : decode cX6_readInto 33 = .ok (.aload_n 0, 1) := by decide +kernel
theorem dX6_readInto_34 : decode cX6_readInto 34 = .ok (.getfield 61, 3) := by decide +kernel
theorem dX6_readInto_37 : decode cX6_readInto 37 = .ok (.getfield 76, 3) := by decide +kernel
theorem dX6_readInto_40 : decode cX6_readInto 40 = .ok (.if_icmp .ge 27, 3) := by decide +kernel
theorem dX6_readInto_43 : decode cX6_readInto 43 = .ok (.iload_n 3, 1) := by decide +kernel
theorem dX6_readInto_44 : decode cX6_readInto 44 = .ok (.ifCond .eq 23, 3) := by decide +kernel
theorem dX6_readInto_47 : decode cX6_readInto 47 = .ok (.aload_n 0, 1) := by decide +kernel
theorem dX6_readInto_48 : decode cX6_readInto 48 = .ok (.getfield 17, 3) := by decide +kernel
theorem dX6_readInto_51 : decode cX6_readInto 51 = .ok (.bipush 28, 2) := by decide +kernel
theorem dX6_readInto_53 : decode cX6_readInto 53 = .ok (.if_icmp .eq 14, 3) := by decide +kernel
theorem dX6_readInto_56 : decode cX6_readInto 56 = .ok (.aload_n 0, 1) := by decide +kernel
theorem dX6_readInto_57 : decode cX6_readInto 57 = .ok (.invokevirtual 79, 3) := by decide +kernel
theorem dX6_readInto_60 : decode cX6_readInto 60 = .ok (.istore_n 3, 1) := by decide +kernel
theorem dX6_readInto_61 : decode cX6_readInto 61 = .ok (.iinc 4 1, 3) := by decide +kernel
theorem dX6_readInto_64 : decode cX6_readInto 64 = .ok (.goto (-33), 3) := by decide +kernel
theorem dX6_readInto_67 : decode cX6_readInto 67 = .ok (.iload_n 3, 1) := by decide +kernel
theorem dX6_readInto_68 : decode cX6_readInto 68 = .ok (.ifCond .eq 29, 3) := by decide +kernel
theorem dX6_readInto_71 : decode cX6_readInto 71 = .ok (.aload_n 0, 1) := by decide +kernel
theorem dX6_readInto_72 : decode cX6_readInto 72 = .ok (.getfield 26, 3) := by decide +kernel
theorem dX6_readInto_75 : decode cX6_readInto 75 = .ok (.getfield 83, 3) := by decide +kernel
theorem dX6_readInto_78 : decode cX6_readInto 78 = .ok (.ifCond .le 19, 3) := by decide +kernel
theorem dX6_readInto_81 : decode cX6_readInto 81 = .ok (.aload_n 0, 1) := by decide +kernel
theorem dX6_readInto_82 : decode cX6_readInto 82 = .ok (.invokevirtual 86, 3) := by decide +kernel
theorem dX6_readInto_85 : decode cX6_readInto 85 = .ok (.bipush 6, 2) := by decide +kernel
theorem dX6_readInto_87 : decode cX6_readInto 87 = .ok (.if_icmp .eq 10, 3) := by decide +kernel
theorem dX6_readInto_90 : decode cX6_readInto 90 = .ok (.aload_n 0, 1) := by decide +kernel
theorem dX6_readInto_91 : decode cX6_readInto 91 = .ok (.bipush 6, 2) := by decide +kernel
theorem dX6_readInto_93 : decode cX6_readInto 93 = .ok (.invokevirtual 90, 3) := by decide +kernel
theorem dX6_readInto_96 : decode cX6_readInto 96 = .ok (.pop, 1) := by decide +kernel
theorem dX6_readInto_97 : decode cX6_readInto 97 = .ok (.aload_n 0, 1) := by decide +kernel
theorem dX6_readInto_98 : decode cX6_readInto 98 = .ok (.getfield 20, 3) := by decide +kernel
theorem dX6_readInto_101 : decode cX6_readInto 101 = .ok (.ifCond .ne 10, 3) := by decide +kernel
theorem dX6_readInto_104 : decode cX6_readInto 104 = .ok (.aload_n 0, 1) := by decide +kernel
theorem dX6_readInto_105 : decode cX6_readInto 105 = .ok (.getfield 26, 3) := by decide +kernel
theorem dX6_readInto_108 : decode cX6_readInto 108 = .ok (.invokevirtual 94, 3) := by decide +kernel
theorem dX6_readInto_111 : decode cX6_readInto 111 = .ok (.aload_n 0, 1) := by decide +kernel
theorem dX6_readInto_112 : decode cX6_readInto 112 = .ok (.getfield 20, 3) := by decide +kernel
theorem dX6_readInto_115 : decode cX6_readInto 115 = .ok (.ireturn, 1) := by decide +kernel
theorem dX6_begin_0 : decode cX6_begin 0 = .ok (.aload_n 0, 1) := by decide +kernel
theorem dX6_begin_1 : decode cX6_begin 1 = .ok (.aload_n 1, 1) := by decide +kernel
theorem dX6_begin_2 : decode cX6_begin 2 = .ok (.putfield 26, 3) := by decide +kernel
theorem dX6_begin_5 : decode cX6_begin 5 = .ok (.aload_n 0, 1) := by decide +kernel
theorem dX6_begin_6 : decode cX6_begin 6 = .ok (.iconst 0, 1) := by decide +kernel
theorem dX6_begin_7 : decode cX6_begin 7 = .ok (.putfield 9, 3) := by decide +kernel
theorem dX6_begin_10 : decode cX6_begin 10 = .ok (.aload_n 0, 1) := by decide +kernel
theorem dX6_begin_11 : decode cX6_begin 11 = .ok (.iconst 0, 1) := by decide +kernel
theorem dX6_begin_12 : decode cX6_begin 12 = .ok (.putfield 20, 3) := by decide +kernel
theorem dX6_begin_15 : decode cX6_begin 15 = .ok (.aload_n 0, 1) := by decide +kernel
theorem dX6_begin_16 : decode cX6_begin 16 = .ok (.iconst 0, 1) := by decide +kernel
theorem dX6_begin_17 : decode cX6_begin 17 = .ok (.putfield 41, 3) := by decide +kernel
theorem dX6_begin_20 : decode cX6_begin 20 = .ok (.aload_n 0, 1) := by decide +kernel
theorem dX6_begin_21 : decode cX6_begin 21 = .ok (.iconst 0, 1) := by decide +kernel
theorem dX6_begin_22 : decode cX6_begin 22 = .ok (.putfield 45, 3) := by decide +kernel
theorem dX6_begin_25 : decode cX6_begin 25 = .ok (.iconst 0, 1) := by decide +kernel
theorem dX6_begin_26 : decode cX6_begin 26 = .ok (.istore_n 2, 1) := by decide +kernel
theorem dX6_begin_27 : decode cX6_begin 27 = .ok (.iload_n 2, 1) := by decide +kernel
theorem dX6_begin_28 : decode cX6_begin 28 = .ok (.iconst 4, 1) := by decide +kernel
theorem dX6_begin_29 : decode cX6_begin 29 = .ok (.if_icmp .ge 16, 3) := by decide +kernel
theorem dX6_begin_32 : decode cX6_begin 32 = .ok (.aload_n 0, 1) := by decide +kernel
theorem dX6_begin_33 : decode cX6_begin 33 = .ok (.getfield 37, 3) := by decide +kernel
theorem dX6_begin_36 : decode cX6_begin 36 = .ok (.iload_n 2, 1) := by decide +kernel
theorem dX6_begin_37 : decode cX6_begin 37 = .ok (.iconst 0, 1) := by decide +kernel
theorem dX6_begin_38 : decode cX6_begin 38 = .ok (.bastore, 1) := by decide +kernel
theorem dX6_begin_39 : decode cX6_begin 39 = .ok (.iinc 2 1, 3) := by decide +kernel
theorem dX6_begin_42 : decode cX6_begin 42 = .ok (.goto (-15), 3) := by decide +kernel
theorem dX6_begin_45 : decode cX6_begin 45 = .ok (.return_, 1) := by decide +kernel
theorem dX6_chances_0 : decode cX6_chances 0 = .ok (.iconst 0, 1) := by decide +kernel
theorem dX6_chances_1 : decode cX6_chances 1 = .ok (.istore_n 1, 1) := by decide +kernel
theorem dX6_chances_2 : decode cX6_chances 2 = .ok (.iconst 0, 1) := by decide +kernel
theorem dX6_chances_3 : decode cX6_chances 3 = .ok (.istore_n 2, 1) := by decide +kernel
theorem dX6_chances_4 : decode cX6_chances 4 = .ok (.iload_n 2, 1) := by decide +kernel
theorem dX6_chances_5 : decode cX6_chances 5 = .ok (.aload_n 0, 1) := by decide +kernel
theorem dX6_chances_6 : decode cX6_chances 6 = .ok (.getfield 26, 3) := by decide +kernel
theorem dX6_chances_9 : decode cX6_chances 9 = .ok (.getfield 83, 3) := by decide +kernel
theorem dX6_chances_12 : decode cX6_chances 12 = .ok (.if_icmp .ge 21, 3) := by decide +kernel
theorem dX6_chances_15 : decode cX6_chances 15 = .ok (.iload_n 1, 1) := by decide +kernel
theorem dX6_chances_16 : decode cX6_chances 16 = .ok (.aload_n 0, 1) := by decide +kernel
theorem dX6_chances_17 : decode cX6_chances 17 = .ok (.getfield 26, 3) := by decide +kernel
theorem dX6_chances_20 : decode cX6_chances 20 = .ok (.getfield 97, 3) := by decide +kernel
theorem dX6_chances_23 : decode cX6_chances 23 = .ok (.iload_n 2, 1) := by decide +kernel
theorem dX6_chances_24 : decode cX6_chances 24 = .ok (.iaload, 1) := by decide +kernel
theorem dX6_chances_25 : decode cX6_chances 25 = .ok (.iadd, 1) := by decide +kernel
theorem dX6_chances_26 : decode cX6_chances 26 = .ok (.istore_n 1, 1) := by decide +kernel
theorem dX6_chances_27 : decode cX6_chances 27 = .ok (.iinc 2 1, 3) := by decide +kernel
theorem dX6_chances_30 : decode cX6_chances 30 = .ok (.goto (-26), 3) := by decide +kernel
theorem dX6_chances_33 : decode cX6_chances 33 = .ok (.iload_n 1, 1) := by decide +kernel
theorem dX6_chances_34 : decode cX6_chances 34 = .ok (.ireturn, 1) := by decide +kernel
theorem dX6_refuse_0 : decode cX6_refuse 0 = .ok (.aload_n 0, 1) := by decide +kernel
theorem dX6_refuse_1 : decode cX6_refuse 1 = .ok (.iload_n 1, 1) := by decide +kernel
theorem dX6_refuse_2 : decode cX6_refuse 2 = .ok (.bipush 16, 2) := by decide +kernel
theorem dX6_refuse_4 : decode cX6_refuse 4 = .ok (.aload_n 0, 1) := by decide +kernel
theorem dX6_refuse_5 : decode cX6_refuse 5 = .ok (.getfield 61, 3) := by decide +kernel
theorem dX6_refuse_8 : decode cX6_refuse 8 = .ok (.getfield 100, 3) := by decide +kernel
theorem dX6_refuse_11 : decode cX6_refuse 11 = .ok (.aload_n 0, 1) := by decide +kernel
theorem dX6_refuse_12 : decode cX6_refuse 12 = .ok (.getfield 9, 3) := by decide +kernel
theorem dX6_refuse_15 : decode cX6_refuse 15 = .ok (.iaload, 1) := by decide +kernel
theorem dX6_refuse_16 : decode cX6_refuse 16 = .ok (.imul, 1) := by decide +kernel
theorem dX6_refuse_17 : decode cX6_refuse 17 = .ok (.iadd, 1) := by decide +kernel
theorem dX6_refuse_18 : decode cX6_refuse 18 = .ok (.putfield 20, 3) := by decide +kernel
theorem dX6_refuse_21 : decode cX6_refuse 21 = .ok (.iconst 0, 1) := by decide +kernel
theorem dX6_refuse_22 : decode cX6_refuse 22 = .ok (.ireturn, 1) := by decide +kernel
theorem dX6_advance_0 : decode cX6_advance 0 = .ok (.aload_n 0, 1) := by decide +kernel
theorem dX6_advance_1 : decode cX6_advance 1 = .ok (.getfield 9, 3) := by decide +kernel
theorem dX6_advance_4 : decode cX6_advance 4 = .ok (.iconst 1, 1) := by decide +kernel
theorem dX6_advance_5 : decode cX6_advance 5 = .ok (.iadd, 1) := by decide +kernel
theorem dX6_advance_6 : decode cX6_advance 6 = .ok (.aload_n 0, 1) := by decide +kernel
theorem dX6_advance_7 : decode cX6_advance 7 = .ok (.getfield 61, 3) := by decide +kernel
theorem dX6_advance_10 : decode cX6_advance 10 = .ok (.getfield 76, 3) := by decide +kernel
theorem dX6_advance_13 : decode cX6_advance 13 = .ok (.if_icmp .ge 13, 3) := by decide +kernel
theorem dX6_advance_16 : decode cX6_advance 16 = .ok (.aload_n 0, 1) := by decide +kernel
theorem dX6_advance_17 : decode cX6_advance 17 = .ok (.dup, 1) := by decide +kernel
theorem dX6_advance_18 : decode cX6_advance 18 = .ok (.getfield 9, 3) := by decide +kernel
theorem dX6_advance_21 : decode cX6_advance 21 = .ok (.iconst 1, 1) := by decide +kernel
theorem dX6_advance_22 : decode cX6_advance 22 = .ok (.iadd, 1) := by decide +kernel
theorem dX6_advance_23 : decode cX6_advance 23 = .ok (.putfield 9, 3) := by decide +kernel
theorem dX6_advance_26 : decode cX6_advance 26 = .ok (.aload_n 0, 1) := by decide +kernel
theorem dX6_advance_27 : decode cX6_advance 27 = .ok (.aload_n 0, 1) := by decide +kernel
theorem dX6_advance_28 : decode cX6_advance 28 = .ok (.getfield 61, 3) := by decide +kernel
theorem dX6_advance_31 : decode cX6_advance 31 = .ok (.getfield 73, 3) := by decide +kernel
theorem dX6_advance_34 : decode cX6_advance 34 = .ok (.aload_n 0, 1) := by decide +kernel
theorem dX6_advance_35 : decode cX6_advance 35 = .ok (.getfield 9, 3) := by decide +kernel
theorem dX6_advance_38 : decode cX6_advance 38 = .ok (.iaload, 1) := by decide +kernel
theorem dX6_advance_39 : decode cX6_advance 39 = .ok (.putfield 17, 3) := by decide +kernel
theorem dX6_advance_42 : decode cX6_advance 42 = .ok (.return_, 1) := by decide +kernel
theorem dX6_number_0 : decode cX6_number 0 = .ok (.aload_n 0, 1) := by decide +kernel
theorem dX6_number_1 : decode cX6_number 1 = .ok (.getfield 61, 3) := by decide +kernel
theorem dX6_number_4 : decode cX6_number 4 = .ok (.getfield 103, 3) := by decide +kernel
theorem dX6_number_7 : decode cX6_number 7 = .ok (.aload_n 0, 1) := by decide +kernel
theorem dX6_number_8 : decode cX6_number 8 = .ok (.getfield 9, 3) := by decide +kernel
theorem dX6_number_11 : decode cX6_number 11 = .ok (.laload, 1) := by decide +kernel
theorem dX6_number_12 : decode cX6_number 12 = .ok (.l2i, 1) := by decide +kernel
theorem dX6_number_13 : decode cX6_number 13 = .ok (.ireturn, 1) := by decide +kernel
theorem dX6_readSentence_0 : decode cX6_readSentence 0 = .ok (.aload_n 0, 1) := by decide +kernel
theorem dX6_readSentence_1 : decode cX6_readSentence 1 = .ok (.getfield 17, 3) := by decide +kernel
theorem dX6_readSentence_4 : decode cX6_readSentence 4 = .ok (.tableswitch 107 0 13 #[72, 107, 107, 107, 107, 77, 107, 82, 87, 107, 107, 92, 97, 102], 72) := by decide +kernel
theorem dX6_readSentence_76 : decode cX6_readSentence 76 = .ok (.aload_n 0, 1) := by decide +kernel
theorem dX6_readSentence_77 : decode cX6_readSentence 77 = .ok (.invokevirtual 106, 3) := by decide +kernel
theorem dX6_readSentence_80 : decode cX6_readSentence 80 = .ok (.ireturn, 1) := by decide +kernel
theorem dX6_readSentence_81 : decode cX6_readSentence 81 = .ok (.aload_n 0, 1) := by decide +kernel
theorem dX6_readSentence_82 : decode cX6_readSentence 82 = .ok (.invokevirtual 109, 3) := by decide +kernel
theorem dX6_readSentence_85 : decode cX6_readSentence 85 = .ok (.ireturn, 1) := by decide +kernel
theorem dX6_readSentence_86 : decode cX6_readSentence 86 = .ok (.aload_n 0, 1) := by decide +kernel
theorem dX6_readSentence_87 : decode cX6_readSentence 87 = .ok (.invokevirtual 112, 3) := by decide +kernel
theorem dX6_readSentence_90 : decode cX6_readSentence 90 = .ok (.ireturn, 1) := by decide +kernel
theorem dX6_readSentence_91 : decode cX6_readSentence 91 = .ok (.aload_n 0, 1) := by decide +kernel
theorem dX6_readSentence_92 : decode cX6_readSentence 92 = .ok (.invokevirtual 115, 3) := by decide +kernel
theorem dX6_readSentence_95 : decode cX6_readSentence 95 = .ok (.ireturn, 1) := by decide +kernel
theorem dX6_readSentence_96 : decode cX6_readSentence 96 = .ok (.aload_n 0, 1) := by decide +kernel
theorem dX6_readSentence_97 : decode cX6_readSentence 97 = .ok (.invokevirtual 118, 3) := by decide +kernel
theorem dX6_readSentence_100 : decode cX6_readSentence 100 = .ok (.ireturn, 1) := by decide +kernel
theorem dX6_readSentence_101 : decode cX6_readSentence 101 = .ok (.aload_n 0, 1) := by decide +kernel
theorem dX6_readSentence_102 : decode cX6_readSentence 102 = .ok (.invokevirtual 121, 3) := by decide +kernel
theorem dX6_readSentence_105 : decode cX6_readSentence 105 = .ok (.ireturn, 1) := by decide +kernel
theorem dX6_readSentence_106 : decode cX6_readSentence 106 = .ok (.aload_n 0, 1) := by decide +kernel
theorem dX6_readSentence_107 : decode cX6_readSentence 107 = .ok (.invokevirtual 124, 3) := by decide +kernel
theorem dX6_readSentence_110 : decode cX6_readSentence 110 = .ok (.ireturn, 1) := by decide +kernel
theorem dX6_readSentence_111 : decode cX6_readSentence 111 = .ok (.aload_n 0, 1) := by decide +kernel
theorem dX6_readSentence_112 : decode cX6_readSentence 112 = .ok (.iconst 1, 1) := by decide +kernel
theorem dX6_readSentence_113 : decode cX6_readSentence 113 = .ok (.invokevirtual 90, 3) := by decide +kernel
theorem dX6_readSentence_116 : decode cX6_readSentence 116 = .ok (.ireturn, 1) := by decide +kernel
theorem dX6_readThing_0 : decode cX6_readThing 0 = .ok (.aload_n 0, 1) := by decide +kernel
theorem dX6_readThing_1 : decode cX6_readThing 1 = .ok (.getfield 26, 3) := by decide +kernel
theorem dX6_readThing_4 : decode cX6_readThing 4 = .ok (.getfield 127, 3) := by decide +kernel
theorem dX6_readThing_7 : decode cX6_readThing 7 = .ok (.istore_n 1, 1) := by decide +kernel
theorem dX6_readThing_8 : decode cX6_readThing 8 = .ok (.iload_n 1, 1) := by decide +kernel
theorem dX6_readThing_9 : decode cX6_readThing 9 = .ok (.iconst 3, 1) := by decide +kernel
theorem dX6_readThing_10 : decode cX6_readThing 10 = .ok (.if_icmp .lt 9, 3) := by decide +kernel
theorem dX6_readThing_13 : decode cX6_readThing 13 = .ok (.aload_n 0, 1) := by decide +kernel
theorem dX6_readThing_14 : decode cX6_readThing 14 = .ok (.iconst 5, 1) := by decide +kernel
theorem dX6_readThing_15 : decode cX6_readThing 15 = .ok (.invokevirtual 90, 3) := by decide +kernel
theorem dX6_readThing_18 : decode cX6_readThing 18 = .ok (.ireturn, 1) := by decide +kernel
theorem dX6_readThing_19 : decode cX6_readThing 19 = .ok (.aload_n 0, 1) := by decide +kernel
theorem dX6_readThing_20 : decode cX6_readThing 20 = .ok (.invokevirtual 130, 3) := by decide +kernel
theorem dX6_readThing_23 : decode cX6_readThing 23 = .ok (.aload_n 0, 1) := by decide +kernel
theorem dX6_readThing_24 : decode cX6_readThing 24 = .ok (.invokevirtual 133, 3) := by decide +kernel
theorem dX6_readThing_27 : decode cX6_readThing 27 = .ok (.ifCond .ne 5, 3) := by decide +kernel
theorem dX6_readThing_30 : decode cX6_readThing 30 = .ok (.iconst 0, 1) := by decide +kernel
theorem dX6_readThing_31 : decode cX6_readThing 31 = .ok (.ireturn, 1) := by decide +kernel
theorem dX6_readThing_32 : decode cX6_readThing 32 = .ok (.aload_n 0, 1) := by decide +kernel
theorem dX6_readThing_33 : decode cX6_readThing 33 = .ok (.getfield 30, 3) := by decide +kernel
theorem dX6_readThing_36 : decode cX6_readThing 36 = .ok (.iload_n 1, 1) := by decide +kernel
theorem dX6_readThing_37 : decode cX6_readThing 37 = .ok (.aload_n 0, 1) := by decide +kernel
theorem dX6_readThing_38 : decode cX6_readThing 38 = .ok (.getfield 61, 3) := by decide +kernel
theorem dX6_readThing_41 : decode cX6_readThing 41 = .ok (.getfield 103, 3) := by decide +kernel
theorem dX6_readThing_44 : decode cX6_readThing 44 = .ok (.aload_n 0, 1) := by decide +kernel
theorem dX6_readThing_45 : decode cX6_readThing 45 = .ok (.getfield 9, 3) := by decide +kernel
theorem dX6_readThing_48 : decode cX6_readThing 48 = .ok (.laload, 1) := by decide +kernel
theorem dX6_readThing_49 : decode cX6_readThing 49 = .ok (.lastore, 1) := by decide +kernel
theorem dX6_readThing_50 : decode cX6_readThing 50 = .ok (.aload_n 0, 1) := by decide +kernel
theorem dX6_readThing_51 : decode cX6_readThing 51 = .ok (.invokevirtual 130, 3) := by decide +kernel
theorem dX6_readThing_54 : decode cX6_readThing 54 = .ok (.aload_n 0, 1) := by decide +kernel
theorem dX6_readThing_55 : decode cX6_readThing 55 = .ok (.iconst 1, 1) := by decide +kernel
theorem dX6_readThing_56 : decode cX6_readThing 56 = .ok (.invokevirtual 136, 3) := by decide +kernel
theorem dX6_readThing_59 : decode cX6_readThing 59 = .ok (.ifCond .eq 12, 3) := by decide +kernel
theorem dX6_readThing_62 : decode cX6_readThing 62 = .ok (.aload_n 0, 1) := by decide +kernel
theorem dX6_readThing_63 : decode cX6_readThing 63 = .ok (.iconst 2, 1) := by decide +kernel
theorem dX6_readThing_64 : decode cX6_readThing 64 = .ok (.iconst 3, 1) := by decide +kernel
theorem dX6_readThing_65 : decode cX6_readThing 65 = .ok (.invokevirtual 139, 3) := by decide +kernel
theorem dX6_readThing_68 : decode cX6_readThing 68 = .ok (.ifCond .ne 5, 3) := by decide +kernel
theorem dX6_readThing_71 : decode cX6_readThing 71 = .ok (.iconst 0, 1) := by decide +kernel
theorem dX6_readThing_72 : decode cX6_readThing 72 = .ok (.ireturn, 1) := by decide +kernel
theorem dX6_readThing_73 : decode cX6_readThing 73 = .ok (.aload_n 0, 1) := by decide +kernel
theorem dX6_readThing_74 : decode cX6_readThing 74 = .ok (.getfield 26, 3) := by decide +kernel
theorem dX6_readThing_77 : decode cX6_readThing 77 = .ok (.getfield 143, 3) := by decide +kernel
theorem dX6_readThing_80 : decode cX6_readThing 80 = .ok (.iload_n 1, 1) := by decide +kernel
theorem dX6_readThing_81 : decode cX6_readThing 81 = .ok (.aload_n 0, 1) := by decide +kernel
theorem dX6_readThing_82 : decode cX6_readThing 82 = .ok (.invokevirtual 146, 3) := by decide +kernel
theorem dX6_readThing_85 : decode cX6_readThing 85 = .ok (.iastore, 1) := by decide +kernel
theorem dX6_readThing_86 : decode cX6_readThing 86 = .ok (.aload_n 0, 1) := by decide +kernel
theorem dX6_readThing_87 : decode cX6_readThing 87 = .ok (.invokevirtual 130, 3) := by decide +kernel
theorem dX6_readThing_90 : decode cX6_readThing 90 = .ok (.aload_n 0, 1) := by decide +kernel
theorem dX6_readThing_91 : decode cX6_readThing 91 = .ok (.iconst 2, 1) := by decide +kernel
theorem dX6_readThing_92 : decode cX6_readThing 92 = .ok (.invokevirtual 136, 3) := by decide +kernel
theorem dX6_readThing_95 : decode cX6_readThing 95 = .ok (.ifCond .eq 22, 3) := by decide +kernel
theorem dX6_readThing_98 : decode cX6_readThing 98 = .ok (.aload_n 0, 1) := by decide +kernel
theorem dX6_readThing_99 : decode cX6_readThing 99 = .ok (.iconst 0, 1) := by decide +kernel
theorem dX6_readThing_100 : decode cX6_readThing 100 = .ok (.aload_n 0, 1) := by decide +kernel
theorem dX6_readThing_101 : decode cX6_readThing 101 = .ok (.getfield 26, 3) := by decide +kernel
theorem dX6_readThing_104 : decode cX6_readThing 104 = .ok (.getfield 143, 3) := by decide +kernel
theorem dX6_readThing_107 : decode cX6_readThing 107 = .ok (.iload_n 1, 1) := by decide +kernel
theorem dX6_readThing_108 : decode cX6_readThing 108 = .ok (.iaload, 1) := by decide +kernel
theorem dX6_readThing_109 : decode cX6_readThing 109 = .ok (.iconst 1, 1) := by decide +kernel
theorem dX6_readThing_110 : decode cX6_readThing 110 = .ok (.isub, 1) := by decide +kernel
theorem dX6_readThing_111 : decode cX6_readThing 111 = .ok (.invokevirtual 139, 3) := by decide +kernel
theorem dX6_readThing_114 : decode cX6_readThing 114 = .ok (.ifCond .ne 5, 3) := by decide +kernel
theorem dX6_readThing_117 : decode cX6_readThing 117 = .ok (.iconst 0, 1) := by decide +kernel
theorem dX6_readThing_118 : decode cX6_readThing 118 = .ok (.ireturn, 1) := by decide +kernel
theorem dX6_readThing_119 : decode cX6_readThing 119 = .ok (.aload_n 0, 1) := by decide +kernel
theorem dX6_readThing_120 : decode cX6_readThing 120 = .ok (.getfield 26, 3) := by decide +kernel
theorem dX6_readThing_123 : decode cX6_readThing 123 = .ok (.getfield 149, 3) := by decide +kernel
theorem dX6_readThing_126 : decode cX6_readThing 126 = .ok (.iload_n 1, 1) := by decide +kernel
theorem dX6_readThing_127 : decode cX6_readThing 127 = .ok (.aload_n 0, 1) := by decide +kernel
theorem dX6_readThing_128 : decode cX6_readThing 128 = .ok (.invokevirtual 146, 3) := by decide +kernel
theorem dX6_readThing_131 : decode cX6_readThing 131 = .ok (.iastore, 1) := by decide +kernel
theorem dX6_readThing_132 : decode cX6_readThing 132 = .ok (.aload_n 0, 1) := by decide +kernel
theorem dX6_readThing_133 : decode cX6_readThing 133 = .ok (.invokevirtual 130, 3) := by decide +kernel
theorem dX6_readThing_136 : decode cX6_readThing 136 = .ok (.aload_n 0, 1) := by decide +kernel
theorem dX6_readThing_137 : decode cX6_readThing 137 = .ok (.iconst 3, 1) := by decide +kernel
theorem dX6_readThing_138 : decode cX6_readThing 138 = .ok (.invokevirtual 136, 3) := by decide +kernel
theorem dX6_readThing_141 : decode cX6_readThing 141 = .ok (.ifCond .eq 14, 3) := by decide +kernel
theorem dX6_readThing_144 : decode cX6_readThing 144 = .ok (.aload_n 0, 1) := by decide +kernel
theorem dX6_readThing_145 : decode cX6_readThing 145 = .ok (.iconst 0, 1) := by decide +kernel
theorem dX6_readThing_146 : decode cX6_readThing 146 = .ok (.sipush 999, 3) := by decide +kernel
theorem dX6_readThing_149 : decode cX6_readThing 149 = .ok (.invokevirtual 139, 3) := by decide +kernel
theorem dX6_readThing_152 : decode cX6_readThing 152 = .ok (.ifCond .ne 5, 3) := by decide +kernel
theorem dX6_readThing_155 : decode cX6_readThing 155 = .ok (.iconst 0, 1) := by decide +kernel
theorem dX6_readThing_156 : decode cX6_readThing 156 = .ok (.ireturn, 1) := by decide +kernel
theorem dX6_readThing_157 : decode cX6_readThing 157 = .ok (.aload_n 0, 1) := by decide +kernel
theorem dX6_readThing_158 : decode cX6_readThing 158 = .ok (.getfield 26, 3) := by decide +kernel
theorem dX6_readThing_161 : decode cX6_readThing 161 = .ok (.getfield 152, 3) := by decide +kernel
theorem dX6_readThing_164 : decode cX6_readThing 164 = .ok (.iload_n 1, 1) := by decide +kernel
theorem dX6_readThing_165 : decode cX6_readThing 165 = .ok (.aload_n 0, 1) := by decide +kernel
theorem dX6_readThing_166 : decode cX6_readThing 166 = .ok (.invokevirtual 146, 3) := by decide +kernel
theorem dX6_readThing_169 : decode cX6_readThing 169 = .ok (.iastore, 1) := by decide +kernel
theorem dX6_readThing_170 : decode cX6_readThing 170 = .ok (.aload_n 0, 1) := by decide +kernel
theorem dX6_readThing_171 : decode cX6_readThing 171 = .ok (.invokevirtual 130, 3) := by decide +kernel
theorem dX6_readThing_174 : decode cX6_readThing 174 = .ok (.aload_n 0, 1) := by decide +kernel
theorem dX6_readThing_175 : decode cX6_readThing 175 = .ok (.getfield 17, 3) := by decide +kernel
theorem dX6_readThing_178 : decode cX6_readThing 178 = .ok (.iconst 4, 1) := by decide +kernel
theorem dX6_readThing_179 : decode cX6_readThing 179 = .ok (.if_icmp .ne 17, 3) := by decide +kernel
theorem dX6_readThing_182 : decode cX6_readThing 182 = .ok (.aload_n 0, 1) := by decide +kernel
theorem dX6_readThing_183 : decode cX6_readThing 183 = .ok (.getfield 26, 3) := by decide +kernel
theorem dX6_readThing_186 : decode cX6_readThing 186 = .ok (.getfield 155, 3) := by decide +kernel
theorem dX6_readThing_189 : decode cX6_readThing 189 = .ok (.iload_n 1, 1) := by decide +kernel
theorem dX6_readThing_190 : decode cX6_readThing 190 = .ok (.iconst 1, 1) := by decide +kernel
theorem dX6_readThing_191 : decode cX6_readThing 191 = .ok (.bastore, 1) := by decide +kernel
theorem dX6_readThing_192 : decode cX6_readThing 192 = .ok (.aload_n 0, 1) := by decide +kernel
theorem dX6_readThing_193 : decode cX6_readThing 193 = .ok (.invokevirtual 130, 3) := by decide +kernel
theorem dX6_readThing_196 : decode cX6_readThing 196 = .ok (.aload_n 0, 1) := by decide +kernel
theorem dX6_readThing_197 : decode cX6_readThing 197 = .ok (.getfield 26, 3) := by decide +kernel
theorem dX6_readThing_200 : decode cX6_readThing 200 = .ok (.dup, 1) := by decide +kernel
theorem dX6_readThing_201 : decode cX6_readThing 201 = .ok (.getfield 127, 3) := by decide +kernel
theorem dX6_readThing_204 : decode cX6_readThing 204 = .ok (.iconst 1, 1) := by decide +kernel
theorem dX6_readThing_205 : decode cX6_readThing 205 = .ok (.iadd, 1) := by decide +kernel
theorem dX6_readThing_206 : decode cX6_readThing 206 = .ok (.putfield 127, 3) := by decide +kernel
theorem dX6_readThing_209 : decode cX6_readThing 209 = .ok (.aload_n 0, 1) := by decide +kernel
theorem dX6_readThing_210 : decode cX6_readThing 210 = .ok (.bipush 27, 2) := by decide +kernel
theorem dX6_readThing_212 : decode cX6_readThing 212 = .ok (.invokevirtual 136, 3) := by decide +kernel
theorem dX6_readThing_215 : decode cX6_readThing 215 = .ok (.ireturn, 1) := by decide +kernel
theorem dX6_readSort_0 : decode cX6_readSort 0 = .ok (.aload_n 0, 1) := by decide +kernel
theorem dX6_readSort_1 : decode cX6_readSort 1 = .ok (.getfield 26, 3) := by decide +kernel
theorem dX6_readSort_4 : decode cX6_readSort 4 = .ok (.getfield 83, 3) := by decide +kernel
theorem dX6_readSort_7 : decode cX6_readSort 7 = .ok (.istore_n 1, 1) := by decide +kernel
theorem dX6_readSort_8 : decode cX6_readSort 8 = .ok (.iload_n 1, 1) := by decide +kernel
theorem dX6_readSort_9 : decode cX6_readSort 9 = .ok (.iconst 4, 1) := by decide +kernel
theorem dX6_readSort_10 : decode cX6_readSort 10 = .ok (.if_icmp .lt 9, 3) := by decide +kernel
theorem dX6_readSort_13 : decode cX6_readSort 13 = .ok (.aload_n 0, 1) := by decide +kernel
theorem dX6_readSort_14 : decode cX6_readSort 14 = .ok (.iconst 5, 1) := by decide +kernel
theorem dX6_readSort_15 : decode cX6_readSort 15 = .ok (.invokevirtual 90, 3) := by decide +kernel
theorem dX6_readSort_18 : decode cX6_readSort 18 = .ok (.ireturn, 1) := by decide +kernel
theorem dX6_readSort_19 : decode cX6_readSort 19 = .ok (.aload_n 0, 1) := by decide +kernel
theorem dX6_readSort_20 : decode cX6_readSort 20 = .ok (.invokevirtual 130, 3) := by decide +kernel
theorem dX6_readSort_23 : decode cX6_readSort 23 = .ok (.aload_n 0, 1) := by decide +kernel
theorem dX6_readSort_24 : decode cX6_readSort 24 = .ok (.invokevirtual 133, 3) := by decide +kernel
theorem dX6_readSort_27 : decode cX6_readSort 27 = .ok (.ifCond .ne 5, 3) := by decide +kernel
theorem dX6_readSort_30 : decode cX6_readSort 30 = .ok (.iconst 0, 1) := by decide +kernel
theorem dX6_readSort_31 : decode cX6_readSort 31 = .ok (.ireturn, 1) := by decide +kernel
theorem dX6_readSort_32 : decode cX6_readSort 32 = .ok (.aload_n 0, 1) := by decide +kernel
theorem dX6_readSort_33 : decode cX6_readSort 33 = .ok (.getfield 34, 3) := by decide +kernel
theorem dX6_readSort_36 : decode cX6_readSort 36 = .ok (.iload_n 1, 1) := by decide +kernel
theorem dX6_readSort_37 : decode cX6_readSort 37 = .ok (.aload_n 0, 1) := by decide +kernel
theorem dX6_readSort_38 : decode cX6_readSort 38 = .ok (.getfield 61, 3) := by decide +kernel
theorem dX6_readSort_41 : decode cX6_readSort 41 = .ok (.getfield 103, 3) := by decide +kernel
theorem dX6_readSort_44 : decode cX6_readSort 44 = .ok (.aload_n 0, 1) := by decide +kernel
theorem dX6_readSort_45 : decode cX6_readSort 45 = .ok (.getfield 9, 3) := by decide +kernel
theorem dX6_readSort_48 : decode cX6_readSort 48 = .ok (.laload, 1) := by decide +kernel
theorem dX6_readSort_49 : decode cX6_readSort 49 = .ok (.lastore, 1) := by decide +kernel
theorem dX6_readSort_50 : decode cX6_readSort 50 = .ok (.aload_n 0, 1) := by decide +kernel
theorem dX6_readSort_51 : decode cX6_readSort 51 = .ok (.invokevirtual 130, 3) := by decide +kernel
theorem dX6_readSort_54 : decode cX6_readSort 54 = .ok (.aload_n 0, 1) := by decide +kernel
theorem dX6_readSort_55 : decode cX6_readSort 55 = .ok (.bipush 6, 2) := by decide +kernel
theorem dX6_readSort_57 : decode cX6_readSort 57 = .ok (.invokevirtual 136, 3) := by decide +kernel
theorem dX6_readSort_60 : decode cX6_readSort 60 = .ok (.ifCond .eq 11, 3) := by decide +kernel
theorem dX6_readSort_63 : decode cX6_readSort 63 = .ok (.aload_n 0, 1) := by decide +kernel
theorem dX6_readSort_64 : decode cX6_readSort 64 = .ok (.iconst 1, 1) := by decide +kernel
theorem dX6_readSort_65 : decode cX6_readSort 65 = .ok (.invokevirtual 158, 3) := by decide +kernel
theorem dX6_readSort_68 : decode cX6_readSort 68 = .ok (.ifCond .ne 5, 3) := by decide +kernel
theorem dX6_readSort_71 : decode cX6_readSort 71 = .ok (.iconst 0, 1) := by decide +kernel
theorem dX6_readSort_72 : decode cX6_readSort 72 = .ok (.ireturn, 1) := by decide +kernel
theorem dX6_readSort_73 : decode cX6_readSort 73 = .ok (.aload_n 0, 1) := by decide +kernel
theorem dX6_readSort_74 : decode cX6_readSort 74 = .ok (.getfield 26, 3) := by decide +kernel
theorem dX6_readSort_77 : decode cX6_readSort 77 = .ok (.getfield 162, 3) := by decide +kernel
theorem dX6_readSort_80 : decode cX6_readSort 80 = .ok (.iload_n 1, 1) := by decide +kernel
theorem dX6_readSort_81 : decode cX6_readSort 81 = .ok (.new 166, 3) := by decide +kernel
theorem dX6_readSort_84 : decode cX6_readSort 84 = .ok (.dup, 1) := by decide +kernel
theorem dX6_readSort_85 : decode cX6_readSort 85 = .ok (.aload_n 0, 1) := by decide +kernel
theorem dX6_readSort_86 : decode cX6_readSort 86 = .ok (.getfield 51, 3) := by decide +kernel
theorem dX6_readSort_89 : decode cX6_readSort 89 = .ok (.aload_n 0, 1) := by decide +kernel
theorem dX6_readSort_90 : decode cX6_readSort 90 = .ok (.getfield 55, 3) := by decide +kernel
theorem dX6_readSort_93 : decode cX6_readSort 93 = .ok (.invokestatic 168, 3) := by decide +kernel
theorem dX6_readSort_96 : decode cX6_readSort 96 = .ok (.invokespecial 174, 3) := by decide +kernel
theorem dX6_readSort_99 : decode cX6_readSort 99 = .ok (.aastore, 1) := by decide +kernel
theorem dX6_readSort_100 : decode cX6_readSort 100 = .ok (.aload_n 0, 1) := by decide +kernel
theorem dX6_readSort_101 : decode cX6_readSort 101 = .ok (.getfield 26, 3) := by decide +kernel
theorem dX6_readSort_104 : decode cX6_readSort 104 = .ok (.dup, 1) := by decide +kernel
theorem dX6_readSort_105 : decode cX6_readSort 105 = .ok (.getfield 83, 3) := by decide +kernel
theorem dX6_readSort_108 : decode cX6_readSort 108 = .ok (.iconst 1, 1) := by decide +kernel
theorem dX6_readSort_109 : decode cX6_readSort 109 = .ok (.iadd, 1) := by decide +kernel
theorem dX6_readSort_110 : decode cX6_readSort 110 = .ok (.putfield 83, 3) := by decide +kernel
theorem dX6_readSort_113 : decode cX6_readSort 113 = .ok (.aload_n 0, 1) := by decide +kernel
theorem dX6_readSort_114 : decode cX6_readSort 114 = .ok (.bipush 27, 2) := by decide +kernel
theorem dX6_readSort_116 : decode cX6_readSort 116 = .ok (.invokevirtual 136, 3) := by decide +kernel
theorem dX6_readSort_119 : decode cX6_readSort 119 = .ok (.ireturn, 1) := by decide +kernel
theorem dX6_readChance_0 : decode cX6_readChance 0 = .ok (.aload_n 0, 1) := by decide +kernel
theorem dX6_readChance_1 : decode cX6_readChance 1 = .ok (.invokevirtual 130, 3) := by decide +kernel
theorem dX6_readChance_4 : decode cX6_readChance 4 = .ok (.aload_n 0, 1) := by decide +kernel
theorem dX6_readChance_5 : decode cX6_readChance 5 = .ok (.getfield 17, 3) := by decide +kernel
theorem dX6_readChance_8 : decode cX6_readChance 8 = .ok (.bipush 18, 2) := by decide +kernel
theorem dX6_readChance_10 : decode cX6_readChance 10 = .ok (.if_icmp .eq 9, 3) := by decide +kernel
theorem dX6_readChance_13 : decode cX6_readChance 13 = .ok (.aload_n 0, 1) := by decide +kernel
theorem dX6_readChance_14 : decode cX6_readChance 14 = .ok (.iconst 1, 1) := by decide +kernel
theorem dX6_readChance_15 : decode cX6_readChance 15 = .ok (.invokevirtual 90, 3) := by decide +kernel
theorem dX6_readChance_18 : decode cX6_readChance 18 = .ok (.ireturn, 1) := by decide +kernel
theorem dX6_readChance_19 : decode cX6_readChance 19 = .ok (.aload_n 0, 1) := by decide +kernel
theorem dX6_readChance_20 : decode cX6_readChance 20 = .ok (.aload_n 0, 1) := by decide +kernel
theorem dX6_readChance_21 : decode cX6_readChance 21 = .ok (.getfield 34, 3) := by decide +kernel
theorem dX6_readChance_24 : decode cX6_readChance 24 = .ok (.aload_n 0, 1) := by decide +kernel
theorem dX6_readChance_25 : decode cX6_readChance 25 = .ok (.getfield 26, 3) := by decide +kernel
theorem dX6_readChance_28 : decode cX6_readChance 28 = .ok (.getfield 83, 3) := by decide +kernel
theorem dX6_readChance_31 : decode cX6_readChance 31 = .ok (.invokevirtual 177, 3) := by decide +kernel
theorem dX6_readChance_34 : decode cX6_readChance 34 = .ok (.istore_n 1, 1) := by decide +kernel
theorem dX6_readChance_35 : decode cX6_readChance 35 = .ok (.iload_n 1, 1) := by decide +kernel
theorem dX6_readChance_36 : decode cX6_readChance 36 = .ok (.iconst (-1), 1) := by decide +kernel
theorem dX6_readChance_37 : decode cX6_readChance 37 = .ok (.if_icmp .ne 9, 3) := by decide +kernel
theorem dX6_readChance_40 : decode cX6_readChance 40 = .ok (.aload_n 0, 1) := by decide +kernel
theorem dX6_readChance_41 : decode cX6_readChance 41 = .ok (.iconst 2, 1) := by decide +kernel
theorem dX6_readChance_42 : decode cX6_readChance 42 = .ok (.invokevirtual 90, 3) := by decide +kernel
theorem dX6_readChance_45 : decode cX6_readChance 45 = .ok (.ireturn, 1) := by decide +kernel
theorem dX6_readChance_46 : decode cX6_readChance 46 = .ok (.aload_n 0, 1) := by decide +kernel
theorem dX6_readChance_47 : decode cX6_readChance 47 = .ok (.getfield 37, 3) := by decide +kernel
theorem dX6_readChance_50 : decode cX6_readChance 50 = .ok (.iload_n 1, 1) := by decide +kernel
theorem dX6_readChance_51 : decode cX6_readChance 51 = .ok (.baload, 1) := by decide +kernel
theorem dX6_readChance_52 : decode cX6_readChance 52 = .ok (.ifCond .eq 9, 3) := by decide +kernel
theorem dX6_readChance_55 : decode cX6_readChance 55 = .ok (.aload_n 0, 1) := by decide +kernel
theorem dX6_readChance_56 : decode cX6_readChance 56 = .ok (.iconst 3, 1) := by decide +kernel
theorem dX6_readChance_57 : decode cX6_readChance 57 = .ok (.invokevirtual 90, 3) := by decide +kernel
theorem dX6_readChance_60 : decode cX6_readChance 60 = .ok (.ireturn, 1) := by decide +kernel
theorem dX6_readChance_61 : decode cX6_readChance 61 = .ok (.aload_n 0, 1) := by decide +kernel
theorem dX6_readChance_62 : decode cX6_readChance 62 = .ok (.getfield 37, 3) := by decide +kernel
theorem dX6_readChance_65 : decode cX6_readChance 65 = .ok (.iload_n 1, 1) := by decide +kernel
theorem dX6_readChance_66 : decode cX6_readChance 66 = .ok (.iconst 1, 1) := by decide +kernel
theorem dX6_readChance_67 : decode cX6_readChance 67 = .ok (.bastore, 1) := by decide +kernel
theorem dX6_readChance_68 : decode cX6_readChance 68 = .ok (.aload_n 0, 1) := by decide +kernel
theorem dX6_readChance_69 : decode cX6_readChance 69 = .ok (.invokevirtual 130, 3) := by decide +kernel
theorem dX6_readChance_72 : decode cX6_readChance 72 = .ok (.aload_n 0, 1) := by decide +kernel
theorem dX6_readChance_73 : decode cX6_readChance 73 = .ok (.iconst 0, 1) := by decide +kernel
theorem dX6_readChance_74 : decode cX6_readChance 74 = .ok (.bipush 6, 2) := by decide +kernel
theorem dX6_readChance_76 : decode cX6_readChance 76 = .ok (.invokevirtual 139, 3) := by decide +kernel
theorem dX6_readChance_79 : decode cX6_readChance 79 = .ok (.ifCond .ne 5, 3) := by decide +kernel
theorem dX6_readChance_82 : decode cX6_readChance 82 = .ok (.iconst 0, 1) := by decide +kernel
theorem dX6_readChance_83 : decode cX6_readChance 83 = .ok (.ireturn, 1) := by decide +kernel
theorem dX6_readChance_84 : decode cX6_readChance 84 = .ok (.aload_n 0, 1) := by decide +kernel
theorem dX6_readChance_85 : decode cX6_readChance 85 = .ok (.getfield 26, 3) := by decide +kernel
theorem dX6_readChance_88 : decode cX6_readChance 88 = .ok (.getfield 97, 3) := by decide +kernel
theorem dX6_readChance_91 : decode cX6_readChance 91 = .ok (.iload_n 1, 1) := by decide +kernel
theorem dX6_readChance_92 : decode cX6_readChance 92 = .ok (.aload_n 0, 1) := by decide +kernel
theorem dX6_readChance_93 : decode cX6_readChance 93 = .ok (.invokevirtual 146, 3) := by decide +kernel
theorem dX6_readChance_96 : decode cX6_readChance 96 = .ok (.iastore, 1) := by decide +kernel
theorem dX6_readChance_97 : decode cX6_readChance 97 = .ok (.aload_n 0, 1) := by decide +kernel
theorem dX6_readChance_98 : decode cX6_readChance 98 = .ok (.invokevirtual 130, 3) := by decide +kernel
theorem dX6_readChance_101 : decode cX6_readChance 101 = .ok (.aload_n 0, 1) := by decide +kernel
theorem dX6_readChance_102 : decode cX6_readChance 102 = .ok (.bipush 27, 2) := by decide +kernel
theorem dX6_readChance_104 : decode cX6_readChance 104 = .ok (.invokevirtual 136, 3) := by decide +kernel
theorem dX6_readChance_107 : decode cX6_readChance 107 = .ok (.ireturn, 1) := by decide +kernel
theorem dX6_readSpring_0 : decode cX6_readSpring 0 = .ok (.aload_n 0, 1) := by decide +kernel
theorem dX6_readSpring_1 : decode cX6_readSpring 1 = .ok (.invokevirtual 130, 3) := by decide +kernel
theorem dX6_readSpring_4 : decode cX6_readSpring 4 = .ok (.aload_n 0, 1) := by decide +kernel
theorem dX6_readSpring_5 : decode cX6_readSpring 5 = .ok (.iconst 0, 1) := by decide +kernel
theorem dX6_readSpring_6 : decode cX6_readSpring 6 = .ok (.bipush 15, 2) := by decide +kernel
theorem dX6_readSpring_8 : decode cX6_readSpring 8 = .ok (.invokevirtual 139, 3) := by decide +kernel
theorem dX6_readSpring_11 : decode cX6_readSpring 11 = .ok (.ifCond .ne 5, 3) := by decide +kernel
theorem dX6_readSpring_14 : decode cX6_readSpring 14 = .ok (.iconst 0, 1) := by decide +kernel
theorem dX6_readSpring_15 : decode cX6_readSpring 15 = .ok (.ireturn, 1) := by decide +kernel
theorem dX6_readSpring_16 : decode cX6_readSpring 16 = .ok (.aload_n 0, 1) := by decide +kernel
theorem dX6_readSpring_17 : decode cX6_readSpring 17 = .ok (.invokevirtual 146, 3) := by decide +kernel
theorem dX6_readSpring_20 : decode cX6_readSpring 20 = .ok (.istore_n 1, 1) := by decide +kernel
theorem dX6_readSpring_21 : decode cX6_readSpring 21 = .ok (.aload_n 0, 1) := by decide +kernel
theorem dX6_readSpring_22 : decode cX6_readSpring 22 = .ok (.getfield 26, 3) := by decide +kernel
theorem dX6_readSpring_25 : decode cX6_readSpring 25 = .ok (.getfield 181, 3) := by decide +kernel
theorem dX6_readSpring_28 : decode cX6_readSpring 28 = .ok (.iload_n 1, 1) := by decide +kernel
theorem dX6_readSpring_29 : decode cX6_readSpring 29 = .ok (.iaload, 1) := by decide +kernel
theorem dX6_readSpring_30 : decode cX6_readSpring 30 = .ok (.bipush (-2), 2) := by decide +kernel
theorem dX6_readSpring_32 : decode cX6_readSpring 32 = .ok (.if_icmp .eq 9, 3) := by decide +kernel
theorem dX6_readSpring_35 : decode cX6_readSpring 35 = .ok (.aload_n 0, 1) := by decide +kernel
theorem dX6_readSpring_36 : decode cX6_readSpring 36 = .ok (.iconst 3, 1) := by decide +kernel
theorem dX6_readSpring_37 : decode cX6_readSpring 37 = .ok (.invokevirtual 90, 3) := by decide +kernel
theorem dX6_readSpring_40 : decode cX6_readSpring 40 = .ok (.ireturn, 1) := by decide +kernel
theorem dX6_readSpring_41 : decode cX6_readSpring 41 = .ok (.aload_n 0, 1) := by decide +kernel
theorem dX6_readSpring_42 : decode cX6_readSpring 42 = .ok (.invokevirtual 130, 3) := by decide +kernel
theorem dX6_readSpring_45 : decode cX6_readSpring 45 = .ok (.aload_n 0, 1) := by decide +kernel
theorem dX6_readSpring_46 : decode cX6_readSpring 46 = .ok (.bipush 9, 2) := by decide +kernel
theorem dX6_readSpring_48 : decode cX6_readSpring 48 = .ok (.invokevirtual 136, 3) := by decide +kernel
theorem dX6_readSpring_51 : decode cX6_readSpring 51 = .ok (.ifCond .ne 5, 3) := by decide +kernel
theorem dX6_readSpring_54 : decode cX6_readSpring 54 = .ok (.iconst 0, 1) := by decide +kernel
theorem dX6_readSpring_55 : decode cX6_readSpring 55 = .ok (.ireturn, 1) := by decide +kernel
theorem dX6_readSpring_56 : decode cX6_readSpring 56 = .ok (.aload_n 0, 1) := by decide +kernel
theorem dX6_readSpring_57 : decode cX6_readSpring 57 = .ok (.getfield 17, 3) := by decide +kernel
theorem dX6_readSpring_60 : decode cX6_readSpring 60 = .ok (.bipush 10, 2) := by decide +kernel
theorem dX6_readSpring_62 : decode cX6_readSpring 62 = .ok (.if_icmp .eq 18, 3) := by decide +kernel
theorem dX6_readSpring_65 : decode cX6_readSpring 65 = .ok (.aload_n 0, 1) := by decide +kernel
theorem dX6_readSpring_66 : decode cX6_readSpring 66 = .ok (.getfield 17, 3) := by decide +kernel
theorem dX6_readSpring_69 : decode cX6_readSpring 69 = .ok (.bipush 18, 2) := by decide +kernel
theorem dX6_readSpring_71 : decode cX6_readSpring 71 = .ok (.if_icmp .eq 9, 3) := by decide +kernel
theorem dX6_readSpring_74 : decode cX6_readSpring 74 = .ok (.aload_n 0, 1) := by decide +kernel
theorem dX6_readSpring_75 : decode cX6_readSpring 75 = .ok (.iconst 1, 1) := by decide +kernel
theorem dX6_readSpring_76 : decode cX6_readSpring 76 = .ok (.invokevirtual 90, 3) := by decide +kernel
theorem dX6_readSpring_79 : decode cX6_readSpring 79 = .ok (.ireturn, 1) := by decide +kernel
theorem dX6_readSpring_80 : decode cX6_readSpring 80 = .ok (.aload_n 0, 1) := by decide +kernel
theorem dX6_readSpring_81 : decode cX6_readSpring 81 = .ok (.getfield 17, 3) := by decide +kernel
theorem dX6_readSpring_84 : decode cX6_readSpring 84 = .ok (.bipush 10, 2) := by decide +kernel
theorem dX6_readSpring_86 : decode cX6_readSpring 86 = .ok (.if_icmp .ne 7, 3) := by decide +kernel
theorem dX6_readSpring_89 : decode cX6_readSpring 89 = .ok (.iconst (-1), 1) := by decide +kernel
theorem dX6_readSpring_90 : decode cX6_readSpring 90 = .ok (.goto 18, 3) := by decide +kernel
theorem dX6_readSpring_93 : decode cX6_readSpring 93 = .ok (.aload_n 0, 1) := by decide +kernel
theorem dX6_readSpring_94 : decode cX6_readSpring 94 = .ok (.aload_n 0, 1) := by decide +kernel
theorem dX6_readSpring_95 : decode cX6_readSpring 95 = .ok (.getfield 34, 3) := by decide +kernel
theorem dX6_readSpring_98 : decode cX6_readSpring 98 = .ok (.aload_n 0, 1) := by decide +kernel
theorem dX6_readSpring_99 : decode cX6_readSpring 99 = .ok (.getfield 26, 3) := by decide +kernel
theorem dX6_readSpring_102 : decode cX6_readSpring 102 = .ok (.getfield 83, 3) := by decide +kernel
theorem dX6_readSpring_105 : decode cX6_readSpring 105 = .ok (.invokevirtual 177, 3) := by decide +kernel
theorem dX6_readSpring_108 : decode cX6_readSpring 108 = .ok (.istore_n 2, 1) := by decide +kernel
theorem dX6_readSpring_109 : decode cX6_readSpring 109 = .ok (.aload_n 0, 1) := by decide +kernel
theorem dX6_readSpring_110 : decode cX6_readSpring 110 = .ok (.getfield 17, 3) := by decide +kernel
theorem dX6_readSpring_113 : decode cX6_readSpring 113 = .ok (.bipush 18, 2) := by decide +kernel
theorem dX6_readSpring_115 : decode cX6_readSpring 115 = .ok (.if_icmp .ne 14, 3) := by decide +kernel
theorem dX6_readSpring_118 : decode cX6_readSpring 118 = .ok (.iload_n 2, 1) := by decide +kernel
theorem dX6_readSpring_119 : decode cX6_readSpring 119 = .ok (.iconst (-1), 1) := by decide +kernel
theorem dX6_readSpring_120 : decode cX6_readSpring 120 = .ok (.if_icmp .ne 9, 3) := by decide +kernel
theorem dX6_readSpring_123 : decode cX6_readSpring 123 = .ok (.aload_n 0, 1) := by decide +kernel
theorem dX6_readSpring_124 : decode cX6_readSpring 124 = .ok (.iconst 2, 1) := by decide +kernel
theorem dX6_readSpring_125 : decode cX6_readSpring 125 = .ok (.invokevirtual 90, 3) := by decide +kernel
theorem dX6_readSpring_128 : decode cX6_readSpring 128 = .ok (.ireturn, 1) := by decide +kernel
theorem dX6_readSpring_129 : decode cX6_readSpring 129 = .ok (.aload_n 0, 1) := by decide +kernel
theorem dX6_readSpring_130 : decode cX6_readSpring 130 = .ok (.getfield 26, 3) := by decide +kernel
theorem dX6_readSpring_133 : decode cX6_readSpring 133 = .ok (.getfield 181, 3) := by decide +kernel
theorem dX6_readSpring_136 : decode cX6_readSpring 136 = .ok (.iload_n 1, 1) := by decide +kernel
theorem dX6_readSpring_137 : decode cX6_readSpring 137 = .ok (.iload_n 2, 1) := by decide +kernel
theorem dX6_readSpring_138 : decode cX6_readSpring 138 = .ok (.iastore, 1) := by decide +kernel
theorem dX6_readSpring_139 : decode cX6_readSpring 139 = .ok (.aload_n 0, 1) := by decide +kernel
theorem dX6_readSpring_140 : decode cX6_readSpring 140 = .ok (.invokevirtual 130, 3) := by decide +kernel
theorem dX6_readSpring_143 : decode cX6_readSpring 143 = .ok (.aload_n 0, 1) := by decide +kernel
theorem dX6_readSpring_144 : decode cX6_readSpring 144 = .ok (.bipush 27, 2) := by decide +kernel
theorem dX6_readSpring_146 : decode cX6_readSpring 146 = .ok (.invokevirtual 136, 3) := by decide +kernel
theorem dX6_readSpring_149 : decode cX6_readSpring 149 = .ok (.ireturn, 1) := by decide +kernel
theorem dX6_readBar_0 : decode cX6_readBar 0 = .ok (.aload_n 0, 1) := by decide +kernel
theorem dX6_readBar_1 : decode cX6_readBar 1 = .ok (.getfield 26, 3) := by decide +kernel
theorem dX6_readBar_4 : decode cX6_readBar 4 = .ok (.getfield 184, 3) := by decide +kernel
theorem dX6_readBar_7 : decode cX6_readBar 7 = .ok (.iconst 4, 1) := by decide +kernel
theorem dX6_readBar_8 : decode cX6_readBar 8 = .ok (.if_icmp .lt 9, 3) := by decide +kernel
theorem dX6_readBar_11 : decode cX6_readBar 11 = .ok (.aload_n 0, 1) := by decide +kernel
theorem dX6_readBar_12 : decode cX6_readBar 12 = .ok (.iconst 5, 1) := by decide +kernel
theorem dX6_readBar_13 : decode cX6_readBar 13 = .ok (.invokevirtual 90, 3) := by decide +kernel
theorem dX6_readBar_16 : decode cX6_readBar 16 = .ok (.ireturn, 1) := by decide +kernel
theorem dX6_readBar_17 : decode cX6_readBar 17 = .ok (.aload_n 0, 1) := by decide +kernel
theorem dX6_readBar_18 : decode cX6_readBar 18 = .ok (.invokevirtual 130, 3) := by decide +kernel
theorem dX6_readBar_21 : decode cX6_readBar 21 = .ok (.aload_n 0, 1) := by decide +kernel
theorem dX6_readBar_22 : decode cX6_readBar 22 = .ok (.iconst 0, 1) := by decide +kernel
theorem dX6_readBar_23 : decode cX6_readBar 23 = .ok (.invokevirtual 158, 3) := by decide +kernel
theorem dX6_readBar_26 : decode cX6_readBar 26 = .ok (.ifCond .ne 5, 3) := by decide +kernel
theorem dX6_readBar_29 : decode cX6_readBar 29 = .ok (.iconst 0, 1) := by decide +kernel
theorem dX6_readBar_30 : decode cX6_readBar 30 = .ok (.ireturn, 1) := by decide +kernel
theorem dX6_readBar_31 : decode cX6_readBar 31 = .ok (.aload_n 0, 1) := by decide +kernel
theorem dX6_readBar_32 : decode cX6_readBar 32 = .ok (.getfield 26, 3) := by decide +kernel
theorem dX6_readBar_35 : decode cX6_readBar 35 = .ok (.getfield 187, 3) := by decide +kernel
theorem dX6_readBar_38 : decode cX6_readBar 38 = .ok (.aload_n 0, 1) := by decide +kernel
theorem dX6_readBar_39 : decode cX6_readBar 39 = .ok (.getfield 26, 3) := by decide +kernel
theorem dX6_readBar_42 : decode cX6_readBar 42 = .ok (.getfield 184, 3) := by decide +kernel
theorem dX6_readBar_45 : decode cX6_readBar 45 = .ok (.new 166, 3) := by decide +kernel
theorem dX6_readBar_48 : decode cX6_readBar 48 = .ok (.dup, 1) := by decide +kernel
theorem dX6_readBar_49 : decode cX6_readBar 49 = .ok (.aload_n 0, 1) := by decide +kernel
theorem dX6_readBar_50 : decode cX6_readBar 50 = .ok (.getfield 51, 3) := by decide +kernel
theorem dX6_readBar_53 : decode cX6_readBar 53 = .ok (.aload_n 0, 1) := by decide +kernel
theorem dX6_readBar_54 : decode cX6_readBar 54 = .ok (.getfield 55, 3) := by decide +kernel
theorem dX6_readBar_57 : decode cX6_readBar 57 = .ok (.invokestatic 168, 3) := by decide +kernel
theorem dX6_readBar_60 : decode cX6_readBar 60 = .ok (.invokespecial 174, 3) := by decide +kernel
theorem dX6_readBar_63 : decode cX6_readBar 63 = .ok (.aastore, 1) := by decide +kernel
theorem dX6_readBar_64 : decode cX6_readBar 64 = .ok (.aload_n 0, 1) := by decide +kernel
theorem dX6_readBar_65 : decode cX6_readBar 65 = .ok (.getfield 26, 3) := by decide +kernel
theorem dX6_readBar_68 : decode cX6_readBar 68 = .ok (.dup, 1) := by decide +kernel
theorem dX6_readBar_69 : decode cX6_readBar 69 = .ok (.getfield 184, 3) := by decide +kernel
theorem dX6_readBar_72 : decode cX6_readBar 72 = .ok (.iconst 1, 1) := by decide +kernel
theorem dX6_readBar_73 : decode cX6_readBar 73 = .ok (.iadd, 1) := by decide +kernel
theorem dX6_readBar_74 : decode cX6_readBar 74 = .ok (.putfield 184, 3) := by decide +kernel
theorem dX6_readBar_77 : decode cX6_readBar 77 = .ok (.aload_n 0, 1) := by decide +kernel
theorem dX6_readBar_78 : decode cX6_readBar 78 = .ok (.bipush 27, 2) := by decide +kernel
theorem dX6_readBar_80 : decode cX6_readBar 80 = .ok (.invokevirtual 136, 3) := by decide +kernel
theorem dX6_readBar_83 : decode cX6_readBar 83 = .ok (.ireturn, 1) := by decide +kernel
theorem dX6_readLife_0 : decode cX6_readLife 0 = .ok (.aload_n 0, 1) := by decide +kernel
theorem dX6_readLife_1 : decode cX6_readLife 1 = .ok (.getfield 41, 3) := by decide +kernel
theorem dX6_readLife_4 : decode cX6_readLife 4 = .ok (.ifCond .eq 9, 3) := by decide +kernel
theorem dX6_readLife_7 : decode cX6_readLife 7 = .ok (.aload_n 0, 1) := by decide +kernel
theorem dX6_readLife_8 : decode cX6_readLife 8 = .ok (.iconst 3, 1) := by decide +kernel
theorem dX6_readLife_9 : decode cX6_readLife 9 = .ok (.invokevirtual 90, 3) := by decide +kernel
theorem dX6_readLife_12 : decode cX6_readLife 12 = .ok (.ireturn, 1) := by decide +kernel
theorem dX6_readLife_13 : decode cX6_readLife 13 = .ok (.aload_n 0, 1) := by decide +kernel
theorem dX6_readLife_14 : decode cX6_readLife 14 = .ok (.iconst 1, 1) := by decide +kernel
theorem dX6_readLife_15 : decode cX6_readLife 15 = .ok (.putfield 41, 3) := by decide +kernel
theorem dX6_readLife_18 : decode cX6_readLife 18 = .ok (.aload_n 0, 1) := by decide +kernel
theorem dX6_readLife_19 : decode cX6_readLife 19 = .ok (.invokevirtual 130, 3) := by decide +kernel
theorem dX6_readLife_22 : decode cX6_readLife 22 = .ok (.aload_n 0, 1) := by decide +kernel
theorem dX6_readLife_23 : decode cX6_readLife 23 = .ok (.iconst 1, 1) := by decide +kernel
theorem dX6_readLife_24 : decode cX6_readLife 24 = .ok (.bipush 6, 2) := by decide +kernel
theorem dX6_readLife_26 : decode cX6_readLife 26 = .ok (.invokevirtual 139, 3) := by decide +kernel
theorem dX6_readLife_29 : decode cX6_readLife 29 = .ok (.ifCond .ne 5, 3) := by decide +kernel
theorem dX6_readLife_32 : decode cX6_readLife 32 = .ok (.iconst 0, 1) := by decide +kernel
theorem dX6_readLife_33 : decode cX6_readLife 33 = .ok (.ireturn, 1) := by decide +kernel
theorem dX6_readLife_34 : decode cX6_readLife 34 = .ok (.aload_n 0, 1) := by decide +kernel
theorem dX6_readLife_35 : decode cX6_readLife 35 = .ok (.getfield 26, 3) := by decide +kernel
theorem dX6_readLife_38 : decode cX6_readLife 38 = .ok (.aload_n 0, 1) := by decide +kernel
theorem dX6_readLife_39 : decode cX6_readLife 39 = .ok (.invokevirtual 146, 3) := by decide +kernel
theorem dX6_readLife_42 : decode cX6_readLife 42 = .ok (.putfield 190, 3) := by decide +kernel
theorem dX6_readLife_45 : decode cX6_readLife 45 = .ok (.aload_n 0, 1) := by decide +kernel
theorem dX6_readLife_46 : decode cX6_readLife 46 = .ok (.invokevirtual 130, 3) := by decide +kernel
theorem dX6_readLife_49 : decode cX6_readLife 49 = .ok (.aload_n 0, 1) := by decide +kernel
theorem dX6_readLife_50 : decode cX6_readLife 50 = .ok (.bipush 27, 2) := by decide +kernel
theorem dX6_readLife_52 : decode cX6_readLife 52 = .ok (.invokevirtual 136, 3) := by decide +kernel
theorem dX6_readLife_55 : decode cX6_readLife 55 = .ok (.ireturn, 1) := by decide +kernel
theorem dX6_readSprings_0 : decode cX6_readSprings 0 = .ok (.aload_n 0, 1) := by decide +kernel
theorem dX6_readSprings_1 : decode cX6_readSprings 1 = .ok (.getfield 45, 3) := by decide +kernel
theorem dX6_readSprings_4 : decode cX6_readSprings 4 = .ok (.ifCond .eq 9, 3) := by decide +kernel
theorem dX6_readSprings_7 : decode cX6_readSprings 7 = .ok (.aload_n 0, 1) := by decide +kernel
theorem dX6_readSprings_8 : decode cX6_readSprings 8 = .ok (.iconst 3, 1) := by decide +kernel
theorem dX6_readSprings_9 : decode cX6_readSprings 9 = .ok (.invokevirtual 90, 3) := by decide +kernel
theorem dX6_readSprings_12 : decode cX6_readSprings 12 = .ok (.ireturn, 1) := by decide +kernel
theorem dX6_readSprings_13 : decode cX6_readSprings 13 = .ok (.aload_n 0, 1) := by decide +kernel
theorem dX6_readSprings_14 : decode cX6_readSprings 14 = .ok (.iconst 1, 1) := by decide +kernel
theorem dX6_readSprings_15 : decode cX6_readSprings 15 = .ok (.putfield 45, 3) := by decide +kernel
theorem dX6_readSprings_18 : decode cX6_readSprings 18 = .ok (.aload_n 0, 1) := by decide +kernel
theorem dX6_readSprings_19 : decode cX6_readSprings 19 = .ok (.invokevirtual 130, 3) := by decide +kernel
theorem dX6_readSprings_22 : decode cX6_readSprings 22 = .ok (.aload_n 0, 1) := by decide +kernel
theorem dX6_readSprings_23 : decode cX6_readSprings 23 = .ok (.iconst 1, 1) := by decide +kernel
theorem dX6_readSprings_24 : decode cX6_readSprings 24 = .ok (.bipush 16, 2) := by decide +kernel
theorem dX6_readSprings_26 : decode cX6_readSprings 26 = .ok (.invokevirtual 139, 3) := by decide +kernel
theorem dX6_readSprings_29 : decode cX6_readSprings 29 = .ok (.ifCond .ne 5, 3) := by decide +kernel
theorem dX6_readSprings_32 : decode cX6_readSprings 32 = .ok (.iconst 0, 1) := by decide +kernel
theorem dX6_readSprings_33 : decode cX6_readSprings 33 = .ok (.ireturn, 1) := by decide +kernel
theorem dX6_readSprings_34 : decode cX6_readSprings 34 = .ok (.aload_n 0, 1) := by decide +kernel
theorem dX6_readSprings_35 : decode cX6_readSprings 35 = .ok (.getfield 26, 3) := by decide +kernel
theorem dX6_readSprings_38 : decode cX6_readSprings 38 = .ok (.aload_n 0, 1) := by decide +kernel
theorem dX6_readSprings_39 : decode cX6_readSprings 39 = .ok (.invokevirtual 146, 3) := by decide +kernel
theorem dX6_readSprings_42 : decode cX6_readSprings 42 = .ok (.putfield 193, 3) := by decide +kernel
theorem dX6_readSprings_45 : decode cX6_readSprings 45 = .ok (.aload_n 0, 1) := by decide +kernel
theorem dX6_readSprings_46 : decode cX6_readSprings 46 = .ok (.invokevirtual 130, 3) := by decide +kernel
theorem dX6_readSprings_49 : decode cX6_readSprings 49 = .ok (.aload_n 0, 1) := by decide +kernel
theorem dX6_readSprings_50 : decode cX6_readSprings 50 = .ok (.bipush 27, 2) := by decide +kernel
theorem dX6_readSprings_52 : decode cX6_readSprings 52 = .ok (.invokevirtual 136, 3) := by decide +kernel
theorem dX6_readSprings_55 : decode cX6_readSprings 55 = .ok (.ireturn, 1) := by decide +kernel
theorem dX6_take_0 : decode cX6_take 0 = .ok (.aload_n 0, 1) := by decide +kernel
theorem dX6_take_1 : decode cX6_take 1 = .ok (.getfield 17, 3) := by decide +kernel
theorem dX6_take_4 : decode cX6_take 4 = .ok (.iload_n 1, 1) := by decide +kernel
theorem dX6_take_5 : decode cX6_take 5 = .ok (.if_icmp .eq 9, 3) := by decide +kernel
theorem dX6_take_8 : decode cX6_take 8 = .ok (.aload_n 0, 1) := by decide +kernel
theorem dX6_take_9 : decode cX6_take 9 = .ok (.iconst 1, 1) := by decide +kernel
theorem dX6_take_10 : decode cX6_take 10 = .ok (.invokevirtual 90, 3) := by decide +kernel
theorem dX6_take_13 : decode cX6_take 13 = .ok (.ireturn, 1) := by decide +kernel
theorem dX6_take_14 : decode cX6_take 14 = .ok (.aload_n 0, 1) := by decide +kernel
theorem dX6_take_15 : decode cX6_take 15 = .ok (.invokevirtual 130, 3) := by decide +kernel
theorem dX6_take_18 : decode cX6_take 18 = .ok (.iconst 1, 1) := by decide +kernel
theorem dX6_take_19 : decode cX6_take 19 = .ok (.ireturn, 1) := by decide +kernel
theorem dX6_isNumber_0 : decode cX6_isNumber 0 = .ok (.aload_n 0, 1) := by decide +kernel
theorem dX6_isNumber_1 : decode cX6_isNumber 1 = .ok (.getfield 17, 3) := by decide +kernel
theorem dX6_isNumber_4 : decode cX6_isNumber 4 = .ok (.bipush 19, 2) := by decide +kernel
theorem dX6_isNumber_6 : decode cX6_isNumber 6 = .ok (.if_icmp .eq 9, 3) := by decide +kernel
theorem dX6_isNumber_9 : decode cX6_isNumber 9 = .ok (.aload_n 0, 1) := by decide +kernel
theorem dX6_isNumber_10 : decode cX6_isNumber 10 = .ok (.iconst 1, 1) := by decide +kernel
theorem dX6_isNumber_11 : decode cX6_isNumber 11 = .ok (.invokevirtual 90, 3) := by decide +kernel
theorem dX6_isNumber_14 : decode cX6_isNumber 14 = .ok (.ireturn, 1) := by decide +kernel
theorem dX6_isNumber_15 : decode cX6_isNumber 15 = .ok (.aload_n 0, 1) := by decide +kernel
theorem dX6_isNumber_16 : decode cX6_isNumber 16 = .ok (.invokevirtual 146, 3) := by decide +kernel
theorem dX6_isNumber_19 : decode cX6_isNumber 19 = .ok (.iload_n 1, 1) := by decide +kernel
theorem dX6_isNumber_20 : decode cX6_isNumber 20 = .ok (.if_icmp .lt 11, 3) := by decide +kernel
theorem dX6_isNumber_23 : decode cX6_isNumber 23 = .ok (.aload_n 0, 1) := by decide +kernel
theorem dX6_isNumber_24 : decode cX6_isNumber 24 = .ok (.invokevirtual 146, 3) := by decide +kernel
theorem dX6_isNumber_27 : decode cX6_isNumber 27 = .ok (.iload_n 2, 1) := by decide +kernel
theorem dX6_isNumber_28 : decode cX6_isNumber 28 = .ok (.if_icmp .le 11, 3) := by decide +kernel
theorem dX6_isNumber_31 : decode cX6_isNumber 31 = .ok (.aload_n 0, 1) := by decide +kernel
theorem dX6_isNumber_32 : decode cX6_isNumber 32 = .ok (.iconst 4, 1) := by decide +kernel
theorem dX6_isNumber_33 : decode cX6_isNumber 33 = .ok (.invokevirtual 90, 3) := by decide +kernel
theorem dX6_isNumber_36 : decode cX6_isNumber 36 = .ok (.ifCond .eq 7, 3) := by decide +kernel
theorem dX6_isNumber_39 : decode cX6_isNumber 39 = .ok (.iconst 1, 1) := by decide +kernel
theorem dX6_isNumber_40 : decode cX6_isNumber 40 = .ok (.goto 4, 3) := by decide +kernel
theorem dX6_isNumber_43 : decode cX6_isNumber 43 = .ok (.iconst 0, 1) := by decide +kernel
theorem dX6_isNumber_44 : decode cX6_isNumber 44 = .ok (.ireturn, 1) := by decide +kernel
theorem dX6_isNewName_0 : decode cX6_isNewName 0 = .ok (.aload_n 0, 1) := by decide +kernel
theorem dX6_isNewName_1 : decode cX6_isNewName 1 = .ok (.getfield 17, 3) := by decide +kernel
theorem dX6_isNewName_4 : decode cX6_isNewName 4 = .ok (.bipush 18, 2) := by decide +kernel
theorem dX6_isNewName_6 : decode cX6_isNewName 6 = .ok (.if_icmp .eq 9, 3) := by decide +kernel
theorem dX6_isNewName_9 : decode cX6_isNewName 9 = .ok (.aload_n 0, 1) := by decide +kernel
theorem dX6_isNewName_10 : decode cX6_isNewName 10 = .ok (.iconst 1, 1) := by decide +kernel
theorem dX6_isNewName_11 : decode cX6_isNewName 11 = .ok (.invokevirtual 90, 3) := by decide +kernel
theorem dX6_isNewName_14 : decode cX6_isNewName 14 = .ok (.ireturn, 1) := by decide +kernel
theorem dX6_isNewName_15 : decode cX6_isNewName 15 = .ok (.aload_n 0, 1) := by decide +kernel
theorem dX6_isNewName_16 : decode cX6_isNewName 16 = .ok (.aload_n 0, 1) := by decide +kernel
theorem dX6_isNewName_17 : decode cX6_isNewName 17 = .ok (.getfield 30, 3) := by decide +kernel
theorem dX6_isNewName_20 : decode cX6_isNewName 20 = .ok (.aload_n 0, 1) := by decide +kernel
theorem dX6_isNewName_21 : decode cX6_isNewName 21 = .ok (.getfield 26, 3) := by decide +kernel
theorem dX6_isNewName_24 : decode cX6_isNewName 24 = .ok (.getfield 127, 3) := by decide +kernel
theorem dX6_isNewName_27 : decode cX6_isNewName 27 = .ok (.invokevirtual 177, 3) := by decide +kernel
theorem dX6_isNewName_30 : decode cX6_isNewName 30 = .ok (.iconst (-1), 1) := by decide +kernel
theorem dX6_isNewName_31 : decode cX6_isNewName 31 = .ok (.if_icmp .ne 22, 3) := by decide +kernel
theorem dX6_isNewName_34 : decode cX6_isNewName 34 = .ok (.aload_n 0, 1) := by decide +kernel
theorem dX6_isNewName_35 : decode cX6_isNewName 35 = .ok (.aload_n 0, 1) := by decide +kernel
theorem dX6_isNewName_36 : decode cX6_isNewName 36 = .ok (.getfield 34, 3) := by decide +kernel
theorem dX6_isNewName_39 : decode cX6_isNewName 39 = .ok (.aload_n 0, 1) := by decide +kernel
theorem dX6_isNewName_40 : decode cX6_isNewName 40 = .ok (.getfield 26, 3) := by decide +kernel
theorem dX6_isNewName_43 : decode cX6_isNewName 43 = .ok (.getfield 83, 3) := by decide +kernel
theorem dX6_isNewName_46 : decode cX6_isNewName 46 = .ok (.invokevirtual 177, 3) := by decide +kernel
theorem dX6_isNewName_49 : decode cX6_isNewName 49 = .ok (.iconst (-1), 1) := by decide +kernel
theorem dX6_isNewName_50 : decode cX6_isNewName 50 = .ok (.if_icmp .eq 7, 3) := by decide +kernel
theorem dX6_isNewName_53 : decode cX6_isNewName 53 = .ok (.iconst 1, 1) := by decide +kernel
theorem dX6_isNewName_54 : decode cX6_isNewName 54 = .ok (.goto 4, 3) := by decide +kernel
theorem dX6_isNewName_57 : decode cX6_isNewName 57 = .ok (.iconst 0, 1) := by decide +kernel
theorem dX6_isNewName_58 : decode cX6_isNewName 58 = .ok (.istore_n 1, 1) := by decide +kernel
theorem dX6_isNewName_59 : decode cX6_isNewName 59 = .ok (.iload_n 1, 1) := by decide +kernel
theorem dX6_isNewName_60 : decode cX6_isNewName 60 = .ok (.ifCond .eq 11, 3) := by decide +kernel
theorem dX6_isNewName_63 : decode cX6_isNewName 63 = .ok (.aload_n 0, 1) := by decide +kernel
theorem dX6_isNewName_64 : decode cX6_isNewName 64 = .ok (.iconst 3, 1) := by decide +kernel
theorem dX6_isNewName_65 : decode cX6_isNewName 65 = .ok (.invokevirtual 90, 3) := by decide +kernel
theorem dX6_isNewName_68 : decode cX6_isNewName 68 = .ok (.ifCond .eq 7, 3) := by decide +kernel
theorem dX6_isNewName_71 : decode cX6_isNewName 71 = .ok (.iconst 1, 1) := by decide +kernel
theorem dX6_isNewName_72 : decode cX6_isNewName 72 = .ok (.goto 4, 3) := by decide +kernel
theorem dX6_isNewName_75 : decode cX6_isNewName 75 = .ok (.iconst 0, 1) := by decide +kernel
theorem dX6_isNewName_76 : decode cX6_isNewName 76 = .ok (.ireturn, 1) := by decide +kernel
theorem dX6_findName_0 : decode cX6_findName 0 = .ok (.iconst 0, 1) := by decide +kernel
theorem dX6_findName_1 : decode cX6_findName 1 = .ok (.istore_n 3, 1) := by decide +kernel
theorem dX6_findName_2 : decode cX6_findName 2 = .ok (.iload_n 3, 1) := by decide +kernel
theorem dX6_findName_3 : decode cX6_findName 3 = .ok (.iload_n 2, 1) := by decide +kernel
theorem dX6_findName_4 : decode cX6_findName 4 = .ok (.if_icmp .ge 30, 3) := by decide +kernel
theorem dX6_findName_7 : decode cX6_findName 7 = .ok (.aload_n 1, 1) := by decide +kernel
theorem dX6_findName_8 : decode cX6_findName 8 = .ok (.iload_n 3, 1) := by decide +kernel
theorem dX6_findName_9 : decode cX6_findName 9 = .ok (.laload, 1) := by decide +kernel
theorem dX6_findName_10 : decode cX6_findName 10 = .ok (.aload_n 0, 1) := by decide +kernel
theorem dX6_findName_11 : decode cX6_findName 11 = .ok (.getfield 61, 3) := by decide +kernel
theorem dX6_findName_14 : decode cX6_findName 14 = .ok (.getfield 103, 3) := by decide +kernel
theorem dX6_findName_17 : decode cX6_findName 17 = .ok (.aload_n 0, 1) := by decide +kernel
theorem dX6_findName_18 : decode cX6_findName 18 = .ok (.getfield 9, 3) := by decide +kernel
theorem dX6_findName_21 : decode cX6_findName 21 = .ok (.laload, 1) := by decide +kernel
theorem dX6_findName_22 : decode cX6_findName 22 = .ok (.lcmp, 1) := by decide +kernel
theorem dX6_findName_23 : decode cX6_findName 23 = .ok (.ifCond .ne 5, 3) := by decide +kernel
theorem dX6_findName_26 : decode cX6_findName 26 = .ok (.iload_n 3, 1) := by decide +kernel
theorem dX6_findName_27 : decode cX6_findName 27 = .ok (.ireturn, 1) := by decide +kernel
theorem dX6_findName_28 : decode cX6_findName 28 = .ok (.iinc 3 1, 3) := by decide +kernel
theorem dX6_findName_31 : decode cX6_findName 31 = .ok (.goto (-29), 3) := by decide +kernel
theorem dX6_findName_34 : decode cX6_findName 34 = .ok (.iconst (-1), 1) := by decide +kernel
theorem dX6_findName_35 : decode cX6_findName 35 = .ok (.ireturn, 1) := by decide +kernel
theorem dX6_readFormula_0 : decode cX6_readFormula 0 = .ok (.aload_n 0, 1) := by decide +kernel
theorem dX6_readFormula_1 : decode cX6_readFormula 1 = .ok (.iload_n 1, 1) := by decide +kernel
theorem dX6_readFormula_2 : decode cX6_readFormula 2 = .ok (.putfield 48, 3) := by decide +kernel
theorem dX6_readFormula_5 : decode cX6_readFormula 5 = .ok (.aload_n 0, 1) := by decide +kernel
theorem dX6_readFormula_6 : decode cX6_readFormula 6 = .ok (.iconst 0, 1) := by decide +kernel
theorem dX6_readFormula_7 : decode cX6_readFormula 7 = .ok (.putfield 55, 3) := by decide +kernel
theorem dX6_readFormula_10 : decode cX6_readFormula 10 = .ok (.aload_n 0, 1) := by decide +kernel
theorem dX6_readFormula_11 : decode cX6_readFormula 11 = .ok (.iconst 0, 1) := by decide +kernel
theorem dX6_readFormula_12 : decode cX6_readFormula 12 = .ok (.invokevirtual 196, 3) := by decide +kernel
theorem dX6_readFormula_15 : decode cX6_readFormula 15 = .ok (.ireturn, 1) := by decide +kernel
theorem dX6_addStep_0 : decode cX6_addStep 0 = .ok (.aload_n 0, 1) := by decide +kernel
theorem dX6_addStep_1 : decode cX6_addStep 1 = .ok (.getfield 55, 3) := by decide +kernel
theorem dX6_addStep_4 : decode cX6_addStep 4 = .ok (.aload_n 0, 1) := by decide +kernel
theorem dX6_addStep_5 : decode cX6_addStep 5 = .ok (.getfield 51, 3) := by decide +kernel
theorem dX6_addStep_8 : decode cX6_addStep 8 = .ok (.arraylength, 1) := by decide +kernel
theorem dX6_addStep_9 : decode cX6_addStep 9 = .ok (.if_icmp .ge 28, 3) := by decide +kernel
theorem dX6_addStep_12 : decode cX6_addStep 12 = .ok (.aload_n 0, 1) := by decide +kernel
theorem dX6_addStep_13 : decode cX6_addStep 13 = .ok (.getfield 51, 3) := by decide +kernel
theorem dX6_addStep_16 : decode cX6_addStep 16 = .ok (.aload_n 0, 1) := by decide +kernel
theorem dX6_addStep_17 : decode cX6_addStep 17 = .ok (.getfield 55, 3) := by decide +kernel
theorem dX6_addStep_20 : decode cX6_addStep 20 = .ok (.iload_n 1, 1) := by decide +kernel
theorem dX6_addStep_21 : decode cX6_addStep 21 = .ok (.bipush 16, 2) := by decide +kernel
theorem dX6_addStep_23 : decode cX6_addStep 23 = .ok (.iload_n 2, 1) := by decide +kernel
theorem dX6_addStep_24 : decode cX6_addStep 24 = .ok (.imul, 1) := by decide +kernel
theorem dX6_addStep_25 : decode cX6_addStep 25 = .ok (.iadd, 1) := by decide +kernel
theorem dX6_addStep_26 : decode cX6_addStep 26 = .ok (.iastore, 1) := by decide +kernel
theorem dX6_addStep_27 : decode cX6_addStep 27 = .ok (.aload_n 0, 1) := by decide +kernel
theorem dX6_addStep_28 : decode cX6_addStep 28 = .ok (.dup, 1) := by decide +kernel
theorem dX6_addStep_29 : decode cX6_addStep 29 = .ok (.getfield 55, 3) := by decide +kernel
theorem dX6_addStep_32 : decode cX6_addStep 32 = .ok (.iconst 1, 1) := by decide +kernel
theorem dX6_addStep_33 : decode cX6_addStep 33 = .ok (.iadd, 1) := by decide +kernel
theorem dX6_addStep_34 : decode cX6_addStep 34 = .ok (.putfield 55, 3) := by decide +kernel
theorem dX6_addStep_37 : decode cX6_addStep 37 = .ok (.return_, 1) := by decide +kernel
theorem dX6_readTests_0 : decode cX6_readTests 0 = .ok (.aload_n 0, 1) := by decide +kernel
theorem dX6_readTests_1 : decode cX6_readTests 1 = .ok (.iload_n 1, 1) := by decide +kernel
theorem dX6_readTests_2 : decode cX6_readTests 2 = .ok (.invokevirtual 199, 3) := by decide +kernel
theorem dX6_readTests_5 : decode cX6_readTests 5 = .ok (.istore_n 2, 1) := by decide +kernel
theorem dX6_readTests_6 : decode cX6_readTests 6 = .ok (.iconst 0, 1) := by decide +kernel
theorem dX6_readTests_7 : decode cX6_readTests 7 = .ok (.istore_n 3, 1) := by decide +kernel
theorem dX6_readTests_8 : decode cX6_readTests 8 = .ok (.iload_n 3, 1) := by decide +kernel
theorem dX6_readTests_9 : decode cX6_readTests 9 = .ok (.sipush 1000, 3) := by decide +kernel
theorem dX6_readTests_12 : decode cX6_readTests 12 = .ok (.if_icmp .ge 65, 3) := by decide +kernel
theorem dX6_readTests_15 : decode cX6_readTests 15 = .ok (.iload_n 2, 1) := by decide +kernel
theorem dX6_readTests_16 : decode cX6_readTests 16 = .ok (.ifCond .eq 61, 3) := by decide +kernel
theorem dX6_readTests_19 : decode cX6_readTests 19 = .ok (.aload_n 0, 1) := by decide +kernel
theorem dX6_readTests_20 : decode cX6_readTests 20 = .ok (.getfield 17, 3) := by decide +kernel
theorem dX6_readTests_23 : decode cX6_readTests 23 = .ok (.bipush 15, 2) := by decide +kernel
theorem dX6_readTests_25 : decode cX6_readTests 25 = .ok (.if_icmp .eq 12, 3) := by decide +kernel
theorem dX6_readTests_28 : decode cX6_readTests 28 = .ok (.aload_n 0, 1) := by decide +kernel
theorem dX6_readTests_29 : decode cX6_readTests 29 = .ok (.getfield 17, 3) := by decide +kernel
theorem dX6_readTests_32 : decode cX6_readTests 32 = .ok (.bipush 16, 2) := by decide +kernel
theorem dX6_readTests_34 : decode cX6_readTests 34 = .ok (.if_icmp .ne 43, 3) := by decide +kernel
theorem dX6_readTests_37 : decode cX6_readTests 37 = .ok (.aload_n 0, 1) := by decide +kernel
theorem dX6_readTests_38 : decode cX6_readTests 38 = .ok (.getfield 17, 3) := by decide +kernel
theorem dX6_readTests_41 : decode cX6_readTests 41 = .ok (.bipush 15, 2) := by decide +kernel
theorem dX6_readTests_43 : decode cX6_readTests 43 = .ok (.if_icmp .ne 7, 3) := by decide +kernel
theorem dX6_readTests_46 : decode cX6_readTests 46 = .ok (.iconst 5, 1) := by decide +kernel
theorem dX6_readTests_47 : decode cX6_readTests 47 = .ok (.goto 5, 3) := by decide +kernel
theorem dX6_readTests_50 : decode cX6_readTests 50 = .ok (.bipush 6, 2) := by decide +kernel
theorem dX6_readTests_52 : decode cX6_readTests 52 = .ok (.istore 4, 2) := by decide +kernel
theorem dX6_readTests_54 : decode cX6_readTests 54 = .ok (.aload_n 0, 1) := by decide +kernel
theorem dX6_readTests_55 : decode cX6_readTests 55 = .ok (.invokevirtual 130, 3) := by decide +kernel
theorem dX6_readTests_58 : decode cX6_readTests 58 = .ok (.aload_n 0, 1) := by decide +kernel
theorem dX6_readTests_59 : decode cX6_readTests 59 = .ok (.iload_n 1, 1) := by decide +kernel
theorem dX6_readTests_60 : decode cX6_readTests 60 = .ok (.invokevirtual 199, 3) := by decide +kernel
theorem dX6_readTests_63 : decode cX6_readTests 63 = .ok (.istore_n 2, 1) := by decide +kernel
theorem dX6_readTests_64 : decode cX6_readTests 64 = .ok (.aload_n 0, 1) := by decide +kernel
theorem dX6_readTests_65 : decode cX6_readTests 65 = .ok (.iload 4, 2) := by decide +kernel
theorem dX6_readTests_67 : decode cX6_readTests 67 = .ok (.iconst 0, 1) := by decide +kernel
theorem dX6_readTests_68 : decode cX6_readTests 68 = .ok (.invokevirtual 202, 3) := by decide +kernel
theorem dX6_readTests_71 : decode cX6_readTests 71 = .ok (.iinc 3 1, 3) := by decide +kernel
theorem dX6_readTests_74 : decode cX6_readTests 74 = .ok (.goto (-66), 3) := by decide +kernel
theorem dX6_readTests_77 : decode cX6_readTests 77 = .ok (.iload_n 2, 1) := by decide +kernel
theorem dX6_readTests_78 : decode cX6_readTests 78 = .ok (.ireturn, 1) := by decide +kernel
theorem dX6_readTest_0 : decode cX6_readTest 0 = .ok (.aload_n 0, 1) := by decide +kernel
theorem dX6_readTest_1 : decode cX6_readTest 1 = .ok (.iload_n 1, 1) := by decide +kernel
theorem dX6_readTest_2 : decode cX6_readTest 2 = .ok (.invokevirtual 206, 3) := by decide +kernel
theorem dX6_readTest_5 : decode cX6_readTest 5 = .ok (.ifCond .ne 5, 3) := by decide +kernel
theorem dX6_readTest_8 : decode cX6_readTest 8 = .ok (.iconst 0, 1) := by decide +kernel
theorem dX6_readTest_9 : decode cX6_readTest 9 = .ok (.ireturn, 1) := by decide +kernel
theorem dX6_readTest_10 : decode cX6_readTest 10 = .ok (.aload_n 0, 1) := by decide +kernel
theorem dX6_readTest_11 : decode cX6_readTest 11 = .ok (.getfield 17, 3) := by decide +kernel
theorem dX6_readTest_14 : decode cX6_readTest 14 = .ok (.bipush 22, 2) := by decide +kernel
theorem dX6_readTest_16 : decode cX6_readTest 16 = .ok (.if_icmp .eq 14, 3) := by decide +kernel
theorem dX6_readTest_19 : decode cX6_readTest 19 = .ok (.aload_n 0, 1) := by decide +kernel
theorem dX6_readTest_20 : decode cX6_readTest 20 = .ok (.getfield 17, 3) := by decide +kernel
theorem dX6_readTest_23 : decode cX6_readTest 23 = .ok (.bipush 23, 2) := by decide +kernel
theorem dX6_readTest_25 : decode cX6_readTest 25 = .ok (.if_icmp .eq 5, 3) := by decide +kernel
theorem dX6_readTest_28 : decode cX6_readTest 28 = .ok (.iconst 1, 1) := by decide +kernel
theorem dX6_readTest_29 : decode cX6_readTest 29 = .ok (.ireturn, 1) := by decide +kernel
theorem dX6_readTest_30 : decode cX6_readTest 30 = .ok (.aload_n 0, 1) := by decide +kernel
theorem dX6_readTest_31 : decode cX6_readTest 31 = .ok (.getfield 17, 3) := by decide +kernel
theorem dX6_readTest_34 : decode cX6_readTest 34 = .ok (.bipush 22, 2) := by decide +kernel
theorem dX6_readTest_36 : decode cX6_readTest 36 = .ok (.if_icmp .ne 8, 3) := by decide +kernel
theorem dX6_readTest_39 : decode cX6_readTest 39 = .ok (.bipush 7, 2) := by decide +kernel
theorem dX6_readTest_41 : decode cX6_readTest 41 = .ok (.goto 5, 3) := by decide +kernel
theorem dX6_readTest_44 : decode cX6_readTest 44 = .ok (.bipush 8, 2) := by decide +kernel
theorem dX6_readTest_46 : decode cX6_readTest 46 = .ok (.istore_n 2, 1) := by decide +kernel
theorem dX6_readTest_47 : decode cX6_readTest 47 = .ok (.aload_n 0, 1) := by decide +kernel
theorem dX6_readTest_48 : decode cX6_readTest 48 = .ok (.invokevirtual 130, 3) := by decide +kernel
theorem dX6_readTest_51 : decode cX6_readTest 51 = .ok (.aload_n 0, 1) := by decide +kernel
theorem dX6_readTest_52 : decode cX6_readTest 52 = .ok (.iload_n 1, 1) := by decide +kernel
theorem dX6_readTest_53 : decode cX6_readTest 53 = .ok (.invokevirtual 206, 3) := by decide +kernel
theorem dX6_readTest_56 : decode cX6_readTest 56 = .ok (.istore_n 3, 1) := by decide +kernel
theorem dX6_readTest_57 : decode cX6_readTest 57 = .ok (.aload_n 0, 1) := by decide +kernel
theorem dX6_readTest_58 : decode cX6_readTest 58 = .ok (.iload_n 2, 1) := by decide +kernel
theorem dX6_readTest_59 : decode cX6_readTest 59 = .ok (.iconst 0, 1) := by decide +kernel
theorem dX6_readTest_60 : decode cX6_readTest 60 = .ok (.invokevirtual 202, 3) := by decide +kernel
theorem dX6_readTest_63 : decode cX6_readTest 63 = .ok (.iload_n 3, 1) := by decide +kernel
theorem dX6_readTest_64 : decode cX6_readTest 64 = .ok (.ireturn, 1) := by decide +kernel
theorem dX6_readSum_0 : decode cX6_readSum 0 = .ok (.aload_n 0, 1) := by decide +kernel
theorem dX6_readSum_1 : decode cX6_readSum 1 = .ok (.iload_n 1, 1) := by decide +kernel
theorem dX6_readSum_2 : decode cX6_readSum 2 = .ok (.invokevirtual 209, 3) := by decide +kernel
theorem dX6_readSum_5 : decode cX6_readSum 5 = .ok (.istore_n 2, 1) := by decide +kernel
theorem dX6_readSum_6 : decode cX6_readSum 6 = .ok (.iconst 0, 1) := by decide +kernel
theorem dX6_readSum_7 : decode cX6_readSum 7 = .ok (.istore_n 3, 1) := by decide +kernel
theorem dX6_readSum_8 : decode cX6_readSum 8 = .ok (.iload_n 3, 1) := by decide +kernel
theorem dX6_readSum_9 : decode cX6_readSum 9 = .ok (.sipush 1000, 3) := by decide +kernel
theorem dX6_readSum_12 : decode cX6_readSum 12 = .ok (.if_icmp .ge 66, 3) := by decide +kernel
theorem dX6_readSum_15 : decode cX6_readSum 15 = .ok (.iload_n 2, 1) := by decide +kernel
theorem dX6_readSum_16 : decode cX6_readSum 16 = .ok (.ifCond .eq 62, 3) := by decide +kernel
theorem dX6_readSum_19 : decode cX6_readSum 19 = .ok (.aload_n 0, 1) := by decide +kernel
theorem dX6_readSum_20 : decode cX6_readSum 20 = .ok (.getfield 17, 3) := by decide +kernel
theorem dX6_readSum_23 : decode cX6_readSum 23 = .ok (.bipush 24, 2) := by decide +kernel
theorem dX6_readSum_25 : decode cX6_readSum 25 = .ok (.if_icmp .eq 12, 3) := by decide +kernel
theorem dX6_readSum_28 : decode cX6_readSum 28 = .ok (.aload_n 0, 1) := by decide +kernel
theorem dX6_readSum_29 : decode cX6_readSum 29 = .ok (.getfield 17, 3) := by decide +kernel
theorem dX6_readSum_32 : decode cX6_readSum 32 = .ok (.bipush 25, 2) := by decide +kernel
theorem dX6_readSum_34 : decode cX6_readSum 34 = .ok (.if_icmp .ne 44, 3) := by decide +kernel
theorem dX6_readSum_37 : decode cX6_readSum 37 = .ok (.aload_n 0, 1) := by decide +kernel
theorem dX6_readSum_38 : decode cX6_readSum 38 = .ok (.getfield 17, 3) := by decide +kernel
theorem dX6_readSum_41 : decode cX6_readSum 41 = .ok (.bipush 24, 2) := by decide +kernel
theorem dX6_readSum_43 : decode cX6_readSum 43 = .ok (.if_icmp .ne 8, 3) := by decide +kernel
theorem dX6_readSum_46 : decode cX6_readSum 46 = .ok (.bipush 9, 2) := by decide +kernel
theorem dX6_readSum_48 : decode cX6_readSum 48 = .ok (.goto 5, 3) := by decide +kernel
theorem dX6_readSum_51 : decode cX6_readSum 51 = .ok (.bipush 10, 2) := by decide +kernel
theorem dX6_readSum_53 : decode cX6_readSum 53 = .ok (.istore 4, 2) := by decide +kernel
theorem dX6_readSum_55 : decode cX6_readSum 55 = .ok (.aload_n 0, 1) := by decide +kernel
theorem dX6_readSum_56 : decode cX6_readSum 56 = .ok (.invokevirtual 130, 3) := by decide +kernel
theorem dX6_readSum_59 : decode cX6_readSum 59 = .ok (.aload_n 0, 1) := by decide +kernel
theorem dX6_readSum_60 : decode cX6_readSum 60 = .ok (.iload_n 1, 1) := by decide +kernel
theorem dX6_readSum_61 : decode cX6_readSum 61 = .ok (.invokevirtual 209, 3) := by decide +kernel
theorem dX6_readSum_64 : decode cX6_readSum 64 = .ok (.istore_n 2, 1) := by decide +kernel
theorem dX6_readSum_65 : decode cX6_readSum 65 = .ok (.aload_n 0, 1) := by decide +kernel
theorem dX6_readSum_66 : decode cX6_readSum 66 = .ok (.iload 4, 2) := by decide +kernel
theorem dX6_readSum_68 : decode cX6_readSum 68 = .ok (.iconst 0, 1) := by decide +kernel
theorem dX6_readSum_69 : decode cX6_readSum 69 = .ok (.invokevirtual 202, 3) := by decide +kernel
theorem dX6_readSum_72 : decode cX6_readSum 72 = .ok (.iinc 3 1, 3) := by decide +kernel
theorem dX6_readSum_75 : decode cX6_readSum 75 = .ok (.goto (-67), 3) := by decide +kernel
theorem dX6_readSum_78 : decode cX6_readSum 78 = .ok (.iload_n 2, 1) := by decide +kernel
theorem dX6_readSum_79 : decode cX6_readSum 79 = .ok (.ireturn, 1) := by decide +kernel
theorem dX6_readProduct_0 : decode cX6_readProduct 0 = .ok (.aload_n 0, 1) := by decide +kernel
theorem dX6_readProduct_1 : decode cX6_readProduct 1 = .ok (.iload_n 1, 1) := by decide +kernel
theorem dX6_readProduct_2 : decode cX6_readProduct 2 = .ok (.invokevirtual 212, 3) := by decide +kernel
theorem dX6_readProduct_5 : decode cX6_readProduct 5 = .ok (.istore_n 2, 1) := by decide +kernel
theorem dX6_readProduct_6 : decode cX6_readProduct 6 = .ok (.iconst 0, 1) := by decide +kernel
theorem dX6_readProduct_7 : decode cX6_readProduct 7 = .ok (.istore_n 3, 1) := by decide +kernel
theorem dX6_readProduct_8 : decode cX6_readProduct 8 = .ok (.iload_n 3, 1) := by decide +kernel
theorem dX6_readProduct_9 : decode cX6_readProduct 9 = .ok (.sipush 1000, 3) := by decide +kernel
theorem dX6_readProduct_12 : decode cX6_readProduct 12 = .ok (.if_icmp .ge 39, 3) := by decide +kernel
theorem dX6_readProduct_15 : decode cX6_readProduct 15 = .ok (.iload_n 2, 1) := by decide +kernel
theorem dX6_readProduct_16 : decode cX6_readProduct 16 = .ok (.ifCond .eq 35, 3) := by decide +kernel
theorem dX6_readProduct_19 : decode cX6_readProduct 19 = .ok (.aload_n 0, 1) := by decide +kernel
theorem dX6_readProduct_20 : decode cX6_readProduct 20 = .ok (.getfield 17, 3) := by decide +kernel
theorem dX6_readProduct_23 : decode cX6_readProduct 23 = .ok (.bipush 26, 2) := by decide +kernel
theorem dX6_readProduct_25 : decode cX6_readProduct 25 = .ok (.if_icmp .ne 26, 3) := by decide +kernel
theorem dX6_readProduct_28 : decode cX6_readProduct 28 = .ok (.aload_n 0, 1) := by decide +kernel
theorem dX6_readProduct_29 : decode cX6_readProduct 29 = .ok (.invokevirtual 130, 3) := by decide +kernel
theorem dX6_readProduct_32 : decode cX6_readProduct 32 = .ok (.aload_n 0, 1) := by decide +kernel
theorem dX6_readProduct_33 : decode cX6_readProduct 33 = .ok (.iload_n 1, 1) := by decide +kernel
theorem dX6_readProduct_34 : decode cX6_readProduct 34 = .ok (.invokevirtual 212, 3) := by decide +kernel
theorem dX6_readProduct_37 : decode cX6_readProduct 37 = .ok (.istore_n 2, 1) := by decide +kernel
theorem dX6_readProduct_38 : decode cX6_readProduct 38 = .ok (.aload_n 0, 1) := by decide +kernel
theorem dX6_readProduct_39 : decode cX6_readProduct 39 = .ok (.bipush 11, 2) := by decide +kernel
theorem dX6_readProduct_41 : decode cX6_readProduct 41 = .ok (.iconst 0, 1) := by decide +kernel
theorem dX6_readProduct_42 : decode cX6_readProduct 42 = .ok (.invokevirtual 202, 3) := by decide +kernel
theorem dX6_readProduct_45 : decode cX6_readProduct 45 = .ok (.iinc 3 1, 3) := by decide +kernel
theorem dX6_readProduct_48 : decode cX6_readProduct 48 = .ok (.goto (-40), 3) := by decide +kernel
theorem dX6_readProduct_51 : decode cX6_readProduct 51 = .ok (.iload_n 2, 1) := by decide +kernel
theorem dX6_readProduct_52 : decode cX6_readProduct 52 = .ok (.ireturn, 1) := by decide +kernel
theorem dX6_readPart_0 : decode cX6_readPart 0 = .ok (.aload_n 0, 1) := by decide +kernel
theorem dX6_readPart_1 : decode cX6_readPart 1 = .ok (.invokevirtual 215, 3) := by decide +kernel
theorem dX6_readPart_4 : decode cX6_readPart 4 = .ok (.ifCond .ne 9, 3) := by decide +kernel
theorem dX6_readPart_7 : decode cX6_readPart 7 = .ok (.aload_n 0, 1) := by decide +kernel
theorem dX6_readPart_8 : decode cX6_readPart 8 = .ok (.iconst 1, 1) := by decide +kernel
theorem dX6_readPart_9 : decode cX6_readPart 9 = .ok (.invokevirtual 90, 3) := by decide +kernel
theorem dX6_readPart_12 : decode cX6_readPart 12 = .ok (.ireturn, 1) := by decide +kernel
theorem dX6_readPart_13 : decode cX6_readPart 13 = .ok (.aload_n 0, 1) := by decide +kernel
theorem dX6_readPart_14 : decode cX6_readPart 14 = .ok (.getfield 17, 3) := by decide +kernel
theorem dX6_readPart_17 : decode cX6_readPart 17 = .ok (.bipush 18, 2) := by decide +kernel
theorem dX6_readPart_19 : decode cX6_readPart 19 = .ok (.if_icmp .ne 21, 3) := by decide +kernel
theorem dX6_readPart_22 : decode cX6_readPart 22 = .ok (.aload_n 0, 1) := by decide +kernel
theorem dX6_readPart_23 : decode cX6_readPart 23 = .ok (.aload_n 0, 1) := by decide +kernel
theorem dX6_readPart_24 : decode cX6_readPart 24 = .ok (.getfield 30, 3) := by decide +kernel
theorem dX6_readPart_27 : decode cX6_readPart 27 = .ok (.aload_n 0, 1) := by decide +kernel
theorem dX6_readPart_28 : decode cX6_readPart 28 = .ok (.getfield 26, 3) := by decide +kernel
theorem dX6_readPart_31 : decode cX6_readPart 31 = .ok (.getfield 127, 3) := by decide +kernel
theorem dX6_readPart_34 : decode cX6_readPart 34 = .ok (.invokevirtual 177, 3) := by decide +kernel
theorem dX6_readPart_37 : decode cX6_readPart 37 = .ok (.goto 4, 3) := by decide +kernel
theorem dX6_readPart_40 : decode cX6_readPart 40 = .ok (.iconst (-1), 1) := by decide +kernel
theorem dX6_readPart_41 : decode cX6_readPart 41 = .ok (.istore_n 2, 1) := by decide +kernel
theorem dX6_readPart_42 : decode cX6_readPart 42 = .ok (.aload_n 0, 1) := by decide +kernel
theorem dX6_readPart_43 : decode cX6_readPart 43 = .ok (.getfield 17, 3) := by decide +kernel
theorem dX6_readPart_46 : decode cX6_readPart 46 = .ok (.bipush 18, 2) := by decide +kernel
theorem dX6_readPart_48 : decode cX6_readPart 48 = .ok (.if_icmp .ne 14, 3) := by decide +kernel
theorem dX6_readPart_51 : decode cX6_readPart 51 = .ok (.iload_n 2, 1) := by decide +kernel
theorem dX6_readPart_52 : decode cX6_readPart 52 = .ok (.iconst (-1), 1) := by decide +kernel
theorem dX6_readPart_53 : decode cX6_readPart 53 = .ok (.if_icmp .ne 9, 3) := by decide +kernel
theorem dX6_readPart_56 : decode cX6_readPart 56 = .ok (.aload_n 0, 1) := by decide +kernel
theorem dX6_readPart_57 : decode cX6_readPart 57 = .ok (.iconst 2, 1) := by decide +kernel
theorem dX6_readPart_58 : decode cX6_readPart 58 = .ok (.invokevirtual 90, 3) := by decide +kernel
theorem dX6_readPart_61 : decode cX6_readPart 61 = .ok (.ireturn, 1) := by decide +kernel
theorem dX6_readPart_62 : decode cX6_readPart 62 = .ok (.iload_n 1, 1) := by decide +kernel
theorem dX6_readPart_63 : decode cX6_readPart 63 = .ok (.iconst 5, 1) := by decide +kernel
theorem dX6_readPart_64 : decode cX6_readPart 64 = .ok (.if_icmp .lt 9, 3) := by decide +kernel
theorem dX6_readPart_67 : decode cX6_readPart 67 = .ok (.aload_n 0, 1) := by decide +kernel
theorem dX6_readPart_68 : decode cX6_readPart 68 = .ok (.iconst 5, 1) := by decide +kernel
theorem dX6_readPart_69 : decode cX6_readPart 69 = .ok (.invokevirtual 90, 3) := by decide +kernel
theorem dX6_readPart_72 : decode cX6_readPart 72 = .ok (.ireturn, 1) := by decide +kernel
theorem dX6_readPart_73 : decode cX6_readPart 73 = .ok (.aload_n 0, 1) := by decide +kernel
theorem dX6_readPart_74 : decode cX6_readPart 74 = .ok (.getfield 17, 3) := by decide +kernel
theorem dX6_readPart_77 : decode cX6_readPart 77 = .ok (.bipush 14, 2) := by decide +kernel
theorem dX6_readPart_79 : decode cX6_readPart 79 = .ok (.if_icmp .ne 23, 3) := by decide +kernel
theorem dX6_readPart_82 : decode cX6_readPart 82 = .ok (.aload_n 0, 1) := by decide +kernel
theorem dX6_readPart_83 : decode cX6_readPart 83 = .ok (.invokevirtual 130, 3) := by decide +kernel
theorem dX6_readPart_86 : decode cX6_readPart 86 = .ok (.aload_n 0, 1) := by decide +kernel
theorem dX6_readPart_87 : decode cX6_readPart 87 = .ok (.iload_n 1, 1) := by decide +kernel
theorem dX6_readPart_88 : decode cX6_readPart 88 = .ok (.iconst 1, 1) := by decide +kernel
theorem dX6_readPart_89 : decode cX6_readPart 89 = .ok (.iadd, 1) := by decide +kernel
theorem dX6_readPart_90 : decode cX6_readPart 90 = .ok (.invokevirtual 212, 3) := by decide +kernel
theorem dX6_readPart_93 : decode cX6_readPart 93 = .ok (.istore_n 3, 1) := by decide +kernel
theorem dX6_readPart_94 : decode cX6_readPart 94 = .ok (.aload_n 0, 1) := by decide +kernel
theorem dX6_readPart_95 : decode cX6_readPart 95 = .ok (.iconst 4, 1) := by decide +kernel
theorem dX6_readPart_96 : decode cX6_readPart 96 = .ok (.iconst 0, 1) := by decide +kernel
theorem dX6_readPart_97 : decode cX6_readPart 97 = .ok (.invokevirtual 202, 3) := by decide +kernel
theorem dX6_readPart_100 : decode cX6_readPart 100 = .ok (.iload_n 3, 1) := by decide +kernel
theorem dX6_readPart_101 : decode cX6_readPart 101 = .ok (.ireturn, 1) := by decide +kernel
theorem dX6_readPart_102 : decode cX6_readPart 102 = .ok (.aload_n 0, 1) := by decide +kernel
theorem dX6_readPart_103 : decode cX6_readPart 103 = .ok (.getfield 17, 3) := by decide +kernel
theorem dX6_readPart_106 : decode cX6_readPart 106 = .ok (.bipush 20, 2) := by decide +kernel
theorem dX6_readPart_108 : decode cX6_readPart 108 = .ok (.if_icmp .ne 32, 3) := by decide +kernel
theorem dX6_readPart_111 : decode cX6_readPart 111 = .ok (.aload_n 0, 1) := by decide +kernel
theorem dX6_readPart_112 : decode cX6_readPart 112 = .ok (.invokevirtual 130, 3) := by decide +kernel
theorem dX6_readPart_115 : decode cX6_readPart 115 = .ok (.aload_n 0, 1) := by decide +kernel
theorem dX6_readPart_116 : decode cX6_readPart 116 = .ok (.iload_n 1, 1) := by decide +kernel
theorem dX6_readPart_117 : decode cX6_readPart 117 = .ok (.iconst 1, 1) := by decide +kernel
theorem dX6_readPart_118 : decode cX6_readPart 118 = .ok (.iadd, 1) := by decide +kernel
theorem dX6_readPart_119 : decode cX6_readPart 119 = .ok (.invokevirtual 196, 3) := by decide +kernel
theorem dX6_readPart_122 : decode cX6_readPart 122 = .ok (.ifCond .eq 16, 3) := by decide +kernel
theorem dX6_readPart_125 : decode cX6_readPart 125 = .ok (.aload_n 0, 1) := by decide +kernel
theorem dX6_readPart_126 : decode cX6_readPart 126 = .ok (.bipush 21, 2) := by decide +kernel
theorem dX6_readPart_128 : decode cX6_readPart 128 = .ok (.invokevirtual 136, 3) := by decide +kernel
theorem dX6_readPart_131 : decode cX6_readPart 131 = .ok (.ifCond .eq 7, 3) := by decide +kernel
theorem dX6_readPart_134 : decode cX6_readPart 134 = .ok (.iconst 1, 1) := by decide +kernel
theorem dX6_readPart_135 : decode cX6_readPart 135 = .ok (.goto 4, 3) := by decide +kernel
theorem dX6_readPart_138 : decode cX6_readPart 138 = .ok (.iconst 0, 1) := by decide +kernel
theorem dX6_readPart_139 : decode cX6_readPart 139 = .ok (.ireturn, 1) := by decide +kernel
theorem dX6_readPart_140 : decode cX6_readPart 140 = .ok (.aload_n 0, 1) := by decide +kernel
theorem dX6_readPart_141 : decode cX6_readPart 141 = .ok (.iload_n 2, 1) := by decide +kernel
theorem dX6_readPart_142 : decode cX6_readPart 142 = .ok (.invokevirtual 218, 3) := by decide +kernel
theorem dX6_readPart_145 : decode cX6_readPart 145 = .ok (.aload_n 0, 1) := by decide +kernel
theorem dX6_readPart_146 : decode cX6_readPart 146 = .ok (.invokevirtual 130, 3) := by decide +kernel
theorem dX6_readPart_149 : decode cX6_readPart 149 = .ok (.iconst 1, 1) := by decide +kernel
theorem dX6_readPart_150 : decode cX6_readPart 150 = .ok (.ireturn, 1) := by decide +kernel
theorem dX6_beginsPart_0 : decode cX6_beginsPart 0 = .ok (.aload_n 0, 1) := by decide +kernel
theorem dX6_beginsPart_1 : decode cX6_beginsPart 1 = .ok (.getfield 48, 3) := by decide +kernel
theorem dX6_beginsPart_4 : decode cX6_beginsPart 4 = .ok (.ifCond .eq 25, 3) := by decide +kernel
theorem dX6_beginsPart_7 : decode cX6_beginsPart 7 = .ok (.aload_n 0, 1) := by decide +kernel
theorem dX6_beginsPart_8 : decode cX6_beginsPart 8 = .ok (.getfield 17, 3) := by decide +kernel
theorem dX6_beginsPart_11 : decode cX6_beginsPart 11 = .ok (.bipush 17, 2) := by decide +kernel
theorem dX6_beginsPart_13 : decode cX6_beginsPart 13 = .ok (.if_icmp .eq 12, 3) := by decide +kernel
theorem dX6_beginsPart_16 : decode cX6_beginsPart 16 = .ok (.aload_n 0, 1) := by decide +kernel
theorem dX6_beginsPart_17 : decode cX6_beginsPart 17 = .ok (.getfield 17, 3) := by decide +kernel
theorem dX6_beginsPart_20 : decode cX6_beginsPart 20 = .ok (.bipush 8, 2) := by decide +kernel
theorem dX6_beginsPart_22 : decode cX6_beginsPart 22 = .ok (.if_icmp .ne 7, 3) := by decide +kernel
theorem dX6_beginsPart_25 : decode cX6_beginsPart 25 = .ok (.iconst 1, 1) := by decide +kernel
theorem dX6_beginsPart_26 : decode cX6_beginsPart 26 = .ok (.goto 4, 3) := by decide +kernel
theorem dX6_beginsPart_29 : decode cX6_beginsPart 29 = .ok (.iconst 0, 1) := by decide +kernel
theorem dX6_beginsPart_30 : decode cX6_beginsPart 30 = .ok (.istore_n 1, 1) := by decide +kernel
theorem dX6_beginsPart_31 : decode cX6_beginsPart 31 = .ok (.iload_n 1, 1) := by decide +kernel
theorem dX6_beginsPart_32 : decode cX6_beginsPart 32 = .ok (.ifCond .ne 21, 3) := by decide +kernel
theorem dX6_beginsPart_35 : decode cX6_beginsPart 35 = .ok (.aload_n 0, 1) := by decide +kernel
theorem dX6_beginsPart_36 : decode cX6_beginsPart 36 = .ok (.getfield 17, 3) := by decide +kernel
theorem dX6_beginsPart_39 : decode cX6_beginsPart 39 = .ok (.bipush 19, 2) := by decide +kernel
theorem dX6_beginsPart_41 : decode cX6_beginsPart 41 = .ok (.if_icmp .eq 12, 3) := by decide +kernel
theorem dX6_beginsPart_44 : decode cX6_beginsPart 44 = .ok (.aload_n 0, 1) := by decide +kernel
theorem dX6_beginsPart_45 : decode cX6_beginsPart 45 = .ok (.getfield 17, 3) := by decide +kernel
theorem dX6_beginsPart_48 : decode cX6_beginsPart 48 = .ok (.bipush 18, 2) := by decide +kernel
theorem dX6_beginsPart_50 : decode cX6_beginsPart 50 = .ok (.if_icmp .ne 7, 3) := by decide +kernel
theorem dX6_beginsPart_53 : decode cX6_beginsPart 53 = .ok (.iconst 1, 1) := by decide +kernel
