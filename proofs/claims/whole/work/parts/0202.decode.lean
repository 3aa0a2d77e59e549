theorem dX6_beginsPart_54 : decode cX6_beginsPart 54 = .ok (.goto 4, 3) := by decide +kernel
theorem dX6_beginsPart_57 : decode cX6_beginsPart 57 = .ok (.iconst 0, 1) := by decide +kernel
theorem dX6_beginsPart_58 : decode cX6_beginsPart 58 = .ok (.istore_n 2, 1) := by decide +kernel
theorem dX6_beginsPart_59 : decode cX6_beginsPart 59 = .ok (.iload_n 2, 1) := by decide +kernel
theorem dX6_beginsPart_60 : decode cX6_beginsPart 60 = .ok (.ifCond .ne 21, 3) := by decide +kernel
theorem dX6_beginsPart_63 : decode cX6_beginsPart 63 = .ok (.aload_n 0, 1) := by decide +kernel
theorem dX6_beginsPart_64 : decode cX6_beginsPart 64 = .ok (.getfield 17, 3) := by decide +kernel
theorem dX6_beginsPart_67 : decode cX6_beginsPart 67 = .ok (.bipush 14, 2) := by decide +kernel
theorem dX6_beginsPart_69 : decode cX6_beginsPart 69 = .ok (.if_icmp .eq 12, 3) := by decide +kernel
theorem dX6_beginsPart_72 : decode cX6_beginsPart 72 = .ok (.aload_n 0, 1) := by decide +kernel
theorem dX6_beginsPart_73 : decode cX6_beginsPart 73 = .ok (.getfield 17, 3) := by decide +kernel
theorem dX6_beginsPart_76 : decode cX6_beginsPart 76 = .ok (.bipush 20, 2) := by decide +kernel
theorem dX6_beginsPart_78 : decode cX6_beginsPart 78 = .ok (.if_icmp .ne 7, 3) := by decide +kernel
theorem dX6_beginsPart_81 : decode cX6_beginsPart 81 = .ok (.iconst 1, 1) := by decide +kernel
theorem dX6_beginsPart_82 : decode cX6_beginsPart 82 = .ok (.goto 4, 3) := by decide +kernel
theorem dX6_beginsPart_85 : decode cX6_beginsPart 85 = .ok (.iconst 0, 1) := by decide +kernel
theorem dX6_beginsPart_86 : decode cX6_beginsPart 86 = .ok (.ireturn, 1) := by decide +kernel
theorem dX6_addLeaf_0 : decode cX6_addLeaf 0 = .ok (.aload_n 0, 1) := by decide +kernel
theorem dX6_addLeaf_1 : decode cX6_addLeaf 1 = .ok (.getfield 17, 3) := by decide +kernel
theorem dX6_addLeaf_4 : decode cX6_addLeaf 4 = .ok (.bipush 19, 2) := by decide +kernel
theorem dX6_addLeaf_6 : decode cX6_addLeaf 6 = .ok (.if_icmp .ne 15, 3) := by decide +kernel
theorem dX6_addLeaf_9 : decode cX6_addLeaf 9 = .ok (.aload_n 0, 1) := by decide +kernel
theorem dX6_addLeaf_10 : decode cX6_addLeaf 10 = .ok (.iconst 0, 1) := by decide +kernel
theorem dX6_addLeaf_11 : decode cX6_addLeaf 11 = .ok (.aload_n 0, 1) := by decide +kernel
theorem dX6_addLeaf_12 : decode cX6_addLeaf 12 = .ok (.invokevirtual 146, 3) := by decide +kernel
theorem dX6_addLeaf_15 : decode cX6_addLeaf 15 = .ok (.invokevirtual 202, 3) := by decide +kernel
theorem dX6_addLeaf_18 : decode cX6_addLeaf 18 = .ok (.goto 40, 3) := by decide +kernel
theorem dX6_addLeaf_21 : decode cX6_addLeaf 21 = .ok (.aload_n 0, 1) := by decide +kernel
theorem dX6_addLeaf_22 : decode cX6_addLeaf 22 = .ok (.getfield 17, 3) := by decide +kernel
theorem dX6_addLeaf_25 : decode cX6_addLeaf 25 = .ok (.bipush 18, 2) := by decide +kernel
theorem dX6_addLeaf_27 : decode cX6_addLeaf 27 = .ok (.if_icmp .ne 12, 3) := by decide +kernel
theorem dX6_addLeaf_30 : decode cX6_addLeaf 30 = .ok (.aload_n 0, 1) := by decide +kernel
theorem dX6_addLeaf_31 : decode cX6_addLeaf 31 = .ok (.iconst 1, 1) := by decide +kernel
theorem dX6_addLeaf_32 : decode cX6_addLeaf 32 = .ok (.iload_n 1, 1) := by decide +kernel
theorem dX6_addLeaf_33 : decode cX6_addLeaf 33 = .ok (.invokevirtual 202, 3) := by decide +kernel
theorem dX6_addLeaf_36 : decode cX6_addLeaf 36 = .ok (.goto 22, 3) := by decide +kernel
theorem dX6_addLeaf_39 : decode cX6_addLeaf 39 = .ok (.aload_n 0, 1) := by decide +kernel
theorem dX6_addLeaf_40 : decode cX6_addLeaf 40 = .ok (.aload_n 0, 1) := by decide +kernel
theorem dX6_addLeaf_41 : decode cX6_addLeaf 41 = .ok (.getfield 17, 3) := by decide +kernel
theorem dX6_addLeaf_44 : decode cX6_addLeaf 44 = .ok (.bipush 17, 2) := by decide +kernel
theorem dX6_addLeaf_46 : decode cX6_addLeaf 46 = .ok (.if_icmp .ne 7, 3) := by decide +kernel
theorem dX6_addLeaf_49 : decode cX6_addLeaf 49 = .ok (.iconst 2, 1) := by decide +kernel
theorem dX6_addLeaf_50 : decode cX6_addLeaf 50 = .ok (.goto 4, 3) := by decide +kernel
theorem dX6_addLeaf_53 : decode cX6_addLeaf 53 = .ok (.iconst 3, 1) := by decide +kernel
theorem dX6_addLeaf_54 : decode cX6_addLeaf 54 = .ok (.iconst 0, 1) := by decide +kernel
theorem dX6_addLeaf_55 : decode cX6_addLeaf 55 = .ok (.invokevirtual 202, 3) := by decide +kernel
theorem dX6_addLeaf_58 : decode cX6_addLeaf 58 = .ok (.return_, 1) := by decide +kernel
theorem dX7_init_0 : decode cX7_init 0 = .ok (.aload_n 0, 1) := by decide +kernel
theorem dX7_init_1 : decode cX7_init 1 = .ok (.invokespecial 3, 3) := by decide +kernel
theorem dX7_init_4 : decode cX7_init 4 = .ok (.aload_n 0, 1) := by decide +kernel
theorem dX7_init_5 : decode cX7_init 5 = .ok (.iconst 0, 1) := by decide +kernel
theorem dX7_init_6 : decode cX7_init 6 = .ok (.putfield 9, 3) := by decide +kernel
theorem dX7_init_9 : decode cX7_init 9 = .ok (.aload_n 0, 1) := by decide +kernel
theorem dX7_init_10 : decode cX7_init 10 = .ok (.sipush 1001, 3) := by decide +kernel
theorem dX7_init_13 : decode cX7_init 13 = .ok (.newarray .int, 2) := by decide +kernel
theorem dX7_init_15 : decode cX7_init 15 = .ok (.putfield 15, 3) := by decide +kernel
theorem dX7_init_18 : decode cX7_init 18 = .ok (.aload_n 0, 1) := by decide +kernel
theorem dX7_init_19 : decode cX7_init 19 = .ok (.sipush 1001, 3) := by decide +kernel
theorem dX7_init_22 : decode cX7_init 22 = .ok (.newarray .int, 2) := by decide +kernel
theorem dX7_init_24 : decode cX7_init 24 = .ok (.putfield 19, 3) := by decide +kernel
theorem dX7_init_27 : decode cX7_init 27 = .ok (.aload_n 0, 1) := by decide +kernel
theorem dX7_init_28 : decode cX7_init 28 = .ok (.sipush 1001, 3) := by decide +kernel
theorem dX7_init_31 : decode cX7_init 31 = .ok (.newarray .long, 2) := by decide +kernel
theorem dX7_init_33 : decode cX7_init 33 = .ok (.putfield 22, 3) := by decide +kernel
theorem dX7_init_36 : decode cX7_init 36 = .ok (.aload_n 0, 1) := by decide +kernel
theorem dX7_init_37 : decode cX7_init 37 = .ok (.iconst 0, 1) := by decide +kernel
theorem dX7_init_38 : decode cX7_init 38 = .ok (.putfield 26, 3) := by decide +kernel
theorem dX7_init_41 : decode cX7_init 41 = .ok (.aload_n 0, 1) := by decide +kernel
theorem dX7_init_42 : decode cX7_init 42 = .ok (.aload_n 1, 1) := by decide +kernel
theorem dX7_init_43 : decode cX7_init 43 = .ok (.putfield 29, 3) := by decide +kernel
theorem dX7_init_46 : decode cX7_init 46 = .ok (.return_, 1) := by decide +kernel
theorem dX7_split_0 : decode cX7_split 0 = .ok (.aload_n 0, 1) := by decide +kernel
theorem dX7_split_1 : decode cX7_split 1 = .ok (.iload_n 1, 1) := by decide +kernel
theorem dX7_split_2 : decode cX7_split 2 = .ok (.aload_n 0, 1) := by decide +kernel
theorem dX7_split_3 : decode cX7_split 3 = .ok (.getfield 29, 3) := by decide +kernel
theorem dX7_split_6 : decode cX7_split 6 = .ok (.arraylength, 1) := by decide +kernel
theorem dX7_split_7 : decode cX7_split 7 = .ok (.invokestatic 33, 3) := by decide +kernel
theorem dX7_split_10 : decode cX7_split 10 = .ok (.putfield 9, 3) := by decide +kernel
theorem dX7_split_13 : decode cX7_split 13 = .ok (.aload_n 0, 1) := by decide +kernel
theorem dX7_split_14 : decode cX7_split 14 = .ok (.iconst 0, 1) := by decide +kernel
theorem dX7_split_15 : decode cX7_split 15 = .ok (.putfield 26, 3) := by decide +kernel
theorem dX7_split_18 : decode cX7_split 18 = .ok (.iconst 0, 1) := by decide +kernel
theorem dX7_split_19 : decode cX7_split 19 = .ok (.istore_n 2, 1) := by decide +kernel
theorem dX7_split_20 : decode cX7_split 20 = .ok (.iconst 0, 1) := by decide +kernel
theorem dX7_split_21 : decode cX7_split 21 = .ok (.istore_n 3, 1) := by decide +kernel
theorem dX7_split_22 : decode cX7_split 22 = .ok (.iload_n 3, 1) := by decide +kernel
theorem dX7_split_23 : decode cX7_split 23 = .ok (.aload_n 0, 1) := by decide +kernel
theorem dX7_split_24 : decode cX7_split 24 = .ok (.getfield 9, 3) := by decide +kernel
theorem dX7_split_27 : decode cX7_split 27 = .ok (.if_icmp .ge 32, 3) := by decide +kernel
theorem dX7_split_30 : decode cX7_split 30 = .ok (.iload_n 3, 1) := by decide +kernel
theorem dX7_split_31 : decode cX7_split 31 = .ok (.iload_n 2, 1) := by decide +kernel
theorem dX7_split_32 : decode cX7_split 32 = .ok (.if_icmp .lt 21, 3) := by decide +kernel
theorem dX7_split_35 : decode cX7_split 35 = .ok (.aload_n 0, 1) := by decide +kernel
theorem dX7_split_36 : decode cX7_split 36 = .ok (.getfield 29, 3) := by decide +kernel
theorem dX7_split_39 : decode cX7_split 39 = .ok (.iload_n 3, 1) := by decide +kernel
theorem dX7_split_40 : decode cX7_split 40 = .ok (.caload, 1) := by decide +kernel
theorem dX7_split_41 : decode cX7_split 41 = .ok (.invokestatic 39, 3) := by decide +kernel
theorem dX7_split_44 : decode cX7_split 44 = .ok (.ifCond .ne 9, 3) := by decide +kernel
theorem dX7_split_47 : decode cX7_split 47 = .ok (.aload_n 0, 1) := by decide +kernel
theorem dX7_split_48 : decode cX7_split 48 = .ok (.iload_n 3, 1) := by decide +kernel
theorem dX7_split_49 : decode cX7_split 49 = .ok (.invokevirtual 43, 3) := by decide +kernel
theorem dX7_split_52 : decode cX7_split 52 = .ok (.istore_n 2, 1) := by decide +kernel
theorem dX7_split_53 : decode cX7_split 53 = .ok (.iinc 3 1, 3) := by decide +kernel
theorem dX7_split_56 : decode cX7_split 56 = .ok (.goto (-34), 3) := by decide +kernel
theorem dX7_split_59 : decode cX7_split 59 = .ok (.aload_n 0, 1) := by decide +kernel
theorem dX7_split_60 : decode cX7_split 60 = .ok (.bipush 28, 2) := by decide +kernel
theorem dX7_split_62 : decode cX7_split 62 = .ok (.aload_n 0, 1) := by decide +kernel
theorem dX7_split_63 : decode cX7_split 63 = .ok (.getfield 9, 3) := by decide +kernel
theorem dX7_split_66 : decode cX7_split 66 = .ok (.lconst 0, 1) := by decide +kernel
theorem dX7_split_67 : decode cX7_split 67 = .ok (.invokevirtual 47, 3) := by decide +kernel
theorem dX7_split_70 : decode cX7_split 70 = .ok (.return_, 1) := by decide +kernel
theorem dX7_add_0 : decode cX7_add 0 = .ok (.aload_n 0, 1) := by decide +kernel
theorem dX7_add_1 : decode cX7_add 1 = .ok (.getfield 26, 3) := by decide +kernel
theorem dX7_add_4 : decode cX7_add 4 = .ok (.aload_n 0, 1) := by decide +kernel
theorem dX7_add_5 : decode cX7_add 5 = .ok (.getfield 15, 3) := by decide +kernel
theorem dX7_add_8 : decode cX7_add 8 = .ok (.arraylength, 1) := by decide +kernel
theorem dX7_add_9 : decode cX7_add 9 = .ok (.if_icmp .ge 43, 3) := by decide +kernel
theorem dX7_add_12 : decode cX7_add 12 = .ok (.aload_n 0, 1) := by decide +kernel
theorem dX7_add_13 : decode cX7_add 13 = .ok (.getfield 15, 3) := by decide +kernel
theorem dX7_add_16 : decode cX7_add 16 = .ok (.aload_n 0, 1) := by decide +kernel
theorem dX7_add_17 : decode cX7_add 17 = .ok (.getfield 26, 3) := by decide +kernel
theorem dX7_add_20 : decode cX7_add 20 = .ok (.iload_n 1, 1) := by decide +kernel
theorem dX7_add_21 : decode cX7_add 21 = .ok (.iastore, 1) := by decide +kernel
theorem dX7_add_22 : decode cX7_add 22 = .ok (.aload_n 0, 1) := by decide +kernel
theorem dX7_add_23 : decode cX7_add 23 = .ok (.getfield 19, 3) := by decide +kernel
theorem dX7_add_26 : decode cX7_add 26 = .ok (.aload_n 0, 1) := by decide +kernel
theorem dX7_add_27 : decode cX7_add 27 = .ok (.getfield 26, 3) := by decide +kernel
theorem dX7_add_30 : decode cX7_add 30 = .ok (.iload_n 2, 1) := by decide +kernel
theorem dX7_add_31 : decode cX7_add 31 = .ok (.iastore, 1) := by decide +kernel
theorem dX7_add_32 : decode cX7_add 32 = .ok (.aload_n 0, 1) := by decide +kernel
theorem dX7_add_33 : decode cX7_add 33 = .ok (.getfield 22, 3) := by decide +kernel
theorem dX7_add_36 : decode cX7_add 36 = .ok (.aload_n 0, 1) := by decide +kernel
theorem dX7_add_37 : decode cX7_add 37 = .ok (.getfield 26, 3) := by decide +kernel
theorem dX7_add_40 : decode cX7_add 40 = .ok (.lload_n 3, 1) := by decide +kernel
theorem dX7_add_41 : decode cX7_add 41 = .ok (.lastore, 1) := by decide +kernel
theorem dX7_add_42 : decode cX7_add 42 = .ok (.aload_n 0, 1) := by decide +kernel
theorem dX7_add_43 : decode cX7_add 43 = .ok (.dup, 1) := by decide +kernel
theorem dX7_add_44 : decode cX7_add 44 = .ok (.getfield 26, 3) := by decide +kernel
theorem dX7_add_47 : decode cX7_add 47 = .ok (.iconst 1, 1) := by decide +kernel
theorem dX7_add_48 : decode cX7_add 48 = .ok (.iadd, 1) := by decide +kernel
theorem dX7_add_49 : decode cX7_add 49 = .ok (.putfield 26, 3) := by decide +kernel
theorem dX7_add_52 : decode cX7_add 52 = .ok (.return_, 1) := by decide +kernel
theorem dX7_readToken_0 : decode cX7_readToken 0 = .ok (.aload_n 0, 1) := by decide +kernel
theorem dX7_readToken_1 : decode cX7_readToken 1 = .ok (.getfield 29, 3) := by decide +kernel
theorem dX7_readToken_4 : decode cX7_readToken 4 = .ok (.iload_n 1, 1) := by decide +kernel
theorem dX7_readToken_5 : decode cX7_readToken 5 = .ok (.caload, 1) := by decide +kernel
theorem dX7_readToken_6 : decode cX7_readToken 6 = .ok (.invokestatic 51, 3) := by decide +kernel
theorem dX7_readToken_9 : decode cX7_readToken 9 = .ok (.ifCond .eq 9, 3) := by decide +kernel
theorem dX7_readToken_12 : decode cX7_readToken 12 = .ok (.aload_n 0, 1) := by decide +kernel
theorem dX7_readToken_13 : decode cX7_readToken 13 = .ok (.iload_n 1, 1) := by decide +kernel
theorem dX7_readToken_14 : decode cX7_readToken 14 = .ok (.invokevirtual 54, 3) := by decide +kernel
theorem dX7_readToken_17 : decode cX7_readToken 17 = .ok (.ireturn, 1) := by decide +kernel
theorem dX7_readToken_18 : decode cX7_readToken 18 = .ok (.aload_n 0, 1) := by decide +kernel
theorem dX7_readToken_19 : decode cX7_readToken 19 = .ok (.getfield 29, 3) := by decide +kernel
theorem dX7_readToken_22 : decode cX7_readToken 22 = .ok (.iload_n 1, 1) := by decide +kernel
theorem dX7_readToken_23 : decode cX7_readToken 23 = .ok (.caload, 1) := by decide +kernel
theorem dX7_readToken_24 : decode cX7_readToken 24 = .ok (.invokestatic 57, 3) := by decide +kernel
theorem dX7_readToken_27 : decode cX7_readToken 27 = .ok (.ifCond .eq 9, 3) := by decide +kernel
theorem dX7_readToken_30 : decode cX7_readToken 30 = .ok (.aload_n 0, 1) := by decide +kernel
theorem dX7_readToken_31 : decode cX7_readToken 31 = .ok (.iload_n 1, 1) := by decide +kernel
theorem dX7_readToken_32 : decode cX7_readToken 32 = .ok (.invokevirtual 60, 3) := by decide +kernel
theorem dX7_readToken_35 : decode cX7_readToken 35 = .ok (.ireturn, 1) := by decide +kernel
theorem dX7_readToken_36 : decode cX7_readToken 36 = .ok (.ldc 63, 2) := by decide +kernel
theorem dX7_readToken_38 : decode cX7_readToken 38 = .ok (.aload_n 0, 1) := by decide +kernel
theorem dX7_readToken_39 : decode cX7_readToken 39 = .ok (.getfield 29, 3) := by decide +kernel
theorem dX7_readToken_42 : decode cX7_readToken 42 = .ok (.iload_n 1, 1) := by decide +kernel
theorem dX7_readToken_43 : decode cX7_readToken 43 = .ok (.caload, 1) := by decide +kernel
theorem dX7_readToken_44 : decode cX7_readToken 44 = .ok (.invokevirtual 65, 3) := by decide +kernel
theorem dX7_readToken_47 : decode cX7_readToken 47 = .ok (.istore_n 2, 1) := by decide +kernel
theorem dX7_readToken_48 : decode cX7_readToken 48 = .ok (.aload_n 0, 1) := by decide +kernel
theorem dX7_readToken_49 : decode cX7_readToken 49 = .ok (.iload_n 2, 1) := by decide +kernel
theorem dX7_readToken_50 : decode cX7_readToken 50 = .ok (.ifCond .ge 8, 3) := by decide +kernel
theorem dX7_readToken_53 : decode cX7_readToken 53 = .ok (.bipush 29, 2) := by decide +kernel
theorem dX7_readToken_55 : decode cX7_readToken 55 = .ok (.goto 7, 3) := by decide +kernel
theorem dX7_readToken_58 : decode cX7_readToken 58 = .ok (.bipush 20, 2) := by decide +kernel
theorem dX7_readToken_60 : decode cX7_readToken 60 = .ok (.iload_n 2, 1) := by decide +kernel
theorem dX7_readToken_61 : decode cX7_readToken 61 = .ok (.iadd, 1) := by decide +kernel
theorem dX7_readToken_62 : decode cX7_readToken 62 = .ok (.iload_n 1, 1) := by decide +kernel
theorem dX7_readToken_63 : decode cX7_readToken 63 = .ok (.lconst 0, 1) := by decide +kernel
theorem dX7_readToken_64 : decode cX7_readToken 64 = .ok (.invokevirtual 47, 3) := by decide +kernel
theorem dX7_readToken_67 : decode cX7_readToken 67 = .ok (.iload_n 1, 1) := by decide +kernel
theorem dX7_readToken_68 : decode cX7_readToken 68 = .ok (.iconst 1, 1) := by decide +kernel
theorem dX7_readToken_69 : decode cX7_readToken 69 = .ok (.iadd, 1) := by decide +kernel
theorem dX7_readToken_70 : decode cX7_readToken 70 = .ok (.ireturn, 1) := by decide +kernel
theorem dX7_readWord_0 : decode cX7_readWord 0 = .ok (.iload_n 1, 1) := by decide +kernel
theorem dX7_readWord_1 : decode cX7_readWord 1 = .ok (.istore_n 2, 1) := by decide +kernel
theorem dX7_readWord_2 : decode cX7_readWord 2 = .ok (.lconst 0, 1) := by decide +kernel
theorem dX7_readWord_3 : decode cX7_readWord 3 = .ok (.lstore_n 3, 1) := by decide +kernel
theorem dX7_readWord_4 : decode cX7_readWord 4 = .ok (.iload_n 1, 1) := by decide +kernel
theorem dX7_readWord_5 : decode cX7_readWord 5 = .ok (.istore 5, 2) := by decide +kernel
theorem dX7_readWord_7 : decode cX7_readWord 7 = .ok (.iload 5, 2) := by decide +kernel
theorem dX7_readWord_9 : decode cX7_readWord 9 = .ok (.aload_n 0, 1) := by decide +kernel
theorem dX7_readWord_10 : decode cX7_readWord 10 = .ok (.getfield 9, 3) := by decide +kernel
theorem dX7_readWord_13 : decode cX7_readWord 13 = .ok (.if_icmp .ge 47, 3) := by decide +kernel
theorem dX7_readWord_16 : decode cX7_readWord 16 = .ok (.aload_n 0, 1) := by decide +kernel
theorem dX7_readWord_17 : decode cX7_readWord 17 = .ok (.getfield 29, 3) := by decide +kernel
theorem dX7_readWord_20 : decode cX7_readWord 20 = .ok (.iload 5, 2) := by decide +kernel
theorem dX7_readWord_22 : decode cX7_readWord 22 = .ok (.caload, 1) := by decide +kernel
theorem dX7_readWord_23 : decode cX7_readWord 23 = .ok (.invokestatic 51, 3) := by decide +kernel
theorem dX7_readWord_26 : decode cX7_readWord 26 = .ok (.ifCond .eq 34, 3) := by decide +kernel
theorem dX7_readWord_29 : decode cX7_readWord 29 = .ok (.iload 5, 2) := by decide +kernel
theorem dX7_readWord_31 : decode cX7_readWord 31 = .ok (.iconst 1, 1) := by decide +kernel
theorem dX7_readWord_32 : decode cX7_readWord 32 = .ok (.iadd, 1) := by decide +kernel
theorem dX7_readWord_33 : decode cX7_readWord 33 = .ok (.istore_n 2, 1) := by decide +kernel
theorem dX7_readWord_34 : decode cX7_readWord 34 = .ok (.lload_n 3, 1) := by decide +kernel
theorem dX7_readWord_35 : decode cX7_readWord 35 = .ok (.ldc2_w 70, 3) := by decide +kernel
theorem dX7_readWord_38 : decode cX7_readWord 38 = .ok (.lmul, 1) := by decide +kernel
theorem dX7_readWord_39 : decode cX7_readWord 39 = .ok (.aload_n 0, 1) := by decide +kernel
theorem dX7_readWord_40 : decode cX7_readWord 40 = .ok (.getfield 29, 3) := by decide +kernel
theorem dX7_readWord_43 : decode cX7_readWord 43 = .ok (.iload 5, 2) := by decide +kernel
theorem dX7_readWord_45 : decode cX7_readWord 45 = .ok (.caload, 1) := by decide +kernel
theorem dX7_readWord_46 : decode cX7_readWord 46 = .ok (.bipush 97, 2) := by decide +kernel
theorem dX7_readWord_48 : decode cX7_readWord 48 = .ok (.isub, 1) := by decide +kernel
theorem dX7_readWord_49 : decode cX7_readWord 49 = .ok (.iconst 1, 1) := by decide +kernel
theorem dX7_readWord_50 : decode cX7_readWord 50 = .ok (.iadd, 1) := by decide +kernel
theorem dX7_readWord_51 : decode cX7_readWord 51 = .ok (.i2l, 1) := by decide +kernel
theorem dX7_readWord_52 : decode cX7_readWord 52 = .ok (.ladd, 1) := by decide +kernel
theorem dX7_readWord_53 : decode cX7_readWord 53 = .ok (.lstore_n 3, 1) := by decide +kernel
theorem dX7_readWord_54 : decode cX7_readWord 54 = .ok (.iinc 5 1, 3) := by decide +kernel
theorem dX7_readWord_57 : decode cX7_readWord 57 = .ok (.goto (-50), 3) := by decide +kernel
theorem dX7_readWord_60 : decode cX7_readWord 60 = .ok (.aload_n 0, 1) := by decide +kernel
theorem dX7_readWord_61 : decode cX7_readWord 61 = .ok (.iload_n 2, 1) := by decide +kernel
theorem dX7_readWord_62 : decode cX7_readWord 62 = .ok (.iload_n 1, 1) := by decide +kernel
theorem dX7_readWord_63 : decode cX7_readWord 63 = .ok (.isub, 1) := by decide +kernel
theorem dX7_readWord_64 : decode cX7_readWord 64 = .ok (.bipush 8, 2) := by decide +kernel
theorem dX7_readWord_66 : decode cX7_readWord 66 = .ok (.if_icmp .le 8, 3) := by decide +kernel
theorem dX7_readWord_69 : decode cX7_readWord 69 = .ok (.bipush 29, 2) := by decide +kernel
theorem dX7_readWord_71 : decode cX7_readWord 71 = .ok (.goto 9, 3) := by decide +kernel
theorem dX7_readWord_74 : decode cX7_readWord 74 = .ok (.aload_n 0, 1) := by decide +kernel
theorem dX7_readWord_75 : decode cX7_readWord 75 = .ok (.iload_n 1, 1) := by decide +kernel
theorem dX7_readWord_76 : decode cX7_readWord 76 = .ok (.iload_n 2, 1) := by decide +kernel
theorem dX7_readWord_77 : decode cX7_readWord 77 = .ok (.invokevirtual 72, 3) := by decide +kernel
theorem dX7_readWord_80 : decode cX7_readWord 80 = .ok (.iload_n 1, 1) := by decide +kernel
theorem dX7_readWord_81 : decode cX7_readWord 81 = .ok (.lload_n 3, 1) := by decide +kernel
theorem dX7_readWord_82 : decode cX7_readWord 82 = .ok (.invokevirtual 47, 3) := by decide +kernel
theorem dX7_readWord_85 : decode cX7_readWord 85 = .ok (.iload_n 2, 1) := by decide +kernel
theorem dX7_readWord_86 : decode cX7_readWord 86 = .ok (.ireturn, 1) := by decide +kernel
theorem dX7_readNumber_0 : decode cX7_readNumber 0 = .ok (.iload_n 1, 1) := by decide +kernel
theorem dX7_readNumber_1 : decode cX7_readNumber 1 = .ok (.istore_n 2, 1) := by decide +kernel
theorem dX7_readNumber_2 : decode cX7_readNumber 2 = .ok (.lconst 0, 1) := by decide +kernel
theorem dX7_readNumber_3 : decode cX7_readNumber 3 = .ok (.lstore_n 3, 1) := by decide +kernel
theorem dX7_readNumber_4 : decode cX7_readNumber 4 = .ok (.iload_n 1, 1) := by decide +kernel
theorem dX7_readNumber_5 : decode cX7_readNumber 5 = .ok (.istore 5, 2) := by decide +kernel
theorem dX7_readNumber_7 : decode cX7_readNumber 7 = .ok (.iload 5, 2) := by decide +kernel
theorem dX7_readNumber_9 : decode cX7_readNumber 9 = .ok (.aload_n 0, 1) := by decide +kernel
theorem dX7_readNumber_10 : decode cX7_readNumber 10 = .ok (.getfield 9, 3) := by decide +kernel
theorem dX7_readNumber_13 : decode cX7_readNumber 13 = .ok (.if_icmp .ge 45, 3) := by decide +kernel
theorem dX7_readNumber_16 : decode cX7_readNumber 16 = .ok (.aload_n 0, 1) := by decide +kernel
theorem dX7_readNumber_17 : decode cX7_readNumber 17 = .ok (.getfield 29, 3) := by decide +kernel
theorem dX7_readNumber_20 : decode cX7_readNumber 20 = .ok (.iload 5, 2) := by decide +kernel
theorem dX7_readNumber_22 : decode cX7_readNumber 22 = .ok (.caload, 1) := by decide +kernel
theorem dX7_readNumber_23 : decode cX7_readNumber 23 = .ok (.invokestatic 57, 3) := by decide +kernel
theorem dX7_readNumber_26 : decode cX7_readNumber 26 = .ok (.ifCond .eq 32, 3) := by decide +kernel
theorem dX7_readNumber_29 : decode cX7_readNumber 29 = .ok (.iload 5, 2) := by decide +kernel
theorem dX7_readNumber_31 : decode cX7_readNumber 31 = .ok (.iconst 1, 1) := by decide +kernel
theorem dX7_readNumber_32 : decode cX7_readNumber 32 = .ok (.iadd, 1) := by decide +kernel
theorem dX7_readNumber_33 : decode cX7_readNumber 33 = .ok (.istore_n 2, 1) := by decide +kernel
theorem dX7_readNumber_34 : decode cX7_readNumber 34 = .ok (.lload_n 3, 1) := by decide +kernel
theorem dX7_readNumber_35 : decode cX7_readNumber 35 = .ok (.ldc2_w 75, 3) := by decide +kernel
theorem dX7_readNumber_38 : decode cX7_readNumber 38 = .ok (.lmul, 1) := by decide +kernel
theorem dX7_readNumber_39 : decode cX7_readNumber 39 = .ok (.aload_n 0, 1) := by decide +kernel
theorem dX7_readNumber_40 : decode cX7_readNumber 40 = .ok (.getfield 29, 3) := by decide +kernel
theorem dX7_readNumber_43 : decode cX7_readNumber 43 = .ok (.iload 5, 2) := by decide +kernel
theorem dX7_readNumber_45 : decode cX7_readNumber 45 = .ok (.caload, 1) := by decide +kernel
theorem dX7_readNumber_46 : decode cX7_readNumber 46 = .ok (.bipush 48, 2) := by decide +kernel
theorem dX7_readNumber_48 : decode cX7_readNumber 48 = .ok (.isub, 1) := by decide +kernel
theorem dX7_readNumber_49 : decode cX7_readNumber 49 = .ok (.i2l, 1) := by decide +kernel
theorem dX7_readNumber_50 : decode cX7_readNumber 50 = .ok (.ladd, 1) := by decide +kernel
theorem dX7_readNumber_51 : decode cX7_readNumber 51 = .ok (.lstore_n 3, 1) := by decide +kernel
theorem dX7_readNumber_52 : decode cX7_readNumber 52 = .ok (.iinc 5 1, 3) := by decide +kernel
theorem dX7_readNumber_55 : decode cX7_readNumber 55 = .ok (.goto (-48), 3) := by decide +kernel
theorem dX7_readNumber_58 : decode cX7_readNumber 58 = .ok (.aload_n 0, 1) := by decide +kernel
theorem dX7_readNumber_59 : decode cX7_readNumber 59 = .ok (.iload_n 2, 1) := by decide +kernel
theorem dX7_readNumber_60 : decode cX7_readNumber 60 = .ok (.iload_n 1, 1) := by decide +kernel
theorem dX7_readNumber_61 : decode cX7_readNumber 61 = .ok (.isub, 1) := by decide +kernel
theorem dX7_readNumber_62 : decode cX7_readNumber 62 = .ok (.iconst 4, 1) := by decide +kernel
theorem dX7_readNumber_63 : decode cX7_readNumber 63 = .ok (.if_icmp .le 8, 3) := by decide +kernel
theorem dX7_readNumber_66 : decode cX7_readNumber 66 = .ok (.bipush 29, 2) := by decide +kernel
theorem dX7_readNumber_68 : decode cX7_readNumber 68 = .ok (.goto 5, 3) := by decide +kernel
theorem dX7_readNumber_71 : decode cX7_readNumber 71 = .ok (.bipush 19, 2) := by decide +kernel
theorem dX7_readNumber_73 : decode cX7_readNumber 73 = .ok (.iload_n 1, 1) := by decide +kernel
theorem dX7_readNumber_74 : decode cX7_readNumber 74 = .ok (.lload_n 3, 1) := by decide +kernel
theorem dX7_readNumber_75 : decode cX7_readNumber 75 = .ok (.invokevirtual 47, 3) := by decide +kernel
theorem dX7_readNumber_78 : decode cX7_readNumber 78 = .ok (.iload_n 2, 1) := by decide +kernel
theorem dX7_readNumber_79 : decode cX7_readNumber 79 = .ok (.ireturn, 1) := by decide +kernel
theorem dX7_keyword_0 : decode cX7_keyword 0 = .ok (.iconst 0, 1) := by decide +kernel
theorem dX7_keyword_1 : decode cX7_keyword 1 = .ok (.istore_n 3, 1) := by decide +kernel
theorem dX7_keyword_2 : decode cX7_keyword 2 = .ok (.iconst 0, 1) := by decide +kernel
theorem dX7_keyword_3 : decode cX7_keyword 3 = .ok (.istore 4, 2) := by decide +kernel
theorem dX7_keyword_5 : decode cX7_keyword 5 = .ok (.ldc 77, 2) := by decide +kernel
theorem dX7_keyword_7 : decode cX7_keyword 7 = .ok (.invokevirtual 79, 3) := by decide +kernel
theorem dX7_keyword_10 : decode cX7_keyword 10 = .ok (.istore 5, 2) := by decide +kernel
theorem dX7_keyword_12 : decode cX7_keyword 12 = .ok (.iconst 0, 1) := by decide +kernel
theorem dX7_keyword_13 : decode cX7_keyword 13 = .ok (.istore 6, 2) := by decide +kernel
theorem dX7_keyword_15 : decode cX7_keyword 15 = .ok (.iload 6, 2) := by decide +kernel
theorem dX7_keyword_17 : decode cX7_keyword 17 = .ok (.iload 5, 2) := by decide +kernel
theorem dX7_keyword_19 : decode cX7_keyword 19 = .ok (.if_icmp .gt 62, 3) := by decide +kernel
theorem dX7_keyword_22 : decode cX7_keyword 22 = .ok (.iload 6, 2) := by decide +kernel
theorem dX7_keyword_24 : decode cX7_keyword 24 = .ok (.iload 5, 2) := by decide +kernel
theorem dX7_keyword_26 : decode cX7_keyword 26 = .ok (.if_icmp .eq 15, 3) := by decide +kernel
theorem dX7_keyword_29 : decode cX7_keyword 29 = .ok (.ldc 77, 2) := by decide +kernel
theorem dX7_keyword_31 : decode cX7_keyword 31 = .ok (.iload 6, 2) := by decide +kernel
theorem dX7_keyword_33 : decode cX7_keyword 33 = .ok (.invokevirtual 82, 3) := by decide +kernel
theorem dX7_keyword_36 : decode cX7_keyword 36 = .ok (.bipush 32, 2) := by decide +kernel
theorem dX7_keyword_38 : decode cX7_keyword 38 = .ok (.if_icmp .ne 37, 3) := by decide +kernel
theorem dX7_keyword_41 : decode cX7_keyword 41 = .ok (.iload 6, 2) := by decide +kernel
theorem dX7_keyword_43 : decode cX7_keyword 43 = .ok (.iload 4, 2) := by decide +kernel
theorem dX7_keyword_45 : decode cX7_keyword 45 = .ok (.isub, 1) := by decide +kernel
theorem dX7_keyword_46 : decode cX7_keyword 46 = .ok (.iload_n 2, 1) := by decide +kernel
theorem dX7_keyword_47 : decode cX7_keyword 47 = .ok (.iload_n 1, 1) := by decide +kernel
theorem dX7_keyword_48 : decode cX7_keyword 48 = .ok (.isub, 1) := by decide +kernel
theorem dX7_keyword_49 : decode cX7_keyword 49 = .ok (.if_icmp .ne 17, 3) := by decide +kernel
theorem dX7_keyword_52 : decode cX7_keyword 52 = .ok (.aload_n 0, 1) := by decide +kernel
theorem dX7_keyword_53 : decode cX7_keyword 53 = .ok (.iload_n 1, 1) := by decide +kernel
theorem dX7_keyword_54 : decode cX7_keyword 54 = .ok (.iload 4, 2) := by decide +kernel
theorem dX7_keyword_56 : decode cX7_keyword 56 = .ok (.iload 6, 2) := by decide +kernel
theorem dX7_keyword_58 : decode cX7_keyword 58 = .ok (.invokevirtual 86, 3) := by decide +kernel
theorem dX7_keyword_61 : decode cX7_keyword 61 = .ok (.ifCond .eq 5, 3) := by decide +kernel
theorem dX7_keyword_64 : decode cX7_keyword 64 = .ok (.iload_n 3, 1) := by decide +kernel
theorem dX7_keyword_65 : decode cX7_keyword 65 = .ok (.ireturn, 1) := by decide +kernel
theorem dX7_keyword_66 : decode cX7_keyword 66 = .ok (.iinc 3 1, 3) := by decide +kernel
theorem dX7_keyword_69 : decode cX7_keyword 69 = .ok (.iload 6, 2) := by decide +kernel
theorem dX7_keyword_71 : decode cX7_keyword 71 = .ok (.iconst 1, 1) := by decide +kernel
theorem dX7_keyword_72 : decode cX7_keyword 72 = .ok (.iadd, 1) := by decide +kernel
theorem dX7_keyword_73 : decode cX7_keyword 73 = .ok (.istore 4, 2) := by decide +kernel
theorem dX7_keyword_75 : decode cX7_keyword 75 = .ok (.iinc 6 1, 3) := by decide +kernel
theorem dX7_keyword_78 : decode cX7_keyword 78 = .ok (.goto (-63), 3) := by decide +kernel
theorem dX7_keyword_81 : decode cX7_keyword 81 = .ok (.bipush 18, 2) := by decide +kernel
theorem dX7_keyword_83 : decode cX7_keyword 83 = .ok (.ireturn, 1) := by decide +kernel
theorem dX7_isKeyword_0 : decode cX7_isKeyword 0 = .ok (.iload_n 2, 1) := by decide +kernel
theorem dX7_isKeyword_1 : decode cX7_isKeyword 1 = .ok (.istore 4, 2) := by decide +kernel
theorem dX7_isKeyword_3 : decode cX7_isKeyword 3 = .ok (.iload 4, 2) := by decide +kernel
theorem dX7_isKeyword_5 : decode cX7_isKeyword 5 = .ok (.iload_n 3, 1) := by decide +kernel
theorem dX7_isKeyword_6 : decode cX7_isKeyword 6 = .ok (.if_icmp .ge 32, 3) := by decide +kernel
theorem dX7_isKeyword_9 : decode cX7_isKeyword 9 = .ok (.ldc 77, 2) := by decide +kernel
theorem dX7_isKeyword_11 : decode cX7_isKeyword 11 = .ok (.iload 4, 2) := by decide +kernel
theorem dX7_isKeyword_13 : decode cX7_isKeyword 13 = .ok (.invokevirtual 82, 3) := by decide +kernel
theorem dX7_isKeyword_16 : decode cX7_isKeyword 16 = .ok (.aload_n 0, 1) := by decide +kernel
theorem dX7_isKeyword_17 : decode cX7_isKeyword 17 = .ok (.getfield 29, 3) := by decide +kernel
theorem dX7_isKeyword_20 : decode cX7_isKeyword 20 = .ok (.iload_n 1, 1) := by decide +kernel
theorem dX7_isKeyword_21 : decode cX7_isKeyword 21 = .ok (.iload 4, 2) := by decide +kernel
theorem dX7_isKeyword_23 : decode cX7_isKeyword 23 = .ok (.iadd, 1) := by decide +kernel
theorem dX7_isKeyword_24 : decode cX7_isKeyword 24 = .ok (.iload_n 2, 1) := by decide +kernel
theorem dX7_isKeyword_25 : decode cX7_isKeyword 25 = .ok (.isub, 1) := by decide +kernel
theorem dX7_isKeyword_26 : decode cX7_isKeyword 26 = .ok (.caload, 1) := by decide +kernel
theorem dX7_isKeyword_27 : decode cX7_isKeyword 27 = .ok (.if_icmp .eq 5, 3) := by decide +kernel
theorem dX7_isKeyword_30 : decode cX7_isKeyword 30 = .ok (.iconst 0, 1) := by decide +kernel
theorem dX7_isKeyword_31 : decode cX7_isKeyword 31 = .ok (.ireturn, 1) := by decide +kernel
theorem dX7_isKeyword_32 : decode cX7_isKeyword 32 = .ok (.iinc 4 1, 3) := by decide +kernel
theorem dX7_isKeyword_35 : decode cX7_isKeyword 35 = .ok (.goto (-32), 3) := by decide +kernel
theorem dX7_isKeyword_38 : decode cX7_isKeyword 38 = .ok (.iconst 1, 1) := by decide +kernel
theorem dX7_isKeyword_39 : decode cX7_isKeyword 39 = .ok (.ireturn, 1) := by decide +kernel
theorem dX7_isBlank_0 : decode cX7_isBlank 0 = .ok (.iload_n 0, 1) := by decide +kernel
theorem dX7_isBlank_1 : decode cX7_isBlank 1 = .ok (.bipush 10, 2) := by decide +kernel
theorem dX7_isBlank_3 : decode cX7_isBlank 3 = .ok (.if_icmp .eq 9, 3) := by decide +kernel
theorem dX7_isBlank_6 : decode cX7_isBlank 6 = .ok (.iload_n 0, 1) := by decide +kernel
theorem dX7_isBlank_7 : decode cX7_isBlank 7 = .ok (.bipush 32, 2) := by decide +kernel
theorem dX7_isBlank_9 : decode cX7_isBlank 9 = .ok (.if_icmp .ne 7, 3) := by decide +kernel
theorem dX7_isBlank_12 : decode cX7_isBlank 12 = .ok (.iconst 1, 1) := by decide +kernel
theorem dX7_isBlank_13 : decode cX7_isBlank 13 = .ok (.goto 4, 3) := by decide +kernel
theorem dX7_isBlank_16 : decode cX7_isBlank 16 = .ok (.iconst 0, 1) := by decide +kernel
theorem dX7_isBlank_17 : decode cX7_isBlank 17 = .ok (.ireturn, 1) := by decide +kernel
theorem dX7_isLetter_0 : decode cX7_isLetter 0 = .ok (.iload_n 0, 1) := by decide +kernel
theorem dX7_isLetter_1 : decode cX7_isLetter 1 = .ok (.bipush 97, 2) := by decide +kernel
theorem dX7_isLetter_3 : decode cX7_isLetter 3 = .ok (.if_icmp .lt 13, 3) := by decide +kernel
theorem dX7_isLetter_6 : decode cX7_isLetter 6 = .ok (.iload_n 0, 1) := by decide +kernel
theorem dX7_isLetter_7 : decode cX7_isLetter 7 = .ok (.bipush 122, 2) := by decide +kernel
theorem dX7_isLetter_9 : decode cX7_isLetter 9 = .ok (.if_icmp .gt 7, 3) := by decide +kernel
theorem dX7_isLetter_12 : decode cX7_isLetter 12 = .ok (.iconst 1, 1) := by decide +kernel
theorem dX7_isLetter_13 : decode cX7_isLetter 13 = .ok (.goto 4, 3) := by decide +kernel
theorem dX7_isLetter_16 : decode cX7_isLetter 16 = .ok (.iconst 0, 1) := by decide +kernel
theorem dX7_isLetter_17 : decode cX7_isLetter 17 = .ok (.ireturn, 1) := by decide +kernel
theorem dX7_isDigit_0 : decode cX7_isDigit 0 = .ok (.iload_n 0, 1) := by decide +kernel
theorem dX7_isDigit_1 : decode cX7_isDigit 1 = .ok (.bipush 48, 2) := by decide +kernel
theorem dX7_isDigit_3 : decode cX7_isDigit 3 = .ok (.if_icmp .lt 13, 3) := by decide +kernel
theorem dX7_isDigit_6 : decode cX7_isDigit 6 = .ok (.iload_n 0, 1) := by decide +kernel
theorem dX7_isDigit_7 : decode cX7_isDigit 7 = .ok (.bipush 57, 2) := by decide +kernel
theorem dX7_isDigit_9 : decode cX7_isDigit 9 = .ok (.if_icmp .gt 7, 3) := by decide +kernel
theorem dX7_isDigit_12 : decode cX7_isDigit 12 = .ok (.iconst 1, 1) := by decide +kernel
theorem dX7_isDigit_13 : decode cX7_isDigit 13 = .ok (.goto 4, 3) := by decide +kernel
theorem dX7_isDigit_16 : decode cX7_isDigit 16 = .ok (.iconst 0, 1) := by decide +kernel
theorem dX7_isDigit_17 : decode cX7_isDigit 17 = .ok (.ireturn, 1) := by decide +kernel
theorem dX8_init_0 : decode cX8_init 0 = .ok (.aload_n 0, 1) := by decide +kernel
theorem dX8_init_1 : decode cX8_init 1 = .ok (.invokespecial 3, 3) := by decide +kernel
theorem dX8_init_4 : decode cX8_init 4 = .ok (.aload_n 0, 1) := by decide +kernel
theorem dX8_init_5 : decode cX8_init 5 = .ok (.bipush 16, 2) := by decide +kernel
theorem dX8_init_7 : decode cX8_init 7 = .ok (.newarray .int, 2) := by decide +kernel
theorem dX8_init_9 : decode cX8_init 9 = .ok (.putfield 9, 3) := by decide +kernel
theorem dX8_init_12 : decode cX8_init 12 = .ok (.aload_n 0, 1) := by decide +kernel
theorem dX8_init_13 : decode cX8_init 13 = .ok (.bipush 16, 2) := by decide +kernel
theorem dX8_init_15 : decode cX8_init 15 = .ok (.newarray .int, 2) := by decide +kernel
theorem dX8_init_17 : decode cX8_init 17 = .ok (.putfield 15, 3) := by decide +kernel
theorem dX8_init_20 : decode cX8_init 20 = .ok (.aload_n 0, 1) := by decide +kernel
theorem dX8_init_21 : decode cX8_init 21 = .ok (.bipush 16, 2) := by decide +kernel
theorem dX8_init_23 : decode cX8_init 23 = .ok (.newarray .int, 2) := by decide +kernel
theorem dX8_init_25 : decode cX8_init 25 = .ok (.putfield 18, 3) := by decide +kernel
theorem dX8_init_28 : decode cX8_init 28 = .ok (.aload_n 0, 1) := by decide +kernel
theorem dX8_init_29 : decode cX8_init 29 = .ok (.iconst 3, 1) := by decide +kernel
theorem dX8_init_30 : decode cX8_init 30 = .ok (.newarray .boolean, 2) := by decide +kernel
theorem dX8_init_32 : decode cX8_init 32 = .ok (.putfield 21, 3) := by decide +kernel
theorem dX8_init_35 : decode cX8_init 35 = .ok (.aload_n 0, 1) := by decide +kernel
theorem dX8_init_36 : decode cX8_init 36 = .ok (.bipush 16, 2) := by decide +kernel
theorem dX8_init_38 : decode cX8_init 38 = .ok (.newarray .int, 2) := by decide +kernel
theorem dX8_init_40 : decode cX8_init 40 = .ok (.putfield 25, 3) := by decide +kernel
theorem dX8_init_43 : decode cX8_init 43 = .ok (.aload_n 0, 1) := by decide +kernel
theorem dX8_init_44 : decode cX8_init 44 = .ok (.bipush 16, 2) := by decide +kernel
theorem dX8_init_46 : decode cX8_init 46 = .ok (.newarray .int, 2) := by decide +kernel
theorem dX8_init_48 : decode cX8_init 48 = .ok (.putfield 28, 3) := by decide +kernel
theorem dX8_init_51 : decode cX8_init 51 = .ok (.aload_n 0, 1) := by decide +kernel
theorem dX8_init_52 : decode cX8_init 52 = .ok (.bipush 16, 2) := by decide +kernel
theorem dX8_init_54 : decode cX8_init 54 = .ok (.newarray .int, 2) := by decide +kernel
theorem dX8_init_56 : decode cX8_init 56 = .ok (.putfield 31, 3) := by decide +kernel
theorem dX8_init_59 : decode cX8_init 59 = .ok (.aload_n 0, 1) := by decide +kernel
theorem dX8_init_60 : decode cX8_init 60 = .ok (.iconst 0, 1) := by decide +kernel
theorem dX8_init_61 : decode cX8_init 61 = .ok (.putfield 34, 3) := by decide +kernel
theorem dX8_init_64 : decode cX8_init 64 = .ok (.aload_n 0, 1) := by decide +kernel
theorem dX8_init_65 : decode cX8_init 65 = .ok (.iconst 0, 1) := by decide +kernel
theorem dX8_init_66 : decode cX8_init 66 = .ok (.putfield 38, 3) := by decide +kernel
theorem dX8_init_69 : decode cX8_init 69 = .ok (.aload_n 0, 1) := by decide +kernel
theorem dX8_init_70 : decode cX8_init 70 = .ok (.bipush 7, 2) := by decide +kernel
theorem dX8_init_72 : decode cX8_init 72 = .ok (.newarray .int, 2) := by decide +kernel
theorem dX8_init_74 : decode cX8_init 74 = .ok (.putfield 42, 3) := by decide +kernel
theorem dX8_init_77 : decode cX8_init 77 = .ok (.aload_n 0, 1) := by decide +kernel
theorem dX8_init_78 : decode cX8_init 78 = .ok (.bipush 7, 2) := by decide +kernel
theorem dX8_init_80 : decode cX8_init 80 = .ok (.newarray .int, 2) := by decide +kernel
theorem dX8_init_82 : decode cX8_init 82 = .ok (.putfield 45, 3) := by decide +kernel
theorem dX8_init_85 : decode cX8_init 85 = .ok (.aload_n 0, 1) := by decide +kernel
theorem dX8_init_86 : decode cX8_init 86 = .ok (.iconst 0, 1) := by decide +kernel
theorem dX8_init_87 : decode cX8_init 87 = .ok (.putfield 48, 3) := by decide +kernel
theorem dX8_init_90 : decode cX8_init 90 = .ok (.aload_n 0, 1) := by decide +kernel
theorem dX8_init_91 : decode cX8_init 91 = .ok (.aload_n 1, 1) := by decide +kernel
theorem dX8_init_92 : decode cX8_init 92 = .ok (.putfield 51, 3) := by decide +kernel
theorem dX8_init_95 : decode cX8_init 95 = .ok (.aload_n 0, 1) := by decide +kernel
theorem dX8_init_96 : decode cX8_init 96 = .ok (.getfield 9, 3) := by decide +kernel
theorem dX8_init_99 : decode cX8_init 99 = .ok (.iconst (-1), 1) := by decide +kernel
theorem dX8_init_100 : decode cX8_init 100 = .ok (.invokestatic 55, 3) := by decide +kernel
theorem dX8_init_103 : decode cX8_init 103 = .ok (.aload_n 0, 1) := by decide +kernel
theorem dX8_init_104 : decode cX8_init 104 = .ok (.getfield 15, 3) := by decide +kernel
theorem dX8_init_107 : decode cX8_init 107 = .ok (.iconst (-1), 1) := by decide +kernel
theorem dX8_init_108 : decode cX8_init 108 = .ok (.invokestatic 55, 3) := by decide +kernel
theorem dX8_init_111 : decode cX8_init 111 = .ok (.return_, 1) := by decide +kernel
theorem dX8_beginWith_0 : decode cX8_beginWith 0 = .ok (.aload_n 0, 1) := by decide +kernel
theorem dX8_beginWith_1 : decode cX8_beginWith 1 = .ok (.aload_n 1, 1) := by decide +kernel
theorem dX8_beginWith_2 : decode cX8_beginWith 2 = .ok (.putfield 51, 3) := by decide +kernel
theorem dX8_beginWith_5 : decode cX8_beginWith 5 = .ok (.aload_n 0, 1) := by decide +kernel
theorem dX8_beginWith_6 : decode cX8_beginWith 6 = .ok (.getfield 9, 3) := by decide +kernel
theorem dX8_beginWith_9 : decode cX8_beginWith 9 = .ok (.iconst (-1), 1) := by decide +kernel
theorem dX8_beginWith_10 : decode cX8_beginWith 10 = .ok (.invokestatic 55, 3) := by decide +kernel
theorem dX8_beginWith_13 : decode cX8_beginWith 13 = .ok (.aload_n 0, 1) := by decide +kernel
theorem dX8_beginWith_14 : decode cX8_beginWith 14 = .ok (.getfield 15, 3) := by decide +kernel
theorem dX8_beginWith_17 : decode cX8_beginWith 17 = .ok (.iconst (-1), 1) := by decide +kernel
theorem dX8_beginWith_18 : decode cX8_beginWith 18 = .ok (.invokestatic 55, 3) := by decide +kernel
theorem dX8_beginWith_21 : decode cX8_beginWith 21 = .ok (.aload_n 0, 1) := by decide +kernel
theorem dX8_beginWith_22 : decode cX8_beginWith 22 = .ok (.getfield 18, 3) := by decide +kernel
theorem dX8_beginWith_25 : decode cX8_beginWith 25 = .ok (.iconst 0, 1) := by decide +kernel
theorem dX8_beginWith_26 : decode cX8_beginWith 26 = .ok (.invokestatic 55, 3) := by decide +kernel
theorem dX8_beginWith_29 : decode cX8_beginWith 29 = .ok (.iconst 0, 1) := by decide +kernel
theorem dX8_beginWith_30 : decode cX8_beginWith 30 = .ok (.istore_n 2, 1) := by decide +kernel
theorem dX8_beginWith_31 : decode cX8_beginWith 31 = .ok (.iload_n 2, 1) := by decide +kernel
theorem dX8_beginWith_32 : decode cX8_beginWith 32 = .ok (.iconst 3, 1) := by decide +kernel
theorem dX8_beginWith_33 : decode cX8_beginWith 33 = .ok (.if_icmp .ge 21, 3) := by decide +kernel
theorem dX8_beginWith_36 : decode cX8_beginWith 36 = .ok (.aload_n 0, 1) := by decide +kernel
theorem dX8_beginWith_37 : decode cX8_beginWith 37 = .ok (.getfield 21, 3) := by decide +kernel
theorem dX8_beginWith_40 : decode cX8_beginWith 40 = .ok (.iload_n 2, 1) := by decide +kernel
theorem dX8_beginWith_41 : decode cX8_beginWith 41 = .ok (.aload_n 1, 1) := by decide +kernel
theorem dX8_beginWith_42 : decode cX8_beginWith 42 = .ok (.getfield 61, 3) := by decide +kernel
theorem dX8_beginWith_45 : decode cX8_beginWith 45 = .ok (.iload_n 2, 1) := by decide +kernel
theorem dX8_beginWith_46 : decode cX8_beginWith 46 = .ok (.baload, 1) := by decide +kernel
theorem dX8_beginWith_47 : decode cX8_beginWith 47 = .ok (.bastore, 1) := by decide +kernel
theorem dX8_beginWith_48 : decode cX8_beginWith 48 = .ok (.iinc 2 1, 3) := by decide +kernel
theorem dX8_beginWith_51 : decode cX8_beginWith 51 = .ok (.goto (-20), 3) := by decide +kernel
theorem dX8_beginWith_54 : decode cX8_beginWith 54 = .ok (.aload_n 0, 1) := by decide +kernel
theorem dX8_beginWith_55 : decode cX8_beginWith 55 = .ok (.iconst 0, 1) := by decide +kernel
theorem dX8_beginWith_56 : decode cX8_beginWith 56 = .ok (.putfield 34, 3) := by decide +kernel
theorem dX8_beginWith_59 : decode cX8_beginWith 59 = .ok (.return_, 1) := by decide +kernel
theorem dX8_takeFrom_0 : decode cX8_takeFrom 0 = .ok (.aload_n 0, 1) := by decide +kernel
theorem dX8_takeFrom_1 : decode cX8_takeFrom 1 = .ok (.aload_n 1, 1) := by decide +kernel
theorem dX8_takeFrom_2 : decode cX8_takeFrom 2 = .ok (.getfield 51, 3) := by decide +kernel
theorem dX8_takeFrom_5 : decode cX8_takeFrom 5 = .ok (.putfield 51, 3) := by decide +kernel
theorem dX8_takeFrom_8 : decode cX8_takeFrom 8 = .ok (.aload_n 1, 1) := by decide +kernel
theorem dX8_takeFrom_9 : decode cX8_takeFrom 9 = .ok (.getfield 9, 3) := by decide +kernel
theorem dX8_takeFrom_12 : decode cX8_takeFrom 12 = .ok (.iconst 0, 1) := by decide +kernel
theorem dX8_takeFrom_13 : decode cX8_takeFrom 13 = .ok (.aload_n 0, 1) := by decide +kernel
theorem dX8_takeFrom_14 : decode cX8_takeFrom 14 = .ok (.getfield 9, 3) := by decide +kernel
theorem dX8_takeFrom_17 : decode cX8_takeFrom 17 = .ok (.iconst 0, 1) := by decide +kernel
theorem dX8_takeFrom_18 : decode cX8_takeFrom 18 = .ok (.bipush 16, 2) := by decide +kernel
theorem dX8_takeFrom_20 : decode cX8_takeFrom 20 = .ok (.invokestatic 66, 3) := by decide +kernel
theorem dX8_takeFrom_23 : decode cX8_takeFrom 23 = .ok (.aload_n 1, 1) := by decide +kernel
theorem dX8_takeFrom_24 : decode cX8_takeFrom 24 = .ok (.getfield 15, 3) := by decide +kernel
theorem dX8_takeFrom_27 : decode cX8_takeFrom 27 = .ok (.iconst 0, 1) := by decide +kernel
theorem dX8_takeFrom_28 : decode cX8_takeFrom 28 = .ok (.aload_n 0, 1) := by decide +kernel
theorem dX8_takeFrom_29 : decode cX8_takeFrom 29 = .ok (.getfield 15, 3) := by decide +kernel
theorem dX8_takeFrom_32 : decode cX8_takeFrom 32 = .ok (.iconst 0, 1) := by decide +kernel
theorem dX8_takeFrom_33 : decode cX8_takeFrom 33 = .ok (.bipush 16, 2) := by decide +kernel
theorem dX8_takeFrom_35 : decode cX8_takeFrom 35 = .ok (.invokestatic 66, 3) := by decide +kernel
theorem dX8_takeFrom_38 : decode cX8_takeFrom 38 = .ok (.aload_n 1, 1) := by decide +kernel
theorem dX8_takeFrom_39 : decode cX8_takeFrom 39 = .ok (.getfield 18, 3) := by decide +kernel
theorem dX8_takeFrom_42 : decode cX8_takeFrom 42 = .ok (.iconst 0, 1) := by decide +kernel
theorem dX8_takeFrom_43 : decode cX8_takeFrom 43 = .ok (.aload_n 0, 1) := by decide +kernel
theorem dX8_takeFrom_44 : decode cX8_takeFrom 44 = .ok (.getfield 18, 3) := by decide +kernel
theorem dX8_takeFrom_47 : decode cX8_takeFrom 47 = .ok (.iconst 0, 1) := by decide +kernel
theorem dX8_takeFrom_48 : decode cX8_takeFrom 48 = .ok (.bipush 16, 2) := by decide +kernel
theorem dX8_takeFrom_50 : decode cX8_takeFrom 50 = .ok (.invokestatic 66, 3) := by decide +kernel
theorem dX8_takeFrom_53 : decode cX8_takeFrom 53 = .ok (.iconst 0, 1) := by decide +kernel
theorem dX8_takeFrom_54 : decode cX8_takeFrom 54 = .ok (.istore_n 2, 1) := by decide +kernel
theorem dX8_takeFrom_55 : decode cX8_takeFrom 55 = .ok (.iload_n 2, 1) := by decide +kernel
theorem dX8_takeFrom_56 : decode cX8_takeFrom 56 = .ok (.iconst 3, 1) := by decide +kernel
theorem dX8_takeFrom_57 : decode cX8_takeFrom 57 = .ok (.if_icmp .ge 21, 3) := by decide +kernel
theorem dX8_takeFrom_60 : decode cX8_takeFrom 60 = .ok (.aload_n 0, 1) := by decide +kernel
theorem dX8_takeFrom_61 : decode cX8_takeFrom 61 = .ok (.getfield 21, 3) := by decide +kernel
theorem dX8_takeFrom_64 : decode cX8_takeFrom 64 = .ok (.iload_n 2, 1) := by decide +kernel
theorem dX8_takeFrom_65 : decode cX8_takeFrom 65 = .ok (.aload_n 1, 1) := by decide +kernel
theorem dX8_takeFrom_66 : decode cX8_takeFrom 66 = .ok (.getfield 21, 3) := by decide +kernel
theorem dX8_takeFrom_69 : decode cX8_takeFrom 69 = .ok (.iload_n 2, 1) := by decide +kernel
theorem dX8_takeFrom_70 : decode cX8_takeFrom 70 = .ok (.baload, 1) := by decide +kernel
theorem dX8_takeFrom_71 : decode cX8_takeFrom 71 = .ok (.bastore, 1) := by decide +kernel
theorem dX8_takeFrom_72 : decode cX8_takeFrom 72 = .ok (.iinc 2 1, 3) := by decide +kernel
theorem dX8_takeFrom_75 : decode cX8_takeFrom 75 = .ok (.goto (-20), 3) := by decide +kernel
theorem dX8_takeFrom_78 : decode cX8_takeFrom 78 = .ok (.aload_n 1, 1) := by decide +kernel
theorem dX8_takeFrom_79 : decode cX8_takeFrom 79 = .ok (.getfield 25, 3) := by decide +kernel
theorem dX8_takeFrom_82 : decode cX8_takeFrom 82 = .ok (.iconst 0, 1) := by decide +kernel
theorem dX8_takeFrom_83 : decode cX8_takeFrom 83 = .ok (.aload_n 0, 1) := by decide +kernel
theorem dX8_takeFrom_84 : decode cX8_takeFrom 84 = .ok (.getfield 25, 3) := by decide +kernel
theorem dX8_takeFrom_87 : decode cX8_takeFrom 87 = .ok (.iconst 0, 1) := by decide +kernel
theorem dX8_takeFrom_88 : decode cX8_takeFrom 88 = .ok (.bipush 16, 2) := by decide +kernel
theorem dX8_takeFrom_90 : decode cX8_takeFrom 90 = .ok (.invokestatic 66, 3) := by decide +kernel
theorem dX8_takeFrom_93 : decode cX8_takeFrom 93 = .ok (.aload_n 1, 1) := by decide +kernel
theorem dX8_takeFrom_94 : decode cX8_takeFrom 94 = .ok (.getfield 28, 3) := by decide +kernel
theorem dX8_takeFrom_97 : decode cX8_takeFrom 97 = .ok (.iconst 0, 1) := by decide +kernel
theorem dX8_takeFrom_98 : decode cX8_takeFrom 98 = .ok (.aload_n 0, 1) := by decide +kernel
theorem dX8_takeFrom_99 : decode cX8_takeFrom 99 = .ok (.getfield 28, 3) := by decide +kernel
theorem dX8_takeFrom_102 : decode cX8_takeFrom 102 = .ok (.iconst 0, 1) := by decide +kernel
theorem dX8_takeFrom_103 : decode cX8_takeFrom 103 = .ok (.bipush 16, 2) := by decide +kernel
theorem dX8_takeFrom_105 : decode cX8_takeFrom 105 = .ok (.invokestatic 66, 3) := by decide +kernel
theorem dX8_takeFrom_108 : decode cX8_takeFrom 108 = .ok (.aload_n 1, 1) := by decide +kernel
theorem dX8_takeFrom_109 : decode cX8_takeFrom 109 = .ok (.getfield 31, 3) := by decide +kernel
theorem dX8_takeFrom_112 : decode cX8_takeFrom 112 = .ok (.iconst 0, 1) := by decide +kernel
theorem dX8_takeFrom_113 : decode cX8_takeFrom 113 = .ok (.aload_n 0, 1) := by decide +kernel
theorem dX8_takeFrom_114 : decode cX8_takeFrom 114 = .ok (.getfield 31, 3) := by decide +kernel
theorem dX8_takeFrom_117 : decode cX8_takeFrom 117 = .ok (.iconst 0, 1) := by decide +kernel
theorem dX8_takeFrom_118 : decode cX8_takeFrom 118 = .ok (.bipush 16, 2) := by decide +kernel
theorem dX8_takeFrom_120 : decode cX8_takeFrom 120 = .ok (.invokestatic 66, 3) := by decide +kernel
theorem dX8_takeFrom_123 : decode cX8_takeFrom 123 = .ok (.aload_n 0, 1) := by decide +kernel
theorem dX8_takeFrom_124 : decode cX8_takeFrom 124 = .ok (.aload_n 1, 1) := by decide +kernel
theorem dX8_takeFrom_125 : decode cX8_takeFrom 125 = .ok (.getfield 34, 3) := by decide +kernel
theorem dX8_takeFrom_128 : decode cX8_takeFrom 128 = .ok (.putfield 34, 3) := by decide +kernel
theorem dX8_takeFrom_131 : decode cX8_takeFrom 131 = .ok (.return_, 1) := by decide +kernel
theorem dX8_addRow_0 : decode cX8_addRow 0 = .ok (.aload_n 0, 1) := by decide +kernel
theorem dX8_addRow_1 : decode cX8_addRow 1 = .ok (.getfield 34, 3) := by decide +kernel
theorem dX8_addRow_4 : decode cX8_addRow 4 = .ok (.bipush 16, 2) := by decide +kernel
theorem dX8_addRow_6 : decode cX8_addRow 6 = .ok (.if_icmp .lt 5, 3) := by decide +kernel
theorem dX8_addRow_9 : decode cX8_addRow 9 = .ok (.iconst (-1), 1) := by decide +kernel
theorem dX8_addRow_10 : decode cX8_addRow 10 = .ok (.ireturn, 1) := by decide +kernel
theorem dX8_addRow_11 : decode cX8_addRow 11 = .ok (.aload_n 0, 1) := by decide +kernel
theorem dX8_addRow_12 : decode cX8_addRow 12 = .ok (.getfield 25, 3) := by decide +kernel
theorem dX8_addRow_15 : decode cX8_addRow 15 = .ok (.aload_n 0, 1) := by decide +kernel
theorem dX8_addRow_16 : decode cX8_addRow 16 = .ok (.getfield 34, 3) := by decide +kernel
theorem dX8_addRow_19 : decode cX8_addRow 19 = .ok (.iload_n 1, 1) := by decide +kernel
theorem dX8_addRow_20 : decode cX8_addRow 20 = .ok (.iastore, 1) := by decide +kernel
theorem dX8_addRow_21 : decode cX8_addRow 21 = .ok (.aload_n 0, 1) := by decide +kernel
theorem dX8_addRow_22 : decode cX8_addRow 22 = .ok (.getfield 28, 3) := by decide +kernel
theorem dX8_addRow_25 : decode cX8_addRow 25 = .ok (.aload_n 0, 1) := by decide +kernel
theorem dX8_addRow_26 : decode cX8_addRow 26 = .ok (.getfield 34, 3) := by decide +kernel
theorem dX8_addRow_29 : decode cX8_addRow 29 = .ok (.iload_n 2, 1) := by decide +kernel
theorem dX8_addRow_30 : decode cX8_addRow 30 = .ok (.iastore, 1) := by decide +kernel
theorem dX8_addRow_31 : decode cX8_addRow 31 = .ok (.aload_n 0, 1) := by decide +kernel
theorem dX8_addRow_32 : decode cX8_addRow 32 = .ok (.getfield 31, 3) := by decide +kernel
theorem dX8_addRow_35 : decode cX8_addRow 35 = .ok (.aload_n 0, 1) := by decide +kernel
theorem dX8_addRow_36 : decode cX8_addRow 36 = .ok (.getfield 34, 3) := by decide +kernel
theorem dX8_addRow_39 : decode cX8_addRow 39 = .ok (.iload_n 3, 1) := by decide +kernel
theorem dX8_addRow_40 : decode cX8_addRow 40 = .ok (.iastore, 1) := by decide +kernel
theorem dX8_addRow_41 : decode cX8_addRow 41 = .ok (.aload_n 0, 1) := by decide +kernel
theorem dX8_addRow_42 : decode cX8_addRow 42 = .ok (.dup, 1) := by decide +kernel
theorem dX8_addRow_43 : decode cX8_addRow 43 = .ok (.getfield 34, 3) := by decide +kernel
theorem dX8_addRow_46 : decode cX8_addRow 46 = .ok (.iconst 1, 1) := by decide +kernel
theorem dX8_addRow_47 : decode cX8_addRow 47 = .ok (.iadd, 1) := by decide +kernel
theorem dX8_addRow_48 : decode cX8_addRow 48 = .ok (.putfield 34, 3) := by decide +kernel
theorem dX8_addRow_51 : decode cX8_addRow 51 = .ok (.aload_n 0, 1) := by decide +kernel
theorem dX8_addRow_52 : decode cX8_addRow 52 = .ok (.getfield 34, 3) := by decide +kernel
theorem dX8_addRow_55 : decode cX8_addRow 55 = .ok (.ireturn, 1) := by decide +kernel
theorem dX8_allows_0 : decode cX8_allows 0 = .ok (.iload_n 2, 1) := by decide +kernel
theorem dX8_allows_1 : decode cX8_allows 1 = .ok (.iload_n 3, 1) := by decide +kernel
theorem dX8_allows_2 : decode cX8_allows 2 = .ok (.invokestatic 72, 3) := by decide +kernel
theorem dX8_allows_5 : decode cX8_allows 5 = .ok (.istore 5, 2) := by decide +kernel
theorem dX8_allows_7 : decode cX8_allows 7 = .ok (.iload 5, 2) := by decide +kernel
theorem dX8_allows_9 : decode cX8_allows 9 = .ok (.iload 4, 2) := by decide +kernel
theorem dX8_allows_11 : decode cX8_allows 11 = .ok (.if_icmp .ne 5, 3) := by decide +kernel
theorem dX8_allows_14 : decode cX8_allows 14 = .ok (.iconst 1, 1) := by decide +kernel
theorem dX8_allows_15 : decode cX8_allows 15 = .ok (.ireturn, 1) := by decide +kernel
theorem dX8_allows_16 : decode cX8_allows 16 = .ok (.aload_n 0, 1) := by decide +kernel
theorem dX8_allows_17 : decode cX8_allows 17 = .ok (.getfield 9, 3) := by decide +kernel
theorem dX8_allows_20 : decode cX8_allows 20 = .ok (.iload_n 1, 1) := by decide +kernel
theorem dX8_allows_21 : decode cX8_allows 21 = .ok (.iaload, 1) := by decide +kernel
theorem dX8_allows_22 : decode cX8_allows 22 = .ok (.iconst (-1), 1) := by decide +kernel
theorem dX8_allows_23 : decode cX8_allows 23 = .ok (.if_icmp .eq 13, 3) := by decide +kernel
theorem dX8_allows_26 : decode cX8_allows 26 = .ok (.aload_n 0, 1) := by decide +kernel
theorem dX8_allows_27 : decode cX8_allows 27 = .ok (.getfield 9, 3) := by decide +kernel
theorem dX8_allows_30 : decode cX8_allows 30 = .ok (.iload_n 1, 1) := by decide +kernel
theorem dX8_allows_31 : decode cX8_allows 31 = .ok (.iaload, 1) := by decide +kernel
theorem dX8_allows_32 : decode cX8_allows 32 = .ok (.iload_n 3, 1) := by decide +kernel
theorem dX8_allows_33 : decode cX8_allows 33 = .ok (.if_icmp .ne 7, 3) := by decide +kernel
theorem dX8_allows_36 : decode cX8_allows 36 = .ok (.iconst 1, 1) := by decide +kernel
theorem dX8_allows_37 : decode cX8_allows 37 = .ok (.goto 4, 3) := by decide +kernel
theorem dX8_allows_40 : decode cX8_allows 40 = .ok (.iconst 0, 1) := by decide +kernel
theorem dX8_allows_41 : decode cX8_allows 41 = .ok (.istore 6, 2) := by decide +kernel
theorem dX8_allows_43 : decode cX8_allows 43 = .ok (.aload_n 0, 1) := by decide +kernel
theorem dX8_allows_44 : decode cX8_allows 44 = .ok (.getfield 21, 3) := by decide +kernel
theorem dX8_allows_47 : decode cX8_allows 47 = .ok (.iload_n 3, 1) := by decide +kernel
theorem dX8_allows_48 : decode cX8_allows 48 = .ok (.baload, 1) := by decide +kernel
theorem dX8_allows_49 : decode cX8_allows 49 = .ok (.ifCond .eq 17, 3) := by decide +kernel
theorem dX8_allows_52 : decode cX8_allows 52 = .ok (.iload 5, 2) := by decide +kernel
theorem dX8_allows_54 : decode cX8_allows 54 = .ok (.aload_n 0, 1) := by decide +kernel
theorem dX8_allows_55 : decode cX8_allows 55 = .ok (.getfield 51, 3) := by decide +kernel
theorem dX8_allows_58 : decode cX8_allows 58 = .ok (.getfield 76, 3) := by decide +kernel
theorem dX8_allows_61 : decode cX8_allows 61 = .ok (.iload_n 3, 1) := by decide +kernel
theorem dX8_allows_62 : decode cX8_allows 62 = .ok (.iaload, 1) := by decide +kernel
theorem dX8_allows_63 : decode cX8_allows 63 = .ok (.if_icmp .ne 7, 3) := by decide +kernel
theorem dX8_allows_66 : decode cX8_allows 66 = .ok (.iconst 1, 1) := by decide +kernel
theorem dX8_allows_67 : decode cX8_allows 67 = .ok (.goto 4, 3) := by decide +kernel
theorem dX8_allows_70 : decode cX8_allows 70 = .ok (.iconst 0, 1) := by decide +kernel
theorem dX8_allows_71 : decode cX8_allows 71 = .ok (.istore 7, 2) := by decide +kernel
theorem dX8_allows_73 : decode cX8_allows 73 = .ok (.iload 6, 2) := by decide +kernel
theorem dX8_allows_75 : decode cX8_allows 75 = .ok (.ifCond .eq 36, 3) := by decide +kernel
theorem dX8_allows_78 : decode cX8_allows 78 = .ok (.iload 7, 2) := by decide +kernel
theorem dX8_allows_80 : decode cX8_allows 80 = .ok (.ifCond .eq 31, 3) := by decide +kernel
theorem dX8_allows_83 : decode cX8_allows 83 = .ok (.aload_n 0, 1) := by decide +kernel
theorem dX8_allows_84 : decode cX8_allows 84 = .ok (.getfield 51, 3) := by decide +kernel
theorem dX8_allows_87 : decode cX8_allows 87 = .ok (.getfield 79, 3) := by decide +kernel
theorem dX8_allows_90 : decode cX8_allows 90 = .ok (.iload_n 2, 1) := by decide +kernel
theorem dX8_allows_91 : decode cX8_allows 91 = .ok (.iload 4, 2) := by decide +kernel
theorem dX8_allows_93 : decode cX8_allows 93 = .ok (.iload 5, 2) := by decide +kernel
theorem dX8_allows_95 : decode cX8_allows 95 = .ok (.isub, 1) := by decide +kernel
theorem dX8_allows_96 : decode cX8_allows 96 = .ok (.getstatic 82, 3) := by decide +kernel
theorem dX8_allows_99 : decode cX8_allows 99 = .ok (.iload_n 3, 1) := by decide +kernel
theorem dX8_allows_100 : decode cX8_allows 100 = .ok (.iaload, 1) := by decide +kernel
theorem dX8_allows_101 : decode cX8_allows 101 = .ok (.imul, 1) := by decide +kernel
theorem dX8_allows_102 : decode cX8_allows 102 = .ok (.iadd, 1) := by decide +kernel
theorem dX8_allows_103 : decode cX8_allows 103 = .ok (.baload, 1) := by decide +kernel
theorem dX8_allows_104 : decode cX8_allows 104 = .ok (.ifCond .ne 7, 3) := by decide +kernel
theorem dX8_allows_107 : decode cX8_allows 107 = .ok (.iconst 1, 1) := by decide +kernel
theorem dX8_allows_108 : decode cX8_allows 108 = .ok (.goto 4, 3) := by decide +kernel
theorem dX8_allows_111 : decode cX8_allows 111 = .ok (.iconst 0, 1) := by decide +kernel
theorem dX8_allows_112 : decode cX8_allows 112 = .ok (.ireturn, 1) := by decide +kernel
theorem dX8_gatherActs_0 : decode cX8_gatherActs 0 = .ok (.aload_n 0, 1) := by decide +kernel
theorem dX8_gatherActs_1 : decode cX8_gatherActs 1 = .ok (.getfield 42, 3) := by decide +kernel
theorem dX8_gatherActs_4 : decode cX8_gatherActs 4 = .ok (.iconst 0, 1) := by decide +kernel
theorem dX8_gatherActs_5 : decode cX8_gatherActs 5 = .ok (.iload_n 2, 1) := by decide +kernel
theorem dX8_gatherActs_6 : decode cX8_gatherActs 6 = .ok (.iastore, 1) := by decide +kernel
theorem dX8_gatherActs_7 : decode cX8_gatherActs 7 = .ok (.aload_n 0, 1) := by decide +kernel
theorem dX8_gatherActs_8 : decode cX8_gatherActs 8 = .ok (.getfield 45, 3) := by decide +kernel
theorem dX8_gatherActs_11 : decode cX8_gatherActs 11 = .ok (.iconst 0, 1) := by decide +kernel
theorem dX8_gatherActs_12 : decode cX8_gatherActs 12 = .ok (.iconst 0, 1) := by decide +kernel
theorem dX8_gatherActs_13 : decode cX8_gatherActs 13 = .ok (.iastore, 1) := by decide +kernel
theorem dX8_gatherActs_14 : decode cX8_gatherActs 14 = .ok (.aload_n 0, 1) := by decide +kernel
theorem dX8_gatherActs_15 : decode cX8_gatherActs 15 = .ok (.iconst 1, 1) := by decide +kernel
theorem dX8_gatherActs_16 : decode cX8_gatherActs 16 = .ok (.putfield 48, 3) := by decide +kernel
theorem dX8_gatherActs_19 : decode cX8_gatherActs 19 = .ok (.iconst 0, 1) := by decide +kernel
theorem dX8_gatherActs_20 : decode cX8_gatherActs 20 = .ok (.istore_n 3, 1) := by decide +kernel
theorem dX8_gatherActs_21 : decode cX8_gatherActs 21 = .ok (.iload_n 3, 1) := by decide +kernel
theorem dX8_gatherActs_22 : decode cX8_gatherActs 22 = .ok (.aload_n 0, 1) := by decide +kernel
theorem dX8_gatherActs_23 : decode cX8_gatherActs 23 = .ok (.getfield 51, 3) := by decide +kernel
theorem dX8_gatherActs_26 : decode cX8_gatherActs 26 = .ok (.getfield 85, 3) := by decide +kernel
theorem dX8_gatherActs_29 : decode cX8_gatherActs 29 = .ok (.if_icmp .ge 107, 3) := by decide +kernel
theorem dX8_gatherActs_32 : decode cX8_gatherActs 32 = .ok (.iconst 0, 1) := by decide +kernel
theorem dX8_gatherActs_33 : decode cX8_gatherActs 33 = .ok (.istore 4, 2) := by decide +kernel
theorem dX8_gatherActs_35 : decode cX8_gatherActs 35 = .ok (.iload 4, 2) := by decide +kernel
theorem dX8_gatherActs_37 : decode cX8_gatherActs 37 = .ok (.aload_n 0, 1) := by decide +kernel
theorem dX8_gatherActs_38 : decode cX8_gatherActs 38 = .ok (.getfield 51, 3) := by decide +kernel
theorem dX8_gatherActs_41 : decode cX8_gatherActs 41 = .ok (.getfield 88, 3) := by decide +kernel
theorem dX8_gatherActs_44 : decode cX8_gatherActs 44 = .ok (.iload_n 3, 1) := by decide +kernel
theorem dX8_gatherActs_45 : decode cX8_gatherActs 45 = .ok (.iaload, 1) := by decide +kernel
theorem dX8_gatherActs_46 : decode cX8_gatherActs 46 = .ok (.if_icmp .ge 84, 3) := by decide +kernel
theorem dX8_gatherActs_49 : decode cX8_gatherActs 49 = .ok (.iload_n 2, 1) := by decide +kernel
theorem dX8_gatherActs_50 : decode cX8_gatherActs 50 = .ok (.iload_n 3, 1) := by decide +kernel
theorem dX8_gatherActs_51 : decode cX8_gatherActs 51 = .ok (.iload 4, 2) := by decide +kernel
theorem dX8_gatherActs_53 : decode cX8_gatherActs 53 = .ok (.invokestatic 91, 3) := by decide +kernel
theorem dX8_gatherActs_56 : decode cX8_gatherActs 56 = .ok (.istore 5, 2) := by decide +kernel
theorem dX8_gatherActs_58 : decode cX8_gatherActs 58 = .ok (.iload 5, 2) := by decide +kernel
theorem dX8_gatherActs_60 : decode cX8_gatherActs 60 = .ok (.iload_n 2, 1) := by decide +kernel
theorem dX8_gatherActs_61 : decode cX8_gatherActs 61 = .ok (.if_icmp .eq 63, 3) := by decide +kernel
theorem dX8_gatherActs_64 : decode cX8_gatherActs 64 = .ok (.aload_n 0, 1) := by decide +kernel
theorem dX8_gatherActs_65 : decode cX8_gatherActs 65 = .ok (.getfield 48, 3) := by decide +kernel
theorem dX8_gatherActs_68 : decode cX8_gatherActs 68 = .ok (.bipush 7, 2) := by decide +kernel
theorem dX8_gatherActs_70 : decode cX8_gatherActs 70 = .ok (.if_icmp .ge 54, 3) := by decide +kernel
theorem dX8_gatherActs_73 : decode cX8_gatherActs 73 = .ok (.aload_n 0, 1) := by decide +kernel
theorem dX8_gatherActs_74 : decode cX8_gatherActs 74 = .ok (.iload_n 1, 1) := by decide +kernel
theorem dX8_gatherActs_75 : decode cX8_gatherActs 75 = .ok (.iload_n 2, 1) := by decide +kernel
theorem dX8_gatherActs_76 : decode cX8_gatherActs 76 = .ok (.iload_n 3, 1) := by decide +kernel
theorem dX8_gatherActs_77 : decode cX8_gatherActs 77 = .ok (.iload 4, 2) := by decide +kernel
theorem dX8_gatherActs_79 : decode cX8_gatherActs 79 = .ok (.invokevirtual 95, 3) := by decide +kernel
theorem dX8_gatherActs_82 : decode cX8_gatherActs 82 = .ok (.ifCond .eq 42, 3) := by decide +kernel
theorem dX8_gatherActs_85 : decode cX8_gatherActs 85 = .ok (.aload_n 0, 1) := by decide +kernel
theorem dX8_gatherActs_86 : decode cX8_gatherActs 86 = .ok (.getfield 42, 3) := by decide +kernel
theorem dX8_gatherActs_89 : decode cX8_gatherActs 89 = .ok (.aload_n 0, 1) := by decide +kernel
theorem dX8_gatherActs_90 : decode cX8_gatherActs 90 = .ok (.getfield 48, 3) := by decide +kernel
theorem dX8_gatherActs_93 : decode cX8_gatherActs 93 = .ok (.iload 5, 2) := by decide +kernel
theorem dX8_gatherActs_95 : decode cX8_gatherActs 95 = .ok (.iastore, 1) := by decide +kernel
theorem dX8_gatherActs_96 : decode cX8_gatherActs 96 = .ok (.aload_n 0, 1) := by decide +kernel
theorem dX8_gatherActs_97 : decode cX8_gatherActs 97 = .ok (.getfield 45, 3) := by decide +kernel
theorem dX8_gatherActs_100 : decode cX8_gatherActs 100 = .ok (.aload_n 0, 1) := by decide +kernel
theorem dX8_gatherActs_101 : decode cX8_gatherActs 101 = .ok (.getfield 48, 3) := by decide +kernel
theorem dX8_gatherActs_104 : decode cX8_gatherActs 104 = .ok (.aload_n 0, 1) := by decide +kernel
theorem dX8_gatherActs_105 : decode cX8_gatherActs 105 = .ok (.getfield 51, 3) := by decide +kernel
theorem dX8_gatherActs_108 : decode cX8_gatherActs 108 = .ok (.getfield 99, 3) := by decide +kernel
theorem dX8_gatherActs_111 : decode cX8_gatherActs 111 = .ok (.iload_n 3, 1) := by decide +kernel
theorem dX8_gatherActs_112 : decode cX8_gatherActs 112 = .ok (.iaload, 1) := by decide +kernel
theorem dX8_gatherActs_113 : decode cX8_gatherActs 113 = .ok (.iastore, 1) := by decide +kernel
theorem dX8_gatherActs_114 : decode cX8_gatherActs 114 = .ok (.aload_n 0, 1) := by decide +kernel
theorem dX8_gatherActs_115 : decode cX8_gatherActs 115 = .ok (.dup, 1) := by decide +kernel
theorem dX8_gatherActs_116 : decode cX8_gatherActs 116 = .ok (.getfield 48, 3) := by decide +kernel
theorem dX8_gatherActs_119 : decode cX8_gatherActs 119 = .ok (.iconst 1, 1) := by decide +kernel
theorem dX8_gatherActs_120 : decode cX8_gatherActs 120 = .ok (.iadd, 1) := by decide +kernel
theorem dX8_gatherActs_121 : decode cX8_gatherActs 121 = .ok (.putfield 48, 3) := by decide +kernel
theorem dX8_gatherActs_124 : decode cX8_gatherActs 124 = .ok (.iinc 4 1, 3) := by decide +kernel
theorem dX8_gatherActs_127 : decode cX8_gatherActs 127 = .ok (.goto (-92), 3) := by decide +kernel
theorem dX8_gatherActs_130 : decode cX8_gatherActs 130 = .ok (.iinc 3 1, 3) := by decide +kernel
theorem dX8_gatherActs_133 : decode cX8_gatherActs 133 = .ok (.goto (-112), 3) := by decide +kernel
theorem dX8_gatherActs_136 : decode cX8_gatherActs 136 = .ok (.return_, 1) := by decide +kernel
theorem dX8_leadsTo_0 : decode cX8_leadsTo 0 = .ok (.aload_n 0, 1) := by decide +kernel
theorem dX8_leadsTo_1 : decode cX8_leadsTo 1 = .ok (.getfield 51, 3) := by decide +kernel
theorem dX8_leadsTo_4 : decode cX8_leadsTo 4 = .ok (.iload_n 2, 1) := by decide +kernel
theorem dX8_leadsTo_5 : decode cX8_leadsTo 5 = .ok (.iload_n 3, 1) := by decide +kernel
theorem dX8_leadsTo_6 : decode cX8_leadsTo 6 = .ok (.invokevirtual 102, 3) := by decide +kernel
theorem dX8_leadsTo_9 : decode cX8_leadsTo 9 = .ok (.istore 4, 2) := by decide +kernel
theorem dX8_leadsTo_11 : decode cX8_leadsTo 11 = .ok (.iload 4, 2) := by decide +kernel
theorem dX8_leadsTo_13 : decode cX8_leadsTo 13 = .ok (.iconst (-1), 1) := by decide +kernel
theorem dX8_leadsTo_14 : decode cX8_leadsTo 14 = .ok (.if_icmp .ne 5, 3) := by decide +kernel
theorem dX8_leadsTo_17 : decode cX8_leadsTo 17 = .ok (.iconst 1, 1) := by decide +kernel
theorem dX8_leadsTo_18 : decode cX8_leadsTo 18 = .ok (.ireturn, 1) := by decide +kernel
theorem dX8_leadsTo_19 : decode cX8_leadsTo 19 = .ok (.iload_n 3, 1) := by decide +kernel
theorem dX8_leadsTo_20 : decode cX8_leadsTo 20 = .ok (.iload 4, 2) := by decide +kernel
theorem dX8_leadsTo_22 : decode cX8_leadsTo 22 = .ok (.invokestatic 72, 3) := by decide +kernel
theorem dX8_leadsTo_25 : decode cX8_leadsTo 25 = .ok (.istore 5, 2) := by decide +kernel
theorem dX8_leadsTo_27 : decode cX8_leadsTo 27 = .ok (.iload_n 2, 1) := by decide +kernel
theorem dX8_leadsTo_28 : decode cX8_leadsTo 28 = .ok (.iload 4, 2) := by decide +kernel
theorem dX8_leadsTo_30 : decode cX8_leadsTo 30 = .ok (.iload 5, 2) := by decide +kernel
theorem dX8_leadsTo_32 : decode cX8_leadsTo 32 = .ok (.invokestatic 91, 3) := by decide +kernel
theorem dX8_leadsTo_35 : decode cX8_leadsTo 35 = .ok (.iload_n 3, 1) := by decide +kernel
theorem dX8_leadsTo_36 : decode cX8_leadsTo 36 = .ok (.if_icmp .ne 20, 3) := by decide +kernel
theorem dX8_leadsTo_39 : decode cX8_leadsTo 39 = .ok (.aload_n 0, 1) := by decide +kernel
theorem dX8_leadsTo_40 : decode cX8_leadsTo 40 = .ok (.iload_n 1, 1) := by decide +kernel
theorem dX8_leadsTo_41 : decode cX8_leadsTo 41 = .ok (.iload_n 2, 1) := by decide +kernel
theorem dX8_leadsTo_42 : decode cX8_leadsTo 42 = .ok (.iload 4, 2) := by decide +kernel
theorem dX8_leadsTo_44 : decode cX8_leadsTo 44 = .ok (.iload 5, 2) := by decide +kernel
theorem dX8_leadsTo_46 : decode cX8_leadsTo 46 = .ok (.invokevirtual 95, 3) := by decide +kernel
theorem dX8_leadsTo_49 : decode cX8_leadsTo 49 = .ok (.ifCond .eq 7, 3) := by decide +kernel
theorem dX8_leadsTo_52 : decode cX8_leadsTo 52 = .ok (.iconst 1, 1) := by decide +kernel
theorem dX8_leadsTo_53 : decode cX8_leadsTo 53 = .ok (.goto 4, 3) := by decide +kernel
theorem dX8_leadsTo_56 : decode cX8_leadsTo 56 = .ok (.iconst 0, 1) := by decide +kernel
theorem dX8_leadsTo_57 : decode cX8_leadsTo 57 = .ok (.ireturn, 1) := by decide +kernel
theorem dX8_standsIfDone_0 : decode cX8_standsIfDone 0 = .ok (.iload_n 3, 1) := by decide +kernel
theorem dX8_standsIfDone_1 : decode cX8_standsIfDone 1 = .ok (.iconst (-1), 1) := by decide +kernel
theorem dX8_standsIfDone_2 : decode cX8_standsIfDone 2 = .ok (.if_icmp .eq 15, 3) := by decide +kernel
theorem dX8_standsIfDone_5 : decode cX8_standsIfDone 5 = .ok (.aload_n 0, 1) := by decide +kernel
theorem dX8_standsIfDone_6 : decode cX8_standsIfDone 6 = .ok (.iload_n 1, 1) := by decide +kernel
theorem dX8_standsIfDone_7 : decode cX8_standsIfDone 7 = .ok (.iload_n 2, 1) := by decide +kernel
theorem dX8_standsIfDone_8 : decode cX8_standsIfDone 8 = .ok (.iload_n 3, 1) := by decide +kernel
theorem dX8_standsIfDone_9 : decode cX8_standsIfDone 9 = .ok (.iload 4, 2) := by decide +kernel
theorem dX8_standsIfDone_11 : decode cX8_standsIfDone 11 = .ok (.invokevirtual 95, 3) := by decide +kernel
theorem dX8_standsIfDone_14 : decode cX8_standsIfDone 14 = .ok (.ifCond .ne 5, 3) := by decide +kernel
theorem dX8_standsIfDone_17 : decode cX8_standsIfDone 17 = .ok (.iload_n 2, 1) := by decide +kernel
theorem dX8_standsIfDone_18 : decode cX8_standsIfDone 18 = .ok (.ireturn, 1) := by decide +kernel
theorem dX8_standsIfDone_19 : decode cX8_standsIfDone 19 = .ok (.iload_n 2, 1) := by decide +kernel
theorem dX8_standsIfDone_20 : decode cX8_standsIfDone 20 = .ok (.iload_n 3, 1) := by decide +kernel
theorem dX8_standsIfDone_21 : decode cX8_standsIfDone 21 = .ok (.iload 4, 2) := by decide +kernel
theorem dX8_standsIfDone_23 : decode cX8_standsIfDone 23 = .ok (.invokestatic 91, 3) := by decide +kernel
theorem dX8_standsIfDone_26 : decode cX8_standsIfDone 26 = .ok (.ireturn, 1) := by decide +kernel
theorem dX8_isPledged_0 : decode cX8_isPledged 0 = .ok (.aload_n 0, 1) := by decide +kernel
theorem dX8_isPledged_1 : decode cX8_isPledged 1 = .ok (.getfield 15, 3) := by decide +kernel
theorem dX8_isPledged_4 : decode cX8_isPledged 4 = .ok (.iload_n 1, 1) := by decide +kernel
theorem dX8_isPledged_5 : decode cX8_isPledged 5 = .ok (.iaload, 1) := by decide +kernel
theorem dX8_isPledged_6 : decode cX8_isPledged 6 = .ok (.iconst (-1), 1) := by decide +kernel
theorem dX8_isPledged_7 : decode cX8_isPledged 7 = .ok (.if_icmp .eq 7, 3) := by decide +kernel
theorem dX8_isPledged_10 : decode cX8_isPledged 10 = .ok (.iconst 1, 1) := by decide +kernel
theorem dX8_isPledged_11 : decode cX8_isPledged 11 = .ok (.goto 4, 3) := by decide +kernel
theorem dX8_isPledged_14 : decode cX8_isPledged 14 = .ok (.iconst 0, 1) := by decide +kernel
theorem dX8_isPledged_15 : decode cX8_isPledged 15 = .ok (.ireturn, 1) := by decide +kernel
theorem dX9_init_0 : decode cX9_init 0 = .ok (.aload_n 0, 1) := by decide +kernel
theorem dX9_init_1 : decode cX9_init 1 = .ok (.invokespecial 3, 3) := by decide +kernel
theorem dX9_init_4 : decode cX9_init 4 = .ok (.aload_n 0, 1) := by decide +kernel
theorem dX9_init_5 : decode cX9_init 5 = .ok (.iconst 0, 1) := by decide +kernel
theorem dX9_init_6 : decode cX9_init 6 = .ok (.putfield 9, 3) := by decide +kernel
theorem dX9_init_9 : decode cX9_init 9 = .ok (.aload_n 0, 1) := by decide +kernel
theorem dX9_init_10 : decode cX9_init 10 = .ok (.iconst 3, 1) := by decide +kernel
theorem dX9_init_11 : decode cX9_init 11 = .ok (.newarray .int, 2) := by decide +kernel
theorem dX9_init_13 : decode cX9_init 13 = .ok (.putfield 15, 3) := by decide +kernel
theorem dX9_init_16 : decode cX9_init 16 = .ok (.aload_n 0, 1) := by decide +kernel
theorem dX9_init_17 : decode cX9_init 17 = .ok (.iconst 3, 1) := by decide +kernel
theorem dX9_init_18 : decode cX9_init 18 = .ok (.newarray .int, 2) := by decide +kernel
theorem dX9_init_20 : decode cX9_init 20 = .ok (.putfield 19, 3) := by decide +kernel
theorem dX9_init_23 : decode cX9_init 23 = .ok (.aload_n 0, 1) := by decide +kernel
theorem dX9_init_24 : decode cX9_init 24 = .ok (.iconst 3, 1) := by decide +kernel
theorem dX9_init_25 : decode cX9_init 25 = .ok (.newarray .int, 2) := by decide +kernel
theorem dX9_init_27 : decode cX9_init 27 = .ok (.putfield 22, 3) := by decide +kernel
theorem dX9_init_30 : decode cX9_init 30 = .ok (.aload_n 0, 1) := by decide +kernel
theorem dX9_init_31 : decode cX9_init 31 = .ok (.iconst 3, 1) := by decide +kernel
theorem dX9_init_32 : decode cX9_init 32 = .ok (.newarray .boolean, 2) := by decide +kernel
theorem dX9_init_34 : decode cX9_init 34 = .ok (.putfield 25, 3) := by decide +kernel
theorem dX9_init_37 : decode cX9_init 37 = .ok (.aload_n 0, 1) := by decide +kernel
theorem dX9_init_38 : decode cX9_init 38 = .ok (.iconst 0, 1) := by decide +kernel
theorem dX9_init_39 : decode cX9_init 39 = .ok (.putfield 29, 3) := by decide +kernel
theorem dX9_init_42 : decode cX9_init 42 = .ok (.aload_n 0, 1) := by decide +kernel
theorem dX9_init_43 : decode cX9_init 43 = .ok (.iconst 4, 1) := by decide +kernel
theorem dX9_init_44 : decode cX9_init 44 = .ok (.newarray .int, 2) := by decide +kernel
theorem dX9_init_46 : decode cX9_init 46 = .ok (.putfield 32, 3) := by decide +kernel
theorem dX9_init_49 : decode cX9_init 49 = .ok (.aload_n 0, 1) := by decide +kernel
theorem dX9_init_50 : decode cX9_init 50 = .ok (.iconst 4, 1) := by decide +kernel
theorem dX9_init_51 : decode cX9_init 51 = .ok (.anewarray 35, 3) := by decide +kernel
theorem dX9_init_54 : decode cX9_init 54 = .ok (.putfield 37, 3) := by decide +kernel
theorem dX9_init_57 : decode cX9_init 57 = .ok (.aload_n 0, 1) := by decide +kernel
theorem dX9_init_58 : decode cX9_init 58 = .ok (.bipush 16, 2) := by decide +kernel
theorem dX9_init_60 : decode cX9_init 60 = .ok (.newarray .int, 2) := by decide +kernel
theorem dX9_init_62 : decode cX9_init 62 = .ok (.putfield 41, 3) := by decide +kernel
theorem dX9_init_65 : decode cX9_init 65 = .ok (.aload_n 0, 1) := by decide +kernel
theorem dX9_init_66 : decode cX9_init 66 = .ok (.iconst 0, 1) := by decide +kernel
theorem dX9_init_67 : decode cX9_init 67 = .ok (.putfield 44, 3) := by decide +kernel
theorem dX9_init_70 : decode cX9_init 70 = .ok (.aload_n 0, 1) := by decide +kernel
theorem dX9_init_71 : decode cX9_init 71 = .ok (.iconst 4, 1) := by decide +kernel
theorem dX9_init_72 : decode cX9_init 72 = .ok (.anewarray 35, 3) := by decide +kernel
theorem dX9_init_75 : decode cX9_init 75 = .ok (.putfield 47, 3) := by decide +kernel
theorem dX9_init_78 : decode cX9_init 78 = .ok (.aload_n 0, 1) := by decide +kernel
theorem dX9_init_79 : decode cX9_init 79 = .ok (.iconst 4, 1) := by decide +kernel
theorem dX9_init_80 : decode cX9_init 80 = .ok (.putfield 50, 3) := by decide +kernel
theorem dX9_init_83 : decode cX9_init 83 = .ok (.aload_n 0, 1) := by decide +kernel
theorem dX9_init_84 : decode cX9_init 84 = .ok (.bipush 8, 2) := by decide +kernel
theorem dX9_init_86 : decode cX9_init 86 = .ok (.putfield 53, 3) := by decide +kernel
theorem dX9_init_89 : decode cX9_init 89 = .ok (.aload_n 0, 1) := by decide +kernel
theorem dX9_init_90 : decode cX9_init 90 = .ok (.iconst 1, 1) := by decide +kernel
theorem dX9_init_91 : decode cX9_init 91 = .ok (.putfield 56, 3) := by decide +kernel
theorem dX9_init_94 : decode cX9_init 94 = .ok (.aload_n 0, 1) := by decide +kernel
theorem dX9_init_95 : decode cX9_init 95 = .ok (.bipush 27, 2) := by decide +kernel
theorem dX9_init_97 : decode cX9_init 97 = .ok (.newarray .int, 2) := by decide +kernel
theorem dX9_init_99 : decode cX9_init 99 = .ok (.putfield 59, 3) := by decide +kernel
theorem dX9_init_102 : decode cX9_init 102 = .ok (.aload_n 0, 1) := by decide +kernel
theorem dX9_init_103 : decode cX9_init 103 = .ok (.bipush 27, 2) := by decide +kernel
theorem dX9_init_105 : decode cX9_init 105 = .ok (.newarray .boolean, 2) := by decide +kernel
theorem dX9_init_107 : decode cX9_init 107 = .ok (.putfield 62, 3) := by decide +kernel
theorem dX9_init_110 : decode cX9_init 110 = .ok (.aload_n 0, 1) := by decide +kernel
theorem dX9_init_111 : decode cX9_init 111 = .ok (.bipush 32, 2) := by decide +kernel
theorem dX9_init_113 : decode cX9_init 113 = .ok (.newarray .int, 2) := by decide +kernel
theorem dX9_init_115 : decode cX9_init 115 = .ok (.putfield 65, 3) := by decide +kernel
theorem dX9_init_118 : decode cX9_init 118 = .ok (.aload_n 0, 1) := by decide +kernel
theorem dX9_init_119 : decode cX9_init 119 = .ok (.getfield 41, 3) := by decide +kernel
theorem dX9_init_122 : decode cX9_init 122 = .ok (.bipush (-2), 2) := by decide +kernel
theorem dX9_init_124 : decode cX9_init 124 = .ok (.invokestatic 68, 3) := by decide +kernel
theorem dX9_init_127 : decode cX9_init 127 = .ok (.return_, 1) := by decide +kernel
theorem dX9_stateOf_0 : decode cX9_stateOf 0 = .ok (.iload_n 1, 1) := by decide +kernel
theorem dX9_stateOf_1 : decode cX9_stateOf 1 = .ok (.ifCond .lt 8, 3) := by decide +kernel
theorem dX9_stateOf_4 : decode cX9_stateOf 4 = .ok (.iload_n 1, 1) := by decide +kernel
theorem dX9_stateOf_5 : decode cX9_stateOf 5 = .ok (.iconst 3, 1) := by decide +kernel
theorem dX9_stateOf_6 : decode cX9_stateOf 6 = .ok (.if_icmp .lt 5, 3) := by decide +kernel
theorem dX9_stateOf_9 : decode cX9_stateOf 9 = .ok (.iconst 0, 1) := by decide +kernel
theorem dX9_stateOf_10 : decode cX9_stateOf 10 = .ok (.ireturn, 1) := by decide +kernel
theorem dX9_stateOf_11 : decode cX9_stateOf 11 = .ok (.iload_n 0, 1) := by decide +kernel
theorem dX9_stateOf_12 : decode cX9_stateOf 12 = .ok (.getstatic 74, 3) := by decide +kernel
theorem dX9_stateOf_15 : decode cX9_stateOf 15 = .ok (.iload_n 1, 1) := by decide +kernel
theorem dX9_stateOf_16 : decode cX9_stateOf 16 = .ok (.iaload, 1) := by decide +kernel
theorem dX9_stateOf_17 : decode cX9_stateOf 17 = .ok (.idiv, 1) := by decide +kernel
theorem dX9_stateOf_18 : decode cX9_stateOf 18 = .ok (.iconst 3, 1) := by decide +kernel
theorem dX9_stateOf_19 : decode cX9_stateOf 19 = .ok (.irem, 1) := by decide +kernel
theorem dX9_stateOf_20 : decode cX9_stateOf 20 = .ok (.ireturn, 1) := by decide +kernel
theorem dX9_changed_0 : decode cX9_changed 0 = .ok (.iload_n 1, 1) := by decide +kernel
theorem dX9_changed_1 : decode cX9_changed 1 = .ok (.ifCond .lt 8, 3) := by decide +kernel
theorem dX9_changed_4 : decode cX9_changed 4 = .ok (.iload_n 1, 1) := by decide +kernel
theorem dX9_changed_5 : decode cX9_changed 5 = .ok (.iconst 3, 1) := by decide +kernel
theorem dX9_changed_6 : decode cX9_changed 6 = .ok (.if_icmp .lt 5, 3) := by decide +kernel
theorem dX9_changed_9 : decode cX9_changed 9 = .ok (.iload_n 0, 1) := by decide +kernel
theorem dX9_changed_10 : decode cX9_changed 10 = .ok (.ireturn, 1) := by decide +kernel
theorem dX9_changed_11 : decode cX9_changed 11 = .ok (.iload_n 0, 1) := by decide +kernel
theorem dX9_changed_12 : decode cX9_changed 12 = .ok (.iload_n 2, 1) := by decide +kernel
theorem dX9_changed_13 : decode cX9_changed 13 = .ok (.iload_n 0, 1) := by decide +kernel
theorem dX9_changed_14 : decode cX9_changed 14 = .ok (.iload_n 1, 1) := by decide +kernel
theorem dX9_changed_15 : decode cX9_changed 15 = .ok (.invokestatic 77, 3) := by decide +kernel
theorem dX9_changed_18 : decode cX9_changed 18 = .ok (.isub, 1) := by decide +kernel
theorem dX9_changed_19 : decode cX9_changed 19 = .ok (.getstatic 74, 3) := by decide +kernel
theorem dX9_changed_22 : decode cX9_changed 22 = .ok (.iload_n 1, 1) := by decide +kernel
theorem dX9_changed_23 : decode cX9_changed 23 = .ok (.iaload, 1) := by decide +kernel
theorem dX9_changed_24 : decode cX9_changed 24 = .ok (.imul, 1) := by decide +kernel
theorem dX9_changed_25 : decode cX9_changed 25 = .ok (.iadd, 1) := by decide +kernel
theorem dX9_changed_26 : decode cX9_changed 26 = .ok (.ireturn, 1) := by decide +kernel
theorem dX9_hasThing_0 : decode cX9_hasThing 0 = .ok (.iload_n 1, 1) := by decide +kernel
theorem dX9_hasThing_1 : decode cX9_hasThing 1 = .ok (.ifCond .lt 15, 3) := by decide +kernel
theorem dX9_hasThing_4 : decode cX9_hasThing 4 = .ok (.iload_n 1, 1) := by decide +kernel
theorem dX9_hasThing_5 : decode cX9_hasThing 5 = .ok (.aload_n 0, 1) := by decide +kernel
theorem dX9_hasThing_6 : decode cX9_hasThing 6 = .ok (.getfield 9, 3) := by decide +kernel
theorem dX9_hasThing_9 : decode cX9_hasThing 9 = .ok (.if_icmp .ge 7, 3) := by decide +kernel
theorem dX9_hasThing_12 : decode cX9_hasThing 12 = .ok (.iconst 1, 1) := by decide +kernel
theorem dX9_hasThing_13 : decode cX9_hasThing 13 = .ok (.goto 4, 3) := by decide +kernel
theorem dX9_hasThing_16 : decode cX9_hasThing 16 = .ok (.iconst 0, 1) := by decide +kernel
theorem dX9_hasThing_17 : decode cX9_hasThing 17 = .ok (.ireturn, 1) := by decide +kernel
theorem dX9_hasState_0 : decode cX9_hasState 0 = .ok (.aload_n 0, 1) := by decide +kernel
theorem dX9_hasState_1 : decode cX9_hasState 1 = .ok (.iload_n 1, 1) := by decide +kernel
theorem dX9_hasState_2 : decode cX9_hasState 2 = .ok (.invokevirtual 81, 3) := by decide +kernel
theorem dX9_hasState_5 : decode cX9_hasState 5 = .ok (.ifCond .eq 21, 3) := by decide +kernel
theorem dX9_hasState_8 : decode cX9_hasState 8 = .ok (.iload_n 2, 1) := by decide +kernel
theorem dX9_hasState_9 : decode cX9_hasState 9 = .ok (.ifCond .lt 17, 3) := by decide +kernel
theorem dX9_hasState_12 : decode cX9_hasState 12 = .ok (.iload_n 2, 1) := by decide +kernel
theorem dX9_hasState_13 : decode cX9_hasState 13 = .ok (.aload_n 0, 1) := by decide +kernel
theorem dX9_hasState_14 : decode cX9_hasState 14 = .ok (.getfield 15, 3) := by decide +kernel
theorem dX9_hasState_17 : decode cX9_hasState 17 = .ok (.iload_n 1, 1) := by decide +kernel
theorem dX9_hasState_18 : decode cX9_hasState 18 = .ok (.iaload, 1) := by decide +kernel
theorem dX9_hasState_19 : decode cX9_hasState 19 = .ok (.if_icmp .ge 7, 3) := by decide +kernel
theorem dX9_hasState_22 : decode cX9_hasState 22 = .ok (.iconst 1, 1) := by decide +kernel
theorem dX9_hasState_23 : decode cX9_hasState 23 = .ok (.goto 4, 3) := by decide +kernel
theorem dX9_hasState_26 : decode cX9_hasState 26 = .ok (.iconst 0, 1) := by decide +kernel
theorem dX9_hasState_27 : decode cX9_hasState 27 = .ok (.ireturn, 1) := by decide +kernel
theorem dX9_hasSort_0 : decode cX9_hasSort 0 = .ok (.iload_n 1, 1) := by decide +kernel
theorem dX9_hasSort_1 : decode cX9_hasSort 1 = .ok (.ifCond .lt 15, 3) := by decide +kernel
theorem dX9_hasSort_4 : decode cX9_hasSort 4 = .ok (.iload_n 1, 1) := by decide +kernel
theorem dX9_hasSort_5 : decode cX9_hasSort 5 = .ok (.aload_n 0, 1) := by decide +kernel
theorem dX9_hasSort_6 : decode cX9_hasSort 6 = .ok (.getfield 29, 3) := by decide +kernel
theorem dX9_hasSort_9 : decode cX9_hasSort 9 = .ok (.if_icmp .ge 7, 3) := by decide +kernel
theorem dX9_hasSort_12 : decode cX9_hasSort 12 = .ok (.iconst 1, 1) := by decide +kernel
theorem dX9_hasSort_13 : decode cX9_hasSort 13 = .ok (.goto 4, 3) := by decide +kernel
theorem dX9_hasSort_16 : decode cX9_hasSort 16 = .ok (.iconst 0, 1) := by decide +kernel
theorem dX9_hasSort_17 : decode cX9_hasSort 17 = .ok (.ireturn, 1) := by decide +kernel
theorem dX9_hasSpring_0 : decode cX9_hasSpring 0 = .ok (.iload_n 1, 1) := by decide +kernel
theorem dX9_hasSpring_1 : decode cX9_hasSpring 1 = .ok (.ifCond .lt 15, 3) := by decide +kernel
theorem dX9_hasSpring_4 : decode cX9_hasSpring 4 = .ok (.iload_n 1, 1) := by decide +kernel
theorem dX9_hasSpring_5 : decode cX9_hasSpring 5 = .ok (.aload_n 0, 1) := by decide +kernel
theorem dX9_hasSpring_6 : decode cX9_hasSpring 6 = .ok (.getfield 53, 3) := by decide +kernel
theorem dX9_hasSpring_9 : decode cX9_hasSpring 9 = .ok (.if_icmp .ge 7, 3) := by decide +kernel
theorem dX9_hasSpring_12 : decode cX9_hasSpring 12 = .ok (.iconst 1, 1) := by decide +kernel
theorem dX9_hasSpring_13 : decode cX9_hasSpring 13 = .ok (.goto 4, 3) := by decide +kernel
theorem dX9_hasSpring_16 : decode cX9_hasSpring 16 = .ok (.iconst 0, 1) := by decide +kernel
theorem dX9_hasSpring_17 : decode cX9_hasSpring 17 = .ok (.ireturn, 1) := by decide +kernel
theorem dX9_canStand_0 : decode cX9_canStand 0 = .ok (.iload_n 1, 1) := by decide +kernel
theorem dX9_canStand_1 : decode cX9_canStand 1 = .ok (.ifCond .lt 9, 3) := by decide +kernel
theorem dX9_canStand_4 : decode cX9_canStand 4 = .ok (.iload_n 1, 1) := by decide +kernel
theorem dX9_canStand_5 : decode cX9_canStand 5 = .ok (.bipush 27, 2) := by decide +kernel
theorem dX9_canStand_7 : decode cX9_canStand 7 = .ok (.if_icmp .lt 5, 3) := by decide +kernel
theorem dX9_canStand_10 : decode cX9_canStand 10 = .ok (.iconst 0, 1) := by decide +kernel
theorem dX9_canStand_11 : decode cX9_canStand 11 = .ok (.ireturn, 1) := by decide +kernel
theorem dX9_canStand_12 : decode cX9_canStand 12 = .ok (.iconst 0, 1) := by decide +kernel
theorem dX9_canStand_13 : decode cX9_canStand 13 = .ok (.istore_n 2, 1) := by decide +kernel
theorem dX9_canStand_14 : decode cX9_canStand 14 = .ok (.iload_n 2, 1) := by decide +kernel
theorem dX9_canStand_15 : decode cX9_canStand 15 = .ok (.iconst 3, 1) := by decide +kernel
theorem dX9_canStand_16 : decode cX9_canStand 16 = .ok (.if_icmp .ge 39, 3) := by decide +kernel
theorem dX9_canStand_19 : decode cX9_canStand 19 = .ok (.iload_n 2, 1) := by decide +kernel
theorem dX9_canStand_20 : decode cX9_canStand 20 = .ok (.aload_n 0, 1) := by decide +kernel
theorem dX9_canStand_21 : decode cX9_canStand 21 = .ok (.getfield 9, 3) := by decide +kernel
theorem dX9_canStand_24 : decode cX9_canStand 24 = .ok (.if_icmp .ge 12, 3) := by decide +kernel
theorem dX9_canStand_27 : decode cX9_canStand 27 = .ok (.aload_n 0, 1) := by decide +kernel
theorem dX9_canStand_28 : decode cX9_canStand 28 = .ok (.getfield 15, 3) := by decide +kernel
theorem dX9_canStand_31 : decode cX9_canStand 31 = .ok (.iload_n 2, 1) := by decide +kernel
theorem dX9_canStand_32 : decode cX9_canStand 32 = .ok (.iaload, 1) := by decide +kernel
theorem dX9_canStand_33 : decode cX9_canStand 33 = .ok (.goto 4, 3) := by decide +kernel
theorem dX9_canStand_36 : decode cX9_canStand 36 = .ok (.iconst 1, 1) := by decide +kernel
theorem dX9_canStand_37 : decode cX9_canStand 37 = .ok (.istore_n 3, 1) := by decide +kernel
theorem dX9_canStand_38 : decode cX9_canStand 38 = .ok (.iload_n 1, 1) := by decide +kernel
theorem dX9_canStand_39 : decode cX9_canStand 39 = .ok (.iload_n 2, 1) := by decide +kernel
theorem dX9_canStand_40 : decode cX9_canStand 40 = .ok (.invokestatic 77, 3) := by decide +kernel
theorem dX9_canStand_43 : decode cX9_canStand 43 = .ok (.iload_n 3, 1) := by decide +kernel
theorem dX9_canStand_44 : decode cX9_canStand 44 = .ok (.if_icmp .lt 5, 3) := by decide +kernel
theorem dX9_canStand_47 : decode cX9_canStand 47 = .ok (.iconst 0, 1) := by decide +kernel
theorem dX9_canStand_48 : decode cX9_canStand 48 = .ok (.ireturn, 1) := by decide +kernel
theorem dX9_canStand_49 : decode cX9_canStand 49 = .ok (.iinc 2 1, 3) := by decide +kernel
theorem dX9_canStand_52 : decode cX9_canStand 52 = .ok (.goto (-38), 3) := by decide +kernel
theorem dX9_canStand_55 : decode cX9_canStand 55 = .ok (.iconst 1, 1) := by decide +kernel
theorem dX9_canStand_56 : decode cX9_canStand 56 = .ok (.ireturn, 1) := by decide +kernel
theorem dX9_startStands_0 : decode cX9_startStands 0 = .ok (.iconst 0, 1) := by decide +kernel
theorem dX9_startStands_1 : decode cX9_startStands 1 = .ok (.istore_n 1, 1) := by decide +kernel
theorem dX9_startStands_2 : decode cX9_startStands 2 = .ok (.iconst 0, 1) := by decide +kernel
theorem dX9_startStands_3 : decode cX9_startStands 3 = .ok (.istore_n 2, 1) := by decide +kernel
theorem dX9_startStands_4 : decode cX9_startStands 4 = .ok (.iload_n 2, 1) := by decide +kernel
theorem dX9_startStands_5 : decode cX9_startStands 5 = .ok (.aload_n 0, 1) := by decide +kernel
theorem dX9_startStands_6 : decode cX9_startStands 6 = .ok (.getfield 9, 3) := by decide +kernel
theorem dX9_startStands_9 : decode cX9_startStands 9 = .ok (.if_icmp .ge 24, 3) := by decide +kernel
theorem dX9_startStands_12 : decode cX9_startStands 12 = .ok (.iload_n 1, 1) := by decide +kernel
theorem dX9_startStands_13 : decode cX9_startStands 13 = .ok (.aload_n 0, 1) := by decide +kernel
theorem dX9_startStands_14 : decode cX9_startStands 14 = .ok (.getfield 19, 3) := by decide +kernel
theorem dX9_startStands_17 : decode cX9_startStands 17 = .ok (.iload_n 2, 1) := by decide +kernel
theorem dX9_startStands_18 : decode cX9_startStands 18 = .ok (.iaload, 1) := by decide +kernel
theorem dX9_startStands_19 : decode cX9_startStands 19 = .ok (.getstatic 74, 3) := by decide +kernel
theorem dX9_startStands_22 : decode cX9_startStands 22 = .ok (.iload_n 2, 1) := by decide +kernel
theorem dX9_startStands_23 : decode cX9_startStands 23 = .ok (.iaload, 1) := by decide +kernel
theorem dX9_startStands_24 : decode cX9_startStands 24 = .ok (.imul, 1) := by decide +kernel
theorem dX9_startStands_25 : decode cX9_startStands 25 = .ok (.iadd, 1) := by decide +kernel
theorem dX9_startStands_26 : decode cX9_startStands 26 = .ok (.istore_n 1, 1) := by decide +kernel
theorem dX9_startStands_27 : decode cX9_startStands 27 = .ok (.iinc 2 1, 3) := by decide +kernel
theorem dX9_startStands_30 : decode cX9_startStands 30 = .ok (.goto (-26), 3) := by decide +kernel
theorem dX9_startStands_33 : decode cX9_startStands 33 = .ok (.iload_n 1, 1) := by decide +kernel
theorem dX9_startStands_34 : decode cX9_startStands 34 = .ok (.ireturn, 1) := by decide +kernel
theorem dX9_springsTold_0 : decode cX9_springsTold 0 = .ok (.iconst 0, 1) := by decide +kernel
theorem dX9_springsTold_1 : decode cX9_springsTold 1 = .ok (.istore_n 1, 1) := by decide +kernel
theorem dX9_springsTold_2 : decode cX9_springsTold 2 = .ok (.iconst 0, 1) := by decide +kernel
theorem dX9_springsTold_3 : decode cX9_springsTold 3 = .ok (.istore_n 2, 1) := by decide +kernel
theorem dX9_springsTold_4 : decode cX9_springsTold 4 = .ok (.iload_n 2, 1) := by decide +kernel
theorem dX9_springsTold_5 : decode cX9_springsTold 5 = .ok (.bipush 16, 2) := by decide +kernel
theorem dX9_springsTold_7 : decode cX9_springsTold 7 = .ok (.if_icmp .ge 23, 3) := by decide +kernel
theorem dX9_springsTold_10 : decode cX9_springsTold 10 = .ok (.aload_n 0, 1) := by decide +kernel
theorem dX9_springsTold_11 : decode cX9_springsTold 11 = .ok (.getfield 41, 3) := by decide +kernel
theorem dX9_springsTold_14 : decode cX9_springsTold 14 = .ok (.iload_n 2, 1) := by decide +kernel
theorem dX9_springsTold_15 : decode cX9_springsTold 15 = .ok (.iaload, 1) := by decide +kernel
theorem dX9_springsTold_16 : decode cX9_springsTold 16 = .ok (.bipush (-2), 2) := by decide +kernel
theorem dX9_springsTold_18 : decode cX9_springsTold 18 = .ok (.if_icmp .eq 6, 3) := by decide +kernel
theorem dX9_springsTold_21 : decode cX9_springsTold 21 = .ok (.iinc 1 1, 3) := by decide +kernel
theorem dX9_springsTold_24 : decode cX9_springsTold 24 = .ok (.iinc 2 1, 3) := by decide +kernel
theorem dX9_springsTold_27 : decode cX9_springsTold 27 = .ok (.goto (-23), 3) := by decide +kernel
theorem dX9_springsTold_30 : decode cX9_springsTold 30 = .ok (.iload_n 1, 1) := by decide +kernel
theorem dX9_springsTold_31 : decode cX9_springsTold 31 = .ok (.ireturn, 1) := by decide +kernel
theorem dX9_worthOf_0 : decode cX9_worthOf 0 = .ok (.aload_n 0, 1) := by decide +kernel
theorem dX9_worthOf_1 : decode cX9_worthOf 1 = .ok (.getfield 37, 3) := by decide +kernel
theorem dX9_worthOf_4 : decode cX9_worthOf 4 = .ok (.iload_n 1, 1) := by decide +kernel
theorem dX9_worthOf_5 : decode cX9_worthOf 5 = .ok (.aaload, 1) := by decide +kernel
theorem dX9_worthOf_6 : decode cX9_worthOf 6 = .ok (.astore 5, 2) := by decide +kernel
theorem dX9_worthOf_8 : decode cX9_worthOf 8 = .ok (.aload 5, 2) := by decide +kernel
theorem dX9_worthOf_10 : decode cX9_worthOf 10 = .ok (.ifnonnull 5, 3) := by decide +kernel
theorem dX9_worthOf_13 : decode cX9_worthOf 13 = .ok (.iconst 0, 1) := by decide +kernel
theorem dX9_worthOf_14 : decode cX9_worthOf 14 = .ok (.ireturn, 1) := by decide +kernel
theorem dX9_worthOf_15 : decode cX9_worthOf 15 = .ok (.aload 5, 2) := by decide +kernel
theorem dX9_worthOf_17 : decode cX9_worthOf 17 = .ok (.iload_n 2, 1) := by decide +kernel
theorem dX9_worthOf_18 : decode cX9_worthOf 18 = .ok (.iload_n 3, 1) := by decide +kernel
theorem dX9_worthOf_19 : decode cX9_worthOf 19 = .ok (.iload 4, 2) := by decide +kernel
theorem dX9_worthOf_21 : decode cX9_worthOf 21 = .ok (.aload_n 0, 1) := by decide +kernel
theorem dX9_worthOf_22 : decode cX9_worthOf 22 = .ok (.getfield 65, 3) := by decide +kernel
theorem dX9_worthOf_25 : decode cX9_worthOf 25 = .ok (.invokevirtual 85, 3) := by decide +kernel
theorem dX9_worthOf_28 : decode cX9_worthOf 28 = .ok (.istore 6, 2) := by decide +kernel
theorem dX9_worthOf_30 : decode cX9_worthOf 30 = .ok (.sipush (-9999), 3) := by decide +kernel
theorem dX9_worthOf_33 : decode cX9_worthOf 33 = .ok (.sipush 9999, 3) := by decide +kernel
theorem dX9_worthOf_36 : decode cX9_worthOf 36 = .ok (.iload 6, 2) := by decide +kernel
theorem dX9_worthOf_38 : decode cX9_worthOf 38 = .ok (.invokestatic 89, 3) := by decide +kernel
theorem dX9_worthOf_41 : decode cX9_worthOf 41 = .ok (.invokestatic 94, 3) := by decide +kernel
theorem dX9_worthOf_44 : decode cX9_worthOf 44 = .ok (.ireturn, 1) := by decide +kernel
theorem dX9_chanceIn_0 : decode cX9_chanceIn 0 = .ok (.aload_n 0, 1) := by decide +kernel
theorem dX9_chanceIn_1 : decode cX9_chanceIn 1 = .ok (.getfield 41, 3) := by decide +kernel
theorem dX9_chanceIn_4 : decode cX9_chanceIn 4 = .ok (.iload_n 1, 1) := by decide +kernel
theorem dX9_chanceIn_5 : decode cX9_chanceIn 5 = .ok (.iaload, 1) := by decide +kernel
theorem dX9_chanceIn_6 : decode cX9_chanceIn 6 = .ok (.bipush (-2), 2) := by decide +kernel
theorem dX9_chanceIn_8 : decode cX9_chanceIn 8 = .ok (.if_icmp .ne 10, 3) := by decide +kernel
theorem dX9_chanceIn_11 : decode cX9_chanceIn 11 = .ok (.aload_n 0, 1) := by decide +kernel
theorem dX9_chanceIn_12 : decode cX9_chanceIn 12 = .ok (.getfield 32, 3) := by decide +kernel
theorem dX9_chanceIn_15 : decode cX9_chanceIn 15 = .ok (.iload_n 2, 1) := by decide +kernel
theorem dX9_chanceIn_16 : decode cX9_chanceIn 16 = .ok (.iaload, 1) := by decide +kernel
theorem dX9_chanceIn_17 : decode cX9_chanceIn 17 = .ok (.ireturn, 1) := by decide +kernel
theorem dX9_chanceIn_18 : decode cX9_chanceIn 18 = .ok (.aload_n 0, 1) := by decide +kernel
theorem dX9_chanceIn_19 : decode cX9_chanceIn 19 = .ok (.getfield 41, 3) := by decide +kernel
theorem dX9_chanceIn_22 : decode cX9_chanceIn 22 = .ok (.iload_n 1, 1) := by decide +kernel
theorem dX9_chanceIn_23 : decode cX9_chanceIn 23 = .ok (.iaload, 1) := by decide +kernel
theorem dX9_chanceIn_24 : decode cX9_chanceIn 24 = .ok (.iload_n 2, 1) := by decide +kernel
theorem dX9_chanceIn_25 : decode cX9_chanceIn 25 = .ok (.if_icmp .ne 8, 3) := by decide +kernel
theorem dX9_chanceIn_28 : decode cX9_chanceIn 28 = .ok (.bipush 6, 2) := by decide +kernel
theorem dX9_chanceIn_30 : decode cX9_chanceIn 30 = .ok (.goto 4, 3) := by decide +kernel
theorem dX9_chanceIn_33 : decode cX9_chanceIn 33 = .ok (.iconst 0, 1) := by decide +kernel
theorem dX9_chanceIn_34 : decode cX9_chanceIn 34 = .ok (.ireturn, 1) := by decide +kernel
theorem dX9_chanceOfNobody_0 : decode cX9_chanceOfNobody 0 = .ok (.aload_n 0, 1) := by decide +kernel
theorem dX9_chanceOfNobody_1 : decode cX9_chanceOfNobody 1 = .ok (.getfield 41, 3) := by decide +kernel
theorem dX9_chanceOfNobody_4 : decode cX9_chanceOfNobody 4 = .ok (.iload_n 1, 1) := by decide +kernel
theorem dX9_chanceOfNobody_5 : decode cX9_chanceOfNobody 5 = .ok (.iaload, 1) := by decide +kernel
theorem dX9_chanceOfNobody_6 : decode cX9_chanceOfNobody 6 = .ok (.bipush (-2), 2) := by decide +kernel
theorem dX9_chanceOfNobody_8 : decode cX9_chanceOfNobody 8 = .ok (.if_icmp .ne 18, 3) := by decide +kernel
theorem dX9_chanceOfNobody_11 : decode cX9_chanceOfNobody 11 = .ok (.aload_n 0, 1) := by decide +kernel
theorem dX9_chanceOfNobody_12 : decode cX9_chanceOfNobody 12 = .ok (.getfield 29, 3) := by decide +kernel
theorem dX9_chanceOfNobody_15 : decode cX9_chanceOfNobody 15 = .ok (.ifCond .ne 7, 3) := by decide +kernel
theorem dX9_chanceOfNobody_18 : decode cX9_chanceOfNobody 18 = .ok (.iconst 1, 1) := by decide +kernel
theorem dX9_chanceOfNobody_19 : decode cX9_chanceOfNobody 19 = .ok (.goto 22, 3) := by decide +kernel
theorem dX9_chanceOfNobody_22 : decode cX9_chanceOfNobody 22 = .ok (.iconst 0, 1) := by decide +kernel
theorem dX9_chanceOfNobody_23 : decode cX9_chanceOfNobody 23 = .ok (.goto 18, 3) := by decide +kernel
theorem dX9_chanceOfNobody_26 : decode cX9_chanceOfNobody 26 = .ok (.aload_n 0, 1) := by decide +kernel
theorem dX9_chanceOfNobody_27 : decode cX9_chanceOfNobody 27 = .ok (.getfield 41, 3) := by decide +kernel
theorem dX9_chanceOfNobody_30 : decode cX9_chanceOfNobody 30 = .ok (.iload_n 1, 1) := by decide +kernel
theorem dX9_chanceOfNobody_31 : decode cX9_chanceOfNobody 31 = .ok (.iaload, 1) := by decide +kernel
theorem dX9_chanceOfNobody_32 : decode cX9_chanceOfNobody 32 = .ok (.iconst (-1), 1) := by decide +kernel
theorem dX9_chanceOfNobody_33 : decode cX9_chanceOfNobody 33 = .ok (.if_icmp .ne 7, 3) := by decide +kernel
theorem dX9_chanceOfNobody_36 : decode cX9_chanceOfNobody 36 = .ok (.iconst 1, 1) := by decide +kernel
theorem dX9_chanceOfNobody_37 : decode cX9_chanceOfNobody 37 = .ok (.goto 4, 3) := by decide +kernel
theorem dX9_chanceOfNobody_40 : decode cX9_chanceOfNobody 40 = .ok (.iconst 0, 1) := by decide +kernel
theorem dX9_chanceOfNobody_41 : decode cX9_chanceOfNobody 41 = .ok (.istore_n 2, 1) := by decide +kernel
theorem dX9_chanceOfNobody_42 : decode cX9_chanceOfNobody 42 = .ok (.iload_n 2, 1) := by decide +kernel
theorem dX9_chanceOfNobody_43 : decode cX9_chanceOfNobody 43 = .ok (.ifCond .eq 8, 3) := by decide +kernel
theorem dX9_chanceOfNobody_46 : decode cX9_chanceOfNobody 46 = .ok (.bipush 6, 2) := by decide +kernel
theorem dX9_chanceOfNobody_48 : decode cX9_chanceOfNobody 48 = .ok (.goto 4, 3) := by decide +kernel
theorem dX9_chanceOfNobody_51 : decode cX9_chanceOfNobody 51 = .ok (.iconst 0, 1) := by decide +kernel
theorem dX9_chanceOfNobody_52 : decode cX9_chanceOfNobody 52 = .ok (.ireturn, 1) := by decide +kernel
theorem dX9_differing_0 : decode cX9_differing 0 = .ok (.iconst 0, 1) := by decide +kernel
theorem dX9_differing_1 : decode cX9_differing 1 = .ok (.istore_n 3, 1) := by decide +kernel
theorem dX9_differing_2 : decode cX9_differing 2 = .ok (.iload_n 3, 1) := by decide +kernel
theorem dX9_differing_3 : decode cX9_differing 3 = .ok (.aload_n 0, 1) := by decide +kernel
theorem dX9_differing_4 : decode cX9_differing 4 = .ok (.getfield 9, 3) := by decide +kernel
theorem dX9_differing_7 : decode cX9_differing 7 = .ok (.if_icmp .ge 24, 3) := by decide +kernel
theorem dX9_differing_10 : decode cX9_differing 10 = .ok (.iload_n 1, 1) := by decide +kernel
theorem dX9_differing_11 : decode cX9_differing 11 = .ok (.iload_n 3, 1) := by decide +kernel
theorem dX9_differing_12 : decode cX9_differing 12 = .ok (.invokestatic 77, 3) := by decide +kernel
theorem dX9_differing_15 : decode cX9_differing 15 = .ok (.iload_n 2, 1) := by decide +kernel
theorem dX9_differing_16 : decode cX9_differing 16 = .ok (.iload_n 3, 1) := by decide +kernel
theorem dX9_differing_17 : decode cX9_differing 17 = .ok (.invokestatic 77, 3) := by decide +kernel
theorem dX9_differing_20 : decode cX9_differing 20 = .ok (.if_icmp .eq 5, 3) := by decide +kernel
theorem dX9_differing_23 : decode cX9_differing 23 = .ok (.iload_n 3, 1) := by decide +kernel
theorem dX9_differing_24 : decode cX9_differing 24 = .ok (.ireturn, 1) := by decide +kernel
theorem dX9_differing_25 : decode cX9_differing 25 = .ok (.iinc 3 1, 3) := by decide +kernel
theorem dX9_differing_28 : decode cX9_differing 28 = .ok (.goto (-26), 3) := by decide +kernel
theorem dX9_differing_31 : decode cX9_differing 31 = .ok (.iconst (-1), 1) := by decide +kernel
theorem dX9_differing_32 : decode cX9_differing 32 = .ok (.ireturn, 1) := by decide +kernel
theorem dX9_costOf_0 : decode cX9_costOf 0 = .ok (.aload_n 0, 1) := by decide +kernel
theorem dX9_costOf_1 : decode cX9_costOf 1 = .ok (.iload_n 1, 1) := by decide +kernel
theorem dX9_costOf_2 : decode cX9_costOf 2 = .ok (.iload_n 2, 1) := by decide +kernel
theorem dX9_costOf_3 : decode cX9_costOf 3 = .ok (.invokevirtual 97, 3) := by decide +kernel
theorem dX9_costOf_6 : decode cX9_costOf 6 = .ok (.istore_n 3, 1) := by decide +kernel
theorem dX9_costOf_7 : decode cX9_costOf 7 = .ok (.iload_n 3, 1) := by decide +kernel
theorem dX9_costOf_8 : decode cX9_costOf 8 = .ok (.iconst (-1), 1) := by decide +kernel
theorem dX9_costOf_9 : decode cX9_costOf 9 = .ok (.if_icmp .ne 7, 3) := by decide +kernel
theorem dX9_costOf_12 : decode cX9_costOf 12 = .ok (.iconst 0, 1) := by decide +kernel
theorem dX9_costOf_13 : decode cX9_costOf 13 = .ok (.goto 9, 3) := by decide +kernel
theorem dX9_costOf_16 : decode cX9_costOf 16 = .ok (.aload_n 0, 1) := by decide +kernel
theorem dX9_costOf_17 : decode cX9_costOf 17 = .ok (.getfield 22, 3) := by decide +kernel
theorem dX9_costOf_20 : decode cX9_costOf 20 = .ok (.iload_n 3, 1) := by decide +kernel
theorem dX9_costOf_21 : decode cX9_costOf 21 = .ok (.iaload, 1) := by decide +kernel
theorem dX9_costOf_22 : decode cX9_costOf 22 = .ok (.ireturn, 1) := by decide +kernel
theorem dX9_close_0 : decode cX9_close 0 = .ok (.aload_n 0, 1) := by decide +kernel
theorem dX9_close_1 : decode cX9_close 1 = .ok (.iconst 0, 1) := by decide +kernel
theorem dX9_close_2 : decode cX9_close 2 = .ok (.putfield 56, 3) := by decide +kernel
theorem dX9_close_5 : decode cX9_close 5 = .ok (.iconst 0, 1) := by decide +kernel
theorem dX9_close_6 : decode cX9_close 6 = .ok (.istore_n 1, 1) := by decide +kernel
theorem dX9_close_7 : decode cX9_close 7 = .ok (.iload_n 1, 1) := by decide +kernel
theorem dX9_close_8 : decode cX9_close 8 = .ok (.bipush 27, 2) := by decide +kernel
theorem dX9_close_10 : decode cX9_close 10 = .ok (.if_icmp .ge 48, 3) := by decide +kernel
theorem dX9_close_13 : decode cX9_close 13 = .ok (.aload_n 0, 1) := by decide +kernel
theorem dX9_close_14 : decode cX9_close 14 = .ok (.iload_n 1, 1) := by decide +kernel
theorem dX9_close_15 : decode cX9_close 15 = .ok (.invokevirtual 100, 3) := by decide +kernel
theorem dX9_close_18 : decode cX9_close 18 = .ok (.ifCond .eq 34, 3) := by decide +kernel
theorem dX9_close_21 : decode cX9_close 21 = .ok (.aload_n 0, 1) := by decide +kernel
theorem dX9_close_22 : decode cX9_close 22 = .ok (.getfield 59, 3) := by decide +kernel
theorem dX9_close_25 : decode cX9_close 25 = .ok (.aload_n 0, 1) := by decide +kernel
theorem dX9_close_26 : decode cX9_close 26 = .ok (.getfield 56, 3) := by decide +kernel
theorem dX9_close_29 : decode cX9_close 29 = .ok (.iload_n 1, 1) := by decide +kernel
theorem dX9_close_30 : decode cX9_close 30 = .ok (.iastore, 1) := by decide +kernel
theorem dX9_close_31 : decode cX9_close 31 = .ok (.aload_n 0, 1) := by decide +kernel
theorem dX9_close_32 : decode cX9_close 32 = .ok (.dup, 1) := by decide +kernel
theorem dX9_close_33 : decode cX9_close 33 = .ok (.getfield 56, 3) := by decide +kernel
theorem dX9_close_36 : decode cX9_close 36 = .ok (.iconst 1, 1) := by decide +kernel
theorem dX9_close_37 : decode cX9_close 37 = .ok (.iadd, 1) := by decide +kernel
theorem dX9_close_38 : decode cX9_close 38 = .ok (.putfield 56, 3) := by decide +kernel
theorem dX9_close_41 : decode cX9_close 41 = .ok (.aload_n 0, 1) := by decide +kernel
theorem dX9_close_42 : decode cX9_close 42 = .ok (.getfield 62, 3) := by decide +kernel
theorem dX9_close_45 : decode cX9_close 45 = .ok (.iload_n 1, 1) := by decide +kernel
theorem dX9_close_46 : decode cX9_close 46 = .ok (.aload_n 0, 1) := by decide +kernel
theorem dX9_close_47 : decode cX9_close 47 = .ok (.iload_n 1, 1) := by decide +kernel
theorem dX9_close_48 : decode cX9_close 48 = .ok (.invokevirtual 103, 3) := by decide +kernel
theorem dX9_close_51 : decode cX9_close 51 = .ok (.bastore, 1) := by decide +kernel
theorem dX9_close_52 : decode cX9_close 52 = .ok (.iinc 1 1, 3) := by decide +kernel
theorem dX9_close_55 : decode cX9_close 55 = .ok (.goto (-48), 3) := by decide +kernel
theorem dX9_close_58 : decode cX9_close 58 = .ok (.return_, 1) := by decide +kernel
theorem dX9_isBarred_0 : decode cX9_isBarred 0 = .ok (.iconst 0, 1) := by decide +kernel
theorem dX9_isBarred_1 : decode cX9_isBarred 1 = .ok (.istore_n 2, 1) := by decide +kernel
theorem dX9_isBarred_2 : decode cX9_isBarred 2 = .ok (.iload_n 2, 1) := by decide +kernel
theorem dX9_isBarred_3 : decode cX9_isBarred 3 = .ok (.aload_n 0, 1) := by decide +kernel
theorem dX9_isBarred_4 : decode cX9_isBarred 4 = .ok (.getfield 44, 3) := by decide +kernel
theorem dX9_isBarred_7 : decode cX9_isBarred 7 = .ok (.if_icmp .ge 39, 3) := by decide +kernel
theorem dX9_isBarred_10 : decode cX9_isBarred 10 = .ok (.aload_n 0, 1) := by decide +kernel
theorem dX9_isBarred_11 : decode cX9_isBarred 11 = .ok (.getfield 47, 3) := by decide +kernel
theorem dX9_isBarred_14 : decode cX9_isBarred 14 = .ok (.iload_n 2, 1) := by decide +kernel
theorem dX9_isBarred_15 : decode cX9_isBarred 15 = .ok (.aaload, 1) := by decide +kernel
theorem dX9_isBarred_16 : decode cX9_isBarred 16 = .ok (.ifnull 24, 3) := by decide +kernel
theorem dX9_isBarred_19 : decode cX9_isBarred 19 = .ok (.aload_n 0, 1) := by decide +kernel
theorem dX9_isBarred_20 : decode cX9_isBarred 20 = .ok (.getfield 47, 3) := by decide +kernel
theorem dX9_isBarred_23 : decode cX9_isBarred 23 = .ok (.iload_n 2, 1) := by decide +kernel
theorem dX9_isBarred_24 : decode cX9_isBarred 24 = .ok (.aaload, 1) := by decide +kernel
theorem dX9_isBarred_25 : decode cX9_isBarred 25 = .ok (.iload_n 1, 1) := by decide +kernel
theorem dX9_isBarred_26 : decode cX9_isBarred 26 = .ok (.iconst 0, 1) := by decide +kernel
theorem dX9_isBarred_27 : decode cX9_isBarred 27 = .ok (.iconst 0, 1) := by decide +kernel
theorem dX9_isBarred_28 : decode cX9_isBarred 28 = .ok (.aload_n 0, 1) := by decide +kernel
theorem dX9_isBarred_29 : decode cX9_isBarred 29 = .ok (.getfield 65, 3) := by decide +kernel
theorem dX9_isBarred_32 : decode cX9_isBarred 32 = .ok (.invokevirtual 85, 3) := by decide +kernel
theorem dX9_isBarred_35 : decode cX9_isBarred 35 = .ok (.ifCond .eq 5, 3) := by decide +kernel
theorem dX9_isBarred_38 : decode cX9_isBarred 38 = .ok (.iconst 1, 1) := by decide +kernel
theorem dX9_isBarred_39 : decode cX9_isBarred 39 = .ok (.ireturn, 1) := by decide +kernel
theorem dX9_isBarred_40 : decode cX9_isBarred 40 = .ok (.iinc 2 1, 3) := by decide +kernel
theorem dX9_isBarred_43 : decode cX9_isBarred 43 = .ok (.goto (-41), 3) := by decide +kernel
theorem dX9_isBarred_46 : decode cX9_isBarred 46 = .ok (.iconst 0, 1) := by decide +kernel
theorem dX9_isBarred_47 : decode cX9_isBarred 47 = .ok (.ireturn, 1) := by decide +kernel
theorem dX10_init_0 : decode cX10_init 0 = .ok (.aload_n 0, 1) := by decide +kernel
theorem dX10_init_1 : decode cX10_init 1 = .ok (.invokespecial 1, 3) := by decide +kernel
theorem dX10_init_4 : decode cX10_init 4 = .ok (.aload_n 0, 1) := by decide +kernel
theorem dX10_init_5 : decode cX10_init 5 = .ok (.sipush 1000, 3) := by decide +kernel
theorem dX10_init_8 : decode cX10_init 8 = .ok (.newarray .char, 2) := by decide +kernel
theorem dX10_init_10 : decode cX10_init 10 = .ok (.putfield 9, 3) := by decide +kernel
theorem dX10_init_13 : decode cX10_init 13 = .ok (.aload_n 0, 1) := by decide +kernel
theorem dX10_init_14 : decode cX10_init 14 = .ok (.iconst 0, 1) := by decide +kernel
theorem dX10_init_15 : decode cX10_init 15 = .ok (.putfield 13, 3) := by decide +kernel
theorem dX10_init_18 : decode cX10_init 18 = .ok (.aload_n 0, 1) := by decide +kernel
theorem dX10_init_19 : decode cX10_init 19 = .ok (.new 17, 3) := by decide +kernel
theorem dX10_init_22 : decode cX10_init 22 = .ok (.dup, 1) := by decide +kernel
theorem dX10_init_23 : decode cX10_init 23 = .ok (.aload_n 0, 1) := by decide +kernel
theorem dX10_init_24 : decode cX10_init 24 = .ok (.getfield 9, 3) := by decide +kernel
theorem dX10_init_27 : decode cX10_init 27 = .ok (.invokespecial 19, 3) := by decide +kernel
theorem dX10_init_30 : decode cX10_init 30 = .ok (.putfield 22, 3) := by decide +kernel
theorem dX10_init_33 : decode cX10_init 33 = .ok (.aload_n 0, 1) := by decide +kernel
theorem dX10_init_34 : decode cX10_init 34 = .ok (.new 26, 3) := by decide +kernel
theorem dX10_init_37 : decode cX10_init 37 = .ok (.dup, 1) := by decide +kernel
theorem dX10_init_38 : decode cX10_init 38 = .ok (.new 28, 3) := by decide +kernel
theorem dX10_init_41 : decode cX10_init 41 = .ok (.dup, 1) := by decide +kernel
theorem dX10_init_42 : decode cX10_init 42 = .ok (.invokespecial 30, 3) := by decide +kernel
theorem dX10_init_45 : decode cX10_init 45 = .ok (.invokespecial 31, 3) := by decide +kernel
theorem dX10_init_48 : decode cX10_init 48 = .ok (.putfield 34, 3) := by decide +kernel
theorem dX10_init_51 : decode cX10_init 51 = .ok (.aload_n 0, 1) := by decide +kernel
theorem dX10_init_52 : decode cX10_init 52 = .ok (.iconst 4, 1) := by decide +kernel
theorem dX10_init_53 : decode cX10_init 53 = .ok (.anewarray 26, 3) := by decide +kernel
theorem dX10_init_56 : decode cX10_init 56 = .ok (.putfield 38, 3) := by decide +kernel
theorem dX10_init_59 : decode cX10_init 59 = .ok (.aload_n 0, 1) := by decide +kernel
theorem dX10_init_60 : decode cX10_init 60 = .ok (.new 42, 3) := by decide +kernel
theorem dX10_init_63 : decode cX10_init 63 = .ok (.dup, 1) := by decide +kernel
theorem dX10_init_64 : decode cX10_init 64 = .ok (.aload_n 0, 1) := by decide +kernel
theorem dX10_init_65 : decode cX10_init 65 = .ok (.getfield 34, 3) := by decide +kernel
theorem dX10_init_68 : decode cX10_init 68 = .ok (.invokespecial 44, 3) := by decide +kernel
theorem dX10_init_71 : decode cX10_init 71 = .ok (.putfield 47, 3) := by decide +kernel
theorem dX10_init_74 : decode cX10_init 74 = .ok (.aload_n 0, 1) := by decide +kernel
theorem dX10_init_75 : decode cX10_init 75 = .ok (.new 51, 3) := by decide +kernel
theorem dX10_init_78 : decode cX10_init 78 = .ok (.dup, 1) := by decide +kernel
theorem dX10_init_79 : decode cX10_init 79 = .ok (.aload_n 0, 1) := by decide +kernel
theorem dX10_init_80 : decode cX10_init 80 = .ok (.getfield 34, 3) := by decide +kernel
theorem dX10_init_83 : decode cX10_init 83 = .ok (.aload_n 0, 1) := by decide +kernel
theorem dX10_init_84 : decode cX10_init 84 = .ok (.getfield 47, 3) := by decide +kernel
theorem dX10_init_87 : decode cX10_init 87 = .ok (.invokespecial 53, 3) := by decide +kernel
theorem dX10_init_90 : decode cX10_init 90 = .ok (.putfield 56, 3) := by decide +kernel
theorem dX10_init_93 : decode cX10_init 93 = .ok (.aload_n 0, 1) := by decide +kernel
theorem dX10_init_94 : decode cX10_init 94 = .ok (.new 60, 3) := by decide +kernel
theorem dX10_init_97 : decode cX10_init 97 = .ok (.dup, 1) := by decide +kernel
theorem dX10_init_98 : decode cX10_init 98 = .ok (.aload_n 0, 1) := by decide +kernel
theorem dX10_init_99 : decode cX10_init 99 = .ok (.getfield 34, 3) := by decide +kernel
theorem dX10_init_102 : decode cX10_init 102 = .ok (.aload_n 0, 1) := by decide +kernel
theorem dX10_init_103 : decode cX10_init 103 = .ok (.getfield 47, 3) := by decide +kernel
theorem dX10_init_106 : decode cX10_init 106 = .ok (.invokespecial 62, 3) := by decide +kernel
theorem dX10_init_109 : decode cX10_init 109 = .ok (.putfield 63, 3) := by decide +kernel
theorem dX10_init_112 : decode cX10_init 112 = .ok (.aload_n 0, 1) := by decide +kernel
theorem dX10_init_113 : decode cX10_init 113 = .ok (.new 67, 3) := by decide +kernel
theorem dX10_init_116 : decode cX10_init 116 = .ok (.dup, 1) := by decide +kernel
theorem dX10_init_117 : decode cX10_init 117 = .ok (.aload_n 0, 1) := by decide +kernel
theorem dX10_init_118 : decode cX10_init 118 = .ok (.getfield 34, 3) := by decide +kernel
theorem dX10_init_121 : decode cX10_init 121 = .ok (.aload_n 0, 1) := by decide +kernel
theorem dX10_init_122 : decode cX10_init 122 = .ok (.getfield 47, 3) := by decide +kernel
theorem dX10_init_125 : decode cX10_init 125 = .ok (.invokespecial 69, 3) := by decide +kernel
theorem dX10_init_128 : decode cX10_init 128 = .ok (.putfield 70, 3) := by decide +kernel
theorem dX10_init_131 : decode cX10_init 131 = .ok (.aload_n 0, 1) := by decide +kernel
theorem dX10_init_132 : decode cX10_init 132 = .ok (.bipush 27, 2) := by decide +kernel
theorem dX10_init_134 : decode cX10_init 134 = .ok (.newarray .int, 2) := by decide +kernel
theorem dX10_init_136 : decode cX10_init 136 = .ok (.putfield 74, 3) := by decide +kernel
theorem dX10_init_139 : decode cX10_init 139 = .ok (.aload_n 0, 1) := by decide +kernel
theorem dX10_init_140 : decode cX10_init 140 = .ok (.bipush 16, 2) := by decide +kernel
theorem dX10_init_142 : decode cX10_init 142 = .ok (.newarray .int, 2) := by decide +kernel
theorem dX10_init_144 : decode cX10_init 144 = .ok (.putfield 78, 3) := by decide +kernel
theorem dX10_init_147 : decode cX10_init 147 = .ok (.iconst 0, 1) := by decide +kernel
theorem dX10_init_148 : decode cX10_init 148 = .ok (.istore_n 1, 1) := by decide +kernel
theorem dX10_init_149 : decode cX10_init 149 = .ok (.iload_n 1, 1) := by decide +kernel
theorem dX10_init_150 : decode cX10_init 150 = .ok (.iconst 4, 1) := by decide +kernel
theorem dX10_init_151 : decode cX10_init 151 = .ok (.if_icmp .ge 29, 3) := by decide +kernel
theorem dX10_init_154 : decode cX10_init 154 = .ok (.aload_n 0, 1) := by decide +kernel
theorem dX10_init_155 : decode cX10_init 155 = .ok (.getfield 38, 3) := by decide +kernel
theorem dX10_init_158 : decode cX10_init 158 = .ok (.iload_n 1, 1) := by decide +kernel
theorem dX10_init_159 : decode cX10_init 159 = .ok (.new 26, 3) := by decide +kernel
theorem dX10_init_162 : decode cX10_init 162 = .ok (.dup, 1) := by decide +kernel
theorem dX10_init_163 : decode cX10_init 163 = .ok (.aload_n 0, 1) := by decide +kernel
theorem dX10_init_164 : decode cX10_init 164 = .ok (.getfield 34, 3) := by decide +kernel
theorem dX10_init_167 : decode cX10_init 167 = .ok (.getfield 81, 3) := by decide +kernel
theorem dX10_init_170 : decode cX10_init 170 = .ok (.invokespecial 31, 3) := by decide +kernel
theorem dX10_init_173 : decode cX10_init 173 = .ok (.aastore, 1) := by decide +kernel
theorem dX10_init_174 : decode cX10_init 174 = .ok (.iinc 1 1, 3) := by decide +kernel
theorem dX10_init_177 : decode cX10_init 177 = .ok (.goto (-28), 3) := by decide +kernel
theorem dX10_init_180 : decode cX10_init 180 = .ok (.aload_n 0, 1) := by decide +kernel
theorem dX10_init_181 : decode cX10_init 181 = .ok (.getfield 47, 3) := by decide +kernel
theorem dX10_init_184 : decode cX10_init 184 = .ok (.invokevirtual 85, 3) := by decide +kernel
theorem dX10_init_187 : decode cX10_init 187 = .ok (.return_, 1) := by decide +kernel
theorem dX10_feed_0 : decode cX10_feed 0 = .ok (.aload_n 0, 1) := by decide +kernel
theorem dX10_feed_1 : decode cX10_feed 1 = .ok (.lload_n 1, 1) := by decide +kernel
theorem dX10_feed_2 : decode cX10_feed 2 = .ok (.invokevirtual 88, 3) := by decide +kernel
theorem dX10_feed_5 : decode cX10_feed 5 = .ok (.aload_n 0, 1) := by decide +kernel
theorem dX10_feed_6 : decode cX10_feed 6 = .ok (.lload_n 3, 1) := by decide +kernel
theorem dX10_feed_7 : decode cX10_feed 7 = .ok (.invokevirtual 88, 3) := by decide +kernel
theorem dX10_feed_10 : decode cX10_feed 10 = .ok (.aload_n 0, 1) := by decide +kernel
theorem dX10_feed_11 : decode cX10_feed 11 = .ok (.lload 5, 2) := by decide +kernel
theorem dX10_feed_13 : decode cX10_feed 13 = .ok (.invokevirtual 88, 3) := by decide +kernel
theorem dX10_feed_16 : decode cX10_feed 16 = .ok (.aload_n 0, 1) := by decide +kernel
theorem dX10_feed_17 : decode cX10_feed 17 = .ok (.getfield 13, 3) := by decide +kernel
theorem dX10_feed_20 : decode cX10_feed 20 = .ok (.ireturn, 1) := by decide +kernel
theorem dX10_village_0 : decode cX10_village 0 = .ok (.new 28, 3) := by decide +kernel
theorem dX10_village_3 : decode cX10_village 3 = .ok (.dup, 1) := by decide +kernel
theorem dX10_village_4 : decode cX10_village 4 = .ok (.invokespecial 30, 3) := by decide +kernel
theorem dX10_village_7 : decode cX10_village 7 = .ok (.astore_n 1, 1) := by decide +kernel
theorem dX10_village_8 : decode cX10_village 8 = .ok (.aload_n 0, 1) := by decide +kernel
theorem dX10_village_9 : decode cX10_village 9 = .ok (.getfield 22, 3) := by decide +kernel
theorem dX10_village_12 : decode cX10_village 12 = .ok (.aload_n 1, 1) := by decide +kernel
theorem dX10_village_13 : decode cX10_village 13 = .ok (.aload_n 0, 1) := by decide +kernel
theorem dX10_village_14 : decode cX10_village 14 = .ok (.getfield 13, 3) := by decide +kernel
theorem dX10_village_17 : decode cX10_village 17 = .ok (.invokevirtual 92, 3) := by decide +kernel
theorem dX10_village_20 : decode cX10_village 20 = .ok (.istore_n 2, 1) := by decide +kernel
theorem dX10_village_21 : decode cX10_village 21 = .ok (.aload_n 0, 1) := by decide +kernel
theorem dX10_village_22 : decode cX10_village 22 = .ok (.iconst 0, 1) := by decide +kernel
theorem dX10_village_23 : decode cX10_village 23 = .ok (.putfield 13, 3) := by decide +kernel
theorem dX10_village_26 : decode cX10_village 26 = .ok (.iload_n 2, 1) := by decide +kernel
theorem dX10_village_27 : decode cX10_village 27 = .ok (.ifCond .ne 18, 3) := by decide +kernel
theorem dX10_village_30 : decode cX10_village 30 = .ok (.aload_n 0, 1) := by decide +kernel
theorem dX10_village_31 : decode cX10_village 31 = .ok (.getfield 34, 3) := by decide +kernel
theorem dX10_village_34 : decode cX10_village 34 = .ok (.aload_n 1, 1) := by decide +kernel
theorem dX10_village_35 : decode cX10_village 35 = .ok (.invokevirtual 96, 3) := by decide +kernel
theorem dX10_village_38 : decode cX10_village 38 = .ok (.aload_n 0, 1) := by decide +kernel
theorem dX10_village_39 : decode cX10_village 39 = .ok (.getfield 47, 3) := by decide +kernel
theorem dX10_village_42 : decode cX10_village 42 = .ok (.invokevirtual 85, 3) := by decide +kernel
theorem dX10_village_45 : decode cX10_village 45 = .ok (.iload_n 2, 1) := by decide +kernel
theorem dX10_village_46 : decode cX10_village 46 = .ok (.ireturn, 1) := by decide +kernel
theorem dX10_thing_0 : decode cX10_thing 0 = .ok (.aload_n 0, 1) := by decide +kernel
theorem dX10_thing_1 : decode cX10_thing 1 = .ok (.getfield 34, 3) := by decide +kernel
theorem dX10_thing_4 : decode cX10_thing 4 = .ok (.getfield 81, 3) := by decide +kernel
theorem dX10_thing_7 : decode cX10_thing 7 = .ok (.astore_n 3, 1) := by decide +kernel
theorem dX10_thing_8 : decode cX10_thing 8 = .ok (.aload_n 3, 1) := by decide +kernel
theorem dX10_thing_9 : decode cX10_thing 9 = .ok (.iload_n 1, 1) := by decide +kernel
theorem dX10_thing_10 : decode cX10_thing 10 = .ok (.invokevirtual 99, 3) := by decide +kernel
theorem dX10_thing_13 : decode cX10_thing 13 = .ok (.ifCond .ne 5, 3) := by decide +kernel
theorem dX10_thing_16 : decode cX10_thing 16 = .ok (.iconst (-1), 1) := by decide +kernel
theorem dX10_thing_17 : decode cX10_thing 17 = .ok (.ireturn, 1) := by decide +kernel
theorem dX10_thing_18 : decode cX10_thing 18 = .ok (.iload_n 2, 1) := by decide +kernel
theorem dX10_thing_19 : decode cX10_thing 19 = .ok (.tableswitch 68 0 3 #[29, 36, 43, 50], 29) := by decide +kernel
theorem dX10_thing_48 : decode cX10_thing 48 = .ok (.aload_n 3, 1) := by decide +kernel
theorem dX10_thing_49 : decode cX10_thing 49 = .ok (.getfield 103, 3) := by decide +kernel
theorem dX10_thing_52 : decode cX10_thing 52 = .ok (.iload_n 1, 1) := by decide +kernel
theorem dX10_thing_53 : decode cX10_thing 53 = .ok (.iaload, 1) := by decide +kernel
theorem dX10_thing_54 : decode cX10_thing 54 = .ok (.ireturn, 1) := by decide +kernel
theorem dX10_thing_55 : decode cX10_thing 55 = .ok (.aload_n 3, 1) := by decide +kernel
theorem dX10_thing_56 : decode cX10_thing 56 = .ok (.getfield 106, 3) := by decide +kernel
theorem dX10_thing_59 : decode cX10_thing 59 = .ok (.iload_n 1, 1) := by decide +kernel
theorem dX10_thing_60 : decode cX10_thing 60 = .ok (.iaload, 1) := by decide +kernel
theorem dX10_thing_61 : decode cX10_thing 61 = .ok (.ireturn, 1) := by decide +kernel
theorem dX10_thing_62 : decode cX10_thing 62 = .ok (.aload_n 3, 1) := by decide +kernel
theorem dX10_thing_63 : decode cX10_thing 63 = .ok (.getfield 109, 3) := by decide +kernel
theorem dX10_thing_66 : decode cX10_thing 66 = .ok (.iload_n 1, 1) := by decide +kernel
theorem dX10_thing_67 : decode cX10_thing 67 = .ok (.iaload, 1) := by decide +kernel
theorem dX10_thing_68 : decode cX10_thing 68 = .ok (.ireturn, 1) := by decide +kernel
theorem dX10_thing_69 : decode cX10_thing 69 = .ok (.aload_n 0, 1) := by decide +kernel
theorem dX10_thing_70 : decode cX10_thing 70 = .ok (.getfield 34, 3) := by decide +kernel
theorem dX10_thing_73 : decode cX10_thing 73 = .ok (.getfield 112, 3) := by decide +kernel
theorem dX10_thing_76 : decode cX10_thing 76 = .ok (.iload_n 1, 1) := by decide +kernel
theorem dX10_thing_77 : decode cX10_thing 77 = .ok (.baload, 1) := by decide +kernel
theorem dX10_thing_78 : decode cX10_thing 78 = .ok (.ifCond .eq 7, 3) := by decide +kernel
theorem dX10_thing_81 : decode cX10_thing 81 = .ok (.iconst 1, 1) := by decide +kernel
theorem dX10_thing_82 : decode cX10_thing 82 = .ok (.goto 4, 3) := by decide +kernel
theorem dX10_thing_85 : decode cX10_thing 85 = .ok (.iconst 0, 1) := by decide +kernel
theorem dX10_thing_86 : decode cX10_thing 86 = .ok (.ireturn, 1) := by decide +kernel
theorem dX10_thing_87 : decode cX10_thing 87 = .ok (.iconst (-1), 1) := by decide +kernel
theorem dX10_thing_88 : decode cX10_thing 88 = .ok (.ireturn, 1) := by decide +kernel
theorem dX10_worth_0 : decode cX10_worth 0 = .ok (.aload_n 0, 1) := by decide +kernel
theorem dX10_worth_1 : decode cX10_worth 1 = .ok (.getfield 34, 3) := by decide +kernel
theorem dX10_worth_4 : decode cX10_worth 4 = .ok (.getfield 81, 3) := by decide +kernel
theorem dX10_worth_7 : decode cX10_worth 7 = .ok (.astore 5, 2) := by decide +kernel
theorem dX10_worth_9 : decode cX10_worth 9 = .ok (.aload 5, 2) := by decide +kernel
theorem dX10_worth_11 : decode cX10_worth 11 = .ok (.iload_n 1, 1) := by decide +kernel
theorem dX10_worth_12 : decode cX10_worth 12 = .ok (.invokevirtual 116, 3) := by decide +kernel
theorem dX10_worth_15 : decode cX10_worth 15 = .ok (.ifCond .eq 16, 3) := by decide +kernel
theorem dX10_worth_18 : decode cX10_worth 18 = .ok (.aload 5, 2) := by decide +kernel
theorem dX10_worth_20 : decode cX10_worth 20 = .ok (.iload_n 2, 1) := by decide +kernel
theorem dX10_worth_21 : decode cX10_worth 21 = .ok (.invokevirtual 119, 3) := by decide +kernel
theorem dX10_worth_24 : decode cX10_worth 24 = .ok (.ifCond .eq 7, 3) := by decide +kernel
theorem dX10_worth_27 : decode cX10_worth 27 = .ok (.iconst 1, 1) := by decide +kernel
theorem dX10_worth_28 : decode cX10_worth 28 = .ok (.goto 4, 3) := by decide +kernel
theorem dX10_worth_31 : decode cX10_worth 31 = .ok (.iconst 0, 1) := by decide +kernel
theorem dX10_worth_32 : decode cX10_worth 32 = .ok (.invokestatic 122, 3) := by decide +kernel
theorem dX10_worth_35 : decode cX10_worth 35 = .ok (.iload_n 3, 1) := by decide +kernel
theorem dX10_worth_36 : decode cX10_worth 36 = .ok (.ifCond .lt 21, 3) := by decide +kernel
theorem dX10_worth_39 : decode cX10_worth 39 = .ok (.iload_n 3, 1) := by decide +kernel
theorem dX10_worth_40 : decode cX10_worth 40 = .ok (.bipush 6, 2) := by decide +kernel
theorem dX10_worth_42 : decode cX10_worth 42 = .ok (.if_icmp .ge 15, 3) := by decide +kernel
theorem dX10_worth_45 : decode cX10_worth 45 = .ok (.iload 4, 2) := by decide +kernel
theorem dX10_worth_47 : decode cX10_worth 47 = .ok (.invokestatic 126, 3) := by decide +kernel
theorem dX10_worth_50 : decode cX10_worth 50 = .ok (.ifCond .eq 7, 3) := by decide +kernel
theorem dX10_worth_53 : decode cX10_worth 53 = .ok (.iconst 1, 1) := by decide +kernel
theorem dX10_worth_54 : decode cX10_worth 54 = .ok (.goto 4, 3) := by decide +kernel
theorem dX10_worth_57 : decode cX10_worth 57 = .ok (.iconst 0, 1) := by decide +kernel
theorem dX10_worth_58 : decode cX10_worth 58 = .ok (.invokestatic 122, 3) := by decide +kernel
theorem dX10_worth_61 : decode cX10_worth 61 = .ok (.aload 5, 2) := by decide +kernel
theorem dX10_worth_63 : decode cX10_worth 63 = .ok (.iload_n 1, 1) := by decide +kernel
theorem dX10_worth_64 : decode cX10_worth 64 = .ok (.iload_n 2, 1) := by decide +kernel
theorem dX10_worth_65 : decode cX10_worth 65 = .ok (.iload_n 3, 1) := by decide +kernel
theorem dX10_worth_66 : decode cX10_worth 66 = .ok (.iload 4, 2) := by decide +kernel
theorem dX10_worth_68 : decode cX10_worth 68 = .ok (.invokevirtual 129, 3) := by decide +kernel
theorem dX10_worth_71 : decode cX10_worth 71 = .ok (.ireturn, 1) := by decide +kernel
theorem dX10_may_0 : decode cX10_may 0 = .ok (.aload_n 0, 1) := by decide +kernel
theorem dX10_may_1 : decode cX10_may 1 = .ok (.getfield 34, 3) := by decide +kernel
theorem dX10_may_4 : decode cX10_may 4 = .ok (.getfield 81, 3) := by decide +kernel
theorem dX10_may_7 : decode cX10_may 7 = .ok (.astore 5, 2) := by decide +kernel
theorem dX10_may_9 : decode cX10_may 9 = .ok (.aload 5, 2) := by decide +kernel
theorem dX10_may_11 : decode cX10_may 11 = .ok (.iload_n 1, 1) := by decide +kernel
theorem dX10_may_12 : decode cX10_may 12 = .ok (.invokevirtual 133, 3) := by decide +kernel
theorem dX10_may_15 : decode cX10_may 15 = .ok (.ifCond .eq 23, 3) := by decide +kernel
theorem dX10_may_18 : decode cX10_may 18 = .ok (.aload 5, 2) := by decide +kernel
theorem dX10_may_20 : decode cX10_may 20 = .ok (.iload_n 2, 1) := by decide +kernel
theorem dX10_may_21 : decode cX10_may 21 = .ok (.invokevirtual 119, 3) := by decide +kernel
theorem dX10_may_24 : decode cX10_may 24 = .ok (.ifCond .eq 14, 3) := by decide +kernel
theorem dX10_may_27 : decode cX10_may 27 = .ok (.aload 5, 2) := by decide +kernel
theorem dX10_may_29 : decode cX10_may 29 = .ok (.iload_n 3, 1) := by decide +kernel
theorem dX10_may_30 : decode cX10_may 30 = .ok (.iload 4, 2) := by decide +kernel
theorem dX10_may_32 : decode cX10_may 32 = .ok (.invokevirtual 136, 3) := by decide +kernel
theorem dX10_may_35 : decode cX10_may 35 = .ok (.ifCond .ne 5, 3) := by decide +kernel
theorem dX10_may_38 : decode cX10_may 38 = .ok (.iconst (-1), 1) := by decide +kernel
theorem dX10_may_39 : decode cX10_may 39 = .ok (.ireturn, 1) := by decide +kernel
theorem dX10_may_40 : decode cX10_may 40 = .ok (.aload_n 0, 1) := by decide +kernel
theorem dX10_may_41 : decode cX10_may 41 = .ok (.getfield 34, 3) := by decide +kernel
theorem dX10_may_44 : decode cX10_may 44 = .ok (.iload_n 1, 1) := by decide +kernel
theorem dX10_may_45 : decode cX10_may 45 = .ok (.iload_n 2, 1) := by decide +kernel
theorem dX10_may_46 : decode cX10_may 46 = .ok (.iload_n 3, 1) := by decide +kernel
theorem dX10_may_47 : decode cX10_may 47 = .ok (.iload 4, 2) := by decide +kernel
theorem dX10_may_49 : decode cX10_may 49 = .ok (.invokevirtual 140, 3) := by decide +kernel
theorem dX10_may_52 : decode cX10_may 52 = .ok (.ifCond .eq 7, 3) := by decide +kernel
theorem dX10_may_55 : decode cX10_may 55 = .ok (.iconst 1, 1) := by decide +kernel
theorem dX10_may_56 : decode cX10_may 56 = .ok (.goto 4, 3) := by decide +kernel
theorem dX10_may_59 : decode cX10_may 59 = .ok (.iconst 0, 1) := by decide +kernel
theorem dX10_may_60 : decode cX10_may 60 = .ok (.ireturn, 1) := by decide +kernel
theorem dX10_chooses_0 : decode cX10_chooses 0 = .ok (.aload_n 0, 1) := by decide +kernel
theorem dX10_chooses_1 : decode cX10_chooses 1 = .ok (.iload_n 1, 1) := by decide +kernel
theorem dX10_chooses_2 : decode cX10_chooses 2 = .ok (.iload_n 2, 1) := by decide +kernel
theorem dX10_chooses_3 : decode cX10_chooses 3 = .ok (.iload_n 3, 1) := by decide +kernel
theorem dX10_chooses_4 : decode cX10_chooses 4 = .ok (.invokevirtual 144, 3) := by decide +kernel
theorem dX10_chooses_7 : decode cX10_chooses 7 = .ok (.ifCond .ne 5, 3) := by decide +kernel
theorem dX10_chooses_10 : decode cX10_chooses 10 = .ok (.iconst (-1), 1) := by decide +kernel
theorem dX10_chooses_11 : decode cX10_chooses 11 = .ok (.ireturn, 1) := by decide +kernel
theorem dX10_chooses_12 : decode cX10_chooses 12 = .ok (.aload_n 0, 1) := by decide +kernel
theorem dX10_chooses_13 : decode cX10_chooses 13 = .ok (.getfield 47, 3) := by decide +kernel
theorem dX10_chooses_16 : decode cX10_chooses 16 = .ok (.iload_n 1, 1) := by decide +kernel
theorem dX10_chooses_17 : decode cX10_chooses 17 = .ok (.invokevirtual 148, 3) := by decide +kernel
theorem dX10_chooses_20 : decode cX10_chooses 20 = .ok (.iload 4, 2) := by decide +kernel
theorem dX10_chooses_22 : decode cX10_chooses 22 = .ok (.ifCond .eq 16, 3) := by decide +kernel
theorem dX10_chooses_25 : decode cX10_chooses 25 = .ok (.aload_n 0, 1) := by decide +kernel
theorem dX10_chooses_26 : decode cX10_chooses 26 = .ok (.getfield 47, 3) := by decide +kernel
theorem dX10_chooses_29 : decode cX10_chooses 29 = .ok (.iload_n 1, 1) := by decide +kernel
theorem dX10_chooses_30 : decode cX10_chooses 30 = .ok (.iload_n 2, 1) := by decide +kernel
theorem dX10_chooses_31 : decode cX10_chooses 31 = .ok (.iload_n 3, 1) := by decide +kernel
theorem dX10_chooses_32 : decode cX10_chooses 32 = .ok (.invokevirtual 152, 3) := by decide +kernel
theorem dX10_chooses_35 : decode cX10_chooses 35 = .ok (.goto 14, 3) := by decide +kernel
theorem dX10_chooses_38 : decode cX10_chooses 38 = .ok (.aload_n 0, 1) := by decide +kernel
theorem dX10_chooses_39 : decode cX10_chooses 39 = .ok (.getfield 47, 3) := by decide +kernel
theorem dX10_chooses_42 : decode cX10_chooses 42 = .ok (.iload_n 1, 1) := by decide +kernel
theorem dX10_chooses_43 : decode cX10_chooses 43 = .ok (.iload_n 2, 1) := by decide +kernel
theorem dX10_chooses_44 : decode cX10_chooses 44 = .ok (.iconst 0, 1) := by decide +kernel
theorem dX10_chooses_45 : decode cX10_chooses 45 = .ok (.iload_n 3, 1) := by decide +kernel
theorem dX10_chooses_46 : decode cX10_chooses 46 = .ok (.invokevirtual 156, 3) := by decide +kernel
theorem dX10_chooses_49 : decode cX10_chooses 49 = .ok (.ireturn, 1) := by decide +kernel
theorem dX10_value_0 : decode cX10_value 0 = .ok (.aload_n 0, 1) := by decide +kernel
theorem dX10_value_1 : decode cX10_value 1 = .ok (.iload_n 1, 1) := by decide +kernel
theorem dX10_value_2 : decode cX10_value 2 = .ok (.iload_n 2, 1) := by decide +kernel
theorem dX10_value_3 : decode cX10_value 3 = .ok (.iload_n 3, 1) := by decide +kernel
theorem dX10_value_4 : decode cX10_value 4 = .ok (.invokevirtual 144, 3) := by decide +kernel
theorem dX10_value_7 : decode cX10_value 7 = .ok (.ifCond .eq 15, 3) := by decide +kernel
theorem dX10_value_10 : decode cX10_value 10 = .ok (.iload 4, 2) := by decide +kernel
theorem dX10_value_12 : decode cX10_value 12 = .ok (.invokestatic 159, 3) := by decide +kernel
theorem dX10_value_15 : decode cX10_value 15 = .ok (.ifCond .eq 7, 3) := by decide +kernel
theorem dX10_value_18 : decode cX10_value 18 = .ok (.iconst 1, 1) := by decide +kernel
theorem dX10_value_19 : decode cX10_value 19 = .ok (.goto 4, 3) := by decide +kernel
theorem dX10_value_22 : decode cX10_value 22 = .ok (.iconst 0, 1) := by decide +kernel
theorem dX10_value_23 : decode cX10_value 23 = .ok (.invokestatic 122, 3) := by decide +kernel
theorem dX10_value_26 : decode cX10_value 26 = .ok (.aload_n 0, 1) := by decide +kernel
theorem dX10_value_27 : decode cX10_value 27 = .ok (.getfield 47, 3) := by decide +kernel
theorem dX10_value_30 : decode cX10_value 30 = .ok (.iload_n 1, 1) := by decide +kernel
theorem dX10_value_31 : decode cX10_value 31 = .ok (.invokevirtual 148, 3) := by decide +kernel
theorem dX10_value_34 : decode cX10_value 34 = .ok (.aload_n 0, 1) := by decide +kernel
theorem dX10_value_35 : decode cX10_value 35 = .ok (.getfield 47, 3) := by decide +kernel
theorem dX10_value_38 : decode cX10_value 38 = .ok (.iload_n 1, 1) := by decide +kernel
theorem dX10_value_39 : decode cX10_value 39 = .ok (.iload_n 2, 1) := by decide +kernel
theorem dX10_value_40 : decode cX10_value 40 = .ok (.iload_n 3, 1) := by decide +kernel
theorem dX10_value_41 : decode cX10_value 41 = .ok (.invokevirtual 162, 3) := by decide +kernel
theorem dX10_value_44 : decode cX10_value 44 = .ok (.ldc2_w 166, 3) := by decide +kernel
theorem dX10_value_47 : decode cX10_value 47 = .ok (.iload 4, 2) := by decide +kernel
theorem dX10_value_49 : decode cX10_value 49 = .ok (.invokestatic 168, 3) := by decide +kernel
theorem dX10_value_52 : decode cX10_value 52 = .ok (.lreturn, 1) := by decide +kernel
theorem dX10_ask_0 : decode cX10_ask 0 = .ok (.iload_n 1, 1) := by decide +kernel
theorem dX10_ask_1 : decode cX10_ask 1 = .ok (.invokestatic 126, 3) := by decide +kernel
theorem dX10_ask_4 : decode cX10_ask 4 = .ok (.ifCond .eq 22, 3) := by decide +kernel
theorem dX10_ask_7 : decode cX10_ask 7 = .ok (.iload_n 2, 1) := by decide +kernel
theorem dX10_ask_8 : decode cX10_ask 8 = .ok (.iconst (-1), 1) := by decide +kernel
theorem dX10_ask_9 : decode cX10_ask 9 = .ok (.if_icmp .eq 19, 3) := by decide +kernel
theorem dX10_ask_12 : decode cX10_ask 12 = .ok (.aload_n 0, 1) := by decide +kernel
theorem dX10_ask_13 : decode cX10_ask 13 = .ok (.getfield 34, 3) := by decide +kernel
theorem dX10_ask_16 : decode cX10_ask 16 = .ok (.getfield 81, 3) := by decide +kernel
theorem dX10_ask_19 : decode cX10_ask 19 = .ok (.iload_n 2, 1) := by decide +kernel
theorem dX10_ask_20 : decode cX10_ask 20 = .ok (.invokevirtual 99, 3) := by decide +kernel
theorem dX10_ask_23 : decode cX10_ask 23 = .ok (.ifCond .ne 5, 3) := by decide +kernel
theorem dX10_ask_26 : decode cX10_ask 26 = .ok (.iconst 0, 1) := by decide +kernel
theorem dX10_ask_27 : decode cX10_ask 27 = .ok (.ireturn, 1) := by decide +kernel
theorem dX10_ask_28 : decode cX10_ask 28 = .ok (.aload_n 0, 1) := by decide +kernel
theorem dX10_ask_29 : decode cX10_ask 29 = .ok (.iload_n 1, 1) := by decide +kernel
theorem dX10_ask_30 : decode cX10_ask 30 = .ok (.iload_n 2, 1) := by decide +kernel
theorem dX10_ask_31 : decode cX10_ask 31 = .ok (.invokevirtual 172, 3) := by decide +kernel
theorem dX10_ask_34 : decode cX10_ask 34 = .ok (.iconst 1, 1) := by decide +kernel
theorem dX10_ask_35 : decode cX10_ask 35 = .ok (.ireturn, 1) := by decide +kernel
theorem dX10_pledge_0 : decode cX10_pledge 0 = .ok (.iload_n 1, 1) := by decide +kernel
theorem dX10_pledge_1 : decode cX10_pledge 1 = .ok (.invokestatic 126, 3) := by decide +kernel
theorem dX10_pledge_4 : decode cX10_pledge 4 = .ok (.ifCond .eq 23, 3) := by decide +kernel
theorem dX10_pledge_7 : decode cX10_pledge 7 = .ok (.iload_n 2, 1) := by decide +kernel
theorem dX10_pledge_8 : decode cX10_pledge 8 = .ok (.iconst (-1), 1) := by decide +kernel
theorem dX10_pledge_9 : decode cX10_pledge 9 = .ok (.if_icmp .eq 20, 3) := by decide +kernel
theorem dX10_pledge_12 : decode cX10_pledge 12 = .ok (.aload_n 0, 1) := by decide +kernel
theorem dX10_pledge_13 : decode cX10_pledge 13 = .ok (.getfield 34, 3) := by decide +kernel
theorem dX10_pledge_16 : decode cX10_pledge 16 = .ok (.getfield 81, 3) := by decide +kernel
theorem dX10_pledge_19 : decode cX10_pledge 19 = .ok (.iload_n 2, 1) := by decide +kernel
theorem dX10_pledge_20 : decode cX10_pledge 20 = .ok (.iload_n 3, 1) := by decide +kernel
theorem dX10_pledge_21 : decode cX10_pledge 21 = .ok (.invokevirtual 136, 3) := by decide +kernel
theorem dX10_pledge_24 : decode cX10_pledge 24 = .ok (.ifCond .ne 5, 3) := by decide +kernel
theorem dX10_pledge_27 : decode cX10_pledge 27 = .ok (.iconst 0, 1) := by decide +kernel
theorem dX10_pledge_28 : decode cX10_pledge 28 = .ok (.ireturn, 1) := by decide +kernel
theorem dX10_pledge_29 : decode cX10_pledge 29 = .ok (.aload_n 0, 1) := by decide +kernel
theorem dX10_pledge_30 : decode cX10_pledge 30 = .ok (.iload_n 1, 1) := by decide +kernel
theorem dX10_pledge_31 : decode cX10_pledge 31 = .ok (.iload_n 2, 1) := by decide +kernel
theorem dX10_pledge_32 : decode cX10_pledge 32 = .ok (.iload_n 2, 1) := by decide +kernel
theorem dX10_pledge_33 : decode cX10_pledge 33 = .ok (.iconst (-1), 1) := by decide +kernel
theorem dX10_pledge_34 : decode cX10_pledge 34 = .ok (.if_icmp .ne 7, 3) := by decide +kernel
