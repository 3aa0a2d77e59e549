theorem dX11_readSort_13 : decode cX11_readSort 13 = .ok (.aload_n 0, 1) := by decide +kernel
theorem dX11_readSort_14 : decode cX11_readSort 14 = .ok (.iconst 5, 1) := by decide +kernel
theorem dX11_readSort_15 : decode cX11_readSort 15 = .ok (.invokevirtual 202, 3) := by decide +kernel
theorem dX11_readSort_18 : decode cX11_readSort 18 = .ok (.return_, 1) := by decide +kernel
theorem dX11_readSort_19 : decode cX11_readSort 19 = .ok (.aload_n 0, 1) := by decide +kernel
theorem dX11_readSort_20 : decode cX11_readSort 20 = .ok (.dup, 1) := by decide +kernel
theorem dX11_readSort_21 : decode cX11_readSort 21 = .ok (.getfield 193, 3) := by decide +kernel
theorem dX11_readSort_24 : decode cX11_readSort 24 = .ok (.iconst 1, 1) := by decide +kernel
theorem dX11_readSort_25 : decode cX11_readSort 25 = .ok (.iadd, 1) := by decide +kernel
theorem dX11_readSort_26 : decode cX11_readSort 26 = .ok (.putfield 193, 3) := by decide +kernel
theorem dX11_readSort_29 : decode cX11_readSort 29 = .ok (.aload_n 0, 1) := by decide +kernel
theorem dX11_readSort_30 : decode cX11_readSort 30 = .ok (.iconst 3, 1) := by decide +kernel
theorem dX11_readSort_31 : decode cX11_readSort 31 = .ok (.iload_n 1, 1) := by decide +kernel
theorem dX11_readSort_32 : decode cX11_readSort 32 = .ok (.iadd, 1) := by decide +kernel
theorem dX11_readSort_33 : decode cX11_readSort 33 = .ok (.invokevirtual 264, 3) := by decide +kernel
theorem dX11_readSort_36 : decode cX11_readSort 36 = .ok (.aload_n 0, 1) := by decide +kernel
theorem dX11_readSort_37 : decode cX11_readSort 37 = .ok (.bipush 6, 2) := by decide +kernel
theorem dX11_readSort_39 : decode cX11_readSort 39 = .ok (.invokevirtual 267, 3) := by decide +kernel
theorem dX11_readSort_42 : decode cX11_readSort 42 = .ok (.aload_n 0, 1) := by decide +kernel
theorem dX11_readSort_43 : decode cX11_readSort 43 = .ok (.getfield 73, 3) := by decide +kernel
theorem dX11_readSort_46 : decode cX11_readSort 46 = .ok (.bipush 94, 2) := by decide +kernel
theorem dX11_readSort_48 : decode cX11_readSort 48 = .ok (.iload_n 1, 1) := by decide +kernel
theorem dX11_readSort_49 : decode cX11_readSort 49 = .ok (.iadd, 1) := by decide +kernel
theorem dX11_readSort_50 : decode cX11_readSort 50 = .ok (.aload_n 0, 1) := by decide +kernel
theorem dX11_readSort_51 : decode cX11_readSort 51 = .ok (.getfield 215, 3) := by decide +kernel
theorem dX11_readSort_54 : decode cX11_readSort 54 = .ok (.iastore, 1) := by decide +kernel
theorem dX11_readSort_55 : decode cX11_readSort 55 = .ok (.aload_n 0, 1) := by decide +kernel
theorem dX11_readSort_56 : decode cX11_readSort 56 = .ok (.getfield 85, 3) := by decide +kernel
theorem dX11_readSort_59 : decode cX11_readSort 59 = .ok (.iload_n 1, 1) := by decide +kernel
theorem dX11_readSort_60 : decode cX11_readSort 60 = .ok (.iconst 0, 1) := by decide +kernel
theorem dX11_readSort_61 : decode cX11_readSort 61 = .ok (.bastore, 1) := by decide +kernel
theorem dX11_readSort_62 : decode cX11_readSort 62 = .ok (.aload_n 0, 1) := by decide +kernel
theorem dX11_readSort_63 : decode cX11_readSort 63 = .ok (.iconst 1, 1) := by decide +kernel
theorem dX11_readSort_64 : decode cX11_readSort 64 = .ok (.putfield 270, 3) := by decide +kernel
theorem dX11_readSort_67 : decode cX11_readSort 67 = .ok (.aload_n 0, 1) := by decide +kernel
theorem dX11_readSort_68 : decode cX11_readSort 68 = .ok (.invokevirtual 273, 3) := by decide +kernel
theorem dX11_readSort_71 : decode cX11_readSort 71 = .ok (.aload_n 0, 1) := by decide +kernel
theorem dX11_readSort_72 : decode cX11_readSort 72 = .ok (.getfield 73, 3) := by decide +kernel
theorem dX11_readSort_75 : decode cX11_readSort 75 = .ok (.bipush 93, 2) := by decide +kernel
theorem dX11_readSort_77 : decode cX11_readSort 77 = .ok (.dup2, 1) := by decide +kernel
theorem dX11_readSort_78 : decode cX11_readSort 78 = .ok (.iaload, 1) := by decide +kernel
theorem dX11_readSort_79 : decode cX11_readSort 79 = .ok (.iconst 1, 1) := by decide +kernel
theorem dX11_readSort_80 : decode cX11_readSort 80 = .ok (.iadd, 1) := by decide +kernel
theorem dX11_readSort_81 : decode cX11_readSort 81 = .ok (.iastore, 1) := by decide +kernel
theorem dX11_readSort_82 : decode cX11_readSort 82 = .ok (.return_, 1) := by decide +kernel
theorem dX11_readBar_0 : decode cX11_readBar 0 = .ok (.aload_n 0, 1) := by decide +kernel
theorem dX11_readBar_1 : decode cX11_readBar 1 = .ok (.getfield 73, 3) := by decide +kernel
theorem dX11_readBar_4 : decode cX11_readBar 4 = .ok (.bipush 102, 2) := by decide +kernel
theorem dX11_readBar_6 : decode cX11_readBar 6 = .ok (.iaload, 1) := by decide +kernel
theorem dX11_readBar_7 : decode cX11_readBar 7 = .ok (.istore_n 1, 1) := by decide +kernel
theorem dX11_readBar_8 : decode cX11_readBar 8 = .ok (.iload_n 1, 1) := by decide +kernel
theorem dX11_readBar_9 : decode cX11_readBar 9 = .ok (.iconst 4, 1) := by decide +kernel
theorem dX11_readBar_10 : decode cX11_readBar 10 = .ok (.if_icmp .ne 9, 3) := by decide +kernel
theorem dX11_readBar_13 : decode cX11_readBar 13 = .ok (.aload_n 0, 1) := by decide +kernel
theorem dX11_readBar_14 : decode cX11_readBar 14 = .ok (.iconst 5, 1) := by decide +kernel
theorem dX11_readBar_15 : decode cX11_readBar 15 = .ok (.invokevirtual 202, 3) := by decide +kernel
theorem dX11_readBar_18 : decode cX11_readBar 18 = .ok (.return_, 1) := by decide +kernel
theorem dX11_readBar_19 : decode cX11_readBar 19 = .ok (.aload_n 0, 1) := by decide +kernel
theorem dX11_readBar_20 : decode cX11_readBar 20 = .ok (.dup, 1) := by decide +kernel
theorem dX11_readBar_21 : decode cX11_readBar 21 = .ok (.getfield 193, 3) := by decide +kernel
theorem dX11_readBar_24 : decode cX11_readBar 24 = .ok (.iconst 1, 1) := by decide +kernel
theorem dX11_readBar_25 : decode cX11_readBar 25 = .ok (.iadd, 1) := by decide +kernel
theorem dX11_readBar_26 : decode cX11_readBar 26 = .ok (.putfield 193, 3) := by decide +kernel
theorem dX11_readBar_29 : decode cX11_readBar 29 = .ok (.aload_n 0, 1) := by decide +kernel
theorem dX11_readBar_30 : decode cX11_readBar 30 = .ok (.getfield 73, 3) := by decide +kernel
theorem dX11_readBar_33 : decode cX11_readBar 33 = .ok (.bipush 103, 2) := by decide +kernel
theorem dX11_readBar_35 : decode cX11_readBar 35 = .ok (.iload_n 1, 1) := by decide +kernel
theorem dX11_readBar_36 : decode cX11_readBar 36 = .ok (.iadd, 1) := by decide +kernel
theorem dX11_readBar_37 : decode cX11_readBar 37 = .ok (.aload_n 0, 1) := by decide +kernel
theorem dX11_readBar_38 : decode cX11_readBar 38 = .ok (.getfield 215, 3) := by decide +kernel
theorem dX11_readBar_41 : decode cX11_readBar 41 = .ok (.iastore, 1) := by decide +kernel
theorem dX11_readBar_42 : decode cX11_readBar 42 = .ok (.aload_n 0, 1) := by decide +kernel
theorem dX11_readBar_43 : decode cX11_readBar 43 = .ok (.iconst 0, 1) := by decide +kernel
theorem dX11_readBar_44 : decode cX11_readBar 44 = .ok (.putfield 270, 3) := by decide +kernel
theorem dX11_readBar_47 : decode cX11_readBar 47 = .ok (.aload_n 0, 1) := by decide +kernel
theorem dX11_readBar_48 : decode cX11_readBar 48 = .ok (.invokevirtual 273, 3) := by decide +kernel
theorem dX11_readBar_51 : decode cX11_readBar 51 = .ok (.aload_n 0, 1) := by decide +kernel
theorem dX11_readBar_52 : decode cX11_readBar 52 = .ok (.getfield 73, 3) := by decide +kernel
theorem dX11_readBar_55 : decode cX11_readBar 55 = .ok (.bipush 102, 2) := by decide +kernel
theorem dX11_readBar_57 : decode cX11_readBar 57 = .ok (.dup2, 1) := by decide +kernel
theorem dX11_readBar_58 : decode cX11_readBar 58 = .ok (.iaload, 1) := by decide +kernel
theorem dX11_readBar_59 : decode cX11_readBar 59 = .ok (.iconst 1, 1) := by decide +kernel
theorem dX11_readBar_60 : decode cX11_readBar 60 = .ok (.iadd, 1) := by decide +kernel
theorem dX11_readBar_61 : decode cX11_readBar 61 = .ok (.iastore, 1) := by decide +kernel
theorem dX11_readBar_62 : decode cX11_readBar 62 = .ok (.return_, 1) := by decide +kernel
theorem dX11_takeSort_0 : decode cX11_takeSort 0 = .ok (.aload_n 0, 1) := by decide +kernel
theorem dX11_takeSort_1 : decode cX11_takeSort 1 = .ok (.invokevirtual 256, 3) := by decide +kernel
theorem dX11_takeSort_4 : decode cX11_takeSort 4 = .ok (.ifCond .eq 19, 3) := by decide +kernel
theorem dX11_takeSort_7 : decode cX11_takeSort 7 = .ok (.aload_n 0, 1) := by decide +kernel
theorem dX11_takeSort_8 : decode cX11_takeSort 8 = .ok (.aload_n 0, 1) := by decide +kernel
theorem dX11_takeSort_9 : decode cX11_takeSort 9 = .ok (.getfield 30, 3) := by decide +kernel
theorem dX11_takeSort_12 : decode cX11_takeSort 12 = .ok (.aload_n 0, 1) := by decide +kernel
theorem dX11_takeSort_13 : decode cX11_takeSort 13 = .ok (.getfield 193, 3) := by decide +kernel
theorem dX11_takeSort_16 : decode cX11_takeSort 16 = .ok (.laload, 1) := by decide +kernel
theorem dX11_takeSort_17 : decode cX11_takeSort 17 = .ok (.invokevirtual 260, 3) := by decide +kernel
theorem dX11_takeSort_20 : decode cX11_takeSort 20 = .ok (.goto 4, 3) := by decide +kernel
theorem dX11_takeSort_23 : decode cX11_takeSort 23 = .ok (.iconst (-1), 1) := by decide +kernel
theorem dX11_takeSort_24 : decode cX11_takeSort 24 = .ok (.istore_n 1, 1) := by decide +kernel
theorem dX11_takeSort_25 : decode cX11_takeSort 25 = .ok (.aload_n 0, 1) := by decide +kernel
theorem dX11_takeSort_26 : decode cX11_takeSort 26 = .ok (.invokevirtual 256, 3) := by decide +kernel
theorem dX11_takeSort_29 : decode cX11_takeSort 29 = .ok (.ifCond .ne 11, 3) := by decide +kernel
theorem dX11_takeSort_32 : decode cX11_takeSort 32 = .ok (.aload_n 0, 1) := by decide +kernel
theorem dX11_takeSort_33 : decode cX11_takeSort 33 = .ok (.iconst 1, 1) := by decide +kernel
theorem dX11_takeSort_34 : decode cX11_takeSort 34 = .ok (.invokevirtual 202, 3) := by decide +kernel
theorem dX11_takeSort_37 : decode cX11_takeSort 37 = .ok (.goto 13, 3) := by decide +kernel
theorem dX11_takeSort_40 : decode cX11_takeSort 40 = .ok (.iload_n 1, 1) := by decide +kernel
theorem dX11_takeSort_41 : decode cX11_takeSort 41 = .ok (.iconst 3, 1) := by decide +kernel
theorem dX11_takeSort_42 : decode cX11_takeSort 42 = .ok (.if_icmp .ge 8, 3) := by decide +kernel
theorem dX11_takeSort_45 : decode cX11_takeSort 45 = .ok (.aload_n 0, 1) := by decide +kernel
theorem dX11_takeSort_46 : decode cX11_takeSort 46 = .ok (.iconst 2, 1) := by decide +kernel
theorem dX11_takeSort_47 : decode cX11_takeSort 47 = .ok (.invokevirtual 202, 3) := by decide +kernel
theorem dX11_takeSort_50 : decode cX11_takeSort 50 = .ok (.aload_n 0, 1) := by decide +kernel
theorem dX11_takeSort_51 : decode cX11_takeSort 51 = .ok (.getfield 196, 3) := by decide +kernel
theorem dX11_takeSort_54 : decode cX11_takeSort 54 = .ok (.ifCond .le 7, 3) := by decide +kernel
theorem dX11_takeSort_57 : decode cX11_takeSort 57 = .ok (.iconst (-1), 1) := by decide +kernel
theorem dX11_takeSort_58 : decode cX11_takeSort 58 = .ok (.goto 6, 3) := by decide +kernel
theorem dX11_takeSort_61 : decode cX11_takeSort 61 = .ok (.iload_n 1, 1) := by decide +kernel
theorem dX11_takeSort_62 : decode cX11_takeSort 62 = .ok (.iconst 3, 1) := by decide +kernel
theorem dX11_takeSort_63 : decode cX11_takeSort 63 = .ok (.isub, 1) := by decide +kernel
theorem dX11_takeSort_64 : decode cX11_takeSort 64 = .ok (.ireturn, 1) := by decide +kernel
theorem dX11_readChance_0 : decode cX11_readChance 0 = .ok (.aload_n 0, 1) := by decide +kernel
theorem dX11_readChance_1 : decode cX11_readChance 1 = .ok (.dup, 1) := by decide +kernel
theorem dX11_readChance_2 : decode cX11_readChance 2 = .ok (.getfield 193, 3) := by decide +kernel
theorem dX11_readChance_5 : decode cX11_readChance 5 = .ok (.iconst 1, 1) := by decide +kernel
theorem dX11_readChance_6 : decode cX11_readChance 6 = .ok (.iadd, 1) := by decide +kernel
theorem dX11_readChance_7 : decode cX11_readChance 7 = .ok (.putfield 193, 3) := by decide +kernel
theorem dX11_readChance_10 : decode cX11_readChance 10 = .ok (.aload_n 0, 1) := by decide +kernel
theorem dX11_readChance_11 : decode cX11_readChance 11 = .ok (.invokevirtual 276, 3) := by decide +kernel
theorem dX11_readChance_14 : decode cX11_readChance 14 = .ok (.istore_n 1, 1) := by decide +kernel
theorem dX11_readChance_15 : decode cX11_readChance 15 = .ok (.iload_n 1, 1) := by decide +kernel
theorem dX11_readChance_16 : decode cX11_readChance 16 = .ok (.ifCond .lt 17, 3) := by decide +kernel
theorem dX11_readChance_19 : decode cX11_readChance 19 = .ok (.aload_n 0, 1) := by decide +kernel
theorem dX11_readChance_20 : decode cX11_readChance 20 = .ok (.getfield 85, 3) := by decide +kernel
theorem dX11_readChance_23 : decode cX11_readChance 23 = .ok (.iload_n 1, 1) := by decide +kernel
theorem dX11_readChance_24 : decode cX11_readChance 24 = .ok (.baload, 1) := by decide +kernel
theorem dX11_readChance_25 : decode cX11_readChance 25 = .ok (.ifCond .eq 8, 3) := by decide +kernel
theorem dX11_readChance_28 : decode cX11_readChance 28 = .ok (.aload_n 0, 1) := by decide +kernel
theorem dX11_readChance_29 : decode cX11_readChance 29 = .ok (.iconst 3, 1) := by decide +kernel
theorem dX11_readChance_30 : decode cX11_readChance 30 = .ok (.invokevirtual 202, 3) := by decide +kernel
theorem dX11_readChance_33 : decode cX11_readChance 33 = .ok (.aload_n 0, 1) := by decide +kernel
theorem dX11_readChance_34 : decode cX11_readChance 34 = .ok (.getfield 196, 3) := by decide +kernel
theorem dX11_readChance_37 : decode cX11_readChance 37 = .ok (.ifCond .le 4, 3) := by decide +kernel
theorem dX11_readChance_40 : decode cX11_readChance 40 = .ok (.return_, 1) := by decide +kernel
theorem dX11_readChance_41 : decode cX11_readChance 41 = .ok (.aload_n 0, 1) := by decide +kernel
theorem dX11_readChance_42 : decode cX11_readChance 42 = .ok (.dup, 1) := by decide +kernel
theorem dX11_readChance_43 : decode cX11_readChance 43 = .ok (.getfield 193, 3) := by decide +kernel
theorem dX11_readChance_46 : decode cX11_readChance 46 = .ok (.iconst 1, 1) := by decide +kernel
theorem dX11_readChance_47 : decode cX11_readChance 47 = .ok (.iadd, 1) := by decide +kernel
theorem dX11_readChance_48 : decode cX11_readChance 48 = .ok (.putfield 193, 3) := by decide +kernel
theorem dX11_readChance_51 : decode cX11_readChance 51 = .ok (.aload_n 0, 1) := by decide +kernel
theorem dX11_readChance_52 : decode cX11_readChance 52 = .ok (.getfield 85, 3) := by decide +kernel
theorem dX11_readChance_55 : decode cX11_readChance 55 = .ok (.iload_n 1, 1) := by decide +kernel
theorem dX11_readChance_56 : decode cX11_readChance 56 = .ok (.iconst 1, 1) := by decide +kernel
theorem dX11_readChance_57 : decode cX11_readChance 57 = .ok (.bastore, 1) := by decide +kernel
theorem dX11_readChance_58 : decode cX11_readChance 58 = .ok (.aload_n 0, 1) := by decide +kernel
theorem dX11_readChance_59 : decode cX11_readChance 59 = .ok (.getfield 73, 3) := by decide +kernel
theorem dX11_readChance_62 : decode cX11_readChance 62 = .ok (.bipush 98, 2) := by decide +kernel
theorem dX11_readChance_64 : decode cX11_readChance 64 = .ok (.iload_n 1, 1) := by decide +kernel
theorem dX11_readChance_65 : decode cX11_readChance 65 = .ok (.iadd, 1) := by decide +kernel
theorem dX11_readChance_66 : decode cX11_readChance 66 = .ok (.aload_n 0, 1) := by decide +kernel
theorem dX11_readChance_67 : decode cX11_readChance 67 = .ok (.iconst 0, 1) := by decide +kernel
theorem dX11_readChance_68 : decode cX11_readChance 68 = .ok (.bipush 6, 2) := by decide +kernel
theorem dX11_readChance_70 : decode cX11_readChance 70 = .ok (.invokevirtual 252, 3) := by decide +kernel
theorem dX11_readChance_73 : decode cX11_readChance 73 = .ok (.iastore, 1) := by decide +kernel
theorem dX11_readChance_74 : decode cX11_readChance 74 = .ok (.return_, 1) := by decide +kernel
theorem dX11_readSpring_0 : decode cX11_readSpring 0 = .ok (.aload_n 0, 1) := by decide +kernel
theorem dX11_readSpring_1 : decode cX11_readSpring 1 = .ok (.dup, 1) := by decide +kernel
theorem dX11_readSpring_2 : decode cX11_readSpring 2 = .ok (.getfield 193, 3) := by decide +kernel
theorem dX11_readSpring_5 : decode cX11_readSpring 5 = .ok (.iconst 1, 1) := by decide +kernel
theorem dX11_readSpring_6 : decode cX11_readSpring 6 = .ok (.iadd, 1) := by decide +kernel
theorem dX11_readSpring_7 : decode cX11_readSpring 7 = .ok (.putfield 193, 3) := by decide +kernel
theorem dX11_readSpring_10 : decode cX11_readSpring 10 = .ok (.aload_n 0, 1) := by decide +kernel
theorem dX11_readSpring_11 : decode cX11_readSpring 11 = .ok (.getfield 196, 3) := by decide +kernel
theorem dX11_readSpring_14 : decode cX11_readSpring 14 = .ok (.ifCond .ne 58, 3) := by decide +kernel
theorem dX11_readSpring_17 : decode cX11_readSpring 17 = .ok (.aload_n 0, 1) := by decide +kernel
theorem dX11_readSpring_18 : decode cX11_readSpring 18 = .ok (.getfield 24, 3) := by decide +kernel
theorem dX11_readSpring_21 : decode cX11_readSpring 21 = .ok (.aload_n 0, 1) := by decide +kernel
theorem dX11_readSpring_22 : decode cX11_readSpring 22 = .ok (.getfield 193, 3) := by decide +kernel
theorem dX11_readSpring_25 : decode cX11_readSpring 25 = .ok (.iaload, 1) := by decide +kernel
theorem dX11_readSpring_26 : decode cX11_readSpring 26 = .ok (.iconst 2, 1) := by decide +kernel
theorem dX11_readSpring_27 : decode cX11_readSpring 27 = .ok (.if_icmp .ne 45, 3) := by decide +kernel
theorem dX11_readSpring_30 : decode cX11_readSpring 30 = .ok (.aload_n 0, 1) := by decide +kernel
theorem dX11_readSpring_31 : decode cX11_readSpring 31 = .ok (.getfield 30, 3) := by decide +kernel
theorem dX11_readSpring_34 : decode cX11_readSpring 34 = .ok (.aload_n 0, 1) := by decide +kernel
theorem dX11_readSpring_35 : decode cX11_readSpring 35 = .ok (.getfield 193, 3) := by decide +kernel
theorem dX11_readSpring_38 : decode cX11_readSpring 38 = .ok (.laload, 1) := by decide +kernel
theorem dX11_readSpring_39 : decode cX11_readSpring 39 = .ok (.ldc2_w 280, 3) := by decide +kernel
theorem dX11_readSpring_42 : decode cX11_readSpring 42 = .ok (.lcmp, 1) := by decide +kernel
theorem dX11_readSpring_43 : decode cX11_readSpring 43 = .ok (.ifCond .ge 29, 3) := by decide +kernel
theorem dX11_readSpring_46 : decode cX11_readSpring 46 = .ok (.aload_n 0, 1) := by decide +kernel
theorem dX11_readSpring_47 : decode cX11_readSpring 47 = .ok (.getfield 73, 3) := by decide +kernel
theorem dX11_readSpring_50 : decode cX11_readSpring 50 = .ok (.bipush 109, 2) := by decide +kernel
theorem dX11_readSpring_52 : decode cX11_readSpring 52 = .ok (.aload_n 0, 1) := by decide +kernel
theorem dX11_readSpring_53 : decode cX11_readSpring 53 = .ok (.getfield 30, 3) := by decide +kernel
theorem dX11_readSpring_56 : decode cX11_readSpring 56 = .ok (.aload_n 0, 1) := by decide +kernel
theorem dX11_readSpring_57 : decode cX11_readSpring 57 = .ok (.getfield 193, 3) := by decide +kernel
theorem dX11_readSpring_60 : decode cX11_readSpring 60 = .ok (.laload, 1) := by decide +kernel
theorem dX11_readSpring_61 : decode cX11_readSpring 61 = .ok (.l2i, 1) := by decide +kernel
theorem dX11_readSpring_62 : decode cX11_readSpring 62 = .ok (.iadd, 1) := by decide +kernel
theorem dX11_readSpring_63 : decode cX11_readSpring 63 = .ok (.iaload, 1) := by decide +kernel
theorem dX11_readSpring_64 : decode cX11_readSpring 64 = .ok (.ifCond .le 8, 3) := by decide +kernel
theorem dX11_readSpring_67 : decode cX11_readSpring 67 = .ok (.aload_n 0, 1) := by decide +kernel
theorem dX11_readSpring_68 : decode cX11_readSpring 68 = .ok (.iconst 3, 1) := by decide +kernel
theorem dX11_readSpring_69 : decode cX11_readSpring 69 = .ok (.invokevirtual 202, 3) := by decide +kernel
theorem dX11_readSpring_72 : decode cX11_readSpring 72 = .ok (.bipush 109, 2) := by decide +kernel
theorem dX11_readSpring_74 : decode cX11_readSpring 74 = .ok (.aload_n 0, 1) := by decide +kernel
theorem dX11_readSpring_75 : decode cX11_readSpring 75 = .ok (.iconst 0, 1) := by decide +kernel
theorem dX11_readSpring_76 : decode cX11_readSpring 76 = .ok (.bipush 15, 2) := by decide +kernel
theorem dX11_readSpring_78 : decode cX11_readSpring 78 = .ok (.invokevirtual 252, 3) := by decide +kernel
theorem dX11_readSpring_81 : decode cX11_readSpring 81 = .ok (.iadd, 1) := by decide +kernel
theorem dX11_readSpring_82 : decode cX11_readSpring 82 = .ok (.istore_n 1, 1) := by decide +kernel
theorem dX11_readSpring_83 : decode cX11_readSpring 83 = .ok (.aload_n 0, 1) := by decide +kernel
theorem dX11_readSpring_84 : decode cX11_readSpring 84 = .ok (.bipush 9, 2) := by decide +kernel
theorem dX11_readSpring_86 : decode cX11_readSpring 86 = .ok (.invokevirtual 267, 3) := by decide +kernel
theorem dX11_readSpring_89 : decode cX11_readSpring 89 = .ok (.aload_n 0, 1) := by decide +kernel
theorem dX11_readSpring_90 : decode cX11_readSpring 90 = .ok (.bipush 10, 2) := by decide +kernel
theorem dX11_readSpring_92 : decode cX11_readSpring 92 = .ok (.invokevirtual 209, 3) := by decide +kernel
theorem dX11_readSpring_95 : decode cX11_readSpring 95 = .ok (.ifCond .eq 11, 3) := by decide +kernel
theorem dX11_readSpring_98 : decode cX11_readSpring 98 = .ok (.aload_n 0, 1) := by decide +kernel
theorem dX11_readSpring_99 : decode cX11_readSpring 99 = .ok (.getfield 73, 3) := by decide +kernel
theorem dX11_readSpring_102 : decode cX11_readSpring 102 = .ok (.iload_n 1, 1) := by decide +kernel
theorem dX11_readSpring_103 : decode cX11_readSpring 103 = .ok (.iconst 1, 1) := by decide +kernel
theorem dX11_readSpring_104 : decode cX11_readSpring 104 = .ok (.iastore, 1) := by decide +kernel
theorem dX11_readSpring_105 : decode cX11_readSpring 105 = .ok (.return_, 1) := by decide +kernel
theorem dX11_readSpring_106 : decode cX11_readSpring 106 = .ok (.aload_n 0, 1) := by decide +kernel
theorem dX11_readSpring_107 : decode cX11_readSpring 107 = .ok (.invokevirtual 276, 3) := by decide +kernel
theorem dX11_readSpring_110 : decode cX11_readSpring 110 = .ok (.istore_n 2, 1) := by decide +kernel
theorem dX11_readSpring_111 : decode cX11_readSpring 111 = .ok (.iload_n 2, 1) := by decide +kernel
theorem dX11_readSpring_112 : decode cX11_readSpring 112 = .ok (.ifCond .lt 22, 3) := by decide +kernel
theorem dX11_readSpring_115 : decode cX11_readSpring 115 = .ok (.aload_n 0, 1) := by decide +kernel
theorem dX11_readSpring_116 : decode cX11_readSpring 116 = .ok (.getfield 73, 3) := by decide +kernel
theorem dX11_readSpring_119 : decode cX11_readSpring 119 = .ok (.iload_n 1, 1) := by decide +kernel
theorem dX11_readSpring_120 : decode cX11_readSpring 120 = .ok (.iconst 2, 1) := by decide +kernel
theorem dX11_readSpring_121 : decode cX11_readSpring 121 = .ok (.iload_n 2, 1) := by decide +kernel
theorem dX11_readSpring_122 : decode cX11_readSpring 122 = .ok (.iadd, 1) := by decide +kernel
theorem dX11_readSpring_123 : decode cX11_readSpring 123 = .ok (.iastore, 1) := by decide +kernel
theorem dX11_readSpring_124 : decode cX11_readSpring 124 = .ok (.aload_n 0, 1) := by decide +kernel
theorem dX11_readSpring_125 : decode cX11_readSpring 125 = .ok (.dup, 1) := by decide +kernel
theorem dX11_readSpring_126 : decode cX11_readSpring 126 = .ok (.getfield 193, 3) := by decide +kernel
theorem dX11_readSpring_129 : decode cX11_readSpring 129 = .ok (.iconst 1, 1) := by decide +kernel
theorem dX11_readSpring_130 : decode cX11_readSpring 130 = .ok (.iadd, 1) := by decide +kernel
theorem dX11_readSpring_131 : decode cX11_readSpring 131 = .ok (.putfield 193, 3) := by decide +kernel
theorem dX11_readSpring_134 : decode cX11_readSpring 134 = .ok (.return_, 1) := by decide +kernel
theorem dX11_emit_0 : decode cX11_emit 0 = .ok (.aload_n 0, 1) := by decide +kernel
theorem dX11_emit_1 : decode cX11_emit 1 = .ok (.getfield 76, 3) := by decide +kernel
theorem dX11_emit_4 : decode cX11_emit 4 = .ok (.sipush 1100, 3) := by decide +kernel
theorem dX11_emit_7 : decode cX11_emit 7 = .ok (.aload_n 0, 1) := by decide +kernel
theorem dX11_emit_8 : decode cX11_emit 8 = .ok (.getfield 215, 3) := by decide +kernel
theorem dX11_emit_11 : decode cX11_emit 11 = .ok (.iadd, 1) := by decide +kernel
theorem dX11_emit_12 : decode cX11_emit 12 = .ok (.iload_n 1, 1) := by decide +kernel
theorem dX11_emit_13 : decode cX11_emit 13 = .ok (.iastore, 1) := by decide +kernel
theorem dX11_emit_14 : decode cX11_emit 14 = .ok (.aload_n 0, 1) := by decide +kernel
theorem dX11_emit_15 : decode cX11_emit 15 = .ok (.getfield 79, 3) := by decide +kernel
theorem dX11_emit_18 : decode cX11_emit 18 = .ok (.sipush 1100, 3) := by decide +kernel
theorem dX11_emit_21 : decode cX11_emit 21 = .ok (.aload_n 0, 1) := by decide +kernel
theorem dX11_emit_22 : decode cX11_emit 22 = .ok (.getfield 215, 3) := by decide +kernel
theorem dX11_emit_25 : decode cX11_emit 25 = .ok (.iadd, 1) := by decide +kernel
theorem dX11_emit_26 : decode cX11_emit 26 = .ok (.iload_n 2, 1) := by decide +kernel
theorem dX11_emit_27 : decode cX11_emit 27 = .ok (.iastore, 1) := by decide +kernel
theorem dX11_emit_28 : decode cX11_emit 28 = .ok (.aload_n 0, 1) := by decide +kernel
theorem dX11_emit_29 : decode cX11_emit 29 = .ok (.dup, 1) := by decide +kernel
theorem dX11_emit_30 : decode cX11_emit 30 = .ok (.getfield 215, 3) := by decide +kernel
theorem dX11_emit_33 : decode cX11_emit 33 = .ok (.iconst 1, 1) := by decide +kernel
theorem dX11_emit_34 : decode cX11_emit 34 = .ok (.iadd, 1) := by decide +kernel
theorem dX11_emit_35 : decode cX11_emit 35 = .ok (.putfield 215, 3) := by decide +kernel
theorem dX11_emit_38 : decode cX11_emit 38 = .ok (.return_, 1) := by decide +kernel
theorem dX11_readWhole_0 : decode cX11_readWhole 0 = .ok (.aload_n 0, 1) := by decide +kernel
theorem dX11_readWhole_1 : decode cX11_readWhole 1 = .ok (.iconst 0, 1) := by decide +kernel
theorem dX11_readWhole_2 : decode cX11_readWhole 2 = .ok (.invokevirtual 282, 3) := by decide +kernel
theorem dX11_readWhole_5 : decode cX11_readWhole 5 = .ok (.aload_n 0, 1) := by decide +kernel
theorem dX11_readWhole_6 : decode cX11_readWhole 6 = .ok (.iconst 0, 1) := by decide +kernel
theorem dX11_readWhole_7 : decode cX11_readWhole 7 = .ok (.iconst 0, 1) := by decide +kernel
theorem dX11_readWhole_8 : decode cX11_readWhole 8 = .ok (.invokevirtual 285, 3) := by decide +kernel
theorem dX11_readWhole_11 : decode cX11_readWhole 11 = .ok (.return_, 1) := by decide +kernel
theorem dX11_all_0 : decode cX11_all 0 = .ok (.aload_n 0, 1) := by decide +kernel
theorem dX11_all_1 : decode cX11_all 1 = .ok (.iload_n 1, 1) := by decide +kernel
theorem dX11_all_2 : decode cX11_all 2 = .ok (.invokevirtual 288, 3) := by decide +kernel
theorem dX11_all_5 : decode cX11_all 5 = .ok (.aload_n 0, 1) := by decide +kernel
theorem dX11_all_6 : decode cX11_all 6 = .ok (.bipush 15, 2) := by decide +kernel
theorem dX11_all_8 : decode cX11_all 8 = .ok (.invokevirtual 206, 3) := by decide +kernel
theorem dX11_all_11 : decode cX11_all 11 = .ok (.ifCond .ne 12, 3) := by decide +kernel
theorem dX11_all_14 : decode cX11_all 14 = .ok (.aload_n 0, 1) := by decide +kernel
theorem dX11_all_15 : decode cX11_all 15 = .ok (.bipush 16, 2) := by decide +kernel
theorem dX11_all_17 : decode cX11_all 17 = .ok (.invokevirtual 206, 3) := by decide +kernel
theorem dX11_all_20 : decode cX11_all 20 = .ok (.ifCond .eq 44, 3) := by decide +kernel
theorem dX11_all_23 : decode cX11_all 23 = .ok (.aload_n 0, 1) := by decide +kernel
theorem dX11_all_24 : decode cX11_all 24 = .ok (.bipush 15, 2) := by decide +kernel
theorem dX11_all_26 : decode cX11_all 26 = .ok (.invokevirtual 206, 3) := by decide +kernel
theorem dX11_all_29 : decode cX11_all 29 = .ok (.istore_n 2, 1) := by decide +kernel
theorem dX11_all_30 : decode cX11_all 30 = .ok (.aload_n 0, 1) := by decide +kernel
theorem dX11_all_31 : decode cX11_all 31 = .ok (.dup, 1) := by decide +kernel
theorem dX11_all_32 : decode cX11_all 32 = .ok (.getfield 193, 3) := by decide +kernel
theorem dX11_all_35 : decode cX11_all 35 = .ok (.iconst 1, 1) := by decide +kernel
theorem dX11_all_36 : decode cX11_all 36 = .ok (.iadd, 1) := by decide +kernel
theorem dX11_all_37 : decode cX11_all 37 = .ok (.putfield 193, 3) := by decide +kernel
theorem dX11_all_40 : decode cX11_all 40 = .ok (.aload_n 0, 1) := by decide +kernel
theorem dX11_all_41 : decode cX11_all 41 = .ok (.iload_n 1, 1) := by decide +kernel
theorem dX11_all_42 : decode cX11_all 42 = .ok (.invokevirtual 288, 3) := by decide +kernel
theorem dX11_all_45 : decode cX11_all 45 = .ok (.aload_n 0, 1) := by decide +kernel
theorem dX11_all_46 : decode cX11_all 46 = .ok (.iload_n 2, 1) := by decide +kernel
theorem dX11_all_47 : decode cX11_all 47 = .ok (.ifCond .eq 8, 3) := by decide +kernel
theorem dX11_all_50 : decode cX11_all 50 = .ok (.bipush 9, 2) := by decide +kernel
theorem dX11_all_52 : decode cX11_all 52 = .ok (.goto 5, 3) := by decide +kernel
theorem dX11_all_55 : decode cX11_all 55 = .ok (.bipush 10, 2) := by decide +kernel
theorem dX11_all_57 : decode cX11_all 57 = .ok (.iconst 0, 1) := by decide +kernel
theorem dX11_all_58 : decode cX11_all 58 = .ok (.invokevirtual 285, 3) := by decide +kernel
theorem dX11_all_61 : decode cX11_all 61 = .ok (.goto (-56), 3) := by decide +kernel
theorem dX11_all_64 : decode cX11_all 64 = .ok (.return_, 1) := by decide +kernel
theorem dX11_test_0 : decode cX11_test 0 = .ok (.aload_n 0, 1) := by decide +kernel
theorem dX11_test_1 : decode cX11_test 1 = .ok (.iload_n 1, 1) := by decide +kernel
theorem dX11_test_2 : decode cX11_test 2 = .ok (.invokevirtual 291, 3) := by decide +kernel
theorem dX11_test_5 : decode cX11_test 5 = .ok (.aload_n 0, 1) := by decide +kernel
theorem dX11_test_6 : decode cX11_test 6 = .ok (.bipush 60, 2) := by decide +kernel
theorem dX11_test_8 : decode cX11_test 8 = .ok (.invokevirtual 199, 3) := by decide +kernel
theorem dX11_test_11 : decode cX11_test 11 = .ok (.istore_n 2, 1) := by decide +kernel
theorem dX11_test_12 : decode cX11_test 12 = .ok (.aload_n 0, 1) := by decide +kernel
theorem dX11_test_13 : decode cX11_test 13 = .ok (.bipush 60, 2) := by decide +kernel
theorem dX11_test_15 : decode cX11_test 15 = .ok (.invokevirtual 294, 3) := by decide +kernel
theorem dX11_test_18 : decode cX11_test 18 = .ok (.ifCond .ne 12, 3) := by decide +kernel
theorem dX11_test_21 : decode cX11_test 21 = .ok (.aload_n 0, 1) := by decide +kernel
theorem dX11_test_22 : decode cX11_test 22 = .ok (.bipush 61, 2) := by decide +kernel
theorem dX11_test_24 : decode cX11_test 24 = .ok (.invokevirtual 294, 3) := by decide +kernel
theorem dX11_test_27 : decode cX11_test 27 = .ok (.ifCond .eq 24, 3) := by decide +kernel
theorem dX11_test_30 : decode cX11_test 30 = .ok (.aload_n 0, 1) := by decide +kernel
theorem dX11_test_31 : decode cX11_test 31 = .ok (.iload_n 1, 1) := by decide +kernel
theorem dX11_test_32 : decode cX11_test 32 = .ok (.invokevirtual 291, 3) := by decide +kernel
theorem dX11_test_35 : decode cX11_test 35 = .ok (.aload_n 0, 1) := by decide +kernel
theorem dX11_test_36 : decode cX11_test 36 = .ok (.iload_n 2, 1) := by decide +kernel
theorem dX11_test_37 : decode cX11_test 37 = .ok (.ifCond .eq 8, 3) := by decide +kernel
theorem dX11_test_40 : decode cX11_test 40 = .ok (.bipush 7, 2) := by decide +kernel
theorem dX11_test_42 : decode cX11_test 42 = .ok (.goto 5, 3) := by decide +kernel
theorem dX11_test_45 : decode cX11_test 45 = .ok (.bipush 8, 2) := by decide +kernel
theorem dX11_test_47 : decode cX11_test 47 = .ok (.iconst 0, 1) := by decide +kernel
theorem dX11_test_48 : decode cX11_test 48 = .ok (.invokevirtual 285, 3) := by decide +kernel
theorem dX11_test_51 : decode cX11_test 51 = .ok (.return_, 1) := by decide +kernel
theorem dX11_sums_0 : decode cX11_sums 0 = .ok (.aload_n 0, 1) := by decide +kernel
theorem dX11_sums_1 : decode cX11_sums 1 = .ok (.iload_n 1, 1) := by decide +kernel
theorem dX11_sums_2 : decode cX11_sums 2 = .ok (.invokevirtual 297, 3) := by decide +kernel
theorem dX11_sums_5 : decode cX11_sums 5 = .ok (.aload_n 0, 1) := by decide +kernel
theorem dX11_sums_6 : decode cX11_sums 6 = .ok (.bipush 43, 2) := by decide +kernel
theorem dX11_sums_8 : decode cX11_sums 8 = .ok (.invokevirtual 199, 3) := by decide +kernel
theorem dX11_sums_11 : decode cX11_sums 11 = .ok (.ifCond .ne 12, 3) := by decide +kernel
theorem dX11_sums_14 : decode cX11_sums 14 = .ok (.aload_n 0, 1) := by decide +kernel
theorem dX11_sums_15 : decode cX11_sums 15 = .ok (.bipush 45, 2) := by decide +kernel
theorem dX11_sums_17 : decode cX11_sums 17 = .ok (.invokevirtual 199, 3) := by decide +kernel
theorem dX11_sums_20 : decode cX11_sums 20 = .ok (.ifCond .eq 42, 3) := by decide +kernel
theorem dX11_sums_23 : decode cX11_sums 23 = .ok (.aload_n 0, 1) := by decide +kernel
theorem dX11_sums_24 : decode cX11_sums 24 = .ok (.bipush 43, 2) := by decide +kernel
theorem dX11_sums_26 : decode cX11_sums 26 = .ok (.invokevirtual 199, 3) := by decide +kernel
theorem dX11_sums_29 : decode cX11_sums 29 = .ok (.istore_n 2, 1) := by decide +kernel
theorem dX11_sums_30 : decode cX11_sums 30 = .ok (.aload_n 0, 1) := by decide +kernel
theorem dX11_sums_31 : decode cX11_sums 31 = .ok (.dup, 1) := by decide +kernel
theorem dX11_sums_32 : decode cX11_sums 32 = .ok (.getfield 193, 3) := by decide +kernel
theorem dX11_sums_35 : decode cX11_sums 35 = .ok (.iconst 1, 1) := by decide +kernel
theorem dX11_sums_36 : decode cX11_sums 36 = .ok (.iadd, 1) := by decide +kernel
theorem dX11_sums_37 : decode cX11_sums 37 = .ok (.putfield 193, 3) := by decide +kernel
theorem dX11_sums_40 : decode cX11_sums 40 = .ok (.aload_n 0, 1) := by decide +kernel
theorem dX11_sums_41 : decode cX11_sums 41 = .ok (.iload_n 1, 1) := by decide +kernel
theorem dX11_sums_42 : decode cX11_sums 42 = .ok (.invokevirtual 297, 3) := by decide +kernel
theorem dX11_sums_45 : decode cX11_sums 45 = .ok (.aload_n 0, 1) := by decide +kernel
theorem dX11_sums_46 : decode cX11_sums 46 = .ok (.iload_n 2, 1) := by decide +kernel
theorem dX11_sums_47 : decode cX11_sums 47 = .ok (.ifCond .eq 7, 3) := by decide +kernel
theorem dX11_sums_50 : decode cX11_sums 50 = .ok (.iconst 4, 1) := by decide +kernel
theorem dX11_sums_51 : decode cX11_sums 51 = .ok (.goto 4, 3) := by decide +kernel
theorem dX11_sums_54 : decode cX11_sums 54 = .ok (.iconst 5, 1) := by decide +kernel
theorem dX11_sums_55 : decode cX11_sums 55 = .ok (.iconst 0, 1) := by decide +kernel
theorem dX11_sums_56 : decode cX11_sums 56 = .ok (.invokevirtual 285, 3) := by decide +kernel
theorem dX11_sums_59 : decode cX11_sums 59 = .ok (.goto (-54), 3) := by decide +kernel
theorem dX11_sums_62 : decode cX11_sums 62 = .ok (.return_, 1) := by decide +kernel
theorem dX11_products_0 : decode cX11_products 0 = .ok (.aload_n 0, 1) := by decide +kernel
theorem dX11_products_1 : decode cX11_products 1 = .ok (.iload_n 1, 1) := by decide +kernel
theorem dX11_products_2 : decode cX11_products 2 = .ok (.invokevirtual 300, 3) := by decide +kernel
theorem dX11_products_5 : decode cX11_products 5 = .ok (.aload_n 0, 1) := by decide +kernel
theorem dX11_products_6 : decode cX11_products 6 = .ok (.bipush 42, 2) := by decide +kernel
theorem dX11_products_8 : decode cX11_products 8 = .ok (.invokevirtual 294, 3) := by decide +kernel
theorem dX11_products_11 : decode cX11_products 11 = .ok (.ifCond .eq 18, 3) := by decide +kernel
theorem dX11_products_14 : decode cX11_products 14 = .ok (.aload_n 0, 1) := by decide +kernel
theorem dX11_products_15 : decode cX11_products 15 = .ok (.iload_n 1, 1) := by decide +kernel
theorem dX11_products_16 : decode cX11_products 16 = .ok (.invokevirtual 300, 3) := by decide +kernel
theorem dX11_products_19 : decode cX11_products 19 = .ok (.aload_n 0, 1) := by decide +kernel
theorem dX11_products_20 : decode cX11_products 20 = .ok (.bipush 6, 2) := by decide +kernel
theorem dX11_products_22 : decode cX11_products 22 = .ok (.iconst 0, 1) := by decide +kernel
theorem dX11_products_23 : decode cX11_products 23 = .ok (.invokevirtual 285, 3) := by decide +kernel
theorem dX11_products_26 : decode cX11_products 26 = .ok (.goto (-21), 3) := by decide +kernel
theorem dX11_products_29 : decode cX11_products 29 = .ok (.return_, 1) := by decide +kernel
theorem dX11_takePart_0 : decode cX11_takePart 0 = .ok (.aload_n 0, 1) := by decide +kernel
theorem dX11_takePart_1 : decode cX11_takePart 1 = .ok (.getfield 196, 3) := by decide +kernel
theorem dX11_takePart_4 : decode cX11_takePart 4 = .ok (.ifCond .le 4, 3) := by decide +kernel
theorem dX11_takePart_7 : decode cX11_takePart 7 = .ok (.return_, 1) := by decide +kernel
theorem dX11_takePart_8 : decode cX11_takePart 8 = .ok (.aload_n 0, 1) := by decide +kernel
theorem dX11_takePart_9 : decode cX11_takePart 9 = .ok (.getfield 24, 3) := by decide +kernel
theorem dX11_takePart_12 : decode cX11_takePart 12 = .ok (.aload_n 0, 1) := by decide +kernel
theorem dX11_takePart_13 : decode cX11_takePart 13 = .ok (.getfield 193, 3) := by decide +kernel
theorem dX11_takePart_16 : decode cX11_takePart 16 = .ok (.iaload, 1) := by decide +kernel
theorem dX11_takePart_17 : decode cX11_takePart 17 = .ok (.iconst 2, 1) := by decide +kernel
theorem dX11_takePart_18 : decode cX11_takePart 18 = .ok (.if_icmp .ne 7, 3) := by decide +kernel
theorem dX11_takePart_21 : decode cX11_takePart 21 = .ok (.iconst 1, 1) := by decide +kernel
theorem dX11_takePart_22 : decode cX11_takePart 22 = .ok (.goto 4, 3) := by decide +kernel
theorem dX11_takePart_25 : decode cX11_takePart 25 = .ok (.iconst 0, 1) := by decide +kernel
theorem dX11_takePart_26 : decode cX11_takePart 26 = .ok (.istore_n 2, 1) := by decide +kernel
theorem dX11_takePart_27 : decode cX11_takePart 27 = .ok (.aload_n 0, 1) := by decide +kernel
theorem dX11_takePart_28 : decode cX11_takePart 28 = .ok (.getfield 270, 3) := by decide +kernel
theorem dX11_takePart_31 : decode cX11_takePart 31 = .ok (.ifCond .eq 16, 3) := by decide +kernel
theorem dX11_takePart_34 : decode cX11_takePart 34 = .ok (.aload_n 0, 1) := by decide +kernel
theorem dX11_takePart_35 : decode cX11_takePart 35 = .ok (.bipush 17, 2) := by decide +kernel
theorem dX11_takePart_37 : decode cX11_takePart 37 = .ok (.invokevirtual 206, 3) := by decide +kernel
theorem dX11_takePart_40 : decode cX11_takePart 40 = .ok (.ifCond .eq 7, 3) := by decide +kernel
theorem dX11_takePart_43 : decode cX11_takePart 43 = .ok (.iconst 3, 1) := by decide +kernel
theorem dX11_takePart_44 : decode cX11_takePart 44 = .ok (.goto 24, 3) := by decide +kernel
theorem dX11_takePart_47 : decode cX11_takePart 47 = .ok (.aload_n 0, 1) := by decide +kernel
theorem dX11_takePart_48 : decode cX11_takePart 48 = .ok (.getfield 270, 3) := by decide +kernel
theorem dX11_takePart_51 : decode cX11_takePart 51 = .ok (.ifCond .eq 16, 3) := by decide +kernel
theorem dX11_takePart_54 : decode cX11_takePart 54 = .ok (.aload_n 0, 1) := by decide +kernel
theorem dX11_takePart_55 : decode cX11_takePart 55 = .ok (.bipush 8, 2) := by decide +kernel
theorem dX11_takePart_57 : decode cX11_takePart 57 = .ok (.invokevirtual 206, 3) := by decide +kernel
theorem dX11_takePart_60 : decode cX11_takePart 60 = .ok (.ifCond .eq 7, 3) := by decide +kernel
theorem dX11_takePart_63 : decode cX11_takePart 63 = .ok (.iconst 4, 1) := by decide +kernel
theorem dX11_takePart_64 : decode cX11_takePart 64 = .ok (.goto 4, 3) := by decide +kernel
theorem dX11_takePart_67 : decode cX11_takePart 67 = .ok (.iconst (-1), 1) := by decide +kernel
theorem dX11_takePart_68 : decode cX11_takePart 68 = .ok (.istore_n 3, 1) := by decide +kernel
theorem dX11_takePart_69 : decode cX11_takePart 69 = .ok (.aload_n 0, 1) := by decide +kernel
theorem dX11_takePart_70 : decode cX11_takePart 70 = .ok (.invokevirtual 256, 3) := by decide +kernel
theorem dX11_takePart_73 : decode cX11_takePart 73 = .ok (.istore 4, 2) := by decide +kernel
theorem dX11_takePart_75 : decode cX11_takePart 75 = .ok (.iload 4, 2) := by decide +kernel
theorem dX11_takePart_77 : decode cX11_takePart 77 = .ok (.ifCond .eq 19, 3) := by decide +kernel
theorem dX11_takePart_80 : decode cX11_takePart 80 = .ok (.aload_n 0, 1) := by decide +kernel
theorem dX11_takePart_81 : decode cX11_takePart 81 = .ok (.aload_n 0, 1) := by decide +kernel
theorem dX11_takePart_82 : decode cX11_takePart 82 = .ok (.getfield 30, 3) := by decide +kernel
theorem dX11_takePart_85 : decode cX11_takePart 85 = .ok (.aload_n 0, 1) := by decide +kernel
theorem dX11_takePart_86 : decode cX11_takePart 86 = .ok (.getfield 193, 3) := by decide +kernel
theorem dX11_takePart_89 : decode cX11_takePart 89 = .ok (.laload, 1) := by decide +kernel
theorem dX11_takePart_90 : decode cX11_takePart 90 = .ok (.invokevirtual 260, 3) := by decide +kernel
theorem dX11_takePart_93 : decode cX11_takePart 93 = .ok (.goto 4, 3) := by decide +kernel
theorem dX11_takePart_96 : decode cX11_takePart 96 = .ok (.iconst (-1), 1) := by decide +kernel
theorem dX11_takePart_97 : decode cX11_takePart 97 = .ok (.istore 5, 2) := by decide +kernel
theorem dX11_takePart_99 : decode cX11_takePart 99 = .ok (.iload_n 3, 1) := by decide +kernel
theorem dX11_takePart_100 : decode cX11_takePart 100 = .ok (.ifCond .ge 38, 3) := by decide +kernel
theorem dX11_takePart_103 : decode cX11_takePart 103 = .ok (.iload 4, 2) := by decide +kernel
theorem dX11_takePart_105 : decode cX11_takePart 105 = .ok (.ifCond .ne 33, 3) := by decide +kernel
theorem dX11_takePart_108 : decode cX11_takePart 108 = .ok (.iload_n 2, 1) := by decide +kernel
theorem dX11_takePart_109 : decode cX11_takePart 109 = .ok (.ifCond .ne 29, 3) := by decide +kernel
theorem dX11_takePart_112 : decode cX11_takePart 112 = .ok (.aload_n 0, 1) := by decide +kernel
theorem dX11_takePart_113 : decode cX11_takePart 113 = .ok (.bipush 40, 2) := by decide +kernel
theorem dX11_takePart_115 : decode cX11_takePart 115 = .ok (.invokevirtual 199, 3) := by decide +kernel
theorem dX11_takePart_118 : decode cX11_takePart 118 = .ok (.ifCond .ne 20, 3) := by decide +kernel
theorem dX11_takePart_121 : decode cX11_takePart 121 = .ok (.aload_n 0, 1) := by decide +kernel
theorem dX11_takePart_122 : decode cX11_takePart 122 = .ok (.bipush 14, 2) := by decide +kernel
theorem dX11_takePart_124 : decode cX11_takePart 124 = .ok (.invokevirtual 206, 3) := by decide +kernel
theorem dX11_takePart_127 : decode cX11_takePart 127 = .ok (.ifCond .ne 11, 3) := by decide +kernel
theorem dX11_takePart_130 : decode cX11_takePart 130 = .ok (.aload_n 0, 1) := by decide +kernel
theorem dX11_takePart_131 : decode cX11_takePart 131 = .ok (.iconst 1, 1) := by decide +kernel
theorem dX11_takePart_132 : decode cX11_takePart 132 = .ok (.invokevirtual 202, 3) := by decide +kernel
theorem dX11_takePart_135 : decode cX11_takePart 135 = .ok (.goto 36, 3) := by decide +kernel
theorem dX11_takePart_138 : decode cX11_takePart 138 = .ok (.iload 4, 2) := by decide +kernel
theorem dX11_takePart_140 : decode cX11_takePart 140 = .ok (.ifCond .eq 21, 3) := by decide +kernel
theorem dX11_takePart_143 : decode cX11_takePart 143 = .ok (.iload 5, 2) := by decide +kernel
theorem dX11_takePart_145 : decode cX11_takePart 145 = .ok (.iconst 0, 1) := by decide +kernel
theorem dX11_takePart_146 : decode cX11_takePart 146 = .ok (.iconst 2, 1) := by decide +kernel
theorem dX11_takePart_147 : decode cX11_takePart 147 = .ok (.invokestatic 303, 3) := by decide +kernel
theorem dX11_takePart_150 : decode cX11_takePart 150 = .ok (.ifCond .ne 11, 3) := by decide +kernel
theorem dX11_takePart_153 : decode cX11_takePart 153 = .ok (.aload_n 0, 1) := by decide +kernel
theorem dX11_takePart_154 : decode cX11_takePart 154 = .ok (.iconst 2, 1) := by decide +kernel
theorem dX11_takePart_155 : decode cX11_takePart 155 = .ok (.invokevirtual 202, 3) := by decide +kernel
theorem dX11_takePart_158 : decode cX11_takePart 158 = .ok (.goto 13, 3) := by decide +kernel
theorem dX11_takePart_161 : decode cX11_takePart 161 = .ok (.iload_n 1, 1) := by decide +kernel
theorem dX11_takePart_162 : decode cX11_takePart 162 = .ok (.iconst 5, 1) := by decide +kernel
theorem dX11_takePart_163 : decode cX11_takePart 163 = .ok (.if_icmp .ne 8, 3) := by decide +kernel
theorem dX11_takePart_166 : decode cX11_takePart 166 = .ok (.aload_n 0, 1) := by decide +kernel
theorem dX11_takePart_167 : decode cX11_takePart 167 = .ok (.iconst 5, 1) := by decide +kernel
theorem dX11_takePart_168 : decode cX11_takePart 168 = .ok (.invokevirtual 202, 3) := by decide +kernel
theorem dX11_takePart_171 : decode cX11_takePart 171 = .ok (.aload_n 0, 1) := by decide +kernel
theorem dX11_takePart_172 : decode cX11_takePart 172 = .ok (.getfield 196, 3) := by decide +kernel
theorem dX11_takePart_175 : decode cX11_takePart 175 = .ok (.ifCond .le 4, 3) := by decide +kernel
theorem dX11_takePart_178 : decode cX11_takePart 178 = .ok (.return_, 1) := by decide +kernel
theorem dX11_takePart_179 : decode cX11_takePart 179 = .ok (.aload_n 0, 1) := by decide +kernel
theorem dX11_takePart_180 : decode cX11_takePart 180 = .ok (.bipush 14, 2) := by decide +kernel
theorem dX11_takePart_182 : decode cX11_takePart 182 = .ok (.invokevirtual 209, 3) := by decide +kernel
theorem dX11_takePart_185 : decode cX11_takePart 185 = .ok (.ifCond .eq 19, 3) := by decide +kernel
theorem dX11_takePart_188 : decode cX11_takePart 188 = .ok (.aload_n 0, 1) := by decide +kernel
theorem dX11_takePart_189 : decode cX11_takePart 189 = .ok (.iload_n 1, 1) := by decide +kernel
theorem dX11_takePart_190 : decode cX11_takePart 190 = .ok (.iconst 1, 1) := by decide +kernel
theorem dX11_takePart_191 : decode cX11_takePart 191 = .ok (.iadd, 1) := by decide +kernel
theorem dX11_takePart_192 : decode cX11_takePart 192 = .ok (.invokevirtual 300, 3) := by decide +kernel
theorem dX11_takePart_195 : decode cX11_takePart 195 = .ok (.aload_n 0, 1) := by decide +kernel
theorem dX11_takePart_196 : decode cX11_takePart 196 = .ok (.iconst 3, 1) := by decide +kernel
theorem dX11_takePart_197 : decode cX11_takePart 197 = .ok (.iconst 0, 1) := by decide +kernel
theorem dX11_takePart_198 : decode cX11_takePart 198 = .ok (.invokevirtual 285, 3) := by decide +kernel
theorem dX11_takePart_201 : decode cX11_takePart 201 = .ok (.goto 79, 3) := by decide +kernel
theorem dX11_takePart_204 : decode cX11_takePart 204 = .ok (.aload_n 0, 1) := by decide +kernel
theorem dX11_takePart_205 : decode cX11_takePart 205 = .ok (.bipush 40, 2) := by decide +kernel
theorem dX11_takePart_207 : decode cX11_takePart 207 = .ok (.invokevirtual 294, 3) := by decide +kernel
theorem dX11_takePart_210 : decode cX11_takePart 210 = .ok (.ifCond .eq 19, 3) := by decide +kernel
theorem dX11_takePart_213 : decode cX11_takePart 213 = .ok (.aload_n 0, 1) := by decide +kernel
theorem dX11_takePart_214 : decode cX11_takePart 214 = .ok (.iload_n 1, 1) := by decide +kernel
theorem dX11_takePart_215 : decode cX11_takePart 215 = .ok (.iconst 1, 1) := by decide +kernel
theorem dX11_takePart_216 : decode cX11_takePart 216 = .ok (.iadd, 1) := by decide +kernel
theorem dX11_takePart_217 : decode cX11_takePart 217 = .ok (.invokevirtual 282, 3) := by decide +kernel
theorem dX11_takePart_220 : decode cX11_takePart 220 = .ok (.aload_n 0, 1) := by decide +kernel
theorem dX11_takePart_221 : decode cX11_takePart 221 = .ok (.bipush 41, 2) := by decide +kernel
theorem dX11_takePart_223 : decode cX11_takePart 223 = .ok (.invokevirtual 227, 3) := by decide +kernel
theorem dX11_takePart_226 : decode cX11_takePart 226 = .ok (.goto 54, 3) := by decide +kernel
theorem dX11_takePart_229 : decode cX11_takePart 229 = .ok (.aload_n 0, 1) := by decide +kernel
theorem dX11_takePart_230 : decode cX11_takePart 230 = .ok (.iload_n 2, 1) := by decide +kernel
theorem dX11_takePart_231 : decode cX11_takePart 231 = .ok (.ifCond .eq 7, 3) := by decide +kernel
theorem dX11_takePart_234 : decode cX11_takePart 234 = .ok (.iconst 1, 1) := by decide +kernel
theorem dX11_takePart_235 : decode cX11_takePart 235 = .ok (.goto 4, 3) := by decide +kernel
theorem dX11_takePart_238 : decode cX11_takePart 238 = .ok (.iconst 2, 1) := by decide +kernel
theorem dX11_takePart_239 : decode cX11_takePart 239 = .ok (.iload_n 2, 1) := by decide +kernel
theorem dX11_takePart_240 : decode cX11_takePart 240 = .ok (.ifCond .eq 16, 3) := by decide +kernel
theorem dX11_takePart_243 : decode cX11_takePart 243 = .ok (.aload_n 0, 1) := by decide +kernel
theorem dX11_takePart_244 : decode cX11_takePart 244 = .ok (.getfield 30, 3) := by decide +kernel
theorem dX11_takePart_247 : decode cX11_takePart 247 = .ok (.aload_n 0, 1) := by decide +kernel
theorem dX11_takePart_248 : decode cX11_takePart 248 = .ok (.getfield 193, 3) := by decide +kernel
theorem dX11_takePart_251 : decode cX11_takePart 251 = .ok (.laload, 1) := by decide +kernel
theorem dX11_takePart_252 : decode cX11_takePart 252 = .ok (.l2i, 1) := by decide +kernel
theorem dX11_takePart_253 : decode cX11_takePart 253 = .ok (.goto 14, 3) := by decide +kernel
theorem dX11_takePart_256 : decode cX11_takePart 256 = .ok (.iload 4, 2) := by decide +kernel
theorem dX11_takePart_258 : decode cX11_takePart 258 = .ok (.ifCond .eq 8, 3) := by decide +kernel
theorem dX11_takePart_261 : decode cX11_takePart 261 = .ok (.iload 5, 2) := by decide +kernel
theorem dX11_takePart_263 : decode cX11_takePart 263 = .ok (.goto 4, 3) := by decide +kernel
theorem dX11_takePart_266 : decode cX11_takePart 266 = .ok (.iload_n 3, 1) := by decide +kernel
theorem dX11_takePart_267 : decode cX11_takePart 267 = .ok (.invokevirtual 285, 3) := by decide +kernel
theorem dX11_takePart_270 : decode cX11_takePart 270 = .ok (.aload_n 0, 1) := by decide +kernel
theorem dX11_takePart_271 : decode cX11_takePart 271 = .ok (.dup, 1) := by decide +kernel
theorem dX11_takePart_272 : decode cX11_takePart 272 = .ok (.getfield 193, 3) := by decide +kernel
theorem dX11_takePart_275 : decode cX11_takePart 275 = .ok (.iconst 1, 1) := by decide +kernel
theorem dX11_takePart_276 : decode cX11_takePart 276 = .ok (.iadd, 1) := by decide +kernel
theorem dX11_takePart_277 : decode cX11_takePart 277 = .ok (.putfield 193, 3) := by decide +kernel
theorem dX11_takePart_280 : decode cX11_takePart 280 = .ok (.return_, 1) := by decide +kernel
theorem dX11_worthAt_0 : decode cX11_worthAt 0 = .ok (.iconst 0, 1) := by decide +kernel
theorem dX11_worthAt_1 : decode cX11_worthAt 1 = .ok (.istore_n 2, 1) := by decide +kernel
theorem dX11_worthAt_2 : decode cX11_worthAt 2 = .ok (.iload_n 1, 1) := by decide +kernel
theorem dX11_worthAt_3 : decode cX11_worthAt 3 = .ok (.istore_n 3, 1) := by decide +kernel
theorem dX11_worthAt_4 : decode cX11_worthAt 4 = .ok (.aload_n 0, 1) := by decide +kernel
theorem dX11_worthAt_5 : decode cX11_worthAt 5 = .ok (.getfield 76, 3) := by decide +kernel
theorem dX11_worthAt_8 : decode cX11_worthAt 8 = .ok (.iload_n 3, 1) := by decide +kernel
theorem dX11_worthAt_9 : decode cX11_worthAt 9 = .ok (.iaload, 1) := by decide +kernel
theorem dX11_worthAt_10 : decode cX11_worthAt 10 = .ok (.ifCond .eq 130, 3) := by decide +kernel
theorem dX11_worthAt_13 : decode cX11_worthAt 13 = .ok (.aload_n 0, 1) := by decide +kernel
theorem dX11_worthAt_14 : decode cX11_worthAt 14 = .ok (.getfield 76, 3) := by decide +kernel
theorem dX11_worthAt_17 : decode cX11_worthAt 17 = .ok (.iload_n 3, 1) := by decide +kernel
theorem dX11_worthAt_18 : decode cX11_worthAt 18 = .ok (.iaload, 1) := by decide +kernel
theorem dX11_worthAt_19 : decode cX11_worthAt 19 = .ok (.istore 4, 2) := by decide +kernel
theorem dX11_worthAt_21 : decode cX11_worthAt 21 = .ok (.iload 4, 2) := by decide +kernel
theorem dX11_worthAt_23 : decode cX11_worthAt 23 = .ok (.iconst 1, 1) := by decide +kernel
theorem dX11_worthAt_24 : decode cX11_worthAt 24 = .ok (.if_icmp .eq 9, 3) := by decide +kernel
theorem dX11_worthAt_27 : decode cX11_worthAt 27 = .ok (.iload 4, 2) := by decide +kernel
theorem dX11_worthAt_29 : decode cX11_worthAt 29 = .ok (.iconst 2, 1) := by decide +kernel
theorem dX11_worthAt_30 : decode cX11_worthAt 30 = .ok (.if_icmp .ne 41, 3) := by decide +kernel
theorem dX11_worthAt_33 : decode cX11_worthAt 33 = .ok (.aload_n 0, 1) := by decide +kernel
theorem dX11_worthAt_34 : decode cX11_worthAt 34 = .ok (.getfield 92, 3) := by decide +kernel
theorem dX11_worthAt_37 : decode cX11_worthAt 37 = .ok (.iload_n 2, 1) := by decide +kernel
theorem dX11_worthAt_38 : decode cX11_worthAt 38 = .ok (.iload 4, 2) := by decide +kernel
theorem dX11_worthAt_40 : decode cX11_worthAt 40 = .ok (.iconst 1, 1) := by decide +kernel
theorem dX11_worthAt_41 : decode cX11_worthAt 41 = .ok (.if_icmp .ne 12, 3) := by decide +kernel
theorem dX11_worthAt_44 : decode cX11_worthAt 44 = .ok (.aload_n 0, 1) := by decide +kernel
theorem dX11_worthAt_45 : decode cX11_worthAt 45 = .ok (.getfield 79, 3) := by decide +kernel
theorem dX11_worthAt_48 : decode cX11_worthAt 48 = .ok (.iload_n 3, 1) := by decide +kernel
theorem dX11_worthAt_49 : decode cX11_worthAt 49 = .ok (.iaload, 1) := by decide +kernel
theorem dX11_worthAt_50 : decode cX11_worthAt 50 = .ok (.goto 14, 3) := by decide +kernel
theorem dX11_worthAt_53 : decode cX11_worthAt 53 = .ok (.aload_n 0, 1) := by decide +kernel
theorem dX11_worthAt_54 : decode cX11_worthAt 54 = .ok (.getfield 89, 3) := by decide +kernel
theorem dX11_worthAt_57 : decode cX11_worthAt 57 = .ok (.aload_n 0, 1) := by decide +kernel
theorem dX11_worthAt_58 : decode cX11_worthAt 58 = .ok (.getfield 79, 3) := by decide +kernel
theorem dX11_worthAt_61 : decode cX11_worthAt 61 = .ok (.iload_n 3, 1) := by decide +kernel
theorem dX11_worthAt_62 : decode cX11_worthAt 62 = .ok (.iaload, 1) := by decide +kernel
theorem dX11_worthAt_63 : decode cX11_worthAt 63 = .ok (.iaload, 1) := by decide +kernel
theorem dX11_worthAt_64 : decode cX11_worthAt 64 = .ok (.iastore, 1) := by decide +kernel
theorem dX11_worthAt_65 : decode cX11_worthAt 65 = .ok (.iinc 2 1, 3) := by decide +kernel
theorem dX11_worthAt_68 : decode cX11_worthAt 68 = .ok (.goto 66, 3) := by decide +kernel
theorem dX11_worthAt_71 : decode cX11_worthAt 71 = .ok (.iload 4, 2) := by decide +kernel
theorem dX11_worthAt_73 : decode cX11_worthAt 73 = .ok (.iconst 3, 1) := by decide +kernel
theorem dX11_worthAt_74 : decode cX11_worthAt 74 = .ok (.if_icmp .ne 30, 3) := by decide +kernel
theorem dX11_worthAt_77 : decode cX11_worthAt 77 = .ok (.aload_n 0, 1) := by decide +kernel
theorem dX11_worthAt_78 : decode cX11_worthAt 78 = .ok (.getfield 92, 3) := by decide +kernel
theorem dX11_worthAt_81 : decode cX11_worthAt 81 = .ok (.iload_n 2, 1) := by decide +kernel
theorem dX11_worthAt_82 : decode cX11_worthAt 82 = .ok (.iconst 1, 1) := by decide +kernel
theorem dX11_worthAt_83 : decode cX11_worthAt 83 = .ok (.isub, 1) := by decide +kernel
theorem dX11_worthAt_84 : decode cX11_worthAt 84 = .ok (.aload_n 0, 1) := by decide +kernel
theorem dX11_worthAt_85 : decode cX11_worthAt 85 = .ok (.getfield 92, 3) := by decide +kernel
theorem dX11_worthAt_88 : decode cX11_worthAt 88 = .ok (.iload_n 2, 1) := by decide +kernel
theorem dX11_worthAt_89 : decode cX11_worthAt 89 = .ok (.iconst 1, 1) := by decide +kernel
theorem dX11_worthAt_90 : decode cX11_worthAt 90 = .ok (.isub, 1) := by decide +kernel
theorem dX11_worthAt_91 : decode cX11_worthAt 91 = .ok (.iaload, 1) := by decide +kernel
theorem dX11_worthAt_92 : decode cX11_worthAt 92 = .ok (.ifCond .ne 7, 3) := by decide +kernel
theorem dX11_worthAt_95 : decode cX11_worthAt 95 = .ok (.iconst 1, 1) := by decide +kernel
theorem dX11_worthAt_96 : decode cX11_worthAt 96 = .ok (.goto 4, 3) := by decide +kernel
theorem dX11_worthAt_99 : decode cX11_worthAt 99 = .ok (.iconst 0, 1) := by decide +kernel
theorem dX11_worthAt_100 : decode cX11_worthAt 100 = .ok (.iastore, 1) := by decide +kernel
theorem dX11_worthAt_101 : decode cX11_worthAt 101 = .ok (.goto 33, 3) := by decide +kernel
theorem dX11_worthAt_104 : decode cX11_worthAt 104 = .ok (.iinc 2 (-1), 3) := by decide +kernel
theorem dX11_worthAt_107 : decode cX11_worthAt 107 = .ok (.aload_n 0, 1) := by decide +kernel
theorem dX11_worthAt_108 : decode cX11_worthAt 108 = .ok (.getfield 92, 3) := by decide +kernel
theorem dX11_worthAt_111 : decode cX11_worthAt 111 = .ok (.iload_n 2, 1) := by decide +kernel
theorem dX11_worthAt_112 : decode cX11_worthAt 112 = .ok (.iconst 1, 1) := by decide +kernel
theorem dX11_worthAt_113 : decode cX11_worthAt 113 = .ok (.isub, 1) := by decide +kernel
theorem dX11_worthAt_114 : decode cX11_worthAt 114 = .ok (.iload 4, 2) := by decide +kernel
theorem dX11_worthAt_116 : decode cX11_worthAt 116 = .ok (.aload_n 0, 1) := by decide +kernel
theorem dX11_worthAt_117 : decode cX11_worthAt 117 = .ok (.getfield 92, 3) := by decide +kernel
theorem dX11_worthAt_120 : decode cX11_worthAt 120 = .ok (.iload_n 2, 1) := by decide +kernel
theorem dX11_worthAt_121 : decode cX11_worthAt 121 = .ok (.iconst 1, 1) := by decide +kernel
theorem dX11_worthAt_122 : decode cX11_worthAt 122 = .ok (.isub, 1) := by decide +kernel
theorem dX11_worthAt_123 : decode cX11_worthAt 123 = .ok (.iaload, 1) := by decide +kernel
theorem dX11_worthAt_124 : decode cX11_worthAt 124 = .ok (.aload_n 0, 1) := by decide +kernel
theorem dX11_worthAt_125 : decode cX11_worthAt 125 = .ok (.getfield 92, 3) := by decide +kernel
theorem dX11_worthAt_128 : decode cX11_worthAt 128 = .ok (.iload_n 2, 1) := by decide +kernel
theorem dX11_worthAt_129 : decode cX11_worthAt 129 = .ok (.iaload, 1) := by decide +kernel
theorem dX11_worthAt_130 : decode cX11_worthAt 130 = .ok (.invokestatic 307, 3) := by decide +kernel
theorem dX11_worthAt_133 : decode cX11_worthAt 133 = .ok (.iastore, 1) := by decide +kernel
theorem dX11_worthAt_134 : decode cX11_worthAt 134 = .ok (.iinc 3 1, 3) := by decide +kernel
theorem dX11_worthAt_137 : decode cX11_worthAt 137 = .ok (.goto (-133), 3) := by decide +kernel
theorem dX11_worthAt_140 : decode cX11_worthAt 140 = .ok (.aload_n 0, 1) := by decide +kernel
theorem dX11_worthAt_141 : decode cX11_worthAt 141 = .ok (.getfield 92, 3) := by decide +kernel
theorem dX11_worthAt_144 : decode cX11_worthAt 144 = .ok (.iconst 0, 1) := by decide +kernel
theorem dX11_worthAt_145 : decode cX11_worthAt 145 = .ok (.iaload, 1) := by decide +kernel
theorem dX11_worthAt_146 : decode cX11_worthAt 146 = .ok (.ireturn, 1) := by decide +kernel
theorem dX11_both_0 : decode cX11_both 0 = .ok (.iload_n 0, 1) := by decide +kernel
theorem dX11_both_1 : decode cX11_both 1 = .ok (.tableswitch 87 4 9 #[39, 43, 47, 51, 62, 73], 39) := by decide +kernel
theorem dX11_both_40 : decode cX11_both 40 = .ok (.iload_n 1, 1) := by decide +kernel
theorem dX11_both_41 : decode cX11_both 41 = .ok (.iload_n 2, 1) := by decide +kernel
theorem dX11_both_42 : decode cX11_both 42 = .ok (.iadd, 1) := by decide +kernel
theorem dX11_both_43 : decode cX11_both 43 = .ok (.ireturn, 1) := by decide +kernel
theorem dX11_both_44 : decode cX11_both 44 = .ok (.iload_n 1, 1) := by decide +kernel
theorem dX11_both_45 : decode cX11_both 45 = .ok (.iload_n 2, 1) := by decide +kernel
theorem dX11_both_46 : decode cX11_both 46 = .ok (.isub, 1) := by decide +kernel
theorem dX11_both_47 : decode cX11_both 47 = .ok (.ireturn, 1) := by decide +kernel
theorem dX11_both_48 : decode cX11_both 48 = .ok (.iload_n 1, 1) := by decide +kernel
theorem dX11_both_49 : decode cX11_both 49 = .ok (.iload_n 2, 1) := by decide +kernel
theorem dX11_both_50 : decode cX11_both 50 = .ok (.imul, 1) := by decide +kernel
theorem dX11_both_51 : decode cX11_both 51 = .ok (.ireturn, 1) := by decide +kernel
theorem dX11_both_52 : decode cX11_both 52 = .ok (.iload_n 1, 1) := by decide +kernel
theorem dX11_both_53 : decode cX11_both 53 = .ok (.iload_n 2, 1) := by decide +kernel
theorem dX11_both_54 : decode cX11_both 54 = .ok (.if_icmp .ge 7, 3) := by decide +kernel
theorem dX11_both_57 : decode cX11_both 57 = .ok (.iconst 1, 1) := by decide +kernel
theorem dX11_both_58 : decode cX11_both 58 = .ok (.goto 4, 3) := by decide +kernel
theorem dX11_both_61 : decode cX11_both 61 = .ok (.iconst 0, 1) := by decide +kernel
theorem dX11_both_62 : decode cX11_both 62 = .ok (.ireturn, 1) := by decide +kernel
theorem dX11_both_63 : decode cX11_both 63 = .ok (.iload_n 1, 1) := by decide +kernel
theorem dX11_both_64 : decode cX11_both 64 = .ok (.iload_n 2, 1) := by decide +kernel
theorem dX11_both_65 : decode cX11_both 65 = .ok (.if_icmp .ne 7, 3) := by decide +kernel
theorem dX11_both_68 : decode cX11_both 68 = .ok (.iconst 1, 1) := by decide +kernel
theorem dX11_both_69 : decode cX11_both 69 = .ok (.goto 4, 3) := by decide +kernel
theorem dX11_both_72 : decode cX11_both 72 = .ok (.iconst 0, 1) := by decide +kernel
theorem dX11_both_73 : decode cX11_both 73 = .ok (.ireturn, 1) := by decide +kernel
theorem dX11_both_74 : decode cX11_both 74 = .ok (.iload_n 1, 1) := by decide +kernel
theorem dX11_both_75 : decode cX11_both 75 = .ok (.ifCond .eq 11, 3) := by decide +kernel
theorem dX11_both_78 : decode cX11_both 78 = .ok (.iload_n 2, 1) := by decide +kernel
theorem dX11_both_79 : decode cX11_both 79 = .ok (.ifCond .eq 7, 3) := by decide +kernel
theorem dX11_both_82 : decode cX11_both 82 = .ok (.iconst 1, 1) := by decide +kernel
theorem dX11_both_83 : decode cX11_both 83 = .ok (.goto 4, 3) := by decide +kernel
theorem dX11_both_86 : decode cX11_both 86 = .ok (.iconst 0, 1) := by decide +kernel
theorem dX11_both_87 : decode cX11_both 87 = .ok (.ireturn, 1) := by decide +kernel
theorem dX11_both_88 : decode cX11_both 88 = .ok (.iload_n 1, 1) := by decide +kernel
theorem dX11_both_89 : decode cX11_both 89 = .ok (.ifCond .ne 7, 3) := by decide +kernel
theorem dX11_both_92 : decode cX11_both 92 = .ok (.iload_n 2, 1) := by decide +kernel
theorem dX11_both_93 : decode cX11_both 93 = .ok (.ifCond .eq 7, 3) := by decide +kernel
theorem dX11_both_96 : decode cX11_both 96 = .ok (.iconst 1, 1) := by decide +kernel
theorem dX11_both_97 : decode cX11_both 97 = .ok (.goto 4, 3) := by decide +kernel
theorem dX11_both_100 : decode cX11_both 100 = .ok (.iconst 0, 1) := by decide +kernel
theorem dX11_both_101 : decode cX11_both 101 = .ok (.ireturn, 1) := by decide +kernel
theorem dX11_stateOf_0 : decode cX11_stateOf 0 = .ok (.iload_n 0, 1) := by decide +kernel
theorem dX11_stateOf_1 : decode cX11_stateOf 1 = .ok (.getstatic 311, 3) := by decide +kernel
theorem dX11_stateOf_4 : decode cX11_stateOf 4 = .ok (.iload_n 1, 1) := by decide +kernel
theorem dX11_stateOf_5 : decode cX11_stateOf 5 = .ok (.iaload, 1) := by decide +kernel
theorem dX11_stateOf_6 : decode cX11_stateOf 6 = .ok (.idiv, 1) := by decide +kernel
theorem dX11_stateOf_7 : decode cX11_stateOf 7 = .ok (.iconst 3, 1) := by decide +kernel
theorem dX11_stateOf_8 : decode cX11_stateOf 8 = .ok (.irem, 1) := by decide +kernel
theorem dX11_stateOf_9 : decode cX11_stateOf 9 = .ok (.ireturn, 1) := by decide +kernel
theorem dX11_things_0 : decode cX11_things 0 = .ok (.aload_n 0, 1) := by decide +kernel
theorem dX11_things_1 : decode cX11_things 1 = .ok (.getfield 73, 3) := by decide +kernel
theorem dX11_things_4 : decode cX11_things 4 = .ok (.iconst 0, 1) := by decide +kernel
theorem dX11_things_5 : decode cX11_things 5 = .ok (.iaload, 1) := by decide +kernel
theorem dX11_things_6 : decode cX11_things 6 = .ok (.ireturn, 1) := by decide +kernel
theorem dX11_sorts_0 : decode cX11_sorts 0 = .ok (.aload_n 0, 1) := by decide +kernel
theorem dX11_sorts_1 : decode cX11_sorts 1 = .ok (.getfield 73, 3) := by decide +kernel
theorem dX11_sorts_4 : decode cX11_sorts 4 = .ok (.bipush 13, 2) := by decide +kernel
theorem dX11_sorts_6 : decode cX11_sorts 6 = .ok (.iaload, 1) := by decide +kernel
theorem dX11_sorts_7 : decode cX11_sorts 7 = .ok (.ireturn, 1) := by decide +kernel
theorem dX11_springs_0 : decode cX11_springs 0 = .ok (.aload_n 0, 1) := by decide +kernel
theorem dX11_springs_1 : decode cX11_springs 1 = .ok (.getfield 73, 3) := by decide +kernel
theorem dX11_springs_4 : decode cX11_springs 4 = .ok (.bipush 28, 2) := by decide +kernel
theorem dX11_springs_6 : decode cX11_springs 6 = .ok (.iaload, 1) := by decide +kernel
theorem dX11_springs_7 : decode cX11_springs 7 = .ok (.ireturn, 1) := by decide +kernel
theorem dX11_life_0 : decode cX11_life 0 = .ok (.aload_n 0, 1) := by decide +kernel
theorem dX11_life_1 : decode cX11_life 1 = .ok (.getfield 73, 3) := by decide +kernel
theorem dX11_life_4 : decode cX11_life 4 = .ok (.bipush 27, 2) := by decide +kernel
theorem dX11_life_6 : decode cX11_life 6 = .ok (.iaload, 1) := by decide +kernel
theorem dX11_life_7 : decode cX11_life 7 = .ok (.ireturn, 1) := by decide +kernel
theorem dX11_thingOf_0 : decode cX11_thingOf 0 = .ok (.aload_n 0, 1) := by decide +kernel
theorem dX11_thingOf_1 : decode cX11_thingOf 1 = .ok (.getfield 73, 3) := by decide +kernel
theorem dX11_thingOf_4 : decode cX11_thingOf 4 = .ok (.iconst 1, 1) := by decide +kernel
theorem dX11_thingOf_5 : decode cX11_thingOf 5 = .ok (.iconst 4, 1) := by decide +kernel
theorem dX11_thingOf_6 : decode cX11_thingOf 6 = .ok (.iload_n 1, 1) := by decide +kernel
theorem dX11_thingOf_7 : decode cX11_thingOf 7 = .ok (.imul, 1) := by decide +kernel
theorem dX11_thingOf_8 : decode cX11_thingOf 8 = .ok (.iadd, 1) := by decide +kernel
theorem dX11_thingOf_9 : decode cX11_thingOf 9 = .ok (.iload_n 2, 1) := by decide +kernel
theorem dX11_thingOf_10 : decode cX11_thingOf 10 = .ok (.iadd, 1) := by decide +kernel
theorem dX11_thingOf_11 : decode cX11_thingOf 11 = .ok (.iaload, 1) := by decide +kernel
theorem dX11_thingOf_12 : decode cX11_thingOf 12 = .ok (.ireturn, 1) := by decide +kernel
theorem dX11_isStands_0 : decode cX11_isStands 0 = .ok (.iload_n 1, 1) := by decide +kernel
theorem dX11_isStands_1 : decode cX11_isStands 1 = .ok (.ifCond .lt 19, 3) := by decide +kernel
theorem dX11_isStands_4 : decode cX11_isStands 4 = .ok (.iload_n 1, 1) := by decide +kernel
theorem dX11_isStands_5 : decode cX11_isStands 5 = .ok (.getstatic 311, 3) := by decide +kernel
theorem dX11_isStands_8 : decode cX11_isStands 8 = .ok (.aload_n 0, 1) := by decide +kernel
theorem dX11_isStands_9 : decode cX11_isStands 9 = .ok (.invokevirtual 314, 3) := by decide +kernel
theorem dX11_isStands_12 : decode cX11_isStands 12 = .ok (.iaload, 1) := by decide +kernel
theorem dX11_isStands_13 : decode cX11_isStands 13 = .ok (.if_icmp .ge 7, 3) := by decide +kernel
theorem dX11_isStands_16 : decode cX11_isStands 16 = .ok (.iconst 1, 1) := by decide +kernel
theorem dX11_isStands_17 : decode cX11_isStands 17 = .ok (.goto 4, 3) := by decide +kernel
theorem dX11_isStands_20 : decode cX11_isStands 20 = .ok (.iconst 0, 1) := by decide +kernel
theorem dX11_isStands_21 : decode cX11_isStands 21 = .ok (.istore_n 2, 1) := by decide +kernel
theorem dX11_isStands_22 : decode cX11_isStands 22 = .ok (.iconst 0, 1) := by decide +kernel
theorem dX11_isStands_23 : decode cX11_isStands 23 = .ok (.istore_n 3, 1) := by decide +kernel
theorem dX11_isStands_24 : decode cX11_isStands 24 = .ok (.iload_n 3, 1) := by decide +kernel
theorem dX11_isStands_25 : decode cX11_isStands 25 = .ok (.aload_n 0, 1) := by decide +kernel
theorem dX11_isStands_26 : decode cX11_isStands 26 = .ok (.invokevirtual 314, 3) := by decide +kernel
theorem dX11_isStands_29 : decode cX11_isStands 29 = .ok (.if_icmp .ge 33, 3) := by decide +kernel
theorem dX11_isStands_32 : decode cX11_isStands 32 = .ok (.iload_n 2, 1) := by decide +kernel
theorem dX11_isStands_33 : decode cX11_isStands 33 = .ok (.ifCond .eq 29, 3) := by decide +kernel
theorem dX11_isStands_36 : decode cX11_isStands 36 = .ok (.iload_n 1, 1) := by decide +kernel
theorem dX11_isStands_37 : decode cX11_isStands 37 = .ok (.iload_n 3, 1) := by decide +kernel
theorem dX11_isStands_38 : decode cX11_isStands 38 = .ok (.invokestatic 317, 3) := by decide +kernel
theorem dX11_isStands_41 : decode cX11_isStands 41 = .ok (.aload_n 0, 1) := by decide +kernel
theorem dX11_isStands_42 : decode cX11_isStands 42 = .ok (.iload_n 3, 1) := by decide +kernel
theorem dX11_isStands_43 : decode cX11_isStands 43 = .ok (.iconst 0, 1) := by decide +kernel
theorem dX11_isStands_44 : decode cX11_isStands 44 = .ok (.invokevirtual 320, 3) := by decide +kernel
theorem dX11_isStands_47 : decode cX11_isStands 47 = .ok (.if_icmp .ge 7, 3) := by decide +kernel
theorem dX11_isStands_50 : decode cX11_isStands 50 = .ok (.iconst 1, 1) := by decide +kernel
theorem dX11_isStands_51 : decode cX11_isStands 51 = .ok (.goto 4, 3) := by decide +kernel
theorem dX11_isStands_54 : decode cX11_isStands 54 = .ok (.iconst 0, 1) := by decide +kernel
theorem dX11_isStands_55 : decode cX11_isStands 55 = .ok (.istore_n 2, 1) := by decide +kernel
theorem dX11_isStands_56 : decode cX11_isStands 56 = .ok (.iinc 3 1, 3) := by decide +kernel
theorem dX11_isStands_59 : decode cX11_isStands 59 = .ok (.goto (-35), 3) := by decide +kernel
theorem dX11_isStands_62 : decode cX11_isStands 62 = .ok (.iload_n 2, 1) := by decide +kernel
theorem dX11_isStands_63 : decode cX11_isStands 63 = .ok (.ireturn, 1) := by decide +kernel
theorem dX11_isThing_0 : decode cX11_isThing 0 = .ok (.iload_n 1, 1) := by decide +kernel
theorem dX11_isThing_1 : decode cX11_isThing 1 = .ok (.ifCond .lt 15, 3) := by decide +kernel
theorem dX11_isThing_4 : decode cX11_isThing 4 = .ok (.iload_n 1, 1) := by decide +kernel
theorem dX11_isThing_5 : decode cX11_isThing 5 = .ok (.aload_n 0, 1) := by decide +kernel
theorem dX11_isThing_6 : decode cX11_isThing 6 = .ok (.invokevirtual 314, 3) := by decide +kernel
theorem dX11_isThing_9 : decode cX11_isThing 9 = .ok (.if_icmp .ge 7, 3) := by decide +kernel
theorem dX11_isThing_12 : decode cX11_isThing 12 = .ok (.iconst 1, 1) := by decide +kernel
theorem dX11_isThing_13 : decode cX11_isThing 13 = .ok (.goto 4, 3) := by decide +kernel
theorem dX11_isThing_16 : decode cX11_isThing 16 = .ok (.iconst 0, 1) := by decide +kernel
theorem dX11_isThing_17 : decode cX11_isThing 17 = .ok (.ireturn, 1) := by decide +kernel
theorem dX11_isSort_0 : decode cX11_isSort 0 = .ok (.iload_n 1, 1) := by decide +kernel
theorem dX11_isSort_1 : decode cX11_isSort 1 = .ok (.ifCond .lt 15, 3) := by decide +kernel
theorem dX11_isSort_4 : decode cX11_isSort 4 = .ok (.iload_n 1, 1) := by decide +kernel
theorem dX11_isSort_5 : decode cX11_isSort 5 = .ok (.aload_n 0, 1) := by decide +kernel
theorem dX11_isSort_6 : decode cX11_isSort 6 = .ok (.invokevirtual 323, 3) := by decide +kernel
theorem dX11_isSort_9 : decode cX11_isSort 9 = .ok (.if_icmp .ge 7, 3) := by decide +kernel
theorem dX11_isSort_12 : decode cX11_isSort 12 = .ok (.iconst 1, 1) := by decide +kernel
theorem dX11_isSort_13 : decode cX11_isSort 13 = .ok (.goto 4, 3) := by decide +kernel
theorem dX11_isSort_16 : decode cX11_isSort 16 = .ok (.iconst 0, 1) := by decide +kernel
theorem dX11_isSort_17 : decode cX11_isSort 17 = .ok (.ireturn, 1) := by decide +kernel
theorem dX11_isSpring_0 : decode cX11_isSpring 0 = .ok (.iload_n 1, 1) := by decide +kernel
theorem dX11_isSpring_1 : decode cX11_isSpring 1 = .ok (.ifCond .lt 15, 3) := by decide +kernel
theorem dX11_isSpring_4 : decode cX11_isSpring 4 = .ok (.iload_n 1, 1) := by decide +kernel
theorem dX11_isSpring_5 : decode cX11_isSpring 5 = .ok (.aload_n 0, 1) := by decide +kernel
theorem dX11_isSpring_6 : decode cX11_isSpring 6 = .ok (.invokevirtual 326, 3) := by decide +kernel
theorem dX11_isSpring_9 : decode cX11_isSpring 9 = .ok (.if_icmp .ge 7, 3) := by decide +kernel
theorem dX11_isSpring_12 : decode cX11_isSpring 12 = .ok (.iconst 1, 1) := by decide +kernel
theorem dX11_isSpring_13 : decode cX11_isSpring 13 = .ok (.goto 4, 3) := by decide +kernel
theorem dX11_isSpring_16 : decode cX11_isSpring 16 = .ok (.iconst 0, 1) := by decide +kernel
theorem dX11_isSpring_17 : decode cX11_isSpring 17 = .ok (.ireturn, 1) := by decide +kernel
theorem dX11_startOf_0 : decode cX11_startOf 0 = .ok (.iconst 0, 1) := by decide +kernel
theorem dX11_startOf_1 : decode cX11_startOf 1 = .ok (.istore_n 1, 1) := by decide +kernel
theorem dX11_startOf_2 : decode cX11_startOf 2 = .ok (.iconst 0, 1) := by decide +kernel
theorem dX11_startOf_3 : decode cX11_startOf 3 = .ok (.istore_n 2, 1) := by decide +kernel
theorem dX11_startOf_4 : decode cX11_startOf 4 = .ok (.iload_n 2, 1) := by decide +kernel
theorem dX11_startOf_5 : decode cX11_startOf 5 = .ok (.aload_n 0, 1) := by decide +kernel
theorem dX11_startOf_6 : decode cX11_startOf 6 = .ok (.invokevirtual 314, 3) := by decide +kernel
theorem dX11_startOf_9 : decode cX11_startOf 9 = .ok (.if_icmp .ge 24, 3) := by decide +kernel
theorem dX11_startOf_12 : decode cX11_startOf 12 = .ok (.iload_n 1, 1) := by decide +kernel
theorem dX11_startOf_13 : decode cX11_startOf 13 = .ok (.aload_n 0, 1) := by decide +kernel
theorem dX11_startOf_14 : decode cX11_startOf 14 = .ok (.iload_n 2, 1) := by decide +kernel
theorem dX11_startOf_15 : decode cX11_startOf 15 = .ok (.iconst 1, 1) := by decide +kernel
theorem dX11_startOf_16 : decode cX11_startOf 16 = .ok (.invokevirtual 320, 3) := by decide +kernel
theorem dX11_startOf_19 : decode cX11_startOf 19 = .ok (.getstatic 311, 3) := by decide +kernel
theorem dX11_startOf_22 : decode cX11_startOf 22 = .ok (.iload_n 2, 1) := by decide +kernel
theorem dX11_startOf_23 : decode cX11_startOf 23 = .ok (.iaload, 1) := by decide +kernel
theorem dX11_startOf_24 : decode cX11_startOf 24 = .ok (.imul, 1) := by decide +kernel
theorem dX11_startOf_25 : decode cX11_startOf 25 = .ok (.iadd, 1) := by decide +kernel
theorem dX11_startOf_26 : decode cX11_startOf 26 = .ok (.istore_n 1, 1) := by decide +kernel
theorem dX11_startOf_27 : decode cX11_startOf 27 = .ok (.iinc 2 1, 3) := by decide +kernel
theorem dX11_startOf_30 : decode cX11_startOf 30 = .ok (.goto (-26), 3) := by decide +kernel
theorem dX11_startOf_33 : decode cX11_startOf 33 = .ok (.iload_n 1, 1) := by decide +kernel
theorem dX11_startOf_34 : decode cX11_startOf 34 = .ok (.ireturn, 1) := by decide +kernel
theorem dX11_lays_0 : decode cX11_lays 0 = .ok (.iconst 0, 1) := by decide +kernel
theorem dX11_lays_1 : decode cX11_lays 1 = .ok (.istore_n 2, 1) := by decide +kernel
theorem dX11_lays_2 : decode cX11_lays 2 = .ok (.iload_n 2, 1) := by decide +kernel
theorem dX11_lays_3 : decode cX11_lays 3 = .ok (.iconst 3, 1) := by decide +kernel
theorem dX11_lays_4 : decode cX11_lays 4 = .ok (.if_icmp .ge 20, 3) := by decide +kernel
theorem dX11_lays_7 : decode cX11_lays 7 = .ok (.aload_n 0, 1) := by decide +kernel
theorem dX11_lays_8 : decode cX11_lays 8 = .ok (.getfield 89, 3) := by decide +kernel
theorem dX11_lays_11 : decode cX11_lays 11 = .ok (.iload_n 2, 1) := by decide +kernel
theorem dX11_lays_12 : decode cX11_lays 12 = .ok (.iload_n 1, 1) := by decide +kernel
theorem dX11_lays_13 : decode cX11_lays 13 = .ok (.iload_n 2, 1) := by decide +kernel
theorem dX11_lays_14 : decode cX11_lays 14 = .ok (.invokestatic 317, 3) := by decide +kernel
theorem dX11_lays_17 : decode cX11_lays 17 = .ok (.iastore, 1) := by decide +kernel
theorem dX11_lays_18 : decode cX11_lays 18 = .ok (.iinc 2 1, 3) := by decide +kernel
theorem dX11_lays_21 : decode cX11_lays 21 = .ok (.goto (-19), 3) := by decide +kernel
theorem dX11_lays_24 : decode cX11_lays 24 = .ok (.return_, 1) := by decide +kernel
theorem dX11_thing_0 : decode cX11_thing 0 = .ok (.aload_n 0, 1) := by decide +kernel
theorem dX11_thing_1 : decode cX11_thing 1 = .ok (.iconst 0, 1) := by decide +kernel
theorem dX11_thing_2 : decode cX11_thing 2 = .ok (.putfield 1, 3) := by decide +kernel
theorem dX11_thing_5 : decode cX11_thing 5 = .ok (.aload_n 0, 1) := by decide +kernel
theorem dX11_thing_6 : decode cX11_thing 6 = .ok (.iload_n 1, 1) := by decide +kernel
theorem dX11_thing_7 : decode cX11_thing 7 = .ok (.invokevirtual 329, 3) := by decide +kernel
theorem dX11_thing_10 : decode cX11_thing 10 = .ok (.ifCond .eq 21, 3) := by decide +kernel
theorem dX11_thing_13 : decode cX11_thing 13 = .ok (.iload_n 2, 1) := by decide +kernel
theorem dX11_thing_14 : decode cX11_thing 14 = .ok (.iconst 0, 1) := by decide +kernel
theorem dX11_thing_15 : decode cX11_thing 15 = .ok (.iconst 3, 1) := by decide +kernel
theorem dX11_thing_16 : decode cX11_thing 16 = .ok (.invokestatic 303, 3) := by decide +kernel
theorem dX11_thing_19 : decode cX11_thing 19 = .ok (.ifCond .eq 12, 3) := by decide +kernel
theorem dX11_thing_22 : decode cX11_thing 22 = .ok (.aload_n 0, 1) := by decide +kernel
theorem dX11_thing_23 : decode cX11_thing 23 = .ok (.iload_n 1, 1) := by decide +kernel
theorem dX11_thing_24 : decode cX11_thing 24 = .ok (.iload_n 2, 1) := by decide +kernel
theorem dX11_thing_25 : decode cX11_thing 25 = .ok (.invokevirtual 320, 3) := by decide +kernel
theorem dX11_thing_28 : decode cX11_thing 28 = .ok (.goto 4, 3) := by decide +kernel
theorem dX11_thing_31 : decode cX11_thing 31 = .ok (.iconst (-1), 1) := by decide +kernel
theorem dX11_thing_32 : decode cX11_thing 32 = .ok (.ireturn, 1) := by decide +kernel
theorem dX11_worthOf_0 : decode cX11_worthOf 0 = .ok (.aload_n 0, 1) := by decide +kernel
theorem dX11_worthOf_1 : decode cX11_worthOf 1 = .ok (.iload_n 2, 1) := by decide +kernel
theorem dX11_worthOf_2 : decode cX11_worthOf 2 = .ok (.invokevirtual 332, 3) := by decide +kernel
theorem dX11_worthOf_5 : decode cX11_worthOf 5 = .ok (.aload_n 0, 1) := by decide +kernel
theorem dX11_worthOf_6 : decode cX11_worthOf 6 = .ok (.getfield 89, 3) := by decide +kernel
theorem dX11_worthOf_9 : decode cX11_worthOf 9 = .ok (.iconst 3, 1) := by decide +kernel
theorem dX11_worthOf_10 : decode cX11_worthOf 10 = .ok (.iload_n 3, 1) := by decide +kernel
theorem dX11_worthOf_11 : decode cX11_worthOf 11 = .ok (.iastore, 1) := by decide +kernel
theorem dX11_worthOf_12 : decode cX11_worthOf 12 = .ok (.aload_n 0, 1) := by decide +kernel
theorem dX11_worthOf_13 : decode cX11_worthOf 13 = .ok (.getfield 89, 3) := by decide +kernel
theorem dX11_worthOf_16 : decode cX11_worthOf 16 = .ok (.iconst 4, 1) := by decide +kernel
theorem dX11_worthOf_17 : decode cX11_worthOf 17 = .ok (.iload 4, 2) := by decide +kernel
theorem dX11_worthOf_19 : decode cX11_worthOf 19 = .ok (.iastore, 1) := by decide +kernel
theorem dX11_worthOf_20 : decode cX11_worthOf 20 = .ok (.aload_n 0, 1) := by decide +kernel
theorem dX11_worthOf_21 : decode cX11_worthOf 21 = .ok (.aload_n 0, 1) := by decide +kernel
theorem dX11_worthOf_22 : decode cX11_worthOf 22 = .ok (.getfield 73, 3) := by decide +kernel
theorem dX11_worthOf_25 : decode cX11_worthOf 25 = .ok (.bipush 14, 2) := by decide +kernel
theorem dX11_worthOf_27 : decode cX11_worthOf 27 = .ok (.iload_n 1, 1) := by decide +kernel
theorem dX11_worthOf_28 : decode cX11_worthOf 28 = .ok (.iadd, 1) := by decide +kernel
theorem dX11_worthOf_29 : decode cX11_worthOf 29 = .ok (.iaload, 1) := by decide +kernel
theorem dX11_worthOf_30 : decode cX11_worthOf 30 = .ok (.invokevirtual 335, 3) := by decide +kernel
theorem dX11_worthOf_33 : decode cX11_worthOf 33 = .ok (.istore 5, 2) := by decide +kernel
theorem dX11_worthOf_35 : decode cX11_worthOf 35 = .ok (.iload 5, 2) := by decide +kernel
theorem dX11_worthOf_37 : decode cX11_worthOf 37 = .ok (.sipush (-9999), 3) := by decide +kernel
theorem dX11_worthOf_40 : decode cX11_worthOf 40 = .ok (.if_icmp .ge 9, 3) := by decide +kernel
theorem dX11_worthOf_43 : decode cX11_worthOf 43 = .ok (.sipush (-9999), 3) := by decide +kernel
theorem dX11_worthOf_46 : decode cX11_worthOf 46 = .ok (.goto 19, 3) := by decide +kernel
theorem dX11_worthOf_49 : decode cX11_worthOf 49 = .ok (.iload 5, 2) := by decide +kernel
theorem dX11_worthOf_51 : decode cX11_worthOf 51 = .ok (.sipush 9999, 3) := by decide +kernel
theorem dX11_worthOf_54 : decode cX11_worthOf 54 = .ok (.if_icmp .le 9, 3) := by decide +kernel
theorem dX11_worthOf_57 : decode cX11_worthOf 57 = .ok (.sipush 9999, 3) := by decide +kernel
theorem dX11_worthOf_60 : decode cX11_worthOf 60 = .ok (.goto 5, 3) := by decide +kernel
theorem dX11_worthOf_63 : decode cX11_worthOf 63 = .ok (.iload 5, 2) := by decide +kernel
theorem dX11_worthOf_65 : decode cX11_worthOf 65 = .ok (.ireturn, 1) := by decide +kernel
theorem dX11_worth_0 : decode cX11_worth 0 = .ok (.aload_n 0, 1) := by decide +kernel
theorem dX11_worth_1 : decode cX11_worth 1 = .ok (.aload_n 0, 1) := by decide +kernel
theorem dX11_worth_2 : decode cX11_worth 2 = .ok (.iload_n 1, 1) := by decide +kernel
theorem dX11_worth_3 : decode cX11_worth 3 = .ok (.invokevirtual 338, 3) := by decide +kernel
theorem dX11_worth_6 : decode cX11_worth 6 = .ok (.ifCond .eq 35, 3) := by decide +kernel
theorem dX11_worth_9 : decode cX11_worth 9 = .ok (.aload_n 0, 1) := by decide +kernel
theorem dX11_worth_10 : decode cX11_worth 10 = .ok (.iload_n 2, 1) := by decide +kernel
theorem dX11_worth_11 : decode cX11_worth 11 = .ok (.invokevirtual 341, 3) := by decide +kernel
theorem dX11_worth_14 : decode cX11_worth 14 = .ok (.ifCond .eq 27, 3) := by decide +kernel
theorem dX11_worth_17 : decode cX11_worth 17 = .ok (.iload_n 3, 1) := by decide +kernel
theorem dX11_worth_18 : decode cX11_worth 18 = .ok (.iconst 0, 1) := by decide +kernel
theorem dX11_worth_19 : decode cX11_worth 19 = .ok (.iconst 5, 1) := by decide +kernel
theorem dX11_worth_20 : decode cX11_worth 20 = .ok (.invokestatic 303, 3) := by decide +kernel
theorem dX11_worth_23 : decode cX11_worth 23 = .ok (.ifCond .eq 18, 3) := by decide +kernel
theorem dX11_worth_26 : decode cX11_worth 26 = .ok (.iload 4, 2) := by decide +kernel
theorem dX11_worth_28 : decode cX11_worth 28 = .ok (.iconst 0, 1) := by decide +kernel
theorem dX11_worth_29 : decode cX11_worth 29 = .ok (.bipush 15, 2) := by decide +kernel
theorem dX11_worth_31 : decode cX11_worth 31 = .ok (.invokestatic 303, 3) := by decide +kernel
theorem dX11_worth_34 : decode cX11_worth 34 = .ok (.ifCond .eq 7, 3) := by decide +kernel
theorem dX11_worth_37 : decode cX11_worth 37 = .ok (.iconst 0, 1) := by decide +kernel
theorem dX11_worth_38 : decode cX11_worth 38 = .ok (.goto 4, 3) := by decide +kernel
theorem dX11_worth_41 : decode cX11_worth 41 = .ok (.iconst 1, 1) := by decide +kernel
theorem dX11_worth_42 : decode cX11_worth 42 = .ok (.putfield 1, 3) := by decide +kernel
theorem dX11_worth_45 : decode cX11_worth 45 = .ok (.aload_n 0, 1) := by decide +kernel
theorem dX11_worth_46 : decode cX11_worth 46 = .ok (.getfield 1, 3) := by decide +kernel
theorem dX11_worth_49 : decode cX11_worth 49 = .ok (.ifCond .le 7, 3) := by decide +kernel
theorem dX11_worth_52 : decode cX11_worth 52 = .ok (.iconst 0, 1) := by decide +kernel
theorem dX11_worth_53 : decode cX11_worth 53 = .ok (.goto 12, 3) := by decide +kernel
theorem dX11_worth_56 : decode cX11_worth 56 = .ok (.aload_n 0, 1) := by decide +kernel
theorem dX11_worth_57 : decode cX11_worth 57 = .ok (.iload_n 1, 1) := by decide +kernel
theorem dX11_worth_58 : decode cX11_worth 58 = .ok (.iload_n 2, 1) := by decide +kernel
theorem dX11_worth_59 : decode cX11_worth 59 = .ok (.iload_n 3, 1) := by decide +kernel
theorem dX11_worth_60 : decode cX11_worth 60 = .ok (.iload 4, 2) := by decide +kernel
theorem dX11_worth_62 : decode cX11_worth 62 = .ok (.invokevirtual 344, 3) := by decide +kernel
theorem dX11_worth_65 : decode cX11_worth 65 = .ok (.ireturn, 1) := by decide +kernel
theorem dX11_isBarred_0 : decode cX11_isBarred 0 = .ok (.aload_n 0, 1) := by decide +kernel
theorem dX11_isBarred_1 : decode cX11_isBarred 1 = .ok (.iload_n 1, 1) := by decide +kernel
theorem dX11_isBarred_2 : decode cX11_isBarred 2 = .ok (.invokevirtual 332, 3) := by decide +kernel
theorem dX11_isBarred_5 : decode cX11_isBarred 5 = .ok (.iconst 0, 1) := by decide +kernel
theorem dX11_isBarred_6 : decode cX11_isBarred 6 = .ok (.istore_n 2, 1) := by decide +kernel
theorem dX11_isBarred_7 : decode cX11_isBarred 7 = .ok (.iconst 0, 1) := by decide +kernel
theorem dX11_isBarred_8 : decode cX11_isBarred 8 = .ok (.istore_n 3, 1) := by decide +kernel
theorem dX11_isBarred_9 : decode cX11_isBarred 9 = .ok (.iload_n 3, 1) := by decide +kernel
theorem dX11_isBarred_10 : decode cX11_isBarred 10 = .ok (.aload_n 0, 1) := by decide +kernel
theorem dX11_isBarred_11 : decode cX11_isBarred 11 = .ok (.getfield 73, 3) := by decide +kernel
theorem dX11_isBarred_14 : decode cX11_isBarred 14 = .ok (.bipush 22, 2) := by decide +kernel
theorem dX11_isBarred_16 : decode cX11_isBarred 16 = .ok (.iaload, 1) := by decide +kernel
theorem dX11_isBarred_17 : decode cX11_isBarred 17 = .ok (.if_icmp .ge 35, 3) := by decide +kernel
theorem dX11_isBarred_20 : decode cX11_isBarred 20 = .ok (.iload_n 2, 1) := by decide +kernel
theorem dX11_isBarred_21 : decode cX11_isBarred 21 = .ok (.ifCond .ne 19, 3) := by decide +kernel
theorem dX11_isBarred_24 : decode cX11_isBarred 24 = .ok (.aload_n 0, 1) := by decide +kernel
theorem dX11_isBarred_25 : decode cX11_isBarred 25 = .ok (.aload_n 0, 1) := by decide +kernel
theorem dX11_isBarred_26 : decode cX11_isBarred 26 = .ok (.getfield 73, 3) := by decide +kernel
theorem dX11_isBarred_29 : decode cX11_isBarred 29 = .ok (.bipush 23, 2) := by decide +kernel
theorem dX11_isBarred_31 : decode cX11_isBarred 31 = .ok (.iload_n 3, 1) := by decide +kernel
theorem dX11_isBarred_32 : decode cX11_isBarred 32 = .ok (.iadd, 1) := by decide +kernel
theorem dX11_isBarred_33 : decode cX11_isBarred 33 = .ok (.iaload, 1) := by decide +kernel
theorem dX11_isBarred_34 : decode cX11_isBarred 34 = .ok (.invokevirtual 335, 3) := by decide +kernel
theorem dX11_isBarred_37 : decode cX11_isBarred 37 = .ok (.ifCond .eq 7, 3) := by decide +kernel
theorem dX11_isBarred_40 : decode cX11_isBarred 40 = .ok (.iconst 1, 1) := by decide +kernel
theorem dX11_isBarred_41 : decode cX11_isBarred 41 = .ok (.goto 4, 3) := by decide +kernel
theorem dX11_isBarred_44 : decode cX11_isBarred 44 = .ok (.iconst 0, 1) := by decide +kernel
theorem dX11_isBarred_45 : decode cX11_isBarred 45 = .ok (.istore_n 2, 1) := by decide +kernel
theorem dX11_isBarred_46 : decode cX11_isBarred 46 = .ok (.iinc 3 1, 3) := by decide +kernel
theorem dX11_isBarred_49 : decode cX11_isBarred 49 = .ok (.goto (-40), 3) := by decide +kernel
theorem dX11_isBarred_52 : decode cX11_isBarred 52 = .ok (.iload_n 2, 1) := by decide +kernel
theorem dX11_isBarred_53 : decode cX11_isBarred 53 = .ok (.ireturn, 1) := by decide +kernel
theorem dX11_with_0 : decode cX11_with 0 = .ok (.iload_n 0, 1) := by decide +kernel
theorem dX11_with_1 : decode cX11_with 1 = .ok (.iload_n 2, 1) := by decide +kernel
theorem dX11_with_2 : decode cX11_with 2 = .ok (.iload_n 0, 1) := by decide +kernel
theorem dX11_with_3 : decode cX11_with 3 = .ok (.iload_n 1, 1) := by decide +kernel
theorem dX11_with_4 : decode cX11_with 4 = .ok (.invokestatic 317, 3) := by decide +kernel
theorem dX11_with_7 : decode cX11_with 7 = .ok (.isub, 1) := by decide +kernel
theorem dX11_with_8 : decode cX11_with 8 = .ok (.getstatic 311, 3) := by decide +kernel
theorem dX11_with_11 : decode cX11_with 11 = .ok (.iload_n 1, 1) := by decide +kernel
theorem dX11_with_12 : decode cX11_with 12 = .ok (.iaload, 1) := by decide +kernel
theorem dX11_with_13 : decode cX11_with 13 = .ok (.imul, 1) := by decide +kernel
theorem dX11_with_14 : decode cX11_with 14 = .ok (.iadd, 1) := by decide +kernel
theorem dX11_with_15 : decode cX11_with 15 = .ok (.ireturn, 1) := by decide +kernel
theorem dX11_mayBring_0 : decode cX11_mayBring 0 = .ok (.iload_n 2, 1) := by decide +kernel
theorem dX11_mayBring_1 : decode cX11_mayBring 1 = .ok (.iload_n 3, 1) := by decide +kernel
theorem dX11_mayBring_2 : decode cX11_mayBring 2 = .ok (.invokestatic 317, 3) := by decide +kernel
theorem dX11_mayBring_5 : decode cX11_mayBring 5 = .ok (.iload 4, 2) := by decide +kernel
theorem dX11_mayBring_7 : decode cX11_mayBring 7 = .ok (.if_icmp .ne 5, 3) := by decide +kernel
theorem dX11_mayBring_10 : decode cX11_mayBring 10 = .ok (.iconst 1, 1) := by decide +kernel
theorem dX11_mayBring_11 : decode cX11_mayBring 11 = .ok (.ireturn, 1) := by decide +kernel
theorem dX11_mayBring_12 : decode cX11_mayBring 12 = .ok (.aload_n 0, 1) := by decide +kernel
theorem dX11_mayBring_13 : decode cX11_mayBring 13 = .ok (.getfield 73, 3) := by decide +kernel
theorem dX11_mayBring_16 : decode cX11_mayBring 16 = .ok (.bipush 45, 2) := by decide +kernel
theorem dX11_mayBring_18 : decode cX11_mayBring 18 = .ok (.iload_n 1, 1) := by decide +kernel
theorem dX11_mayBring_19 : decode cX11_mayBring 19 = .ok (.iadd, 1) := by decide +kernel
theorem dX11_mayBring_20 : decode cX11_mayBring 20 = .ok (.iaload, 1) := by decide +kernel
theorem dX11_mayBring_21 : decode cX11_mayBring 21 = .ok (.ifCond .eq 18, 3) := by decide +kernel
theorem dX11_mayBring_24 : decode cX11_mayBring 24 = .ok (.aload_n 0, 1) := by decide +kernel
theorem dX11_mayBring_25 : decode cX11_mayBring 25 = .ok (.getfield 73, 3) := by decide +kernel
theorem dX11_mayBring_28 : decode cX11_mayBring 28 = .ok (.bipush 45, 2) := by decide +kernel
theorem dX11_mayBring_30 : decode cX11_mayBring 30 = .ok (.iload_n 1, 1) := by decide +kernel
theorem dX11_mayBring_31 : decode cX11_mayBring 31 = .ok (.iadd, 1) := by decide +kernel
theorem dX11_mayBring_32 : decode cX11_mayBring 32 = .ok (.iaload, 1) := by decide +kernel
theorem dX11_mayBring_33 : decode cX11_mayBring 33 = .ok (.iload_n 3, 1) := by decide +kernel
theorem dX11_mayBring_34 : decode cX11_mayBring 34 = .ok (.iconst 1, 1) := by decide +kernel
theorem dX11_mayBring_35 : decode cX11_mayBring 35 = .ok (.iadd, 1) := by decide +kernel
theorem dX11_mayBring_36 : decode cX11_mayBring 36 = .ok (.if_icmp .ne 7, 3) := by decide +kernel
theorem dX11_mayBring_39 : decode cX11_mayBring 39 = .ok (.iconst 1, 1) := by decide +kernel
theorem dX11_mayBring_40 : decode cX11_mayBring 40 = .ok (.goto 4, 3) := by decide +kernel
theorem dX11_mayBring_43 : decode cX11_mayBring 43 = .ok (.iconst 0, 1) := by decide +kernel
theorem dX11_mayBring_44 : decode cX11_mayBring 44 = .ok (.istore 5, 2) := by decide +kernel
theorem dX11_mayBring_46 : decode cX11_mayBring 46 = .ok (.aload_n 0, 1) := by decide +kernel
theorem dX11_mayBring_47 : decode cX11_mayBring 47 = .ok (.iload_n 3, 1) := by decide +kernel
theorem dX11_mayBring_48 : decode cX11_mayBring 48 = .ok (.iconst 3, 1) := by decide +kernel
theorem dX11_mayBring_49 : decode cX11_mayBring 49 = .ok (.invokevirtual 320, 3) := by decide +kernel
theorem dX11_mayBring_52 : decode cX11_mayBring 52 = .ok (.iconst 1, 1) := by decide +kernel
theorem dX11_mayBring_53 : decode cX11_mayBring 53 = .ok (.if_icmp .ne 21, 3) := by decide +kernel
theorem dX11_mayBring_56 : decode cX11_mayBring 56 = .ok (.iload_n 2, 1) := by decide +kernel
theorem dX11_mayBring_57 : decode cX11_mayBring 57 = .ok (.iload_n 3, 1) := by decide +kernel
theorem dX11_mayBring_58 : decode cX11_mayBring 58 = .ok (.invokestatic 317, 3) := by decide +kernel
theorem dX11_mayBring_61 : decode cX11_mayBring 61 = .ok (.aload_n 0, 1) := by decide +kernel
theorem dX11_mayBring_62 : decode cX11_mayBring 62 = .ok (.iload_n 3, 1) := by decide +kernel
theorem dX11_mayBring_63 : decode cX11_mayBring 63 = .ok (.iconst 1, 1) := by decide +kernel
theorem dX11_mayBring_64 : decode cX11_mayBring 64 = .ok (.invokevirtual 320, 3) := by decide +kernel
theorem dX11_mayBring_67 : decode cX11_mayBring 67 = .ok (.if_icmp .eq 7, 3) := by decide +kernel
theorem dX11_mayBring_70 : decode cX11_mayBring 70 = .ok (.iconst 1, 1) := by decide +kernel
theorem dX11_mayBring_71 : decode cX11_mayBring 71 = .ok (.goto 4, 3) := by decide +kernel
theorem dX11_mayBring_74 : decode cX11_mayBring 74 = .ok (.iconst 0, 1) := by decide +kernel
theorem dX11_mayBring_75 : decode cX11_mayBring 75 = .ok (.istore 6, 2) := by decide +kernel
theorem dX11_mayBring_77 : decode cX11_mayBring 77 = .ok (.aload_n 0, 1) := by decide +kernel
theorem dX11_mayBring_78 : decode cX11_mayBring 78 = .ok (.getfield 167, 3) := by decide +kernel
theorem dX11_mayBring_81 : decode cX11_mayBring 81 = .ok (.ifCond .eq 7, 3) := by decide +kernel
theorem dX11_mayBring_84 : decode cX11_mayBring 84 = .ok (.aload_n 0, 1) := by decide +kernel
theorem dX11_mayBring_85 : decode cX11_mayBring 85 = .ok (.invokevirtual 348, 3) := by decide +kernel
theorem dX11_mayBring_88 : decode cX11_mayBring 88 = .ok (.iload 5, 2) := by decide +kernel
theorem dX11_mayBring_90 : decode cX11_mayBring 90 = .ok (.ifCond .eq 27, 3) := by decide +kernel
theorem dX11_mayBring_93 : decode cX11_mayBring 93 = .ok (.iload 6, 2) := by decide +kernel
theorem dX11_mayBring_95 : decode cX11_mayBring 95 = .ok (.ifCond .ne 22, 3) := by decide +kernel
theorem dX11_mayBring_98 : decode cX11_mayBring 98 = .ok (.aload_n 0, 1) := by decide +kernel
theorem dX11_mayBring_99 : decode cX11_mayBring 99 = .ok (.getfield 98, 3) := by decide +kernel
theorem dX11_mayBring_102 : decode cX11_mayBring 102 = .ok (.iload_n 2, 1) := by decide +kernel
theorem dX11_mayBring_103 : decode cX11_mayBring 103 = .ok (.iload_n 3, 1) := by decide +kernel
theorem dX11_mayBring_104 : decode cX11_mayBring 104 = .ok (.iload 4, 2) := by decide +kernel
theorem dX11_mayBring_106 : decode cX11_mayBring 106 = .ok (.invokestatic 351, 3) := by decide +kernel
theorem dX11_mayBring_109 : decode cX11_mayBring 109 = .ok (.baload, 1) := by decide +kernel
theorem dX11_mayBring_110 : decode cX11_mayBring 110 = .ok (.ifCond .ne 7, 3) := by decide +kernel
theorem dX11_mayBring_113 : decode cX11_mayBring 113 = .ok (.iconst 1, 1) := by decide +kernel
theorem dX11_mayBring_114 : decode cX11_mayBring 114 = .ok (.goto 4, 3) := by decide +kernel
theorem dX11_mayBring_117 : decode cX11_mayBring 117 = .ok (.iconst 0, 1) := by decide +kernel
theorem dX11_mayBring_118 : decode cX11_mayBring 118 = .ok (.ireturn, 1) := by decide +kernel
theorem dX11_isState_0 : decode cX11_isState 0 = .ok (.aload_n 0, 1) := by decide +kernel
theorem dX11_isState_1 : decode cX11_isState 1 = .ok (.iload_n 1, 1) := by decide +kernel
theorem dX11_isState_2 : decode cX11_isState 2 = .ok (.invokevirtual 329, 3) := by decide +kernel
theorem dX11_isState_5 : decode cX11_isState 5 = .ok (.ifCond .eq 23, 3) := by decide +kernel
theorem dX11_isState_8 : decode cX11_isState 8 = .ok (.iload_n 2, 1) := by decide +kernel
theorem dX11_isState_9 : decode cX11_isState 9 = .ok (.iconst 0, 1) := by decide +kernel
theorem dX11_isState_10 : decode cX11_isState 10 = .ok (.aload_n 0, 1) := by decide +kernel
theorem dX11_isState_11 : decode cX11_isState 11 = .ok (.iload_n 1, 1) := by decide +kernel
theorem dX11_isState_12 : decode cX11_isState 12 = .ok (.iconst 0, 1) := by decide +kernel
theorem dX11_isState_13 : decode cX11_isState 13 = .ok (.invokevirtual 320, 3) := by decide +kernel
theorem dX11_isState_16 : decode cX11_isState 16 = .ok (.iconst 1, 1) := by decide +kernel
theorem dX11_isState_17 : decode cX11_isState 17 = .ok (.isub, 1) := by decide +kernel
theorem dX11_isState_18 : decode cX11_isState 18 = .ok (.invokestatic 303, 3) := by decide +kernel
theorem dX11_isState_21 : decode cX11_isState 21 = .ok (.ifCond .eq 7, 3) := by decide +kernel
theorem dX11_isState_24 : decode cX11_isState 24 = .ok (.iconst 1, 1) := by decide +kernel
theorem dX11_isState_25 : decode cX11_isState 25 = .ok (.goto 4, 3) := by decide +kernel
theorem dX11_isState_28 : decode cX11_isState 28 = .ok (.iconst 0, 1) := by decide +kernel
theorem dX11_isState_29 : decode cX11_isState 29 = .ok (.ireturn, 1) := by decide +kernel
theorem dX11_may_0 : decode cX11_may 0 = .ok (.aload_n 0, 1) := by decide +kernel
theorem dX11_may_1 : decode cX11_may 1 = .ok (.iconst 0, 1) := by decide +kernel
theorem dX11_may_2 : decode cX11_may 2 = .ok (.putfield 1, 3) := by decide +kernel
theorem dX11_may_5 : decode cX11_may 5 = .ok (.aload_n 0, 1) := by decide +kernel
theorem dX11_may_6 : decode cX11_may 6 = .ok (.iload_n 1, 1) := by decide +kernel
theorem dX11_may_7 : decode cX11_may 7 = .ok (.invokevirtual 354, 3) := by decide +kernel
theorem dX11_may_10 : decode cX11_may 10 = .ok (.ifCond .eq 41, 3) := by decide +kernel
theorem dX11_may_13 : decode cX11_may 13 = .ok (.aload_n 0, 1) := by decide +kernel
theorem dX11_may_14 : decode cX11_may 14 = .ok (.iload_n 2, 1) := by decide +kernel
theorem dX11_may_15 : decode cX11_may 15 = .ok (.invokevirtual 341, 3) := by decide +kernel
theorem dX11_may_18 : decode cX11_may 18 = .ok (.ifCond .eq 33, 3) := by decide +kernel
theorem dX11_may_21 : decode cX11_may 21 = .ok (.aload_n 0, 1) := by decide +kernel
theorem dX11_may_22 : decode cX11_may 22 = .ok (.iload_n 3, 1) := by decide +kernel
theorem dX11_may_23 : decode cX11_may 23 = .ok (.iload 4, 2) := by decide +kernel
theorem dX11_may_25 : decode cX11_may 25 = .ok (.invokevirtual 357, 3) := by decide +kernel
theorem dX11_may_28 : decode cX11_may 28 = .ok (.ifCond .eq 23, 3) := by decide +kernel
theorem dX11_may_31 : decode cX11_may 31 = .ok (.aload_n 0, 1) := by decide +kernel
theorem dX11_may_32 : decode cX11_may 32 = .ok (.iload_n 1, 1) := by decide +kernel
theorem dX11_may_33 : decode cX11_may 33 = .ok (.iload_n 2, 1) := by decide +kernel
theorem dX11_may_34 : decode cX11_may 34 = .ok (.iload_n 3, 1) := by decide +kernel
theorem dX11_may_35 : decode cX11_may 35 = .ok (.iload 4, 2) := by decide +kernel
theorem dX11_may_37 : decode cX11_may 37 = .ok (.invokevirtual 361, 3) := by decide +kernel
theorem dX11_may_40 : decode cX11_may 40 = .ok (.ifCond .eq 7, 3) := by decide +kernel
theorem dX11_may_43 : decode cX11_may 43 = .ok (.iconst 1, 1) := by decide +kernel
theorem dX11_may_44 : decode cX11_may 44 = .ok (.goto 8, 3) := by decide +kernel
theorem dX11_may_47 : decode cX11_may 47 = .ok (.iconst 0, 1) := by decide +kernel
theorem dX11_may_48 : decode cX11_may 48 = .ok (.goto 4, 3) := by decide +kernel
theorem dX11_may_51 : decode cX11_may 51 = .ok (.iconst (-1), 1) := by decide +kernel
theorem dX11_may_52 : decode cX11_may 52 = .ok (.ireturn, 1) := by decide +kernel
theorem dX11_costOf_0 : decode cX11_costOf 0 = .ok (.iconst 0, 1) := by decide +kernel
theorem dX11_costOf_1 : decode cX11_costOf 1 = .ok (.istore_n 3, 1) := by decide +kernel
theorem dX11_costOf_2 : decode cX11_costOf 2 = .ok (.iconst 0, 1) := by decide +kernel
theorem dX11_costOf_3 : decode cX11_costOf 3 = .ok (.istore 4, 2) := by decide +kernel
theorem dX11_costOf_5 : decode cX11_costOf 5 = .ok (.iload 4, 2) := by decide +kernel
theorem dX11_costOf_7 : decode cX11_costOf 7 = .ok (.aload_n 0, 1) := by decide +kernel
theorem dX11_costOf_8 : decode cX11_costOf 8 = .ok (.invokevirtual 314, 3) := by decide +kernel
theorem dX11_costOf_11 : decode cX11_costOf 11 = .ok (.if_icmp .ge 38, 3) := by decide +kernel
theorem dX11_costOf_14 : decode cX11_costOf 14 = .ok (.iload_n 3, 1) := by decide +kernel
theorem dX11_costOf_15 : decode cX11_costOf 15 = .ok (.iload_n 1, 1) := by decide +kernel
theorem dX11_costOf_16 : decode cX11_costOf 16 = .ok (.iload 4, 2) := by decide +kernel
theorem dX11_costOf_18 : decode cX11_costOf 18 = .ok (.invokestatic 317, 3) := by decide +kernel
theorem dX11_costOf_21 : decode cX11_costOf 21 = .ok (.iload_n 2, 1) := by decide +kernel
theorem dX11_costOf_22 : decode cX11_costOf 22 = .ok (.iload 4, 2) := by decide +kernel
theorem dX11_costOf_24 : decode cX11_costOf 24 = .ok (.invokestatic 317, 3) := by decide +kernel
theorem dX11_costOf_27 : decode cX11_costOf 27 = .ok (.if_icmp .eq 13, 3) := by decide +kernel
theorem dX11_costOf_30 : decode cX11_costOf 30 = .ok (.aload_n 0, 1) := by decide +kernel
theorem dX11_costOf_31 : decode cX11_costOf 31 = .ok (.iload 4, 2) := by decide +kernel
theorem dX11_costOf_33 : decode cX11_costOf 33 = .ok (.iconst 2, 1) := by decide +kernel
theorem dX11_costOf_34 : decode cX11_costOf 34 = .ok (.invokevirtual 320, 3) := by decide +kernel
theorem dX11_costOf_37 : decode cX11_costOf 37 = .ok (.goto 4, 3) := by decide +kernel
theorem dX11_costOf_40 : decode cX11_costOf 40 = .ok (.iconst 0, 1) := by decide +kernel
theorem dX11_costOf_41 : decode cX11_costOf 41 = .ok (.iadd, 1) := by decide +kernel
theorem dX11_costOf_42 : decode cX11_costOf 42 = .ok (.istore_n 3, 1) := by decide +kernel
theorem dX11_costOf_43 : decode cX11_costOf 43 = .ok (.iinc 4 1, 3) := by decide +kernel
theorem dX11_costOf_46 : decode cX11_costOf 46 = .ok (.goto (-41), 3) := by decide +kernel
theorem dX11_costOf_49 : decode cX11_costOf 49 = .ok (.iload_n 3, 1) := by decide +kernel
theorem dX11_costOf_50 : decode cX11_costOf 50 = .ok (.ireturn, 1) := by decide +kernel
theorem dX11_worthBy_0 : decode cX11_worthBy 0 = .ok (.aload_n 0, 1) := by decide +kernel
theorem dX11_worthBy_1 : decode cX11_worthBy 1 = .ok (.getfield 95, 3) := by decide +kernel
theorem dX11_worthBy_4 : decode cX11_worthBy 4 = .ok (.bipush 27, 2) := by decide +kernel
theorem dX11_worthBy_6 : decode cX11_worthBy 6 = .ok (.iload_n 1, 1) := by decide +kernel
theorem dX11_worthBy_7 : decode cX11_worthBy 7 = .ok (.imul, 1) := by decide +kernel
theorem dX11_worthBy_8 : decode cX11_worthBy 8 = .ok (.iload_n 2, 1) := by decide +kernel
theorem dX11_worthBy_9 : decode cX11_worthBy 9 = .ok (.iadd, 1) := by decide +kernel
theorem dX11_worthBy_10 : decode cX11_worthBy 10 = .ok (.bipush 6, 2) := by decide +kernel
theorem dX11_worthBy_12 : decode cX11_worthBy 12 = .ok (.imul, 1) := by decide +kernel
theorem dX11_worthBy_13 : decode cX11_worthBy 13 = .ok (.iload_n 3, 1) := by decide +kernel
theorem dX11_worthBy_14 : decode cX11_worthBy 14 = .ok (.iadd, 1) := by decide +kernel
theorem dX11_worthBy_15 : decode cX11_worthBy 15 = .ok (.bipush 16, 2) := by decide +kernel
theorem dX11_worthBy_17 : decode cX11_worthBy 17 = .ok (.imul, 1) := by decide +kernel
theorem dX11_worthBy_18 : decode cX11_worthBy 18 = .ok (.iload 4, 2) := by decide +kernel
theorem dX11_worthBy_20 : decode cX11_worthBy 20 = .ok (.iadd, 1) := by decide +kernel
theorem dX11_worthBy_21 : decode cX11_worthBy 21 = .ok (.iaload, 1) := by decide +kernel
theorem dX11_worthBy_22 : decode cX11_worthBy 22 = .ok (.ireturn, 1) := by decide +kernel
theorem dX11_doesAt_0 : decode cX11_doesAt 0 = .ok (.iconst 4, 1) := by decide +kernel
theorem dX11_doesAt_1 : decode cX11_doesAt 1 = .ok (.iload_n 0, 1) := by decide +kernel
theorem dX11_doesAt_2 : decode cX11_doesAt 2 = .ok (.imul, 1) := by decide +kernel
theorem dX11_doesAt_3 : decode cX11_doesAt 3 = .ok (.iload_n 1, 1) := by decide +kernel
theorem dX11_doesAt_4 : decode cX11_doesAt 4 = .ok (.iadd, 1) := by decide +kernel
theorem dX11_doesAt_5 : decode cX11_doesAt 5 = .ok (.bipush 27, 2) := by decide +kernel
theorem dX11_doesAt_7 : decode cX11_doesAt 7 = .ok (.imul, 1) := by decide +kernel
theorem dX11_doesAt_8 : decode cX11_doesAt 8 = .ok (.iload_n 2, 1) := by decide +kernel
theorem dX11_doesAt_9 : decode cX11_doesAt 9 = .ok (.iadd, 1) := by decide +kernel
theorem dX11_doesAt_10 : decode cX11_doesAt 10 = .ok (.ireturn, 1) := by decide +kernel
theorem dX11_likelyAt_0 : decode cX11_likelyAt 0 = .ok (.iconst 4, 1) := by decide +kernel
theorem dX11_likelyAt_1 : decode cX11_likelyAt 1 = .ok (.iload_n 0, 1) := by decide +kernel
theorem dX11_likelyAt_2 : decode cX11_likelyAt 2 = .ok (.imul, 1) := by decide +kernel
theorem dX11_likelyAt_3 : decode cX11_likelyAt 3 = .ok (.iload_n 1, 1) := by decide +kernel
theorem dX11_likelyAt_4 : decode cX11_likelyAt 4 = .ok (.iadd, 1) := by decide +kernel
theorem dX11_likelyAt_5 : decode cX11_likelyAt 5 = .ok (.bipush 7, 2) := by decide +kernel
theorem dX11_likelyAt_7 : decode cX11_likelyAt 7 = .ok (.imul, 1) := by decide +kernel
theorem dX11_likelyAt_8 : decode cX11_likelyAt 8 = .ok (.iload_n 2, 1) := by decide +kernel
theorem dX11_likelyAt_9 : decode cX11_likelyAt 9 = .ok (.iadd, 1) := by decide +kernel
theorem dX11_likelyAt_10 : decode cX11_likelyAt 10 = .ok (.bipush 27, 2) := by decide +kernel
theorem dX11_likelyAt_12 : decode cX11_likelyAt 12 = .ok (.imul, 1) := by decide +kernel
theorem dX11_likelyAt_13 : decode cX11_likelyAt 13 = .ok (.iload_n 3, 1) := by decide +kernel
theorem dX11_likelyAt_14 : decode cX11_likelyAt 14 = .ok (.iadd, 1) := by decide +kernel
theorem dX11_likelyAt_15 : decode cX11_likelyAt 15 = .ok (.ireturn, 1) := by decide +kernel
theorem dX11_left_0 : decode cX11_left 0 = .ok (.aload_n 0, 1) := by decide +kernel
theorem dX11_left_1 : decode cX11_left 1 = .ok (.invokevirtual 365, 3) := by decide +kernel
theorem dX11_left_4 : decode cX11_left 4 = .ok (.iload_n 2, 1) := by decide +kernel
theorem dX11_left_5 : decode cX11_left 5 = .ok (.isub, 1) := by decide +kernel
theorem dX11_left_6 : decode cX11_left 6 = .ok (.aload_n 0, 1) := by decide +kernel
theorem dX11_left_7 : decode cX11_left 7 = .ok (.invokevirtual 326, 3) := by decide +kernel
theorem dX11_left_10 : decode cX11_left 10 = .ok (.iload_n 1, 1) := by decide +kernel
theorem dX11_left_11 : decode cX11_left 11 = .ok (.isub, 1) := by decide +kernel
theorem dX11_left_12 : decode cX11_left 12 = .ok (.if_icmp .ge 12, 3) := by decide +kernel
theorem dX11_left_15 : decode cX11_left 15 = .ok (.aload_n 0, 1) := by decide +kernel
theorem dX11_left_16 : decode cX11_left 16 = .ok (.invokevirtual 365, 3) := by decide +kernel
theorem dX11_left_19 : decode cX11_left 19 = .ok (.iload_n 2, 1) := by decide +kernel
theorem dX11_left_20 : decode cX11_left 20 = .ok (.isub, 1) := by decide +kernel
theorem dX11_left_21 : decode cX11_left 21 = .ok (.goto 9, 3) := by decide +kernel
theorem dX11_left_24 : decode cX11_left 24 = .ok (.aload_n 0, 1) := by decide +kernel
theorem dX11_left_25 : decode cX11_left 25 = .ok (.invokevirtual 326, 3) := by decide +kernel
theorem dX11_left_28 : decode cX11_left 28 = .ok (.iload_n 1, 1) := by decide +kernel
theorem dX11_left_29 : decode cX11_left 29 = .ok (.isub, 1) := by decide +kernel
theorem dX11_left_30 : decode cX11_left 30 = .ok (.istore_n 3, 1) := by decide +kernel
theorem dX11_left_31 : decode cX11_left 31 = .ok (.iload_n 3, 1) := by decide +kernel
theorem dX11_left_32 : decode cX11_left 32 = .ok (.ifCond .ge 7, 3) := by decide +kernel
theorem dX11_left_35 : decode cX11_left 35 = .ok (.iconst 0, 1) := by decide +kernel
theorem dX11_left_36 : decode cX11_left 36 = .ok (.goto 4, 3) := by decide +kernel
theorem dX11_left_39 : decode cX11_left 39 = .ok (.iload_n 3, 1) := by decide +kernel
theorem dX11_left_40 : decode cX11_left 40 = .ok (.ireturn, 1) := by decide +kernel
theorem dX11_laysWorths_0 : decode cX11_laysWorths 0 = .ok (.aload_n 0, 1) := by decide +kernel
theorem dX11_laysWorths_1 : decode cX11_laysWorths 1 = .ok (.iconst 0, 1) := by decide +kernel
theorem dX11_laysWorths_2 : decode cX11_laysWorths 2 = .ok (.putfield 167, 3) := by decide +kernel
theorem dX11_laysWorths_5 : decode cX11_laysWorths 5 = .ok (.iconst 0, 1) := by decide +kernel
theorem dX11_laysWorths_6 : decode cX11_laysWorths 6 = .ok (.istore_n 1, 1) := by decide +kernel
theorem dX11_laysWorths_7 : decode cX11_laysWorths 7 = .ok (.iload_n 1, 1) := by decide +kernel
theorem dX11_laysWorths_8 : decode cX11_laysWorths 8 = .ok (.bipush 27, 2) := by decide +kernel
theorem dX11_laysWorths_10 : decode cX11_laysWorths 10 = .ok (.if_icmp .ge 36, 3) := by decide +kernel
theorem dX11_laysWorths_13 : decode cX11_laysWorths 13 = .ok (.aload_n 0, 1) := by decide +kernel
theorem dX11_laysWorths_14 : decode cX11_laysWorths 14 = .ok (.getfield 98, 3) := by decide +kernel
theorem dX11_laysWorths_17 : decode cX11_laysWorths 17 = .ok (.iload_n 1, 1) := by decide +kernel
theorem dX11_laysWorths_18 : decode cX11_laysWorths 18 = .ok (.aload_n 0, 1) := by decide +kernel
theorem dX11_laysWorths_19 : decode cX11_laysWorths 19 = .ok (.iload_n 1, 1) := by decide +kernel
theorem dX11_laysWorths_20 : decode cX11_laysWorths 20 = .ok (.invokevirtual 341, 3) := by decide +kernel
theorem dX11_laysWorths_23 : decode cX11_laysWorths 23 = .ok (.ifCond .eq 15, 3) := by decide +kernel
theorem dX11_laysWorths_26 : decode cX11_laysWorths 26 = .ok (.aload_n 0, 1) := by decide +kernel
theorem dX11_laysWorths_27 : decode cX11_laysWorths 27 = .ok (.iload_n 1, 1) := by decide +kernel
theorem dX11_laysWorths_28 : decode cX11_laysWorths 28 = .ok (.invokevirtual 368, 3) := by decide +kernel
theorem dX11_laysWorths_31 : decode cX11_laysWorths 31 = .ok (.ifCond .eq 7, 3) := by decide +kernel
theorem dX11_laysWorths_34 : decode cX11_laysWorths 34 = .ok (.iconst 1, 1) := by decide +kernel
theorem dX11_laysWorths_35 : decode cX11_laysWorths 35 = .ok (.goto 4, 3) := by decide +kernel
theorem dX11_laysWorths_38 : decode cX11_laysWorths 38 = .ok (.iconst 0, 1) := by decide +kernel
theorem dX11_laysWorths_39 : decode cX11_laysWorths 39 = .ok (.bastore, 1) := by decide +kernel
theorem dX11_laysWorths_40 : decode cX11_laysWorths 40 = .ok (.iinc 1 1, 3) := by decide +kernel
theorem dX11_laysWorths_43 : decode cX11_laysWorths 43 = .ok (.goto (-36), 3) := by decide +kernel
theorem dX11_laysWorths_46 : decode cX11_laysWorths 46 = .ok (.iconst 0, 1) := by decide +kernel
theorem dX11_laysWorths_47 : decode cX11_laysWorths 47 = .ok (.istore_n 1, 1) := by decide +kernel
theorem dX11_laysWorths_48 : decode cX11_laysWorths 48 = .ok (.iload_n 1, 1) := by decide +kernel
theorem dX11_laysWorths_49 : decode cX11_laysWorths 49 = .ok (.sipush 10368, 3) := by decide +kernel
theorem dX11_laysWorths_52 : decode cX11_laysWorths 52 = .ok (.if_icmp .ge 68, 3) := by decide +kernel
theorem dX11_laysWorths_55 : decode cX11_laysWorths 55 = .ok (.iload_n 1, 1) := by decide +kernel
theorem dX11_laysWorths_56 : decode cX11_laysWorths 56 = .ok (.bipush 96, 2) := by decide +kernel
theorem dX11_laysWorths_58 : decode cX11_laysWorths 58 = .ok (.idiv, 1) := by decide +kernel
theorem dX11_laysWorths_59 : decode cX11_laysWorths 59 = .ok (.bipush 27, 2) := by decide +kernel
theorem dX11_laysWorths_61 : decode cX11_laysWorths 61 = .ok (.irem, 1) := by decide +kernel
theorem dX11_laysWorths_62 : decode cX11_laysWorths 62 = .ok (.istore_n 2, 1) := by decide +kernel
theorem dX11_laysWorths_63 : decode cX11_laysWorths 63 = .ok (.aload_n 0, 1) := by decide +kernel
theorem dX11_laysWorths_64 : decode cX11_laysWorths 64 = .ok (.getfield 95, 3) := by decide +kernel
theorem dX11_laysWorths_67 : decode cX11_laysWorths 67 = .ok (.iload_n 1, 1) := by decide +kernel
theorem dX11_laysWorths_68 : decode cX11_laysWorths 68 = .ok (.iload_n 1, 1) := by decide +kernel
theorem dX11_laysWorths_69 : decode cX11_laysWorths 69 = .ok (.sipush 2592, 3) := by decide +kernel
theorem dX11_laysWorths_72 : decode cX11_laysWorths 72 = .ok (.idiv, 1) := by decide +kernel
theorem dX11_laysWorths_73 : decode cX11_laysWorths 73 = .ok (.aload_n 0, 1) := by decide +kernel
theorem dX11_laysWorths_74 : decode cX11_laysWorths 74 = .ok (.invokevirtual 323, 3) := by decide +kernel
theorem dX11_laysWorths_77 : decode cX11_laysWorths 77 = .ok (.if_icmp .ge 35, 3) := by decide +kernel
theorem dX11_laysWorths_80 : decode cX11_laysWorths 80 = .ok (.aload_n 0, 1) := by decide +kernel
theorem dX11_laysWorths_81 : decode cX11_laysWorths 81 = .ok (.iload_n 2, 1) := by decide +kernel
theorem dX11_laysWorths_82 : decode cX11_laysWorths 82 = .ok (.invokevirtual 341, 3) := by decide +kernel
theorem dX11_laysWorths_85 : decode cX11_laysWorths 85 = .ok (.ifCond .eq 27, 3) := by decide +kernel
theorem dX11_laysWorths_88 : decode cX11_laysWorths 88 = .ok (.aload_n 0, 1) := by decide +kernel
theorem dX11_laysWorths_89 : decode cX11_laysWorths 89 = .ok (.iload_n 1, 1) := by decide +kernel
theorem dX11_laysWorths_90 : decode cX11_laysWorths 90 = .ok (.sipush 2592, 3) := by decide +kernel
theorem dX11_laysWorths_93 : decode cX11_laysWorths 93 = .ok (.idiv, 1) := by decide +kernel
theorem dX11_laysWorths_94 : decode cX11_laysWorths 94 = .ok (.iload_n 2, 1) := by decide +kernel
theorem dX11_laysWorths_95 : decode cX11_laysWorths 95 = .ok (.iload_n 1, 1) := by decide +kernel
theorem dX11_laysWorths_96 : decode cX11_laysWorths 96 = .ok (.bipush 16, 2) := by decide +kernel
theorem dX11_laysWorths_98 : decode cX11_laysWorths 98 = .ok (.idiv, 1) := by decide +kernel
theorem dX11_laysWorths_99 : decode cX11_laysWorths 99 = .ok (.bipush 6, 2) := by decide +kernel
theorem dX11_laysWorths_101 : decode cX11_laysWorths 101 = .ok (.irem, 1) := by decide +kernel
theorem dX11_laysWorths_102 : decode cX11_laysWorths 102 = .ok (.iload_n 1, 1) := by decide +kernel
theorem dX11_laysWorths_103 : decode cX11_laysWorths 103 = .ok (.bipush 16, 2) := by decide +kernel
theorem dX11_laysWorths_105 : decode cX11_laysWorths 105 = .ok (.irem, 1) := by decide +kernel
theorem dX11_laysWorths_106 : decode cX11_laysWorths 106 = .ok (.invokevirtual 344, 3) := by decide +kernel
theorem dX11_laysWorths_109 : decode cX11_laysWorths 109 = .ok (.goto 4, 3) := by decide +kernel
theorem dX11_laysWorths_112 : decode cX11_laysWorths 112 = .ok (.iconst 0, 1) := by decide +kernel
theorem dX11_laysWorths_113 : decode cX11_laysWorths 113 = .ok (.iastore, 1) := by decide +kernel
theorem dX11_laysWorths_114 : decode cX11_laysWorths 114 = .ok (.iinc 1 1, 3) := by decide +kernel
theorem dX11_laysWorths_117 : decode cX11_laysWorths 117 = .ok (.goto (-69), 3) := by decide +kernel
theorem dX11_laysWorths_120 : decode cX11_laysWorths 120 = .ok (.return_, 1) := by decide +kernel
theorem dX11_valueBy_0 : decode cX11_valueBy 0 = .ok (.aload_n 0, 1) := by decide +kernel
theorem dX11_valueBy_1 : decode cX11_valueBy 1 = .ok (.iload_n 2, 1) := by decide +kernel
theorem dX11_valueBy_2 : decode cX11_valueBy 2 = .ok (.iload_n 3, 1) := by decide +kernel
theorem dX11_valueBy_3 : decode cX11_valueBy 3 = .ok (.iconst 0, 1) := by decide +kernel
theorem dX11_valueBy_4 : decode cX11_valueBy 4 = .ok (.iload_n 1, 1) := by decide +kernel
theorem dX11_valueBy_5 : decode cX11_valueBy 5 = .ok (.invokevirtual 371, 3) := by decide +kernel
theorem dX11_valueBy_8 : decode cX11_valueBy 8 = .ok (.i2l, 1) := by decide +kernel
theorem dX11_valueBy_9 : decode cX11_valueBy 9 = .ok (.aload_n 0, 1) := by decide +kernel
theorem dX11_valueBy_10 : decode cX11_valueBy 10 = .ok (.getfield 121, 3) := by decide +kernel
theorem dX11_valueBy_13 : decode cX11_valueBy 13 = .ok (.aload_n 0, 1) := by decide +kernel
theorem dX11_valueBy_14 : decode cX11_valueBy 14 = .ok (.iload_n 1, 1) := by decide +kernel
theorem dX11_valueBy_15 : decode cX11_valueBy 15 = .ok (.iconst 0, 1) := by decide +kernel
theorem dX11_valueBy_16 : decode cX11_valueBy 16 = .ok (.invokevirtual 374, 3) := by decide +kernel
theorem dX11_valueBy_19 : decode cX11_valueBy 19 = .ok (.iconst 1, 1) := by decide +kernel
theorem dX11_valueBy_20 : decode cX11_valueBy 20 = .ok (.isub, 1) := by decide +kernel
theorem dX11_valueBy_21 : decode cX11_valueBy 21 = .ok (.laload, 1) := by decide +kernel
theorem dX11_valueBy_22 : decode cX11_valueBy 22 = .ok (.lmul, 1) := by decide +kernel
theorem dX11_valueBy_23 : decode cX11_valueBy 23 = .ok (.aload_n 0, 1) := by decide +kernel
theorem dX11_valueBy_24 : decode cX11_valueBy 24 = .ok (.getfield 104, 3) := by decide +kernel
theorem dX11_valueBy_27 : decode cX11_valueBy 27 = .ok (.iload_n 1, 1) := by decide +kernel
theorem dX11_valueBy_28 : decode cX11_valueBy 28 = .ok (.iconst 1, 1) := by decide +kernel
theorem dX11_valueBy_29 : decode cX11_valueBy 29 = .ok (.iadd, 1) := by decide +kernel
theorem dX11_valueBy_30 : decode cX11_valueBy 30 = .ok (.iload_n 2, 1) := by decide +kernel
theorem dX11_valueBy_31 : decode cX11_valueBy 31 = .ok (.iconst 1, 1) := by decide +kernel
theorem dX11_valueBy_32 : decode cX11_valueBy 32 = .ok (.iload_n 3, 1) := by decide +kernel
theorem dX11_valueBy_33 : decode cX11_valueBy 33 = .ok (.invokestatic 377, 3) := by decide +kernel
theorem dX11_valueBy_36 : decode cX11_valueBy 36 = .ok (.laload, 1) := by decide +kernel
theorem dX11_valueBy_37 : decode cX11_valueBy 37 = .ok (.ladd, 1) := by decide +kernel
theorem dX11_valueBy_38 : decode cX11_valueBy 38 = .ok (.lreturn, 1) := by decide +kernel
theorem dX11_valueOf_0 : decode cX11_valueOf 0 = .ok (.aload_n 0, 1) := by decide +kernel
theorem dX11_valueOf_1 : decode cX11_valueOf 1 = .ok (.iload_n 1, 1) := by decide +kernel
theorem dX11_valueOf_2 : decode cX11_valueOf 2 = .ok (.iload_n 2, 1) := by decide +kernel
theorem dX11_valueOf_3 : decode cX11_valueOf 3 = .ok (.iload 4, 2) := by decide +kernel
theorem dX11_valueOf_5 : decode cX11_valueOf 5 = .ok (.invokevirtual 380, 3) := by decide +kernel
theorem dX11_valueOf_8 : decode cX11_valueOf 8 = .ok (.aload_n 0, 1) := by decide +kernel
theorem dX11_valueOf_9 : decode cX11_valueOf 9 = .ok (.iload_n 3, 1) := by decide +kernel
theorem dX11_valueOf_10 : decode cX11_valueOf 10 = .ok (.iload 4, 2) := by decide +kernel
theorem dX11_valueOf_12 : decode cX11_valueOf 12 = .ok (.invokevirtual 384, 3) := by decide +kernel
theorem dX11_valueOf_15 : decode cX11_valueOf 15 = .ok (.i2l, 1) := by decide +kernel
theorem dX11_valueOf_16 : decode cX11_valueOf 16 = .ok (.aload_n 0, 1) := by decide +kernel
theorem dX11_valueOf_17 : decode cX11_valueOf 17 = .ok (.getfield 121, 3) := by decide +kernel
theorem dX11_valueOf_20 : decode cX11_valueOf 20 = .ok (.aload_n 0, 1) := by decide +kernel
theorem dX11_valueOf_21 : decode cX11_valueOf 21 = .ok (.iload_n 1, 1) := by decide +kernel
theorem dX11_valueOf_22 : decode cX11_valueOf 22 = .ok (.iconst 0, 1) := by decide +kernel
theorem dX11_valueOf_23 : decode cX11_valueOf 23 = .ok (.invokevirtual 374, 3) := by decide +kernel
theorem dX11_valueOf_26 : decode cX11_valueOf 26 = .ok (.iconst 1, 1) := by decide +kernel
theorem dX11_valueOf_27 : decode cX11_valueOf 27 = .ok (.isub, 1) := by decide +kernel
theorem dX11_valueOf_28 : decode cX11_valueOf 28 = .ok (.laload, 1) := by decide +kernel
theorem dX11_valueOf_29 : decode cX11_valueOf 29 = .ok (.lmul, 1) := by decide +kernel
theorem dX11_valueOf_30 : decode cX11_valueOf 30 = .ok (.lsub, 1) := by decide +kernel
theorem dX11_valueOf_31 : decode cX11_valueOf 31 = .ok (.lreturn, 1) := by decide +kernel
theorem dX11_pledged_0 : decode cX11_pledged 0 = .ok (.aload_n 0, 1) := by decide +kernel
theorem dX11_pledged_1 : decode cX11_pledged 1 = .ok (.getfield 73, 3) := by decide +kernel
theorem dX11_pledged_4 : decode cX11_pledged 4 = .ok (.bipush 61, 2) := by decide +kernel
theorem dX11_pledged_6 : decode cX11_pledged 6 = .ok (.iload_n 1, 1) := by decide +kernel
theorem dX11_pledged_7 : decode cX11_pledged 7 = .ok (.iadd, 1) := by decide +kernel
theorem dX11_pledged_8 : decode cX11_pledged 8 = .ok (.iaload, 1) := by decide +kernel
theorem dX11_pledged_9 : decode cX11_pledged 9 = .ok (.iconst 1, 1) := by decide +kernel
theorem dX11_pledged_10 : decode cX11_pledged 10 = .ok (.isub, 1) := by decide +kernel
theorem dX11_pledged_11 : decode cX11_pledged 11 = .ok (.istore_n 3, 1) := by decide +kernel
theorem dX11_pledged_12 : decode cX11_pledged 12 = .ok (.iload_n 3, 1) := by decide +kernel
theorem dX11_pledged_13 : decode cX11_pledged 13 = .ok (.ifCond .ge 7, 3) := by decide +kernel
theorem dX11_pledged_16 : decode cX11_pledged 16 = .ok (.iconst (-1), 1) := by decide +kernel
theorem dX11_pledged_17 : decode cX11_pledged 17 = .ok (.goto 32, 3) := by decide +kernel
theorem dX11_pledged_20 : decode cX11_pledged 20 = .ok (.aload_n 0, 1) := by decide +kernel
theorem dX11_pledged_21 : decode cX11_pledged 21 = .ok (.iload_n 1, 1) := by decide +kernel
theorem dX11_pledged_22 : decode cX11_pledged 22 = .ok (.iload_n 2, 1) := by decide +kernel
theorem dX11_pledged_23 : decode cX11_pledged 23 = .ok (.iload_n 3, 1) := by decide +kernel
theorem dX11_pledged_24 : decode cX11_pledged 24 = .ok (.iconst 3, 1) := by decide +kernel
theorem dX11_pledged_25 : decode cX11_pledged 25 = .ok (.idiv, 1) := by decide +kernel
theorem dX11_pledged_26 : decode cX11_pledged 26 = .ok (.iload_n 3, 1) := by decide +kernel
theorem dX11_pledged_27 : decode cX11_pledged 27 = .ok (.iconst 3, 1) := by decide +kernel
theorem dX11_pledged_28 : decode cX11_pledged 28 = .ok (.irem, 1) := by decide +kernel
theorem dX11_pledged_29 : decode cX11_pledged 29 = .ok (.invokevirtual 361, 3) := by decide +kernel
theorem dX11_pledged_32 : decode cX11_pledged 32 = .ok (.ifCond .eq 16, 3) := by decide +kernel
theorem dX11_pledged_35 : decode cX11_pledged 35 = .ok (.iload_n 2, 1) := by decide +kernel
theorem dX11_pledged_36 : decode cX11_pledged 36 = .ok (.iload_n 3, 1) := by decide +kernel
theorem dX11_pledged_37 : decode cX11_pledged 37 = .ok (.iconst 3, 1) := by decide +kernel
theorem dX11_pledged_38 : decode cX11_pledged 38 = .ok (.idiv, 1) := by decide +kernel
theorem dX11_pledged_39 : decode cX11_pledged 39 = .ok (.iload_n 3, 1) := by decide +kernel
theorem dX11_pledged_40 : decode cX11_pledged 40 = .ok (.iconst 3, 1) := by decide +kernel
theorem dX11_pledged_41 : decode cX11_pledged 41 = .ok (.irem, 1) := by decide +kernel
theorem dX11_pledged_42 : decode cX11_pledged 42 = .ok (.invokestatic 351, 3) := by decide +kernel
theorem dX11_pledged_45 : decode cX11_pledged 45 = .ok (.goto 4, 3) := by decide +kernel
theorem dX11_pledged_48 : decode cX11_pledged 48 = .ok (.iload_n 2, 1) := by decide +kernel
theorem dX11_pledged_49 : decode cX11_pledged 49 = .ok (.ireturn, 1) := by decide +kernel
theorem dX11_act_0 : decode cX11_act 0 = .ok (.iload_n 3, 1) := by decide +kernel
theorem dX11_act_1 : decode cX11_act 1 = .ok (.ifCond .ne 5, 3) := by decide +kernel
theorem dX11_act_4 : decode cX11_act 4 = .ok (.iload_n 2, 1) := by decide +kernel
theorem dX11_act_5 : decode cX11_act 5 = .ok (.ireturn, 1) := by decide +kernel
theorem dX11_act_6 : decode cX11_act 6 = .ok (.iload_n 3, 1) := by decide +kernel
theorem dX11_act_7 : decode cX11_act 7 = .ok (.iconst 1, 1) := by decide +kernel
theorem dX11_act_8 : decode cX11_act 8 = .ok (.isub, 1) := by decide +kernel
theorem dX11_act_9 : decode cX11_act 9 = .ok (.iconst 3, 1) := by decide +kernel
theorem dX11_act_10 : decode cX11_act 10 = .ok (.idiv, 1) := by decide +kernel
theorem dX11_act_11 : decode cX11_act 11 = .ok (.istore 4, 2) := by decide +kernel
theorem dX11_act_13 : decode cX11_act 13 = .ok (.iload_n 3, 1) := by decide +kernel
theorem dX11_act_14 : decode cX11_act 14 = .ok (.iconst 1, 1) := by decide +kernel
theorem dX11_act_15 : decode cX11_act 15 = .ok (.isub, 1) := by decide +kernel
theorem dX11_act_16 : decode cX11_act 16 = .ok (.iconst 3, 1) := by decide +kernel
theorem dX11_act_17 : decode cX11_act 17 = .ok (.irem, 1) := by decide +kernel
theorem dX11_act_18 : decode cX11_act 18 = .ok (.istore 5, 2) := by decide +kernel
theorem dX11_act_20 : decode cX11_act 20 = .ok (.aload_n 0, 1) := by decide +kernel
theorem dX11_act_21 : decode cX11_act 21 = .ok (.iload 4, 2) := by decide +kernel
theorem dX11_act_23 : decode cX11_act 23 = .ok (.iload 5, 2) := by decide +kernel
theorem dX11_act_25 : decode cX11_act 25 = .ok (.invokevirtual 357, 3) := by decide +kernel
theorem dX11_act_28 : decode cX11_act 28 = .ok (.ifCond .eq 38, 3) := by decide +kernel
theorem dX11_act_31 : decode cX11_act 31 = .ok (.iload 5, 2) := by decide +kernel
theorem dX11_act_33 : decode cX11_act 33 = .ok (.iload_n 2, 1) := by decide +kernel
theorem dX11_act_34 : decode cX11_act 34 = .ok (.iload 4, 2) := by decide +kernel
theorem dX11_act_36 : decode cX11_act 36 = .ok (.invokestatic 317, 3) := by decide +kernel
theorem dX11_act_39 : decode cX11_act 39 = .ok (.if_icmp .eq 27, 3) := by decide +kernel
theorem dX11_act_42 : decode cX11_act 42 = .ok (.aload_n 0, 1) := by decide +kernel
theorem dX11_act_43 : decode cX11_act 43 = .ok (.iload_n 1, 1) := by decide +kernel
theorem dX11_act_44 : decode cX11_act 44 = .ok (.iload_n 2, 1) := by decide +kernel
theorem dX11_act_45 : decode cX11_act 45 = .ok (.iload 4, 2) := by decide +kernel
theorem dX11_act_47 : decode cX11_act 47 = .ok (.iload 5, 2) := by decide +kernel
theorem dX11_act_49 : decode cX11_act 49 = .ok (.invokevirtual 361, 3) := by decide +kernel
theorem dX11_act_52 : decode cX11_act 52 = .ok (.ifCond .eq 14, 3) := by decide +kernel
theorem dX11_act_55 : decode cX11_act 55 = .ok (.iload_n 2, 1) := by decide +kernel
theorem dX11_act_56 : decode cX11_act 56 = .ok (.iload 4, 2) := by decide +kernel
theorem dX11_act_58 : decode cX11_act 58 = .ok (.iload 5, 2) := by decide +kernel
theorem dX11_act_60 : decode cX11_act 60 = .ok (.invokestatic 351, 3) := by decide +kernel
theorem dX11_act_63 : decode cX11_act 63 = .ok (.goto 4, 3) := by decide +kernel
theorem dX11_act_66 : decode cX11_act 66 = .ok (.iconst (-1), 1) := by decide +kernel
theorem dX11_act_67 : decode cX11_act 67 = .ok (.ireturn, 1) := by decide +kernel
theorem dX11_freeChoice_0 : decode cX11_freeChoice 0 = .ok (.iload_n 3, 1) := by decide +kernel
theorem dX11_freeChoice_1 : decode cX11_freeChoice 1 = .ok (.istore 4, 2) := by decide +kernel
theorem dX11_freeChoice_3 : decode cX11_freeChoice 3 = .ok (.iconst 1, 1) := by decide +kernel
theorem dX11_freeChoice_4 : decode cX11_freeChoice 4 = .ok (.istore 5, 2) := by decide +kernel
theorem dX11_freeChoice_6 : decode cX11_freeChoice 6 = .ok (.iload 5, 2) := by decide +kernel
theorem dX11_freeChoice_8 : decode cX11_freeChoice 8 = .ok (.bipush 10, 2) := by decide +kernel
theorem dX11_freeChoice_10 : decode cX11_freeChoice 10 = .ok (.if_icmp .ge 55, 3) := by decide +kernel
theorem dX11_freeChoice_13 : decode cX11_freeChoice 13 = .ok (.aload_n 0, 1) := by decide +kernel
theorem dX11_freeChoice_14 : decode cX11_freeChoice 14 = .ok (.iload_n 1, 1) := by decide +kernel
theorem dX11_freeChoice_15 : decode cX11_freeChoice 15 = .ok (.iload_n 3, 1) := by decide +kernel
theorem dX11_freeChoice_16 : decode cX11_freeChoice 16 = .ok (.iload 5, 2) := by decide +kernel
theorem dX11_freeChoice_18 : decode cX11_freeChoice 18 = .ok (.invokevirtual 387, 3) := by decide +kernel
theorem dX11_freeChoice_21 : decode cX11_freeChoice 21 = .ok (.istore 6, 2) := by decide +kernel
theorem dX11_freeChoice_23 : decode cX11_freeChoice 23 = .ok (.iload 6, 2) := by decide +kernel
theorem dX11_freeChoice_25 : decode cX11_freeChoice 25 = .ok (.ifCond .lt 30, 3) := by decide +kernel
theorem dX11_freeChoice_28 : decode cX11_freeChoice 28 = .ok (.aload_n 0, 1) := by decide +kernel
theorem dX11_freeChoice_29 : decode cX11_freeChoice 29 = .ok (.iload_n 1, 1) := by decide +kernel
theorem dX11_freeChoice_30 : decode cX11_freeChoice 30 = .ok (.iload_n 2, 1) := by decide +kernel
theorem dX11_freeChoice_31 : decode cX11_freeChoice 31 = .ok (.iload_n 3, 1) := by decide +kernel
theorem dX11_freeChoice_32 : decode cX11_freeChoice 32 = .ok (.iload 6, 2) := by decide +kernel
theorem dX11_freeChoice_34 : decode cX11_freeChoice 34 = .ok (.invokevirtual 390, 3) := by decide +kernel
theorem dX11_freeChoice_37 : decode cX11_freeChoice 37 = .ok (.aload_n 0, 1) := by decide +kernel
theorem dX11_freeChoice_38 : decode cX11_freeChoice 38 = .ok (.iload_n 1, 1) := by decide +kernel
theorem dX11_freeChoice_39 : decode cX11_freeChoice 39 = .ok (.iload_n 2, 1) := by decide +kernel
theorem dX11_freeChoice_40 : decode cX11_freeChoice 40 = .ok (.iload_n 3, 1) := by decide +kernel
theorem dX11_freeChoice_41 : decode cX11_freeChoice 41 = .ok (.iload 4, 2) := by decide +kernel
theorem dX11_freeChoice_43 : decode cX11_freeChoice 43 = .ok (.invokevirtual 390, 3) := by decide +kernel
theorem dX11_freeChoice_46 : decode cX11_freeChoice 46 = .ok (.lcmp, 1) := by decide +kernel
theorem dX11_freeChoice_47 : decode cX11_freeChoice 47 = .ok (.ifCond .le 8, 3) := by decide +kernel
theorem dX11_freeChoice_50 : decode cX11_freeChoice 50 = .ok (.iload 6, 2) := by decide +kernel
theorem dX11_freeChoice_52 : decode cX11_freeChoice 52 = .ok (.goto 5, 3) := by decide +kernel
theorem dX11_freeChoice_55 : decode cX11_freeChoice 55 = .ok (.iload 4, 2) := by decide +kernel
theorem dX11_freeChoice_57 : decode cX11_freeChoice 57 = .ok (.istore 4, 2) := by decide +kernel
theorem dX11_freeChoice_59 : decode cX11_freeChoice 59 = .ok (.iinc 5 1, 3) := by decide +kernel
theorem dX11_freeChoice_62 : decode cX11_freeChoice 62 = .ok (.goto (-56), 3) := by decide +kernel
theorem dX11_freeChoice_65 : decode cX11_freeChoice 65 = .ok (.iload 4, 2) := by decide +kernel
theorem dX11_freeChoice_67 : decode cX11_freeChoice 67 = .ok (.ireturn, 1) := by decide +kernel
theorem dX11_sixth_0 : decode cX11_sixth 0 = .ok (.aload_n 0, 1) := by decide +kernel
theorem dX11_sixth_1 : decode cX11_sixth 1 = .ok (.getfield 73, 3) := by decide +kernel
theorem dX11_sixth_4 : decode cX11_sixth 4 = .ok (.bipush 29, 2) := by decide +kernel
theorem dX11_sixth_6 : decode cX11_sixth 6 = .ok (.iload_n 1, 1) := by decide +kernel
theorem dX11_sixth_7 : decode cX11_sixth 7 = .ok (.iadd, 1) := by decide +kernel
theorem dX11_sixth_8 : decode cX11_sixth 8 = .ok (.iaload, 1) := by decide +kernel
theorem dX11_sixth_9 : decode cX11_sixth 9 = .ok (.istore_n 3, 1) := by decide +kernel
theorem dX11_sixth_10 : decode cX11_sixth 10 = .ok (.aload_n 0, 1) := by decide +kernel
theorem dX11_sixth_11 : decode cX11_sixth 11 = .ok (.invokevirtual 323, 3) := by decide +kernel
theorem dX11_sixth_14 : decode cX11_sixth 14 = .ok (.ifCond .eq 8, 3) := by decide +kernel
theorem dX11_sixth_17 : decode cX11_sixth 17 = .ok (.iload_n 3, 1) := by decide +kernel
theorem dX11_sixth_18 : decode cX11_sixth 18 = .ok (.iconst 1, 1) := by decide +kernel
theorem dX11_sixth_19 : decode cX11_sixth 19 = .ok (.if_icmp .ne 14, 3) := by decide +kernel
theorem dX11_sixth_22 : decode cX11_sixth 22 = .ok (.iload_n 2, 1) := by decide +kernel
theorem dX11_sixth_23 : decode cX11_sixth 23 = .ok (.ifCond .ge 8, 3) := by decide +kernel
theorem dX11_sixth_26 : decode cX11_sixth 26 = .ok (.bipush 6, 2) := by decide +kernel
theorem dX11_sixth_28 : decode cX11_sixth 28 = .ok (.goto 4, 3) := by decide +kernel
theorem dX11_sixth_31 : decode cX11_sixth 31 = .ok (.iconst 0, 1) := by decide +kernel
theorem dX11_sixth_32 : decode cX11_sixth 32 = .ok (.ireturn, 1) := by decide +kernel
theorem dX11_sixth_33 : decode cX11_sixth 33 = .ok (.iload_n 2, 1) := by decide +kernel
theorem dX11_sixth_34 : decode cX11_sixth 34 = .ok (.ifCond .ge 7, 3) := by decide +kernel
theorem dX11_sixth_37 : decode cX11_sixth 37 = .ok (.iconst 0, 1) := by decide +kernel
theorem dX11_sixth_38 : decode cX11_sixth 38 = .ok (.goto 32, 3) := by decide +kernel
theorem dX11_sixth_41 : decode cX11_sixth 41 = .ok (.iload_n 3, 1) := by decide +kernel
theorem dX11_sixth_42 : decode cX11_sixth 42 = .ok (.ifCond .ne 15, 3) := by decide +kernel
theorem dX11_sixth_45 : decode cX11_sixth 45 = .ok (.aload_n 0, 1) := by decide +kernel
theorem dX11_sixth_46 : decode cX11_sixth 46 = .ok (.getfield 73, 3) := by decide +kernel
theorem dX11_sixth_49 : decode cX11_sixth 49 = .ok (.bipush 18, 2) := by decide +kernel
theorem dX11_sixth_51 : decode cX11_sixth 51 = .ok (.iload_n 2, 1) := by decide +kernel
theorem dX11_sixth_52 : decode cX11_sixth 52 = .ok (.iadd, 1) := by decide +kernel
theorem dX11_sixth_53 : decode cX11_sixth 53 = .ok (.iaload, 1) := by decide +kernel
theorem dX11_sixth_54 : decode cX11_sixth 54 = .ok (.goto 16, 3) := by decide +kernel
theorem dX11_sixth_57 : decode cX11_sixth 57 = .ok (.iload_n 3, 1) := by decide +kernel
theorem dX11_sixth_58 : decode cX11_sixth 58 = .ok (.iconst 2, 1) := by decide +kernel
theorem dX11_sixth_59 : decode cX11_sixth 59 = .ok (.iload_n 2, 1) := by decide +kernel
theorem dX11_sixth_60 : decode cX11_sixth 60 = .ok (.iadd, 1) := by decide +kernel
theorem dX11_sixth_61 : decode cX11_sixth 61 = .ok (.if_icmp .ne 8, 3) := by decide +kernel
theorem dX11_sixth_64 : decode cX11_sixth 64 = .ok (.bipush 6, 2) := by decide +kernel
theorem dX11_sixth_66 : decode cX11_sixth 66 = .ok (.goto 4, 3) := by decide +kernel
theorem dX11_sixth_69 : decode cX11_sixth 69 = .ok (.iconst 0, 1) := by decide +kernel
theorem dX11_sixth_70 : decode cX11_sixth 70 = .ok (.ireturn, 1) := by decide +kernel
theorem dX11_find_0 : decode cX11_find 0 = .ok (.aload_n 0, 1) := by decide +kernel
theorem dX11_find_1 : decode cX11_find 1 = .ok (.getfield 163, 3) := by decide +kernel
theorem dX11_find_4 : decode cX11_find 4 = .ok (.ifCond .ne 4, 3) := by decide +kernel
theorem dX11_find_7 : decode cX11_find 7 = .ok (.return_, 1) := by decide +kernel
theorem dX11_find_8 : decode cX11_find 8 = .ok (.aload_n 0, 1) := by decide +kernel
theorem dX11_find_9 : decode cX11_find 9 = .ok (.iconst 0, 1) := by decide +kernel
theorem dX11_find_10 : decode cX11_find 10 = .ok (.putfield 163, 3) := by decide +kernel
theorem dX11_find_13 : decode cX11_find 13 = .ok (.aload_n 0, 1) := by decide +kernel
theorem dX11_find_14 : decode cX11_find 14 = .ok (.getfield 167, 3) := by decide +kernel
theorem dX11_find_17 : decode cX11_find 17 = .ok (.ifCond .eq 7, 3) := by decide +kernel
theorem dX11_find_20 : decode cX11_find 20 = .ok (.aload_n 0, 1) := by decide +kernel
theorem dX11_find_21 : decode cX11_find 21 = .ok (.invokevirtual 348, 3) := by decide +kernel
theorem dX11_find_24 : decode cX11_find 24 = .ok (.aload_n 0, 1) := by decide +kernel
theorem dX11_find_25 : decode cX11_find 25 = .ok (.invokevirtual 394, 3) := by decide +kernel
theorem dX11_find_28 : decode cX11_find 28 = .ok (.return_, 1) := by decide +kernel
theorem dX11_finds_0 : decode cX11_finds 0 = .ok (.iconst 0, 1) := by decide +kernel
theorem dX11_finds_1 : decode cX11_finds 1 = .ok (.istore_n 1, 1) := by decide +kernel
theorem dX11_finds_2 : decode cX11_finds 2 = .ok (.iload_n 1, 1) := by decide +kernel
theorem dX11_finds_3 : decode cX11_finds 3 = .ok (.sipush 12852, 3) := by decide +kernel
theorem dX11_finds_6 : decode cX11_finds 6 = .ok (.if_icmp .ge 16, 3) := by decide +kernel
theorem dX11_finds_9 : decode cX11_finds 9 = .ok (.aload_n 0, 1) := by decide +kernel
theorem dX11_finds_10 : decode cX11_finds 10 = .ok (.getfield 104, 3) := by decide +kernel
theorem dX11_finds_13 : decode cX11_finds 13 = .ok (.iload_n 1, 1) := by decide +kernel
theorem dX11_finds_14 : decode cX11_finds 14 = .ok (.lconst 0, 1) := by decide +kernel
theorem dX11_finds_15 : decode cX11_finds 15 = .ok (.lastore, 1) := by decide +kernel
theorem dX11_finds_16 : decode cX11_finds 16 = .ok (.iinc 1 1, 3) := by decide +kernel
theorem dX11_finds_19 : decode cX11_finds 19 = .ok (.goto (-17), 3) := by decide +kernel
theorem dX11_finds_22 : decode cX11_finds 22 = .ok (.aload_n 0, 1) := by decide +kernel
theorem dX11_finds_23 : decode cX11_finds 23 = .ok (.invokevirtual 326, 3) := by decide +kernel
theorem dX11_finds_26 : decode cX11_finds 26 = .ok (.iconst 1, 1) := by decide +kernel
theorem dX11_finds_27 : decode cX11_finds 27 = .ok (.isub, 1) := by decide +kernel
theorem dX11_finds_28 : decode cX11_finds 28 = .ok (.istore_n 1, 1) := by decide +kernel
theorem dX11_finds_29 : decode cX11_finds 29 = .ok (.iload_n 1, 1) := by decide +kernel
theorem dX11_finds_30 : decode cX11_finds 30 = .ok (.ifCond .lt 135, 3) := by decide +kernel
theorem dX11_finds_33 : decode cX11_finds 33 = .ok (.iconst 0, 1) := by decide +kernel
theorem dX11_finds_34 : decode cX11_finds 34 = .ok (.istore_n 2, 1) := by decide +kernel
theorem dX11_finds_35 : decode cX11_finds 35 = .ok (.iload_n 2, 1) := by decide +kernel
theorem dX11_finds_36 : decode cX11_finds 36 = .ok (.bipush 27, 2) := by decide +kernel
theorem dX11_finds_38 : decode cX11_finds 38 = .ok (.if_icmp .ge 69, 3) := by decide +kernel
theorem dX11_finds_41 : decode cX11_finds 41 = .ok (.iconst 0, 1) := by decide +kernel
theorem dX11_finds_42 : decode cX11_finds 42 = .ok (.istore_n 3, 1) := by decide +kernel
theorem dX11_finds_43 : decode cX11_finds 43 = .ok (.iload_n 3, 1) := by decide +kernel
theorem dX11_finds_44 : decode cX11_finds 44 = .ok (.aload_n 0, 1) := by decide +kernel
theorem dX11_finds_45 : decode cX11_finds 45 = .ok (.invokevirtual 323, 3) := by decide +kernel
theorem dX11_finds_48 : decode cX11_finds 48 = .ok (.if_icmp .ge 53, 3) := by decide +kernel
theorem dX11_finds_51 : decode cX11_finds 51 = .ok (.aload_n 0, 1) := by decide +kernel
theorem dX11_finds_52 : decode cX11_finds 52 = .ok (.iload_n 2, 1) := by decide +kernel
theorem dX11_finds_53 : decode cX11_finds 53 = .ok (.invokevirtual 341, 3) := by decide +kernel
theorem dX11_finds_56 : decode cX11_finds 56 = .ok (.ifCond .eq 45, 3) := by decide +kernel
theorem dX11_finds_59 : decode cX11_finds 59 = .ok (.aload_n 0, 1) := by decide +kernel
theorem dX11_finds_60 : decode cX11_finds 60 = .ok (.iload_n 1, 1) := by decide +kernel
theorem dX11_finds_61 : decode cX11_finds 61 = .ok (.iload_n 2, 1) := by decide +kernel
theorem dX11_finds_62 : decode cX11_finds 62 = .ok (.invokevirtual 397, 3) := by decide +kernel
theorem dX11_finds_65 : decode cX11_finds 65 = .ok (.istore 4, 2) := by decide +kernel
theorem dX11_finds_67 : decode cX11_finds 67 = .ok (.aload_n 0, 1) := by decide +kernel
theorem dX11_finds_68 : decode cX11_finds 68 = .ok (.getfield 101, 3) := by decide +kernel
theorem dX11_finds_71 : decode cX11_finds 71 = .ok (.iload_n 1, 1) := by decide +kernel
theorem dX11_finds_72 : decode cX11_finds 72 = .ok (.iload_n 3, 1) := by decide +kernel
theorem dX11_finds_73 : decode cX11_finds 73 = .ok (.iload_n 2, 1) := by decide +kernel
theorem dX11_finds_74 : decode cX11_finds 74 = .ok (.invokestatic 400, 3) := by decide +kernel
theorem dX11_finds_77 : decode cX11_finds 77 = .ok (.iload 4, 2) := by decide +kernel
theorem dX11_finds_79 : decode cX11_finds 79 = .ok (.ifCond .lt 8, 3) := by decide +kernel
theorem dX11_finds_82 : decode cX11_finds 82 = .ok (.iload 4, 2) := by decide +kernel
theorem dX11_finds_84 : decode cX11_finds 84 = .ok (.goto 10, 3) := by decide +kernel
theorem dX11_finds_87 : decode cX11_finds 87 = .ok (.aload_n 0, 1) := by decide +kernel
theorem dX11_finds_88 : decode cX11_finds 88 = .ok (.iload_n 1, 1) := by decide +kernel
theorem dX11_finds_89 : decode cX11_finds 89 = .ok (.iload_n 3, 1) := by decide +kernel
theorem dX11_finds_90 : decode cX11_finds 90 = .ok (.iload_n 2, 1) := by decide +kernel
theorem dX11_finds_91 : decode cX11_finds 91 = .ok (.invokevirtual 403, 3) := by decide +kernel
theorem dX11_finds_94 : decode cX11_finds 94 = .ok (.iastore, 1) := by decide +kernel
theorem dX11_finds_95 : decode cX11_finds 95 = .ok (.iinc 3 1, 3) := by decide +kernel
theorem dX11_finds_98 : decode cX11_finds 98 = .ok (.goto (-55), 3) := by decide +kernel
theorem dX11_finds_101 : decode cX11_finds 101 = .ok (.iinc 2 1, 3) := by decide +kernel
theorem dX11_finds_104 : decode cX11_finds 104 = .ok (.goto (-69), 3) := by decide +kernel
theorem dX11_finds_107 : decode cX11_finds 107 = .ok (.iconst 0, 1) := by decide +kernel
theorem dX11_finds_108 : decode cX11_finds 108 = .ok (.istore_n 2, 1) := by decide +kernel
theorem dX11_finds_109 : decode cX11_finds 109 = .ok (.iload_n 2, 1) := by decide +kernel
theorem dX11_finds_110 : decode cX11_finds 110 = .ok (.bipush 27, 2) := by decide +kernel
theorem dX11_finds_112 : decode cX11_finds 112 = .ok (.if_icmp .ge 47, 3) := by decide +kernel
theorem dX11_finds_115 : decode cX11_finds 115 = .ok (.iconst 0, 1) := by decide +kernel
theorem dX11_finds_116 : decode cX11_finds 116 = .ok (.istore_n 3, 1) := by decide +kernel
theorem dX11_finds_117 : decode cX11_finds 117 = .ok (.iload_n 3, 1) := by decide +kernel
theorem dX11_finds_118 : decode cX11_finds 118 = .ok (.bipush 24, 2) := by decide +kernel
theorem dX11_finds_120 : decode cX11_finds 120 = .ok (.if_icmp .ge 33, 3) := by decide +kernel
