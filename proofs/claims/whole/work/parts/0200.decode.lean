theorem dX0_init_0 : decode cX0_init 0 = .ok (.aload_n 0, 1) := by decide +kernel
theorem dX0_init_1 : decode cX0_init 1 = .ok (.invokespecial 3, 3) := by decide +kernel
theorem dX0_init_4 : decode cX0_init 4 = .ok (.aload_n 0, 1) := by decide +kernel
theorem dX0_init_5 : decode cX0_init 5 = .ok (.bipush 16, 2) := by decide +kernel
theorem dX0_init_7 : decode cX0_init 7 = .ok (.newarray .int, 2) := by decide +kernel
theorem dX0_init_9 : decode cX0_init 9 = .ok (.putfield 9, 3) := by decide +kernel
theorem dX0_init_12 : decode cX0_init 12 = .ok (.aload_n 0, 1) := by decide +kernel
theorem dX0_init_13 : decode cX0_init 13 = .ok (.bipush 16, 2) := by decide +kernel
theorem dX0_init_15 : decode cX0_init 15 = .ok (.newarray .int, 2) := by decide +kernel
theorem dX0_init_17 : decode cX0_init 17 = .ok (.putfield 15, 3) := by decide +kernel
theorem dX0_init_20 : decode cX0_init 20 = .ok (.aload_n 0, 1) := by decide +kernel
theorem dX0_init_21 : decode cX0_init 21 = .ok (.bipush 16, 2) := by decide +kernel
theorem dX0_init_23 : decode cX0_init 23 = .ok (.newarray .int, 2) := by decide +kernel
theorem dX0_init_25 : decode cX0_init 25 = .ok (.putfield 18, 3) := by decide +kernel
theorem dX0_init_28 : decode cX0_init 28 = .ok (.aload_n 0, 1) := by decide +kernel
theorem dX0_init_29 : decode cX0_init 29 = .ok (.bipush 16, 2) := by decide +kernel
theorem dX0_init_31 : decode cX0_init 31 = .ok (.newarray .int, 2) := by decide +kernel
theorem dX0_init_33 : decode cX0_init 33 = .ok (.putfield 21, 3) := by decide +kernel
theorem dX0_init_36 : decode cX0_init 36 = .ok (.aload_n 0, 1) := by decide +kernel
theorem dX0_init_37 : decode cX0_init 37 = .ok (.bipush 16, 2) := by decide +kernel
theorem dX0_init_39 : decode cX0_init 39 = .ok (.newarray .int, 2) := by decide +kernel
theorem dX0_init_41 : decode cX0_init 41 = .ok (.putfield 24, 3) := by decide +kernel
theorem dX0_init_44 : decode cX0_init 44 = .ok (.aload_n 0, 1) := by decide +kernel
theorem dX0_init_45 : decode cX0_init 45 = .ok (.iconst 0, 1) := by decide +kernel
theorem dX0_init_46 : decode cX0_init 46 = .ok (.putfield 27, 3) := by decide +kernel
theorem dX0_init_49 : decode cX0_init 49 = .ok (.aload_n 0, 1) := by decide +kernel
theorem dX0_init_50 : decode cX0_init 50 = .ok (.lconst 0, 1) := by decide +kernel
theorem dX0_init_51 : decode cX0_init 51 = .ok (.putfield 31, 3) := by decide +kernel
theorem dX0_init_54 : decode cX0_init 54 = .ok (.aload_n 0, 1) := by decide +kernel
theorem dX0_init_55 : decode cX0_init 55 = .ok (.aload_n 1, 1) := by decide +kernel
theorem dX0_init_56 : decode cX0_init 56 = .ok (.putfield 35, 3) := by decide +kernel
theorem dX0_init_59 : decode cX0_init 59 = .ok (.aload_n 0, 1) := by decide +kernel
theorem dX0_init_60 : decode cX0_init 60 = .ok (.aload_n 2, 1) := by decide +kernel
theorem dX0_init_61 : decode cX0_init 61 = .ok (.putfield 39, 3) := by decide +kernel
theorem dX0_init_64 : decode cX0_init 64 = .ok (.return_, 1) := by decide +kernel
theorem dX0_run_0 : decode cX0_run 0 = .ok (.aload_n 0, 1) := by decide +kernel
theorem dX0_run_1 : decode cX0_run 1 = .ok (.getfield 39, 3) := by decide +kernel
theorem dX0_run_4 : decode cX0_run 4 = .ok (.iconst 0, 1) := by decide +kernel
theorem dX0_run_5 : decode cX0_run 5 = .ok (.invokevirtual 43, 3) := by decide +kernel
theorem dX0_run_8 : decode cX0_run 8 = .ok (.aload_n 0, 1) := by decide +kernel
theorem dX0_run_9 : decode cX0_run 9 = .ok (.iload_n 1, 1) := by decide +kernel
theorem dX0_run_10 : decode cX0_run 10 = .ok (.i2l, 1) := by decide +kernel
theorem dX0_run_11 : decode cX0_run 11 = .ok (.putfield 31, 3) := by decide +kernel
theorem dX0_run_14 : decode cX0_run 14 = .ok (.aload_n 0, 1) := by decide +kernel
theorem dX0_run_15 : decode cX0_run 15 = .ok (.iconst 0, 1) := by decide +kernel
theorem dX0_run_16 : decode cX0_run 16 = .ok (.putfield 27, 3) := by decide +kernel
theorem dX0_run_19 : decode cX0_run 19 = .ok (.aload_n 0, 1) := by decide +kernel
theorem dX0_run_20 : decode cX0_run 20 = .ok (.getfield 35, 3) := by decide +kernel
theorem dX0_run_23 : decode cX0_run 23 = .ok (.getfield 49, 3) := by decide +kernel
theorem dX0_run_26 : decode cX0_run 26 = .ok (.invokevirtual 55, 3) := by decide +kernel
theorem dX0_run_29 : decode cX0_run 29 = .ok (.istore_n 3, 1) := by decide +kernel
theorem dX0_run_30 : decode cX0_run 30 = .ok (.iconst 0, 1) := by decide +kernel
theorem dX0_run_31 : decode cX0_run 31 = .ok (.istore 4, 2) := by decide +kernel
theorem dX0_run_33 : decode cX0_run 33 = .ok (.iload 4, 2) := by decide +kernel
theorem dX0_run_35 : decode cX0_run 35 = .ok (.aload_n 0, 1) := by decide +kernel
theorem dX0_run_36 : decode cX0_run 36 = .ok (.getfield 35, 3) := by decide +kernel
theorem dX0_run_39 : decode cX0_run 39 = .ok (.getfield 49, 3) := by decide +kernel
theorem dX0_run_42 : decode cX0_run 42 = .ok (.getfield 61, 3) := by decide +kernel
theorem dX0_run_45 : decode cX0_run 45 = .ok (.if_icmp .ge 126, 3) := by decide +kernel
theorem dX0_run_48 : decode cX0_run 48 = .ok (.aload_n 0, 1) := by decide +kernel
theorem dX0_run_49 : decode cX0_run 49 = .ok (.getfield 9, 3) := by decide +kernel
theorem dX0_run_52 : decode cX0_run 52 = .ok (.iload 4, 2) := by decide +kernel
theorem dX0_run_54 : decode cX0_run 54 = .ok (.aload_n 0, 1) := by decide +kernel
theorem dX0_run_55 : decode cX0_run 55 = .ok (.iload 4, 2) := by decide +kernel
theorem dX0_run_57 : decode cX0_run 57 = .ok (.invokevirtual 64, 3) := by decide +kernel
theorem dX0_run_60 : decode cX0_run 60 = .ok (.iastore, 1) := by decide +kernel
theorem dX0_run_61 : decode cX0_run 61 = .ok (.aload_n 0, 1) := by decide +kernel
theorem dX0_run_62 : decode cX0_run 62 = .ok (.getfield 24, 3) := by decide +kernel
theorem dX0_run_65 : decode cX0_run 65 = .ok (.iload 4, 2) := by decide +kernel
theorem dX0_run_67 : decode cX0_run 67 = .ok (.iconst 0, 1) := by decide +kernel
theorem dX0_run_68 : decode cX0_run 68 = .ok (.iastore, 1) := by decide +kernel
theorem dX0_run_69 : decode cX0_run 69 = .ok (.aload_n 0, 1) := by decide +kernel
theorem dX0_run_70 : decode cX0_run 70 = .ok (.getfield 15, 3) := by decide +kernel
theorem dX0_run_73 : decode cX0_run 73 = .ok (.iload 4, 2) := by decide +kernel
theorem dX0_run_75 : decode cX0_run 75 = .ok (.aload_n 0, 1) := by decide +kernel
theorem dX0_run_76 : decode cX0_run 76 = .ok (.iload 4, 2) := by decide +kernel
theorem dX0_run_78 : decode cX0_run 78 = .ok (.iload_n 2, 1) := by decide +kernel
theorem dX0_run_79 : decode cX0_run 79 = .ok (.invokevirtual 68, 3) := by decide +kernel
theorem dX0_run_82 : decode cX0_run 82 = .ok (.iastore, 1) := by decide +kernel
theorem dX0_run_83 : decode cX0_run 83 = .ok (.aload_n 0, 1) := by decide +kernel
theorem dX0_run_84 : decode cX0_run 84 = .ok (.getfield 15, 3) := by decide +kernel
theorem dX0_run_87 : decode cX0_run 87 = .ok (.iload 4, 2) := by decide +kernel
theorem dX0_run_89 : decode cX0_run 89 = .ok (.iaload, 1) := by decide +kernel
theorem dX0_run_90 : decode cX0_run 90 = .ok (.iconst (-1), 1) := by decide +kernel
theorem dX0_run_91 : decode cX0_run 91 = .ok (.if_icmp .ne 7, 3) := by decide +kernel
theorem dX0_run_94 : decode cX0_run 94 = .ok (.iload_n 3, 1) := by decide +kernel
theorem dX0_run_95 : decode cX0_run 95 = .ok (.goto 11, 3) := by decide +kernel
theorem dX0_run_98 : decode cX0_run 98 = .ok (.aload_n 0, 1) := by decide +kernel
theorem dX0_run_99 : decode cX0_run 99 = .ok (.iload 4, 2) := by decide +kernel
theorem dX0_run_101 : decode cX0_run 101 = .ok (.iload_n 2, 1) := by decide +kernel
theorem dX0_run_102 : decode cX0_run 102 = .ok (.iload_n 3, 1) := by decide +kernel
theorem dX0_run_103 : decode cX0_run 103 = .ok (.invokevirtual 72, 3) := by decide +kernel
theorem dX0_run_106 : decode cX0_run 106 = .ok (.istore 5, 2) := by decide +kernel
theorem dX0_run_108 : decode cX0_run 108 = .ok (.aload_n 0, 1) := by decide +kernel
theorem dX0_run_109 : decode cX0_run 109 = .ok (.getfield 18, 3) := by decide +kernel
theorem dX0_run_112 : decode cX0_run 112 = .ok (.iload 4, 2) := by decide +kernel
theorem dX0_run_114 : decode cX0_run 114 = .ok (.aload_n 0, 1) := by decide +kernel
theorem dX0_run_115 : decode cX0_run 115 = .ok (.getfield 35, 3) := by decide +kernel
theorem dX0_run_118 : decode cX0_run 118 = .ok (.getfield 49, 3) := by decide +kernel
theorem dX0_run_121 : decode cX0_run 121 = .ok (.iload_n 3, 1) := by decide +kernel
theorem dX0_run_122 : decode cX0_run 122 = .ok (.iload 5, 2) := by decide +kernel
theorem dX0_run_124 : decode cX0_run 124 = .ok (.invokevirtual 76, 3) := by decide +kernel
theorem dX0_run_127 : decode cX0_run 127 = .ok (.iastore, 1) := by decide +kernel
theorem dX0_run_128 : decode cX0_run 128 = .ok (.aload_n 0, 1) := by decide +kernel
theorem dX0_run_129 : decode cX0_run 129 = .ok (.aload_n 0, 1) := by decide +kernel
theorem dX0_run_130 : decode cX0_run 130 = .ok (.getfield 15, 3) := by decide +kernel
theorem dX0_run_133 : decode cX0_run 133 = .ok (.iload 4, 2) := by decide +kernel
theorem dX0_run_135 : decode cX0_run 135 = .ok (.iaload, 1) := by decide +kernel
theorem dX0_run_136 : decode cX0_run 136 = .ok (.iload_n 2, 1) := by decide +kernel
theorem dX0_run_137 : decode cX0_run 137 = .ok (.aload_n 0, 1) := by decide +kernel
theorem dX0_run_138 : decode cX0_run 138 = .ok (.getfield 35, 3) := by decide +kernel
theorem dX0_run_141 : decode cX0_run 141 = .ok (.getfield 49, 3) := by decide +kernel
theorem dX0_run_144 : decode cX0_run 144 = .ok (.iload_n 3, 1) := by decide +kernel
theorem dX0_run_145 : decode cX0_run 145 = .ok (.iload 5, 2) := by decide +kernel
theorem dX0_run_147 : decode cX0_run 147 = .ok (.invokevirtual 79, 3) := by decide +kernel
theorem dX0_run_150 : decode cX0_run 150 = .ok (.invokevirtual 82, 3) := by decide +kernel
theorem dX0_run_153 : decode cX0_run 153 = .ok (.aload_n 0, 1) := by decide +kernel
theorem dX0_run_154 : decode cX0_run 154 = .ok (.getfield 21, 3) := by decide +kernel
theorem dX0_run_157 : decode cX0_run 157 = .ok (.iload 4, 2) := by decide +kernel
theorem dX0_run_159 : decode cX0_run 159 = .ok (.iload 5, 2) := by decide +kernel
theorem dX0_run_161 : decode cX0_run 161 = .ok (.iastore, 1) := by decide +kernel
theorem dX0_run_162 : decode cX0_run 162 = .ok (.iload 5, 2) := by decide +kernel
theorem dX0_run_164 : decode cX0_run 164 = .ok (.istore_n 3, 1) := by decide +kernel
theorem dX0_run_165 : decode cX0_run 165 = .ok (.iinc 4 1, 3) := by decide +kernel
theorem dX0_run_168 : decode cX0_run 168 = .ok (.goto (-135), 3) := by decide +kernel
theorem dX0_run_171 : decode cX0_run 171 = .ok (.return_, 1) := by decide +kernel
theorem dX0_faresOf_0 : decode cX0_faresOf 0 = .ok (.aload_n 0, 1) := by decide +kernel
theorem dX0_faresOf_1 : decode cX0_faresOf 1 = .ok (.getfield 35, 3) := by decide +kernel
theorem dX0_faresOf_4 : decode cX0_faresOf 4 = .ok (.getfield 49, 3) := by decide +kernel
theorem dX0_faresOf_7 : decode cX0_faresOf 7 = .ok (.astore_n 2, 1) := by decide +kernel
theorem dX0_faresOf_8 : decode cX0_faresOf 8 = .ok (.aload_n 0, 1) := by decide +kernel
theorem dX0_faresOf_9 : decode cX0_faresOf 9 = .ok (.getfield 24, 3) := by decide +kernel
theorem dX0_faresOf_12 : decode cX0_faresOf 12 = .ok (.iload_n 1, 1) := by decide +kernel
theorem dX0_faresOf_13 : decode cX0_faresOf 13 = .ok (.iaload, 1) := by decide +kernel
theorem dX0_faresOf_14 : decode cX0_faresOf 14 = .ok (.ineg, 1) := by decide +kernel
theorem dX0_faresOf_15 : decode cX0_faresOf 15 = .ok (.istore_n 3, 1) := by decide +kernel
theorem dX0_faresOf_16 : decode cX0_faresOf 16 = .ok (.aload_n 2, 1) := by decide +kernel
theorem dX0_faresOf_17 : decode cX0_faresOf 17 = .ok (.getfield 86, 3) := by decide +kernel
theorem dX0_faresOf_20 : decode cX0_faresOf 20 = .ok (.aload_n 2, 1) := by decide +kernel
theorem dX0_faresOf_21 : decode cX0_faresOf 21 = .ok (.getfield 61, 3) := by decide +kernel
theorem dX0_faresOf_24 : decode cX0_faresOf 24 = .ok (.iload_n 1, 1) := by decide +kernel
theorem dX0_faresOf_25 : decode cX0_faresOf 25 = .ok (.isub, 1) := by decide +kernel
theorem dX0_faresOf_26 : decode cX0_faresOf 26 = .ok (.invokestatic 89, 3) := by decide +kernel
theorem dX0_faresOf_29 : decode cX0_faresOf 29 = .ok (.istore 4, 2) := by decide +kernel
theorem dX0_faresOf_31 : decode cX0_faresOf 31 = .ok (.iconst 0, 1) := by decide +kernel
theorem dX0_faresOf_32 : decode cX0_faresOf 32 = .ok (.istore 5, 2) := by decide +kernel
theorem dX0_faresOf_34 : decode cX0_faresOf 34 = .ok (.iload 5, 2) := by decide +kernel
theorem dX0_faresOf_36 : decode cX0_faresOf 36 = .ok (.iload 4, 2) := by decide +kernel
theorem dX0_faresOf_38 : decode cX0_faresOf 38 = .ok (.if_icmp .ge 40, 3) := by decide +kernel
theorem dX0_faresOf_41 : decode cX0_faresOf 41 = .ok (.iload_n 3, 1) := by decide +kernel
theorem dX0_faresOf_42 : decode cX0_faresOf 42 = .ok (.aload_n 0, 1) := by decide +kernel
theorem dX0_faresOf_43 : decode cX0_faresOf 43 = .ok (.getfield 39, 3) := by decide +kernel
theorem dX0_faresOf_46 : decode cX0_faresOf 46 = .ok (.iload_n 1, 1) := by decide +kernel
theorem dX0_faresOf_47 : decode cX0_faresOf 47 = .ok (.iload 5, 2) := by decide +kernel
theorem dX0_faresOf_49 : decode cX0_faresOf 49 = .ok (.iadd, 1) := by decide +kernel
theorem dX0_faresOf_50 : decode cX0_faresOf 50 = .ok (.aload_n 0, 1) := by decide +kernel
theorem dX0_faresOf_51 : decode cX0_faresOf 51 = .ok (.getfield 9, 3) := by decide +kernel
theorem dX0_faresOf_54 : decode cX0_faresOf 54 = .ok (.iload_n 1, 1) := by decide +kernel
theorem dX0_faresOf_55 : decode cX0_faresOf 55 = .ok (.iaload, 1) := by decide +kernel
theorem dX0_faresOf_56 : decode cX0_faresOf 56 = .ok (.iload 5, 2) := by decide +kernel
theorem dX0_faresOf_58 : decode cX0_faresOf 58 = .ok (.aload_n 0, 1) := by decide +kernel
theorem dX0_faresOf_59 : decode cX0_faresOf 59 = .ok (.getfield 21, 3) := by decide +kernel
theorem dX0_faresOf_62 : decode cX0_faresOf 62 = .ok (.iload_n 1, 1) := by decide +kernel
theorem dX0_faresOf_63 : decode cX0_faresOf 63 = .ok (.iload 5, 2) := by decide +kernel
theorem dX0_faresOf_65 : decode cX0_faresOf 65 = .ok (.iadd, 1) := by decide +kernel
theorem dX0_faresOf_66 : decode cX0_faresOf 66 = .ok (.iaload, 1) := by decide +kernel
theorem dX0_faresOf_67 : decode cX0_faresOf 67 = .ok (.invokevirtual 94, 3) := by decide +kernel
theorem dX0_faresOf_70 : decode cX0_faresOf 70 = .ok (.iadd, 1) := by decide +kernel
theorem dX0_faresOf_71 : decode cX0_faresOf 71 = .ok (.istore_n 3, 1) := by decide +kernel
theorem dX0_faresOf_72 : decode cX0_faresOf 72 = .ok (.iinc 5 1, 3) := by decide +kernel
theorem dX0_faresOf_75 : decode cX0_faresOf 75 = .ok (.goto (-41), 3) := by decide +kernel
theorem dX0_faresOf_78 : decode cX0_faresOf 78 = .ok (.iload_n 3, 1) := by decide +kernel
theorem dX0_faresOf_79 : decode cX0_faresOf 79 = .ok (.ireturn, 1) := by decide +kernel
theorem dX0_faresOfAll_0 : decode cX0_faresOfAll 0 = .ok (.iconst 0, 1) := by decide +kernel
theorem dX0_faresOfAll_1 : decode cX0_faresOfAll 1 = .ok (.istore_n 1, 1) := by decide +kernel
theorem dX0_faresOfAll_2 : decode cX0_faresOfAll 2 = .ok (.iconst 0, 1) := by decide +kernel
theorem dX0_faresOfAll_3 : decode cX0_faresOfAll 3 = .ok (.istore_n 2, 1) := by decide +kernel
theorem dX0_faresOfAll_4 : decode cX0_faresOfAll 4 = .ok (.iload_n 2, 1) := by decide +kernel
theorem dX0_faresOfAll_5 : decode cX0_faresOfAll 5 = .ok (.aload_n 0, 1) := by decide +kernel
theorem dX0_faresOfAll_6 : decode cX0_faresOfAll 6 = .ok (.getfield 35, 3) := by decide +kernel
theorem dX0_faresOfAll_9 : decode cX0_faresOfAll 9 = .ok (.getfield 49, 3) := by decide +kernel
theorem dX0_faresOfAll_12 : decode cX0_faresOfAll 12 = .ok (.getfield 61, 3) := by decide +kernel
theorem dX0_faresOfAll_15 : decode cX0_faresOfAll 15 = .ok (.if_icmp .ge 27, 3) := by decide +kernel
theorem dX0_faresOfAll_18 : decode cX0_faresOfAll 18 = .ok (.aload_n 0, 1) := by decide +kernel
theorem dX0_faresOfAll_19 : decode cX0_faresOfAll 19 = .ok (.getfield 9, 3) := by decide +kernel
theorem dX0_faresOfAll_22 : decode cX0_faresOfAll 22 = .ok (.iload_n 2, 1) := by decide +kernel
theorem dX0_faresOfAll_23 : decode cX0_faresOfAll 23 = .ok (.iaload, 1) := by decide +kernel
theorem dX0_faresOfAll_24 : decode cX0_faresOfAll 24 = .ok (.iconst (-1), 1) := by decide +kernel
theorem dX0_faresOfAll_25 : decode cX0_faresOfAll 25 = .ok (.if_icmp .eq 11, 3) := by decide +kernel
theorem dX0_faresOfAll_28 : decode cX0_faresOfAll 28 = .ok (.iload_n 1, 1) := by decide +kernel
theorem dX0_faresOfAll_29 : decode cX0_faresOfAll 29 = .ok (.aload_n 0, 1) := by decide +kernel
theorem dX0_faresOfAll_30 : decode cX0_faresOfAll 30 = .ok (.iload_n 2, 1) := by decide +kernel
theorem dX0_faresOfAll_31 : decode cX0_faresOfAll 31 = .ok (.invokevirtual 98, 3) := by decide +kernel
theorem dX0_faresOfAll_34 : decode cX0_faresOfAll 34 = .ok (.iadd, 1) := by decide +kernel
theorem dX0_faresOfAll_35 : decode cX0_faresOfAll 35 = .ok (.istore_n 1, 1) := by decide +kernel
theorem dX0_faresOfAll_36 : decode cX0_faresOfAll 36 = .ok (.iinc 2 1, 3) := by decide +kernel
theorem dX0_faresOfAll_39 : decode cX0_faresOfAll 39 = .ok (.goto (-35), 3) := by decide +kernel
theorem dX0_faresOfAll_42 : decode cX0_faresOfAll 42 = .ok (.iload_n 1, 1) := by decide +kernel
theorem dX0_faresOfAll_43 : decode cX0_faresOfAll 43 = .ok (.ireturn, 1) := by decide +kernel
theorem dX0_lasts_0 : decode cX0_lasts 0 = .ok (.aload_n 0, 1) := by decide +kernel
theorem dX0_lasts_1 : decode cX0_lasts 1 = .ok (.getfield 35, 3) := by decide +kernel
theorem dX0_lasts_4 : decode cX0_lasts 4 = .ok (.getfield 49, 3) := by decide +kernel
theorem dX0_lasts_7 : decode cX0_lasts 7 = .ok (.getfield 61, 3) := by decide +kernel
theorem dX0_lasts_10 : decode cX0_lasts 10 = .ok (.iconst 1, 1) := by decide +kernel
theorem dX0_lasts_11 : decode cX0_lasts 11 = .ok (.isub, 1) := by decide +kernel
theorem dX0_lasts_12 : decode cX0_lasts 12 = .ok (.istore_n 1, 1) := by decide +kernel
theorem dX0_lasts_13 : decode cX0_lasts 13 = .ok (.iconst 0, 1) := by decide +kernel
theorem dX0_lasts_14 : decode cX0_lasts 14 = .ok (.istore_n 2, 1) := by decide +kernel
theorem dX0_lasts_15 : decode cX0_lasts 15 = .ok (.iload_n 1, 1) := by decide +kernel
theorem dX0_lasts_16 : decode cX0_lasts 16 = .ok (.istore_n 3, 1) := by decide +kernel
theorem dX0_lasts_17 : decode cX0_lasts 17 = .ok (.iload_n 3, 1) := by decide +kernel
theorem dX0_lasts_18 : decode cX0_lasts 18 = .ok (.ifCond .lt 27, 3) := by decide +kernel
theorem dX0_lasts_21 : decode cX0_lasts 21 = .ok (.aload_n 0, 1) := by decide +kernel
theorem dX0_lasts_22 : decode cX0_lasts 22 = .ok (.getfield 21, 3) := by decide +kernel
theorem dX0_lasts_25 : decode cX0_lasts 25 = .ok (.iload_n 3, 1) := by decide +kernel
theorem dX0_lasts_26 : decode cX0_lasts 26 = .ok (.iaload, 1) := by decide +kernel
theorem dX0_lasts_27 : decode cX0_lasts 27 = .ok (.aload_n 0, 1) := by decide +kernel
theorem dX0_lasts_28 : decode cX0_lasts 28 = .ok (.getfield 21, 3) := by decide +kernel
theorem dX0_lasts_31 : decode cX0_lasts 31 = .ok (.iload_n 1, 1) := by decide +kernel
theorem dX0_lasts_32 : decode cX0_lasts 32 = .ok (.iaload, 1) := by decide +kernel
theorem dX0_lasts_33 : decode cX0_lasts 33 = .ok (.if_icmp .ne 12, 3) := by decide +kernel
theorem dX0_lasts_36 : decode cX0_lasts 36 = .ok (.iinc 2 1, 3) := by decide +kernel
theorem dX0_lasts_39 : decode cX0_lasts 39 = .ok (.iinc 3 (-1), 3) := by decide +kernel
theorem dX0_lasts_42 : decode cX0_lasts 42 = .ok (.goto (-25), 3) := by decide +kernel
theorem dX0_lasts_45 : decode cX0_lasts 45 = .ok (.iload_n 2, 1) := by decide +kernel
theorem dX0_lasts_46 : decode cX0_lasts 46 = .ok (.ireturn, 1) := by decide +kernel
theorem dX0_timesBack_0 : decode cX0_timesBack 0 = .ok (.iconst 0, 1) := by decide +kernel
theorem dX0_timesBack_1 : decode cX0_timesBack 1 = .ok (.istore_n 1, 1) := by decide +kernel
theorem dX0_timesBack_2 : decode cX0_timesBack 2 = .ok (.iconst 0, 1) := by decide +kernel
theorem dX0_timesBack_3 : decode cX0_timesBack 3 = .ok (.istore_n 2, 1) := by decide +kernel
theorem dX0_timesBack_4 : decode cX0_timesBack 4 = .ok (.iload_n 2, 1) := by decide +kernel
theorem dX0_timesBack_5 : decode cX0_timesBack 5 = .ok (.aload_n 0, 1) := by decide +kernel
theorem dX0_timesBack_6 : decode cX0_timesBack 6 = .ok (.getfield 35, 3) := by decide +kernel
theorem dX0_timesBack_9 : decode cX0_timesBack 9 = .ok (.getfield 49, 3) := by decide +kernel
theorem dX0_timesBack_12 : decode cX0_timesBack 12 = .ok (.getfield 61, 3) := by decide +kernel
theorem dX0_timesBack_15 : decode cX0_timesBack 15 = .ok (.if_icmp .ge 30, 3) := by decide +kernel
theorem dX0_timesBack_18 : decode cX0_timesBack 18 = .ok (.aload_n 0, 1) := by decide +kernel
theorem dX0_timesBack_19 : decode cX0_timesBack 19 = .ok (.getfield 18, 3) := by decide +kernel
theorem dX0_timesBack_22 : decode cX0_timesBack 22 = .ok (.iload_n 2, 1) := by decide +kernel
theorem dX0_timesBack_23 : decode cX0_timesBack 23 = .ok (.iaload, 1) := by decide +kernel
theorem dX0_timesBack_24 : decode cX0_timesBack 24 = .ok (.iconst (-1), 1) := by decide +kernel
theorem dX0_timesBack_25 : decode cX0_timesBack 25 = .ok (.if_icmp .eq 14, 3) := by decide +kernel
theorem dX0_timesBack_28 : decode cX0_timesBack 28 = .ok (.aload_n 0, 1) := by decide +kernel
theorem dX0_timesBack_29 : decode cX0_timesBack 29 = .ok (.iload_n 2, 1) := by decide +kernel
theorem dX0_timesBack_30 : decode cX0_timesBack 30 = .ok (.invokevirtual 101, 3) := by decide +kernel
theorem dX0_timesBack_33 : decode cX0_timesBack 33 = .ok (.ifCond .eq 6, 3) := by decide +kernel
theorem dX0_timesBack_36 : decode cX0_timesBack 36 = .ok (.iinc 1 1, 3) := by decide +kernel
theorem dX0_timesBack_39 : decode cX0_timesBack 39 = .ok (.iinc 2 1, 3) := by decide +kernel
theorem dX0_timesBack_42 : decode cX0_timesBack 42 = .ok (.goto (-38), 3) := by decide +kernel
theorem dX0_timesBack_45 : decode cX0_timesBack 45 = .ok (.iload_n 1, 1) := by decide +kernel
theorem dX0_timesBack_46 : decode cX0_timesBack 46 = .ok (.ireturn, 1) := by decide +kernel
theorem dX0_timesAsked_0 : decode cX0_timesAsked 0 = .ok (.iconst 0, 1) := by decide +kernel
theorem dX0_timesAsked_1 : decode cX0_timesAsked 1 = .ok (.istore_n 2, 1) := by decide +kernel
theorem dX0_timesAsked_2 : decode cX0_timesAsked 2 = .ok (.iconst 0, 1) := by decide +kernel
theorem dX0_timesAsked_3 : decode cX0_timesAsked 3 = .ok (.istore_n 3, 1) := by decide +kernel
theorem dX0_timesAsked_4 : decode cX0_timesAsked 4 = .ok (.iload_n 3, 1) := by decide +kernel
theorem dX0_timesAsked_5 : decode cX0_timesAsked 5 = .ok (.aload_n 0, 1) := by decide +kernel
theorem dX0_timesAsked_6 : decode cX0_timesAsked 6 = .ok (.getfield 35, 3) := by decide +kernel
theorem dX0_timesAsked_9 : decode cX0_timesAsked 9 = .ok (.getfield 49, 3) := by decide +kernel
theorem dX0_timesAsked_12 : decode cX0_timesAsked 12 = .ok (.getfield 61, 3) := by decide +kernel
theorem dX0_timesAsked_15 : decode cX0_timesAsked 15 = .ok (.if_icmp .ge 36, 3) := by decide +kernel
theorem dX0_timesAsked_18 : decode cX0_timesAsked 18 = .ok (.aload_n 0, 1) := by decide +kernel
theorem dX0_timesAsked_19 : decode cX0_timesAsked 19 = .ok (.getfield 15, 3) := by decide +kernel
theorem dX0_timesAsked_22 : decode cX0_timesAsked 22 = .ok (.iload_n 3, 1) := by decide +kernel
theorem dX0_timesAsked_23 : decode cX0_timesAsked 23 = .ok (.iaload, 1) := by decide +kernel
theorem dX0_timesAsked_24 : decode cX0_timesAsked 24 = .ok (.iconst (-1), 1) := by decide +kernel
theorem dX0_timesAsked_25 : decode cX0_timesAsked 25 = .ok (.if_icmp .eq 20, 3) := by decide +kernel
theorem dX0_timesAsked_28 : decode cX0_timesAsked 28 = .ok (.iload_n 1, 1) := by decide +kernel
theorem dX0_timesAsked_29 : decode cX0_timesAsked 29 = .ok (.ifCond .eq 13, 3) := by decide +kernel
theorem dX0_timesAsked_32 : decode cX0_timesAsked 32 = .ok (.aload_n 0, 1) := by decide +kernel
theorem dX0_timesAsked_33 : decode cX0_timesAsked 33 = .ok (.getfield 18, 3) := by decide +kernel
theorem dX0_timesAsked_36 : decode cX0_timesAsked 36 = .ok (.iload_n 3, 1) := by decide +kernel
theorem dX0_timesAsked_37 : decode cX0_timesAsked 37 = .ok (.iaload, 1) := by decide +kernel
theorem dX0_timesAsked_38 : decode cX0_timesAsked 38 = .ok (.iconst (-1), 1) := by decide +kernel
theorem dX0_timesAsked_39 : decode cX0_timesAsked 39 = .ok (.if_icmp .ne 6, 3) := by decide +kernel
theorem dX0_timesAsked_42 : decode cX0_timesAsked 42 = .ok (.iinc 2 1, 3) := by decide +kernel
theorem dX0_timesAsked_45 : decode cX0_timesAsked 45 = .ok (.iinc 3 1, 3) := by decide +kernel
theorem dX0_timesAsked_48 : decode cX0_timesAsked 48 = .ok (.goto (-44), 3) := by decide +kernel
theorem dX0_timesAsked_51 : decode cX0_timesAsked 51 = .ok (.iload_n 2, 1) := by decide +kernel
theorem dX0_timesAsked_52 : decode cX0_timesAsked 52 = .ok (.ireturn, 1) := by decide +kernel
theorem dX0_hadStoodSo_0 : decode cX0_hadStoodSo 0 = .ok (.aload_n 0, 1) := by decide +kernel
theorem dX0_hadStoodSo_1 : decode cX0_hadStoodSo 1 = .ok (.getfield 18, 3) := by decide +kernel
theorem dX0_hadStoodSo_4 : decode cX0_hadStoodSo 4 = .ok (.iload_n 1, 1) := by decide +kernel
theorem dX0_hadStoodSo_5 : decode cX0_hadStoodSo 5 = .ok (.iaload, 1) := by decide +kernel
theorem dX0_hadStoodSo_6 : decode cX0_hadStoodSo 6 = .ok (.istore_n 2, 1) := by decide +kernel
theorem dX0_hadStoodSo_7 : decode cX0_hadStoodSo 7 = .ok (.aload_n 0, 1) := by decide +kernel
theorem dX0_hadStoodSo_8 : decode cX0_hadStoodSo 8 = .ok (.getfield 21, 3) := by decide +kernel
theorem dX0_hadStoodSo_11 : decode cX0_hadStoodSo 11 = .ok (.iload_n 1, 1) := by decide +kernel
theorem dX0_hadStoodSo_12 : decode cX0_hadStoodSo 12 = .ok (.iaload, 1) := by decide +kernel
theorem dX0_hadStoodSo_13 : decode cX0_hadStoodSo 13 = .ok (.iload_n 2, 1) := by decide +kernel
theorem dX0_hadStoodSo_14 : decode cX0_hadStoodSo 14 = .ok (.invokestatic 105, 3) := by decide +kernel
theorem dX0_hadStoodSo_17 : decode cX0_hadStoodSo 17 = .ok (.istore_n 3, 1) := by decide +kernel
theorem dX0_hadStoodSo_18 : decode cX0_hadStoodSo 18 = .ok (.aload_n 0, 1) := by decide +kernel
theorem dX0_hadStoodSo_19 : decode cX0_hadStoodSo 19 = .ok (.getfield 35, 3) := by decide +kernel
theorem dX0_hadStoodSo_22 : decode cX0_hadStoodSo 22 = .ok (.getfield 49, 3) := by decide +kernel
theorem dX0_hadStoodSo_25 : decode cX0_hadStoodSo 25 = .ok (.invokevirtual 55, 3) := by decide +kernel
theorem dX0_hadStoodSo_28 : decode cX0_hadStoodSo 28 = .ok (.iload_n 2, 1) := by decide +kernel
theorem dX0_hadStoodSo_29 : decode cX0_hadStoodSo 29 = .ok (.invokestatic 105, 3) := by decide +kernel
theorem dX0_hadStoodSo_32 : decode cX0_hadStoodSo 32 = .ok (.iload_n 3, 1) := by decide +kernel
theorem dX0_hadStoodSo_33 : decode cX0_hadStoodSo 33 = .ok (.if_icmp .ne 7, 3) := by decide +kernel
theorem dX0_hadStoodSo_36 : decode cX0_hadStoodSo 36 = .ok (.iconst 1, 1) := by decide +kernel
theorem dX0_hadStoodSo_37 : decode cX0_hadStoodSo 37 = .ok (.goto 4, 3) := by decide +kernel
theorem dX0_hadStoodSo_40 : decode cX0_hadStoodSo 40 = .ok (.iconst 0, 1) := by decide +kernel
theorem dX0_hadStoodSo_41 : decode cX0_hadStoodSo 41 = .ok (.istore 4, 2) := by decide +kernel
theorem dX0_hadStoodSo_43 : decode cX0_hadStoodSo 43 = .ok (.iconst 0, 1) := by decide +kernel
theorem dX0_hadStoodSo_44 : decode cX0_hadStoodSo 44 = .ok (.istore 5, 2) := by decide +kernel
theorem dX0_hadStoodSo_46 : decode cX0_hadStoodSo 46 = .ok (.iload 5, 2) := by decide +kernel
theorem dX0_hadStoodSo_48 : decode cX0_hadStoodSo 48 = .ok (.iload_n 1, 1) := by decide +kernel
theorem dX0_hadStoodSo_49 : decode cX0_hadStoodSo 49 = .ok (.if_icmp .ge 36, 3) := by decide +kernel
theorem dX0_hadStoodSo_52 : decode cX0_hadStoodSo 52 = .ok (.iload 4, 2) := by decide +kernel
theorem dX0_hadStoodSo_54 : decode cX0_hadStoodSo 54 = .ok (.ifCond .ne 18, 3) := by decide +kernel
theorem dX0_hadStoodSo_57 : decode cX0_hadStoodSo 57 = .ok (.aload_n 0, 1) := by decide +kernel
theorem dX0_hadStoodSo_58 : decode cX0_hadStoodSo 58 = .ok (.getfield 21, 3) := by decide +kernel
theorem dX0_hadStoodSo_61 : decode cX0_hadStoodSo 61 = .ok (.iload 5, 2) := by decide +kernel
theorem dX0_hadStoodSo_63 : decode cX0_hadStoodSo 63 = .ok (.iaload, 1) := by decide +kernel
theorem dX0_hadStoodSo_64 : decode cX0_hadStoodSo 64 = .ok (.iload_n 2, 1) := by decide +kernel
theorem dX0_hadStoodSo_65 : decode cX0_hadStoodSo 65 = .ok (.invokestatic 105, 3) := by decide +kernel
theorem dX0_hadStoodSo_68 : decode cX0_hadStoodSo 68 = .ok (.iload_n 3, 1) := by decide +kernel
theorem dX0_hadStoodSo_69 : decode cX0_hadStoodSo 69 = .ok (.if_icmp .ne 7, 3) := by decide +kernel
theorem dX0_hadStoodSo_72 : decode cX0_hadStoodSo 72 = .ok (.iconst 1, 1) := by decide +kernel
theorem dX0_hadStoodSo_73 : decode cX0_hadStoodSo 73 = .ok (.goto 4, 3) := by decide +kernel
theorem dX0_hadStoodSo_76 : decode cX0_hadStoodSo 76 = .ok (.iconst 0, 1) := by decide +kernel
theorem dX0_hadStoodSo_77 : decode cX0_hadStoodSo 77 = .ok (.istore 4, 2) := by decide +kernel
theorem dX0_hadStoodSo_79 : decode cX0_hadStoodSo 79 = .ok (.iinc 5 1, 3) := by decide +kernel
theorem dX0_hadStoodSo_82 : decode cX0_hadStoodSo 82 = .ok (.goto (-36), 3) := by decide +kernel
theorem dX0_hadStoodSo_85 : decode cX0_hadStoodSo 85 = .ok (.iload 4, 2) := by decide +kernel
theorem dX0_hadStoodSo_87 : decode cX0_hadStoodSo 87 = .ok (.ireturn, 1) := by decide +kernel
theorem dX0_draw_0 : decode cX0_draw 0 = .ok (.aload_n 0, 1) := by decide +kernel
theorem dX0_draw_1 : decode cX0_draw 1 = .ok (.aload_n 0, 1) := by decide +kernel
theorem dX0_draw_2 : decode cX0_draw 2 = .ok (.getfield 31, 3) := by decide +kernel
theorem dX0_draw_5 : decode cX0_draw 5 = .ok (.ldc2_w 108, 3) := by decide +kernel
theorem dX0_draw_8 : decode cX0_draw 8 = .ok (.lmul, 1) := by decide +kernel
theorem dX0_draw_9 : decode cX0_draw 9 = .ok (.ldc2_w 110, 3) := by decide +kernel
theorem dX0_draw_12 : decode cX0_draw 12 = .ok (.ladd, 1) := by decide +kernel
theorem dX0_draw_13 : decode cX0_draw 13 = .ok (.ldc2_w 112, 3) := by decide +kernel
theorem dX0_draw_16 : decode cX0_draw 16 = .ok (.lrem, 1) := by decide +kernel
theorem dX0_draw_17 : decode cX0_draw 17 = .ok (.putfield 31, 3) := by decide +kernel
theorem dX0_draw_20 : decode cX0_draw 20 = .ok (.iload_n 1, 1) := by decide +kernel
theorem dX0_draw_21 : decode cX0_draw 21 = .ok (.iconst 1, 1) := by decide +kernel
theorem dX0_draw_22 : decode cX0_draw 22 = .ok (.if_icmp .ge 7, 3) := by decide +kernel
theorem dX0_draw_25 : decode cX0_draw 25 = .ok (.iconst 0, 1) := by decide +kernel
theorem dX0_draw_26 : decode cX0_draw 26 = .ok (.goto 15, 3) := by decide +kernel
theorem dX0_draw_29 : decode cX0_draw 29 = .ok (.aload_n 0, 1) := by decide +kernel
theorem dX0_draw_30 : decode cX0_draw 30 = .ok (.getfield 31, 3) := by decide +kernel
theorem dX0_draw_33 : decode cX0_draw 33 = .ok (.ldc2_w 114, 3) := by decide +kernel
theorem dX0_draw_36 : decode cX0_draw 36 = .ok (.ldiv, 1) := by decide +kernel
theorem dX0_draw_37 : decode cX0_draw 37 = .ok (.iload_n 1, 1) := by decide +kernel
theorem dX0_draw_38 : decode cX0_draw 38 = .ok (.i2l, 1) := by decide +kernel
theorem dX0_draw_39 : decode cX0_draw 39 = .ok (.lrem, 1) := by decide +kernel
theorem dX0_draw_40 : decode cX0_draw 40 = .ok (.l2i, 1) := by decide +kernel
theorem dX0_draw_41 : decode cX0_draw 41 = .ok (.ireturn, 1) := by decide +kernel
theorem dX0_whoComes_0 : decode cX0_whoComes 0 = .ok (.aload_n 0, 1) := by decide +kernel
theorem dX0_whoComes_1 : decode cX0_whoComes 1 = .ok (.getfield 35, 3) := by decide +kernel
theorem dX0_whoComes_4 : decode cX0_whoComes 4 = .ok (.getfield 49, 3) := by decide +kernel
theorem dX0_whoComes_7 : decode cX0_whoComes 7 = .ok (.astore_n 2, 1) := by decide +kernel
theorem dX0_whoComes_8 : decode cX0_whoComes 8 = .ok (.aload_n 2, 1) := by decide +kernel
theorem dX0_whoComes_9 : decode cX0_whoComes 9 = .ok (.getfield 116, 3) := by decide +kernel
theorem dX0_whoComes_12 : decode cX0_whoComes 12 = .ok (.iload_n 1, 1) := by decide +kernel
theorem dX0_whoComes_13 : decode cX0_whoComes 13 = .ok (.iaload, 1) := by decide +kernel
theorem dX0_whoComes_14 : decode cX0_whoComes 14 = .ok (.bipush (-2), 2) := by decide +kernel
theorem dX0_whoComes_16 : decode cX0_whoComes 16 = .ok (.if_icmp .eq 10, 3) := by decide +kernel
theorem dX0_whoComes_19 : decode cX0_whoComes 19 = .ok (.aload_n 2, 1) := by decide +kernel
theorem dX0_whoComes_20 : decode cX0_whoComes 20 = .ok (.getfield 116, 3) := by decide +kernel
theorem dX0_whoComes_23 : decode cX0_whoComes 23 = .ok (.iload_n 1, 1) := by decide +kernel
theorem dX0_whoComes_24 : decode cX0_whoComes 24 = .ok (.iaload, 1) := by decide +kernel
theorem dX0_whoComes_25 : decode cX0_whoComes 25 = .ok (.ireturn, 1) := by decide +kernel
theorem dX0_whoComes_26 : decode cX0_whoComes 26 = .ok (.aload_n 0, 1) := by decide +kernel
theorem dX0_whoComes_27 : decode cX0_whoComes 27 = .ok (.bipush 6, 2) := by decide +kernel
theorem dX0_whoComes_29 : decode cX0_whoComes 29 = .ok (.invokevirtual 119, 3) := by decide +kernel
theorem dX0_whoComes_32 : decode cX0_whoComes 32 = .ok (.istore_n 3, 1) := by decide +kernel
theorem dX0_whoComes_33 : decode cX0_whoComes 33 = .ok (.iconst 0, 1) := by decide +kernel
theorem dX0_whoComes_34 : decode cX0_whoComes 34 = .ok (.istore 4, 2) := by decide +kernel
theorem dX0_whoComes_36 : decode cX0_whoComes 36 = .ok (.iload 4, 2) := by decide +kernel
theorem dX0_whoComes_38 : decode cX0_whoComes 38 = .ok (.aload_n 2, 1) := by decide +kernel
theorem dX0_whoComes_39 : decode cX0_whoComes 39 = .ok (.getfield 122, 3) := by decide +kernel
theorem dX0_whoComes_42 : decode cX0_whoComes 42 = .ok (.if_icmp .ge 26, 3) := by decide +kernel
theorem dX0_whoComes_45 : decode cX0_whoComes 45 = .ok (.iload_n 3, 1) := by decide +kernel
theorem dX0_whoComes_46 : decode cX0_whoComes 46 = .ok (.aload_n 2, 1) := by decide +kernel
theorem dX0_whoComes_47 : decode cX0_whoComes 47 = .ok (.getfield 125, 3) := by decide +kernel
theorem dX0_whoComes_50 : decode cX0_whoComes 50 = .ok (.iload 4, 2) := by decide +kernel
theorem dX0_whoComes_52 : decode cX0_whoComes 52 = .ok (.iaload, 1) := by decide +kernel
theorem dX0_whoComes_53 : decode cX0_whoComes 53 = .ok (.isub, 1) := by decide +kernel
theorem dX0_whoComes_54 : decode cX0_whoComes 54 = .ok (.istore_n 3, 1) := by decide +kernel
theorem dX0_whoComes_55 : decode cX0_whoComes 55 = .ok (.iload_n 3, 1) := by decide +kernel
theorem dX0_whoComes_56 : decode cX0_whoComes 56 = .ok (.ifCond .ge 6, 3) := by decide +kernel
theorem dX0_whoComes_59 : decode cX0_whoComes 59 = .ok (.iload 4, 2) := by decide +kernel
theorem dX0_whoComes_61 : decode cX0_whoComes 61 = .ok (.ireturn, 1) := by decide +kernel
theorem dX0_whoComes_62 : decode cX0_whoComes 62 = .ok (.iinc 4 1, 3) := by decide +kernel
theorem dX0_whoComes_65 : decode cX0_whoComes 65 = .ok (.goto (-29), 3) := by decide +kernel
theorem dX0_whoComes_68 : decode cX0_whoComes 68 = .ok (.iconst (-1), 1) := by decide +kernel
theorem dX0_whoComes_69 : decode cX0_whoComes 69 = .ok (.ireturn, 1) := by decide +kernel
theorem dX0_whoIsAsked_0 : decode cX0_whoIsAsked 0 = .ok (.aload_n 0, 1) := by decide +kernel
theorem dX0_whoIsAsked_1 : decode cX0_whoIsAsked 1 = .ok (.getfield 35, 3) := by decide +kernel
theorem dX0_whoIsAsked_4 : decode cX0_whoIsAsked 4 = .ok (.getfield 49, 3) := by decide +kernel
theorem dX0_whoIsAsked_7 : decode cX0_whoIsAsked 7 = .ok (.getfield 86, 3) := by decide +kernel
theorem dX0_whoIsAsked_10 : decode cX0_whoIsAsked 10 = .ok (.istore_n 3, 1) := by decide +kernel
theorem dX0_whoIsAsked_11 : decode cX0_whoIsAsked 11 = .ok (.iload_n 2, 1) := by decide +kernel
theorem dX0_whoIsAsked_12 : decode cX0_whoIsAsked 12 = .ok (.tableswitch 70 0 4 #[36, 36, 42, 52, 64], 36) := by decide +kernel
theorem dX0_whoIsAsked_48 : decode cX0_whoIsAsked 48 = .ok (.aload_n 0, 1) := by decide +kernel
theorem dX0_whoIsAsked_49 : decode cX0_whoIsAsked 49 = .ok (.iload_n 1, 1) := by decide +kernel
theorem dX0_whoIsAsked_50 : decode cX0_whoIsAsked 50 = .ok (.invokevirtual 128, 3) := by decide +kernel
theorem dX0_whoIsAsked_53 : decode cX0_whoIsAsked 53 = .ok (.ireturn, 1) := by decide +kernel
theorem dX0_whoIsAsked_54 : decode cX0_whoIsAsked 54 = .ok (.aload_n 0, 1) := by decide +kernel
theorem dX0_whoIsAsked_55 : decode cX0_whoIsAsked 55 = .ok (.iload_n 1, 1) := by decide +kernel
theorem dX0_whoIsAsked_56 : decode cX0_whoIsAsked 56 = .ok (.iload_n 3, 1) := by decide +kernel
theorem dX0_whoIsAsked_57 : decode cX0_whoIsAsked 57 = .ok (.isub, 1) := by decide +kernel
theorem dX0_whoIsAsked_58 : decode cX0_whoIsAsked 58 = .ok (.iconst 1, 1) := by decide +kernel
theorem dX0_whoIsAsked_59 : decode cX0_whoIsAsked 59 = .ok (.iadd, 1) := by decide +kernel
theorem dX0_whoIsAsked_60 : decode cX0_whoIsAsked 60 = .ok (.invokevirtual 128, 3) := by decide +kernel
theorem dX0_whoIsAsked_63 : decode cX0_whoIsAsked 63 = .ok (.ireturn, 1) := by decide +kernel
theorem dX0_whoIsAsked_64 : decode cX0_whoIsAsked 64 = .ok (.aload_n 0, 1) := by decide +kernel
theorem dX0_whoIsAsked_65 : decode cX0_whoIsAsked 65 = .ok (.iload_n 1, 1) := by decide +kernel
theorem dX0_whoIsAsked_66 : decode cX0_whoIsAsked 66 = .ok (.aload_n 0, 1) := by decide +kernel
theorem dX0_whoIsAsked_67 : decode cX0_whoIsAsked 67 = .ok (.iload_n 3, 1) := by decide +kernel
theorem dX0_whoIsAsked_68 : decode cX0_whoIsAsked 68 = .ok (.invokevirtual 119, 3) := by decide +kernel
theorem dX0_whoIsAsked_71 : decode cX0_whoIsAsked 71 = .ok (.isub, 1) := by decide +kernel
theorem dX0_whoIsAsked_72 : decode cX0_whoIsAsked 72 = .ok (.invokevirtual 128, 3) := by decide +kernel
theorem dX0_whoIsAsked_75 : decode cX0_whoIsAsked 75 = .ok (.ireturn, 1) := by decide +kernel
theorem dX0_whoIsAsked_76 : decode cX0_whoIsAsked 76 = .ok (.aload_n 0, 1) := by decide +kernel
theorem dX0_whoIsAsked_77 : decode cX0_whoIsAsked 77 = .ok (.iload_n 1, 1) := by decide +kernel
theorem dX0_whoIsAsked_78 : decode cX0_whoIsAsked 78 = .ok (.invokevirtual 131, 3) := by decide +kernel
theorem dX0_whoIsAsked_81 : decode cX0_whoIsAsked 81 = .ok (.ireturn, 1) := by decide +kernel
theorem dX0_whoIsAsked_82 : decode cX0_whoIsAsked 82 = .ok (.iconst (-1), 1) := by decide +kernel
theorem dX0_whoIsAsked_83 : decode cX0_whoIsAsked 83 = .ok (.ireturn, 1) := by decide +kernel
theorem dX0_cameIn_0 : decode cX0_cameIn 0 = .ok (.iload_n 1, 1) := by decide +kernel
theorem dX0_cameIn_1 : decode cX0_cameIn 1 = .ok (.ifCond .lt 17, 3) := by decide +kernel
theorem dX0_cameIn_4 : decode cX0_cameIn 4 = .ok (.aload_n 0, 1) := by decide +kernel
theorem dX0_cameIn_5 : decode cX0_cameIn 5 = .ok (.getfield 9, 3) := by decide +kernel
theorem dX0_cameIn_8 : decode cX0_cameIn 8 = .ok (.iload_n 1, 1) := by decide +kernel
theorem dX0_cameIn_9 : decode cX0_cameIn 9 = .ok (.iaload, 1) := by decide +kernel
theorem dX0_cameIn_10 : decode cX0_cameIn 10 = .ok (.iconst (-1), 1) := by decide +kernel
theorem dX0_cameIn_11 : decode cX0_cameIn 11 = .ok (.if_icmp .eq 7, 3) := by decide +kernel
theorem dX0_cameIn_14 : decode cX0_cameIn 14 = .ok (.iload_n 1, 1) := by decide +kernel
theorem dX0_cameIn_15 : decode cX0_cameIn 15 = .ok (.goto 4, 3) := by decide +kernel
theorem dX0_cameIn_18 : decode cX0_cameIn 18 = .ok (.iconst (-1), 1) := by decide +kernel
theorem dX0_cameIn_19 : decode cX0_cameIn 19 = .ok (.ireturn, 1) := by decide +kernel
theorem dX0_lastWhoCame_0 : decode cX0_lastWhoCame 0 = .ok (.iconst 0, 1) := by decide +kernel
theorem dX0_lastWhoCame_1 : decode cX0_lastWhoCame 1 = .ok (.istore_n 2, 1) := by decide +kernel
theorem dX0_lastWhoCame_2 : decode cX0_lastWhoCame 2 = .ok (.iload_n 2, 1) := by decide +kernel
theorem dX0_lastWhoCame_3 : decode cX0_lastWhoCame 3 = .ok (.aload_n 0, 1) := by decide +kernel
theorem dX0_lastWhoCame_4 : decode cX0_lastWhoCame 4 = .ok (.getfield 35, 3) := by decide +kernel
theorem dX0_lastWhoCame_7 : decode cX0_lastWhoCame 7 = .ok (.getfield 49, 3) := by decide +kernel
theorem dX0_lastWhoCame_10 : decode cX0_lastWhoCame 10 = .ok (.getfield 86, 3) := by decide +kernel
theorem dX0_lastWhoCame_13 : decode cX0_lastWhoCame 13 = .ok (.if_icmp .ge 24, 3) := by decide +kernel
theorem dX0_lastWhoCame_16 : decode cX0_lastWhoCame 16 = .ok (.aload_n 0, 1) := by decide +kernel
theorem dX0_lastWhoCame_17 : decode cX0_lastWhoCame 17 = .ok (.iload_n 1, 1) := by decide +kernel
theorem dX0_lastWhoCame_18 : decode cX0_lastWhoCame 18 = .ok (.iload_n 2, 1) := by decide +kernel
theorem dX0_lastWhoCame_19 : decode cX0_lastWhoCame 19 = .ok (.isub, 1) := by decide +kernel
theorem dX0_lastWhoCame_20 : decode cX0_lastWhoCame 20 = .ok (.invokevirtual 128, 3) := by decide +kernel
theorem dX0_lastWhoCame_23 : decode cX0_lastWhoCame 23 = .ok (.iconst (-1), 1) := by decide +kernel
theorem dX0_lastWhoCame_24 : decode cX0_lastWhoCame 24 = .ok (.if_icmp .eq 7, 3) := by decide +kernel
theorem dX0_lastWhoCame_27 : decode cX0_lastWhoCame 27 = .ok (.iload_n 1, 1) := by decide +kernel
theorem dX0_lastWhoCame_28 : decode cX0_lastWhoCame 28 = .ok (.iload_n 2, 1) := by decide +kernel
theorem dX0_lastWhoCame_29 : decode cX0_lastWhoCame 29 = .ok (.isub, 1) := by decide +kernel
theorem dX0_lastWhoCame_30 : decode cX0_lastWhoCame 30 = .ok (.ireturn, 1) := by decide +kernel
theorem dX0_lastWhoCame_31 : decode cX0_lastWhoCame 31 = .ok (.iinc 2 1, 3) := by decide +kernel
theorem dX0_lastWhoCame_34 : decode cX0_lastWhoCame 34 = .ok (.goto (-32), 3) := by decide +kernel
theorem dX0_lastWhoCame_37 : decode cX0_lastWhoCame 37 = .ok (.iconst (-1), 1) := by decide +kernel
theorem dX0_lastWhoCame_38 : decode cX0_lastWhoCame 38 = .ok (.ireturn, 1) := by decide +kernel
theorem dX0_answer_0 : decode cX0_answer 0 = .ok (.aload_n 0, 1) := by decide +kernel
theorem dX0_answer_1 : decode cX0_answer 1 = .ok (.getfield 35, 3) := by decide +kernel
theorem dX0_answer_4 : decode cX0_answer 4 = .ok (.iload_n 1, 1) := by decide +kernel
theorem dX0_answer_5 : decode cX0_answer 5 = .ok (.invokevirtual 134, 3) := by decide +kernel
theorem dX0_answer_8 : decode cX0_answer 8 = .ok (.ifCond .eq 31, 3) := by decide +kernel
theorem dX0_answer_11 : decode cX0_answer 11 = .ok (.aload_n 0, 1) := by decide +kernel
theorem dX0_answer_12 : decode cX0_answer 12 = .ok (.getfield 35, 3) := by decide +kernel
theorem dX0_answer_15 : decode cX0_answer 15 = .ok (.iload_n 1, 1) := by decide +kernel
theorem dX0_answer_16 : decode cX0_answer 16 = .ok (.iload_n 3, 1) := by decide +kernel
theorem dX0_answer_17 : decode cX0_answer 17 = .ok (.aload_n 0, 1) := by decide +kernel
theorem dX0_answer_18 : decode cX0_answer 18 = .ok (.getfield 35, 3) := by decide +kernel
theorem dX0_answer_21 : decode cX0_answer 21 = .ok (.getfield 137, 3) := by decide +kernel
theorem dX0_answer_24 : decode cX0_answer 24 = .ok (.iload_n 1, 1) := by decide +kernel
theorem dX0_answer_25 : decode cX0_answer 25 = .ok (.iaload, 1) := by decide +kernel
theorem dX0_answer_26 : decode cX0_answer 26 = .ok (.aload_n 0, 1) := by decide +kernel
theorem dX0_answer_27 : decode cX0_answer 27 = .ok (.getfield 35, 3) := by decide +kernel
theorem dX0_answer_30 : decode cX0_answer 30 = .ok (.getfield 140, 3) := by decide +kernel
theorem dX0_answer_33 : decode cX0_answer 33 = .ok (.iload_n 1, 1) := by decide +kernel
theorem dX0_answer_34 : decode cX0_answer 34 = .ok (.iaload, 1) := by decide +kernel
theorem dX0_answer_35 : decode cX0_answer 35 = .ok (.invokevirtual 143, 3) := by decide +kernel
theorem dX0_answer_38 : decode cX0_answer 38 = .ok (.ireturn, 1) := by decide +kernel
theorem dX0_answer_39 : decode cX0_answer 39 = .ok (.iload_n 2, 1) := by decide +kernel
theorem dX0_answer_40 : decode cX0_answer 40 = .ok (.ifCond .ne 19, 3) := by decide +kernel
theorem dX0_answer_43 : decode cX0_answer 43 = .ok (.aload_n 0, 1) := by decide +kernel
theorem dX0_answer_44 : decode cX0_answer 44 = .ok (.getfield 39, 3) := by decide +kernel
theorem dX0_answer_47 : decode cX0_answer 47 = .ok (.iload_n 1, 1) := by decide +kernel
theorem dX0_answer_48 : decode cX0_answer 48 = .ok (.aload_n 0, 1) := by decide +kernel
theorem dX0_answer_49 : decode cX0_answer 49 = .ok (.getfield 9, 3) := by decide +kernel
theorem dX0_answer_52 : decode cX0_answer 52 = .ok (.iload_n 1, 1) := by decide +kernel
theorem dX0_answer_53 : decode cX0_answer 53 = .ok (.iaload, 1) := by decide +kernel
theorem dX0_answer_54 : decode cX0_answer 54 = .ok (.iload_n 3, 1) := by decide +kernel
theorem dX0_answer_55 : decode cX0_answer 55 = .ok (.invokevirtual 146, 3) := by decide +kernel
theorem dX0_answer_58 : decode cX0_answer 58 = .ok (.ireturn, 1) := by decide +kernel
theorem dX0_answer_59 : decode cX0_answer 59 = .ok (.iload_n 2, 1) := by decide +kernel
theorem dX0_answer_60 : decode cX0_answer 60 = .ok (.iconst 4, 1) := by decide +kernel
theorem dX0_answer_61 : decode cX0_answer 61 = .ok (.if_icmp .ne 10, 3) := by decide +kernel
theorem dX0_answer_64 : decode cX0_answer 64 = .ok (.aload_n 0, 1) := by decide +kernel
theorem dX0_answer_65 : decode cX0_answer 65 = .ok (.iload_n 1, 1) := by decide +kernel
theorem dX0_answer_66 : decode cX0_answer 66 = .ok (.iload_n 3, 1) := by decide +kernel
theorem dX0_answer_67 : decode cX0_answer 67 = .ok (.invokevirtual 149, 3) := by decide +kernel
theorem dX0_answer_70 : decode cX0_answer 70 = .ok (.ireturn, 1) := by decide +kernel
theorem dX0_answer_71 : decode cX0_answer 71 = .ok (.aload_n 0, 1) := by decide +kernel
theorem dX0_answer_72 : decode cX0_answer 72 = .ok (.getfield 15, 3) := by decide +kernel
theorem dX0_answer_75 : decode cX0_answer 75 = .ok (.iload_n 1, 1) := by decide +kernel
theorem dX0_answer_76 : decode cX0_answer 76 = .ok (.iaload, 1) := by decide +kernel
theorem dX0_answer_77 : decode cX0_answer 77 = .ok (.istore 4, 2) := by decide +kernel
theorem dX0_answer_79 : decode cX0_answer 79 = .ok (.aload_n 0, 1) := by decide +kernel
theorem dX0_answer_80 : decode cX0_answer 80 = .ok (.getfield 39, 3) := by decide +kernel
theorem dX0_answer_83 : decode cX0_answer 83 = .ok (.iload_n 1, 1) := by decide +kernel
theorem dX0_answer_84 : decode cX0_answer 84 = .ok (.aload_n 0, 1) := by decide +kernel
theorem dX0_answer_85 : decode cX0_answer 85 = .ok (.getfield 9, 3) := by decide +kernel
theorem dX0_answer_88 : decode cX0_answer 88 = .ok (.iload 4, 2) := by decide +kernel
theorem dX0_answer_90 : decode cX0_answer 90 = .ok (.iaload, 1) := by decide +kernel
theorem dX0_answer_91 : decode cX0_answer 91 = .ok (.iload_n 1, 1) := by decide +kernel
theorem dX0_answer_92 : decode cX0_answer 92 = .ok (.iload 4, 2) := by decide +kernel
theorem dX0_answer_94 : decode cX0_answer 94 = .ok (.isub, 1) := by decide +kernel
theorem dX0_answer_95 : decode cX0_answer 95 = .ok (.iload_n 3, 1) := by decide +kernel
theorem dX0_answer_96 : decode cX0_answer 96 = .ok (.invokevirtual 152, 3) := by decide +kernel
theorem dX0_answer_99 : decode cX0_answer 99 = .ok (.ireturn, 1) := by decide +kernel
theorem dX0_answerOfAll_0 : decode cX0_answerOfAll 0 = .ok (.aload_n 0, 1) := by decide +kernel
theorem dX0_answerOfAll_1 : decode cX0_answerOfAll 1 = .ok (.getfield 39, 3) := by decide +kernel
theorem dX0_answerOfAll_4 : decode cX0_answerOfAll 4 = .ok (.iload_n 1, 1) := by decide +kernel
theorem dX0_answerOfAll_5 : decode cX0_answerOfAll 5 = .ok (.iload_n 2, 1) := by decide +kernel
theorem dX0_answerOfAll_6 : decode cX0_answerOfAll 6 = .ok (.invokevirtual 155, 3) := by decide +kernel
theorem dX0_answerOfAll_9 : decode cX0_answerOfAll 9 = .ok (.iconst 0, 1) := by decide +kernel
theorem dX0_answerOfAll_10 : decode cX0_answerOfAll 10 = .ok (.istore_n 3, 1) := by decide +kernel
theorem dX0_answerOfAll_11 : decode cX0_answerOfAll 11 = .ok (.iload_n 3, 1) := by decide +kernel
theorem dX0_answerOfAll_12 : decode cX0_answerOfAll 12 = .ok (.aload_n 0, 1) := by decide +kernel
theorem dX0_answerOfAll_13 : decode cX0_answerOfAll 13 = .ok (.getfield 35, 3) := by decide +kernel
theorem dX0_answerOfAll_16 : decode cX0_answerOfAll 16 = .ok (.getfield 49, 3) := by decide +kernel
theorem dX0_answerOfAll_19 : decode cX0_answerOfAll 19 = .ok (.getfield 86, 3) := by decide +kernel
theorem dX0_answerOfAll_22 : decode cX0_answerOfAll 22 = .ok (.if_icmp .ge 37, 3) := by decide +kernel
theorem dX0_answerOfAll_25 : decode cX0_answerOfAll 25 = .ok (.aload_n 0, 1) := by decide +kernel
theorem dX0_answerOfAll_26 : decode cX0_answerOfAll 26 = .ok (.iload_n 1, 1) := by decide +kernel
theorem dX0_answerOfAll_27 : decode cX0_answerOfAll 27 = .ok (.iload_n 3, 1) := by decide +kernel
theorem dX0_answerOfAll_28 : decode cX0_answerOfAll 28 = .ok (.isub, 1) := by decide +kernel
theorem dX0_answerOfAll_29 : decode cX0_answerOfAll 29 = .ok (.invokevirtual 128, 3) := by decide +kernel
theorem dX0_answerOfAll_32 : decode cX0_answerOfAll 32 = .ok (.iconst (-1), 1) := by decide +kernel
theorem dX0_answerOfAll_33 : decode cX0_answerOfAll 33 = .ok (.if_icmp .eq 20, 3) := by decide +kernel
theorem dX0_answerOfAll_36 : decode cX0_answerOfAll 36 = .ok (.aload_n 0, 1) := by decide +kernel
theorem dX0_answerOfAll_37 : decode cX0_answerOfAll 37 = .ok (.getfield 39, 3) := by decide +kernel
theorem dX0_answerOfAll_40 : decode cX0_answerOfAll 40 = .ok (.iload_n 1, 1) := by decide +kernel
theorem dX0_answerOfAll_41 : decode cX0_answerOfAll 41 = .ok (.aload_n 0, 1) := by decide +kernel
theorem dX0_answerOfAll_42 : decode cX0_answerOfAll 42 = .ok (.getfield 9, 3) := by decide +kernel
theorem dX0_answerOfAll_45 : decode cX0_answerOfAll 45 = .ok (.iload_n 1, 1) := by decide +kernel
theorem dX0_answerOfAll_46 : decode cX0_answerOfAll 46 = .ok (.iload_n 3, 1) := by decide +kernel
theorem dX0_answerOfAll_47 : decode cX0_answerOfAll 47 = .ok (.isub, 1) := by decide +kernel
theorem dX0_answerOfAll_48 : decode cX0_answerOfAll 48 = .ok (.iaload, 1) := by decide +kernel
theorem dX0_answerOfAll_49 : decode cX0_answerOfAll 49 = .ok (.iload_n 3, 1) := by decide +kernel
theorem dX0_answerOfAll_50 : decode cX0_answerOfAll 50 = .ok (.invokevirtual 159, 3) := by decide +kernel
theorem dX0_answerOfAll_53 : decode cX0_answerOfAll 53 = .ok (.iinc 3 1, 3) := by decide +kernel
theorem dX0_answerOfAll_56 : decode cX0_answerOfAll 56 = .ok (.goto (-45), 3) := by decide +kernel
theorem dX0_answerOfAll_59 : decode cX0_answerOfAll 59 = .ok (.aload_n 0, 1) := by decide +kernel
theorem dX0_answerOfAll_60 : decode cX0_answerOfAll 60 = .ok (.getfield 39, 3) := by decide +kernel
theorem dX0_answerOfAll_63 : decode cX0_answerOfAll 63 = .ok (.invokevirtual 162, 3) := by decide +kernel
theorem dX0_answerOfAll_66 : decode cX0_answerOfAll 66 = .ok (.ireturn, 1) := by decide +kernel
theorem dX0_pay_0 : decode cX0_pay 0 = .ok (.aload_n 0, 1) := by decide +kernel
theorem dX0_pay_1 : decode cX0_pay 1 = .ok (.dup, 1) := by decide +kernel
theorem dX0_pay_2 : decode cX0_pay 2 = .ok (.getfield 27, 3) := by decide +kernel
theorem dX0_pay_5 : decode cX0_pay 5 = .ok (.iload_n 3, 1) := by decide +kernel
theorem dX0_pay_6 : decode cX0_pay 6 = .ok (.iadd, 1) := by decide +kernel
theorem dX0_pay_7 : decode cX0_pay 7 = .ok (.putfield 27, 3) := by decide +kernel
theorem dX0_pay_10 : decode cX0_pay 10 = .ok (.iload_n 1, 1) := by decide +kernel
theorem dX0_pay_11 : decode cX0_pay 11 = .ok (.iconst (-1), 1) := by decide +kernel
theorem dX0_pay_12 : decode cX0_pay 12 = .ok (.if_icmp .eq 18, 3) := by decide +kernel
theorem dX0_pay_15 : decode cX0_pay 15 = .ok (.iload_n 2, 1) := by decide +kernel
theorem dX0_pay_16 : decode cX0_pay 16 = .ok (.iconst 4, 1) := by decide +kernel
theorem dX0_pay_17 : decode cX0_pay 17 = .ok (.if_icmp .eq 13, 3) := by decide +kernel
theorem dX0_pay_20 : decode cX0_pay 20 = .ok (.aload_n 0, 1) := by decide +kernel
theorem dX0_pay_21 : decode cX0_pay 21 = .ok (.getfield 24, 3) := by decide +kernel
theorem dX0_pay_24 : decode cX0_pay 24 = .ok (.iload_n 1, 1) := by decide +kernel
theorem dX0_pay_25 : decode cX0_pay 25 = .ok (.dup2, 1) := by decide +kernel
theorem dX0_pay_26 : decode cX0_pay 26 = .ok (.iaload, 1) := by decide +kernel
theorem dX0_pay_27 : decode cX0_pay 27 = .ok (.iload_n 3, 1) := by decide +kernel
theorem dX0_pay_28 : decode cX0_pay 28 = .ok (.iadd, 1) := by decide +kernel
theorem dX0_pay_29 : decode cX0_pay 29 = .ok (.iastore, 1) := by decide +kernel
theorem dX0_pay_30 : decode cX0_pay 30 = .ok (.return_, 1) := by decide +kernel
theorem dX1_init_0 : decode cX1_init 0 = .ok (.aload_n 0, 1) := by decide +kernel
theorem dX1_init_1 : decode cX1_init 1 = .ok (.invokespecial 1, 3) := by decide +kernel
theorem dX1_init_4 : decode cX1_init 4 = .ok (.aload_n 0, 1) := by decide +kernel
theorem dX1_init_5 : decode cX1_init 5 = .ok (.aload_n 1, 1) := by decide +kernel
theorem dX1_init_6 : decode cX1_init 6 = .ok (.putfield 7, 3) := by decide +kernel
theorem dX1_init_9 : decode cX1_init 9 = .ok (.return_, 1) := by decide +kernel
theorem dX1_reckon_0 : decode cX1_reckon 0 = .ok (.iconst 0, 1) := by decide +kernel
theorem dX1_reckon_1 : decode cX1_reckon 1 = .ok (.istore 5, 2) := by decide +kernel
theorem dX1_reckon_3 : decode cX1_reckon 3 = .ok (.iconst 0, 1) := by decide +kernel
theorem dX1_reckon_4 : decode cX1_reckon 4 = .ok (.istore 6, 2) := by decide +kernel
theorem dX1_reckon_6 : decode cX1_reckon 6 = .ok (.iload 6, 2) := by decide +kernel
theorem dX1_reckon_8 : decode cX1_reckon 8 = .ok (.aload_n 0, 1) := by decide +kernel
theorem dX1_reckon_9 : decode cX1_reckon 9 = .ok (.getfield 7, 3) := by decide +kernel
theorem dX1_reckon_12 : decode cX1_reckon 12 = .ok (.arraylength, 1) := by decide +kernel
theorem dX1_reckon_13 : decode cX1_reckon 13 = .ok (.if_icmp .ge 140, 3) := by decide +kernel
theorem dX1_reckon_16 : decode cX1_reckon 16 = .ok (.aload_n 0, 1) := by decide +kernel
theorem dX1_reckon_17 : decode cX1_reckon 17 = .ok (.getfield 7, 3) := by decide +kernel
theorem dX1_reckon_20 : decode cX1_reckon 20 = .ok (.iload 6, 2) := by decide +kernel
theorem dX1_reckon_22 : decode cX1_reckon 22 = .ok (.iaload, 1) := by decide +kernel
theorem dX1_reckon_23 : decode cX1_reckon 23 = .ok (.bipush 16, 2) := by decide +kernel
theorem dX1_reckon_25 : decode cX1_reckon 25 = .ok (.irem, 1) := by decide +kernel
theorem dX1_reckon_26 : decode cX1_reckon 26 = .ok (.istore 7, 2) := by decide +kernel
theorem dX1_reckon_28 : decode cX1_reckon 28 = .ok (.iload 7, 2) := by decide +kernel
theorem dX1_reckon_30 : decode cX1_reckon 30 = .ok (.iconst 4, 1) := by decide +kernel
theorem dX1_reckon_31 : decode cX1_reckon 31 = .ok (.if_icmp .ne 34, 3) := by decide +kernel
theorem dX1_reckon_34 : decode cX1_reckon 34 = .ok (.iload 5, 2) := by decide +kernel
theorem dX1_reckon_36 : decode cX1_reckon 36 = .ok (.iconst 1, 1) := by decide +kernel
theorem dX1_reckon_37 : decode cX1_reckon 37 = .ok (.if_icmp .lt 28, 3) := by decide +kernel
theorem dX1_reckon_40 : decode cX1_reckon 40 = .ok (.aload 4, 2) := by decide +kernel
theorem dX1_reckon_42 : decode cX1_reckon 42 = .ok (.iload 5, 2) := by decide +kernel
theorem dX1_reckon_44 : decode cX1_reckon 44 = .ok (.iconst 1, 1) := by decide +kernel
theorem dX1_reckon_45 : decode cX1_reckon 45 = .ok (.isub, 1) := by decide +kernel
theorem dX1_reckon_46 : decode cX1_reckon 46 = .ok (.aload 4, 2) := by decide +kernel
theorem dX1_reckon_48 : decode cX1_reckon 48 = .ok (.iload 5, 2) := by decide +kernel
theorem dX1_reckon_50 : decode cX1_reckon 50 = .ok (.iconst 1, 1) := by decide +kernel
theorem dX1_reckon_51 : decode cX1_reckon 51 = .ok (.isub, 1) := by decide +kernel
theorem dX1_reckon_52 : decode cX1_reckon 52 = .ok (.iaload, 1) := by decide +kernel
theorem dX1_reckon_53 : decode cX1_reckon 53 = .ok (.ifCond .ne 7, 3) := by decide +kernel
theorem dX1_reckon_56 : decode cX1_reckon 56 = .ok (.iconst 1, 1) := by decide +kernel
theorem dX1_reckon_57 : decode cX1_reckon 57 = .ok (.goto 4, 3) := by decide +kernel
theorem dX1_reckon_60 : decode cX1_reckon 60 = .ok (.iconst 0, 1) := by decide +kernel
theorem dX1_reckon_61 : decode cX1_reckon 61 = .ok (.iastore, 1) := by decide +kernel
theorem dX1_reckon_62 : decode cX1_reckon 62 = .ok (.goto 85, 3) := by decide +kernel
theorem dX1_reckon_65 : decode cX1_reckon 65 = .ok (.iload 7, 2) := by decide +kernel
theorem dX1_reckon_67 : decode cX1_reckon 67 = .ok (.iconst 4, 1) := by decide +kernel
theorem dX1_reckon_68 : decode cX1_reckon 68 = .ok (.if_icmp .le 39, 3) := by decide +kernel
theorem dX1_reckon_71 : decode cX1_reckon 71 = .ok (.iload 5, 2) := by decide +kernel
theorem dX1_reckon_73 : decode cX1_reckon 73 = .ok (.iconst 2, 1) := by decide +kernel
theorem dX1_reckon_74 : decode cX1_reckon 74 = .ok (.if_icmp .lt 33, 3) := by decide +kernel
theorem dX1_reckon_77 : decode cX1_reckon 77 = .ok (.iinc 5 (-1), 3) := by decide +kernel
theorem dX1_reckon_80 : decode cX1_reckon 80 = .ok (.aload 4, 2) := by decide +kernel
theorem dX1_reckon_82 : decode cX1_reckon 82 = .ok (.iload 5, 2) := by decide +kernel
theorem dX1_reckon_84 : decode cX1_reckon 84 = .ok (.iconst 1, 1) := by decide +kernel
theorem dX1_reckon_85 : decode cX1_reckon 85 = .ok (.isub, 1) := by decide +kernel
theorem dX1_reckon_86 : decode cX1_reckon 86 = .ok (.iload 7, 2) := by decide +kernel
theorem dX1_reckon_88 : decode cX1_reckon 88 = .ok (.aload 4, 2) := by decide +kernel
theorem dX1_reckon_90 : decode cX1_reckon 90 = .ok (.iload 5, 2) := by decide +kernel
theorem dX1_reckon_92 : decode cX1_reckon 92 = .ok (.iconst 1, 1) := by decide +kernel
theorem dX1_reckon_93 : decode cX1_reckon 93 = .ok (.isub, 1) := by decide +kernel
theorem dX1_reckon_94 : decode cX1_reckon 94 = .ok (.iaload, 1) := by decide +kernel
theorem dX1_reckon_95 : decode cX1_reckon 95 = .ok (.aload 4, 2) := by decide +kernel
theorem dX1_reckon_97 : decode cX1_reckon 97 = .ok (.iload 5, 2) := by decide +kernel
theorem dX1_reckon_99 : decode cX1_reckon 99 = .ok (.iaload, 1) := by decide +kernel
theorem dX1_reckon_100 : decode cX1_reckon 100 = .ok (.invokestatic 13, 3) := by decide +kernel
theorem dX1_reckon_103 : decode cX1_reckon 103 = .ok (.iastore, 1) := by decide +kernel
theorem dX1_reckon_104 : decode cX1_reckon 104 = .ok (.goto 43, 3) := by decide +kernel
theorem dX1_reckon_107 : decode cX1_reckon 107 = .ok (.iload 7, 2) := by decide +kernel
theorem dX1_reckon_109 : decode cX1_reckon 109 = .ok (.iconst 4, 1) := by decide +kernel
theorem dX1_reckon_110 : decode cX1_reckon 110 = .ok (.if_icmp .ge 37, 3) := by decide +kernel
theorem dX1_reckon_113 : decode cX1_reckon 113 = .ok (.iload 5, 2) := by decide +kernel
theorem dX1_reckon_115 : decode cX1_reckon 115 = .ok (.aload 4, 2) := by decide +kernel
theorem dX1_reckon_117 : decode cX1_reckon 117 = .ok (.arraylength, 1) := by decide +kernel
theorem dX1_reckon_118 : decode cX1_reckon 118 = .ok (.if_icmp .ge 29, 3) := by decide +kernel
theorem dX1_reckon_121 : decode cX1_reckon 121 = .ok (.aload 4, 2) := by decide +kernel
theorem dX1_reckon_123 : decode cX1_reckon 123 = .ok (.iload 5, 2) := by decide +kernel
theorem dX1_reckon_125 : decode cX1_reckon 125 = .ok (.iload 7, 2) := by decide +kernel
theorem dX1_reckon_127 : decode cX1_reckon 127 = .ok (.aload_n 0, 1) := by decide +kernel
theorem dX1_reckon_128 : decode cX1_reckon 128 = .ok (.getfield 7, 3) := by decide +kernel
theorem dX1_reckon_131 : decode cX1_reckon 131 = .ok (.iload 6, 2) := by decide +kernel
theorem dX1_reckon_133 : decode cX1_reckon 133 = .ok (.iaload, 1) := by decide +kernel
theorem dX1_reckon_134 : decode cX1_reckon 134 = .ok (.bipush 16, 2) := by decide +kernel
theorem dX1_reckon_136 : decode cX1_reckon 136 = .ok (.idiv, 1) := by decide +kernel
theorem dX1_reckon_137 : decode cX1_reckon 137 = .ok (.iload_n 1, 1) := by decide +kernel
theorem dX1_reckon_138 : decode cX1_reckon 138 = .ok (.iload_n 2, 1) := by decide +kernel
theorem dX1_reckon_139 : decode cX1_reckon 139 = .ok (.iload_n 3, 1) := by decide +kernel
theorem dX1_reckon_140 : decode cX1_reckon 140 = .ok (.invokestatic 17, 3) := by decide +kernel
theorem dX1_reckon_143 : decode cX1_reckon 143 = .ok (.iastore, 1) := by decide +kernel
theorem dX1_reckon_144 : decode cX1_reckon 144 = .ok (.iinc 5 1, 3) := by decide +kernel
theorem dX1_reckon_147 : decode cX1_reckon 147 = .ok (.iinc 6 1, 3) := by decide +kernel
theorem dX1_reckon_150 : decode cX1_reckon 150 = .ok (.goto (-144), 3) := by decide +kernel
theorem dX1_reckon_153 : decode cX1_reckon 153 = .ok (.iload 5, 2) := by decide +kernel
theorem dX1_reckon_155 : decode cX1_reckon 155 = .ok (.iconst 1, 1) := by decide +kernel
theorem dX1_reckon_156 : decode cX1_reckon 156 = .ok (.if_icmp .lt 10, 3) := by decide +kernel
theorem dX1_reckon_159 : decode cX1_reckon 159 = .ok (.aload 4, 2) := by decide +kernel
theorem dX1_reckon_161 : decode cX1_reckon 161 = .ok (.iconst 0, 1) := by decide +kernel
theorem dX1_reckon_162 : decode cX1_reckon 162 = .ok (.iaload, 1) := by decide +kernel
theorem dX1_reckon_163 : decode cX1_reckon 163 = .ok (.goto 4, 3) := by decide +kernel
theorem dX1_reckon_166 : decode cX1_reckon 166 = .ok (.iconst 0, 1) := by decide +kernel
theorem dX1_reckon_167 : decode cX1_reckon 167 = .ok (.ireturn, 1) := by decide +kernel
theorem dX1_partOf_0 : decode cX1_partOf 0 = .ok (.iload_n 0, 1) := by decide +kernel
theorem dX1_partOf_1 : decode cX1_partOf 1 = .ok (.tableswitch 38 1 3 #[27, 33, 35], 27) := by decide +kernel
theorem dX1_partOf_28 : decode cX1_partOf 28 = .ok (.iload_n 2, 1) := by decide +kernel
theorem dX1_partOf_29 : decode cX1_partOf 29 = .ok (.iload_n 1, 1) := by decide +kernel
theorem dX1_partOf_30 : decode cX1_partOf 30 = .ok (.invokestatic 21, 3) := by decide +kernel
theorem dX1_partOf_33 : decode cX1_partOf 33 = .ok (.ireturn, 1) := by decide +kernel
theorem dX1_partOf_34 : decode cX1_partOf 34 = .ok (.iload_n 3, 1) := by decide +kernel
theorem dX1_partOf_35 : decode cX1_partOf 35 = .ok (.ireturn, 1) := by decide +kernel
theorem dX1_partOf_36 : decode cX1_partOf 36 = .ok (.iload 4, 2) := by decide +kernel
theorem dX1_partOf_38 : decode cX1_partOf 38 = .ok (.ireturn, 1) := by decide +kernel
theorem dX1_partOf_39 : decode cX1_partOf 39 = .ok (.iload_n 1, 1) := by decide +kernel
theorem dX1_partOf_40 : decode cX1_partOf 40 = .ok (.ireturn, 1) := by decide +kernel
theorem dX1_join_0 : decode cX1_join 0 = .ok (.iload_n 0, 1) := by decide +kernel
theorem dX1_join_1 : decode cX1_join 1 = .ok (.tableswitch 97 5 10 #[39, 53, 67, 78, 89, 93], 39) := by decide +kernel
theorem dX1_join_40 : decode cX1_join 40 = .ok (.iload_n 1, 1) := by decide +kernel
theorem dX1_join_41 : decode cX1_join 41 = .ok (.ifCond .eq 11, 3) := by decide +kernel
theorem dX1_join_44 : decode cX1_join 44 = .ok (.iload_n 2, 1) := by decide +kernel
theorem dX1_join_45 : decode cX1_join 45 = .ok (.ifCond .eq 7, 3) := by decide +kernel
theorem dX1_join_48 : decode cX1_join 48 = .ok (.iconst 1, 1) := by decide +kernel
theorem dX1_join_49 : decode cX1_join 49 = .ok (.goto 4, 3) := by decide +kernel
theorem dX1_join_52 : decode cX1_join 52 = .ok (.iconst 0, 1) := by decide +kernel
theorem dX1_join_53 : decode cX1_join 53 = .ok (.ireturn, 1) := by decide +kernel
theorem dX1_join_54 : decode cX1_join 54 = .ok (.iload_n 1, 1) := by decide +kernel
theorem dX1_join_55 : decode cX1_join 55 = .ok (.ifCond .ne 7, 3) := by decide +kernel
theorem dX1_join_58 : decode cX1_join 58 = .ok (.iload_n 2, 1) := by decide +kernel
theorem dX1_join_59 : decode cX1_join 59 = .ok (.ifCond .eq 7, 3) := by decide +kernel
theorem dX1_join_62 : decode cX1_join 62 = .ok (.iconst 1, 1) := by decide +kernel
theorem dX1_join_63 : decode cX1_join 63 = .ok (.goto 4, 3) := by decide +kernel
theorem dX1_join_66 : decode cX1_join 66 = .ok (.iconst 0, 1) := by decide +kernel
theorem dX1_join_67 : decode cX1_join 67 = .ok (.ireturn, 1) := by decide +kernel
theorem dX1_join_68 : decode cX1_join 68 = .ok (.iload_n 1, 1) := by decide +kernel
theorem dX1_join_69 : decode cX1_join 69 = .ok (.iload_n 2, 1) := by decide +kernel
theorem dX1_join_70 : decode cX1_join 70 = .ok (.if_icmp .ge 7, 3) := by decide +kernel
theorem dX1_join_73 : decode cX1_join 73 = .ok (.iconst 1, 1) := by decide +kernel
theorem dX1_join_74 : decode cX1_join 74 = .ok (.goto 4, 3) := by decide +kernel
theorem dX1_join_77 : decode cX1_join 77 = .ok (.iconst 0, 1) := by decide +kernel
theorem dX1_join_78 : decode cX1_join 78 = .ok (.ireturn, 1) := by decide +kernel
theorem dX1_join_79 : decode cX1_join 79 = .ok (.iload_n 1, 1) := by decide +kernel
theorem dX1_join_80 : decode cX1_join 80 = .ok (.iload_n 2, 1) := by decide +kernel
theorem dX1_join_81 : decode cX1_join 81 = .ok (.if_icmp .ne 7, 3) := by decide +kernel
theorem dX1_join_84 : decode cX1_join 84 = .ok (.iconst 1, 1) := by decide +kernel
theorem dX1_join_85 : decode cX1_join 85 = .ok (.goto 4, 3) := by decide +kernel
theorem dX1_join_88 : decode cX1_join 88 = .ok (.iconst 0, 1) := by decide +kernel
theorem dX1_join_89 : decode cX1_join 89 = .ok (.ireturn, 1) := by decide +kernel
theorem dX1_join_90 : decode cX1_join 90 = .ok (.iload_n 1, 1) := by decide +kernel
theorem dX1_join_91 : decode cX1_join 91 = .ok (.iload_n 2, 1) := by decide +kernel
theorem dX1_join_92 : decode cX1_join 92 = .ok (.iadd, 1) := by decide +kernel
theorem dX1_join_93 : decode cX1_join 93 = .ok (.ireturn, 1) := by decide +kernel
theorem dX1_join_94 : decode cX1_join 94 = .ok (.iload_n 1, 1) := by decide +kernel
theorem dX1_join_95 : decode cX1_join 95 = .ok (.iload_n 2, 1) := by decide +kernel
theorem dX1_join_96 : decode cX1_join 96 = .ok (.isub, 1) := by decide +kernel
theorem dX1_join_97 : decode cX1_join 97 = .ok (.ireturn, 1) := by decide +kernel
theorem dX1_join_98 : decode cX1_join 98 = .ok (.iload_n 1, 1) := by decide +kernel
theorem dX1_join_99 : decode cX1_join 99 = .ok (.iload_n 2, 1) := by decide +kernel
theorem dX1_join_100 : decode cX1_join 100 = .ok (.imul, 1) := by decide +kernel
theorem dX1_join_101 : decode cX1_join 101 = .ok (.ireturn, 1) := by decide +kernel
theorem dX2_init_0 : decode cX2_init 0 = .ok (.aload_n 0, 1) := by decide +kernel
theorem dX2_init_1 : decode cX2_init 1 = .ok (.invokespecial 3, 3) := by decide +kernel
theorem dX2_init_4 : decode cX2_init 4 = .ok (.aload_n 0, 1) := by decide +kernel
theorem dX2_init_5 : decode cX2_init 5 = .ok (.bipush 16, 2) := by decide +kernel
theorem dX2_init_7 : decode cX2_init 7 = .ok (.newarray .int, 2) := by decide +kernel
theorem dX2_init_9 : decode cX2_init 9 = .ok (.putfield 9, 3) := by decide +kernel
theorem dX2_init_12 : decode cX2_init 12 = .ok (.aload_n 0, 1) := by decide +kernel
theorem dX2_init_13 : decode cX2_init 13 = .ok (.bipush 16, 2) := by decide +kernel
theorem dX2_init_15 : decode cX2_init 15 = .ok (.newarray .int, 2) := by decide +kernel
theorem dX2_init_17 : decode cX2_init 17 = .ok (.putfield 15, 3) := by decide +kernel
theorem dX2_init_20 : decode cX2_init 20 = .ok (.aload_n 0, 1) := by decide +kernel
theorem dX2_init_21 : decode cX2_init 21 = .ok (.iconst 0, 1) := by decide +kernel
theorem dX2_init_22 : decode cX2_init 22 = .ok (.putfield 18, 3) := by decide +kernel
theorem dX2_init_25 : decode cX2_init 25 = .ok (.aload_n 0, 1) := by decide +kernel
theorem dX2_init_26 : decode cX2_init 26 = .ok (.iconst 0, 1) := by decide +kernel
theorem dX2_init_27 : decode cX2_init 27 = .ok (.putfield 22, 3) := by decide +kernel
theorem dX2_init_30 : decode cX2_init 30 = .ok (.aload_n 0, 1) := by decide +kernel
theorem dX2_init_31 : decode cX2_init 31 = .ok (.aload_n 1, 1) := by decide +kernel
theorem dX2_init_32 : decode cX2_init 32 = .ok (.putfield 25, 3) := by decide +kernel
theorem dX2_init_35 : decode cX2_init 35 = .ok (.aload_n 0, 1) := by decide +kernel
theorem dX2_init_36 : decode cX2_init 36 = .ok (.aload_n 2, 1) := by decide +kernel
theorem dX2_init_37 : decode cX2_init 37 = .ok (.putfield 29, 3) := by decide +kernel
theorem dX2_init_40 : decode cX2_init 40 = .ok (.return_, 1) := by decide +kernel
theorem dX2_hear_0 : decode cX2_hear 0 = .ok (.aload_n 0, 1) := by decide +kernel
theorem dX2_hear_1 : decode cX2_hear 1 = .ok (.iconst 0, 1) := by decide +kernel
theorem dX2_hear_2 : decode cX2_hear 2 = .ok (.putfield 18, 3) := by decide +kernel
theorem dX2_hear_5 : decode cX2_hear 5 = .ok (.aload_n 0, 1) := by decide +kernel
theorem dX2_hear_6 : decode cX2_hear 6 = .ok (.iconst 0, 1) := by decide +kernel
theorem dX2_hear_7 : decode cX2_hear 7 = .ok (.putfield 22, 3) := by decide +kernel
theorem dX2_hear_10 : decode cX2_hear 10 = .ok (.iconst 0, 1) := by decide +kernel
theorem dX2_hear_11 : decode cX2_hear 11 = .ok (.istore_n 1, 1) := by decide +kernel
theorem dX2_hear_12 : decode cX2_hear 12 = .ok (.iload_n 1, 1) := by decide +kernel
theorem dX2_hear_13 : decode cX2_hear 13 = .ok (.aload_n 0, 1) := by decide +kernel
theorem dX2_hear_14 : decode cX2_hear 14 = .ok (.getfield 25, 3) := by decide +kernel
theorem dX2_hear_17 : decode cX2_hear 17 = .ok (.getfield 33, 3) := by decide +kernel
theorem dX2_hear_20 : decode cX2_hear 20 = .ok (.if_icmp .ge 81, 3) := by decide +kernel
theorem dX2_hear_23 : decode cX2_hear 23 = .ok (.aload_n 0, 1) := by decide +kernel
theorem dX2_hear_24 : decode cX2_hear 24 = .ok (.getfield 22, 3) := by decide +kernel
theorem dX2_hear_27 : decode cX2_hear 27 = .ok (.ifCond .ne 74, 3) := by decide +kernel
theorem dX2_hear_30 : decode cX2_hear 30 = .ok (.aload_n 0, 1) := by decide +kernel
theorem dX2_hear_31 : decode cX2_hear 31 = .ok (.invokevirtual 38, 3) := by decide +kernel
theorem dX2_hear_34 : decode cX2_hear 34 = .ok (.istore_n 2, 1) := by decide +kernel
theorem dX2_hear_35 : decode cX2_hear 35 = .ok (.aload_n 0, 1) := by decide +kernel
theorem dX2_hear_36 : decode cX2_hear 36 = .ok (.aload_n 0, 1) := by decide +kernel
theorem dX2_hear_37 : decode cX2_hear 37 = .ok (.iload_n 1, 1) := by decide +kernel
theorem dX2_hear_38 : decode cX2_hear 38 = .ok (.iload_n 2, 1) := by decide +kernel
theorem dX2_hear_39 : decode cX2_hear 39 = .ok (.invokevirtual 42, 3) := by decide +kernel
theorem dX2_hear_42 : decode cX2_hear 42 = .ok (.putfield 22, 3) := by decide +kernel
theorem dX2_hear_45 : decode cX2_hear 45 = .ok (.aload_n 0, 1) := by decide +kernel
theorem dX2_hear_46 : decode cX2_hear 46 = .ok (.getfield 22, 3) := by decide +kernel
theorem dX2_hear_49 : decode cX2_hear 49 = .ok (.ifCond .ne 46, 3) := by decide +kernel
theorem dX2_hear_52 : decode cX2_hear 52 = .ok (.aload_n 0, 1) := by decide +kernel
theorem dX2_hear_53 : decode cX2_hear 53 = .ok (.getfield 9, 3) := by decide +kernel
theorem dX2_hear_56 : decode cX2_hear 56 = .ok (.iload_n 1, 1) := by decide +kernel
theorem dX2_hear_57 : decode cX2_hear 57 = .ok (.aload_n 0, 1) := by decide +kernel
theorem dX2_hear_58 : decode cX2_hear 58 = .ok (.getfield 25, 3) := by decide +kernel
theorem dX2_hear_61 : decode cX2_hear 61 = .ok (.iload_n 1, 1) := by decide +kernel
theorem dX2_hear_62 : decode cX2_hear 62 = .ok (.iload_n 2, 1) := by decide +kernel
theorem dX2_hear_63 : decode cX2_hear 63 = .ok (.aload_n 0, 1) := by decide +kernel
theorem dX2_hear_64 : decode cX2_hear 64 = .ok (.getfield 25, 3) := by decide +kernel
theorem dX2_hear_67 : decode cX2_hear 67 = .ok (.getfield 46, 3) := by decide +kernel
theorem dX2_hear_70 : decode cX2_hear 70 = .ok (.iload_n 1, 1) := by decide +kernel
theorem dX2_hear_71 : decode cX2_hear 71 = .ok (.iaload, 1) := by decide +kernel
theorem dX2_hear_72 : decode cX2_hear 72 = .ok (.aload_n 0, 1) := by decide +kernel
theorem dX2_hear_73 : decode cX2_hear 73 = .ok (.getfield 25, 3) := by decide +kernel
theorem dX2_hear_76 : decode cX2_hear 76 = .ok (.getfield 49, 3) := by decide +kernel
theorem dX2_hear_79 : decode cX2_hear 79 = .ok (.iload_n 1, 1) := by decide +kernel
theorem dX2_hear_80 : decode cX2_hear 80 = .ok (.iaload, 1) := by decide +kernel
theorem dX2_hear_81 : decode cX2_hear 81 = .ok (.invokevirtual 52, 3) := by decide +kernel
theorem dX2_hear_84 : decode cX2_hear 84 = .ok (.iastore, 1) := by decide +kernel
theorem dX2_hear_85 : decode cX2_hear 85 = .ok (.aload_n 0, 1) := by decide +kernel
theorem dX2_hear_86 : decode cX2_hear 86 = .ok (.dup, 1) := by decide +kernel
theorem dX2_hear_87 : decode cX2_hear 87 = .ok (.getfield 18, 3) := by decide +kernel
theorem dX2_hear_90 : decode cX2_hear 90 = .ok (.iconst 1, 1) := by decide +kernel
theorem dX2_hear_91 : decode cX2_hear 91 = .ok (.iadd, 1) := by decide +kernel
theorem dX2_hear_92 : decode cX2_hear 92 = .ok (.putfield 18, 3) := by decide +kernel
theorem dX2_hear_95 : decode cX2_hear 95 = .ok (.iinc 1 1, 3) := by decide +kernel
theorem dX2_hear_98 : decode cX2_hear 98 = .ok (.goto (-86), 3) := by decide +kernel
theorem dX2_hear_101 : decode cX2_hear 101 = .ok (.return_, 1) := by decide +kernel
theorem dX2_standsBehind_0 : decode cX2_standsBehind 0 = .ok (.aload_n 0, 1) := by decide +kernel
theorem dX2_standsBehind_1 : decode cX2_standsBehind 1 = .ok (.getfield 18, 3) := by decide +kernel
theorem dX2_standsBehind_4 : decode cX2_standsBehind 4 = .ok (.ifCond .ne 16, 3) := by decide +kernel
theorem dX2_standsBehind_7 : decode cX2_standsBehind 7 = .ok (.aload_n 0, 1) := by decide +kernel
theorem dX2_standsBehind_8 : decode cX2_standsBehind 8 = .ok (.getfield 25, 3) := by decide +kernel
theorem dX2_standsBehind_11 : decode cX2_standsBehind 11 = .ok (.getfield 56, 3) := by decide +kernel
theorem dX2_standsBehind_14 : decode cX2_standsBehind 14 = .ok (.invokevirtual 60, 3) := by decide +kernel
theorem dX2_standsBehind_17 : decode cX2_standsBehind 17 = .ok (.goto 14, 3) := by decide +kernel
theorem dX2_standsBehind_20 : decode cX2_standsBehind 20 = .ok (.aload_n 0, 1) := by decide +kernel
theorem dX2_standsBehind_21 : decode cX2_standsBehind 21 = .ok (.getfield 9, 3) := by decide +kernel
theorem dX2_standsBehind_24 : decode cX2_standsBehind 24 = .ok (.aload_n 0, 1) := by decide +kernel
theorem dX2_standsBehind_25 : decode cX2_standsBehind 25 = .ok (.getfield 18, 3) := by decide +kernel
theorem dX2_standsBehind_28 : decode cX2_standsBehind 28 = .ok (.iconst 1, 1) := by decide +kernel
theorem dX2_standsBehind_29 : decode cX2_standsBehind 29 = .ok (.isub, 1) := by decide +kernel
theorem dX2_standsBehind_30 : decode cX2_standsBehind 30 = .ok (.iaload, 1) := by decide +kernel
theorem dX2_standsBehind_31 : decode cX2_standsBehind 31 = .ok (.ireturn, 1) := by decide +kernel
theorem dX2_didAsAhead_0 : decode cX2_didAsAhead 0 = .ok (.iconst 0, 1) := by decide +kernel
theorem dX2_didAsAhead_1 : decode cX2_didAsAhead 1 = .ok (.istore_n 1, 1) := by decide +kernel
theorem dX2_didAsAhead_2 : decode cX2_didAsAhead 2 = .ok (.iconst 0, 1) := by decide +kernel
theorem dX2_didAsAhead_3 : decode cX2_didAsAhead 3 = .ok (.istore_n 2, 1) := by decide +kernel
theorem dX2_didAsAhead_4 : decode cX2_didAsAhead 4 = .ok (.iload_n 2, 1) := by decide +kernel
theorem dX2_didAsAhead_5 : decode cX2_didAsAhead 5 = .ok (.aload_n 0, 1) := by decide +kernel
theorem dX2_didAsAhead_6 : decode cX2_didAsAhead 6 = .ok (.getfield 18, 3) := by decide +kernel
theorem dX2_didAsAhead_9 : decode cX2_didAsAhead 9 = .ok (.if_icmp .ge 50, 3) := by decide +kernel
theorem dX2_didAsAhead_12 : decode cX2_didAsAhead 12 = .ok (.aload_n 0, 1) := by decide +kernel
theorem dX2_didAsAhead_13 : decode cX2_didAsAhead 13 = .ok (.getfield 25, 3) := by decide +kernel
theorem dX2_didAsAhead_16 : decode cX2_didAsAhead 16 = .ok (.getfield 65, 3) := by decide +kernel
theorem dX2_didAsAhead_19 : decode cX2_didAsAhead 19 = .ok (.iload_n 2, 1) := by decide +kernel
theorem dX2_didAsAhead_20 : decode cX2_didAsAhead 20 = .ok (.iaload, 1) := by decide +kernel
theorem dX2_didAsAhead_21 : decode cX2_didAsAhead 21 = .ok (.istore_n 3, 1) := by decide +kernel
theorem dX2_didAsAhead_22 : decode cX2_didAsAhead 22 = .ok (.iload_n 3, 1) := by decide +kernel
theorem dX2_didAsAhead_23 : decode cX2_didAsAhead 23 = .ok (.iconst (-1), 1) := by decide +kernel
theorem dX2_didAsAhead_24 : decode cX2_didAsAhead 24 = .ok (.if_icmp .eq 29, 3) := by decide +kernel
theorem dX2_didAsAhead_27 : decode cX2_didAsAhead 27 = .ok (.aload_n 0, 1) := by decide +kernel
theorem dX2_didAsAhead_28 : decode cX2_didAsAhead 28 = .ok (.getfield 29, 3) := by decide +kernel
theorem dX2_didAsAhead_31 : decode cX2_didAsAhead 31 = .ok (.iload_n 2, 1) := by decide +kernel
theorem dX2_didAsAhead_32 : decode cX2_didAsAhead 32 = .ok (.iload_n 3, 1) := by decide +kernel
theorem dX2_didAsAhead_33 : decode cX2_didAsAhead 33 = .ok (.aload_n 0, 1) := by decide +kernel
theorem dX2_didAsAhead_34 : decode cX2_didAsAhead 34 = .ok (.iload_n 2, 1) := by decide +kernel
theorem dX2_didAsAhead_35 : decode cX2_didAsAhead 35 = .ok (.invokevirtual 68, 3) := by decide +kernel
theorem dX2_didAsAhead_38 : decode cX2_didAsAhead 38 = .ok (.invokevirtual 72, 3) := by decide +kernel
theorem dX2_didAsAhead_41 : decode cX2_didAsAhead 41 = .ok (.aload_n 0, 1) := by decide +kernel
theorem dX2_didAsAhead_42 : decode cX2_didAsAhead 42 = .ok (.getfield 9, 3) := by decide +kernel
theorem dX2_didAsAhead_45 : decode cX2_didAsAhead 45 = .ok (.iload_n 2, 1) := by decide +kernel
theorem dX2_didAsAhead_46 : decode cX2_didAsAhead 46 = .ok (.iaload, 1) := by decide +kernel
theorem dX2_didAsAhead_47 : decode cX2_didAsAhead 47 = .ok (.if_icmp .ne 6, 3) := by decide +kernel
theorem dX2_didAsAhead_50 : decode cX2_didAsAhead 50 = .ok (.iinc 1 1, 3) := by decide +kernel
theorem dX2_didAsAhead_53 : decode cX2_didAsAhead 53 = .ok (.iinc 2 1, 3) := by decide +kernel
theorem dX2_didAsAhead_56 : decode cX2_didAsAhead 56 = .ok (.goto (-52), 3) := by decide +kernel
theorem dX2_didAsAhead_59 : decode cX2_didAsAhead 59 = .ok (.iload_n 1, 1) := by decide +kernel
theorem dX2_didAsAhead_60 : decode cX2_didAsAhead 60 = .ok (.ireturn, 1) := by decide +kernel
theorem dX2_likelyAbove_0 : decode cX2_likelyAbove 0 = .ok (.lconst 1, 1) := by decide +kernel
theorem dX2_likelyAbove_1 : decode cX2_likelyAbove 1 = .ok (.lstore_n 1, 1) := by decide +kernel
theorem dX2_likelyAbove_2 : decode cX2_likelyAbove 2 = .ok (.iconst 0, 1) := by decide +kernel
theorem dX2_likelyAbove_3 : decode cX2_likelyAbove 3 = .ok (.istore_n 3, 1) := by decide +kernel
theorem dX2_likelyAbove_4 : decode cX2_likelyAbove 4 = .ok (.iload_n 3, 1) := by decide +kernel
theorem dX2_likelyAbove_5 : decode cX2_likelyAbove 5 = .ok (.aload_n 0, 1) := by decide +kernel
theorem dX2_likelyAbove_6 : decode cX2_likelyAbove 6 = .ok (.getfield 18, 3) := by decide +kernel
theorem dX2_likelyAbove_9 : decode cX2_likelyAbove 9 = .ok (.if_icmp .ge 58, 3) := by decide +kernel
theorem dX2_likelyAbove_12 : decode cX2_likelyAbove 12 = .ok (.aload_n 0, 1) := by decide +kernel
theorem dX2_likelyAbove_13 : decode cX2_likelyAbove 13 = .ok (.getfield 25, 3) := by decide +kernel
theorem dX2_likelyAbove_16 : decode cX2_likelyAbove 16 = .ok (.getfield 65, 3) := by decide +kernel
theorem dX2_likelyAbove_19 : decode cX2_likelyAbove 19 = .ok (.iload_n 3, 1) := by decide +kernel
theorem dX2_likelyAbove_20 : decode cX2_likelyAbove 20 = .ok (.iaload, 1) := by decide +kernel
theorem dX2_likelyAbove_21 : decode cX2_likelyAbove 21 = .ok (.istore 4, 2) := by decide +kernel
theorem dX2_likelyAbove_23 : decode cX2_likelyAbove 23 = .ok (.lload_n 1, 1) := by decide +kernel
theorem dX2_likelyAbove_24 : decode cX2_likelyAbove 24 = .ok (.iload 4, 2) := by decide +kernel
theorem dX2_likelyAbove_26 : decode cX2_likelyAbove 26 = .ok (.iconst (-1), 1) := by decide +kernel
theorem dX2_likelyAbove_27 : decode cX2_likelyAbove 27 = .ok (.if_icmp .ne 18, 3) := by decide +kernel
theorem dX2_likelyAbove_30 : decode cX2_likelyAbove 30 = .ok (.aload_n 0, 1) := by decide +kernel
theorem dX2_likelyAbove_31 : decode cX2_likelyAbove 31 = .ok (.getfield 25, 3) := by decide +kernel
theorem dX2_likelyAbove_34 : decode cX2_likelyAbove 34 = .ok (.getfield 56, 3) := by decide +kernel
theorem dX2_likelyAbove_37 : decode cX2_likelyAbove 37 = .ok (.iload_n 3, 1) := by decide +kernel
theorem dX2_likelyAbove_38 : decode cX2_likelyAbove 38 = .ok (.invokevirtual 78, 3) := by decide +kernel
theorem dX2_likelyAbove_41 : decode cX2_likelyAbove 41 = .ok (.i2l, 1) := by decide +kernel
theorem dX2_likelyAbove_42 : decode cX2_likelyAbove 42 = .ok (.goto 17, 3) := by decide +kernel
theorem dX2_likelyAbove_45 : decode cX2_likelyAbove 45 = .ok (.aload_n 0, 1) := by decide +kernel
theorem dX2_likelyAbove_46 : decode cX2_likelyAbove 46 = .ok (.getfield 25, 3) := by decide +kernel
theorem dX2_likelyAbove_49 : decode cX2_likelyAbove 49 = .ok (.getfield 56, 3) := by decide +kernel
theorem dX2_likelyAbove_52 : decode cX2_likelyAbove 52 = .ok (.iload_n 3, 1) := by decide +kernel
theorem dX2_likelyAbove_53 : decode cX2_likelyAbove 53 = .ok (.iload 4, 2) := by decide +kernel
theorem dX2_likelyAbove_55 : decode cX2_likelyAbove 55 = .ok (.invokevirtual 81, 3) := by decide +kernel
theorem dX2_likelyAbove_58 : decode cX2_likelyAbove 58 = .ok (.i2l, 1) := by decide +kernel
theorem dX2_likelyAbove_59 : decode cX2_likelyAbove 59 = .ok (.lmul, 1) := by decide +kernel
theorem dX2_likelyAbove_60 : decode cX2_likelyAbove 60 = .ok (.lstore_n 1, 1) := by decide +kernel
theorem dX2_likelyAbove_61 : decode cX2_likelyAbove 61 = .ok (.iinc 3 1, 3) := by decide +kernel
theorem dX2_likelyAbove_64 : decode cX2_likelyAbove 64 = .ok (.goto (-60), 3) := by decide +kernel
theorem dX2_likelyAbove_67 : decode cX2_likelyAbove 67 = .ok (.lload_n 1, 1) := by decide +kernel
theorem dX2_likelyAbove_68 : decode cX2_likelyAbove 68 = .ok (.lreturn, 1) := by decide +kernel
theorem dX2_likelyBelow_0 : decode cX2_likelyBelow 0 = .ok (.lconst 1, 1) := by decide +kernel
theorem dX2_likelyBelow_1 : decode cX2_likelyBelow 1 = .ok (.lstore_n 1, 1) := by decide +kernel
theorem dX2_likelyBelow_2 : decode cX2_likelyBelow 2 = .ok (.iconst 0, 1) := by decide +kernel
theorem dX2_likelyBelow_3 : decode cX2_likelyBelow 3 = .ok (.istore_n 3, 1) := by decide +kernel
theorem dX2_likelyBelow_4 : decode cX2_likelyBelow 4 = .ok (.iload_n 3, 1) := by decide +kernel
theorem dX2_likelyBelow_5 : decode cX2_likelyBelow 5 = .ok (.aload_n 0, 1) := by decide +kernel
theorem dX2_likelyBelow_6 : decode cX2_likelyBelow 6 = .ok (.getfield 18, 3) := by decide +kernel
theorem dX2_likelyBelow_9 : decode cX2_likelyBelow 9 = .ok (.if_icmp .ge 15, 3) := by decide +kernel
theorem dX2_likelyBelow_12 : decode cX2_likelyBelow 12 = .ok (.lload_n 1, 1) := by decide +kernel
theorem dX2_likelyBelow_13 : decode cX2_likelyBelow 13 = .ok (.ldc2_w 84, 3) := by decide +kernel
theorem dX2_likelyBelow_16 : decode cX2_likelyBelow 16 = .ok (.lmul, 1) := by decide +kernel
theorem dX2_likelyBelow_17 : decode cX2_likelyBelow 17 = .ok (.lstore_n 1, 1) := by decide +kernel
theorem dX2_likelyBelow_18 : decode cX2_likelyBelow 18 = .ok (.iinc 3 1, 3) := by decide +kernel
theorem dX2_likelyBelow_21 : decode cX2_likelyBelow 21 = .ok (.goto (-17), 3) := by decide +kernel
theorem dX2_likelyBelow_24 : decode cX2_likelyBelow 24 = .ok (.lload_n 1, 1) := by decide +kernel
theorem dX2_likelyBelow_25 : decode cX2_likelyBelow 25 = .ok (.lreturn, 1) := by decide +kernel
theorem dX2_faresOf_0 : decode cX2_faresOf 0 = .ok (.aload_n 0, 1) := by decide +kernel
theorem dX2_faresOf_1 : decode cX2_faresOf 1 = .ok (.iload_n 1, 1) := by decide +kernel
theorem dX2_faresOf_2 : decode cX2_faresOf 2 = .ok (.invokevirtual 68, 3) := by decide +kernel
theorem dX2_faresOf_5 : decode cX2_faresOf 5 = .ok (.istore_n 2, 1) := by decide +kernel
theorem dX2_faresOf_6 : decode cX2_faresOf 6 = .ok (.aload_n 0, 1) := by decide +kernel
theorem dX2_faresOf_7 : decode cX2_faresOf 7 = .ok (.iload_n 1, 1) := by decide +kernel
theorem dX2_faresOf_8 : decode cX2_faresOf 8 = .ok (.aload_n 0, 1) := by decide +kernel
theorem dX2_faresOf_9 : decode cX2_faresOf 9 = .ok (.getfield 9, 3) := by decide +kernel
theorem dX2_faresOf_12 : decode cX2_faresOf 12 = .ok (.invokevirtual 86, 3) := by decide +kernel
theorem dX2_faresOf_15 : decode cX2_faresOf 15 = .ok (.aload_n 0, 1) := by decide +kernel
theorem dX2_faresOf_16 : decode cX2_faresOf 16 = .ok (.getfield 25, 3) := by decide +kernel
theorem dX2_faresOf_19 : decode cX2_faresOf 19 = .ok (.getfield 56, 3) := by decide +kernel
theorem dX2_faresOf_22 : decode cX2_faresOf 22 = .ok (.iload_n 2, 1) := by decide +kernel
theorem dX2_faresOf_23 : decode cX2_faresOf 23 = .ok (.aload_n 0, 1) := by decide +kernel
theorem dX2_faresOf_24 : decode cX2_faresOf 24 = .ok (.getfield 9, 3) := by decide +kernel
theorem dX2_faresOf_27 : decode cX2_faresOf 27 = .ok (.iload_n 1, 1) := by decide +kernel
theorem dX2_faresOf_28 : decode cX2_faresOf 28 = .ok (.iaload, 1) := by decide +kernel
theorem dX2_faresOf_29 : decode cX2_faresOf 29 = .ok (.invokevirtual 90, 3) := by decide +kernel
theorem dX2_faresOf_32 : decode cX2_faresOf 32 = .ok (.isub, 1) := by decide +kernel
theorem dX2_faresOf_33 : decode cX2_faresOf 33 = .ok (.ireturn, 1) := by decide +kernel
theorem dX2_lossOf_0 : decode cX2_lossOf 0 = .ok (.aload_n 0, 1) := by decide +kernel
theorem dX2_lossOf_1 : decode cX2_lossOf 1 = .ok (.iload_n 1, 1) := by decide +kernel
theorem dX2_lossOf_2 : decode cX2_lossOf 2 = .ok (.invokevirtual 68, 3) := by decide +kernel
theorem dX2_lossOf_5 : decode cX2_lossOf 5 = .ok (.istore_n 2, 1) := by decide +kernel
theorem dX2_lossOf_6 : decode cX2_lossOf 6 = .ok (.aload_n 0, 1) := by decide +kernel
theorem dX2_lossOf_7 : decode cX2_lossOf 7 = .ok (.getfield 15, 3) := by decide +kernel
theorem dX2_lossOf_10 : decode cX2_lossOf 10 = .ok (.iload_n 1, 1) := by decide +kernel
theorem dX2_lossOf_11 : decode cX2_lossOf 11 = .ok (.iload_n 2, 1) := by decide +kernel
theorem dX2_lossOf_12 : decode cX2_lossOf 12 = .ok (.iastore, 1) := by decide +kernel
theorem dX2_lossOf_13 : decode cX2_lossOf 13 = .ok (.iload_n 1, 1) := by decide +kernel
theorem dX2_lossOf_14 : decode cX2_lossOf 14 = .ok (.iconst 1, 1) := by decide +kernel
theorem dX2_lossOf_15 : decode cX2_lossOf 15 = .ok (.iadd, 1) := by decide +kernel
theorem dX2_lossOf_16 : decode cX2_lossOf 16 = .ok (.istore_n 3, 1) := by decide +kernel
theorem dX2_lossOf_17 : decode cX2_lossOf 17 = .ok (.iload_n 3, 1) := by decide +kernel
theorem dX2_lossOf_18 : decode cX2_lossOf 18 = .ok (.aload_n 0, 1) := by decide +kernel
theorem dX2_lossOf_19 : decode cX2_lossOf 19 = .ok (.getfield 18, 3) := by decide +kernel
theorem dX2_lossOf_22 : decode cX2_lossOf 22 = .ok (.if_icmp .ge 44, 3) := by decide +kernel
theorem dX2_lossOf_25 : decode cX2_lossOf 25 = .ok (.aload_n 0, 1) := by decide +kernel
theorem dX2_lossOf_26 : decode cX2_lossOf 26 = .ok (.getfield 25, 3) := by decide +kernel
theorem dX2_lossOf_29 : decode cX2_lossOf 29 = .ok (.iload_n 3, 1) := by decide +kernel
theorem dX2_lossOf_30 : decode cX2_lossOf 30 = .ok (.iload_n 2, 1) := by decide +kernel
theorem dX2_lossOf_31 : decode cX2_lossOf 31 = .ok (.aload_n 0, 1) := by decide +kernel
theorem dX2_lossOf_32 : decode cX2_lossOf 32 = .ok (.getfield 25, 3) := by decide +kernel
theorem dX2_lossOf_35 : decode cX2_lossOf 35 = .ok (.getfield 46, 3) := by decide +kernel
theorem dX2_lossOf_38 : decode cX2_lossOf 38 = .ok (.iload_n 3, 1) := by decide +kernel
theorem dX2_lossOf_39 : decode cX2_lossOf 39 = .ok (.iaload, 1) := by decide +kernel
theorem dX2_lossOf_40 : decode cX2_lossOf 40 = .ok (.aload_n 0, 1) := by decide +kernel
theorem dX2_lossOf_41 : decode cX2_lossOf 41 = .ok (.getfield 25, 3) := by decide +kernel
theorem dX2_lossOf_44 : decode cX2_lossOf 44 = .ok (.getfield 49, 3) := by decide +kernel
theorem dX2_lossOf_47 : decode cX2_lossOf 47 = .ok (.iload_n 3, 1) := by decide +kernel
theorem dX2_lossOf_48 : decode cX2_lossOf 48 = .ok (.iaload, 1) := by decide +kernel
theorem dX2_lossOf_49 : decode cX2_lossOf 49 = .ok (.invokevirtual 52, 3) := by decide +kernel
theorem dX2_lossOf_52 : decode cX2_lossOf 52 = .ok (.istore_n 2, 1) := by decide +kernel
theorem dX2_lossOf_53 : decode cX2_lossOf 53 = .ok (.aload_n 0, 1) := by decide +kernel
theorem dX2_lossOf_54 : decode cX2_lossOf 54 = .ok (.getfield 15, 3) := by decide +kernel
theorem dX2_lossOf_57 : decode cX2_lossOf 57 = .ok (.iload_n 3, 1) := by decide +kernel
theorem dX2_lossOf_58 : decode cX2_lossOf 58 = .ok (.iload_n 2, 1) := by decide +kernel
theorem dX2_lossOf_59 : decode cX2_lossOf 59 = .ok (.iastore, 1) := by decide +kernel
theorem dX2_lossOf_60 : decode cX2_lossOf 60 = .ok (.iinc 3 1, 3) := by decide +kernel
theorem dX2_lossOf_63 : decode cX2_lossOf 63 = .ok (.goto (-46), 3) := by decide +kernel
theorem dX2_lossOf_66 : decode cX2_lossOf 66 = .ok (.aload_n 0, 1) := by decide +kernel
theorem dX2_lossOf_67 : decode cX2_lossOf 67 = .ok (.iload_n 1, 1) := by decide +kernel
theorem dX2_lossOf_68 : decode cX2_lossOf 68 = .ok (.aload_n 0, 1) := by decide +kernel
theorem dX2_lossOf_69 : decode cX2_lossOf 69 = .ok (.getfield 15, 3) := by decide +kernel
theorem dX2_lossOf_72 : decode cX2_lossOf 72 = .ok (.invokevirtual 86, 3) := by decide +kernel
theorem dX2_lossOf_75 : decode cX2_lossOf 75 = .ok (.aload_n 0, 1) := by decide +kernel
theorem dX2_lossOf_76 : decode cX2_lossOf 76 = .ok (.iload_n 1, 1) := by decide +kernel
theorem dX2_lossOf_77 : decode cX2_lossOf 77 = .ok (.invokevirtual 93, 3) := by decide +kernel
theorem dX2_lossOf_80 : decode cX2_lossOf 80 = .ok (.isub, 1) := by decide +kernel
theorem dX2_lossOf_81 : decode cX2_lossOf 81 = .ok (.ireturn, 1) := by decide +kernel
theorem dX2_standsAheadOf_0 : decode cX2_standsAheadOf 0 = .ok (.iload_n 1, 1) := by decide +kernel
theorem dX2_standsAheadOf_1 : decode cX2_standsAheadOf 1 = .ok (.ifCond .ne 16, 3) := by decide +kernel
theorem dX2_standsAheadOf_4 : decode cX2_standsAheadOf 4 = .ok (.aload_n 0, 1) := by decide +kernel
theorem dX2_standsAheadOf_5 : decode cX2_standsAheadOf 5 = .ok (.getfield 25, 3) := by decide +kernel
theorem dX2_standsAheadOf_8 : decode cX2_standsAheadOf 8 = .ok (.getfield 56, 3) := by decide +kernel
theorem dX2_standsAheadOf_11 : decode cX2_standsAheadOf 11 = .ok (.invokevirtual 60, 3) := by decide +kernel
theorem dX2_standsAheadOf_14 : decode cX2_standsAheadOf 14 = .ok (.goto 11, 3) := by decide +kernel
theorem dX2_standsAheadOf_17 : decode cX2_standsAheadOf 17 = .ok (.aload_n 0, 1) := by decide +kernel
theorem dX2_standsAheadOf_18 : decode cX2_standsAheadOf 18 = .ok (.getfield 9, 3) := by decide +kernel
theorem dX2_standsAheadOf_21 : decode cX2_standsAheadOf 21 = .ok (.iload_n 1, 1) := by decide +kernel
theorem dX2_standsAheadOf_22 : decode cX2_standsAheadOf 22 = .ok (.iconst 1, 1) := by decide +kernel
theorem dX2_standsAheadOf_23 : decode cX2_standsAheadOf 23 = .ok (.isub, 1) := by decide +kernel
theorem dX2_standsAheadOf_24 : decode cX2_standsAheadOf 24 = .ok (.iaload, 1) := by decide +kernel
theorem dX2_standsAheadOf_25 : decode cX2_standsAheadOf 25 = .ok (.ireturn, 1) := by decide +kernel
theorem dX2_worthsAlong_0 : decode cX2_worthsAlong 0 = .ok (.aload_n 0, 1) := by decide +kernel
theorem dX2_worthsAlong_1 : decode cX2_worthsAlong 1 = .ok (.getfield 25, 3) := by decide +kernel
theorem dX2_worthsAlong_4 : decode cX2_worthsAlong 4 = .ok (.getfield 56, 3) := by decide +kernel
theorem dX2_worthsAlong_7 : decode cX2_worthsAlong 7 = .ok (.getfield 96, 3) := by decide +kernel
theorem dX2_worthsAlong_10 : decode cX2_worthsAlong 10 = .ok (.aload_n 0, 1) := by decide +kernel
theorem dX2_worthsAlong_11 : decode cX2_worthsAlong 11 = .ok (.getfield 18, 3) := by decide +kernel
theorem dX2_worthsAlong_14 : decode cX2_worthsAlong 14 = .ok (.iload_n 1, 1) := by decide +kernel
theorem dX2_worthsAlong_15 : decode cX2_worthsAlong 15 = .ok (.isub, 1) := by decide +kernel
theorem dX2_worthsAlong_16 : decode cX2_worthsAlong 16 = .ok (.invokestatic 99, 3) := by decide +kernel
theorem dX2_worthsAlong_19 : decode cX2_worthsAlong 19 = .ok (.istore_n 3, 1) := by decide +kernel
theorem dX2_worthsAlong_20 : decode cX2_worthsAlong 20 = .ok (.iconst 0, 1) := by decide +kernel
theorem dX2_worthsAlong_21 : decode cX2_worthsAlong 21 = .ok (.istore 4, 2) := by decide +kernel
theorem dX2_worthsAlong_23 : decode cX2_worthsAlong 23 = .ok (.iconst 0, 1) := by decide +kernel
theorem dX2_worthsAlong_24 : decode cX2_worthsAlong 24 = .ok (.istore 5, 2) := by decide +kernel
theorem dX2_worthsAlong_26 : decode cX2_worthsAlong 26 = .ok (.iload 5, 2) := by decide +kernel
theorem dX2_worthsAlong_28 : decode cX2_worthsAlong 28 = .ok (.iload_n 3, 1) := by decide +kernel
theorem dX2_worthsAlong_29 : decode cX2_worthsAlong 29 = .ok (.if_icmp .ge 42, 3) := by decide +kernel
theorem dX2_worthsAlong_32 : decode cX2_worthsAlong 32 = .ok (.iload 4, 2) := by decide +kernel
theorem dX2_worthsAlong_34 : decode cX2_worthsAlong 34 = .ok (.aload_n 0, 1) := by decide +kernel
theorem dX2_worthsAlong_35 : decode cX2_worthsAlong 35 = .ok (.getfield 29, 3) := by decide +kernel
theorem dX2_worthsAlong_38 : decode cX2_worthsAlong 38 = .ok (.iload_n 1, 1) := by decide +kernel
theorem dX2_worthsAlong_39 : decode cX2_worthsAlong 39 = .ok (.iload 5, 2) := by decide +kernel
theorem dX2_worthsAlong_41 : decode cX2_worthsAlong 41 = .ok (.iadd, 1) := by decide +kernel
theorem dX2_worthsAlong_42 : decode cX2_worthsAlong 42 = .ok (.aload_n 0, 1) := by decide +kernel
theorem dX2_worthsAlong_43 : decode cX2_worthsAlong 43 = .ok (.getfield 25, 3) := by decide +kernel
theorem dX2_worthsAlong_46 : decode cX2_worthsAlong 46 = .ok (.getfield 65, 3) := by decide +kernel
theorem dX2_worthsAlong_49 : decode cX2_worthsAlong 49 = .ok (.iload_n 1, 1) := by decide +kernel
theorem dX2_worthsAlong_50 : decode cX2_worthsAlong 50 = .ok (.iaload, 1) := by decide +kernel
theorem dX2_worthsAlong_51 : decode cX2_worthsAlong 51 = .ok (.iload 5, 2) := by decide +kernel
theorem dX2_worthsAlong_53 : decode cX2_worthsAlong 53 = .ok (.aload_n 2, 1) := by decide +kernel
theorem dX2_worthsAlong_54 : decode cX2_worthsAlong 54 = .ok (.iload_n 1, 1) := by decide +kernel
theorem dX2_worthsAlong_55 : decode cX2_worthsAlong 55 = .ok (.iload 5, 2) := by decide +kernel
theorem dX2_worthsAlong_57 : decode cX2_worthsAlong 57 = .ok (.iadd, 1) := by decide +kernel
theorem dX2_worthsAlong_58 : decode cX2_worthsAlong 58 = .ok (.iaload, 1) := by decide +kernel
theorem dX2_worthsAlong_59 : decode cX2_worthsAlong 59 = .ok (.invokevirtual 104, 3) := by decide +kernel
theorem dX2_worthsAlong_62 : decode cX2_worthsAlong 62 = .ok (.iadd, 1) := by decide +kernel
theorem dX2_worthsAlong_63 : decode cX2_worthsAlong 63 = .ok (.istore 4, 2) := by decide +kernel
theorem dX2_worthsAlong_65 : decode cX2_worthsAlong 65 = .ok (.iinc 5 1, 3) := by decide +kernel
theorem dX2_worthsAlong_68 : decode cX2_worthsAlong 68 = .ok (.goto (-42), 3) := by decide +kernel
theorem dX2_worthsAlong_71 : decode cX2_worthsAlong 71 = .ok (.iload 4, 2) := by decide +kernel
theorem dX2_worthsAlong_73 : decode cX2_worthsAlong 73 = .ok (.ireturn, 1) := by decide +kernel
theorem dX2_whyNot_0 : decode cX2_whyNot 0 = .ok (.aload_n 0, 1) := by decide +kernel
theorem dX2_whyNot_1 : decode cX2_whyNot 1 = .ok (.getfield 25, 3) := by decide +kernel
theorem dX2_whyNot_4 : decode cX2_whyNot 4 = .ok (.getfield 65, 3) := by decide +kernel
theorem dX2_whyNot_7 : decode cX2_whyNot 7 = .ok (.iload_n 1, 1) := by decide +kernel
theorem dX2_whyNot_8 : decode cX2_whyNot 8 = .ok (.iaload, 1) := by decide +kernel
theorem dX2_whyNot_9 : decode cX2_whyNot 9 = .ok (.istore_n 3, 1) := by decide +kernel
theorem dX2_whyNot_10 : decode cX2_whyNot 10 = .ok (.aload_n 0, 1) := by decide +kernel
theorem dX2_whyNot_11 : decode cX2_whyNot 11 = .ok (.getfield 25, 3) := by decide +kernel
theorem dX2_whyNot_14 : decode cX2_whyNot 14 = .ok (.getfield 46, 3) := by decide +kernel
theorem dX2_whyNot_17 : decode cX2_whyNot 17 = .ok (.iload_n 1, 1) := by decide +kernel
theorem dX2_whyNot_18 : decode cX2_whyNot 18 = .ok (.iaload, 1) := by decide +kernel
theorem dX2_whyNot_19 : decode cX2_whyNot 19 = .ok (.istore 4, 2) := by decide +kernel
theorem dX2_whyNot_21 : decode cX2_whyNot 21 = .ok (.aload_n 0, 1) := by decide +kernel
theorem dX2_whyNot_22 : decode cX2_whyNot 22 = .ok (.getfield 25, 3) := by decide +kernel
theorem dX2_whyNot_25 : decode cX2_whyNot 25 = .ok (.getfield 49, 3) := by decide +kernel
theorem dX2_whyNot_28 : decode cX2_whyNot 28 = .ok (.iload_n 1, 1) := by decide +kernel
theorem dX2_whyNot_29 : decode cX2_whyNot 29 = .ok (.iaload, 1) := by decide +kernel
theorem dX2_whyNot_30 : decode cX2_whyNot 30 = .ok (.istore 5, 2) := by decide +kernel
theorem dX2_whyNot_32 : decode cX2_whyNot 32 = .ok (.aload_n 0, 1) := by decide +kernel
theorem dX2_whyNot_33 : decode cX2_whyNot 33 = .ok (.getfield 25, 3) := by decide +kernel
theorem dX2_whyNot_36 : decode cX2_whyNot 36 = .ok (.getfield 56, 3) := by decide +kernel
theorem dX2_whyNot_39 : decode cX2_whyNot 39 = .ok (.iload_n 1, 1) := by decide +kernel
theorem dX2_whyNot_40 : decode cX2_whyNot 40 = .ok (.invokevirtual 107, 3) := by decide +kernel
theorem dX2_whyNot_43 : decode cX2_whyNot 43 = .ok (.ifCond .ne 5, 3) := by decide +kernel
theorem dX2_whyNot_46 : decode cX2_whyNot 46 = .ok (.iconst 1, 1) := by decide +kernel
theorem dX2_whyNot_47 : decode cX2_whyNot 47 = .ok (.ireturn, 1) := by decide +kernel
theorem dX2_whyNot_48 : decode cX2_whyNot 48 = .ok (.aload_n 0, 1) := by decide +kernel
theorem dX2_whyNot_49 : decode cX2_whyNot 49 = .ok (.iload_n 1, 1) := by decide +kernel
theorem dX2_whyNot_50 : decode cX2_whyNot 50 = .ok (.iload_n 3, 1) := by decide +kernel
theorem dX2_whyNot_51 : decode cX2_whyNot 51 = .ok (.invokevirtual 111, 3) := by decide +kernel
theorem dX2_whyNot_54 : decode cX2_whyNot 54 = .ok (.ifCond .ne 5, 3) := by decide +kernel
theorem dX2_whyNot_57 : decode cX2_whyNot 57 = .ok (.iconst 2, 1) := by decide +kernel
theorem dX2_whyNot_58 : decode cX2_whyNot 58 = .ok (.ireturn, 1) := by decide +kernel
theorem dX2_whyNot_59 : decode cX2_whyNot 59 = .ok (.iload 4, 2) := by decide +kernel
theorem dX2_whyNot_61 : decode cX2_whyNot 61 = .ok (.iconst (-1), 1) := by decide +kernel
theorem dX2_whyNot_62 : decode cX2_whyNot 62 = .ok (.if_icmp .ne 5, 3) := by decide +kernel
theorem dX2_whyNot_65 : decode cX2_whyNot 65 = .ok (.iconst 0, 1) := by decide +kernel
theorem dX2_whyNot_66 : decode cX2_whyNot 66 = .ok (.ireturn, 1) := by decide +kernel
theorem dX2_whyNot_67 : decode cX2_whyNot 67 = .ok (.iload_n 3, 1) := by decide +kernel
theorem dX2_whyNot_68 : decode cX2_whyNot 68 = .ok (.iconst (-1), 1) := by decide +kernel
theorem dX2_whyNot_69 : decode cX2_whyNot 69 = .ok (.if_icmp .eq 20, 3) := by decide +kernel
theorem dX2_whyNot_72 : decode cX2_whyNot 72 = .ok (.aload_n 0, 1) := by decide +kernel
theorem dX2_whyNot_73 : decode cX2_whyNot 73 = .ok (.getfield 25, 3) := by decide +kernel
theorem dX2_whyNot_76 : decode cX2_whyNot 76 = .ok (.getfield 56, 3) := by decide +kernel
theorem dX2_whyNot_79 : decode cX2_whyNot 79 = .ok (.iload 4, 2) := by decide +kernel
theorem dX2_whyNot_81 : decode cX2_whyNot 81 = .ok (.iload 5, 2) := by decide +kernel
theorem dX2_whyNot_83 : decode cX2_whyNot 83 = .ok (.invokevirtual 115, 3) := by decide +kernel
theorem dX2_whyNot_86 : decode cX2_whyNot 86 = .ok (.ifCond .ne 5, 3) := by decide +kernel
theorem dX2_whyNot_89 : decode cX2_whyNot 89 = .ok (.iconst 3, 1) := by decide +kernel
theorem dX2_whyNot_90 : decode cX2_whyNot 90 = .ok (.ireturn, 1) := by decide +kernel
theorem dX2_whyNot_91 : decode cX2_whyNot 91 = .ok (.aload_n 0, 1) := by decide +kernel
theorem dX2_whyNot_92 : decode cX2_whyNot 92 = .ok (.getfield 25, 3) := by decide +kernel
theorem dX2_whyNot_95 : decode cX2_whyNot 95 = .ok (.iload_n 1, 1) := by decide +kernel
theorem dX2_whyNot_96 : decode cX2_whyNot 96 = .ok (.iload_n 2, 1) := by decide +kernel
theorem dX2_whyNot_97 : decode cX2_whyNot 97 = .ok (.iload 4, 2) := by decide +kernel
theorem dX2_whyNot_99 : decode cX2_whyNot 99 = .ok (.iload 5, 2) := by decide +kernel
theorem dX2_whyNot_101 : decode cX2_whyNot 101 = .ok (.invokevirtual 118, 3) := by decide +kernel
theorem dX2_whyNot_104 : decode cX2_whyNot 104 = .ok (.ifCond .eq 7, 3) := by decide +kernel
theorem dX2_whyNot_107 : decode cX2_whyNot 107 = .ok (.iconst 0, 1) := by decide +kernel
theorem dX2_whyNot_108 : decode cX2_whyNot 108 = .ok (.goto 4, 3) := by decide +kernel
theorem dX2_whyNot_111 : decode cX2_whyNot 111 = .ok (.iconst 4, 1) := by decide +kernel
theorem dX2_whyNot_112 : decode cX2_whyNot 112 = .ok (.ireturn, 1) := by decide +kernel
theorem dX2_couldCome_0 : decode cX2_couldCome 0 = .ok (.iload_n 2, 1) := by decide +kernel
theorem dX2_couldCome_1 : decode cX2_couldCome 1 = .ok (.iconst (-1), 1) := by decide +kernel
theorem dX2_couldCome_2 : decode cX2_couldCome 2 = .ok (.if_icmp .ne 25, 3) := by decide +kernel
theorem dX2_couldCome_5 : decode cX2_couldCome 5 = .ok (.aload_n 0, 1) := by decide +kernel
theorem dX2_couldCome_6 : decode cX2_couldCome 6 = .ok (.getfield 25, 3) := by decide +kernel
theorem dX2_couldCome_9 : decode cX2_couldCome 9 = .ok (.getfield 56, 3) := by decide +kernel
theorem dX2_couldCome_12 : decode cX2_couldCome 12 = .ok (.getfield 122, 3) := by decide +kernel
theorem dX2_couldCome_15 : decode cX2_couldCome 15 = .ok (.iload_n 1, 1) := by decide +kernel
theorem dX2_couldCome_16 : decode cX2_couldCome 16 = .ok (.iaload, 1) := by decide +kernel
theorem dX2_couldCome_17 : decode cX2_couldCome 17 = .ok (.iconst (-1), 1) := by decide +kernel
theorem dX2_couldCome_18 : decode cX2_couldCome 18 = .ok (.if_icmp .ne 7, 3) := by decide +kernel
theorem dX2_couldCome_21 : decode cX2_couldCome 21 = .ok (.iconst 1, 1) := by decide +kernel
theorem dX2_couldCome_22 : decode cX2_couldCome 22 = .ok (.goto 4, 3) := by decide +kernel
theorem dX2_couldCome_25 : decode cX2_couldCome 25 = .ok (.iconst 0, 1) := by decide +kernel
theorem dX2_couldCome_26 : decode cX2_couldCome 26 = .ok (.ireturn, 1) := by decide +kernel
theorem dX2_couldCome_27 : decode cX2_couldCome 27 = .ok (.aload_n 0, 1) := by decide +kernel
theorem dX2_couldCome_28 : decode cX2_couldCome 28 = .ok (.getfield 25, 3) := by decide +kernel
theorem dX2_couldCome_31 : decode cX2_couldCome 31 = .ok (.getfield 56, 3) := by decide +kernel
theorem dX2_couldCome_34 : decode cX2_couldCome 34 = .ok (.iload_n 2, 1) := by decide +kernel
theorem dX2_couldCome_35 : decode cX2_couldCome 35 = .ok (.invokevirtual 125, 3) := by decide +kernel
theorem dX2_couldCome_38 : decode cX2_couldCome 38 = .ok (.ifCond .eq 22, 3) := by decide +kernel
theorem dX2_couldCome_41 : decode cX2_couldCome 41 = .ok (.aload_n 0, 1) := by decide +kernel
theorem dX2_couldCome_42 : decode cX2_couldCome 42 = .ok (.getfield 25, 3) := by decide +kernel
theorem dX2_couldCome_45 : decode cX2_couldCome 45 = .ok (.getfield 56, 3) := by decide +kernel
theorem dX2_couldCome_48 : decode cX2_couldCome 48 = .ok (.iload_n 1, 1) := by decide +kernel
theorem dX2_couldCome_49 : decode cX2_couldCome 49 = .ok (.iload_n 2, 1) := by decide +kernel
theorem dX2_couldCome_50 : decode cX2_couldCome 50 = .ok (.invokevirtual 81, 3) := by decide +kernel
theorem dX2_couldCome_53 : decode cX2_couldCome 53 = .ok (.ifCond .le 7, 3) := by decide +kernel
theorem dX2_couldCome_56 : decode cX2_couldCome 56 = .ok (.iconst 1, 1) := by decide +kernel
theorem dX2_couldCome_57 : decode cX2_couldCome 57 = .ok (.goto 4, 3) := by decide +kernel
theorem dX2_couldCome_60 : decode cX2_couldCome 60 = .ok (.iconst 0, 1) := by decide +kernel
theorem dX2_couldCome_61 : decode cX2_couldCome 61 = .ok (.ireturn, 1) := by decide +kernel
theorem dX3_init_0 : decode cX3_init 0 = .ok (.aload_n 0, 1) := by decide +kernel
theorem dX3_init_1 : decode cX3_init 1 = .ok (.invokespecial 3, 3) := by decide +kernel
theorem dX3_init_4 : decode cX3_init 4 = .ok (.aload_n 0, 1) := by decide +kernel
theorem dX3_init_5 : decode cX3_init 5 = .ok (.bipush 27, 2) := by decide +kernel
theorem dX3_init_7 : decode cX3_init 7 = .ok (.newarray .long, 2) := by decide +kernel
theorem dX3_init_9 : decode cX3_init 9 = .ok (.putfield 9, 3) := by decide +kernel
theorem dX3_init_12 : decode cX3_init 12 = .ok (.aload_n 0, 1) := by decide +kernel
theorem dX3_init_13 : decode cX3_init 13 = .ok (.bipush 27, 2) := by decide +kernel
theorem dX3_init_15 : decode cX3_init 15 = .ok (.newarray .long, 2) := by decide +kernel
theorem dX3_init_17 : decode cX3_init 17 = .ok (.putfield 15, 3) := by decide +kernel
theorem dX3_init_20 : decode cX3_init 20 = .ok (.aload_n 0, 1) := by decide +kernel
theorem dX3_init_21 : decode cX3_init 21 = .ok (.lconst 0, 1) := by decide +kernel
theorem dX3_init_22 : decode cX3_init 22 = .ok (.putfield 18, 3) := by decide +kernel
theorem dX3_init_25 : decode cX3_init 25 = .ok (.aload_n 0, 1) := by decide +kernel
theorem dX3_init_26 : decode cX3_init 26 = .ok (.aload_n 1, 1) := by decide +kernel
theorem dX3_init_27 : decode cX3_init 27 = .ok (.putfield 22, 3) := by decide +kernel
theorem dX3_init_30 : decode cX3_init 30 = .ok (.aload_n 0, 1) := by decide +kernel
theorem dX3_init_31 : decode cX3_init 31 = .ok (.aload_n 2, 1) := by decide +kernel
theorem dX3_init_32 : decode cX3_init 32 = .ok (.putfield 26, 3) := by decide +kernel
theorem dX3_init_35 : decode cX3_init 35 = .ok (.return_, 1) := by decide +kernel
theorem dX3_oddsOf_0 : decode cX3_oddsOf 0 = .ok (.aload_n 0, 1) := by decide +kernel
theorem dX3_oddsOf_1 : decode cX3_oddsOf 1 = .ok (.getfield 9, 3) := by decide +kernel
theorem dX3_oddsOf_4 : decode cX3_oddsOf 4 = .ok (.iload_n 1, 1) := by decide +kernel
theorem dX3_oddsOf_5 : decode cX3_oddsOf 5 = .ok (.laload, 1) := by decide +kernel
theorem dX3_oddsOf_6 : decode cX3_oddsOf 6 = .ok (.lreturn, 1) := by decide +kernel
theorem dX3_stirred_0 : decode cX3_stirred 0 = .ok (.aload_n 0, 1) := by decide +kernel
theorem dX3_stirred_1 : decode cX3_stirred 1 = .ok (.getfield 18, 3) := by decide +kernel
theorem dX3_stirred_4 : decode cX3_stirred 4 = .ok (.lreturn, 1) := by decide +kernel
theorem dX3_passAheadOf_0 : decode cX3_passAheadOf 0 = .ok (.aload_n 0, 1) := by decide +kernel
theorem dX3_passAheadOf_1 : decode cX3_passAheadOf 1 = .ok (.getfield 9, 3) := by decide +kernel
theorem dX3_passAheadOf_4 : decode cX3_passAheadOf 4 = .ok (.lconst 0, 1) := by decide +kernel
theorem dX3_passAheadOf_5 : decode cX3_passAheadOf 5 = .ok (.invokestatic 30, 3) := by decide +kernel
theorem dX3_passAheadOf_8 : decode cX3_passAheadOf 8 = .ok (.aload_n 0, 1) := by decide +kernel
theorem dX3_passAheadOf_9 : decode cX3_passAheadOf 9 = .ok (.getfield 9, 3) := by decide +kernel
theorem dX3_passAheadOf_12 : decode cX3_passAheadOf 12 = .ok (.aload_n 0, 1) := by decide +kernel
theorem dX3_passAheadOf_13 : decode cX3_passAheadOf 13 = .ok (.getfield 22, 3) := by decide +kernel
theorem dX3_passAheadOf_16 : decode cX3_passAheadOf 16 = .ok (.getfield 36, 3) := by decide +kernel
theorem dX3_passAheadOf_19 : decode cX3_passAheadOf 19 = .ok (.invokevirtual 42, 3) := by decide +kernel
theorem dX3_passAheadOf_22 : decode cX3_passAheadOf 22 = .ok (.ldc2_w 48, 3) := by decide +kernel
theorem dX3_passAheadOf_25 : decode cX3_passAheadOf 25 = .ok (.lastore, 1) := by decide +kernel
theorem dX3_passAheadOf_26 : decode cX3_passAheadOf 26 = .ok (.aload_n 0, 1) := by decide +kernel
theorem dX3_passAheadOf_27 : decode cX3_passAheadOf 27 = .ok (.lconst 0, 1) := by decide +kernel
theorem dX3_passAheadOf_28 : decode cX3_passAheadOf 28 = .ok (.putfield 18, 3) := by decide +kernel
theorem dX3_passAheadOf_31 : decode cX3_passAheadOf 31 = .ok (.iconst 0, 1) := by decide +kernel
theorem dX3_passAheadOf_32 : decode cX3_passAheadOf 32 = .ok (.istore_n 2, 1) := by decide +kernel
theorem dX3_passAheadOf_33 : decode cX3_passAheadOf 33 = .ok (.iload_n 2, 1) := by decide +kernel
theorem dX3_passAheadOf_34 : decode cX3_passAheadOf 34 = .ok (.iload_n 1, 1) := by decide +kernel
theorem dX3_passAheadOf_35 : decode cX3_passAheadOf 35 = .ok (.if_icmp .ge 62, 3) := by decide +kernel
theorem dX3_passAheadOf_38 : decode cX3_passAheadOf 38 = .ok (.aload_n 0, 1) := by decide +kernel
theorem dX3_passAheadOf_39 : decode cX3_passAheadOf 39 = .ok (.getfield 15, 3) := by decide +kernel
theorem dX3_passAheadOf_42 : decode cX3_passAheadOf 42 = .ok (.lconst 0, 1) := by decide +kernel
theorem dX3_passAheadOf_43 : decode cX3_passAheadOf 43 = .ok (.invokestatic 30, 3) := by decide +kernel
theorem dX3_passAheadOf_46 : decode cX3_passAheadOf 46 = .ok (.iconst 0, 1) := by decide +kernel
theorem dX3_passAheadOf_47 : decode cX3_passAheadOf 47 = .ok (.istore_n 3, 1) := by decide +kernel
theorem dX3_passAheadOf_48 : decode cX3_passAheadOf 48 = .ok (.iload_n 3, 1) := by decide +kernel
theorem dX3_passAheadOf_49 : decode cX3_passAheadOf 49 = .ok (.bipush 27, 2) := by decide +kernel
theorem dX3_passAheadOf_51 : decode cX3_passAheadOf 51 = .ok (.if_icmp .ge 25, 3) := by decide +kernel
theorem dX3_passAheadOf_54 : decode cX3_passAheadOf 54 = .ok (.aload_n 0, 1) := by decide +kernel
theorem dX3_passAheadOf_55 : decode cX3_passAheadOf 55 = .ok (.iload_n 2, 1) := by decide +kernel
theorem dX3_passAheadOf_56 : decode cX3_passAheadOf 56 = .ok (.iload_n 3, 1) := by decide +kernel
theorem dX3_passAheadOf_57 : decode cX3_passAheadOf 57 = .ok (.aload_n 0, 1) := by decide +kernel
theorem dX3_passAheadOf_58 : decode cX3_passAheadOf 58 = .ok (.getfield 9, 3) := by decide +kernel
theorem dX3_passAheadOf_61 : decode cX3_passAheadOf 61 = .ok (.iload_n 3, 1) := by decide +kernel
theorem dX3_passAheadOf_62 : decode cX3_passAheadOf 62 = .ok (.laload, 1) := by decide +kernel
theorem dX3_passAheadOf_63 : decode cX3_passAheadOf 63 = .ok (.ldc2_w 50, 3) := by decide +kernel
theorem dX3_passAheadOf_66 : decode cX3_passAheadOf 66 = .ok (.ldiv, 1) := by decide +kernel
theorem dX3_passAheadOf_67 : decode cX3_passAheadOf 67 = .ok (.invokevirtual 52, 3) := by decide +kernel
theorem dX3_passAheadOf_70 : decode cX3_passAheadOf 70 = .ok (.iinc 3 1, 3) := by decide +kernel
theorem dX3_passAheadOf_73 : decode cX3_passAheadOf 73 = .ok (.goto (-25), 3) := by decide +kernel
theorem dX3_passAheadOf_76 : decode cX3_passAheadOf 76 = .ok (.aload_n 0, 1) := by decide +kernel
theorem dX3_passAheadOf_77 : decode cX3_passAheadOf 77 = .ok (.getfield 15, 3) := by decide +kernel
theorem dX3_passAheadOf_80 : decode cX3_passAheadOf 80 = .ok (.iconst 0, 1) := by decide +kernel
theorem dX3_passAheadOf_81 : decode cX3_passAheadOf 81 = .ok (.aload_n 0, 1) := by decide +kernel
theorem dX3_passAheadOf_82 : decode cX3_passAheadOf 82 = .ok (.getfield 9, 3) := by decide +kernel
theorem dX3_passAheadOf_85 : decode cX3_passAheadOf 85 = .ok (.iconst 0, 1) := by decide +kernel
theorem dX3_passAheadOf_86 : decode cX3_passAheadOf 86 = .ok (.bipush 27, 2) := by decide +kernel
theorem dX3_passAheadOf_88 : decode cX3_passAheadOf 88 = .ok (.invokestatic 56, 3) := by decide +kernel
theorem dX3_passAheadOf_91 : decode cX3_passAheadOf 91 = .ok (.iinc 2 1, 3) := by decide +kernel
theorem dX3_passAheadOf_94 : decode cX3_passAheadOf 94 = .ok (.goto (-61), 3) := by decide +kernel
theorem dX3_passAheadOf_97 : decode cX3_passAheadOf 97 = .ok (.return_, 1) := by decide +kernel
theorem dX3_hopesOf_0 : decode cX3_hopesOf 0 = .ok (.aload_n 0, 1) := by decide +kernel
theorem dX3_hopesOf_1 : decode cX3_hopesOf 1 = .ok (.iload_n 1, 1) := by decide +kernel
theorem dX3_hopesOf_2 : decode cX3_hopesOf 2 = .ok (.invokevirtual 62, 3) := by decide +kernel
theorem dX3_hopesOf_5 : decode cX3_hopesOf 5 = .ok (.lconst 0, 1) := by decide +kernel
theorem dX3_hopesOf_6 : decode cX3_hopesOf 6 = .ok (.lstore_n 3, 1) := by decide +kernel
theorem dX3_hopesOf_7 : decode cX3_hopesOf 7 = .ok (.iconst 0, 1) := by decide +kernel
theorem dX3_hopesOf_8 : decode cX3_hopesOf 8 = .ok (.istore 5, 2) := by decide +kernel
theorem dX3_hopesOf_10 : decode cX3_hopesOf 10 = .ok (.iload 5, 2) := by decide +kernel
theorem dX3_hopesOf_12 : decode cX3_hopesOf 12 = .ok (.bipush 27, 2) := by decide +kernel
theorem dX3_hopesOf_14 : decode cX3_hopesOf 14 = .ok (.if_icmp .ge 43, 3) := by decide +kernel
theorem dX3_hopesOf_17 : decode cX3_hopesOf 17 = .ok (.aload_n 0, 1) := by decide +kernel
theorem dX3_hopesOf_18 : decode cX3_hopesOf 18 = .ok (.getfield 9, 3) := by decide +kernel
theorem dX3_hopesOf_21 : decode cX3_hopesOf 21 = .ok (.iload 5, 2) := by decide +kernel
theorem dX3_hopesOf_23 : decode cX3_hopesOf 23 = .ok (.laload, 1) := by decide +kernel
theorem dX3_hopesOf_24 : decode cX3_hopesOf 24 = .ok (.lconst 0, 1) := by decide +kernel
theorem dX3_hopesOf_25 : decode cX3_hopesOf 25 = .ok (.lcmp, 1) := by decide +kernel
theorem dX3_hopesOf_26 : decode cX3_hopesOf 26 = .ok (.ifCond .le 25, 3) := by decide +kernel
theorem dX3_hopesOf_29 : decode cX3_hopesOf 29 = .ok (.lload_n 3, 1) := by decide +kernel
theorem dX3_hopesOf_30 : decode cX3_hopesOf 30 = .ok (.aload_n 0, 1) := by decide +kernel
theorem dX3_hopesOf_31 : decode cX3_hopesOf 31 = .ok (.getfield 9, 3) := by decide +kernel
theorem dX3_hopesOf_34 : decode cX3_hopesOf 34 = .ok (.iload 5, 2) := by decide +kernel
theorem dX3_hopesOf_36 : decode cX3_hopesOf 36 = .ok (.laload, 1) := by decide +kernel
theorem dX3_hopesOf_37 : decode cX3_hopesOf 37 = .ok (.aload_n 0, 1) := by decide +kernel
theorem dX3_hopesOf_38 : decode cX3_hopesOf 38 = .ok (.getfield 26, 3) := by decide +kernel
theorem dX3_hopesOf_41 : decode cX3_hopesOf 41 = .ok (.iload_n 1, 1) := by decide +kernel
theorem dX3_hopesOf_42 : decode cX3_hopesOf 42 = .ok (.iload_n 2, 1) := by decide +kernel
theorem dX3_hopesOf_43 : decode cX3_hopesOf 43 = .ok (.iload 5, 2) := by decide +kernel
theorem dX3_hopesOf_45 : decode cX3_hopesOf 45 = .ok (.invokevirtual 66, 3) := by decide +kernel
theorem dX3_hopesOf_48 : decode cX3_hopesOf 48 = .ok (.lmul, 1) := by decide +kernel
theorem dX3_hopesOf_49 : decode cX3_hopesOf 49 = .ok (.ladd, 1) := by decide +kernel
theorem dX3_hopesOf_50 : decode cX3_hopesOf 50 = .ok (.lstore_n 3, 1) := by decide +kernel
theorem dX3_hopesOf_51 : decode cX3_hopesOf 51 = .ok (.iinc 5 1, 3) := by decide +kernel
theorem dX3_hopesOf_54 : decode cX3_hopesOf 54 = .ok (.goto (-44), 3) := by decide +kernel
theorem dX3_hopesOf_57 : decode cX3_hopesOf 57 = .ok (.lload_n 3, 1) := by decide +kernel
theorem dX3_hopesOf_58 : decode cX3_hopesOf 58 = .ok (.lreturn, 1) := by decide +kernel
theorem dX3_spread_0 : decode cX3_spread 0 = .ok (.aload_n 0, 1) := by decide +kernel
theorem dX3_spread_1 : decode cX3_spread 1 = .ok (.getfield 22, 3) := by decide +kernel
theorem dX3_spread_4 : decode cX3_spread 4 = .ok (.getfield 36, 3) := by decide +kernel
theorem dX3_spread_7 : decode cX3_spread 7 = .ok (.astore 5, 2) := by decide +kernel
theorem dX3_spread_9 : decode cX3_spread 9 = .ok (.aload_n 0, 1) := by decide +kernel
theorem dX3_spread_10 : decode cX3_spread 10 = .ok (.getfield 15, 3) := by decide +kernel
theorem dX3_spread_13 : decode cX3_spread 13 = .ok (.iload_n 2, 1) := by decide +kernel
theorem dX3_spread_14 : decode cX3_spread 14 = .ok (.dup2, 1) := by decide +kernel
theorem dX3_spread_15 : decode cX3_spread 15 = .ok (.laload, 1) := by decide +kernel
theorem dX3_spread_16 : decode cX3_spread 16 = .ok (.lload_n 3, 1) := by decide +kernel
theorem dX3_spread_17 : decode cX3_spread 17 = .ok (.aload 5, 2) := by decide +kernel
theorem dX3_spread_19 : decode cX3_spread 19 = .ok (.iload_n 1, 1) := by decide +kernel
theorem dX3_spread_20 : decode cX3_spread 20 = .ok (.invokevirtual 72, 3) := by decide +kernel
theorem dX3_spread_23 : decode cX3_spread 23 = .ok (.i2l, 1) := by decide +kernel
theorem dX3_spread_24 : decode cX3_spread 24 = .ok (.lmul, 1) := by decide +kernel
theorem dX3_spread_25 : decode cX3_spread 25 = .ok (.ladd, 1) := by decide +kernel
theorem dX3_spread_26 : decode cX3_spread 26 = .ok (.lastore, 1) := by decide +kernel
theorem dX3_spread_27 : decode cX3_spread 27 = .ok (.iconst 0, 1) := by decide +kernel
theorem dX3_spread_28 : decode cX3_spread 28 = .ok (.istore 6, 2) := by decide +kernel
theorem dX3_spread_30 : decode cX3_spread 30 = .ok (.iload 6, 2) := by decide +kernel
theorem dX3_spread_32 : decode cX3_spread 32 = .ok (.aload 5, 2) := by decide +kernel
theorem dX3_spread_34 : decode cX3_spread 34 = .ok (.getfield 76, 3) := by decide +kernel
theorem dX3_spread_37 : decode cX3_spread 37 = .ok (.if_icmp .ge 75, 3) := by decide +kernel
theorem dX3_spread_40 : decode cX3_spread 40 = .ok (.lload_n 3, 1) := by decide +kernel
theorem dX3_spread_41 : decode cX3_spread 41 = .ok (.aload 5, 2) := by decide +kernel
theorem dX3_spread_43 : decode cX3_spread 43 = .ok (.iload_n 1, 1) := by decide +kernel
theorem dX3_spread_44 : decode cX3_spread 44 = .ok (.iload 6, 2) := by decide +kernel
theorem dX3_spread_46 : decode cX3_spread 46 = .ok (.invokevirtual 80, 3) := by decide +kernel
theorem dX3_spread_49 : decode cX3_spread 49 = .ok (.i2l, 1) := by decide +kernel
theorem dX3_spread_50 : decode cX3_spread 50 = .ok (.lmul, 1) := by decide +kernel
theorem dX3_spread_51 : decode cX3_spread 51 = .ok (.lstore 7, 2) := by decide +kernel
theorem dX3_spread_53 : decode cX3_spread 53 = .ok (.lload 7, 2) := by decide +kernel
theorem dX3_spread_55 : decode cX3_spread 55 = .ok (.lconst 0, 1) := by decide +kernel
theorem dX3_spread_56 : decode cX3_spread 56 = .ok (.lcmp, 1) := by decide +kernel
theorem dX3_spread_57 : decode cX3_spread 57 = .ok (.ifCond .le 49, 3) := by decide +kernel
theorem dX3_spread_60 : decode cX3_spread 60 = .ok (.aload_n 0, 1) := by decide +kernel
theorem dX3_spread_61 : decode cX3_spread 61 = .ok (.getfield 26, 3) := by decide +kernel
theorem dX3_spread_64 : decode cX3_spread 64 = .ok (.iload_n 1, 1) := by decide +kernel
theorem dX3_spread_65 : decode cX3_spread 65 = .ok (.iload 6, 2) := by decide +kernel
theorem dX3_spread_67 : decode cX3_spread 67 = .ok (.iload_n 2, 1) := by decide +kernel
theorem dX3_spread_68 : decode cX3_spread 68 = .ok (.invokevirtual 84, 3) := by decide +kernel
theorem dX3_spread_71 : decode cX3_spread 71 = .ok (.istore 9, 2) := by decide +kernel
theorem dX3_spread_73 : decode cX3_spread 73 = .ok (.aload_n 0, 1) := by decide +kernel
theorem dX3_spread_74 : decode cX3_spread 74 = .ok (.getfield 15, 3) := by decide +kernel
theorem dX3_spread_77 : decode cX3_spread 77 = .ok (.iload 9, 2) := by decide +kernel
theorem dX3_spread_79 : decode cX3_spread 79 = .ok (.dup2, 1) := by decide +kernel
theorem dX3_spread_80 : decode cX3_spread 80 = .ok (.laload, 1) := by decide +kernel
theorem dX3_spread_81 : decode cX3_spread 81 = .ok (.lload 7, 2) := by decide +kernel
theorem dX3_spread_83 : decode cX3_spread 83 = .ok (.ladd, 1) := by decide +kernel
theorem dX3_spread_84 : decode cX3_spread 84 = .ok (.lastore, 1) := by decide +kernel
theorem dX3_spread_85 : decode cX3_spread 85 = .ok (.aload_n 0, 1) := by decide +kernel
theorem dX3_spread_86 : decode cX3_spread 86 = .ok (.dup, 1) := by decide +kernel
theorem dX3_spread_87 : decode cX3_spread 87 = .ok (.getfield 18, 3) := by decide +kernel
theorem dX3_spread_90 : decode cX3_spread 90 = .ok (.iload 9, 2) := by decide +kernel
theorem dX3_spread_92 : decode cX3_spread 92 = .ok (.iload_n 2, 1) := by decide +kernel
theorem dX3_spread_93 : decode cX3_spread 93 = .ok (.if_icmp .ne 7, 3) := by decide +kernel
theorem dX3_spread_96 : decode cX3_spread 96 = .ok (.lconst 0, 1) := by decide +kernel
theorem dX3_spread_97 : decode cX3_spread 97 = .ok (.goto 5, 3) := by decide +kernel
theorem dX3_spread_100 : decode cX3_spread 100 = .ok (.lload 7, 2) := by decide +kernel
theorem dX3_spread_102 : decode cX3_spread 102 = .ok (.ladd, 1) := by decide +kernel
theorem dX3_spread_103 : decode cX3_spread 103 = .ok (.putfield 18, 3) := by decide +kernel
theorem dX3_spread_106 : decode cX3_spread 106 = .ok (.iinc 6 1, 3) := by decide +kernel
theorem dX3_spread_109 : decode cX3_spread 109 = .ok (.goto (-79), 3) := by decide +kernel
theorem dX3_spread_112 : decode cX3_spread 112 = .ok (.return_, 1) := by decide +kernel
theorem dX4_init_0 : decode cX4_init 0 = .ok (.aload_n 0, 1) := by decide +kernel
theorem dX4_init_1 : decode cX4_init 1 = .ok (.invokespecial 3, 3) := by decide +kernel
theorem dX4_init_4 : decode cX4_init 4 = .ok (.aload_n 0, 1) := by decide +kernel
theorem dX4_init_5 : decode cX4_init 5 = .ok (.sipush 10368, 3) := by decide +kernel
theorem dX4_init_8 : decode cX4_init 8 = .ok (.newarray .int, 2) := by decide +kernel
theorem dX4_init_10 : decode cX4_init 10 = .ok (.putfield 9, 3) := by decide +kernel
theorem dX4_init_13 : decode cX4_init 13 = .ok (.aload_n 0, 1) := by decide +kernel
theorem dX4_init_14 : decode cX4_init 14 = .ok (.sipush 10368, 3) := by decide +kernel
theorem dX4_init_17 : decode cX4_init 17 = .ok (.newarray .long, 2) := by decide +kernel
theorem dX4_init_19 : decode cX4_init 19 = .ok (.putfield 15, 3) := by decide +kernel
theorem dX4_init_22 : decode cX4_init 22 = .ok (.aload_n 0, 1) := by decide +kernel
theorem dX4_init_23 : decode cX4_init 23 = .ok (.sipush 1728, 3) := by decide +kernel
theorem dX4_init_26 : decode cX4_init 26 = .ok (.newarray .int, 2) := by decide +kernel
theorem dX4_init_28 : decode cX4_init 28 = .ok (.putfield 19, 3) := by decide +kernel
theorem dX4_init_31 : decode cX4_init 31 = .ok (.aload_n 0, 1) := by decide +kernel
theorem dX4_init_32 : decode cX4_init 32 = .ok (.bipush 27, 2) := by decide +kernel
theorem dX4_init_34 : decode cX4_init 34 = .ok (.newarray .long, 2) := by decide +kernel
theorem dX4_init_36 : decode cX4_init 36 = .ok (.putfield 22, 3) := by decide +kernel
theorem dX4_init_39 : decode cX4_init 39 = .ok (.aload_n 0, 1) := by decide +kernel
theorem dX4_init_40 : decode cX4_init 40 = .ok (.iconst 0, 1) := by decide +kernel
theorem dX4_init_41 : decode cX4_init 41 = .ok (.putfield 25, 3) := by decide +kernel
theorem dX4_init_44 : decode cX4_init 44 = .ok (.aload_n 0, 1) := by decide +kernel
theorem dX4_init_45 : decode cX4_init 45 = .ok (.iconst 0, 1) := by decide +kernel
theorem dX4_init_46 : decode cX4_init 46 = .ok (.putfield 29, 3) := by decide +kernel
theorem dX4_init_49 : decode cX4_init 49 = .ok (.aload_n 0, 1) := by decide +kernel
theorem dX4_init_50 : decode cX4_init 50 = .ok (.aload_n 1, 1) := by decide +kernel
theorem dX4_init_51 : decode cX4_init 51 = .ok (.putfield 32, 3) := by decide +kernel
theorem dX4_init_54 : decode cX4_init 54 = .ok (.return_, 1) := by decide +kernel
theorem dX4_forgetAll_0 : decode cX4_forgetAll 0 = .ok (.aload_n 0, 1) := by decide +kernel
theorem dX4_forgetAll_1 : decode cX4_forgetAll 1 = .ok (.aload_n 0, 1) := by decide +kernel
theorem dX4_forgetAll_2 : decode cX4_forgetAll 2 = .ok (.getfield 32, 3) := by decide +kernel
theorem dX4_forgetAll_5 : decode cX4_forgetAll 5 = .ok (.getfield 36, 3) := by decide +kernel
theorem dX4_forgetAll_8 : decode cX4_forgetAll 8 = .ok (.getfield 42, 3) := by decide +kernel
theorem dX4_forgetAll_11 : decode cX4_forgetAll 11 = .ok (.putfield 25, 3) := by decide +kernel
theorem dX4_forgetAll_14 : decode cX4_forgetAll 14 = .ok (.aload_n 0, 1) := by decide +kernel
theorem dX4_forgetAll_15 : decode cX4_forgetAll 15 = .ok (.aload_n 0, 1) := by decide +kernel
theorem dX4_forgetAll_16 : decode cX4_forgetAll 16 = .ok (.getfield 32, 3) := by decide +kernel
theorem dX4_forgetAll_19 : decode cX4_forgetAll 19 = .ok (.getfield 36, 3) := by decide +kernel
theorem dX4_forgetAll_22 : decode cX4_forgetAll 22 = .ok (.getfield 42, 3) := by decide +kernel
theorem dX4_forgetAll_25 : decode cX4_forgetAll 25 = .ok (.putfield 29, 3) := by decide +kernel
theorem dX4_forgetAll_28 : decode cX4_forgetAll 28 = .ok (.return_, 1) := by decide +kernel
theorem dX4_forgetActs_0 : decode cX4_forgetActs 0 = .ok (.aload_n 0, 1) := by decide +kernel
theorem dX4_forgetActs_1 : decode cX4_forgetActs 1 = .ok (.aload_n 0, 1) := by decide +kernel
theorem dX4_forgetActs_2 : decode cX4_forgetActs 2 = .ok (.getfield 32, 3) := by decide +kernel
theorem dX4_forgetActs_5 : decode cX4_forgetActs 5 = .ok (.getfield 36, 3) := by decide +kernel
theorem dX4_forgetActs_8 : decode cX4_forgetActs 8 = .ok (.getfield 42, 3) := by decide +kernel
theorem dX4_forgetActs_11 : decode cX4_forgetActs 11 = .ok (.putfield 29, 3) := by decide +kernel
theorem dX4_forgetActs_14 : decode cX4_forgetActs 14 = .ok (.return_, 1) := by decide +kernel
theorem dX4_forgetUpTo_0 : decode cX4_forgetUpTo 0 = .ok (.aload_n 0, 1) := by decide +kernel
theorem dX4_forgetUpTo_1 : decode cX4_forgetUpTo 1 = .ok (.aload_n 0, 1) := by decide +kernel
theorem dX4_forgetUpTo_2 : decode cX4_forgetUpTo 2 = .ok (.getfield 29, 3) := by decide +kernel
theorem dX4_forgetUpTo_5 : decode cX4_forgetUpTo 5 = .ok (.iload_n 1, 1) := by decide +kernel
theorem dX4_forgetUpTo_6 : decode cX4_forgetUpTo 6 = .ok (.iconst 1, 1) := by decide +kernel
theorem dX4_forgetUpTo_7 : decode cX4_forgetUpTo 7 = .ok (.iadd, 1) := by decide +kernel
theorem dX4_forgetUpTo_8 : decode cX4_forgetUpTo 8 = .ok (.aload_n 0, 1) := by decide +kernel
theorem dX4_forgetUpTo_9 : decode cX4_forgetUpTo 9 = .ok (.getfield 32, 3) := by decide +kernel
theorem dX4_forgetUpTo_12 : decode cX4_forgetUpTo 12 = .ok (.getfield 36, 3) := by decide +kernel
theorem dX4_forgetUpTo_15 : decode cX4_forgetUpTo 15 = .ok (.getfield 42, 3) := by decide +kernel
theorem dX4_forgetUpTo_18 : decode cX4_forgetUpTo 18 = .ok (.invokestatic 47, 3) := by decide +kernel
theorem dX4_forgetUpTo_21 : decode cX4_forgetUpTo 21 = .ok (.invokestatic 53, 3) := by decide +kernel
theorem dX4_forgetUpTo_24 : decode cX4_forgetUpTo 24 = .ok (.putfield 29, 3) := by decide +kernel
theorem dX4_forgetUpTo_27 : decode cX4_forgetUpTo 27 = .ok (.return_, 1) := by decide +kernel
theorem dX4_solveFrom_0 : decode cX4_solveFrom 0 = .ok (.aload_n 0, 1) := by decide +kernel
theorem dX4_solveFrom_1 : decode cX4_solveFrom 1 = .ok (.getfield 25, 3) := by decide +kernel
theorem dX4_solveFrom_4 : decode cX4_solveFrom 4 = .ok (.iconst 1, 1) := by decide +kernel
theorem dX4_solveFrom_5 : decode cX4_solveFrom 5 = .ok (.isub, 1) := by decide +kernel
theorem dX4_solveFrom_6 : decode cX4_solveFrom 6 = .ok (.istore_n 2, 1) := by decide +kernel
theorem dX4_solveFrom_7 : decode cX4_solveFrom 7 = .ok (.iload_n 2, 1) := by decide +kernel
theorem dX4_solveFrom_8 : decode cX4_solveFrom 8 = .ok (.iload_n 1, 1) := by decide +kernel
theorem dX4_solveFrom_9 : decode cX4_solveFrom 9 = .ok (.if_icmp .lt 14, 3) := by decide +kernel
theorem dX4_solveFrom_12 : decode cX4_solveFrom 12 = .ok (.aload_n 0, 1) := by decide +kernel
theorem dX4_solveFrom_13 : decode cX4_solveFrom 13 = .ok (.iload_n 2, 1) := by decide +kernel
theorem dX4_solveFrom_14 : decode cX4_solveFrom 14 = .ok (.invokevirtual 56, 3) := by decide +kernel
theorem dX4_solveFrom_17 : decode cX4_solveFrom 17 = .ok (.iinc 2 (-1), 3) := by decide +kernel
theorem dX4_solveFrom_20 : decode cX4_solveFrom 20 = .ok (.goto (-13), 3) := by decide +kernel
theorem dX4_solveFrom_23 : decode cX4_solveFrom 23 = .ok (.aload_n 0, 1) := by decide +kernel
theorem dX4_solveFrom_24 : decode cX4_solveFrom 24 = .ok (.aload_n 0, 1) := by decide +kernel
theorem dX4_solveFrom_25 : decode cX4_solveFrom 25 = .ok (.getfield 25, 3) := by decide +kernel
theorem dX4_solveFrom_28 : decode cX4_solveFrom 28 = .ok (.iload_n 1, 1) := by decide +kernel
theorem dX4_solveFrom_29 : decode cX4_solveFrom 29 = .ok (.invokestatic 47, 3) := by decide +kernel
theorem dX4_solveFrom_32 : decode cX4_solveFrom 32 = .ok (.putfield 25, 3) := by decide +kernel
theorem dX4_solveFrom_35 : decode cX4_solveFrom 35 = .ok (.aload_n 0, 1) := by decide +kernel
theorem dX4_solveFrom_36 : decode cX4_solveFrom 36 = .ok (.getfield 29, 3) := by decide +kernel
theorem dX4_solveFrom_39 : decode cX4_solveFrom 39 = .ok (.iconst 1, 1) := by decide +kernel
theorem dX4_solveFrom_40 : decode cX4_solveFrom 40 = .ok (.isub, 1) := by decide +kernel
theorem dX4_solveFrom_41 : decode cX4_solveFrom 41 = .ok (.istore_n 2, 1) := by decide +kernel
theorem dX4_solveFrom_42 : decode cX4_solveFrom 42 = .ok (.iload_n 2, 1) := by decide +kernel
theorem dX4_solveFrom_43 : decode cX4_solveFrom 43 = .ok (.iload_n 1, 1) := by decide +kernel
theorem dX4_solveFrom_44 : decode cX4_solveFrom 44 = .ok (.if_icmp .lt 19, 3) := by decide +kernel
theorem dX4_solveFrom_47 : decode cX4_solveFrom 47 = .ok (.aload_n 0, 1) := by decide +kernel
theorem dX4_solveFrom_48 : decode cX4_solveFrom 48 = .ok (.iload_n 2, 1) := by decide +kernel
theorem dX4_solveFrom_49 : decode cX4_solveFrom 49 = .ok (.invokevirtual 60, 3) := by decide +kernel
theorem dX4_solveFrom_52 : decode cX4_solveFrom 52 = .ok (.aload_n 0, 1) := by decide +kernel
theorem dX4_solveFrom_53 : decode cX4_solveFrom 53 = .ok (.iload_n 2, 1) := by decide +kernel
theorem dX4_solveFrom_54 : decode cX4_solveFrom 54 = .ok (.invokevirtual 63, 3) := by decide +kernel
theorem dX4_solveFrom_57 : decode cX4_solveFrom 57 = .ok (.iinc 2 (-1), 3) := by decide +kernel
theorem dX4_solveFrom_60 : decode cX4_solveFrom 60 = .ok (.goto (-18), 3) := by decide +kernel
theorem dX4_solveFrom_63 : decode cX4_solveFrom 63 = .ok (.aload_n 0, 1) := by decide +kernel
theorem dX4_solveFrom_64 : decode cX4_solveFrom 64 = .ok (.aload_n 0, 1) := by decide +kernel
theorem dX4_solveFrom_65 : decode cX4_solveFrom 65 = .ok (.getfield 29, 3) := by decide +kernel
theorem dX4_solveFrom_68 : decode cX4_solveFrom 68 = .ok (.iload_n 1, 1) := by decide +kernel
theorem dX4_solveFrom_69 : decode cX4_solveFrom 69 = .ok (.invokestatic 47, 3) := by decide +kernel
theorem dX4_solveFrom_72 : decode cX4_solveFrom 72 = .ok (.putfield 29, 3) := by decide +kernel
theorem dX4_solveFrom_75 : decode cX4_solveFrom 75 = .ok (.return_, 1) := by decide +kernel
theorem dX4_choiceOf_0 : decode cX4_choiceOf 0 = .ok (.aload_n 0, 1) := by decide +kernel
theorem dX4_choiceOf_1 : decode cX4_choiceOf 1 = .ok (.getfield 19, 3) := by decide +kernel
theorem dX4_choiceOf_4 : decode cX4_choiceOf 4 = .ok (.iload_n 1, 1) := by decide +kernel
theorem dX4_choiceOf_5 : decode cX4_choiceOf 5 = .ok (.iload_n 2, 1) := by decide +kernel
theorem dX4_choiceOf_6 : decode cX4_choiceOf 6 = .ok (.iload_n 3, 1) := by decide +kernel
theorem dX4_choiceOf_7 : decode cX4_choiceOf 7 = .ok (.invokestatic 66, 3) := by decide +kernel
theorem dX4_choiceOf_10 : decode cX4_choiceOf 10 = .ok (.iaload, 1) := by decide +kernel
theorem dX4_choiceOf_11 : decode cX4_choiceOf 11 = .ok (.ireturn, 1) := by decide +kernel
theorem dX4_sumOf_0 : decode cX4_sumOf 0 = .ok (.aload_n 0, 1) := by decide +kernel
theorem dX4_sumOf_1 : decode cX4_sumOf 1 = .ok (.getfield 15, 3) := by decide +kernel
theorem dX4_sumOf_4 : decode cX4_sumOf 4 = .ok (.iload_n 1, 1) := by decide +kernel
theorem dX4_sumOf_5 : decode cX4_sumOf 5 = .ok (.iload_n 2, 1) := by decide +kernel
theorem dX4_sumOf_6 : decode cX4_sumOf 6 = .ok (.iload_n 3, 1) := by decide +kernel
theorem dX4_sumOf_7 : decode cX4_sumOf 7 = .ok (.iload 4, 2) := by decide +kernel
theorem dX4_sumOf_9 : decode cX4_sumOf 9 = .ok (.invokestatic 70, 3) := by decide +kernel
theorem dX4_sumOf_12 : decode cX4_sumOf 12 = .ok (.laload, 1) := by decide +kernel
theorem dX4_sumOf_13 : decode cX4_sumOf 13 = .ok (.lreturn, 1) := by decide +kernel
theorem dX4_worthAt_0 : decode cX4_worthAt 0 = .ok (.aload_n 0, 1) := by decide +kernel
theorem dX4_worthAt_1 : decode cX4_worthAt 1 = .ok (.getfield 9, 3) := by decide +kernel
theorem dX4_worthAt_4 : decode cX4_worthAt 4 = .ok (.iload_n 1, 1) := by decide +kernel
theorem dX4_worthAt_5 : decode cX4_worthAt 5 = .ok (.iload_n 2, 1) := by decide +kernel
theorem dX4_worthAt_6 : decode cX4_worthAt 6 = .ok (.iload_n 3, 1) := by decide +kernel
theorem dX4_worthAt_7 : decode cX4_worthAt 7 = .ok (.iload 4, 2) := by decide +kernel
theorem dX4_worthAt_9 : decode cX4_worthAt 9 = .ok (.invokestatic 70, 3) := by decide +kernel
theorem dX4_worthAt_12 : decode cX4_worthAt 12 = .ok (.iaload, 1) := by decide +kernel
theorem dX4_worthAt_13 : decode cX4_worthAt 13 = .ok (.ireturn, 1) := by decide +kernel
theorem dX4_valueWith_0 : decode cX4_valueWith 0 = .ok (.aload_n 0, 1) := by decide +kernel
theorem dX4_valueWith_1 : decode cX4_valueWith 1 = .ok (.iload_n 1, 1) := by decide +kernel
theorem dX4_valueWith_2 : decode cX4_valueWith 2 = .ok (.iload_n 2, 1) := by decide +kernel
theorem dX4_valueWith_3 : decode cX4_valueWith 3 = .ok (.iconst 0, 1) := by decide +kernel
theorem dX4_valueWith_4 : decode cX4_valueWith 4 = .ok (.iload 4, 2) := by decide +kernel
theorem dX4_valueWith_6 : decode cX4_valueWith 6 = .ok (.invokevirtual 74, 3) := by decide +kernel
theorem dX4_valueWith_9 : decode cX4_valueWith 9 = .ok (.aload_n 0, 1) := by decide +kernel
theorem dX4_valueWith_10 : decode cX4_valueWith 10 = .ok (.getfield 32, 3) := by decide +kernel
theorem dX4_valueWith_13 : decode cX4_valueWith 13 = .ok (.getfield 36, 3) := by decide +kernel
theorem dX4_valueWith_16 : decode cX4_valueWith 16 = .ok (.iload_n 3, 1) := by decide +kernel
theorem dX4_valueWith_17 : decode cX4_valueWith 17 = .ok (.iload 4, 2) := by decide +kernel
theorem dX4_valueWith_19 : decode cX4_valueWith 19 = .ok (.invokevirtual 78, 3) := by decide +kernel
theorem dX4_valueWith_22 : decode cX4_valueWith 22 = .ok (.i2l, 1) := by decide +kernel
theorem dX4_valueWith_23 : decode cX4_valueWith 23 = .ok (.ldc2_w 81, 3) := by decide +kernel
theorem dX4_valueWith_26 : decode cX4_valueWith 26 = .ok (.lmul, 1) := by decide +kernel
theorem dX4_valueWith_27 : decode cX4_valueWith 27 = .ok (.lsub, 1) := by decide +kernel
theorem dX4_valueWith_28 : decode cX4_valueWith 28 = .ok (.lreturn, 1) := by decide +kernel
theorem dX4_valueOf_0 : decode cX4_valueOf 0 = .ok (.aload_n 0, 1) := by decide +kernel
theorem dX4_valueOf_1 : decode cX4_valueOf 1 = .ok (.iload_n 1, 1) := by decide +kernel
theorem dX4_valueOf_2 : decode cX4_valueOf 2 = .ok (.iload_n 2, 1) := by decide +kernel
theorem dX4_valueOf_3 : decode cX4_valueOf 3 = .ok (.iload_n 3, 1) := by decide +kernel
theorem dX4_valueOf_4 : decode cX4_valueOf 4 = .ok (.aload_n 0, 1) := by decide +kernel
theorem dX4_valueOf_5 : decode cX4_valueOf 5 = .ok (.iload_n 1, 1) := by decide +kernel
theorem dX4_valueOf_6 : decode cX4_valueOf 6 = .ok (.iload_n 2, 1) := by decide +kernel
theorem dX4_valueOf_7 : decode cX4_valueOf 7 = .ok (.iload_n 3, 1) := by decide +kernel
theorem dX4_valueOf_8 : decode cX4_valueOf 8 = .ok (.invokevirtual 83, 3) := by decide +kernel
theorem dX4_valueOf_11 : decode cX4_valueOf 11 = .ok (.invokevirtual 86, 3) := by decide +kernel
theorem dX4_valueOf_14 : decode cX4_valueOf 14 = .ok (.lreturn, 1) := by decide +kernel
theorem dX4_plainChoice_0 : decode cX4_plainChoice 0 = .ok (.aload_n 0, 1) := by decide +kernel
theorem dX4_plainChoice_1 : decode cX4_plainChoice 1 = .ok (.iload_n 1, 1) := by decide +kernel
theorem dX4_plainChoice_2 : decode cX4_plainChoice 2 = .ok (.iload 4, 2) := by decide +kernel
theorem dX4_plainChoice_4 : decode cX4_plainChoice 4 = .ok (.invokevirtual 89, 3) := by decide +kernel
theorem dX4_plainChoice_7 : decode cX4_plainChoice 7 = .ok (.aload_n 0, 1) := by decide +kernel
theorem dX4_plainChoice_8 : decode cX4_plainChoice 8 = .ok (.iload_n 1, 1) := by decide +kernel
theorem dX4_plainChoice_9 : decode cX4_plainChoice 9 = .ok (.iload_n 2, 1) := by decide +kernel
theorem dX4_plainChoice_10 : decode cX4_plainChoice 10 = .ok (.iload_n 3, 1) := by decide +kernel
theorem dX4_plainChoice_11 : decode cX4_plainChoice 11 = .ok (.invokevirtual 93, 3) := by decide +kernel
theorem dX4_plainChoice_14 : decode cX4_plainChoice 14 = .ok (.aload_n 0, 1) := by decide +kernel
theorem dX4_plainChoice_15 : decode cX4_plainChoice 15 = .ok (.invokevirtual 97, 3) := by decide +kernel
theorem dX4_plainChoice_18 : decode cX4_plainChoice 18 = .ok (.ireturn, 1) := by decide +kernel
theorem dX4_beginScores_0 : decode cX4_beginScores 0 = .ok (.aload_n 0, 1) := by decide +kernel
theorem dX4_beginScores_1 : decode cX4_beginScores 1 = .ok (.getfield 32, 3) := by decide +kernel
theorem dX4_beginScores_4 : decode cX4_beginScores 4 = .ok (.iload_n 1, 1) := by decide +kernel
theorem dX4_beginScores_5 : decode cX4_beginScores 5 = .ok (.iload_n 2, 1) := by decide +kernel
theorem dX4_beginScores_6 : decode cX4_beginScores 6 = .ok (.invokevirtual 101, 3) := by decide +kernel
theorem dX4_beginScores_9 : decode cX4_beginScores 9 = .ok (.aload_n 0, 1) := by decide +kernel
theorem dX4_beginScores_10 : decode cX4_beginScores 10 = .ok (.getfield 22, 3) := by decide +kernel
theorem dX4_beginScores_13 : decode cX4_beginScores 13 = .ok (.lconst 0, 1) := by decide +kernel
theorem dX4_beginScores_14 : decode cX4_beginScores 14 = .ok (.invokestatic 104, 3) := by decide +kernel
theorem dX4_beginScores_17 : decode cX4_beginScores 17 = .ok (.return_, 1) := by decide +kernel
theorem dX4_addScores_0 : decode cX4_addScores 0 = .ok (.aload_n 0, 1) := by decide +kernel
theorem dX4_addScores_1 : decode cX4_addScores 1 = .ok (.getfield 32, 3) := by decide +kernel
theorem dX4_addScores_4 : decode cX4_addScores 4 = .ok (.getfield 36, 3) := by decide +kernel
theorem dX4_addScores_7 : decode cX4_addScores 7 = .ok (.getfield 110, 3) := by decide +kernel
theorem dX4_addScores_10 : decode cX4_addScores 10 = .ok (.iload_n 3, 1) := by decide +kernel
theorem dX4_addScores_11 : decode cX4_addScores 11 = .ok (.isub, 1) := by decide +kernel
theorem dX4_addScores_12 : decode cX4_addScores 12 = .ok (.aload_n 0, 1) := by decide +kernel
