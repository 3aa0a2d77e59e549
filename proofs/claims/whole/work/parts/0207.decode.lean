theorem dX11_order_36 : decode cX11_order 36 = .ok (.iadd, 1) := by decide +kernel
theorem dX11_order_37 : decode cX11_order 37 = .ok (.invokevirtual 354, 3) := by decide +kernel
theorem dX11_order_40 : decode cX11_order 40 = .ok (.ifCond .eq 7, 3) := by decide +kernel
theorem dX11_order_43 : decode cX11_order 43 = .ok (.iconst 1, 1) := by decide +kernel
theorem dX11_order_44 : decode cX11_order 44 = .ok (.goto 4, 3) := by decide +kernel
theorem dX11_order_47 : decode cX11_order 47 = .ok (.iconst 0, 1) := by decide +kernel
theorem dX11_order_48 : decode cX11_order 48 = .ok (.istore 7, 2) := by decide +kernel
theorem dX11_order_50 : decode cX11_order 50 = .ok (.aload_n 0, 1) := by decide +kernel
theorem dX11_order_51 : decode cX11_order 51 = .ok (.iload 7, 2) := by decide +kernel
theorem dX11_order_53 : decode cX11_order 53 = .ok (.ifCond .eq 15, 3) := by decide +kernel
theorem dX11_order_56 : decode cX11_order 56 = .ok (.iload 6, 2) := by decide +kernel
theorem dX11_order_58 : decode cX11_order 58 = .ok (.invokestatic 436, 3) := by decide +kernel
theorem dX11_order_61 : decode cX11_order 61 = .ok (.ifCond .eq 7, 3) := by decide +kernel
theorem dX11_order_64 : decode cX11_order 64 = .ok (.iconst 0, 1) := by decide +kernel
theorem dX11_order_65 : decode cX11_order 65 = .ok (.goto 4, 3) := by decide +kernel
theorem dX11_order_68 : decode cX11_order 68 = .ok (.iconst 1, 1) := by decide +kernel
theorem dX11_order_69 : decode cX11_order 69 = .ok (.putfield 1, 3) := by decide +kernel
theorem dX11_order_72 : decode cX11_order 72 = .ok (.aload_n 0, 1) := by decide +kernel
theorem dX11_order_73 : decode cX11_order 73 = .ok (.getfield 1, 3) := by decide +kernel
theorem dX11_order_76 : decode cX11_order 76 = .ok (.ifCond .le 5, 3) := by decide +kernel
theorem dX11_order_79 : decode cX11_order 79 = .ok (.lconst 0, 1) := by decide +kernel
theorem dX11_order_80 : decode cX11_order 80 = .ok (.lreturn, 1) := by decide +kernel
theorem dX11_order_81 : decode cX11_order 81 = .ok (.aload_n 0, 1) := by decide +kernel
theorem dX11_order_82 : decode cX11_order 82 = .ok (.getfield 73, 3) := by decide +kernel
theorem dX11_order_85 : decode cX11_order 85 = .ok (.bipush 45, 2) := by decide +kernel
theorem dX11_order_87 : decode cX11_order 87 = .ok (.iload_n 3, 1) := by decide +kernel
theorem dX11_order_88 : decode cX11_order 88 = .ok (.iadd, 1) := by decide +kernel
theorem dX11_order_89 : decode cX11_order 89 = .ok (.iaload, 1) := by decide +kernel
theorem dX11_order_90 : decode cX11_order 90 = .ok (.istore 8, 2) := by decide +kernel
theorem dX11_order_92 : decode cX11_order 92 = .ok (.aload_n 0, 1) := by decide +kernel
theorem dX11_order_93 : decode cX11_order 93 = .ok (.getfield 73, 3) := by decide +kernel
theorem dX11_order_96 : decode cX11_order 96 = .ok (.bipush 45, 2) := by decide +kernel
theorem dX11_order_98 : decode cX11_order 98 = .ok (.iload_n 3, 1) := by decide +kernel
theorem dX11_order_99 : decode cX11_order 99 = .ok (.iadd, 1) := by decide +kernel
theorem dX11_order_100 : decode cX11_order 100 = .ok (.iconst 1, 1) := by decide +kernel
theorem dX11_order_101 : decode cX11_order 101 = .ok (.iadd, 1) := by decide +kernel
theorem dX11_order_102 : decode cX11_order 102 = .ok (.iaload, 1) := by decide +kernel
theorem dX11_order_103 : decode cX11_order 103 = .ok (.istore 9, 2) := by decide +kernel
theorem dX11_order_105 : decode cX11_order 105 = .ok (.aload_n 0, 1) := by decide +kernel
theorem dX11_order_106 : decode cX11_order 106 = .ok (.iload_n 1, 1) := by decide +kernel
theorem dX11_order_107 : decode cX11_order 107 = .ok (.iload_n 2, 1) := by decide +kernel
theorem dX11_order_108 : decode cX11_order 108 = .ok (.iload_n 3, 1) := by decide +kernel
theorem dX11_order_109 : decode cX11_order 109 = .ok (.iload 4, 2) := by decide +kernel
theorem dX11_order_111 : decode cX11_order 111 = .ok (.iload 5, 2) := by decide +kernel
theorem dX11_order_113 : decode cX11_order 113 = .ok (.invokevirtual 491, 3) := by decide +kernel
theorem dX11_order_116 : decode cX11_order 116 = .ok (.lstore 10, 2) := by decide +kernel
theorem dX11_order_118 : decode cX11_order 118 = .ok (.aload_n 0, 1) := by decide +kernel
theorem dX11_order_119 : decode cX11_order 119 = .ok (.iload_n 2, 1) := by decide +kernel
theorem dX11_order_120 : decode cX11_order 120 = .ok (.iload_n 1, 1) := by decide +kernel
theorem dX11_order_121 : decode cX11_order 121 = .ok (.iload_n 3, 1) := by decide +kernel
theorem dX11_order_122 : decode cX11_order 122 = .ok (.iload 4, 2) := by decide +kernel
theorem dX11_order_124 : decode cX11_order 124 = .ok (.iload 5, 2) := by decide +kernel
theorem dX11_order_126 : decode cX11_order 126 = .ok (.invokevirtual 491, 3) := by decide +kernel
theorem dX11_order_129 : decode cX11_order 129 = .ok (.lstore 12, 2) := by decide +kernel
theorem dX11_order_131 : decode cX11_order 131 = .ok (.aload_n 0, 1) := by decide +kernel
theorem dX11_order_132 : decode cX11_order 132 = .ok (.getfield 73, 3) := by decide +kernel
theorem dX11_order_135 : decode cX11_order 135 = .ok (.bipush 45, 2) := by decide +kernel
theorem dX11_order_137 : decode cX11_order 137 = .ok (.iload_n 3, 1) := by decide +kernel
theorem dX11_order_138 : decode cX11_order 138 = .ok (.iadd, 1) := by decide +kernel
theorem dX11_order_139 : decode cX11_order 139 = .ok (.iload 8, 2) := by decide +kernel
theorem dX11_order_141 : decode cX11_order 141 = .ok (.iastore, 1) := by decide +kernel
theorem dX11_order_142 : decode cX11_order 142 = .ok (.aload_n 0, 1) := by decide +kernel
theorem dX11_order_143 : decode cX11_order 143 = .ok (.getfield 73, 3) := by decide +kernel
theorem dX11_order_146 : decode cX11_order 146 = .ok (.bipush 45, 2) := by decide +kernel
theorem dX11_order_148 : decode cX11_order 148 = .ok (.iload_n 3, 1) := by decide +kernel
theorem dX11_order_149 : decode cX11_order 149 = .ok (.iadd, 1) := by decide +kernel
theorem dX11_order_150 : decode cX11_order 150 = .ok (.iconst 1, 1) := by decide +kernel
theorem dX11_order_151 : decode cX11_order 151 = .ok (.iadd, 1) := by decide +kernel
theorem dX11_order_152 : decode cX11_order 152 = .ok (.iload 9, 2) := by decide +kernel
theorem dX11_order_154 : decode cX11_order 154 = .ok (.iastore, 1) := by decide +kernel
theorem dX11_order_155 : decode cX11_order 155 = .ok (.aload_n 0, 1) := by decide +kernel
theorem dX11_order_156 : decode cX11_order 156 = .ok (.iconst 1, 1) := by decide +kernel
theorem dX11_order_157 : decode cX11_order 157 = .ok (.putfield 163, 3) := by decide +kernel
theorem dX11_order_160 : decode cX11_order 160 = .ok (.aload_n 0, 1) := by decide +kernel
theorem dX11_order_161 : decode cX11_order 161 = .ok (.lload 10, 2) := by decide +kernel
theorem dX11_order_163 : decode cX11_order 163 = .ok (.lload 12, 2) := by decide +kernel
theorem dX11_order_165 : decode cX11_order 165 = .ok (.lsub, 1) := by decide +kernel
theorem dX11_order_166 : decode cX11_order 166 = .ok (.aload_n 0, 1) := by decide +kernel
theorem dX11_order_167 : decode cX11_order 167 = .ok (.iload_n 3, 1) := by decide +kernel
theorem dX11_order_168 : decode cX11_order 168 = .ok (.invokevirtual 442, 3) := by decide +kernel
theorem dX11_order_171 : decode cX11_order 171 = .ok (.invokevirtual 446, 3) := by decide +kernel
theorem dX11_order_174 : decode cX11_order 174 = .ok (.aload_n 0, 1) := by decide +kernel
theorem dX11_order_175 : decode cX11_order 175 = .ok (.iload 6, 2) := by decide +kernel
theorem dX11_order_177 : decode cX11_order 177 = .ok (.invokevirtual 450, 3) := by decide +kernel
theorem dX11_order_180 : decode cX11_order 180 = .ok (.lreturn, 1) := by decide +kernel
theorem dX11_draw_0 : decode cX11_draw 0 = .ok (.aload_n 0, 1) := by decide +kernel
theorem dX11_draw_1 : decode cX11_draw 1 = .ok (.aload_n 0, 1) := by decide +kernel
theorem dX11_draw_2 : decode cX11_draw 2 = .ok (.getfield 495, 3) := by decide +kernel
theorem dX11_draw_5 : decode cX11_draw 5 = .ok (.ldc2_w 498, 3) := by decide +kernel
theorem dX11_draw_8 : decode cX11_draw 8 = .ok (.lmul, 1) := by decide +kernel
theorem dX11_draw_9 : decode cX11_draw 9 = .ok (.ldc2_w 500, 3) := by decide +kernel
theorem dX11_draw_12 : decode cX11_draw 12 = .ok (.ladd, 1) := by decide +kernel
theorem dX11_draw_13 : decode cX11_draw 13 = .ok (.ldc2_w 502, 3) := by decide +kernel
theorem dX11_draw_16 : decode cX11_draw 16 = .ok (.lrem, 1) := by decide +kernel
theorem dX11_draw_17 : decode cX11_draw 17 = .ok (.putfield 495, 3) := by decide +kernel
theorem dX11_draw_20 : decode cX11_draw 20 = .ok (.aload_n 0, 1) := by decide +kernel
theorem dX11_draw_21 : decode cX11_draw 21 = .ok (.getfield 495, 3) := by decide +kernel
theorem dX11_draw_24 : decode cX11_draw 24 = .ok (.ldc2_w 504, 3) := by decide +kernel
theorem dX11_draw_27 : decode cX11_draw 27 = .ok (.ldiv, 1) := by decide +kernel
theorem dX11_draw_28 : decode cX11_draw 28 = .ok (.iload_n 1, 1) := by decide +kernel
theorem dX11_draw_29 : decode cX11_draw 29 = .ok (.i2l, 1) := by decide +kernel
theorem dX11_draw_30 : decode cX11_draw 30 = .ok (.lrem, 1) := by decide +kernel
theorem dX11_draw_31 : decode cX11_draw 31 = .ok (.l2i, 1) := by decide +kernel
theorem dX11_draw_32 : decode cX11_draw 32 = .ok (.ireturn, 1) := by decide +kernel
theorem dX11_comes_0 : decode cX11_comes 0 = .ok (.aload_n 0, 1) := by decide +kernel
theorem dX11_comes_1 : decode cX11_comes 1 = .ok (.getfield 73, 3) := by decide +kernel
theorem dX11_comes_4 : decode cX11_comes 4 = .ok (.bipush 29, 2) := by decide +kernel
theorem dX11_comes_6 : decode cX11_comes 6 = .ok (.iload_n 1, 1) := by decide +kernel
theorem dX11_comes_7 : decode cX11_comes 7 = .ok (.iadd, 1) := by decide +kernel
theorem dX11_comes_8 : decode cX11_comes 8 = .ok (.iaload, 1) := by decide +kernel
theorem dX11_comes_9 : decode cX11_comes 9 = .ok (.istore_n 2, 1) := by decide +kernel
theorem dX11_comes_10 : decode cX11_comes 10 = .ok (.iload_n 2, 1) := by decide +kernel
theorem dX11_comes_11 : decode cX11_comes 11 = .ok (.ifCond .le 17, 3) := by decide +kernel
theorem dX11_comes_14 : decode cX11_comes 14 = .ok (.iload_n 2, 1) := by decide +kernel
theorem dX11_comes_15 : decode cX11_comes 15 = .ok (.iconst 2, 1) := by decide +kernel
theorem dX11_comes_16 : decode cX11_comes 16 = .ok (.isub, 1) := by decide +kernel
theorem dX11_comes_17 : decode cX11_comes 17 = .ok (.ifCond .ge 7, 3) := by decide +kernel
theorem dX11_comes_20 : decode cX11_comes 20 = .ok (.iconst (-1), 1) := by decide +kernel
theorem dX11_comes_21 : decode cX11_comes 21 = .ok (.goto 6, 3) := by decide +kernel
theorem dX11_comes_24 : decode cX11_comes 24 = .ok (.iload_n 2, 1) := by decide +kernel
theorem dX11_comes_25 : decode cX11_comes 25 = .ok (.iconst 2, 1) := by decide +kernel
theorem dX11_comes_26 : decode cX11_comes 26 = .ok (.isub, 1) := by decide +kernel
theorem dX11_comes_27 : decode cX11_comes 27 = .ok (.ireturn, 1) := by decide +kernel
theorem dX11_comes_28 : decode cX11_comes 28 = .ok (.aload_n 0, 1) := by decide +kernel
theorem dX11_comes_29 : decode cX11_comes 29 = .ok (.bipush 6, 2) := by decide +kernel
theorem dX11_comes_31 : decode cX11_comes 31 = .ok (.invokevirtual 506, 3) := by decide +kernel
theorem dX11_comes_34 : decode cX11_comes 34 = .ok (.istore_n 3, 1) := by decide +kernel
theorem dX11_comes_35 : decode cX11_comes 35 = .ok (.iconst 0, 1) := by decide +kernel
theorem dX11_comes_36 : decode cX11_comes 36 = .ok (.istore 4, 2) := by decide +kernel
theorem dX11_comes_38 : decode cX11_comes 38 = .ok (.iload 4, 2) := by decide +kernel
theorem dX11_comes_40 : decode cX11_comes 40 = .ok (.aload_n 0, 1) := by decide +kernel
theorem dX11_comes_41 : decode cX11_comes 41 = .ok (.invokevirtual 323, 3) := by decide +kernel
theorem dX11_comes_44 : decode cX11_comes 44 = .ok (.if_icmp .ge 29, 3) := by decide +kernel
theorem dX11_comes_47 : decode cX11_comes 47 = .ok (.iload_n 3, 1) := by decide +kernel
theorem dX11_comes_48 : decode cX11_comes 48 = .ok (.aload_n 0, 1) := by decide +kernel
theorem dX11_comes_49 : decode cX11_comes 49 = .ok (.getfield 73, 3) := by decide +kernel
theorem dX11_comes_52 : decode cX11_comes 52 = .ok (.bipush 18, 2) := by decide +kernel
theorem dX11_comes_54 : decode cX11_comes 54 = .ok (.iload 4, 2) := by decide +kernel
theorem dX11_comes_56 : decode cX11_comes 56 = .ok (.iadd, 1) := by decide +kernel
theorem dX11_comes_57 : decode cX11_comes 57 = .ok (.iaload, 1) := by decide +kernel
theorem dX11_comes_58 : decode cX11_comes 58 = .ok (.isub, 1) := by decide +kernel
theorem dX11_comes_59 : decode cX11_comes 59 = .ok (.istore_n 3, 1) := by decide +kernel
theorem dX11_comes_60 : decode cX11_comes 60 = .ok (.iload_n 3, 1) := by decide +kernel
theorem dX11_comes_61 : decode cX11_comes 61 = .ok (.ifCond .ge 6, 3) := by decide +kernel
theorem dX11_comes_64 : decode cX11_comes 64 = .ok (.iload 4, 2) := by decide +kernel
theorem dX11_comes_66 : decode cX11_comes 66 = .ok (.ireturn, 1) := by decide +kernel
theorem dX11_comes_67 : decode cX11_comes 67 = .ok (.iinc 4 1, 3) := by decide +kernel
theorem dX11_comes_70 : decode cX11_comes 70 = .ok (.goto (-32), 3) := by decide +kernel
theorem dX11_comes_73 : decode cX11_comes 73 = .ok (.iconst (-1), 1) := by decide +kernel
theorem dX11_comes_74 : decode cX11_comes 74 = .ok (.ireturn, 1) := by decide +kernel
theorem dX11_askedBy_0 : decode cX11_askedBy 0 = .ok (.iload_n 1, 1) := by decide +kernel
theorem dX11_askedBy_1 : decode cX11_askedBy 1 = .ok (.iconst 2, 1) := by decide +kernel
theorem dX11_askedBy_2 : decode cX11_askedBy 2 = .ok (.if_icmp .ge 7, 3) := by decide +kernel
theorem dX11_askedBy_5 : decode cX11_askedBy 5 = .ok (.iconst 0, 1) := by decide +kernel
theorem dX11_askedBy_6 : decode cX11_askedBy 6 = .ok (.goto 18, 3) := by decide +kernel
theorem dX11_askedBy_9 : decode cX11_askedBy 9 = .ok (.iload_n 1, 1) := by decide +kernel
theorem dX11_askedBy_10 : decode cX11_askedBy 10 = .ok (.iconst 2, 1) := by decide +kernel
theorem dX11_askedBy_11 : decode cX11_askedBy 11 = .ok (.if_icmp .ne 12, 3) := by decide +kernel
theorem dX11_askedBy_14 : decode cX11_askedBy 14 = .ok (.aload_n 0, 1) := by decide +kernel
theorem dX11_askedBy_15 : decode cX11_askedBy 15 = .ok (.invokevirtual 365, 3) := by decide +kernel
theorem dX11_askedBy_18 : decode cX11_askedBy 18 = .ok (.iconst 1, 1) := by decide +kernel
theorem dX11_askedBy_19 : decode cX11_askedBy 19 = .ok (.isub, 1) := by decide +kernel
theorem dX11_askedBy_20 : decode cX11_askedBy 20 = .ok (.goto 4, 3) := by decide +kernel
theorem dX11_askedBy_23 : decode cX11_askedBy 23 = .ok (.iconst (-1), 1) := by decide +kernel
theorem dX11_askedBy_24 : decode cX11_askedBy 24 = .ok (.istore_n 3, 1) := by decide +kernel
theorem dX11_askedBy_25 : decode cX11_askedBy 25 = .ok (.iload_n 1, 1) := by decide +kernel
theorem dX11_askedBy_26 : decode cX11_askedBy 26 = .ok (.iconst 3, 1) := by decide +kernel
theorem dX11_askedBy_27 : decode cX11_askedBy 27 = .ok (.if_icmp .ne 14, 3) := by decide +kernel
theorem dX11_askedBy_30 : decode cX11_askedBy 30 = .ok (.aload_n 0, 1) := by decide +kernel
theorem dX11_askedBy_31 : decode cX11_askedBy 31 = .ok (.aload_n 0, 1) := by decide +kernel
theorem dX11_askedBy_32 : decode cX11_askedBy 32 = .ok (.invokevirtual 365, 3) := by decide +kernel
theorem dX11_askedBy_35 : decode cX11_askedBy 35 = .ok (.invokevirtual 506, 3) := by decide +kernel
theorem dX11_askedBy_38 : decode cX11_askedBy 38 = .ok (.goto 4, 3) := by decide +kernel
theorem dX11_askedBy_41 : decode cX11_askedBy 41 = .ok (.iload_n 3, 1) := by decide +kernel
theorem dX11_askedBy_42 : decode cX11_askedBy 42 = .ok (.istore_n 3, 1) := by decide +kernel
theorem dX11_askedBy_43 : decode cX11_askedBy 43 = .ok (.iload_n 1, 1) := by decide +kernel
theorem dX11_askedBy_44 : decode cX11_askedBy 44 = .ok (.iconst 4, 1) := by decide +kernel
theorem dX11_askedBy_45 : decode cX11_askedBy 45 = .ok (.if_icmp .ne 54, 3) := by decide +kernel
theorem dX11_askedBy_48 : decode cX11_askedBy 48 = .ok (.iconst (-1), 1) := by decide +kernel
theorem dX11_askedBy_49 : decode cX11_askedBy 49 = .ok (.istore 4, 2) := by decide +kernel
theorem dX11_askedBy_51 : decode cX11_askedBy 51 = .ok (.iconst 0, 1) := by decide +kernel
theorem dX11_askedBy_52 : decode cX11_askedBy 52 = .ok (.istore 5, 2) := by decide +kernel
theorem dX11_askedBy_54 : decode cX11_askedBy 54 = .ok (.iload 5, 2) := by decide +kernel
theorem dX11_askedBy_56 : decode cX11_askedBy 56 = .ok (.iload_n 2, 1) := by decide +kernel
theorem dX11_askedBy_57 : decode cX11_askedBy 57 = .ok (.if_icmp .gt 39, 3) := by decide +kernel
theorem dX11_askedBy_60 : decode cX11_askedBy 60 = .ok (.iload_n 2, 1) := by decide +kernel
theorem dX11_askedBy_61 : decode cX11_askedBy 61 = .ok (.iload 5, 2) := by decide +kernel
theorem dX11_askedBy_63 : decode cX11_askedBy 63 = .ok (.isub, 1) := by decide +kernel
theorem dX11_askedBy_64 : decode cX11_askedBy 64 = .ok (.aload_n 0, 1) := by decide +kernel
theorem dX11_askedBy_65 : decode cX11_askedBy 65 = .ok (.invokevirtual 365, 3) := by decide +kernel
theorem dX11_askedBy_68 : decode cX11_askedBy 68 = .ok (.if_icmp .ge 18, 3) := by decide +kernel
theorem dX11_askedBy_71 : decode cX11_askedBy 71 = .ok (.aload_n 0, 1) := by decide +kernel
theorem dX11_askedBy_72 : decode cX11_askedBy 72 = .ok (.getfield 133, 3) := by decide +kernel
theorem dX11_askedBy_75 : decode cX11_askedBy 75 = .ok (.iload 5, 2) := by decide +kernel
theorem dX11_askedBy_77 : decode cX11_askedBy 77 = .ok (.iaload, 1) := by decide +kernel
theorem dX11_askedBy_78 : decode cX11_askedBy 78 = .ok (.ifCond .lt 8, 3) := by decide +kernel
theorem dX11_askedBy_81 : decode cX11_askedBy 81 = .ok (.iload 5, 2) := by decide +kernel
theorem dX11_askedBy_83 : decode cX11_askedBy 83 = .ok (.goto 5, 3) := by decide +kernel
theorem dX11_askedBy_86 : decode cX11_askedBy 86 = .ok (.iload 4, 2) := by decide +kernel
theorem dX11_askedBy_88 : decode cX11_askedBy 88 = .ok (.istore 4, 2) := by decide +kernel
theorem dX11_askedBy_90 : decode cX11_askedBy 90 = .ok (.iinc 5 1, 3) := by decide +kernel
theorem dX11_askedBy_93 : decode cX11_askedBy 93 = .ok (.goto (-39), 3) := by decide +kernel
theorem dX11_askedBy_96 : decode cX11_askedBy 96 = .ok (.iload 4, 2) := by decide +kernel
theorem dX11_askedBy_98 : decode cX11_askedBy 98 = .ok (.ireturn, 1) := by decide +kernel
theorem dX11_askedBy_99 : decode cX11_askedBy 99 = .ok (.iload_n 1, 1) := by decide +kernel
theorem dX11_askedBy_100 : decode cX11_askedBy 100 = .ok (.iconst 4, 1) := by decide +kernel
theorem dX11_askedBy_101 : decode cX11_askedBy 101 = .ok (.if_icmp .gt 19, 3) := by decide +kernel
theorem dX11_askedBy_104 : decode cX11_askedBy 104 = .ok (.iload_n 3, 1) := by decide +kernel
theorem dX11_askedBy_105 : decode cX11_askedBy 105 = .ok (.iload_n 2, 1) := by decide +kernel
theorem dX11_askedBy_106 : decode cX11_askedBy 106 = .ok (.if_icmp .gt 14, 3) := by decide +kernel
theorem dX11_askedBy_109 : decode cX11_askedBy 109 = .ok (.aload_n 0, 1) := by decide +kernel
theorem dX11_askedBy_110 : decode cX11_askedBy 110 = .ok (.getfield 133, 3) := by decide +kernel
theorem dX11_askedBy_113 : decode cX11_askedBy 113 = .ok (.iload_n 2, 1) := by decide +kernel
theorem dX11_askedBy_114 : decode cX11_askedBy 114 = .ok (.iload_n 3, 1) := by decide +kernel
theorem dX11_askedBy_115 : decode cX11_askedBy 115 = .ok (.isub, 1) := by decide +kernel
theorem dX11_askedBy_116 : decode cX11_askedBy 116 = .ok (.iaload, 1) := by decide +kernel
theorem dX11_askedBy_117 : decode cX11_askedBy 117 = .ok (.ifCond .ge 7, 3) := by decide +kernel
theorem dX11_askedBy_120 : decode cX11_askedBy 120 = .ok (.iconst (-1), 1) := by decide +kernel
theorem dX11_askedBy_121 : decode cX11_askedBy 121 = .ok (.goto 6, 3) := by decide +kernel
theorem dX11_askedBy_124 : decode cX11_askedBy 124 = .ok (.iload_n 2, 1) := by decide +kernel
theorem dX11_askedBy_125 : decode cX11_askedBy 125 = .ok (.iload_n 3, 1) := by decide +kernel
theorem dX11_askedBy_126 : decode cX11_askedBy 126 = .ok (.isub, 1) := by decide +kernel
theorem dX11_askedBy_127 : decode cX11_askedBy 127 = .ok (.ireturn, 1) := by decide +kernel
theorem dX11_plainAll_0 : decode cX11_plainAll 0 = .ok (.iconst 0, 1) := by decide +kernel
theorem dX11_plainAll_1 : decode cX11_plainAll 1 = .ok (.istore_n 3, 1) := by decide +kernel
theorem dX11_plainAll_2 : decode cX11_plainAll 2 = .ok (.iconst 0, 1) := by decide +kernel
theorem dX11_plainAll_3 : decode cX11_plainAll 3 = .ok (.istore 4, 2) := by decide +kernel
theorem dX11_plainAll_5 : decode cX11_plainAll 5 = .ok (.iload 4, 2) := by decide +kernel
theorem dX11_plainAll_7 : decode cX11_plainAll 7 = .ok (.iload_n 1, 1) := by decide +kernel
theorem dX11_plainAll_8 : decode cX11_plainAll 8 = .ok (.if_icmp .gt 54, 3) := by decide +kernel
theorem dX11_plainAll_11 : decode cX11_plainAll 11 = .ok (.iload_n 3, 1) := by decide +kernel
theorem dX11_plainAll_12 : decode cX11_plainAll 12 = .ok (.iload_n 1, 1) := by decide +kernel
theorem dX11_plainAll_13 : decode cX11_plainAll 13 = .ok (.iload 4, 2) := by decide +kernel
theorem dX11_plainAll_15 : decode cX11_plainAll 15 = .ok (.isub, 1) := by decide +kernel
theorem dX11_plainAll_16 : decode cX11_plainAll 16 = .ok (.aload_n 0, 1) := by decide +kernel
theorem dX11_plainAll_17 : decode cX11_plainAll 17 = .ok (.invokevirtual 365, 3) := by decide +kernel
theorem dX11_plainAll_20 : decode cX11_plainAll 20 = .ok (.if_icmp .ge 33, 3) := by decide +kernel
theorem dX11_plainAll_23 : decode cX11_plainAll 23 = .ok (.aload_n 0, 1) := by decide +kernel
theorem dX11_plainAll_24 : decode cX11_plainAll 24 = .ok (.getfield 133, 3) := by decide +kernel
theorem dX11_plainAll_27 : decode cX11_plainAll 27 = .ok (.iload 4, 2) := by decide +kernel
theorem dX11_plainAll_29 : decode cX11_plainAll 29 = .ok (.iaload, 1) := by decide +kernel
theorem dX11_plainAll_30 : decode cX11_plainAll 30 = .ok (.ifCond .lt 23, 3) := by decide +kernel
theorem dX11_plainAll_33 : decode cX11_plainAll 33 = .ok (.aload_n 0, 1) := by decide +kernel
theorem dX11_plainAll_34 : decode cX11_plainAll 34 = .ok (.iload_n 1, 1) := by decide +kernel
theorem dX11_plainAll_35 : decode cX11_plainAll 35 = .ok (.aload_n 0, 1) := by decide +kernel
theorem dX11_plainAll_36 : decode cX11_plainAll 36 = .ok (.getfield 133, 3) := by decide +kernel
theorem dX11_plainAll_39 : decode cX11_plainAll 39 = .ok (.iload 4, 2) := by decide +kernel
theorem dX11_plainAll_41 : decode cX11_plainAll 41 = .ok (.iaload, 1) := by decide +kernel
theorem dX11_plainAll_42 : decode cX11_plainAll 42 = .ok (.iload_n 1, 1) := by decide +kernel
theorem dX11_plainAll_43 : decode cX11_plainAll 43 = .ok (.iload 4, 2) := by decide +kernel
theorem dX11_plainAll_45 : decode cX11_plainAll 45 = .ok (.isub, 1) := by decide +kernel
theorem dX11_plainAll_46 : decode cX11_plainAll 46 = .ok (.iload_n 2, 1) := by decide +kernel
theorem dX11_plainAll_47 : decode cX11_plainAll 47 = .ok (.invokevirtual 413, 3) := by decide +kernel
theorem dX11_plainAll_50 : decode cX11_plainAll 50 = .ok (.goto 4, 3) := by decide +kernel
theorem dX11_plainAll_53 : decode cX11_plainAll 53 = .ok (.iconst 0, 1) := by decide +kernel
theorem dX11_plainAll_54 : decode cX11_plainAll 54 = .ok (.iadd, 1) := by decide +kernel
theorem dX11_plainAll_55 : decode cX11_plainAll 55 = .ok (.istore_n 3, 1) := by decide +kernel
theorem dX11_plainAll_56 : decode cX11_plainAll 56 = .ok (.iinc 4 1, 3) := by decide +kernel
theorem dX11_plainAll_59 : decode cX11_plainAll 59 = .ok (.goto (-54), 3) := by decide +kernel
theorem dX11_plainAll_62 : decode cX11_plainAll 62 = .ok (.iload_n 3, 1) := by decide +kernel
theorem dX11_plainAll_63 : decode cX11_plainAll 63 = .ok (.ireturn, 1) := by decide +kernel
theorem dX11_choiceOfAll_0 : decode cX11_choiceOfAll 0 = .ok (.iload_n 2, 1) := by decide +kernel
theorem dX11_choiceOfAll_1 : decode cX11_choiceOfAll 1 = .ok (.istore_n 3, 1) := by decide +kernel
theorem dX11_choiceOfAll_2 : decode cX11_choiceOfAll 2 = .ok (.iconst 1, 1) := by decide +kernel
theorem dX11_choiceOfAll_3 : decode cX11_choiceOfAll 3 = .ok (.istore 4, 2) := by decide +kernel
theorem dX11_choiceOfAll_5 : decode cX11_choiceOfAll 5 = .ok (.iload 4, 2) := by decide +kernel
theorem dX11_choiceOfAll_7 : decode cX11_choiceOfAll 7 = .ok (.bipush 10, 2) := by decide +kernel
theorem dX11_choiceOfAll_9 : decode cX11_choiceOfAll 9 = .ok (.if_icmp .ge 74, 3) := by decide +kernel
theorem dX11_choiceOfAll_12 : decode cX11_choiceOfAll 12 = .ok (.aload_n 0, 1) := by decide +kernel
theorem dX11_choiceOfAll_13 : decode cX11_choiceOfAll 13 = .ok (.iload_n 1, 1) := by decide +kernel
theorem dX11_choiceOfAll_14 : decode cX11_choiceOfAll 14 = .ok (.iload_n 2, 1) := by decide +kernel
theorem dX11_choiceOfAll_15 : decode cX11_choiceOfAll 15 = .ok (.iload 4, 2) := by decide +kernel
theorem dX11_choiceOfAll_17 : decode cX11_choiceOfAll 17 = .ok (.invokevirtual 387, 3) := by decide +kernel
theorem dX11_choiceOfAll_20 : decode cX11_choiceOfAll 20 = .ok (.istore 5, 2) := by decide +kernel
theorem dX11_choiceOfAll_22 : decode cX11_choiceOfAll 22 = .ok (.iload 5, 2) := by decide +kernel
theorem dX11_choiceOfAll_24 : decode cX11_choiceOfAll 24 = .ok (.ifCond .lt 38, 3) := by decide +kernel
theorem dX11_choiceOfAll_27 : decode cX11_choiceOfAll 27 = .ok (.aload_n 0, 1) := by decide +kernel
theorem dX11_choiceOfAll_28 : decode cX11_choiceOfAll 28 = .ok (.iload_n 1, 1) := by decide +kernel
theorem dX11_choiceOfAll_29 : decode cX11_choiceOfAll 29 = .ok (.iload 5, 2) := by decide +kernel
theorem dX11_choiceOfAll_31 : decode cX11_choiceOfAll 31 = .ok (.invokevirtual 509, 3) := by decide +kernel
theorem dX11_choiceOfAll_34 : decode cX11_choiceOfAll 34 = .ok (.aload_n 0, 1) := by decide +kernel
theorem dX11_choiceOfAll_35 : decode cX11_choiceOfAll 35 = .ok (.iload_n 2, 1) := by decide +kernel
theorem dX11_choiceOfAll_36 : decode cX11_choiceOfAll 36 = .ok (.iload 5, 2) := by decide +kernel
theorem dX11_choiceOfAll_38 : decode cX11_choiceOfAll 38 = .ok (.invokevirtual 384, 3) := by decide +kernel
theorem dX11_choiceOfAll_41 : decode cX11_choiceOfAll 41 = .ok (.isub, 1) := by decide +kernel
theorem dX11_choiceOfAll_42 : decode cX11_choiceOfAll 42 = .ok (.aload_n 0, 1) := by decide +kernel
theorem dX11_choiceOfAll_43 : decode cX11_choiceOfAll 43 = .ok (.iload_n 1, 1) := by decide +kernel
theorem dX11_choiceOfAll_44 : decode cX11_choiceOfAll 44 = .ok (.iload_n 3, 1) := by decide +kernel
theorem dX11_choiceOfAll_45 : decode cX11_choiceOfAll 45 = .ok (.invokevirtual 509, 3) := by decide +kernel
theorem dX11_choiceOfAll_48 : decode cX11_choiceOfAll 48 = .ok (.aload_n 0, 1) := by decide +kernel
theorem dX11_choiceOfAll_49 : decode cX11_choiceOfAll 49 = .ok (.iload_n 2, 1) := by decide +kernel
theorem dX11_choiceOfAll_50 : decode cX11_choiceOfAll 50 = .ok (.iload_n 3, 1) := by decide +kernel
theorem dX11_choiceOfAll_51 : decode cX11_choiceOfAll 51 = .ok (.invokevirtual 384, 3) := by decide +kernel
theorem dX11_choiceOfAll_54 : decode cX11_choiceOfAll 54 = .ok (.isub, 1) := by decide +kernel
theorem dX11_choiceOfAll_55 : decode cX11_choiceOfAll 55 = .ok (.if_icmp .le 7, 3) := by decide +kernel
theorem dX11_choiceOfAll_58 : decode cX11_choiceOfAll 58 = .ok (.iconst 1, 1) := by decide +kernel
theorem dX11_choiceOfAll_59 : decode cX11_choiceOfAll 59 = .ok (.goto 4, 3) := by decide +kernel
theorem dX11_choiceOfAll_62 : decode cX11_choiceOfAll 62 = .ok (.iconst 0, 1) := by decide +kernel
theorem dX11_choiceOfAll_63 : decode cX11_choiceOfAll 63 = .ok (.istore 6, 2) := by decide +kernel
theorem dX11_choiceOfAll_65 : decode cX11_choiceOfAll 65 = .ok (.iload 6, 2) := by decide +kernel
theorem dX11_choiceOfAll_67 : decode cX11_choiceOfAll 67 = .ok (.ifCond .eq 8, 3) := by decide +kernel
theorem dX11_choiceOfAll_70 : decode cX11_choiceOfAll 70 = .ok (.iload 5, 2) := by decide +kernel
theorem dX11_choiceOfAll_72 : decode cX11_choiceOfAll 72 = .ok (.goto 4, 3) := by decide +kernel
theorem dX11_choiceOfAll_75 : decode cX11_choiceOfAll 75 = .ok (.iload_n 3, 1) := by decide +kernel
theorem dX11_choiceOfAll_76 : decode cX11_choiceOfAll 76 = .ok (.istore_n 3, 1) := by decide +kernel
theorem dX11_choiceOfAll_77 : decode cX11_choiceOfAll 77 = .ok (.iinc 4 1, 3) := by decide +kernel
theorem dX11_choiceOfAll_80 : decode cX11_choiceOfAll 80 = .ok (.goto (-75), 3) := by decide +kernel
theorem dX11_choiceOfAll_83 : decode cX11_choiceOfAll 83 = .ok (.iload_n 3, 1) := by decide +kernel
theorem dX11_choiceOfAll_84 : decode cX11_choiceOfAll 84 = .ok (.ireturn, 1) := by decide +kernel
theorem dX11_bringsBy_0 : decode cX11_bringsBy 0 = .ok (.iload_n 3, 1) := by decide +kernel
theorem dX11_bringsBy_1 : decode cX11_bringsBy 1 = .ok (.ifCond .ge 6, 3) := by decide +kernel
theorem dX11_bringsBy_4 : decode cX11_bringsBy 4 = .ok (.iload 4, 2) := by decide +kernel
theorem dX11_bringsBy_6 : decode cX11_bringsBy 6 = .ok (.ireturn, 1) := by decide +kernel
theorem dX11_bringsBy_7 : decode cX11_bringsBy 7 = .ok (.aload_n 0, 1) := by decide +kernel
theorem dX11_bringsBy_8 : decode cX11_bringsBy 8 = .ok (.iload_n 2, 1) := by decide +kernel
theorem dX11_bringsBy_9 : decode cX11_bringsBy 9 = .ok (.iload 4, 2) := by decide +kernel
theorem dX11_bringsBy_11 : decode cX11_bringsBy 11 = .ok (.invokevirtual 397, 3) := by decide +kernel
theorem dX11_bringsBy_14 : decode cX11_bringsBy 14 = .ok (.istore 5, 2) := by decide +kernel
theorem dX11_bringsBy_16 : decode cX11_bringsBy 16 = .ok (.iload 5, 2) := by decide +kernel
theorem dX11_bringsBy_18 : decode cX11_bringsBy 18 = .ok (.ifCond .lt 6, 3) := by decide +kernel
theorem dX11_bringsBy_21 : decode cX11_bringsBy 21 = .ok (.iload 5, 2) := by decide +kernel
theorem dX11_bringsBy_23 : decode cX11_bringsBy 23 = .ok (.ireturn, 1) := by decide +kernel
theorem dX11_bringsBy_24 : decode cX11_bringsBy 24 = .ok (.aload_n 0, 1) := by decide +kernel
theorem dX11_bringsBy_25 : decode cX11_bringsBy 25 = .ok (.getfield 133, 3) := by decide +kernel
theorem dX11_bringsBy_28 : decode cX11_bringsBy 28 = .ok (.iload_n 3, 1) := by decide +kernel
theorem dX11_bringsBy_29 : decode cX11_bringsBy 29 = .ok (.iaload, 1) := by decide +kernel
theorem dX11_bringsBy_30 : decode cX11_bringsBy 30 = .ok (.istore 6, 2) := by decide +kernel
theorem dX11_bringsBy_32 : decode cX11_bringsBy 32 = .ok (.iload_n 1, 1) := by decide +kernel
theorem dX11_bringsBy_33 : decode cX11_bringsBy 33 = .ok (.ifCond .ne 19, 3) := by decide +kernel
theorem dX11_bringsBy_36 : decode cX11_bringsBy 36 = .ok (.aload_n 0, 1) := by decide +kernel
theorem dX11_bringsBy_37 : decode cX11_bringsBy 37 = .ok (.getfield 101, 3) := by decide +kernel
theorem dX11_bringsBy_40 : decode cX11_bringsBy 40 = .ok (.iload_n 2, 1) := by decide +kernel
theorem dX11_bringsBy_41 : decode cX11_bringsBy 41 = .ok (.iload 6, 2) := by decide +kernel
theorem dX11_bringsBy_43 : decode cX11_bringsBy 43 = .ok (.iload 4, 2) := by decide +kernel
theorem dX11_bringsBy_45 : decode cX11_bringsBy 45 = .ok (.invokestatic 400, 3) := by decide +kernel
theorem dX11_bringsBy_48 : decode cX11_bringsBy 48 = .ok (.iaload, 1) := by decide +kernel
theorem dX11_bringsBy_49 : decode cX11_bringsBy 49 = .ok (.goto 30, 3) := by decide +kernel
theorem dX11_bringsBy_52 : decode cX11_bringsBy 52 = .ok (.iload_n 1, 1) := by decide +kernel
theorem dX11_bringsBy_53 : decode cX11_bringsBy 53 = .ok (.iconst 4, 1) := by decide +kernel
theorem dX11_bringsBy_54 : decode cX11_bringsBy 54 = .ok (.if_icmp .ne 13, 3) := by decide +kernel
theorem dX11_bringsBy_57 : decode cX11_bringsBy 57 = .ok (.aload_n 0, 1) := by decide +kernel
theorem dX11_bringsBy_58 : decode cX11_bringsBy 58 = .ok (.iload_n 2, 1) := by decide +kernel
theorem dX11_bringsBy_59 : decode cX11_bringsBy 59 = .ok (.iload 4, 2) := by decide +kernel
theorem dX11_bringsBy_61 : decode cX11_bringsBy 61 = .ok (.invokevirtual 512, 3) := by decide +kernel
theorem dX11_bringsBy_64 : decode cX11_bringsBy 64 = .ok (.goto 15, 3) := by decide +kernel
theorem dX11_bringsBy_67 : decode cX11_bringsBy 67 = .ok (.aload_n 0, 1) := by decide +kernel
theorem dX11_bringsBy_68 : decode cX11_bringsBy 68 = .ok (.iload_n 2, 1) := by decide +kernel
theorem dX11_bringsBy_69 : decode cX11_bringsBy 69 = .ok (.iload 6, 2) := by decide +kernel
theorem dX11_bringsBy_71 : decode cX11_bringsBy 71 = .ok (.iload_n 2, 1) := by decide +kernel
theorem dX11_bringsBy_72 : decode cX11_bringsBy 72 = .ok (.iload_n 3, 1) := by decide +kernel
theorem dX11_bringsBy_73 : decode cX11_bringsBy 73 = .ok (.isub, 1) := by decide +kernel
theorem dX11_bringsBy_74 : decode cX11_bringsBy 74 = .ok (.iload 4, 2) := by decide +kernel
theorem dX11_bringsBy_76 : decode cX11_bringsBy 76 = .ok (.invokevirtual 422, 3) := by decide +kernel
theorem dX11_bringsBy_79 : decode cX11_bringsBy 79 = .ok (.ireturn, 1) := by decide +kernel
theorem dX11_findCentury_0 : decode cX11_findCentury 0 = .ok (.aload_n 0, 1) := by decide +kernel
theorem dX11_findCentury_1 : decode cX11_findCentury 1 = .ok (.invokevirtual 419, 3) := by decide +kernel
theorem dX11_findCentury_4 : decode cX11_findCentury 4 = .ok (.aload_n 0, 1) := by decide +kernel
theorem dX11_findCentury_5 : decode cX11_findCentury 5 = .ok (.iload_n 1, 1) := by decide +kernel
theorem dX11_findCentury_6 : decode cX11_findCentury 6 = .ok (.i2l, 1) := by decide +kernel
theorem dX11_findCentury_7 : decode cX11_findCentury 7 = .ok (.putfield 495, 3) := by decide +kernel
theorem dX11_findCentury_10 : decode cX11_findCentury 10 = .ok (.aload_n 0, 1) := by decide +kernel
theorem dX11_findCentury_11 : decode cX11_findCentury 11 = .ok (.invokevirtual 453, 3) := by decide +kernel
theorem dX11_findCentury_14 : decode cX11_findCentury 14 = .ok (.istore_n 3, 1) := by decide +kernel
theorem dX11_findCentury_15 : decode cX11_findCentury 15 = .ok (.iconst 0, 1) := by decide +kernel
theorem dX11_findCentury_16 : decode cX11_findCentury 16 = .ok (.istore 4, 2) := by decide +kernel
theorem dX11_findCentury_18 : decode cX11_findCentury 18 = .ok (.iload 4, 2) := by decide +kernel
theorem dX11_findCentury_20 : decode cX11_findCentury 20 = .ok (.aload_n 0, 1) := by decide +kernel
theorem dX11_findCentury_21 : decode cX11_findCentury 21 = .ok (.invokevirtual 326, 3) := by decide +kernel
theorem dX11_findCentury_24 : decode cX11_findCentury 24 = .ok (.if_icmp .ge 140, 3) := by decide +kernel
theorem dX11_findCentury_27 : decode cX11_findCentury 27 = .ok (.aload_n 0, 1) := by decide +kernel
theorem dX11_findCentury_28 : decode cX11_findCentury 28 = .ok (.getfield 133, 3) := by decide +kernel
theorem dX11_findCentury_31 : decode cX11_findCentury 31 = .ok (.iload 4, 2) := by decide +kernel
theorem dX11_findCentury_33 : decode cX11_findCentury 33 = .ok (.aload_n 0, 1) := by decide +kernel
theorem dX11_findCentury_34 : decode cX11_findCentury 34 = .ok (.iload 4, 2) := by decide +kernel
theorem dX11_findCentury_36 : decode cX11_findCentury 36 = .ok (.invokevirtual 515, 3) := by decide +kernel
theorem dX11_findCentury_39 : decode cX11_findCentury 39 = .ok (.iastore, 1) := by decide +kernel
theorem dX11_findCentury_40 : decode cX11_findCentury 40 = .ok (.aload_n 0, 1) := by decide +kernel
theorem dX11_findCentury_41 : decode cX11_findCentury 41 = .ok (.getfield 136, 3) := by decide +kernel
theorem dX11_findCentury_44 : decode cX11_findCentury 44 = .ok (.iload 4, 2) := by decide +kernel
theorem dX11_findCentury_46 : decode cX11_findCentury 46 = .ok (.aload_n 0, 1) := by decide +kernel
theorem dX11_findCentury_47 : decode cX11_findCentury 47 = .ok (.iload_n 2, 1) := by decide +kernel
theorem dX11_findCentury_48 : decode cX11_findCentury 48 = .ok (.iload 4, 2) := by decide +kernel
theorem dX11_findCentury_50 : decode cX11_findCentury 50 = .ok (.invokevirtual 518, 3) := by decide +kernel
theorem dX11_findCentury_53 : decode cX11_findCentury 53 = .ok (.iastore, 1) := by decide +kernel
theorem dX11_findCentury_54 : decode cX11_findCentury 54 = .ok (.aload_n 0, 1) := by decide +kernel
theorem dX11_findCentury_55 : decode cX11_findCentury 55 = .ok (.iload_n 2, 1) := by decide +kernel
theorem dX11_findCentury_56 : decode cX11_findCentury 56 = .ok (.iload 4, 2) := by decide +kernel
theorem dX11_findCentury_58 : decode cX11_findCentury 58 = .ok (.aload_n 0, 1) := by decide +kernel
theorem dX11_findCentury_59 : decode cX11_findCentury 59 = .ok (.getfield 136, 3) := by decide +kernel
theorem dX11_findCentury_62 : decode cX11_findCentury 62 = .ok (.iload 4, 2) := by decide +kernel
theorem dX11_findCentury_64 : decode cX11_findCentury 64 = .ok (.iaload, 1) := by decide +kernel
theorem dX11_findCentury_65 : decode cX11_findCentury 65 = .ok (.iload_n 3, 1) := by decide +kernel
theorem dX11_findCentury_66 : decode cX11_findCentury 66 = .ok (.invokevirtual 521, 3) := by decide +kernel
theorem dX11_findCentury_69 : decode cX11_findCentury 69 = .ok (.istore 5, 2) := by decide +kernel
theorem dX11_findCentury_71 : decode cX11_findCentury 71 = .ok (.aload_n 0, 1) := by decide +kernel
theorem dX11_findCentury_72 : decode cX11_findCentury 72 = .ok (.getfield 142, 3) := by decide +kernel
theorem dX11_findCentury_75 : decode cX11_findCentury 75 = .ok (.iload 4, 2) := by decide +kernel
theorem dX11_findCentury_77 : decode cX11_findCentury 77 = .ok (.aload_n 0, 1) := by decide +kernel
theorem dX11_findCentury_78 : decode cX11_findCentury 78 = .ok (.iload_n 3, 1) := by decide +kernel
theorem dX11_findCentury_79 : decode cX11_findCentury 79 = .ok (.iload 5, 2) := by decide +kernel
theorem dX11_findCentury_81 : decode cX11_findCentury 81 = .ok (.invokevirtual 384, 3) := by decide +kernel
theorem dX11_findCentury_84 : decode cX11_findCentury 84 = .ok (.iastore, 1) := by decide +kernel
theorem dX11_findCentury_85 : decode cX11_findCentury 85 = .ok (.aload_n 0, 1) := by decide +kernel
theorem dX11_findCentury_86 : decode cX11_findCentury 86 = .ok (.getfield 139, 3) := by decide +kernel
theorem dX11_findCentury_89 : decode cX11_findCentury 89 = .ok (.iload 4, 2) := by decide +kernel
theorem dX11_findCentury_91 : decode cX11_findCentury 91 = .ok (.iconst (-1), 1) := by decide +kernel
theorem dX11_findCentury_92 : decode cX11_findCentury 92 = .ok (.iastore, 1) := by decide +kernel
theorem dX11_findCentury_93 : decode cX11_findCentury 93 = .ok (.iconst 0, 1) := by decide +kernel
theorem dX11_findCentury_94 : decode cX11_findCentury 94 = .ok (.istore 6, 2) := by decide +kernel
theorem dX11_findCentury_96 : decode cX11_findCentury 96 = .ok (.iload 6, 2) := by decide +kernel
theorem dX11_findCentury_98 : decode cX11_findCentury 98 = .ok (.aload_n 0, 1) := by decide +kernel
theorem dX11_findCentury_99 : decode cX11_findCentury 99 = .ok (.invokevirtual 314, 3) := by decide +kernel
theorem dX11_findCentury_102 : decode cX11_findCentury 102 = .ok (.if_icmp .ge 44, 3) := by decide +kernel
theorem dX11_findCentury_105 : decode cX11_findCentury 105 = .ok (.aload_n 0, 1) := by decide +kernel
theorem dX11_findCentury_106 : decode cX11_findCentury 106 = .ok (.getfield 139, 3) := by decide +kernel
theorem dX11_findCentury_109 : decode cX11_findCentury 109 = .ok (.iload 4, 2) := by decide +kernel
theorem dX11_findCentury_111 : decode cX11_findCentury 111 = .ok (.iload_n 3, 1) := by decide +kernel
theorem dX11_findCentury_112 : decode cX11_findCentury 112 = .ok (.iload 6, 2) := by decide +kernel
theorem dX11_findCentury_114 : decode cX11_findCentury 114 = .ok (.invokestatic 317, 3) := by decide +kernel
theorem dX11_findCentury_117 : decode cX11_findCentury 117 = .ok (.iload 5, 2) := by decide +kernel
theorem dX11_findCentury_119 : decode cX11_findCentury 119 = .ok (.iload 6, 2) := by decide +kernel
theorem dX11_findCentury_121 : decode cX11_findCentury 121 = .ok (.invokestatic 317, 3) := by decide +kernel
theorem dX11_findCentury_124 : decode cX11_findCentury 124 = .ok (.if_icmp .eq 8, 3) := by decide +kernel
theorem dX11_findCentury_127 : decode cX11_findCentury 127 = .ok (.iload 6, 2) := by decide +kernel
theorem dX11_findCentury_129 : decode cX11_findCentury 129 = .ok (.goto 10, 3) := by decide +kernel
theorem dX11_findCentury_132 : decode cX11_findCentury 132 = .ok (.aload_n 0, 1) := by decide +kernel
theorem dX11_findCentury_133 : decode cX11_findCentury 133 = .ok (.getfield 139, 3) := by decide +kernel
theorem dX11_findCentury_136 : decode cX11_findCentury 136 = .ok (.iload 4, 2) := by decide +kernel
theorem dX11_findCentury_138 : decode cX11_findCentury 138 = .ok (.iaload, 1) := by decide +kernel
theorem dX11_findCentury_139 : decode cX11_findCentury 139 = .ok (.iastore, 1) := by decide +kernel
theorem dX11_findCentury_140 : decode cX11_findCentury 140 = .ok (.iinc 6 1, 3) := by decide +kernel
theorem dX11_findCentury_143 : decode cX11_findCentury 143 = .ok (.goto (-47), 3) := by decide +kernel
theorem dX11_findCentury_146 : decode cX11_findCentury 146 = .ok (.aload_n 0, 1) := by decide +kernel
theorem dX11_findCentury_147 : decode cX11_findCentury 147 = .ok (.getfield 130, 3) := by decide +kernel
theorem dX11_findCentury_150 : decode cX11_findCentury 150 = .ok (.iload 4, 2) := by decide +kernel
theorem dX11_findCentury_152 : decode cX11_findCentury 152 = .ok (.iload 5, 2) := by decide +kernel
theorem dX11_findCentury_154 : decode cX11_findCentury 154 = .ok (.iastore, 1) := by decide +kernel
theorem dX11_findCentury_155 : decode cX11_findCentury 155 = .ok (.iload 5, 2) := by decide +kernel
theorem dX11_findCentury_157 : decode cX11_findCentury 157 = .ok (.istore_n 3, 1) := by decide +kernel
theorem dX11_findCentury_158 : decode cX11_findCentury 158 = .ok (.iinc 4 1, 3) := by decide +kernel
theorem dX11_findCentury_161 : decode cX11_findCentury 161 = .ok (.goto (-143), 3) := by decide +kernel
theorem dX11_findCentury_164 : decode cX11_findCentury 164 = .ok (.return_, 1) := by decide +kernel
theorem dX11_isCentury_0 : decode cX11_isCentury 0 = .ok (.iload_n 1, 1) := by decide +kernel
theorem dX11_isCentury_1 : decode cX11_isCentury 1 = .ok (.iconst 0, 1) := by decide +kernel
theorem dX11_isCentury_2 : decode cX11_isCentury 2 = .ok (.sipush 9999, 3) := by decide +kernel
theorem dX11_isCentury_5 : decode cX11_isCentury 5 = .ok (.invokestatic 303, 3) := by decide +kernel
theorem dX11_isCentury_8 : decode cX11_isCentury 8 = .ok (.ifCond .eq 23, 3) := by decide +kernel
theorem dX11_isCentury_11 : decode cX11_isCentury 11 = .ok (.iload_n 2, 1) := by decide +kernel
theorem dX11_isCentury_12 : decode cX11_isCentury 12 = .ok (.iconst 0, 1) := by decide +kernel
theorem dX11_isCentury_13 : decode cX11_isCentury 13 = .ok (.iconst 5, 1) := by decide +kernel
theorem dX11_isCentury_14 : decode cX11_isCentury 14 = .ok (.invokestatic 303, 3) := by decide +kernel
theorem dX11_isCentury_17 : decode cX11_isCentury 17 = .ok (.ifCond .eq 14, 3) := by decide +kernel
theorem dX11_isCentury_20 : decode cX11_isCentury 20 = .ok (.aload_n 0, 1) := by decide +kernel
theorem dX11_isCentury_21 : decode cX11_isCentury 21 = .ok (.invokevirtual 323, 3) := by decide +kernel
theorem dX11_isCentury_24 : decode cX11_isCentury 24 = .ok (.ifCond .le 7, 3) := by decide +kernel
theorem dX11_isCentury_27 : decode cX11_isCentury 27 = .ok (.iconst 1, 1) := by decide +kernel
theorem dX11_isCentury_28 : decode cX11_isCentury 28 = .ok (.goto 4, 3) := by decide +kernel
theorem dX11_isCentury_31 : decode cX11_isCentury 31 = .ok (.iconst 0, 1) := by decide +kernel
theorem dX11_isCentury_32 : decode cX11_isCentury 32 = .ok (.ireturn, 1) := by decide +kernel
theorem dX11_century_0 : decode cX11_century 0 = .ok (.aload_n 0, 1) := by decide +kernel
theorem dX11_century_1 : decode cX11_century 1 = .ok (.aload_n 0, 1) := by decide +kernel
theorem dX11_century_2 : decode cX11_century 2 = .ok (.iload_n 1, 1) := by decide +kernel
theorem dX11_century_3 : decode cX11_century 3 = .ok (.iload_n 2, 1) := by decide +kernel
theorem dX11_century_4 : decode cX11_century 4 = .ok (.invokevirtual 524, 3) := by decide +kernel
theorem dX11_century_7 : decode cX11_century 7 = .ok (.ifCond .eq 25, 3) := by decide +kernel
theorem dX11_century_10 : decode cX11_century 10 = .ok (.aload_n 0, 1) := by decide +kernel
theorem dX11_century_11 : decode cX11_century 11 = .ok (.iload_n 3, 1) := by decide +kernel
theorem dX11_century_12 : decode cX11_century 12 = .ok (.invokevirtual 354, 3) := by decide +kernel
theorem dX11_century_15 : decode cX11_century 15 = .ok (.ifCond .eq 17, 3) := by decide +kernel
theorem dX11_century_18 : decode cX11_century 18 = .ok (.iload 4, 2) := by decide +kernel
theorem dX11_century_20 : decode cX11_century 20 = .ok (.iconst 0, 1) := by decide +kernel
theorem dX11_century_21 : decode cX11_century 21 = .ok (.iconst 3, 1) := by decide +kernel
theorem dX11_century_22 : decode cX11_century 22 = .ok (.invokestatic 303, 3) := by decide +kernel
theorem dX11_century_25 : decode cX11_century 25 = .ok (.ifCond .eq 7, 3) := by decide +kernel
theorem dX11_century_28 : decode cX11_century 28 = .ok (.iconst 0, 1) := by decide +kernel
theorem dX11_century_29 : decode cX11_century 29 = .ok (.goto 4, 3) := by decide +kernel
theorem dX11_century_32 : decode cX11_century 32 = .ok (.iconst 1, 1) := by decide +kernel
theorem dX11_century_33 : decode cX11_century 33 = .ok (.putfield 1, 3) := by decide +kernel
theorem dX11_century_36 : decode cX11_century 36 = .ok (.aload_n 0, 1) := by decide +kernel
theorem dX11_century_37 : decode cX11_century 37 = .ok (.getfield 1, 3) := by decide +kernel
theorem dX11_century_40 : decode cX11_century 40 = .ok (.ifCond .le 5, 3) := by decide +kernel
theorem dX11_century_43 : decode cX11_century 43 = .ok (.iconst 0, 1) := by decide +kernel
theorem dX11_century_44 : decode cX11_century 44 = .ok (.ireturn, 1) := by decide +kernel
theorem dX11_century_45 : decode cX11_century 45 = .ok (.aload_n 0, 1) := by decide +kernel
theorem dX11_century_46 : decode cX11_century 46 = .ok (.iload_n 1, 1) := by decide +kernel
theorem dX11_century_47 : decode cX11_century 47 = .ok (.iload_n 2, 1) := by decide +kernel
theorem dX11_century_48 : decode cX11_century 48 = .ok (.invokevirtual 527, 3) := by decide +kernel
theorem dX11_century_51 : decode cX11_century 51 = .ok (.iload 4, 2) := by decide +kernel
theorem dX11_century_53 : decode cX11_century 53 = .ok (.ifCond .ne 12, 3) := by decide +kernel
theorem dX11_century_56 : decode cX11_century 56 = .ok (.aload_n 0, 1) := by decide +kernel
theorem dX11_century_57 : decode cX11_century 57 = .ok (.getfield 130, 3) := by decide +kernel
theorem dX11_century_60 : decode cX11_century 60 = .ok (.iload_n 3, 1) := by decide +kernel
theorem dX11_century_61 : decode cX11_century 61 = .ok (.iaload, 1) := by decide +kernel
theorem dX11_century_62 : decode cX11_century 62 = .ok (.goto 39, 3) := by decide +kernel
theorem dX11_century_65 : decode cX11_century 65 = .ok (.iload 4, 2) := by decide +kernel
theorem dX11_century_67 : decode cX11_century 67 = .ok (.iconst 1, 1) := by decide +kernel
theorem dX11_century_68 : decode cX11_century 68 = .ok (.if_icmp .ne 12, 3) := by decide +kernel
theorem dX11_century_71 : decode cX11_century 71 = .ok (.aload_n 0, 1) := by decide +kernel
theorem dX11_century_72 : decode cX11_century 72 = .ok (.getfield 133, 3) := by decide +kernel
theorem dX11_century_75 : decode cX11_century 75 = .ok (.iload_n 3, 1) := by decide +kernel
theorem dX11_century_76 : decode cX11_century 76 = .ok (.iaload, 1) := by decide +kernel
theorem dX11_century_77 : decode cX11_century 77 = .ok (.goto 24, 3) := by decide +kernel
theorem dX11_century_80 : decode cX11_century 80 = .ok (.iload 4, 2) := by decide +kernel
theorem dX11_century_82 : decode cX11_century 82 = .ok (.iconst 2, 1) := by decide +kernel
theorem dX11_century_83 : decode cX11_century 83 = .ok (.if_icmp .ne 12, 3) := by decide +kernel
theorem dX11_century_86 : decode cX11_century 86 = .ok (.aload_n 0, 1) := by decide +kernel
theorem dX11_century_87 : decode cX11_century 87 = .ok (.getfield 136, 3) := by decide +kernel
theorem dX11_century_90 : decode cX11_century 90 = .ok (.iload_n 3, 1) := by decide +kernel
theorem dX11_century_91 : decode cX11_century 91 = .ok (.iaload, 1) := by decide +kernel
theorem dX11_century_92 : decode cX11_century 92 = .ok (.goto 9, 3) := by decide +kernel
theorem dX11_century_95 : decode cX11_century 95 = .ok (.aload_n 0, 1) := by decide +kernel
theorem dX11_century_96 : decode cX11_century 96 = .ok (.getfield 139, 3) := by decide +kernel
theorem dX11_century_99 : decode cX11_century 99 = .ok (.iload_n 3, 1) := by decide +kernel
theorem dX11_century_100 : decode cX11_century 100 = .ok (.iaload, 1) := by decide +kernel
theorem dX11_century_101 : decode cX11_century 101 = .ok (.ireturn, 1) := by decide +kernel
theorem dX11_faresOf_0 : decode cX11_faresOf 0 = .ok (.iconst 0, 1) := by decide +kernel
theorem dX11_faresOf_1 : decode cX11_faresOf 1 = .ok (.istore_n 3, 1) := by decide +kernel
theorem dX11_faresOf_2 : decode cX11_faresOf 2 = .ok (.iconst 0, 1) := by decide +kernel
theorem dX11_faresOf_3 : decode cX11_faresOf 3 = .ok (.istore 4, 2) := by decide +kernel
theorem dX11_faresOf_5 : decode cX11_faresOf 5 = .ok (.iload 4, 2) := by decide +kernel
theorem dX11_faresOf_7 : decode cX11_faresOf 7 = .ok (.aload_n 0, 1) := by decide +kernel
theorem dX11_faresOf_8 : decode cX11_faresOf 8 = .ok (.iload_n 2, 1) := by decide +kernel
theorem dX11_faresOf_9 : decode cX11_faresOf 9 = .ok (.iconst 0, 1) := by decide +kernel
theorem dX11_faresOf_10 : decode cX11_faresOf 10 = .ok (.invokevirtual 374, 3) := by decide +kernel
theorem dX11_faresOf_13 : decode cX11_faresOf 13 = .ok (.if_icmp .ge 71, 3) := by decide +kernel
theorem dX11_faresOf_16 : decode cX11_faresOf 16 = .ok (.iload_n 3, 1) := by decide +kernel
theorem dX11_faresOf_17 : decode cX11_faresOf 17 = .ok (.aload_n 0, 1) := by decide +kernel
theorem dX11_faresOf_18 : decode cX11_faresOf 18 = .ok (.aload_n 0, 1) := by decide +kernel
theorem dX11_faresOf_19 : decode cX11_faresOf 19 = .ok (.getfield 133, 3) := by decide +kernel
theorem dX11_faresOf_22 : decode cX11_faresOf 22 = .ok (.iload_n 2, 1) := by decide +kernel
theorem dX11_faresOf_23 : decode cX11_faresOf 23 = .ok (.iaload, 1) := by decide +kernel
theorem dX11_faresOf_24 : decode cX11_faresOf 24 = .ok (.aload_n 0, 1) := by decide +kernel
theorem dX11_faresOf_25 : decode cX11_faresOf 25 = .ok (.getfield 130, 3) := by decide +kernel
theorem dX11_faresOf_28 : decode cX11_faresOf 28 = .ok (.iload_n 2, 1) := by decide +kernel
theorem dX11_faresOf_29 : decode cX11_faresOf 29 = .ok (.iload 4, 2) := by decide +kernel
theorem dX11_faresOf_31 : decode cX11_faresOf 31 = .ok (.iadd, 1) := by decide +kernel
theorem dX11_faresOf_32 : decode cX11_faresOf 32 = .ok (.iaload, 1) := by decide +kernel
theorem dX11_faresOf_33 : decode cX11_faresOf 33 = .ok (.iload 4, 2) := by decide +kernel
theorem dX11_faresOf_35 : decode cX11_faresOf 35 = .ok (.iload_n 2, 1) := by decide +kernel
theorem dX11_faresOf_36 : decode cX11_faresOf 36 = .ok (.iload 4, 2) := by decide +kernel
theorem dX11_faresOf_38 : decode cX11_faresOf 38 = .ok (.iadd, 1) := by decide +kernel
theorem dX11_faresOf_39 : decode cX11_faresOf 39 = .ok (.invokevirtual 371, 3) := by decide +kernel
theorem dX11_faresOf_42 : decode cX11_faresOf 42 = .ok (.iadd, 1) := by decide +kernel
theorem dX11_faresOf_43 : decode cX11_faresOf 43 = .ok (.istore_n 3, 1) := by decide +kernel
theorem dX11_faresOf_44 : decode cX11_faresOf 44 = .ok (.iload_n 3, 1) := by decide +kernel
theorem dX11_faresOf_45 : decode cX11_faresOf 45 = .ok (.iload_n 1, 1) := by decide +kernel
theorem dX11_faresOf_46 : decode cX11_faresOf 46 = .ok (.iconst 4, 1) := by decide +kernel
theorem dX11_faresOf_47 : decode cX11_faresOf 47 = .ok (.if_icmp .eq 28, 3) := by decide +kernel
theorem dX11_faresOf_50 : decode cX11_faresOf 50 = .ok (.aload_n 0, 1) := by decide +kernel
theorem dX11_faresOf_51 : decode cX11_faresOf 51 = .ok (.getfield 136, 3) := by decide +kernel
theorem dX11_faresOf_54 : decode cX11_faresOf 54 = .ok (.iload_n 2, 1) := by decide +kernel
theorem dX11_faresOf_55 : decode cX11_faresOf 55 = .ok (.iload 4, 2) := by decide +kernel
theorem dX11_faresOf_57 : decode cX11_faresOf 57 = .ok (.iadd, 1) := by decide +kernel
theorem dX11_faresOf_58 : decode cX11_faresOf 58 = .ok (.iaload, 1) := by decide +kernel
theorem dX11_faresOf_59 : decode cX11_faresOf 59 = .ok (.iload_n 2, 1) := by decide +kernel
theorem dX11_faresOf_60 : decode cX11_faresOf 60 = .ok (.if_icmp .ne 15, 3) := by decide +kernel
theorem dX11_faresOf_63 : decode cX11_faresOf 63 = .ok (.aload_n 0, 1) := by decide +kernel
theorem dX11_faresOf_64 : decode cX11_faresOf 64 = .ok (.getfield 142, 3) := by decide +kernel
theorem dX11_faresOf_67 : decode cX11_faresOf 67 = .ok (.iload_n 2, 1) := by decide +kernel
theorem dX11_faresOf_68 : decode cX11_faresOf 68 = .ok (.iload 4, 2) := by decide +kernel
theorem dX11_faresOf_70 : decode cX11_faresOf 70 = .ok (.iadd, 1) := by decide +kernel
theorem dX11_faresOf_71 : decode cX11_faresOf 71 = .ok (.iaload, 1) := by decide +kernel
theorem dX11_faresOf_72 : decode cX11_faresOf 72 = .ok (.goto 4, 3) := by decide +kernel
theorem dX11_faresOf_75 : decode cX11_faresOf 75 = .ok (.iconst 0, 1) := by decide +kernel
theorem dX11_faresOf_76 : decode cX11_faresOf 76 = .ok (.isub, 1) := by decide +kernel
theorem dX11_faresOf_77 : decode cX11_faresOf 77 = .ok (.istore_n 3, 1) := by decide +kernel
theorem dX11_faresOf_78 : decode cX11_faresOf 78 = .ok (.iinc 4 1, 3) := by decide +kernel
theorem dX11_faresOf_81 : decode cX11_faresOf 81 = .ok (.goto (-76), 3) := by decide +kernel
theorem dX11_faresOf_84 : decode cX11_faresOf 84 = .ok (.iload_n 3, 1) := by decide +kernel
theorem dX11_faresOf_85 : decode cX11_faresOf 85 = .ok (.ireturn, 1) := by decide +kernel
theorem dX11_fares_0 : decode cX11_fares 0 = .ok (.aload_n 0, 1) := by decide +kernel
theorem dX11_fares_1 : decode cX11_fares 1 = .ok (.aload_n 0, 1) := by decide +kernel
theorem dX11_fares_2 : decode cX11_fares 2 = .ok (.iload_n 1, 1) := by decide +kernel
theorem dX11_fares_3 : decode cX11_fares 3 = .ok (.iload_n 2, 1) := by decide +kernel
theorem dX11_fares_4 : decode cX11_fares 4 = .ok (.invokevirtual 524, 3) := by decide +kernel
theorem dX11_fares_7 : decode cX11_fares 7 = .ok (.ifCond .eq 15, 3) := by decide +kernel
theorem dX11_fares_10 : decode cX11_fares 10 = .ok (.aload_n 0, 1) := by decide +kernel
theorem dX11_fares_11 : decode cX11_fares 11 = .ok (.iload_n 3, 1) := by decide +kernel
theorem dX11_fares_12 : decode cX11_fares 12 = .ok (.invokevirtual 354, 3) := by decide +kernel
theorem dX11_fares_15 : decode cX11_fares 15 = .ok (.ifCond .eq 7, 3) := by decide +kernel
theorem dX11_fares_18 : decode cX11_fares 18 = .ok (.iconst 0, 1) := by decide +kernel
theorem dX11_fares_19 : decode cX11_fares 19 = .ok (.goto 4, 3) := by decide +kernel
theorem dX11_fares_22 : decode cX11_fares 22 = .ok (.iconst 1, 1) := by decide +kernel
theorem dX11_fares_23 : decode cX11_fares 23 = .ok (.putfield 1, 3) := by decide +kernel
theorem dX11_fares_26 : decode cX11_fares 26 = .ok (.aload_n 0, 1) := by decide +kernel
theorem dX11_fares_27 : decode cX11_fares 27 = .ok (.getfield 1, 3) := by decide +kernel
theorem dX11_fares_30 : decode cX11_fares 30 = .ok (.ifCond .le 5, 3) := by decide +kernel
theorem dX11_fares_33 : decode cX11_fares 33 = .ok (.iconst 0, 1) := by decide +kernel
theorem dX11_fares_34 : decode cX11_fares 34 = .ok (.ireturn, 1) := by decide +kernel
theorem dX11_fares_35 : decode cX11_fares 35 = .ok (.aload_n 0, 1) := by decide +kernel
theorem dX11_fares_36 : decode cX11_fares 36 = .ok (.iload_n 1, 1) := by decide +kernel
theorem dX11_fares_37 : decode cX11_fares 37 = .ok (.iload_n 2, 1) := by decide +kernel
theorem dX11_fares_38 : decode cX11_fares 38 = .ok (.invokevirtual 527, 3) := by decide +kernel
theorem dX11_fares_41 : decode cX11_fares 41 = .ok (.aload_n 0, 1) := by decide +kernel
theorem dX11_fares_42 : decode cX11_fares 42 = .ok (.aload_n 0, 1) := by decide +kernel
theorem dX11_fares_43 : decode cX11_fares 43 = .ok (.getfield 133, 3) := by decide +kernel
theorem dX11_fares_46 : decode cX11_fares 46 = .ok (.iload_n 3, 1) := by decide +kernel
theorem dX11_fares_47 : decode cX11_fares 47 = .ok (.iaload, 1) := by decide +kernel
theorem dX11_fares_48 : decode cX11_fares 48 = .ok (.ifCond .lt 7, 3) := by decide +kernel
theorem dX11_fares_51 : decode cX11_fares 51 = .ok (.iconst 0, 1) := by decide +kernel
theorem dX11_fares_52 : decode cX11_fares 52 = .ok (.goto 4, 3) := by decide +kernel
theorem dX11_fares_55 : decode cX11_fares 55 = .ok (.iconst 1, 1) := by decide +kernel
theorem dX11_fares_56 : decode cX11_fares 56 = .ok (.putfield 1, 3) := by decide +kernel
theorem dX11_fares_59 : decode cX11_fares 59 = .ok (.aload_n 0, 1) := by decide +kernel
theorem dX11_fares_60 : decode cX11_fares 60 = .ok (.getfield 1, 3) := by decide +kernel
theorem dX11_fares_63 : decode cX11_fares 63 = .ok (.ifCond .le 7, 3) := by decide +kernel
theorem dX11_fares_66 : decode cX11_fares 66 = .ok (.iconst 0, 1) := by decide +kernel
theorem dX11_fares_67 : decode cX11_fares 67 = .ok (.goto 9, 3) := by decide +kernel
theorem dX11_fares_70 : decode cX11_fares 70 = .ok (.aload_n 0, 1) := by decide +kernel
theorem dX11_fares_71 : decode cX11_fares 71 = .ok (.iload_n 2, 1) := by decide +kernel
theorem dX11_fares_72 : decode cX11_fares 72 = .ok (.iload_n 3, 1) := by decide +kernel
theorem dX11_fares_73 : decode cX11_fares 73 = .ok (.invokevirtual 530, 3) := by decide +kernel
theorem dX11_fares_76 : decode cX11_fares 76 = .ok (.ireturn, 1) := by decide +kernel
theorem dX11_faresOfAll_0 : decode cX11_faresOfAll 0 = .ok (.iconst 0, 1) := by decide +kernel
theorem dX11_faresOfAll_1 : decode cX11_faresOfAll 1 = .ok (.istore_n 2, 1) := by decide +kernel
theorem dX11_faresOfAll_2 : decode cX11_faresOfAll 2 = .ok (.iconst 0, 1) := by decide +kernel
theorem dX11_faresOfAll_3 : decode cX11_faresOfAll 3 = .ok (.istore_n 3, 1) := by decide +kernel
theorem dX11_faresOfAll_4 : decode cX11_faresOfAll 4 = .ok (.iload_n 3, 1) := by decide +kernel
theorem dX11_faresOfAll_5 : decode cX11_faresOfAll 5 = .ok (.aload_n 0, 1) := by decide +kernel
theorem dX11_faresOfAll_6 : decode cX11_faresOfAll 6 = .ok (.invokevirtual 326, 3) := by decide +kernel
theorem dX11_faresOfAll_9 : decode cX11_faresOfAll 9 = .ok (.if_icmp .ge 31, 3) := by decide +kernel
theorem dX11_faresOfAll_12 : decode cX11_faresOfAll 12 = .ok (.iload_n 2, 1) := by decide +kernel
theorem dX11_faresOfAll_13 : decode cX11_faresOfAll 13 = .ok (.aload_n 0, 1) := by decide +kernel
theorem dX11_faresOfAll_14 : decode cX11_faresOfAll 14 = .ok (.getfield 133, 3) := by decide +kernel
theorem dX11_faresOfAll_17 : decode cX11_faresOfAll 17 = .ok (.iload_n 3, 1) := by decide +kernel
theorem dX11_faresOfAll_18 : decode cX11_faresOfAll 18 = .ok (.iaload, 1) := by decide +kernel
theorem dX11_faresOfAll_19 : decode cX11_faresOfAll 19 = .ok (.ifCond .lt 12, 3) := by decide +kernel
theorem dX11_faresOfAll_22 : decode cX11_faresOfAll 22 = .ok (.aload_n 0, 1) := by decide +kernel
theorem dX11_faresOfAll_23 : decode cX11_faresOfAll 23 = .ok (.iload_n 1, 1) := by decide +kernel
theorem dX11_faresOfAll_24 : decode cX11_faresOfAll 24 = .ok (.iload_n 3, 1) := by decide +kernel
theorem dX11_faresOfAll_25 : decode cX11_faresOfAll 25 = .ok (.invokevirtual 530, 3) := by decide +kernel
theorem dX11_faresOfAll_28 : decode cX11_faresOfAll 28 = .ok (.goto 4, 3) := by decide +kernel
theorem dX11_faresOfAll_31 : decode cX11_faresOfAll 31 = .ok (.iconst 0, 1) := by decide +kernel
theorem dX11_faresOfAll_32 : decode cX11_faresOfAll 32 = .ok (.iadd, 1) := by decide +kernel
theorem dX11_faresOfAll_33 : decode cX11_faresOfAll 33 = .ok (.istore_n 2, 1) := by decide +kernel
theorem dX11_faresOfAll_34 : decode cX11_faresOfAll 34 = .ok (.iinc 3 1, 3) := by decide +kernel
theorem dX11_faresOfAll_37 : decode cX11_faresOfAll 37 = .ok (.goto (-33), 3) := by decide +kernel
theorem dX11_faresOfAll_40 : decode cX11_faresOfAll 40 = .ok (.iload_n 2, 1) := by decide +kernel
theorem dX11_faresOfAll_41 : decode cX11_faresOfAll 41 = .ok (.ireturn, 1) := by decide +kernel
theorem dX11_stoodSo_0 : decode cX11_stoodSo 0 = .ok (.aload_n 0, 1) := by decide +kernel
theorem dX11_stoodSo_1 : decode cX11_stoodSo 1 = .ok (.iload_n 1, 1) := by decide +kernel
theorem dX11_stoodSo_2 : decode cX11_stoodSo 2 = .ok (.iconst 1, 1) := by decide +kernel
theorem dX11_stoodSo_3 : decode cX11_stoodSo 3 = .ok (.invokevirtual 320, 3) := by decide +kernel
theorem dX11_stoodSo_6 : decode cX11_stoodSo 6 = .ok (.iload_n 2, 1) := by decide +kernel
theorem dX11_stoodSo_7 : decode cX11_stoodSo 7 = .ok (.if_icmp .ne 7, 3) := by decide +kernel
theorem dX11_stoodSo_10 : decode cX11_stoodSo 10 = .ok (.iconst 1, 1) := by decide +kernel
theorem dX11_stoodSo_11 : decode cX11_stoodSo 11 = .ok (.goto 4, 3) := by decide +kernel
theorem dX11_stoodSo_14 : decode cX11_stoodSo 14 = .ok (.iconst 0, 1) := by decide +kernel
theorem dX11_stoodSo_15 : decode cX11_stoodSo 15 = .ok (.istore 4, 2) := by decide +kernel
theorem dX11_stoodSo_17 : decode cX11_stoodSo 17 = .ok (.iconst 0, 1) := by decide +kernel
theorem dX11_stoodSo_18 : decode cX11_stoodSo 18 = .ok (.istore 5, 2) := by decide +kernel
theorem dX11_stoodSo_20 : decode cX11_stoodSo 20 = .ok (.iload 5, 2) := by decide +kernel
theorem dX11_stoodSo_22 : decode cX11_stoodSo 22 = .ok (.iload_n 3, 1) := by decide +kernel
theorem dX11_stoodSo_23 : decode cX11_stoodSo 23 = .ok (.if_icmp .ge 36, 3) := by decide +kernel
theorem dX11_stoodSo_26 : decode cX11_stoodSo 26 = .ok (.iload 4, 2) := by decide +kernel
theorem dX11_stoodSo_28 : decode cX11_stoodSo 28 = .ok (.ifCond .ne 18, 3) := by decide +kernel
theorem dX11_stoodSo_31 : decode cX11_stoodSo 31 = .ok (.aload_n 0, 1) := by decide +kernel
theorem dX11_stoodSo_32 : decode cX11_stoodSo 32 = .ok (.getfield 130, 3) := by decide +kernel
theorem dX11_stoodSo_35 : decode cX11_stoodSo 35 = .ok (.iload 5, 2) := by decide +kernel
theorem dX11_stoodSo_37 : decode cX11_stoodSo 37 = .ok (.iaload, 1) := by decide +kernel
theorem dX11_stoodSo_38 : decode cX11_stoodSo 38 = .ok (.iload_n 1, 1) := by decide +kernel
theorem dX11_stoodSo_39 : decode cX11_stoodSo 39 = .ok (.invokestatic 317, 3) := by decide +kernel
theorem dX11_stoodSo_42 : decode cX11_stoodSo 42 = .ok (.iload_n 2, 1) := by decide +kernel
theorem dX11_stoodSo_43 : decode cX11_stoodSo 43 = .ok (.if_icmp .ne 7, 3) := by decide +kernel
theorem dX11_stoodSo_46 : decode cX11_stoodSo 46 = .ok (.iconst 1, 1) := by decide +kernel
theorem dX11_stoodSo_47 : decode cX11_stoodSo 47 = .ok (.goto 4, 3) := by decide +kernel
theorem dX11_stoodSo_50 : decode cX11_stoodSo 50 = .ok (.iconst 0, 1) := by decide +kernel
theorem dX11_stoodSo_51 : decode cX11_stoodSo 51 = .ok (.istore 4, 2) := by decide +kernel
theorem dX11_stoodSo_53 : decode cX11_stoodSo 53 = .ok (.iinc 5 1, 3) := by decide +kernel
theorem dX11_stoodSo_56 : decode cX11_stoodSo 56 = .ok (.goto (-36), 3) := by decide +kernel
theorem dX11_stoodSo_59 : decode cX11_stoodSo 59 = .ok (.iload 4, 2) := by decide +kernel
theorem dX11_stoodSo_61 : decode cX11_stoodSo 61 = .ok (.ireturn, 1) := by decide +kernel
theorem dX11_told_0 : decode cX11_told 0 = .ok (.aload_n 0, 1) := by decide +kernel
theorem dX11_told_1 : decode cX11_told 1 = .ok (.aload_n 0, 1) := by decide +kernel
theorem dX11_told_2 : decode cX11_told 2 = .ok (.iload_n 1, 1) := by decide +kernel
theorem dX11_told_3 : decode cX11_told 3 = .ok (.iload_n 2, 1) := by decide +kernel
theorem dX11_told_4 : decode cX11_told 4 = .ok (.invokevirtual 524, 3) := by decide +kernel
theorem dX11_told_7 : decode cX11_told 7 = .ok (.ifCond .eq 16, 3) := by decide +kernel
theorem dX11_told_10 : decode cX11_told 10 = .ok (.iload_n 3, 1) := by decide +kernel
theorem dX11_told_11 : decode cX11_told 11 = .ok (.iconst 0, 1) := by decide +kernel
theorem dX11_told_12 : decode cX11_told 12 = .ok (.iconst 5, 1) := by decide +kernel
theorem dX11_told_13 : decode cX11_told 13 = .ok (.invokestatic 303, 3) := by decide +kernel
theorem dX11_told_16 : decode cX11_told 16 = .ok (.ifCond .eq 7, 3) := by decide +kernel
theorem dX11_told_19 : decode cX11_told 19 = .ok (.iconst 0, 1) := by decide +kernel
theorem dX11_told_20 : decode cX11_told 20 = .ok (.goto 4, 3) := by decide +kernel
theorem dX11_told_23 : decode cX11_told 23 = .ok (.iconst 1, 1) := by decide +kernel
theorem dX11_told_24 : decode cX11_told 24 = .ok (.putfield 1, 3) := by decide +kernel
theorem dX11_told_27 : decode cX11_told 27 = .ok (.aload_n 0, 1) := by decide +kernel
theorem dX11_told_28 : decode cX11_told 28 = .ok (.getfield 1, 3) := by decide +kernel
theorem dX11_told_31 : decode cX11_told 31 = .ok (.ifCond .le 5, 3) := by decide +kernel
theorem dX11_told_34 : decode cX11_told 34 = .ok (.iconst 0, 1) := by decide +kernel
theorem dX11_told_35 : decode cX11_told 35 = .ok (.ireturn, 1) := by decide +kernel
theorem dX11_told_36 : decode cX11_told 36 = .ok (.aload_n 0, 1) := by decide +kernel
theorem dX11_told_37 : decode cX11_told 37 = .ok (.iload_n 1, 1) := by decide +kernel
theorem dX11_told_38 : decode cX11_told 38 = .ok (.iload_n 2, 1) := by decide +kernel
theorem dX11_told_39 : decode cX11_told 39 = .ok (.invokevirtual 527, 3) := by decide +kernel
theorem dX11_told_42 : decode cX11_told 42 = .ok (.iconst 0, 1) := by decide +kernel
theorem dX11_told_43 : decode cX11_told 43 = .ok (.istore 4, 2) := by decide +kernel
theorem dX11_told_45 : decode cX11_told 45 = .ok (.iconst 0, 1) := by decide +kernel
theorem dX11_told_46 : decode cX11_told 46 = .ok (.istore 5, 2) := by decide +kernel
theorem dX11_told_48 : decode cX11_told 48 = .ok (.iconst 0, 1) := by decide +kernel
theorem dX11_told_49 : decode cX11_told 49 = .ok (.istore 6, 2) := by decide +kernel
theorem dX11_told_51 : decode cX11_told 51 = .ok (.iconst 0, 1) := by decide +kernel
theorem dX11_told_52 : decode cX11_told 52 = .ok (.istore 7, 2) := by decide +kernel
theorem dX11_told_54 : decode cX11_told 54 = .ok (.iconst 0, 1) := by decide +kernel
theorem dX11_told_55 : decode cX11_told 55 = .ok (.istore 8, 2) := by decide +kernel
theorem dX11_told_57 : decode cX11_told 57 = .ok (.iconst 0, 1) := by decide +kernel
theorem dX11_told_58 : decode cX11_told 58 = .ok (.istore 9, 2) := by decide +kernel
theorem dX11_told_60 : decode cX11_told 60 = .ok (.iload 9, 2) := by decide +kernel
theorem dX11_told_62 : decode cX11_told 62 = .ok (.aload_n 0, 1) := by decide +kernel
theorem dX11_told_63 : decode cX11_told 63 = .ok (.invokevirtual 326, 3) := by decide +kernel
theorem dX11_told_66 : decode cX11_told 66 = .ok (.if_icmp .ge 158, 3) := by decide +kernel
theorem dX11_told_69 : decode cX11_told 69 = .ok (.iload 9, 2) := by decide +kernel
theorem dX11_told_71 : decode cX11_told 71 = .ok (.ifCond .le 26, 3) := by decide +kernel
theorem dX11_told_74 : decode cX11_told 74 = .ok (.aload_n 0, 1) := by decide +kernel
theorem dX11_told_75 : decode cX11_told 75 = .ok (.getfield 130, 3) := by decide +kernel
theorem dX11_told_78 : decode cX11_told 78 = .ok (.iload 9, 2) := by decide +kernel
theorem dX11_told_80 : decode cX11_told 80 = .ok (.iaload, 1) := by decide +kernel
theorem dX11_told_81 : decode cX11_told 81 = .ok (.aload_n 0, 1) := by decide +kernel
theorem dX11_told_82 : decode cX11_told 82 = .ok (.getfield 130, 3) := by decide +kernel
theorem dX11_told_85 : decode cX11_told 85 = .ok (.iload 9, 2) := by decide +kernel
theorem dX11_told_87 : decode cX11_told 87 = .ok (.iconst 1, 1) := by decide +kernel
theorem dX11_told_88 : decode cX11_told 88 = .ok (.isub, 1) := by decide +kernel
theorem dX11_told_89 : decode cX11_told 89 = .ok (.iaload, 1) := by decide +kernel
theorem dX11_told_90 : decode cX11_told 90 = .ok (.if_icmp .eq 7, 3) := by decide +kernel
theorem dX11_told_93 : decode cX11_told 93 = .ok (.iconst 1, 1) := by decide +kernel
theorem dX11_told_94 : decode cX11_told 94 = .ok (.goto 7, 3) := by decide +kernel
theorem dX11_told_97 : decode cX11_told 97 = .ok (.iload 4, 2) := by decide +kernel
theorem dX11_told_99 : decode cX11_told 99 = .ok (.iconst 1, 1) := by decide +kernel
theorem dX11_told_100 : decode cX11_told 100 = .ok (.iadd, 1) := by decide +kernel
theorem dX11_told_101 : decode cX11_told 101 = .ok (.istore 4, 2) := by decide +kernel
theorem dX11_told_103 : decode cX11_told 103 = .ok (.iload 5, 2) := by decide +kernel
theorem dX11_told_105 : decode cX11_told 105 = .ok (.aload_n 0, 1) := by decide +kernel
theorem dX11_told_106 : decode cX11_told 106 = .ok (.getfield 139, 3) := by decide +kernel
theorem dX11_told_109 : decode cX11_told 109 = .ok (.iload 9, 2) := by decide +kernel
theorem dX11_told_111 : decode cX11_told 111 = .ok (.iaload, 1) := by decide +kernel
theorem dX11_told_112 : decode cX11_told 112 = .ok (.ifCond .lt 40, 3) := by decide +kernel
theorem dX11_told_115 : decode cX11_told 115 = .ok (.aload_n 0, 1) := by decide +kernel
theorem dX11_told_116 : decode cX11_told 116 = .ok (.aload_n 0, 1) := by decide +kernel
theorem dX11_told_117 : decode cX11_told 117 = .ok (.getfield 139, 3) := by decide +kernel
theorem dX11_told_120 : decode cX11_told 120 = .ok (.iload 9, 2) := by decide +kernel
theorem dX11_told_122 : decode cX11_told 122 = .ok (.iaload, 1) := by decide +kernel
theorem dX11_told_123 : decode cX11_told 123 = .ok (.aload_n 0, 1) := by decide +kernel
theorem dX11_told_124 : decode cX11_told 124 = .ok (.getfield 130, 3) := by decide +kernel
theorem dX11_told_127 : decode cX11_told 127 = .ok (.iload 9, 2) := by decide +kernel
theorem dX11_told_129 : decode cX11_told 129 = .ok (.iaload, 1) := by decide +kernel
theorem dX11_told_130 : decode cX11_told 130 = .ok (.aload_n 0, 1) := by decide +kernel
theorem dX11_told_131 : decode cX11_told 131 = .ok (.getfield 139, 3) := by decide +kernel
theorem dX11_told_134 : decode cX11_told 134 = .ok (.iload 9, 2) := by decide +kernel
theorem dX11_told_136 : decode cX11_told 136 = .ok (.iaload, 1) := by decide +kernel
theorem dX11_told_137 : decode cX11_told 137 = .ok (.invokestatic 317, 3) := by decide +kernel
theorem dX11_told_140 : decode cX11_told 140 = .ok (.iload 9, 2) := by decide +kernel
theorem dX11_told_142 : decode cX11_told 142 = .ok (.invokevirtual 533, 3) := by decide +kernel
theorem dX11_told_145 : decode cX11_told 145 = .ok (.ifCond .eq 7, 3) := by decide +kernel
theorem dX11_told_148 : decode cX11_told 148 = .ok (.iconst 1, 1) := by decide +kernel
theorem dX11_told_149 : decode cX11_told 149 = .ok (.goto 4, 3) := by decide +kernel
theorem dX11_told_152 : decode cX11_told 152 = .ok (.iconst 0, 1) := by decide +kernel
theorem dX11_told_153 : decode cX11_told 153 = .ok (.iadd, 1) := by decide +kernel
theorem dX11_told_154 : decode cX11_told 154 = .ok (.istore 5, 2) := by decide +kernel
theorem dX11_told_156 : decode cX11_told 156 = .ok (.iload 6, 2) := by decide +kernel
theorem dX11_told_158 : decode cX11_told 158 = .ok (.aload_n 0, 1) := by decide +kernel
theorem dX11_told_159 : decode cX11_told 159 = .ok (.getfield 136, 3) := by decide +kernel
theorem dX11_told_162 : decode cX11_told 162 = .ok (.iload 9, 2) := by decide +kernel
theorem dX11_told_164 : decode cX11_told 164 = .ok (.iaload, 1) := by decide +kernel
theorem dX11_told_165 : decode cX11_told 165 = .ok (.ifCond .lt 17, 3) := by decide +kernel
theorem dX11_told_168 : decode cX11_told 168 = .ok (.aload_n 0, 1) := by decide +kernel
theorem dX11_told_169 : decode cX11_told 169 = .ok (.getfield 139, 3) := by decide +kernel
theorem dX11_told_172 : decode cX11_told 172 = .ok (.iload 9, 2) := by decide +kernel
theorem dX11_told_174 : decode cX11_told 174 = .ok (.iaload, 1) := by decide +kernel
theorem dX11_told_175 : decode cX11_told 175 = .ok (.ifCond .ge 7, 3) := by decide +kernel
theorem dX11_told_178 : decode cX11_told 178 = .ok (.iconst 1, 1) := by decide +kernel
theorem dX11_told_179 : decode cX11_told 179 = .ok (.goto 4, 3) := by decide +kernel
theorem dX11_told_182 : decode cX11_told 182 = .ok (.iconst 0, 1) := by decide +kernel
theorem dX11_told_183 : decode cX11_told 183 = .ok (.iadd, 1) := by decide +kernel
theorem dX11_told_184 : decode cX11_told 184 = .ok (.istore 6, 2) := by decide +kernel
theorem dX11_told_186 : decode cX11_told 186 = .ok (.iload 7, 2) := by decide +kernel
theorem dX11_told_188 : decode cX11_told 188 = .ok (.aload_n 0, 1) := by decide +kernel
theorem dX11_told_189 : decode cX11_told 189 = .ok (.getfield 136, 3) := by decide +kernel
theorem dX11_told_192 : decode cX11_told 192 = .ok (.iload 9, 2) := by decide +kernel
theorem dX11_told_194 : decode cX11_told 194 = .ok (.iaload, 1) := by decide +kernel
theorem dX11_told_195 : decode cX11_told 195 = .ok (.ifCond .lt 7, 3) := by decide +kernel
theorem dX11_told_198 : decode cX11_told 198 = .ok (.iconst 1, 1) := by decide +kernel
theorem dX11_told_199 : decode cX11_told 199 = .ok (.goto 4, 3) := by decide +kernel
theorem dX11_told_202 : decode cX11_told 202 = .ok (.iconst 0, 1) := by decide +kernel
theorem dX11_told_203 : decode cX11_told 203 = .ok (.iadd, 1) := by decide +kernel
theorem dX11_told_204 : decode cX11_told 204 = .ok (.istore 7, 2) := by decide +kernel
theorem dX11_told_206 : decode cX11_told 206 = .ok (.iload 8, 2) := by decide +kernel
theorem dX11_told_208 : decode cX11_told 208 = .ok (.aload_n 0, 1) := by decide +kernel
theorem dX11_told_209 : decode cX11_told 209 = .ok (.getfield 142, 3) := by decide +kernel
theorem dX11_told_212 : decode cX11_told 212 = .ok (.iload 9, 2) := by decide +kernel
theorem dX11_told_214 : decode cX11_told 214 = .ok (.iaload, 1) := by decide +kernel
theorem dX11_told_215 : decode cX11_told 215 = .ok (.iadd, 1) := by decide +kernel
theorem dX11_told_216 : decode cX11_told 216 = .ok (.istore 8, 2) := by decide +kernel
theorem dX11_told_218 : decode cX11_told 218 = .ok (.iinc 9 1, 3) := by decide +kernel
theorem dX11_told_221 : decode cX11_told 221 = .ok (.goto (-161), 3) := by decide +kernel
theorem dX11_told_224 : decode cX11_told 224 = .ok (.iload_n 3, 1) := by decide +kernel
theorem dX11_told_225 : decode cX11_told 225 = .ok (.tableswitch 53 0 4 #[35, 38, 41, 47, 50], 35) := by decide +kernel
theorem dX11_told_260 : decode cX11_told 260 = .ok (.iload 4, 2) := by decide +kernel
theorem dX11_told_262 : decode cX11_told 262 = .ok (.ireturn, 1) := by decide +kernel
theorem dX11_told_263 : decode cX11_told 263 = .ok (.iload 5, 2) := by decide +kernel
theorem dX11_told_265 : decode cX11_told 265 = .ok (.ireturn, 1) := by decide +kernel
theorem dX11_told_266 : decode cX11_told 266 = .ok (.aload_n 0, 1) := by decide +kernel
theorem dX11_told_267 : decode cX11_told 267 = .ok (.iload_n 2, 1) := by decide +kernel
theorem dX11_told_268 : decode cX11_told 268 = .ok (.invokevirtual 536, 3) := by decide +kernel
theorem dX11_told_271 : decode cX11_told 271 = .ok (.ireturn, 1) := by decide +kernel
theorem dX11_told_272 : decode cX11_told 272 = .ok (.iload 6, 2) := by decide +kernel
theorem dX11_told_274 : decode cX11_told 274 = .ok (.ireturn, 1) := by decide +kernel
theorem dX11_told_275 : decode cX11_told 275 = .ok (.iload 7, 2) := by decide +kernel
theorem dX11_told_277 : decode cX11_told 277 = .ok (.ireturn, 1) := by decide +kernel
theorem dX11_told_278 : decode cX11_told 278 = .ok (.iload 8, 2) := by decide +kernel
theorem dX11_told_280 : decode cX11_told 280 = .ok (.ireturn, 1) := by decide +kernel
theorem dX11_bestRule_0 : decode cX11_bestRule 0 = .ok (.aload_n 0, 1) := by decide +kernel
theorem dX11_bestRule_1 : decode cX11_bestRule 1 = .ok (.iconst 0, 1) := by decide +kernel
theorem dX11_bestRule_2 : decode cX11_bestRule 2 = .ok (.putfield 1, 3) := by decide +kernel
theorem dX11_bestRule_5 : decode cX11_bestRule 5 = .ok (.iload_n 1, 1) := by decide +kernel
theorem dX11_bestRule_6 : decode cX11_bestRule 6 = .ok (.iconst 1, 1) := by decide +kernel
theorem dX11_bestRule_7 : decode cX11_bestRule 7 = .ok (.bipush 12, 2) := by decide +kernel
theorem dX11_bestRule_9 : decode cX11_bestRule 9 = .ok (.invokestatic 303, 3) := by decide +kernel
theorem dX11_bestRule_12 : decode cX11_bestRule 12 = .ok (.ifCond .eq 10, 3) := by decide +kernel
theorem dX11_bestRule_15 : decode cX11_bestRule 15 = .ok (.aload_n 0, 1) := by decide +kernel
theorem dX11_bestRule_16 : decode cX11_bestRule 16 = .ok (.invokevirtual 323, 3) := by decide +kernel
theorem dX11_bestRule_19 : decode cX11_bestRule 19 = .ok (.ifCond .ne 5, 3) := by decide +kernel
theorem dX11_bestRule_22 : decode cX11_bestRule 22 = .ok (.iconst (-1), 1) := by decide +kernel
theorem dX11_bestRule_23 : decode cX11_bestRule 23 = .ok (.ireturn, 1) := by decide +kernel
theorem dX11_bestRule_24 : decode cX11_bestRule 24 = .ok (.iconst (-1), 1) := by decide +kernel
theorem dX11_bestRule_25 : decode cX11_bestRule 25 = .ok (.istore_n 2, 1) := by decide +kernel
theorem dX11_bestRule_26 : decode cX11_bestRule 26 = .ok (.iconst 0, 1) := by decide +kernel
theorem dX11_bestRule_27 : decode cX11_bestRule 27 = .ok (.istore_n 3, 1) := by decide +kernel
theorem dX11_bestRule_28 : decode cX11_bestRule 28 = .ok (.iconst 0, 1) := by decide +kernel
theorem dX11_bestRule_29 : decode cX11_bestRule 29 = .ok (.istore 4, 2) := by decide +kernel
theorem dX11_bestRule_31 : decode cX11_bestRule 31 = .ok (.iload 4, 2) := by decide +kernel
theorem dX11_bestRule_33 : decode cX11_bestRule 33 = .ok (.bipush 6, 2) := by decide +kernel
theorem dX11_bestRule_35 : decode cX11_bestRule 35 = .ok (.if_icmp .ge 62, 3) := by decide +kernel
theorem dX11_bestRule_38 : decode cX11_bestRule 38 = .ok (.iconst 0, 1) := by decide +kernel
theorem dX11_bestRule_39 : decode cX11_bestRule 39 = .ok (.istore 5, 2) := by decide +kernel
theorem dX11_bestRule_41 : decode cX11_bestRule 41 = .ok (.iconst 0, 1) := by decide +kernel
theorem dX11_bestRule_42 : decode cX11_bestRule 42 = .ok (.istore 6, 2) := by decide +kernel
theorem dX11_bestRule_44 : decode cX11_bestRule 44 = .ok (.iload 6, 2) := by decide +kernel
theorem dX11_bestRule_46 : decode cX11_bestRule 46 = .ok (.iload_n 1, 1) := by decide +kernel
theorem dX11_bestRule_47 : decode cX11_bestRule 47 = .ok (.if_icmp .ge 28, 3) := by decide +kernel
theorem dX11_bestRule_50 : decode cX11_bestRule 50 = .ok (.aload_n 0, 1) := by decide +kernel
theorem dX11_bestRule_51 : decode cX11_bestRule 51 = .ok (.iload 6, 2) := by decide +kernel
theorem dX11_bestRule_53 : decode cX11_bestRule 53 = .ok (.iload 4, 2) := by decide +kernel
theorem dX11_bestRule_55 : decode cX11_bestRule 55 = .ok (.invokevirtual 527, 3) := by decide +kernel
theorem dX11_bestRule_58 : decode cX11_bestRule 58 = .ok (.iload 5, 2) := by decide +kernel
theorem dX11_bestRule_60 : decode cX11_bestRule 60 = .ok (.aload_n 0, 1) := by decide +kernel
theorem dX11_bestRule_61 : decode cX11_bestRule 61 = .ok (.iload 4, 2) := by decide +kernel
theorem dX11_bestRule_63 : decode cX11_bestRule 63 = .ok (.invokevirtual 536, 3) := by decide +kernel
theorem dX11_bestRule_66 : decode cX11_bestRule 66 = .ok (.iadd, 1) := by decide +kernel
theorem dX11_bestRule_67 : decode cX11_bestRule 67 = .ok (.istore 5, 2) := by decide +kernel
theorem dX11_bestRule_69 : decode cX11_bestRule 69 = .ok (.iinc 6 1, 3) := by decide +kernel
theorem dX11_bestRule_72 : decode cX11_bestRule 72 = .ok (.goto (-28), 3) := by decide +kernel
theorem dX11_bestRule_75 : decode cX11_bestRule 75 = .ok (.iload_n 2, 1) := by decide +kernel
theorem dX11_bestRule_76 : decode cX11_bestRule 76 = .ok (.ifCond .lt 9, 3) := by decide +kernel
theorem dX11_bestRule_79 : decode cX11_bestRule 79 = .ok (.iload 5, 2) := by decide +kernel
theorem dX11_bestRule_81 : decode cX11_bestRule 81 = .ok (.iload_n 3, 1) := by decide +kernel
theorem dX11_bestRule_82 : decode cX11_bestRule 82 = .ok (.if_icmp .le 9, 3) := by decide +kernel
theorem dX11_bestRule_85 : decode cX11_bestRule 85 = .ok (.iload 5, 2) := by decide +kernel
theorem dX11_bestRule_87 : decode cX11_bestRule 87 = .ok (.istore_n 3, 1) := by decide +kernel
theorem dX11_bestRule_88 : decode cX11_bestRule 88 = .ok (.iload 4, 2) := by decide +kernel
theorem dX11_bestRule_90 : decode cX11_bestRule 90 = .ok (.istore_n 2, 1) := by decide +kernel
theorem dX11_bestRule_91 : decode cX11_bestRule 91 = .ok (.iinc 4 1, 3) := by decide +kernel
theorem dX11_bestRule_94 : decode cX11_bestRule 94 = .ok (.goto (-63), 3) := by decide +kernel
theorem dX11_bestRule_97 : decode cX11_bestRule 97 = .ok (.iload_n 2, 1) := by decide +kernel
theorem dX11_bestRule_98 : decode cX11_bestRule 98 = .ok (.ireturn, 1) := by decide +kernel
theorem dX11_canBring_0 : decode cX11_canBring 0 = .ok (.iload_n 1, 1) := by decide +kernel
theorem dX11_canBring_1 : decode cX11_canBring 1 = .ok (.iconst 1, 1) := by decide +kernel
theorem dX11_canBring_2 : decode cX11_canBring 2 = .ok (.iconst 3, 1) := by decide +kernel
theorem dX11_canBring_3 : decode cX11_canBring 3 = .ok (.invokestatic 303, 3) := by decide +kernel
theorem dX11_canBring_6 : decode cX11_canBring 6 = .ok (.ifCond .eq 18, 3) := by decide +kernel
theorem dX11_canBring_9 : decode cX11_canBring 9 = .ok (.iload_n 1, 1) := by decide +kernel
theorem dX11_canBring_10 : decode cX11_canBring 10 = .ok (.aload_n 0, 1) := by decide +kernel
theorem dX11_canBring_11 : decode cX11_canBring 11 = .ok (.invokevirtual 326, 3) := by decide +kernel
theorem dX11_canBring_14 : decode cX11_canBring 14 = .ok (.if_icmp .gt 10, 3) := by decide +kernel
theorem dX11_canBring_17 : decode cX11_canBring 17 = .ok (.aload_n 0, 1) := by decide +kernel
theorem dX11_canBring_18 : decode cX11_canBring 18 = .ok (.invokevirtual 323, 3) := by decide +kernel
theorem dX11_canBring_21 : decode cX11_canBring 21 = .ok (.ifCond .ne 5, 3) := by decide +kernel
theorem dX11_canBring_24 : decode cX11_canBring 24 = .ok (.iconst 0, 1) := by decide +kernel
theorem dX11_canBring_25 : decode cX11_canBring 25 = .ok (.ireturn, 1) := by decide +kernel
theorem dX11_canBring_26 : decode cX11_canBring 26 = .ok (.iconst 1, 1) := by decide +kernel
theorem dX11_canBring_27 : decode cX11_canBring 27 = .ok (.istore_n 2, 1) := by decide +kernel
theorem dX11_canBring_28 : decode cX11_canBring 28 = .ok (.iconst 0, 1) := by decide +kernel
theorem dX11_canBring_29 : decode cX11_canBring 29 = .ok (.istore_n 3, 1) := by decide +kernel
theorem dX11_canBring_30 : decode cX11_canBring 30 = .ok (.iload_n 3, 1) := by decide +kernel
theorem dX11_canBring_31 : decode cX11_canBring 31 = .ok (.iload_n 1, 1) := by decide +kernel
theorem dX11_canBring_32 : decode cX11_canBring 32 = .ok (.if_icmp .ge 31, 3) := by decide +kernel
theorem dX11_canBring_35 : decode cX11_canBring 35 = .ok (.iload_n 2, 1) := by decide +kernel
theorem dX11_canBring_36 : decode cX11_canBring 36 = .ok (.ifCond .eq 19, 3) := by decide +kernel
theorem dX11_canBring_39 : decode cX11_canBring 39 = .ok (.aload_n 0, 1) := by decide +kernel
theorem dX11_canBring_40 : decode cX11_canBring 40 = .ok (.getfield 73, 3) := by decide +kernel
theorem dX11_canBring_43 : decode cX11_canBring 43 = .ok (.bipush 29, 2) := by decide +kernel
theorem dX11_canBring_45 : decode cX11_canBring 45 = .ok (.iload_n 3, 1) := by decide +kernel
theorem dX11_canBring_46 : decode cX11_canBring 46 = .ok (.iadd, 1) := by decide +kernel
theorem dX11_canBring_47 : decode cX11_canBring 47 = .ok (.iaload, 1) := by decide +kernel
theorem dX11_canBring_48 : decode cX11_canBring 48 = .ok (.ifCond .le 7, 3) := by decide +kernel
theorem dX11_canBring_51 : decode cX11_canBring 51 = .ok (.iconst 1, 1) := by decide +kernel
theorem dX11_canBring_52 : decode cX11_canBring 52 = .ok (.goto 4, 3) := by decide +kernel
theorem dX11_canBring_55 : decode cX11_canBring 55 = .ok (.iconst 0, 1) := by decide +kernel
theorem dX11_canBring_56 : decode cX11_canBring 56 = .ok (.istore_n 2, 1) := by decide +kernel
theorem dX11_canBring_57 : decode cX11_canBring 57 = .ok (.iinc 3 1, 3) := by decide +kernel
theorem dX11_canBring_60 : decode cX11_canBring 60 = .ok (.goto (-30), 3) := by decide +kernel
theorem dX11_canBring_63 : decode cX11_canBring 63 = .ok (.iload_n 2, 1) := by decide +kernel
theorem dX11_canBring_64 : decode cX11_canBring 64 = .ok (.ireturn, 1) := by decide +kernel
theorem dX11_rowsOf_0 : decode cX11_rowsOf 0 = .ok (.iconst 1, 1) := by decide +kernel
theorem dX11_rowsOf_1 : decode cX11_rowsOf 1 = .ok (.istore_n 2, 1) := by decide +kernel
theorem dX11_rowsOf_2 : decode cX11_rowsOf 2 = .ok (.iconst 0, 1) := by decide +kernel
theorem dX11_rowsOf_3 : decode cX11_rowsOf 3 = .ok (.istore_n 3, 1) := by decide +kernel
theorem dX11_rowsOf_4 : decode cX11_rowsOf 4 = .ok (.iload_n 3, 1) := by decide +kernel
theorem dX11_rowsOf_5 : decode cX11_rowsOf 5 = .ok (.iload_n 1, 1) := by decide +kernel
theorem dX11_rowsOf_6 : decode cX11_rowsOf 6 = .ok (.if_icmp .ge 18, 3) := by decide +kernel
theorem dX11_rowsOf_9 : decode cX11_rowsOf 9 = .ok (.iload_n 2, 1) := by decide +kernel
theorem dX11_rowsOf_10 : decode cX11_rowsOf 10 = .ok (.aload_n 0, 1) := by decide +kernel
theorem dX11_rowsOf_11 : decode cX11_rowsOf 11 = .ok (.invokevirtual 314, 3) := by decide +kernel
theorem dX11_rowsOf_14 : decode cX11_rowsOf 14 = .ok (.iconst 1, 1) := by decide +kernel
theorem dX11_rowsOf_15 : decode cX11_rowsOf 15 = .ok (.iadd, 1) := by decide +kernel
theorem dX11_rowsOf_16 : decode cX11_rowsOf 16 = .ok (.imul, 1) := by decide +kernel
theorem dX11_rowsOf_17 : decode cX11_rowsOf 17 = .ok (.istore_n 2, 1) := by decide +kernel
theorem dX11_rowsOf_18 : decode cX11_rowsOf 18 = .ok (.iinc 3 1, 3) := by decide +kernel
theorem dX11_rowsOf_21 : decode cX11_rowsOf 21 = .ok (.goto (-17), 3) := by decide +kernel
theorem dX11_rowsOf_24 : decode cX11_rowsOf 24 = .ok (.iload_n 2, 1) := by decide +kernel
theorem dX11_rowsOf_25 : decode cX11_rowsOf 25 = .ok (.ireturn, 1) := by decide +kernel
theorem dX11_asksRow_0 : decode cX11_asksRow 0 = .ok (.iload_n 2, 1) := by decide +kernel
theorem dX11_asksRow_1 : decode cX11_asksRow 1 = .ok (.istore_n 3, 1) := by decide +kernel
theorem dX11_asksRow_2 : decode cX11_asksRow 2 = .ok (.iload_n 1, 1) := by decide +kernel
theorem dX11_asksRow_3 : decode cX11_asksRow 3 = .ok (.iconst 1, 1) := by decide +kernel
theorem dX11_asksRow_4 : decode cX11_asksRow 4 = .ok (.isub, 1) := by decide +kernel
theorem dX11_asksRow_5 : decode cX11_asksRow 5 = .ok (.istore 4, 2) := by decide +kernel
theorem dX11_asksRow_7 : decode cX11_asksRow 7 = .ok (.iload 4, 2) := by decide +kernel
theorem dX11_asksRow_9 : decode cX11_asksRow 9 = .ok (.ifCond .lt 36, 3) := by decide +kernel
theorem dX11_asksRow_12 : decode cX11_asksRow 12 = .ok (.aload_n 0, 1) := by decide +kernel
theorem dX11_asksRow_13 : decode cX11_asksRow 13 = .ok (.getfield 73, 3) := by decide +kernel
theorem dX11_asksRow_16 : decode cX11_asksRow 16 = .ok (.bipush 45, 2) := by decide +kernel
theorem dX11_asksRow_18 : decode cX11_asksRow 18 = .ok (.iload 4, 2) := by decide +kernel
theorem dX11_asksRow_20 : decode cX11_asksRow 20 = .ok (.iadd, 1) := by decide +kernel
theorem dX11_asksRow_21 : decode cX11_asksRow 21 = .ok (.iload_n 3, 1) := by decide +kernel
theorem dX11_asksRow_22 : decode cX11_asksRow 22 = .ok (.aload_n 0, 1) := by decide +kernel
theorem dX11_asksRow_23 : decode cX11_asksRow 23 = .ok (.invokevirtual 314, 3) := by decide +kernel
theorem dX11_asksRow_26 : decode cX11_asksRow 26 = .ok (.iconst 1, 1) := by decide +kernel
theorem dX11_asksRow_27 : decode cX11_asksRow 27 = .ok (.iadd, 1) := by decide +kernel
theorem dX11_asksRow_28 : decode cX11_asksRow 28 = .ok (.irem, 1) := by decide +kernel
theorem dX11_asksRow_29 : decode cX11_asksRow 29 = .ok (.iastore, 1) := by decide +kernel
theorem dX11_asksRow_30 : decode cX11_asksRow 30 = .ok (.iload_n 3, 1) := by decide +kernel
theorem dX11_asksRow_31 : decode cX11_asksRow 31 = .ok (.aload_n 0, 1) := by decide +kernel
theorem dX11_asksRow_32 : decode cX11_asksRow 32 = .ok (.invokevirtual 314, 3) := by decide +kernel
theorem dX11_asksRow_35 : decode cX11_asksRow 35 = .ok (.iconst 1, 1) := by decide +kernel
theorem dX11_asksRow_36 : decode cX11_asksRow 36 = .ok (.iadd, 1) := by decide +kernel
theorem dX11_asksRow_37 : decode cX11_asksRow 37 = .ok (.idiv, 1) := by decide +kernel
theorem dX11_asksRow_38 : decode cX11_asksRow 38 = .ok (.istore_n 3, 1) := by decide +kernel
theorem dX11_asksRow_39 : decode cX11_asksRow 39 = .ok (.iinc 4 (-1), 3) := by decide +kernel
theorem dX11_asksRow_42 : decode cX11_asksRow 42 = .ok (.goto (-35), 3) := by decide +kernel
theorem dX11_asksRow_45 : decode cX11_asksRow 45 = .ok (.aload_n 0, 1) := by decide +kernel
theorem dX11_asksRow_46 : decode cX11_asksRow 46 = .ok (.iconst 1, 1) := by decide +kernel
theorem dX11_asksRow_47 : decode cX11_asksRow 47 = .ok (.putfield 163, 3) := by decide +kernel
theorem dX11_asksRow_50 : decode cX11_asksRow 50 = .ok (.return_, 1) := by decide +kernel
theorem dX11_keepsAsked_0 : decode cX11_keepsAsked 0 = .ok (.iconst 0, 1) := by decide +kernel
theorem dX11_keepsAsked_1 : decode cX11_keepsAsked 1 = .ok (.istore_n 2, 1) := by decide +kernel
theorem dX11_keepsAsked_2 : decode cX11_keepsAsked 2 = .ok (.iload_n 2, 1) := by decide +kernel
theorem dX11_keepsAsked_3 : decode cX11_keepsAsked 3 = .ok (.iconst 3, 1) := by decide +kernel
theorem dX11_keepsAsked_4 : decode cX11_keepsAsked 4 = .ok (.if_icmp .ge 46, 3) := by decide +kernel
theorem dX11_keepsAsked_7 : decode cX11_keepsAsked 7 = .ok (.iload_n 1, 1) := by decide +kernel
theorem dX11_keepsAsked_8 : decode cX11_keepsAsked 8 = .ok (.ifCond .eq 21, 3) := by decide +kernel
theorem dX11_keepsAsked_11 : decode cX11_keepsAsked 11 = .ok (.aload_n 0, 1) := by decide +kernel
theorem dX11_keepsAsked_12 : decode cX11_keepsAsked 12 = .ok (.getfield 73, 3) := by decide +kernel
theorem dX11_keepsAsked_15 : decode cX11_keepsAsked 15 = .ok (.bipush 45, 2) := by decide +kernel
theorem dX11_keepsAsked_17 : decode cX11_keepsAsked 17 = .ok (.iload_n 2, 1) := by decide +kernel
theorem dX11_keepsAsked_18 : decode cX11_keepsAsked 18 = .ok (.iadd, 1) := by decide +kernel
theorem dX11_keepsAsked_19 : decode cX11_keepsAsked 19 = .ok (.aload_n 0, 1) := by decide +kernel
theorem dX11_keepsAsked_20 : decode cX11_keepsAsked 20 = .ok (.getfield 145, 3) := by decide +kernel
theorem dX11_keepsAsked_23 : decode cX11_keepsAsked 23 = .ok (.iload_n 2, 1) := by decide +kernel
theorem dX11_keepsAsked_24 : decode cX11_keepsAsked 24 = .ok (.iaload, 1) := by decide +kernel
theorem dX11_keepsAsked_25 : decode cX11_keepsAsked 25 = .ok (.iastore, 1) := by decide +kernel
theorem dX11_keepsAsked_26 : decode cX11_keepsAsked 26 = .ok (.goto 18, 3) := by decide +kernel
theorem dX11_keepsAsked_29 : decode cX11_keepsAsked 29 = .ok (.aload_n 0, 1) := by decide +kernel
theorem dX11_keepsAsked_30 : decode cX11_keepsAsked 30 = .ok (.getfield 145, 3) := by decide +kernel
theorem dX11_keepsAsked_33 : decode cX11_keepsAsked 33 = .ok (.iload_n 2, 1) := by decide +kernel
theorem dX11_keepsAsked_34 : decode cX11_keepsAsked 34 = .ok (.aload_n 0, 1) := by decide +kernel
theorem dX11_keepsAsked_35 : decode cX11_keepsAsked 35 = .ok (.getfield 73, 3) := by decide +kernel
theorem dX11_keepsAsked_38 : decode cX11_keepsAsked 38 = .ok (.bipush 45, 2) := by decide +kernel
theorem dX11_keepsAsked_40 : decode cX11_keepsAsked 40 = .ok (.iload_n 2, 1) := by decide +kernel
theorem dX11_keepsAsked_41 : decode cX11_keepsAsked 41 = .ok (.iadd, 1) := by decide +kernel
theorem dX11_keepsAsked_42 : decode cX11_keepsAsked 42 = .ok (.iaload, 1) := by decide +kernel
theorem dX11_keepsAsked_43 : decode cX11_keepsAsked 43 = .ok (.iastore, 1) := by decide +kernel
theorem dX11_keepsAsked_44 : decode cX11_keepsAsked 44 = .ok (.iinc 2 1, 3) := by decide +kernel
theorem dX11_keepsAsked_47 : decode cX11_keepsAsked 47 = .ok (.goto (-45), 3) := by decide +kernel
theorem dX11_keepsAsked_50 : decode cX11_keepsAsked 50 = .ok (.aload_n 0, 1) := by decide +kernel
theorem dX11_keepsAsked_51 : decode cX11_keepsAsked 51 = .ok (.iconst 1, 1) := by decide +kernel
theorem dX11_keepsAsked_52 : decode cX11_keepsAsked 52 = .ok (.putfield 163, 3) := by decide +kernel
theorem dX11_keepsAsked_55 : decode cX11_keepsAsked 55 = .ok (.return_, 1) := by decide +kernel
theorem dX11_endBy_0 : decode cX11_endBy 0 = .ok (.aload_n 0, 1) := by decide +kernel
theorem dX11_endBy_1 : decode cX11_endBy 1 = .ok (.iload_n 1, 1) := by decide +kernel
theorem dX11_endBy_2 : decode cX11_endBy 2 = .ok (.iload_n 2, 1) := by decide +kernel
theorem dX11_endBy_3 : decode cX11_endBy 3 = .ok (.invokevirtual 539, 3) := by decide +kernel
theorem dX11_endBy_6 : decode cX11_endBy 6 = .ok (.aload_n 0, 1) := by decide +kernel
theorem dX11_endBy_7 : decode cX11_endBy 7 = .ok (.invokevirtual 419, 3) := by decide +kernel
theorem dX11_endBy_10 : decode cX11_endBy 10 = .ok (.aload_n 0, 1) := by decide +kernel
theorem dX11_endBy_11 : decode cX11_endBy 11 = .ok (.invokevirtual 453, 3) := by decide +kernel
theorem dX11_endBy_14 : decode cX11_endBy 14 = .ok (.istore_n 3, 1) := by decide +kernel
theorem dX11_endBy_15 : decode cX11_endBy 15 = .ok (.iconst 0, 1) := by decide +kernel
theorem dX11_endBy_16 : decode cX11_endBy 16 = .ok (.istore 4, 2) := by decide +kernel
theorem dX11_endBy_18 : decode cX11_endBy 18 = .ok (.iload 4, 2) := by decide +kernel
theorem dX11_endBy_20 : decode cX11_endBy 20 = .ok (.iload_n 1, 1) := by decide +kernel
theorem dX11_endBy_21 : decode cX11_endBy 21 = .ok (.if_icmp .ge 46, 3) := by decide +kernel
theorem dX11_endBy_24 : decode cX11_endBy 24 = .ok (.aload_n 0, 1) := by decide +kernel
theorem dX11_endBy_25 : decode cX11_endBy 25 = .ok (.getfield 73, 3) := by decide +kernel
theorem dX11_endBy_28 : decode cX11_endBy 28 = .ok (.bipush 29, 2) := by decide +kernel
theorem dX11_endBy_30 : decode cX11_endBy 30 = .ok (.iload 4, 2) := by decide +kernel
theorem dX11_endBy_32 : decode cX11_endBy 32 = .ok (.iadd, 1) := by decide +kernel
theorem dX11_endBy_33 : decode cX11_endBy 33 = .ok (.iaload, 1) := by decide +kernel
theorem dX11_endBy_34 : decode cX11_endBy 34 = .ok (.iconst 2, 1) := by decide +kernel
theorem dX11_endBy_35 : decode cX11_endBy 35 = .ok (.isub, 1) := by decide +kernel
theorem dX11_endBy_36 : decode cX11_endBy 36 = .ok (.istore 5, 2) := by decide +kernel
theorem dX11_endBy_38 : decode cX11_endBy 38 = .ok (.iload 5, 2) := by decide +kernel
theorem dX11_endBy_40 : decode cX11_endBy 40 = .ok (.ifCond .ge 7, 3) := by decide +kernel
theorem dX11_endBy_43 : decode cX11_endBy 43 = .ok (.iload_n 3, 1) := by decide +kernel
theorem dX11_endBy_44 : decode cX11_endBy 44 = .ok (.goto 16, 3) := by decide +kernel
theorem dX11_endBy_47 : decode cX11_endBy 47 = .ok (.aload_n 0, 1) := by decide +kernel
theorem dX11_endBy_48 : decode cX11_endBy 48 = .ok (.getfield 101, 3) := by decide +kernel
theorem dX11_endBy_51 : decode cX11_endBy 51 = .ok (.iload 4, 2) := by decide +kernel
theorem dX11_endBy_53 : decode cX11_endBy 53 = .ok (.iload 5, 2) := by decide +kernel
theorem dX11_endBy_55 : decode cX11_endBy 55 = .ok (.iload_n 3, 1) := by decide +kernel
theorem dX11_endBy_56 : decode cX11_endBy 56 = .ok (.invokestatic 400, 3) := by decide +kernel
theorem dX11_endBy_59 : decode cX11_endBy 59 = .ok (.iaload, 1) := by decide +kernel
theorem dX11_endBy_60 : decode cX11_endBy 60 = .ok (.istore_n 3, 1) := by decide +kernel
theorem dX11_endBy_61 : decode cX11_endBy 61 = .ok (.iinc 4 1, 3) := by decide +kernel
theorem dX11_endBy_64 : decode cX11_endBy 64 = .ok (.goto (-46), 3) := by decide +kernel
theorem dX11_endBy_67 : decode cX11_endBy 67 = .ok (.iload_n 3, 1) := by decide +kernel
theorem dX11_endBy_68 : decode cX11_endBy 68 = .ok (.ireturn, 1) := by decide +kernel
theorem dX11_brought_0 : decode cX11_brought 0 = .ok (.aload_n 0, 1) := by decide +kernel
theorem dX11_brought_1 : decode cX11_brought 1 = .ok (.iconst 0, 1) := by decide +kernel
theorem dX11_brought_2 : decode cX11_brought 2 = .ok (.putfield 1, 3) := by decide +kernel
theorem dX11_brought_5 : decode cX11_brought 5 = .ok (.aload_n 0, 1) := by decide +kernel
theorem dX11_brought_6 : decode cX11_brought 6 = .ok (.iload_n 1, 1) := by decide +kernel
theorem dX11_brought_7 : decode cX11_brought 7 = .ok (.invokevirtual 542, 3) := by decide +kernel
theorem dX11_brought_10 : decode cX11_brought 10 = .ok (.ifCond .ne 5, 3) := by decide +kernel
theorem dX11_brought_13 : decode cX11_brought 13 = .ok (.iconst (-1), 1) := by decide +kernel
theorem dX11_brought_14 : decode cX11_brought 14 = .ok (.ireturn, 1) := by decide +kernel
theorem dX11_brought_15 : decode cX11_brought 15 = .ok (.aload_n 0, 1) := by decide +kernel
theorem dX11_brought_16 : decode cX11_brought 16 = .ok (.iconst 0, 1) := by decide +kernel
theorem dX11_brought_17 : decode cX11_brought 17 = .ok (.invokevirtual 545, 3) := by decide +kernel
theorem dX11_brought_20 : decode cX11_brought 20 = .ok (.iconst 0, 1) := by decide +kernel
theorem dX11_brought_21 : decode cX11_brought 21 = .ok (.istore_n 2, 1) := by decide +kernel
theorem dX11_brought_22 : decode cX11_brought 22 = .ok (.iconst 0, 1) := by decide +kernel
theorem dX11_brought_23 : decode cX11_brought 23 = .ok (.istore_n 3, 1) := by decide +kernel
theorem dX11_brought_24 : decode cX11_brought 24 = .ok (.iload_n 3, 1) := by decide +kernel
theorem dX11_brought_25 : decode cX11_brought 25 = .ok (.aload_n 0, 1) := by decide +kernel
theorem dX11_brought_26 : decode cX11_brought 26 = .ok (.iload_n 1, 1) := by decide +kernel
theorem dX11_brought_27 : decode cX11_brought 27 = .ok (.invokevirtual 549, 3) := by decide +kernel
theorem dX11_brought_30 : decode cX11_brought 30 = .ok (.if_icmp .ge 20, 3) := by decide +kernel
theorem dX11_brought_33 : decode cX11_brought 33 = .ok (.iload_n 2, 1) := by decide +kernel
theorem dX11_brought_34 : decode cX11_brought 34 = .ok (.iconst 1, 1) := by decide +kernel
theorem dX11_brought_35 : decode cX11_brought 35 = .ok (.aload_n 0, 1) := by decide +kernel
theorem dX11_brought_36 : decode cX11_brought 36 = .ok (.iload_n 1, 1) := by decide +kernel
theorem dX11_brought_37 : decode cX11_brought 37 = .ok (.iload_n 3, 1) := by decide +kernel
theorem dX11_brought_38 : decode cX11_brought 38 = .ok (.invokevirtual 552, 3) := by decide +kernel
theorem dX11_brought_41 : decode cX11_brought 41 = .ok (.ishl, 1) := by decide +kernel
theorem dX11_brought_42 : decode cX11_brought 42 = .ok (.ior, 1) := by decide +kernel
theorem dX11_brought_43 : decode cX11_brought 43 = .ok (.istore_n 2, 1) := by decide +kernel
theorem dX11_brought_44 : decode cX11_brought 44 = .ok (.iinc 3 1, 3) := by decide +kernel
theorem dX11_brought_47 : decode cX11_brought 47 = .ok (.goto (-23), 3) := by decide +kernel
theorem dX11_brought_50 : decode cX11_brought 50 = .ok (.aload_n 0, 1) := by decide +kernel
theorem dX11_brought_51 : decode cX11_brought 51 = .ok (.iconst 1, 1) := by decide +kernel
theorem dX11_brought_52 : decode cX11_brought 52 = .ok (.invokevirtual 545, 3) := by decide +kernel
theorem dX11_brought_55 : decode cX11_brought 55 = .ok (.iconst 0, 1) := by decide +kernel
theorem dX11_brought_56 : decode cX11_brought 56 = .ok (.istore_n 3, 1) := by decide +kernel
theorem dX11_brought_57 : decode cX11_brought 57 = .ok (.iconst 0, 1) := by decide +kernel
theorem dX11_brought_58 : decode cX11_brought 58 = .ok (.istore 4, 2) := by decide +kernel
theorem dX11_brought_60 : decode cX11_brought 60 = .ok (.iload 4, 2) := by decide +kernel
theorem dX11_brought_62 : decode cX11_brought 62 = .ok (.bipush 27, 2) := by decide +kernel
theorem dX11_brought_64 : decode cX11_brought 64 = .ok (.if_icmp .ge 18, 3) := by decide +kernel
theorem dX11_brought_67 : decode cX11_brought 67 = .ok (.iload_n 3, 1) := by decide +kernel
theorem dX11_brought_68 : decode cX11_brought 68 = .ok (.iload_n 2, 1) := by decide +kernel
theorem dX11_brought_69 : decode cX11_brought 69 = .ok (.iload 4, 2) := by decide +kernel
theorem dX11_brought_71 : decode cX11_brought 71 = .ok (.ishr, 1) := by decide +kernel
theorem dX11_brought_72 : decode cX11_brought 72 = .ok (.iconst 1, 1) := by decide +kernel
theorem dX11_brought_73 : decode cX11_brought 73 = .ok (.iand, 1) := by decide +kernel
theorem dX11_brought_74 : decode cX11_brought 74 = .ok (.iadd, 1) := by decide +kernel
theorem dX11_brought_75 : decode cX11_brought 75 = .ok (.istore_n 3, 1) := by decide +kernel
theorem dX11_brought_76 : decode cX11_brought 76 = .ok (.iinc 4 1, 3) := by decide +kernel
theorem dX11_brought_79 : decode cX11_brought 79 = .ok (.goto (-19), 3) := by decide +kernel
theorem dX11_brought_82 : decode cX11_brought 82 = .ok (.iload_n 3, 1) := by decide +kernel
theorem dX11_brought_83 : decode cX11_brought 83 = .ok (.ireturn, 1) := by decide +kernel
theorem dX11_rowFor_0 : decode cX11_rowFor 0 = .ok (.aload_n 0, 1) := by decide +kernel
theorem dX11_rowFor_1 : decode cX11_rowFor 1 = .ok (.iconst 0, 1) := by decide +kernel
theorem dX11_rowFor_2 : decode cX11_rowFor 2 = .ok (.putfield 1, 3) := by decide +kernel
theorem dX11_rowFor_5 : decode cX11_rowFor 5 = .ok (.aload_n 0, 1) := by decide +kernel
theorem dX11_rowFor_6 : decode cX11_rowFor 6 = .ok (.iload_n 1, 1) := by decide +kernel
theorem dX11_rowFor_7 : decode cX11_rowFor 7 = .ok (.invokevirtual 542, 3) := by decide +kernel
theorem dX11_rowFor_10 : decode cX11_rowFor 10 = .ok (.ifCond .eq 11, 3) := by decide +kernel
theorem dX11_rowFor_13 : decode cX11_rowFor 13 = .ok (.aload_n 0, 1) := by decide +kernel
theorem dX11_rowFor_14 : decode cX11_rowFor 14 = .ok (.iload_n 2, 1) := by decide +kernel
theorem dX11_rowFor_15 : decode cX11_rowFor 15 = .ok (.invokevirtual 341, 3) := by decide +kernel
theorem dX11_rowFor_18 : decode cX11_rowFor 18 = .ok (.ifCond .ne 5, 3) := by decide +kernel
theorem dX11_rowFor_21 : decode cX11_rowFor 21 = .ok (.iconst (-1), 1) := by decide +kernel
theorem dX11_rowFor_22 : decode cX11_rowFor 22 = .ok (.ireturn, 1) := by decide +kernel
theorem dX11_rowFor_23 : decode cX11_rowFor 23 = .ok (.aload_n 0, 1) := by decide +kernel
theorem dX11_rowFor_24 : decode cX11_rowFor 24 = .ok (.iconst 0, 1) := by decide +kernel
theorem dX11_rowFor_25 : decode cX11_rowFor 25 = .ok (.invokevirtual 545, 3) := by decide +kernel
theorem dX11_rowFor_28 : decode cX11_rowFor 28 = .ok (.iconst (-1), 1) := by decide +kernel
theorem dX11_rowFor_29 : decode cX11_rowFor 29 = .ok (.istore_n 3, 1) := by decide +kernel
theorem dX11_rowFor_30 : decode cX11_rowFor 30 = .ok (.iconst 0, 1) := by decide +kernel
theorem dX11_rowFor_31 : decode cX11_rowFor 31 = .ok (.istore 4, 2) := by decide +kernel
theorem dX11_rowFor_33 : decode cX11_rowFor 33 = .ok (.iload 4, 2) := by decide +kernel
theorem dX11_rowFor_35 : decode cX11_rowFor 35 = .ok (.aload_n 0, 1) := by decide +kernel
theorem dX11_rowFor_36 : decode cX11_rowFor 36 = .ok (.iload_n 1, 1) := by decide +kernel
theorem dX11_rowFor_37 : decode cX11_rowFor 37 = .ok (.invokevirtual 549, 3) := by decide +kernel
theorem dX11_rowFor_40 : decode cX11_rowFor 40 = .ok (.if_icmp .ge 31, 3) := by decide +kernel
theorem dX11_rowFor_43 : decode cX11_rowFor 43 = .ok (.iload_n 3, 1) := by decide +kernel
theorem dX11_rowFor_44 : decode cX11_rowFor 44 = .ok (.ifCond .ge 27, 3) := by decide +kernel
theorem dX11_rowFor_47 : decode cX11_rowFor 47 = .ok (.aload_n 0, 1) := by decide +kernel
theorem dX11_rowFor_48 : decode cX11_rowFor 48 = .ok (.iload_n 1, 1) := by decide +kernel
theorem dX11_rowFor_49 : decode cX11_rowFor 49 = .ok (.iload 4, 2) := by decide +kernel
theorem dX11_rowFor_51 : decode cX11_rowFor 51 = .ok (.invokevirtual 552, 3) := by decide +kernel
theorem dX11_rowFor_54 : decode cX11_rowFor 54 = .ok (.iload_n 2, 1) := by decide +kernel
theorem dX11_rowFor_55 : decode cX11_rowFor 55 = .ok (.if_icmp .ne 8, 3) := by decide +kernel
theorem dX11_rowFor_58 : decode cX11_rowFor 58 = .ok (.iload 4, 2) := by decide +kernel
theorem dX11_rowFor_60 : decode cX11_rowFor 60 = .ok (.goto 4, 3) := by decide +kernel
theorem dX11_rowFor_63 : decode cX11_rowFor 63 = .ok (.iconst (-1), 1) := by decide +kernel
theorem dX11_rowFor_64 : decode cX11_rowFor 64 = .ok (.istore_n 3, 1) := by decide +kernel
theorem dX11_rowFor_65 : decode cX11_rowFor 65 = .ok (.iinc 4 1, 3) := by decide +kernel
theorem dX11_rowFor_68 : decode cX11_rowFor 68 = .ok (.goto (-35), 3) := by decide +kernel
theorem dX11_rowFor_71 : decode cX11_rowFor 71 = .ok (.aload_n 0, 1) := by decide +kernel
theorem dX11_rowFor_72 : decode cX11_rowFor 72 = .ok (.iconst 1, 1) := by decide +kernel
theorem dX11_rowFor_73 : decode cX11_rowFor 73 = .ok (.invokevirtual 545, 3) := by decide +kernel
theorem dX11_rowFor_76 : decode cX11_rowFor 76 = .ok (.iload_n 3, 1) := by decide +kernel
theorem dX11_rowFor_77 : decode cX11_rowFor 77 = .ok (.ireturn, 1) := by decide +kernel
theorem dX11_bestRow_0 : decode cX11_bestRow 0 = .ok (.aload_n 0, 1) := by decide +kernel
theorem dX11_bestRow_1 : decode cX11_bestRow 1 = .ok (.iconst 0, 1) := by decide +kernel
theorem dX11_bestRow_2 : decode cX11_bestRow 2 = .ok (.putfield 1, 3) := by decide +kernel
theorem dX11_bestRow_5 : decode cX11_bestRow 5 = .ok (.aload_n 0, 1) := by decide +kernel
theorem dX11_bestRow_6 : decode cX11_bestRow 6 = .ok (.iload_n 1, 1) := by decide +kernel
theorem dX11_bestRow_7 : decode cX11_bestRow 7 = .ok (.invokevirtual 542, 3) := by decide +kernel
theorem dX11_bestRow_10 : decode cX11_bestRow 10 = .ok (.ifCond .eq 11, 3) := by decide +kernel
theorem dX11_bestRow_13 : decode cX11_bestRow 13 = .ok (.aload_n 0, 1) := by decide +kernel
theorem dX11_bestRow_14 : decode cX11_bestRow 14 = .ok (.iload_n 2, 1) := by decide +kernel
theorem dX11_bestRow_15 : decode cX11_bestRow 15 = .ok (.invokevirtual 338, 3) := by decide +kernel
theorem dX11_bestRow_18 : decode cX11_bestRow 18 = .ok (.ifCond .ne 5, 3) := by decide +kernel
theorem dX11_bestRow_21 : decode cX11_bestRow 21 = .ok (.iconst (-1), 1) := by decide +kernel
theorem dX11_bestRow_22 : decode cX11_bestRow 22 = .ok (.ireturn, 1) := by decide +kernel
theorem dX11_bestRow_23 : decode cX11_bestRow 23 = .ok (.aload_n 0, 1) := by decide +kernel
theorem dX11_bestRow_24 : decode cX11_bestRow 24 = .ok (.iconst 0, 1) := by decide +kernel
theorem dX11_bestRow_25 : decode cX11_bestRow 25 = .ok (.invokevirtual 545, 3) := by decide +kernel
theorem dX11_bestRow_28 : decode cX11_bestRow 28 = .ok (.iconst (-1), 1) := by decide +kernel
theorem dX11_bestRow_29 : decode cX11_bestRow 29 = .ok (.istore_n 3, 1) := by decide +kernel
theorem dX11_bestRow_30 : decode cX11_bestRow 30 = .ok (.lconst 0, 1) := by decide +kernel
theorem dX11_bestRow_31 : decode cX11_bestRow 31 = .ok (.lstore 4, 2) := by decide +kernel
theorem dX11_bestRow_33 : decode cX11_bestRow 33 = .ok (.iconst 0, 1) := by decide +kernel
theorem dX11_bestRow_34 : decode cX11_bestRow 34 = .ok (.istore 6, 2) := by decide +kernel
theorem dX11_bestRow_36 : decode cX11_bestRow 36 = .ok (.iload 6, 2) := by decide +kernel
theorem dX11_bestRow_38 : decode cX11_bestRow 38 = .ok (.aload_n 0, 1) := by decide +kernel
theorem dX11_bestRow_39 : decode cX11_bestRow 39 = .ok (.iload_n 1, 1) := by decide +kernel
theorem dX11_bestRow_40 : decode cX11_bestRow 40 = .ok (.invokevirtual 549, 3) := by decide +kernel
theorem dX11_bestRow_43 : decode cX11_bestRow 43 = .ok (.if_icmp .ge 47, 3) := by decide +kernel
theorem dX11_bestRow_46 : decode cX11_bestRow 46 = .ok (.aload_n 0, 1) := by decide +kernel
theorem dX11_bestRow_47 : decode cX11_bestRow 47 = .ok (.iload_n 1, 1) := by decide +kernel
theorem dX11_bestRow_48 : decode cX11_bestRow 48 = .ok (.iload 6, 2) := by decide +kernel
theorem dX11_bestRow_50 : decode cX11_bestRow 50 = .ok (.invokevirtual 539, 3) := by decide +kernel
theorem dX11_bestRow_53 : decode cX11_bestRow 53 = .ok (.aload_n 0, 1) := by decide +kernel
theorem dX11_bestRow_54 : decode cX11_bestRow 54 = .ok (.iconst 0, 1) := by decide +kernel
theorem dX11_bestRow_55 : decode cX11_bestRow 55 = .ok (.iload_n 2, 1) := by decide +kernel
theorem dX11_bestRow_56 : decode cX11_bestRow 56 = .ok (.aload_n 0, 1) := by decide +kernel
theorem dX11_bestRow_57 : decode cX11_bestRow 57 = .ok (.invokevirtual 453, 3) := by decide +kernel
theorem dX11_bestRow_60 : decode cX11_bestRow 60 = .ok (.invokevirtual 439, 3) := by decide +kernel
theorem dX11_bestRow_63 : decode cX11_bestRow 63 = .ok (.lstore 7, 2) := by decide +kernel
theorem dX11_bestRow_65 : decode cX11_bestRow 65 = .ok (.iload_n 3, 1) := by decide +kernel
theorem dX11_bestRow_66 : decode cX11_bestRow 66 = .ok (.ifCond .lt 11, 3) := by decide +kernel
theorem dX11_bestRow_69 : decode cX11_bestRow 69 = .ok (.lload 7, 2) := by decide +kernel
theorem dX11_bestRow_71 : decode cX11_bestRow 71 = .ok (.lload 4, 2) := by decide +kernel
theorem dX11_bestRow_73 : decode cX11_bestRow 73 = .ok (.lcmp, 1) := by decide +kernel
theorem dX11_bestRow_74 : decode cX11_bestRow 74 = .ok (.ifCond .le 10, 3) := by decide +kernel
theorem dX11_bestRow_77 : decode cX11_bestRow 77 = .ok (.lload 7, 2) := by decide +kernel
theorem dX11_bestRow_79 : decode cX11_bestRow 79 = .ok (.lstore 4, 2) := by decide +kernel
theorem dX11_bestRow_81 : decode cX11_bestRow 81 = .ok (.iload 6, 2) := by decide +kernel
theorem dX11_bestRow_83 : decode cX11_bestRow 83 = .ok (.istore_n 3, 1) := by decide +kernel
theorem dX11_bestRow_84 : decode cX11_bestRow 84 = .ok (.iinc 6 1, 3) := by decide +kernel
theorem dX11_bestRow_87 : decode cX11_bestRow 87 = .ok (.goto (-51), 3) := by decide +kernel
theorem dX11_bestRow_90 : decode cX11_bestRow 90 = .ok (.aload_n 0, 1) := by decide +kernel
theorem dX11_bestRow_91 : decode cX11_bestRow 91 = .ok (.iconst 1, 1) := by decide +kernel
theorem dX11_bestRow_92 : decode cX11_bestRow 92 = .ok (.invokevirtual 545, 3) := by decide +kernel
theorem dX11_bestRow_95 : decode cX11_bestRow 95 = .ok (.iload_n 3, 1) := by decide +kernel
theorem dX11_bestRow_96 : decode cX11_bestRow 96 = .ok (.ireturn, 1) := by decide +kernel
theorem dX11_row_0 : decode cX11_row 0 = .ok (.aload_n 0, 1) := by decide +kernel
theorem dX11_row_1 : decode cX11_row 1 = .ok (.iconst 0, 1) := by decide +kernel
theorem dX11_row_2 : decode cX11_row 2 = .ok (.putfield 1, 3) := by decide +kernel
theorem dX11_row_5 : decode cX11_row 5 = .ok (.aload_n 0, 1) := by decide +kernel
theorem dX11_row_6 : decode cX11_row 6 = .ok (.getfield 234, 3) := by decide +kernel
theorem dX11_row_9 : decode cX11_row 9 = .ok (.bipush 16, 2) := by decide +kernel
theorem dX11_row_11 : decode cX11_row 11 = .ok (.if_icmp .ne 5, 3) := by decide +kernel
theorem dX11_row_14 : decode cX11_row 14 = .ok (.iconst (-1), 1) := by decide +kernel
theorem dX11_row_15 : decode cX11_row 15 = .ok (.ireturn, 1) := by decide +kernel
theorem dX11_row_16 : decode cX11_row 16 = .ok (.aload_n 0, 1) := by decide +kernel
theorem dX11_row_17 : decode cX11_row 17 = .ok (.getfield 148, 3) := by decide +kernel
theorem dX11_row_20 : decode cX11_row 20 = .ok (.iconst 3, 1) := by decide +kernel
theorem dX11_row_21 : decode cX11_row 21 = .ok (.aload_n 0, 1) := by decide +kernel
theorem dX11_row_22 : decode cX11_row 22 = .ok (.getfield 234, 3) := by decide +kernel
theorem dX11_row_25 : decode cX11_row 25 = .ok (.imul, 1) := by decide +kernel
theorem dX11_row_26 : decode cX11_row 26 = .ok (.iload_n 1, 1) := by decide +kernel
theorem dX11_row_27 : decode cX11_row 27 = .ok (.iastore, 1) := by decide +kernel
theorem dX11_row_28 : decode cX11_row 28 = .ok (.aload_n 0, 1) := by decide +kernel
theorem dX11_row_29 : decode cX11_row 29 = .ok (.getfield 148, 3) := by decide +kernel
theorem dX11_row_32 : decode cX11_row 32 = .ok (.iconst 3, 1) := by decide +kernel
theorem dX11_row_33 : decode cX11_row 33 = .ok (.aload_n 0, 1) := by decide +kernel
theorem dX11_row_34 : decode cX11_row 34 = .ok (.getfield 234, 3) := by decide +kernel
theorem dX11_row_37 : decode cX11_row 37 = .ok (.imul, 1) := by decide +kernel
theorem dX11_row_38 : decode cX11_row 38 = .ok (.iconst 1, 1) := by decide +kernel
theorem dX11_row_39 : decode cX11_row 39 = .ok (.iadd, 1) := by decide +kernel
theorem dX11_row_40 : decode cX11_row 40 = .ok (.iload_n 2, 1) := by decide +kernel
theorem dX11_row_41 : decode cX11_row 41 = .ok (.iastore, 1) := by decide +kernel
theorem dX11_row_42 : decode cX11_row 42 = .ok (.aload_n 0, 1) := by decide +kernel
theorem dX11_row_43 : decode cX11_row 43 = .ok (.getfield 148, 3) := by decide +kernel
theorem dX11_row_46 : decode cX11_row 46 = .ok (.iconst 3, 1) := by decide +kernel
theorem dX11_row_47 : decode cX11_row 47 = .ok (.aload_n 0, 1) := by decide +kernel
theorem dX11_row_48 : decode cX11_row 48 = .ok (.getfield 234, 3) := by decide +kernel
theorem dX11_row_51 : decode cX11_row 51 = .ok (.imul, 1) := by decide +kernel
theorem dX11_row_52 : decode cX11_row 52 = .ok (.iconst 2, 1) := by decide +kernel
theorem dX11_row_53 : decode cX11_row 53 = .ok (.iadd, 1) := by decide +kernel
theorem dX11_row_54 : decode cX11_row 54 = .ok (.iload_n 3, 1) := by decide +kernel
theorem dX11_row_55 : decode cX11_row 55 = .ok (.iastore, 1) := by decide +kernel
theorem dX11_row_56 : decode cX11_row 56 = .ok (.aload_n 0, 1) := by decide +kernel
theorem dX11_row_57 : decode cX11_row 57 = .ok (.dup, 1) := by decide +kernel
theorem dX11_row_58 : decode cX11_row 58 = .ok (.getfield 234, 3) := by decide +kernel
theorem dX11_row_61 : decode cX11_row 61 = .ok (.iconst 1, 1) := by decide +kernel
theorem dX11_row_62 : decode cX11_row 62 = .ok (.iadd, 1) := by decide +kernel
theorem dX11_row_63 : decode cX11_row 63 = .ok (.putfield 234, 3) := by decide +kernel
theorem dX11_row_66 : decode cX11_row 66 = .ok (.aload_n 0, 1) := by decide +kernel
theorem dX11_row_67 : decode cX11_row 67 = .ok (.getfield 234, 3) := by decide +kernel
theorem dX11_row_70 : decode cX11_row 70 = .ok (.ireturn, 1) := by decide +kernel
theorem dX11_clear_0 : decode cX11_clear 0 = .ok (.aload_n 0, 1) := by decide +kernel
theorem dX11_clear_1 : decode cX11_clear 1 = .ok (.iconst 0, 1) := by decide +kernel
theorem dX11_clear_2 : decode cX11_clear 2 = .ok (.putfield 1, 3) := by decide +kernel
theorem dX11_clear_5 : decode cX11_clear 5 = .ok (.aload_n 0, 1) := by decide +kernel
theorem dX11_clear_6 : decode cX11_clear 6 = .ok (.iconst 0, 1) := by decide +kernel
theorem dX11_clear_7 : decode cX11_clear 7 = .ok (.putfield 234, 3) := by decide +kernel
theorem dX11_clear_10 : decode cX11_clear 10 = .ok (.iconst 1, 1) := by decide +kernel
theorem dX11_clear_11 : decode cX11_clear 11 = .ok (.ireturn, 1) := by decide +kernel
theorem dX11_whyNot_0 : decode cX11_whyNot 0 = .ok (.aload_n 0, 1) := by decide +kernel
theorem dX11_whyNot_1 : decode cX11_whyNot 1 = .ok (.getfield 148, 3) := by decide +kernel
theorem dX11_whyNot_4 : decode cX11_whyNot 4 = .ok (.iconst 3, 1) := by decide +kernel
theorem dX11_whyNot_5 : decode cX11_whyNot 5 = .ok (.iload_n 1, 1) := by decide +kernel
theorem dX11_whyNot_6 : decode cX11_whyNot 6 = .ok (.imul, 1) := by decide +kernel
theorem dX11_whyNot_7 : decode cX11_whyNot 7 = .ok (.iaload, 1) := by decide +kernel
theorem dX11_whyNot_8 : decode cX11_whyNot 8 = .ok (.istore_n 3, 1) := by decide +kernel
theorem dX11_whyNot_9 : decode cX11_whyNot 9 = .ok (.aload_n 0, 1) := by decide +kernel
theorem dX11_whyNot_10 : decode cX11_whyNot 10 = .ok (.getfield 148, 3) := by decide +kernel
theorem dX11_whyNot_13 : decode cX11_whyNot 13 = .ok (.iconst 3, 1) := by decide +kernel
theorem dX11_whyNot_14 : decode cX11_whyNot 14 = .ok (.iload_n 1, 1) := by decide +kernel
theorem dX11_whyNot_15 : decode cX11_whyNot 15 = .ok (.imul, 1) := by decide +kernel
theorem dX11_whyNot_16 : decode cX11_whyNot 16 = .ok (.iconst 1, 1) := by decide +kernel
theorem dX11_whyNot_17 : decode cX11_whyNot 17 = .ok (.iadd, 1) := by decide +kernel
theorem dX11_whyNot_18 : decode cX11_whyNot 18 = .ok (.iaload, 1) := by decide +kernel
theorem dX11_whyNot_19 : decode cX11_whyNot 19 = .ok (.istore 4, 2) := by decide +kernel
theorem dX11_whyNot_21 : decode cX11_whyNot 21 = .ok (.aload_n 0, 1) := by decide +kernel
theorem dX11_whyNot_22 : decode cX11_whyNot 22 = .ok (.getfield 148, 3) := by decide +kernel
theorem dX11_whyNot_25 : decode cX11_whyNot 25 = .ok (.iconst 3, 1) := by decide +kernel
theorem dX11_whyNot_26 : decode cX11_whyNot 26 = .ok (.iload_n 1, 1) := by decide +kernel
theorem dX11_whyNot_27 : decode cX11_whyNot 27 = .ok (.imul, 1) := by decide +kernel
theorem dX11_whyNot_28 : decode cX11_whyNot 28 = .ok (.iconst 2, 1) := by decide +kernel
theorem dX11_whyNot_29 : decode cX11_whyNot 29 = .ok (.iadd, 1) := by decide +kernel
theorem dX11_whyNot_30 : decode cX11_whyNot 30 = .ok (.iaload, 1) := by decide +kernel
theorem dX11_whyNot_31 : decode cX11_whyNot 31 = .ok (.istore 5, 2) := by decide +kernel
theorem dX11_whyNot_33 : decode cX11_whyNot 33 = .ok (.aload_n 0, 1) := by decide +kernel
theorem dX11_whyNot_34 : decode cX11_whyNot 34 = .ok (.iload_n 1, 1) := by decide +kernel
theorem dX11_whyNot_35 : decode cX11_whyNot 35 = .ok (.invokevirtual 354, 3) := by decide +kernel
theorem dX11_whyNot_38 : decode cX11_whyNot 38 = .ok (.ifCond .ne 5, 3) := by decide +kernel
theorem dX11_whyNot_41 : decode cX11_whyNot 41 = .ok (.iconst 1, 1) := by decide +kernel
theorem dX11_whyNot_42 : decode cX11_whyNot 42 = .ok (.ireturn, 1) := by decide +kernel
theorem dX11_whyNot_43 : decode cX11_whyNot 43 = .ok (.iload_n 3, 1) := by decide +kernel
theorem dX11_whyNot_44 : decode cX11_whyNot 44 = .ok (.iconst (-1), 1) := by decide +kernel
theorem dX11_whyNot_45 : decode cX11_whyNot 45 = .ok (.if_icmp .eq 11, 3) := by decide +kernel
theorem dX11_whyNot_48 : decode cX11_whyNot 48 = .ok (.aload_n 0, 1) := by decide +kernel
theorem dX11_whyNot_49 : decode cX11_whyNot 49 = .ok (.iload_n 3, 1) := by decide +kernel
theorem dX11_whyNot_50 : decode cX11_whyNot 50 = .ok (.invokevirtual 338, 3) := by decide +kernel
theorem dX11_whyNot_53 : decode cX11_whyNot 53 = .ok (.ifCond .eq 12, 3) := by decide +kernel
theorem dX11_whyNot_56 : decode cX11_whyNot 56 = .ok (.aload_n 0, 1) := by decide +kernel
theorem dX11_whyNot_57 : decode cX11_whyNot 57 = .ok (.iload_n 1, 1) := by decide +kernel
theorem dX11_whyNot_58 : decode cX11_whyNot 58 = .ok (.iload_n 3, 1) := by decide +kernel
theorem dX11_whyNot_59 : decode cX11_whyNot 59 = .ok (.invokevirtual 410, 3) := by decide +kernel
theorem dX11_whyNot_62 : decode cX11_whyNot 62 = .ok (.ifCond .ne 5, 3) := by decide +kernel
theorem dX11_whyNot_65 : decode cX11_whyNot 65 = .ok (.iconst 2, 1) := by decide +kernel
theorem dX11_whyNot_66 : decode cX11_whyNot 66 = .ok (.ireturn, 1) := by decide +kernel
theorem dX11_whyNot_67 : decode cX11_whyNot 67 = .ok (.iload 4, 2) := by decide +kernel
theorem dX11_whyNot_69 : decode cX11_whyNot 69 = .ok (.iconst (-1), 1) := by decide +kernel
theorem dX11_whyNot_70 : decode cX11_whyNot 70 = .ok (.if_icmp .eq 21, 3) := by decide +kernel
theorem dX11_whyNot_73 : decode cX11_whyNot 73 = .ok (.iload_n 3, 1) := by decide +kernel
theorem dX11_whyNot_74 : decode cX11_whyNot 74 = .ok (.iconst (-1), 1) := by decide +kernel
theorem dX11_whyNot_75 : decode cX11_whyNot 75 = .ok (.if_icmp .eq 14, 3) := by decide +kernel
theorem dX11_whyNot_78 : decode cX11_whyNot 78 = .ok (.aload_n 0, 1) := by decide +kernel
theorem dX11_whyNot_79 : decode cX11_whyNot 79 = .ok (.iload 4, 2) := by decide +kernel
theorem dX11_whyNot_81 : decode cX11_whyNot 81 = .ok (.iload 5, 2) := by decide +kernel
theorem dX11_whyNot_83 : decode cX11_whyNot 83 = .ok (.invokevirtual 357, 3) := by decide +kernel
theorem dX11_whyNot_86 : decode cX11_whyNot 86 = .ok (.ifCond .ne 5, 3) := by decide +kernel
theorem dX11_whyNot_89 : decode cX11_whyNot 89 = .ok (.iconst 3, 1) := by decide +kernel
theorem dX11_whyNot_90 : decode cX11_whyNot 90 = .ok (.ireturn, 1) := by decide +kernel
theorem dX11_whyNot_91 : decode cX11_whyNot 91 = .ok (.iload 4, 2) := by decide +kernel
theorem dX11_whyNot_93 : decode cX11_whyNot 93 = .ok (.iconst (-1), 1) := by decide +kernel
theorem dX11_whyNot_94 : decode cX11_whyNot 94 = .ok (.if_icmp .eq 20, 3) := by decide +kernel
theorem dX11_whyNot_97 : decode cX11_whyNot 97 = .ok (.aload_n 0, 1) := by decide +kernel
theorem dX11_whyNot_98 : decode cX11_whyNot 98 = .ok (.iload_n 1, 1) := by decide +kernel
theorem dX11_whyNot_99 : decode cX11_whyNot 99 = .ok (.iload_n 2, 1) := by decide +kernel
theorem dX11_whyNot_100 : decode cX11_whyNot 100 = .ok (.iload 4, 2) := by decide +kernel
theorem dX11_whyNot_102 : decode cX11_whyNot 102 = .ok (.iload 5, 2) := by decide +kernel
theorem dX11_whyNot_104 : decode cX11_whyNot 104 = .ok (.invokevirtual 361, 3) := by decide +kernel
theorem dX11_whyNot_107 : decode cX11_whyNot 107 = .ok (.ifCond .ne 7, 3) := by decide +kernel
theorem dX11_whyNot_110 : decode cX11_whyNot 110 = .ok (.iconst 4, 1) := by decide +kernel
theorem dX11_whyNot_111 : decode cX11_whyNot 111 = .ok (.goto 4, 3) := by decide +kernel
theorem dX11_whyNot_114 : decode cX11_whyNot 114 = .ok (.iconst 0, 1) := by decide +kernel
theorem dX11_whyNot_115 : decode cX11_whyNot 115 = .ok (.ireturn, 1) := by decide +kernel
theorem dX11_doneBy_0 : decode cX11_doneBy 0 = .ok (.aload_n 0, 1) := by decide +kernel
theorem dX11_doneBy_1 : decode cX11_doneBy 1 = .ok (.getfield 148, 3) := by decide +kernel
theorem dX11_doneBy_4 : decode cX11_doneBy 4 = .ok (.iconst 3, 1) := by decide +kernel
theorem dX11_doneBy_5 : decode cX11_doneBy 5 = .ok (.iload_n 1, 1) := by decide +kernel
theorem dX11_doneBy_6 : decode cX11_doneBy 6 = .ok (.imul, 1) := by decide +kernel
theorem dX11_doneBy_7 : decode cX11_doneBy 7 = .ok (.iconst 1, 1) := by decide +kernel
theorem dX11_doneBy_8 : decode cX11_doneBy 8 = .ok (.iadd, 1) := by decide +kernel
theorem dX11_doneBy_9 : decode cX11_doneBy 9 = .ok (.iaload, 1) := by decide +kernel
theorem dX11_doneBy_10 : decode cX11_doneBy 10 = .ok (.iconst (-1), 1) := by decide +kernel
theorem dX11_doneBy_11 : decode cX11_doneBy 11 = .ok (.if_icmp .ne 7, 3) := by decide +kernel
theorem dX11_doneBy_14 : decode cX11_doneBy 14 = .ok (.iload_n 2, 1) := by decide +kernel
theorem dX11_doneBy_15 : decode cX11_doneBy 15 = .ok (.goto 27, 3) := by decide +kernel
theorem dX11_doneBy_18 : decode cX11_doneBy 18 = .ok (.iload_n 2, 1) := by decide +kernel
theorem dX11_doneBy_19 : decode cX11_doneBy 19 = .ok (.aload_n 0, 1) := by decide +kernel
theorem dX11_doneBy_20 : decode cX11_doneBy 20 = .ok (.getfield 148, 3) := by decide +kernel
theorem dX11_doneBy_23 : decode cX11_doneBy 23 = .ok (.iconst 3, 1) := by decide +kernel
theorem dX11_doneBy_24 : decode cX11_doneBy 24 = .ok (.iload_n 1, 1) := by decide +kernel
theorem dX11_doneBy_25 : decode cX11_doneBy 25 = .ok (.imul, 1) := by decide +kernel
theorem dX11_doneBy_26 : decode cX11_doneBy 26 = .ok (.iconst 1, 1) := by decide +kernel
theorem dX11_doneBy_27 : decode cX11_doneBy 27 = .ok (.iadd, 1) := by decide +kernel
theorem dX11_doneBy_28 : decode cX11_doneBy 28 = .ok (.iaload, 1) := by decide +kernel
theorem dX11_doneBy_29 : decode cX11_doneBy 29 = .ok (.aload_n 0, 1) := by decide +kernel
theorem dX11_doneBy_30 : decode cX11_doneBy 30 = .ok (.getfield 148, 3) := by decide +kernel
theorem dX11_doneBy_33 : decode cX11_doneBy 33 = .ok (.iconst 3, 1) := by decide +kernel
theorem dX11_doneBy_34 : decode cX11_doneBy 34 = .ok (.iload_n 1, 1) := by decide +kernel
theorem dX11_doneBy_35 : decode cX11_doneBy 35 = .ok (.imul, 1) := by decide +kernel
theorem dX11_doneBy_36 : decode cX11_doneBy 36 = .ok (.iconst 2, 1) := by decide +kernel
theorem dX11_doneBy_37 : decode cX11_doneBy 37 = .ok (.iadd, 1) := by decide +kernel
theorem dX11_doneBy_38 : decode cX11_doneBy 38 = .ok (.iaload, 1) := by decide +kernel
theorem dX11_doneBy_39 : decode cX11_doneBy 39 = .ok (.invokestatic 351, 3) := by decide +kernel
theorem dX11_doneBy_42 : decode cX11_doneBy 42 = .ok (.ireturn, 1) := by decide +kernel
theorem dX11_judges_0 : decode cX11_judges 0 = .ok (.aload_n 0, 1) := by decide +kernel
theorem dX11_judges_1 : decode cX11_judges 1 = .ok (.invokevirtual 419, 3) := by decide +kernel
theorem dX11_judges_4 : decode cX11_judges 4 = .ok (.aload_n 0, 1) := by decide +kernel
theorem dX11_judges_5 : decode cX11_judges 5 = .ok (.invokevirtual 453, 3) := by decide +kernel
theorem dX11_judges_8 : decode cX11_judges 8 = .ok (.istore_n 1, 1) := by decide +kernel
theorem dX11_judges_9 : decode cX11_judges 9 = .ok (.aload_n 0, 1) := by decide +kernel
theorem dX11_judges_10 : decode cX11_judges 10 = .ok (.iconst 0, 1) := by decide +kernel
theorem dX11_judges_11 : decode cX11_judges 11 = .ok (.putfield 555, 3) := by decide +kernel
theorem dX11_judges_14 : decode cX11_judges 14 = .ok (.aload_n 0, 1) := by decide +kernel
theorem dX11_judges_15 : decode cX11_judges 15 = .ok (.iconst 0, 1) := by decide +kernel
theorem dX11_judges_16 : decode cX11_judges 16 = .ok (.putfield 558, 3) := by decide +kernel
theorem dX11_judges_19 : decode cX11_judges 19 = .ok (.aload_n 0, 1) := by decide +kernel
theorem dX11_judges_20 : decode cX11_judges 20 = .ok (.iconst 0, 1) := by decide +kernel
theorem dX11_judges_21 : decode cX11_judges 21 = .ok (.putfield 561, 3) := by decide +kernel
theorem dX11_judges_24 : decode cX11_judges 24 = .ok (.aload_n 0, 1) := by decide +kernel
theorem dX11_judges_25 : decode cX11_judges 25 = .ok (.lconst 1, 1) := by decide +kernel
theorem dX11_judges_26 : decode cX11_judges 26 = .ok (.putfield 564, 3) := by decide +kernel
theorem dX11_judges_29 : decode cX11_judges 29 = .ok (.aload_n 0, 1) := by decide +kernel
theorem dX11_judges_30 : decode cX11_judges 30 = .ok (.lconst 1, 1) := by decide +kernel
theorem dX11_judges_31 : decode cX11_judges 31 = .ok (.putfield 567, 3) := by decide +kernel
theorem dX11_judges_34 : decode cX11_judges 34 = .ok (.aload_n 0, 1) := by decide +kernel
theorem dX11_judges_35 : decode cX11_judges 35 = .ok (.getfield 555, 3) := by decide +kernel
theorem dX11_judges_38 : decode cX11_judges 38 = .ok (.aload_n 0, 1) := by decide +kernel
theorem dX11_judges_39 : decode cX11_judges 39 = .ok (.getfield 234, 3) := by decide +kernel
theorem dX11_judges_42 : decode cX11_judges 42 = .ok (.if_icmp .ge 135, 3) := by decide +kernel
theorem dX11_judges_45 : decode cX11_judges 45 = .ok (.aload_n 0, 1) := by decide +kernel
theorem dX11_judges_46 : decode cX11_judges 46 = .ok (.getfield 558, 3) := by decide +kernel
theorem dX11_judges_49 : decode cX11_judges 49 = .ok (.ifCond .ne 128, 3) := by decide +kernel
theorem dX11_judges_52 : decode cX11_judges 52 = .ok (.aload_n 0, 1) := by decide +kernel
theorem dX11_judges_53 : decode cX11_judges 53 = .ok (.getfield 555, 3) := by decide +kernel
theorem dX11_judges_56 : decode cX11_judges 56 = .ok (.istore_n 2, 1) := by decide +kernel
theorem dX11_judges_57 : decode cX11_judges 57 = .ok (.aload_n 0, 1) := by decide +kernel
theorem dX11_judges_58 : decode cX11_judges 58 = .ok (.aload_n 0, 1) := by decide +kernel
theorem dX11_judges_59 : decode cX11_judges 59 = .ok (.iload_n 2, 1) := by decide +kernel
theorem dX11_judges_60 : decode cX11_judges 60 = .ok (.iload_n 1, 1) := by decide +kernel
theorem dX11_judges_61 : decode cX11_judges 61 = .ok (.invokevirtual 570, 3) := by decide +kernel
theorem dX11_judges_64 : decode cX11_judges 64 = .ok (.putfield 558, 3) := by decide +kernel
theorem dX11_judges_67 : decode cX11_judges 67 = .ok (.aload_n 0, 1) := by decide +kernel
theorem dX11_judges_68 : decode cX11_judges 68 = .ok (.getfield 558, 3) := by decide +kernel
theorem dX11_judges_71 : decode cX11_judges 71 = .ok (.ifCond .ne 103, 3) := by decide +kernel
theorem dX11_judges_74 : decode cX11_judges 74 = .ok (.aload_n 0, 1) := by decide +kernel
theorem dX11_judges_75 : decode cX11_judges 75 = .ok (.getfield 148, 3) := by decide +kernel
theorem dX11_judges_78 : decode cX11_judges 78 = .ok (.iconst 3, 1) := by decide +kernel
theorem dX11_judges_79 : decode cX11_judges 79 = .ok (.iload_n 2, 1) := by decide +kernel
theorem dX11_judges_80 : decode cX11_judges 80 = .ok (.imul, 1) := by decide +kernel
theorem dX11_judges_81 : decode cX11_judges 81 = .ok (.iaload, 1) := by decide +kernel
theorem dX11_judges_82 : decode cX11_judges 82 = .ok (.istore_n 3, 1) := by decide +kernel
theorem dX11_judges_83 : decode cX11_judges 83 = .ok (.aload_n 0, 1) := by decide +kernel
theorem dX11_judges_84 : decode cX11_judges 84 = .ok (.iload_n 2, 1) := by decide +kernel
theorem dX11_judges_85 : decode cX11_judges 85 = .ok (.iload_n 1, 1) := by decide +kernel
theorem dX11_judges_86 : decode cX11_judges 86 = .ok (.invokevirtual 573, 3) := by decide +kernel
theorem dX11_judges_89 : decode cX11_judges 89 = .ok (.istore 4, 2) := by decide +kernel
theorem dX11_judges_91 : decode cX11_judges 91 = .ok (.aload_n 0, 1) := by decide +kernel
theorem dX11_judges_92 : decode cX11_judges 92 = .ok (.dup, 1) := by decide +kernel
theorem dX11_judges_93 : decode cX11_judges 93 = .ok (.getfield 561, 3) := by decide +kernel
theorem dX11_judges_96 : decode cX11_judges 96 = .ok (.iload_n 3, 1) := by decide +kernel
theorem dX11_judges_97 : decode cX11_judges 97 = .ok (.iconst (-1), 1) := by decide +kernel
theorem dX11_judges_98 : decode cX11_judges 98 = .ok (.if_icmp .eq 23, 3) := by decide +kernel
theorem dX11_judges_101 : decode cX11_judges 101 = .ok (.aload_n 0, 1) := by decide +kernel
theorem dX11_judges_102 : decode cX11_judges 102 = .ok (.getfield 101, 3) := by decide +kernel
theorem dX11_judges_105 : decode cX11_judges 105 = .ok (.iload_n 2, 1) := by decide +kernel
theorem dX11_judges_106 : decode cX11_judges 106 = .ok (.iload_n 3, 1) := by decide +kernel
theorem dX11_judges_107 : decode cX11_judges 107 = .ok (.iload_n 1, 1) := by decide +kernel
theorem dX11_judges_108 : decode cX11_judges 108 = .ok (.invokestatic 400, 3) := by decide +kernel
theorem dX11_judges_111 : decode cX11_judges 111 = .ok (.iaload, 1) := by decide +kernel
theorem dX11_judges_112 : decode cX11_judges 112 = .ok (.iload 4, 2) := by decide +kernel
theorem dX11_judges_114 : decode cX11_judges 114 = .ok (.if_icmp .ne 7, 3) := by decide +kernel
theorem dX11_judges_117 : decode cX11_judges 117 = .ok (.iconst 1, 1) := by decide +kernel
theorem dX11_judges_118 : decode cX11_judges 118 = .ok (.goto 4, 3) := by decide +kernel
theorem dX11_judges_121 : decode cX11_judges 121 = .ok (.iconst 0, 1) := by decide +kernel
theorem dX11_judges_122 : decode cX11_judges 122 = .ok (.iadd, 1) := by decide +kernel
theorem dX11_judges_123 : decode cX11_judges 123 = .ok (.putfield 561, 3) := by decide +kernel
theorem dX11_judges_126 : decode cX11_judges 126 = .ok (.aload_n 0, 1) := by decide +kernel
theorem dX11_judges_127 : decode cX11_judges 127 = .ok (.aload_n 0, 1) := by decide +kernel
theorem dX11_judges_128 : decode cX11_judges 128 = .ok (.getfield 564, 3) := by decide +kernel
theorem dX11_judges_131 : decode cX11_judges 131 = .ok (.aload_n 0, 1) := by decide +kernel
theorem dX11_judges_132 : decode cX11_judges 132 = .ok (.iload_n 2, 1) := by decide +kernel
theorem dX11_judges_133 : decode cX11_judges 133 = .ok (.iload_n 3, 1) := by decide +kernel
theorem dX11_judges_134 : decode cX11_judges 134 = .ok (.invokevirtual 410, 3) := by decide +kernel
theorem dX11_judges_137 : decode cX11_judges 137 = .ok (.i2l, 1) := by decide +kernel
theorem dX11_judges_138 : decode cX11_judges 138 = .ok (.lmul, 1) := by decide +kernel
theorem dX11_judges_139 : decode cX11_judges 139 = .ok (.putfield 564, 3) := by decide +kernel
theorem dX11_judges_142 : decode cX11_judges 142 = .ok (.aload_n 0, 1) := by decide +kernel
theorem dX11_judges_143 : decode cX11_judges 143 = .ok (.ldc2_w 107, 3) := by decide +kernel
theorem dX11_judges_146 : decode cX11_judges 146 = .ok (.aload_n 0, 1) := by decide +kernel
theorem dX11_judges_147 : decode cX11_judges 147 = .ok (.getfield 567, 3) := by decide +kernel
theorem dX11_judges_150 : decode cX11_judges 150 = .ok (.lmul, 1) := by decide +kernel
theorem dX11_judges_151 : decode cX11_judges 151 = .ok (.putfield 567, 3) := by decide +kernel
theorem dX11_judges_154 : decode cX11_judges 154 = .ok (.iload 4, 2) := by decide +kernel
theorem dX11_judges_156 : decode cX11_judges 156 = .ok (.istore_n 1, 1) := by decide +kernel
theorem dX11_judges_157 : decode cX11_judges 157 = .ok (.aload_n 0, 1) := by decide +kernel
theorem dX11_judges_158 : decode cX11_judges 158 = .ok (.getfield 151, 3) := by decide +kernel
theorem dX11_judges_161 : decode cX11_judges 161 = .ok (.iload_n 2, 1) := by decide +kernel
theorem dX11_judges_162 : decode cX11_judges 162 = .ok (.iload_n 1, 1) := by decide +kernel
theorem dX11_judges_163 : decode cX11_judges 163 = .ok (.iastore, 1) := by decide +kernel
theorem dX11_judges_164 : decode cX11_judges 164 = .ok (.aload_n 0, 1) := by decide +kernel
theorem dX11_judges_165 : decode cX11_judges 165 = .ok (.dup, 1) := by decide +kernel
theorem dX11_judges_166 : decode cX11_judges 166 = .ok (.getfield 555, 3) := by decide +kernel
theorem dX11_judges_169 : decode cX11_judges 169 = .ok (.iconst 1, 1) := by decide +kernel
theorem dX11_judges_170 : decode cX11_judges 170 = .ok (.iadd, 1) := by decide +kernel
theorem dX11_judges_171 : decode cX11_judges 171 = .ok (.putfield 555, 3) := by decide +kernel
theorem dX11_judges_174 : decode cX11_judges 174 = .ok (.goto (-140), 3) := by decide +kernel
theorem dX11_judges_177 : decode cX11_judges 177 = .ok (.return_, 1) := by decide +kernel
theorem dX11_judged_0 : decode cX11_judged 0 = .ok (.aload_n 0, 1) := by decide +kernel
theorem dX11_judged_1 : decode cX11_judged 1 = .ok (.iload_n 1, 1) := by decide +kernel
theorem dX11_judged_2 : decode cX11_judged 2 = .ok (.iconst 0, 1) := by decide +kernel
theorem dX11_judged_3 : decode cX11_judged 3 = .ok (.iconst 5, 1) := by decide +kernel
theorem dX11_judged_4 : decode cX11_judged 4 = .ok (.invokestatic 303, 3) := by decide +kernel
theorem dX11_judged_7 : decode cX11_judged 7 = .ok (.ifCond .eq 14, 3) := by decide +kernel
theorem dX11_judged_10 : decode cX11_judged 10 = .ok (.aload_n 0, 1) := by decide +kernel
theorem dX11_judged_11 : decode cX11_judged 11 = .ok (.invokevirtual 323, 3) := by decide +kernel
theorem dX11_judged_14 : decode cX11_judged 14 = .ok (.ifCond .le 7, 3) := by decide +kernel
theorem dX11_judged_17 : decode cX11_judged 17 = .ok (.iconst 0, 1) := by decide +kernel
theorem dX11_judged_18 : decode cX11_judged 18 = .ok (.goto 4, 3) := by decide +kernel
theorem dX11_judged_21 : decode cX11_judged 21 = .ok (.iconst 1, 1) := by decide +kernel
theorem dX11_judged_22 : decode cX11_judged 22 = .ok (.putfield 1, 3) := by decide +kernel
theorem dX11_judged_25 : decode cX11_judged 25 = .ok (.aload_n 0, 1) := by decide +kernel
theorem dX11_judged_26 : decode cX11_judged 26 = .ok (.getfield 1, 3) := by decide +kernel
theorem dX11_judged_29 : decode cX11_judged 29 = .ok (.ifCond .le 5, 3) := by decide +kernel
theorem dX11_judged_32 : decode cX11_judged 32 = .ok (.lconst 0, 1) := by decide +kernel
theorem dX11_judged_33 : decode cX11_judged 33 = .ok (.lreturn, 1) := by decide +kernel
theorem dX11_judged_34 : decode cX11_judged 34 = .ok (.aload_n 0, 1) := by decide +kernel
theorem dX11_judged_35 : decode cX11_judged 35 = .ok (.invokevirtual 576, 3) := by decide +kernel
theorem dX11_judged_38 : decode cX11_judged 38 = .ok (.aload_n 0, 1) := by decide +kernel
theorem dX11_judged_39 : decode cX11_judged 39 = .ok (.aload_n 0, 1) := by decide +kernel
theorem dX11_judged_40 : decode cX11_judged 40 = .ok (.getfield 564, 3) := by decide +kernel
theorem dX11_judged_43 : decode cX11_judged 43 = .ok (.aload_n 0, 1) := by decide +kernel
theorem dX11_judged_44 : decode cX11_judged 44 = .ok (.getfield 567, 3) := by decide +kernel
theorem dX11_judged_47 : decode cX11_judged 47 = .ok (.invokevirtual 446, 3) := by decide +kernel
theorem dX11_judged_50 : decode cX11_judged 50 = .ok (.iload_n 1, 1) := by decide +kernel
theorem dX11_judged_51 : decode cX11_judged 51 = .ok (.tableswitch 88 0 3 #[29, 48, 54, 82], 29) := by decide +kernel
theorem dX11_judged_80 : decode cX11_judged 80 = .ok (.aload_n 0, 1) := by decide +kernel
theorem dX11_judged_81 : decode cX11_judged 81 = .ok (.getfield 558, 3) := by decide +kernel
theorem dX11_judged_84 : decode cX11_judged 84 = .ok (.ifCond .le 11, 3) := by decide +kernel
theorem dX11_judged_87 : decode cX11_judged 87 = .ok (.aload_n 0, 1) := by decide +kernel
theorem dX11_judged_88 : decode cX11_judged 88 = .ok (.getfield 555, 3) := by decide +kernel
theorem dX11_judged_91 : decode cX11_judged 91 = .ok (.i2l, 1) := by decide +kernel
theorem dX11_judged_92 : decode cX11_judged 92 = .ok (.goto 6, 3) := by decide +kernel
theorem dX11_judged_95 : decode cX11_judged 95 = .ok (.ldc2_w 579, 3) := by decide +kernel
theorem dX11_judged_98 : decode cX11_judged 98 = .ok (.lreturn, 1) := by decide +kernel
theorem dX11_judged_99 : decode cX11_judged 99 = .ok (.aload_n 0, 1) := by decide +kernel
theorem dX11_judged_100 : decode cX11_judged 100 = .ok (.getfield 558, 3) := by decide +kernel
theorem dX11_judged_103 : decode cX11_judged 103 = .ok (.i2l, 1) := by decide +kernel
theorem dX11_judged_104 : decode cX11_judged 104 = .ok (.lreturn, 1) := by decide +kernel
theorem dX11_judged_105 : decode cX11_judged 105 = .ok (.aload_n 0, 1) := by decide +kernel
theorem dX11_judged_106 : decode cX11_judged 106 = .ok (.getfield 555, 3) := by decide +kernel
theorem dX11_judged_109 : decode cX11_judged 109 = .ok (.ifCond .ne 11, 3) := by decide +kernel
theorem dX11_judged_112 : decode cX11_judged 112 = .ok (.aload_n 0, 1) := by decide +kernel
theorem dX11_judged_113 : decode cX11_judged 113 = .ok (.invokevirtual 453, 3) := by decide +kernel
theorem dX11_judged_116 : decode cX11_judged 116 = .ok (.i2l, 1) := by decide +kernel
theorem dX11_judged_117 : decode cX11_judged 117 = .ok (.goto 15, 3) := by decide +kernel
theorem dX11_judged_120 : decode cX11_judged 120 = .ok (.aload_n 0, 1) := by decide +kernel
theorem dX11_judged_121 : decode cX11_judged 121 = .ok (.getfield 151, 3) := by decide +kernel
theorem dX11_judged_124 : decode cX11_judged 124 = .ok (.aload_n 0, 1) := by decide +kernel
theorem dX11_judged_125 : decode cX11_judged 125 = .ok (.getfield 555, 3) := by decide +kernel
theorem dX11_judged_128 : decode cX11_judged 128 = .ok (.iconst 1, 1) := by decide +kernel
theorem dX11_judged_129 : decode cX11_judged 129 = .ok (.isub, 1) := by decide +kernel
theorem dX11_judged_130 : decode cX11_judged 130 = .ok (.iaload, 1) := by decide +kernel
theorem dX11_judged_131 : decode cX11_judged 131 = .ok (.i2l, 1) := by decide +kernel
theorem dX11_judged_132 : decode cX11_judged 132 = .ok (.lreturn, 1) := by decide +kernel
theorem dX11_judged_133 : decode cX11_judged 133 = .ok (.aload_n 0, 1) := by decide +kernel
theorem dX11_judged_134 : decode cX11_judged 134 = .ok (.getfield 561, 3) := by decide +kernel
theorem dX11_judged_137 : decode cX11_judged 137 = .ok (.i2l, 1) := by decide +kernel
