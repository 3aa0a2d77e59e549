theorem dX11_judged_138 : decode cX11_judged 138 = .ok (.lreturn, 1) := by decide +kernel
theorem dX11_judged_139 : decode cX11_judged 139 = .ok (.aload_n 0, 1) := by decide +kernel
theorem dX11_judged_140 : decode cX11_judged 140 = .ok (.iload_n 1, 1) := by decide +kernel
theorem dX11_judged_141 : decode cX11_judged 141 = .ok (.iconst 4, 1) := by decide +kernel
theorem dX11_judged_142 : decode cX11_judged 142 = .ok (.isub, 1) := by decide +kernel
theorem dX11_judged_143 : decode cX11_judged 143 = .ok (.invokevirtual 450, 3) := by decide +kernel
theorem dX11_judged_146 : decode cX11_judged 146 = .ok (.lreturn, 1) := by decide +kernel
theorem dX11_stoodAhead_0 : decode cX11_stoodAhead 0 = .ok (.iload_n 1, 1) := by decide +kernel
theorem dX11_stoodAhead_1 : decode cX11_stoodAhead 1 = .ok (.ifCond .ne 10, 3) := by decide +kernel
theorem dX11_stoodAhead_4 : decode cX11_stoodAhead 4 = .ok (.aload_n 0, 1) := by decide +kernel
theorem dX11_stoodAhead_5 : decode cX11_stoodAhead 5 = .ok (.invokevirtual 453, 3) := by decide +kernel
theorem dX11_stoodAhead_8 : decode cX11_stoodAhead 8 = .ok (.goto 11, 3) := by decide +kernel
theorem dX11_stoodAhead_11 : decode cX11_stoodAhead 11 = .ok (.aload_n 0, 1) := by decide +kernel
theorem dX11_stoodAhead_12 : decode cX11_stoodAhead 12 = .ok (.getfield 151, 3) := by decide +kernel
theorem dX11_stoodAhead_15 : decode cX11_stoodAhead 15 = .ok (.iload_n 1, 1) := by decide +kernel
theorem dX11_stoodAhead_16 : decode cX11_stoodAhead 16 = .ok (.iconst 1, 1) := by decide +kernel
theorem dX11_stoodAhead_17 : decode cX11_stoodAhead 17 = .ok (.isub, 1) := by decide +kernel
theorem dX11_stoodAhead_18 : decode cX11_stoodAhead 18 = .ok (.iaload, 1) := by decide +kernel
theorem dX11_stoodAhead_19 : decode cX11_stoodAhead 19 = .ok (.ireturn, 1) := by decide +kernel
theorem dX11_worthsWithout_0 : decode cX11_worthsWithout 0 = .ok (.aload_n 0, 1) := by decide +kernel
theorem dX11_worthsWithout_1 : decode cX11_worthsWithout 1 = .ok (.getfield 148, 3) := by decide +kernel
theorem dX11_worthsWithout_4 : decode cX11_worthsWithout 4 = .ok (.iconst 3, 1) := by decide +kernel
theorem dX11_worthsWithout_5 : decode cX11_worthsWithout 5 = .ok (.iload_n 1, 1) := by decide +kernel
theorem dX11_worthsWithout_6 : decode cX11_worthsWithout 6 = .ok (.imul, 1) := by decide +kernel
theorem dX11_worthsWithout_7 : decode cX11_worthsWithout 7 = .ok (.iaload, 1) := by decide +kernel
theorem dX11_worthsWithout_8 : decode cX11_worthsWithout 8 = .ok (.istore_n 2, 1) := by decide +kernel
theorem dX11_worthsWithout_9 : decode cX11_worthsWithout 9 = .ok (.aload_n 0, 1) := by decide +kernel
theorem dX11_worthsWithout_10 : decode cX11_worthsWithout 10 = .ok (.iload_n 1, 1) := by decide +kernel
theorem dX11_worthsWithout_11 : decode cX11_worthsWithout 11 = .ok (.invokevirtual 581, 3) := by decide +kernel
theorem dX11_worthsWithout_14 : decode cX11_worthsWithout 14 = .ok (.istore_n 3, 1) := by decide +kernel
theorem dX11_worthsWithout_15 : decode cX11_worthsWithout 15 = .ok (.iconst 0, 1) := by decide +kernel
theorem dX11_worthsWithout_16 : decode cX11_worthsWithout 16 = .ok (.istore 4, 2) := by decide +kernel
theorem dX11_worthsWithout_18 : decode cX11_worthsWithout 18 = .ok (.iload_n 1, 1) := by decide +kernel
theorem dX11_worthsWithout_19 : decode cX11_worthsWithout 19 = .ok (.istore 5, 2) := by decide +kernel
theorem dX11_worthsWithout_21 : decode cX11_worthsWithout 21 = .ok (.iload 5, 2) := by decide +kernel
theorem dX11_worthsWithout_23 : decode cX11_worthsWithout 23 = .ok (.aload_n 0, 1) := by decide +kernel
theorem dX11_worthsWithout_24 : decode cX11_worthsWithout 24 = .ok (.getfield 555, 3) := by decide +kernel
theorem dX11_worthsWithout_27 : decode cX11_worthsWithout 27 = .ok (.if_icmp .ge 119, 3) := by decide +kernel
theorem dX11_worthsWithout_30 : decode cX11_worthsWithout 30 = .ok (.iload 5, 2) := by decide +kernel
theorem dX11_worthsWithout_32 : decode cX11_worthsWithout 32 = .ok (.iload_n 1, 1) := by decide +kernel
theorem dX11_worthsWithout_33 : decode cX11_worthsWithout 33 = .ok (.isub, 1) := by decide +kernel
theorem dX11_worthsWithout_34 : decode cX11_worthsWithout 34 = .ok (.aload_n 0, 1) := by decide +kernel
theorem dX11_worthsWithout_35 : decode cX11_worthsWithout 35 = .ok (.invokevirtual 365, 3) := by decide +kernel
theorem dX11_worthsWithout_38 : decode cX11_worthsWithout 38 = .ok (.if_icmp .ge 108, 3) := by decide +kernel
theorem dX11_worthsWithout_41 : decode cX11_worthsWithout 41 = .ok (.aload_n 0, 1) := by decide +kernel
theorem dX11_worthsWithout_42 : decode cX11_worthsWithout 42 = .ok (.getfield 148, 3) := by decide +kernel
theorem dX11_worthsWithout_45 : decode cX11_worthsWithout 45 = .ok (.iconst 3, 1) := by decide +kernel
theorem dX11_worthsWithout_46 : decode cX11_worthsWithout 46 = .ok (.iload 5, 2) := by decide +kernel
theorem dX11_worthsWithout_48 : decode cX11_worthsWithout 48 = .ok (.imul, 1) := by decide +kernel
theorem dX11_worthsWithout_49 : decode cX11_worthsWithout 49 = .ok (.iconst 1, 1) := by decide +kernel
theorem dX11_worthsWithout_50 : decode cX11_worthsWithout 50 = .ok (.iadd, 1) := by decide +kernel
theorem dX11_worthsWithout_51 : decode cX11_worthsWithout 51 = .ok (.iaload, 1) := by decide +kernel
theorem dX11_worthsWithout_52 : decode cX11_worthsWithout 52 = .ok (.istore 6, 2) := by decide +kernel
theorem dX11_worthsWithout_54 : decode cX11_worthsWithout 54 = .ok (.iload 5, 2) := by decide +kernel
theorem dX11_worthsWithout_56 : decode cX11_worthsWithout 56 = .ok (.iload_n 1, 1) := by decide +kernel
theorem dX11_worthsWithout_57 : decode cX11_worthsWithout 57 = .ok (.if_icmp .le 36, 3) := by decide +kernel
theorem dX11_worthsWithout_60 : decode cX11_worthsWithout 60 = .ok (.iload 6, 2) := by decide +kernel
theorem dX11_worthsWithout_62 : decode cX11_worthsWithout 62 = .ok (.iconst (-1), 1) := by decide +kernel
theorem dX11_worthsWithout_63 : decode cX11_worthsWithout 63 = .ok (.if_icmp .eq 30, 3) := by decide +kernel
theorem dX11_worthsWithout_66 : decode cX11_worthsWithout 66 = .ok (.aload_n 0, 1) := by decide +kernel
theorem dX11_worthsWithout_67 : decode cX11_worthsWithout 67 = .ok (.iload 5, 2) := by decide +kernel
theorem dX11_worthsWithout_69 : decode cX11_worthsWithout 69 = .ok (.iload_n 3, 1) := by decide +kernel
theorem dX11_worthsWithout_70 : decode cX11_worthsWithout 70 = .ok (.iload 6, 2) := by decide +kernel
theorem dX11_worthsWithout_72 : decode cX11_worthsWithout 72 = .ok (.aload_n 0, 1) := by decide +kernel
theorem dX11_worthsWithout_73 : decode cX11_worthsWithout 73 = .ok (.getfield 148, 3) := by decide +kernel
theorem dX11_worthsWithout_76 : decode cX11_worthsWithout 76 = .ok (.iconst 3, 1) := by decide +kernel
theorem dX11_worthsWithout_77 : decode cX11_worthsWithout 77 = .ok (.iload 5, 2) := by decide +kernel
theorem dX11_worthsWithout_79 : decode cX11_worthsWithout 79 = .ok (.imul, 1) := by decide +kernel
theorem dX11_worthsWithout_80 : decode cX11_worthsWithout 80 = .ok (.iconst 2, 1) := by decide +kernel
theorem dX11_worthsWithout_81 : decode cX11_worthsWithout 81 = .ok (.iadd, 1) := by decide +kernel
theorem dX11_worthsWithout_82 : decode cX11_worthsWithout 82 = .ok (.iaload, 1) := by decide +kernel
theorem dX11_worthsWithout_83 : decode cX11_worthsWithout 83 = .ok (.invokevirtual 361, 3) := by decide +kernel
theorem dX11_worthsWithout_86 : decode cX11_worthsWithout 86 = .ok (.ifCond .eq 7, 3) := by decide +kernel
theorem dX11_worthsWithout_89 : decode cX11_worthsWithout 89 = .ok (.iconst 1, 1) := by decide +kernel
theorem dX11_worthsWithout_90 : decode cX11_worthsWithout 90 = .ok (.goto 4, 3) := by decide +kernel
theorem dX11_worthsWithout_93 : decode cX11_worthsWithout 93 = .ok (.iconst 0, 1) := by decide +kernel
theorem dX11_worthsWithout_94 : decode cX11_worthsWithout 94 = .ok (.istore 7, 2) := by decide +kernel
theorem dX11_worthsWithout_96 : decode cX11_worthsWithout 96 = .ok (.iload 7, 2) := by decide +kernel
theorem dX11_worthsWithout_98 : decode cX11_worthsWithout 98 = .ok (.ifCond .eq 23, 3) := by decide +kernel
theorem dX11_worthsWithout_101 : decode cX11_worthsWithout 101 = .ok (.iload_n 3, 1) := by decide +kernel
theorem dX11_worthsWithout_102 : decode cX11_worthsWithout 102 = .ok (.iload 6, 2) := by decide +kernel
theorem dX11_worthsWithout_104 : decode cX11_worthsWithout 104 = .ok (.aload_n 0, 1) := by decide +kernel
theorem dX11_worthsWithout_105 : decode cX11_worthsWithout 105 = .ok (.getfield 148, 3) := by decide +kernel
theorem dX11_worthsWithout_108 : decode cX11_worthsWithout 108 = .ok (.iconst 3, 1) := by decide +kernel
theorem dX11_worthsWithout_109 : decode cX11_worthsWithout 109 = .ok (.iload 5, 2) := by decide +kernel
theorem dX11_worthsWithout_111 : decode cX11_worthsWithout 111 = .ok (.imul, 1) := by decide +kernel
theorem dX11_worthsWithout_112 : decode cX11_worthsWithout 112 = .ok (.iconst 2, 1) := by decide +kernel
theorem dX11_worthsWithout_113 : decode cX11_worthsWithout 113 = .ok (.iadd, 1) := by decide +kernel
theorem dX11_worthsWithout_114 : decode cX11_worthsWithout 114 = .ok (.iaload, 1) := by decide +kernel
theorem dX11_worthsWithout_115 : decode cX11_worthsWithout 115 = .ok (.invokestatic 351, 3) := by decide +kernel
theorem dX11_worthsWithout_118 : decode cX11_worthsWithout 118 = .ok (.goto 4, 3) := by decide +kernel
theorem dX11_worthsWithout_121 : decode cX11_worthsWithout 121 = .ok (.iload_n 3, 1) := by decide +kernel
theorem dX11_worthsWithout_122 : decode cX11_worthsWithout 122 = .ok (.istore_n 3, 1) := by decide +kernel
theorem dX11_worthsWithout_123 : decode cX11_worthsWithout 123 = .ok (.iload 4, 2) := by decide +kernel
theorem dX11_worthsWithout_125 : decode cX11_worthsWithout 125 = .ok (.aload_n 0, 1) := by decide +kernel
theorem dX11_worthsWithout_126 : decode cX11_worthsWithout 126 = .ok (.iload_n 2, 1) := by decide +kernel
theorem dX11_worthsWithout_127 : decode cX11_worthsWithout 127 = .ok (.iload_n 3, 1) := by decide +kernel
theorem dX11_worthsWithout_128 : decode cX11_worthsWithout 128 = .ok (.iload 5, 2) := by decide +kernel
theorem dX11_worthsWithout_130 : decode cX11_worthsWithout 130 = .ok (.iload_n 1, 1) := by decide +kernel
theorem dX11_worthsWithout_131 : decode cX11_worthsWithout 131 = .ok (.isub, 1) := by decide +kernel
theorem dX11_worthsWithout_132 : decode cX11_worthsWithout 132 = .ok (.iload 5, 2) := by decide +kernel
theorem dX11_worthsWithout_134 : decode cX11_worthsWithout 134 = .ok (.invokevirtual 371, 3) := by decide +kernel
theorem dX11_worthsWithout_137 : decode cX11_worthsWithout 137 = .ok (.iadd, 1) := by decide +kernel
theorem dX11_worthsWithout_138 : decode cX11_worthsWithout 138 = .ok (.istore 4, 2) := by decide +kernel
theorem dX11_worthsWithout_140 : decode cX11_worthsWithout 140 = .ok (.iinc 5 1, 3) := by decide +kernel
theorem dX11_worthsWithout_143 : decode cX11_worthsWithout 143 = .ok (.goto (-122), 3) := by decide +kernel
theorem dX11_worthsWithout_146 : decode cX11_worthsWithout 146 = .ok (.iload 4, 2) := by decide +kernel
theorem dX11_worthsWithout_148 : decode cX11_worthsWithout 148 = .ok (.ireturn, 1) := by decide +kernel
theorem dX11_rowFares_0 : decode cX11_rowFares 0 = .ok (.aload_n 0, 1) := by decide +kernel
theorem dX11_rowFares_1 : decode cX11_rowFares 1 = .ok (.invokevirtual 576, 3) := by decide +kernel
theorem dX11_rowFares_4 : decode cX11_rowFares 4 = .ok (.aload_n 0, 1) := by decide +kernel
theorem dX11_rowFares_5 : decode cX11_rowFares 5 = .ok (.iload_n 1, 1) := by decide +kernel
theorem dX11_rowFares_6 : decode cX11_rowFares 6 = .ok (.ifCond .lt 26, 3) := by decide +kernel
theorem dX11_rowFares_9 : decode cX11_rowFares 9 = .ok (.iload_n 1, 1) := by decide +kernel
theorem dX11_rowFares_10 : decode cX11_rowFares 10 = .ok (.aload_n 0, 1) := by decide +kernel
theorem dX11_rowFares_11 : decode cX11_rowFares 11 = .ok (.getfield 555, 3) := by decide +kernel
theorem dX11_rowFares_14 : decode cX11_rowFares 14 = .ok (.if_icmp .ge 18, 3) := by decide +kernel
theorem dX11_rowFares_17 : decode cX11_rowFares 17 = .ok (.aload_n 0, 1) := by decide +kernel
theorem dX11_rowFares_18 : decode cX11_rowFares 18 = .ok (.getfield 148, 3) := by decide +kernel
theorem dX11_rowFares_21 : decode cX11_rowFares 21 = .ok (.iconst 3, 1) := by decide +kernel
theorem dX11_rowFares_22 : decode cX11_rowFares 22 = .ok (.iload_n 1, 1) := by decide +kernel
theorem dX11_rowFares_23 : decode cX11_rowFares 23 = .ok (.imul, 1) := by decide +kernel
theorem dX11_rowFares_24 : decode cX11_rowFares 24 = .ok (.iaload, 1) := by decide +kernel
theorem dX11_rowFares_25 : decode cX11_rowFares 25 = .ok (.ifCond .lt 7, 3) := by decide +kernel
theorem dX11_rowFares_28 : decode cX11_rowFares 28 = .ok (.iconst 0, 1) := by decide +kernel
theorem dX11_rowFares_29 : decode cX11_rowFares 29 = .ok (.goto 4, 3) := by decide +kernel
theorem dX11_rowFares_32 : decode cX11_rowFares 32 = .ok (.iconst 1, 1) := by decide +kernel
theorem dX11_rowFares_33 : decode cX11_rowFares 33 = .ok (.putfield 1, 3) := by decide +kernel
theorem dX11_rowFares_36 : decode cX11_rowFares 36 = .ok (.aload_n 0, 1) := by decide +kernel
theorem dX11_rowFares_37 : decode cX11_rowFares 37 = .ok (.getfield 1, 3) := by decide +kernel
theorem dX11_rowFares_40 : decode cX11_rowFares 40 = .ok (.ifCond .le 5, 3) := by decide +kernel
theorem dX11_rowFares_43 : decode cX11_rowFares 43 = .ok (.iconst 0, 1) := by decide +kernel
theorem dX11_rowFares_44 : decode cX11_rowFares 44 = .ok (.ireturn, 1) := by decide +kernel
theorem dX11_rowFares_45 : decode cX11_rowFares 45 = .ok (.aload_n 0, 1) := by decide +kernel
theorem dX11_rowFares_46 : decode cX11_rowFares 46 = .ok (.aload_n 0, 1) := by decide +kernel
theorem dX11_rowFares_47 : decode cX11_rowFares 47 = .ok (.iload_n 1, 1) := by decide +kernel
theorem dX11_rowFares_48 : decode cX11_rowFares 48 = .ok (.invokevirtual 581, 3) := by decide +kernel
theorem dX11_rowFares_51 : decode cX11_rowFares 51 = .ok (.aload_n 0, 1) := by decide +kernel
theorem dX11_rowFares_52 : decode cX11_rowFares 52 = .ok (.getfield 151, 3) := by decide +kernel
theorem dX11_rowFares_55 : decode cX11_rowFares 55 = .ok (.iload_n 1, 1) := by decide +kernel
theorem dX11_rowFares_56 : decode cX11_rowFares 56 = .ok (.iaload, 1) := by decide +kernel
theorem dX11_rowFares_57 : decode cX11_rowFares 57 = .ok (.invokevirtual 384, 3) := by decide +kernel
theorem dX11_rowFares_60 : decode cX11_rowFares 60 = .ok (.ineg, 1) := by decide +kernel
theorem dX11_rowFares_61 : decode cX11_rowFares 61 = .ok (.istore_n 3, 1) := by decide +kernel
theorem dX11_rowFares_62 : decode cX11_rowFares 62 = .ok (.iload_n 1, 1) := by decide +kernel
theorem dX11_rowFares_63 : decode cX11_rowFares 63 = .ok (.istore 4, 2) := by decide +kernel
theorem dX11_rowFares_65 : decode cX11_rowFares 65 = .ok (.iload 4, 2) := by decide +kernel
theorem dX11_rowFares_67 : decode cX11_rowFares 67 = .ok (.aload_n 0, 1) := by decide +kernel
theorem dX11_rowFares_68 : decode cX11_rowFares 68 = .ok (.getfield 555, 3) := by decide +kernel
theorem dX11_rowFares_71 : decode cX11_rowFares 71 = .ok (.if_icmp .ge 48, 3) := by decide +kernel
theorem dX11_rowFares_74 : decode cX11_rowFares 74 = .ok (.iload 4, 2) := by decide +kernel
theorem dX11_rowFares_76 : decode cX11_rowFares 76 = .ok (.iload_n 1, 1) := by decide +kernel
theorem dX11_rowFares_77 : decode cX11_rowFares 77 = .ok (.isub, 1) := by decide +kernel
theorem dX11_rowFares_78 : decode cX11_rowFares 78 = .ok (.aload_n 0, 1) := by decide +kernel
theorem dX11_rowFares_79 : decode cX11_rowFares 79 = .ok (.invokevirtual 365, 3) := by decide +kernel
theorem dX11_rowFares_82 : decode cX11_rowFares 82 = .ok (.if_icmp .ge 37, 3) := by decide +kernel
theorem dX11_rowFares_85 : decode cX11_rowFares 85 = .ok (.iload_n 3, 1) := by decide +kernel
theorem dX11_rowFares_86 : decode cX11_rowFares 86 = .ok (.aload_n 0, 1) := by decide +kernel
theorem dX11_rowFares_87 : decode cX11_rowFares 87 = .ok (.aload_n 0, 1) := by decide +kernel
theorem dX11_rowFares_88 : decode cX11_rowFares 88 = .ok (.getfield 148, 3) := by decide +kernel
theorem dX11_rowFares_91 : decode cX11_rowFares 91 = .ok (.iconst 3, 1) := by decide +kernel
theorem dX11_rowFares_92 : decode cX11_rowFares 92 = .ok (.iload_n 1, 1) := by decide +kernel
theorem dX11_rowFares_93 : decode cX11_rowFares 93 = .ok (.imul, 1) := by decide +kernel
theorem dX11_rowFares_94 : decode cX11_rowFares 94 = .ok (.iaload, 1) := by decide +kernel
theorem dX11_rowFares_95 : decode cX11_rowFares 95 = .ok (.aload_n 0, 1) := by decide +kernel
theorem dX11_rowFares_96 : decode cX11_rowFares 96 = .ok (.getfield 151, 3) := by decide +kernel
theorem dX11_rowFares_99 : decode cX11_rowFares 99 = .ok (.iload 4, 2) := by decide +kernel
theorem dX11_rowFares_101 : decode cX11_rowFares 101 = .ok (.iaload, 1) := by decide +kernel
theorem dX11_rowFares_102 : decode cX11_rowFares 102 = .ok (.iload 4, 2) := by decide +kernel
theorem dX11_rowFares_104 : decode cX11_rowFares 104 = .ok (.iload_n 1, 1) := by decide +kernel
theorem dX11_rowFares_105 : decode cX11_rowFares 105 = .ok (.isub, 1) := by decide +kernel
theorem dX11_rowFares_106 : decode cX11_rowFares 106 = .ok (.iload 4, 2) := by decide +kernel
theorem dX11_rowFares_108 : decode cX11_rowFares 108 = .ok (.invokevirtual 371, 3) := by decide +kernel
theorem dX11_rowFares_111 : decode cX11_rowFares 111 = .ok (.iadd, 1) := by decide +kernel
theorem dX11_rowFares_112 : decode cX11_rowFares 112 = .ok (.istore_n 3, 1) := by decide +kernel
theorem dX11_rowFares_113 : decode cX11_rowFares 113 = .ok (.iinc 4 1, 3) := by decide +kernel
theorem dX11_rowFares_116 : decode cX11_rowFares 116 = .ok (.goto (-51), 3) := by decide +kernel
theorem dX11_rowFares_119 : decode cX11_rowFares 119 = .ok (.iload_n 2, 1) := by decide +kernel
theorem dX11_rowFares_120 : decode cX11_rowFares 120 = .ok (.ifCond .eq 13, 3) := by decide +kernel
theorem dX11_rowFares_123 : decode cX11_rowFares 123 = .ok (.aload_n 0, 1) := by decide +kernel
theorem dX11_rowFares_124 : decode cX11_rowFares 124 = .ok (.iload_n 1, 1) := by decide +kernel
theorem dX11_rowFares_125 : decode cX11_rowFares 125 = .ok (.invokevirtual 584, 3) := by decide +kernel
theorem dX11_rowFares_128 : decode cX11_rowFares 128 = .ok (.iload_n 3, 1) := by decide +kernel
theorem dX11_rowFares_129 : decode cX11_rowFares 129 = .ok (.isub, 1) := by decide +kernel
theorem dX11_rowFares_130 : decode cX11_rowFares 130 = .ok (.goto 4, 3) := by decide +kernel
theorem dX11_rowFares_133 : decode cX11_rowFares 133 = .ok (.iload_n 3, 1) := by decide +kernel
theorem dX11_rowFares_134 : decode cX11_rowFares 134 = .ok (.ireturn, 1) := by decide +kernel
theorem dX11_when_0 : decode cX11_when 0 = .ok (.aload_n 0, 1) := by decide +kernel
theorem dX11_when_1 : decode cX11_when 1 = .ok (.aload_n 0, 1) := by decide +kernel
theorem dX11_when_2 : decode cX11_when 2 = .ok (.iload_n 1, 1) := by decide +kernel
theorem dX11_when_3 : decode cX11_when 3 = .ok (.invokevirtual 338, 3) := by decide +kernel
theorem dX11_when_6 : decode cX11_when 6 = .ok (.ifCond .eq 16, 3) := by decide +kernel
theorem dX11_when_9 : decode cX11_when 9 = .ok (.iload_n 2, 1) := by decide +kernel
theorem dX11_when_10 : decode cX11_when 10 = .ok (.iconst 0, 1) := by decide +kernel
theorem dX11_when_11 : decode cX11_when 11 = .ok (.iconst 2, 1) := by decide +kernel
theorem dX11_when_12 : decode cX11_when 12 = .ok (.invokestatic 303, 3) := by decide +kernel
theorem dX11_when_15 : decode cX11_when 15 = .ok (.ifCond .eq 7, 3) := by decide +kernel
theorem dX11_when_18 : decode cX11_when 18 = .ok (.iconst 0, 1) := by decide +kernel
theorem dX11_when_19 : decode cX11_when 19 = .ok (.goto 4, 3) := by decide +kernel
theorem dX11_when_22 : decode cX11_when 22 = .ok (.iconst 1, 1) := by decide +kernel
theorem dX11_when_23 : decode cX11_when 23 = .ok (.putfield 1, 3) := by decide +kernel
theorem dX11_when_26 : decode cX11_when 26 = .ok (.aload_n 0, 1) := by decide +kernel
theorem dX11_when_27 : decode cX11_when 27 = .ok (.getfield 1, 3) := by decide +kernel
theorem dX11_when_30 : decode cX11_when 30 = .ok (.ifCond .le 5, 3) := by decide +kernel
theorem dX11_when_33 : decode cX11_when 33 = .ok (.lconst 0, 1) := by decide +kernel
theorem dX11_when_34 : decode cX11_when 34 = .ok (.lreturn, 1) := by decide +kernel
theorem dX11_when_35 : decode cX11_when 35 = .ok (.aload_n 0, 1) := by decide +kernel
theorem dX11_when_36 : decode cX11_when 36 = .ok (.invokevirtual 419, 3) := by decide +kernel
theorem dX11_when_39 : decode cX11_when 39 = .ok (.iconst (-1), 1) := by decide +kernel
theorem dX11_when_40 : decode cX11_when 40 = .ok (.istore_n 3, 1) := by decide +kernel
theorem dX11_when_41 : decode cX11_when 41 = .ok (.lconst 0, 1) := by decide +kernel
theorem dX11_when_42 : decode cX11_when 42 = .ok (.lstore 4, 2) := by decide +kernel
theorem dX11_when_44 : decode cX11_when 44 = .ok (.iconst 0, 1) := by decide +kernel
theorem dX11_when_45 : decode cX11_when 45 = .ok (.istore 6, 2) := by decide +kernel
theorem dX11_when_47 : decode cX11_when 47 = .ok (.iload 6, 2) := by decide +kernel
theorem dX11_when_49 : decode cX11_when 49 = .ok (.aload_n 0, 1) := by decide +kernel
theorem dX11_when_50 : decode cX11_when 50 = .ok (.invokevirtual 326, 3) := by decide +kernel
theorem dX11_when_53 : decode cX11_when 53 = .ok (.if_icmp .ge 103, 3) := by decide +kernel
theorem dX11_when_56 : decode cX11_when 56 = .ok (.iload 6, 2) := by decide +kernel
theorem dX11_when_58 : decode cX11_when 58 = .ok (.bipush 7, 2) := by decide +kernel
theorem dX11_when_60 : decode cX11_when 60 = .ok (.if_icmp .ge 96, 3) := by decide +kernel
theorem dX11_when_63 : decode cX11_when 63 = .ok (.aload_n 0, 1) := by decide +kernel
theorem dX11_when_64 : decode cX11_when 64 = .ok (.iload 6, 2) := by decide +kernel
theorem dX11_when_66 : decode cX11_when 66 = .ok (.iload_n 1, 1) := by decide +kernel
theorem dX11_when_67 : decode cX11_when 67 = .ok (.invokevirtual 410, 3) := by decide +kernel
theorem dX11_when_70 : decode cX11_when 70 = .ok (.ifCond .le 13, 3) := by decide +kernel
theorem dX11_when_73 : decode cX11_when 73 = .ok (.aload_n 0, 1) := by decide +kernel
theorem dX11_when_74 : decode cX11_when 74 = .ok (.iload_n 1, 1) := by decide +kernel
theorem dX11_when_75 : decode cX11_when 75 = .ok (.iload 6, 2) := by decide +kernel
theorem dX11_when_77 : decode cX11_when 77 = .ok (.invokevirtual 487, 3) := by decide +kernel
theorem dX11_when_80 : decode cX11_when 80 = .ok (.goto 4, 3) := by decide +kernel
theorem dX11_when_83 : decode cX11_when 83 = .ok (.lconst 0, 1) := by decide +kernel
theorem dX11_when_84 : decode cX11_when 84 = .ok (.lstore 7, 2) := by decide +kernel
theorem dX11_when_86 : decode cX11_when 86 = .ok (.iload 6, 2) := by decide +kernel
theorem dX11_when_88 : decode cX11_when 88 = .ok (.aload_n 0, 1) := by decide +kernel
theorem dX11_when_89 : decode cX11_when 89 = .ok (.iload 6, 2) := by decide +kernel
theorem dX11_when_91 : decode cX11_when 91 = .ok (.iconst 0, 1) := by decide +kernel
theorem dX11_when_92 : decode cX11_when 92 = .ok (.invokevirtual 374, 3) := by decide +kernel
theorem dX11_when_95 : decode cX11_when 95 = .ok (.iadd, 1) := by decide +kernel
theorem dX11_when_96 : decode cX11_when 96 = .ok (.iconst 1, 1) := by decide +kernel
theorem dX11_when_97 : decode cX11_when 97 = .ok (.isub, 1) := by decide +kernel
theorem dX11_when_98 : decode cX11_when 98 = .ok (.istore 9, 2) := by decide +kernel
theorem dX11_when_100 : decode cX11_when 100 = .ok (.iload 9, 2) := by decide +kernel
theorem dX11_when_102 : decode cX11_when 102 = .ok (.bipush 11, 2) := by decide +kernel
theorem dX11_when_104 : decode cX11_when 104 = .ok (.if_icmp .ge 17, 3) := by decide +kernel
theorem dX11_when_107 : decode cX11_when 107 = .ok (.ldc2_w 107, 3) := by decide +kernel
theorem dX11_when_110 : decode cX11_when 110 = .ok (.lload 7, 2) := by decide +kernel
theorem dX11_when_112 : decode cX11_when 112 = .ok (.lmul, 1) := by decide +kernel
theorem dX11_when_113 : decode cX11_when 113 = .ok (.lstore 7, 2) := by decide +kernel
theorem dX11_when_115 : decode cX11_when 115 = .ok (.iinc 9 1, 3) := by decide +kernel
theorem dX11_when_118 : decode cX11_when 118 = .ok (.goto (-18), 3) := by decide +kernel
theorem dX11_when_121 : decode cX11_when 121 = .ok (.aload_n 0, 1) := by decide +kernel
theorem dX11_when_122 : decode cX11_when 122 = .ok (.iload 6, 2) := by decide +kernel
theorem dX11_when_124 : decode cX11_when 124 = .ok (.iload_n 1, 1) := by decide +kernel
theorem dX11_when_125 : decode cX11_when 125 = .ok (.invokevirtual 410, 3) := by decide +kernel
theorem dX11_when_128 : decode cX11_when 128 = .ok (.ifCond .le 22, 3) := by decide +kernel
theorem dX11_when_131 : decode cX11_when 131 = .ok (.iload_n 3, 1) := by decide +kernel
theorem dX11_when_132 : decode cX11_when 132 = .ok (.ifCond .lt 11, 3) := by decide +kernel
theorem dX11_when_135 : decode cX11_when 135 = .ok (.lload 7, 2) := by decide +kernel
theorem dX11_when_137 : decode cX11_when 137 = .ok (.lload 4, 2) := by decide +kernel
theorem dX11_when_139 : decode cX11_when 139 = .ok (.lcmp, 1) := by decide +kernel
theorem dX11_when_140 : decode cX11_when 140 = .ok (.ifCond .le 10, 3) := by decide +kernel
theorem dX11_when_143 : decode cX11_when 143 = .ok (.lload 7, 2) := by decide +kernel
theorem dX11_when_145 : decode cX11_when 145 = .ok (.lstore 4, 2) := by decide +kernel
theorem dX11_when_147 : decode cX11_when 147 = .ok (.iload 6, 2) := by decide +kernel
theorem dX11_when_149 : decode cX11_when 149 = .ok (.istore_n 3, 1) := by decide +kernel
theorem dX11_when_150 : decode cX11_when 150 = .ok (.iinc 6 1, 3) := by decide +kernel
theorem dX11_when_153 : decode cX11_when 153 = .ok (.goto (-106), 3) := by decide +kernel
theorem dX11_when_156 : decode cX11_when 156 = .ok (.aload_n 0, 1) := by decide +kernel
theorem dX11_when_157 : decode cX11_when 157 = .ok (.iload_n 3, 1) := by decide +kernel
theorem dX11_when_158 : decode cX11_when 158 = .ok (.ifCond .lt 7, 3) := by decide +kernel
theorem dX11_when_161 : decode cX11_when 161 = .ok (.iconst 0, 1) := by decide +kernel
theorem dX11_when_162 : decode cX11_when 162 = .ok (.goto 4, 3) := by decide +kernel
theorem dX11_when_165 : decode cX11_when 165 = .ok (.iconst 1, 1) := by decide +kernel
theorem dX11_when_166 : decode cX11_when 166 = .ok (.putfield 1, 3) := by decide +kernel
theorem dX11_when_169 : decode cX11_when 169 = .ok (.aload_n 0, 1) := by decide +kernel
theorem dX11_when_170 : decode cX11_when 170 = .ok (.getfield 1, 3) := by decide +kernel
theorem dX11_when_173 : decode cX11_when 173 = .ok (.ifCond .le 5, 3) := by decide +kernel
theorem dX11_when_176 : decode cX11_when 176 = .ok (.lconst 0, 1) := by decide +kernel
theorem dX11_when_177 : decode cX11_when 177 = .ok (.lreturn, 1) := by decide +kernel
theorem dX11_when_178 : decode cX11_when 178 = .ok (.aload_n 0, 1) := by decide +kernel
theorem dX11_when_179 : decode cX11_when 179 = .ok (.aload_n 0, 1) := by decide +kernel
theorem dX11_when_180 : decode cX11_when 180 = .ok (.iload_n 1, 1) := by decide +kernel
theorem dX11_when_181 : decode cX11_when 181 = .ok (.iload_n 3, 1) := by decide +kernel
theorem dX11_when_182 : decode cX11_when 182 = .ok (.invokevirtual 487, 3) := by decide +kernel
theorem dX11_when_185 : decode cX11_when 185 = .ok (.aload_n 0, 1) := by decide +kernel
theorem dX11_when_186 : decode cX11_when 186 = .ok (.getfield 121, 3) := by decide +kernel
theorem dX11_when_189 : decode cX11_when 189 = .ok (.iload_n 3, 1) := by decide +kernel
theorem dX11_when_190 : decode cX11_when 190 = .ok (.laload, 1) := by decide +kernel
theorem dX11_when_191 : decode cX11_when 191 = .ok (.aload_n 0, 1) := by decide +kernel
theorem dX11_when_192 : decode cX11_when 192 = .ok (.iload_n 3, 1) := by decide +kernel
theorem dX11_when_193 : decode cX11_when 193 = .ok (.invokevirtual 442, 3) := by decide +kernel
theorem dX11_when_196 : decode cX11_when 196 = .ok (.lmul, 1) := by decide +kernel
theorem dX11_when_197 : decode cX11_when 197 = .ok (.invokevirtual 446, 3) := by decide +kernel
theorem dX11_when_200 : decode cX11_when 200 = .ok (.iload_n 2, 1) := by decide +kernel
theorem dX11_when_201 : decode cX11_when 201 = .ok (.ifCond .ne 8, 3) := by decide +kernel
theorem dX11_when_204 : decode cX11_when 204 = .ok (.iload_n 3, 1) := by decide +kernel
theorem dX11_when_205 : decode cX11_when 205 = .ok (.i2l, 1) := by decide +kernel
theorem dX11_when_206 : decode cX11_when 206 = .ok (.goto 10, 3) := by decide +kernel
theorem dX11_when_209 : decode cX11_when 209 = .ok (.aload_n 0, 1) := by decide +kernel
theorem dX11_when_210 : decode cX11_when 210 = .ok (.iload_n 2, 1) := by decide +kernel
theorem dX11_when_211 : decode cX11_when 211 = .ok (.iconst 1, 1) := by decide +kernel
theorem dX11_when_212 : decode cX11_when 212 = .ok (.isub, 1) := by decide +kernel
theorem dX11_when_213 : decode cX11_when 213 = .ok (.invokevirtual 450, 3) := by decide +kernel
theorem dX11_when_216 : decode cX11_when 216 = .ok (.lreturn, 1) := by decide +kernel
theorem dX11_mark_0 : decode cX11_mark 0 = .ok (.aload_n 0, 1) := by decide +kernel
theorem dX11_mark_1 : decode cX11_mark 1 = .ok (.iconst 0, 1) := by decide +kernel
theorem dX11_mark_2 : decode cX11_mark 2 = .ok (.putfield 1, 3) := by decide +kernel
theorem dX11_mark_5 : decode cX11_mark 5 = .ok (.iload_n 1, 1) := by decide +kernel
theorem dX11_mark_6 : decode cX11_mark 6 = .ok (.iconst 0, 1) := by decide +kernel
theorem dX11_mark_7 : decode cX11_mark 7 = .ok (.iconst 3, 1) := by decide +kernel
theorem dX11_mark_8 : decode cX11_mark 8 = .ok (.invokestatic 303, 3) := by decide +kernel
theorem dX11_mark_11 : decode cX11_mark 11 = .ok (.ifCond .eq 16, 3) := by decide +kernel
theorem dX11_mark_14 : decode cX11_mark 14 = .ok (.iload_n 2, 1) := by decide +kernel
theorem dX11_mark_15 : decode cX11_mark 15 = .ok (.ifCond .eq 14, 3) := by decide +kernel
theorem dX11_mark_18 : decode cX11_mark 18 = .ok (.aload_n 0, 1) := by decide +kernel
theorem dX11_mark_19 : decode cX11_mark 19 = .ok (.getfield 154, 3) := by decide +kernel
theorem dX11_mark_22 : decode cX11_mark 22 = .ok (.iload_n 1, 1) := by decide +kernel
theorem dX11_mark_23 : decode cX11_mark 23 = .ok (.baload, 1) := by decide +kernel
theorem dX11_mark_24 : decode cX11_mark 24 = .ok (.ifCond .ne 5, 3) := by decide +kernel
theorem dX11_mark_27 : decode cX11_mark 27 = .ok (.iconst 0, 1) := by decide +kernel
theorem dX11_mark_28 : decode cX11_mark 28 = .ok (.ireturn, 1) := by decide +kernel
theorem dX11_mark_29 : decode cX11_mark 29 = .ok (.iload_n 2, 1) := by decide +kernel
theorem dX11_mark_30 : decode cX11_mark 30 = .ok (.ifCond .eq 34, 3) := by decide +kernel
theorem dX11_mark_33 : decode cX11_mark 33 = .ok (.aload_n 0, 1) := by decide +kernel
theorem dX11_mark_34 : decode cX11_mark 34 = .ok (.iconst 2, 1) := by decide +kernel
theorem dX11_mark_35 : decode cX11_mark 35 = .ok (.iload_n 1, 1) := by decide +kernel
theorem dX11_mark_36 : decode cX11_mark 36 = .ok (.iadd, 1) := by decide +kernel
theorem dX11_mark_37 : decode cX11_mark 37 = .ok (.iconst 0, 1) := by decide +kernel
theorem dX11_mark_38 : decode cX11_mark 38 = .ok (.invokevirtual 230, 3) := by decide +kernel
theorem dX11_mark_41 : decode cX11_mark 41 = .ok (.aload_n 0, 1) := by decide +kernel
theorem dX11_mark_42 : decode cX11_mark 42 = .ok (.iconst 1, 1) := by decide +kernel
theorem dX11_mark_43 : decode cX11_mark 43 = .ok (.putfield 163, 3) := by decide +kernel
theorem dX11_mark_46 : decode cX11_mark 46 = .ok (.aload_n 0, 1) := by decide +kernel
theorem dX11_mark_47 : decode cX11_mark 47 = .ok (.iconst 1, 1) := by decide +kernel
theorem dX11_mark_48 : decode cX11_mark 48 = .ok (.putfield 167, 3) := by decide +kernel
theorem dX11_mark_51 : decode cX11_mark 51 = .ok (.aload_n 0, 1) := by decide +kernel
theorem dX11_mark_52 : decode cX11_mark 52 = .ok (.aload_n 0, 1) := by decide +kernel
theorem dX11_mark_53 : decode cX11_mark 53 = .ok (.getfield 157, 3) := by decide +kernel
theorem dX11_mark_56 : decode cX11_mark 56 = .ok (.iload_n 1, 1) := by decide +kernel
theorem dX11_mark_57 : decode cX11_mark 57 = .ok (.iaload, 1) := by decide +kernel
theorem dX11_mark_58 : decode cX11_mark 58 = .ok (.putfield 234, 3) := by decide +kernel
theorem dX11_mark_61 : decode cX11_mark 61 = .ok (.goto 28, 3) := by decide +kernel
theorem dX11_mark_64 : decode cX11_mark 64 = .ok (.aload_n 0, 1) := by decide +kernel
theorem dX11_mark_65 : decode cX11_mark 65 = .ok (.getfield 154, 3) := by decide +kernel
theorem dX11_mark_68 : decode cX11_mark 68 = .ok (.iload_n 1, 1) := by decide +kernel
theorem dX11_mark_69 : decode cX11_mark 69 = .ok (.iconst 1, 1) := by decide +kernel
theorem dX11_mark_70 : decode cX11_mark 70 = .ok (.bastore, 1) := by decide +kernel
theorem dX11_mark_71 : decode cX11_mark 71 = .ok (.aload_n 0, 1) := by decide +kernel
theorem dX11_mark_72 : decode cX11_mark 72 = .ok (.iconst 0, 1) := by decide +kernel
theorem dX11_mark_73 : decode cX11_mark 73 = .ok (.iconst 2, 1) := by decide +kernel
theorem dX11_mark_74 : decode cX11_mark 74 = .ok (.iload_n 1, 1) := by decide +kernel
theorem dX11_mark_75 : decode cX11_mark 75 = .ok (.iadd, 1) := by decide +kernel
theorem dX11_mark_76 : decode cX11_mark 76 = .ok (.invokevirtual 230, 3) := by decide +kernel
theorem dX11_mark_79 : decode cX11_mark 79 = .ok (.aload_n 0, 1) := by decide +kernel
theorem dX11_mark_80 : decode cX11_mark 80 = .ok (.getfield 157, 3) := by decide +kernel
theorem dX11_mark_83 : decode cX11_mark 83 = .ok (.iload_n 1, 1) := by decide +kernel
theorem dX11_mark_84 : decode cX11_mark 84 = .ok (.aload_n 0, 1) := by decide +kernel
theorem dX11_mark_85 : decode cX11_mark 85 = .ok (.getfield 234, 3) := by decide +kernel
theorem dX11_mark_88 : decode cX11_mark 88 = .ok (.iastore, 1) := by decide +kernel
theorem dX11_mark_89 : decode cX11_mark 89 = .ok (.iconst 0, 1) := by decide +kernel
theorem dX11_mark_90 : decode cX11_mark 90 = .ok (.istore_n 3, 1) := by decide +kernel
theorem dX11_mark_91 : decode cX11_mark 91 = .ok (.iload_n 3, 1) := by decide +kernel
theorem dX11_mark_92 : decode cX11_mark 92 = .ok (.bipush 48, 2) := by decide +kernel
theorem dX11_mark_94 : decode cX11_mark 94 = .ok (.if_icmp .ge 50, 3) := by decide +kernel
theorem dX11_mark_97 : decode cX11_mark 97 = .ok (.iload_n 2, 1) := by decide +kernel
theorem dX11_mark_98 : decode cX11_mark 98 = .ok (.ifCond .eq 23, 3) := by decide +kernel
theorem dX11_mark_101 : decode cX11_mark 101 = .ok (.aload_n 0, 1) := by decide +kernel
theorem dX11_mark_102 : decode cX11_mark 102 = .ok (.getfield 148, 3) := by decide +kernel
theorem dX11_mark_105 : decode cX11_mark 105 = .ok (.iload_n 3, 1) := by decide +kernel
theorem dX11_mark_106 : decode cX11_mark 106 = .ok (.aload_n 0, 1) := by decide +kernel
theorem dX11_mark_107 : decode cX11_mark 107 = .ok (.getfield 160, 3) := by decide +kernel
theorem dX11_mark_110 : decode cX11_mark 110 = .ok (.bipush 48, 2) := by decide +kernel
theorem dX11_mark_112 : decode cX11_mark 112 = .ok (.iload_n 1, 1) := by decide +kernel
theorem dX11_mark_113 : decode cX11_mark 113 = .ok (.imul, 1) := by decide +kernel
theorem dX11_mark_114 : decode cX11_mark 114 = .ok (.iload_n 3, 1) := by decide +kernel
theorem dX11_mark_115 : decode cX11_mark 115 = .ok (.iadd, 1) := by decide +kernel
theorem dX11_mark_116 : decode cX11_mark 116 = .ok (.iaload, 1) := by decide +kernel
theorem dX11_mark_117 : decode cX11_mark 117 = .ok (.iastore, 1) := by decide +kernel
theorem dX11_mark_118 : decode cX11_mark 118 = .ok (.goto 20, 3) := by decide +kernel
theorem dX11_mark_121 : decode cX11_mark 121 = .ok (.aload_n 0, 1) := by decide +kernel
theorem dX11_mark_122 : decode cX11_mark 122 = .ok (.getfield 160, 3) := by decide +kernel
theorem dX11_mark_125 : decode cX11_mark 125 = .ok (.bipush 48, 2) := by decide +kernel
theorem dX11_mark_127 : decode cX11_mark 127 = .ok (.iload_n 1, 1) := by decide +kernel
theorem dX11_mark_128 : decode cX11_mark 128 = .ok (.imul, 1) := by decide +kernel
theorem dX11_mark_129 : decode cX11_mark 129 = .ok (.iload_n 3, 1) := by decide +kernel
theorem dX11_mark_130 : decode cX11_mark 130 = .ok (.iadd, 1) := by decide +kernel
theorem dX11_mark_131 : decode cX11_mark 131 = .ok (.aload_n 0, 1) := by decide +kernel
theorem dX11_mark_132 : decode cX11_mark 132 = .ok (.getfield 148, 3) := by decide +kernel
theorem dX11_mark_135 : decode cX11_mark 135 = .ok (.iload_n 3, 1) := by decide +kernel
theorem dX11_mark_136 : decode cX11_mark 136 = .ok (.iaload, 1) := by decide +kernel
theorem dX11_mark_137 : decode cX11_mark 137 = .ok (.iastore, 1) := by decide +kernel
theorem dX11_mark_138 : decode cX11_mark 138 = .ok (.iinc 3 1, 3) := by decide +kernel
theorem dX11_mark_141 : decode cX11_mark 141 = .ok (.goto (-50), 3) := by decide +kernel
theorem dX11_mark_144 : decode cX11_mark 144 = .ok (.iconst 1, 1) := by decide +kernel
theorem dX11_mark_145 : decode cX11_mark 145 = .ok (.ireturn, 1) := by decide +kernel
theorem dX11_count_0 : decode cX11_count 0 = .ok (.aload_n 0, 1) := by decide +kernel
theorem dX11_count_1 : decode cX11_count 1 = .ok (.iconst 0, 1) := by decide +kernel
theorem dX11_count_2 : decode cX11_count 2 = .ok (.putfield 1, 3) := by decide +kernel
theorem dX11_count_5 : decode cX11_count 5 = .ok (.iconst 0, 1) := by decide +kernel
theorem dX11_count_6 : decode cX11_count 6 = .ok (.istore_n 2, 1) := by decide +kernel
theorem dX11_count_7 : decode cX11_count 7 = .ok (.iload_n 1, 1) := by decide +kernel
theorem dX11_count_8 : decode cX11_count 8 = .ok (.tableswitch 244 0 11 #[64, 69, 74, 79, 84, 113, 118, 126, 162, 198, 234, 239], 64) := by decide +kernel
theorem dX11_count_72 : decode cX11_count 72 = .ok (.aload_n 0, 1) := by decide +kernel
theorem dX11_count_73 : decode cX11_count 73 = .ok (.invokevirtual 314, 3) := by decide +kernel
theorem dX11_count_76 : decode cX11_count 76 = .ok (.ireturn, 1) := by decide +kernel
theorem dX11_count_77 : decode cX11_count 77 = .ok (.aload_n 0, 1) := by decide +kernel
theorem dX11_count_78 : decode cX11_count 78 = .ok (.invokevirtual 323, 3) := by decide +kernel
theorem dX11_count_81 : decode cX11_count 81 = .ok (.ireturn, 1) := by decide +kernel
theorem dX11_count_82 : decode cX11_count 82 = .ok (.aload_n 0, 1) := by decide +kernel
theorem dX11_count_83 : decode cX11_count 83 = .ok (.invokevirtual 326, 3) := by decide +kernel
theorem dX11_count_86 : decode cX11_count 86 = .ok (.ireturn, 1) := by decide +kernel
theorem dX11_count_87 : decode cX11_count 87 = .ok (.aload_n 0, 1) := by decide +kernel
theorem dX11_count_88 : decode cX11_count 88 = .ok (.invokevirtual 365, 3) := by decide +kernel
theorem dX11_count_91 : decode cX11_count 91 = .ok (.ireturn, 1) := by decide +kernel
theorem dX11_count_92 : decode cX11_count 92 = .ok (.iconst 1, 1) := by decide +kernel
theorem dX11_count_93 : decode cX11_count 93 = .ok (.istore_n 2, 1) := by decide +kernel
theorem dX11_count_94 : decode cX11_count 94 = .ok (.iconst 0, 1) := by decide +kernel
theorem dX11_count_95 : decode cX11_count 95 = .ok (.istore_n 3, 1) := by decide +kernel
theorem dX11_count_96 : decode cX11_count 96 = .ok (.iload_n 3, 1) := by decide +kernel
theorem dX11_count_97 : decode cX11_count 97 = .ok (.aload_n 0, 1) := by decide +kernel
theorem dX11_count_98 : decode cX11_count 98 = .ok (.invokevirtual 314, 3) := by decide +kernel
theorem dX11_count_101 : decode cX11_count 101 = .ok (.if_icmp .ge 18, 3) := by decide +kernel
theorem dX11_count_104 : decode cX11_count 104 = .ok (.iload_n 2, 1) := by decide +kernel
theorem dX11_count_105 : decode cX11_count 105 = .ok (.aload_n 0, 1) := by decide +kernel
theorem dX11_count_106 : decode cX11_count 106 = .ok (.iload_n 3, 1) := by decide +kernel
theorem dX11_count_107 : decode cX11_count 107 = .ok (.iconst 0, 1) := by decide +kernel
theorem dX11_count_108 : decode cX11_count 108 = .ok (.invokevirtual 320, 3) := by decide +kernel
theorem dX11_count_111 : decode cX11_count 111 = .ok (.imul, 1) := by decide +kernel
theorem dX11_count_112 : decode cX11_count 112 = .ok (.istore_n 2, 1) := by decide +kernel
theorem dX11_count_113 : decode cX11_count 113 = .ok (.iinc 3 1, 3) := by decide +kernel
theorem dX11_count_116 : decode cX11_count 116 = .ok (.goto (-20), 3) := by decide +kernel
theorem dX11_count_119 : decode cX11_count 119 = .ok (.iload_n 2, 1) := by decide +kernel
theorem dX11_count_120 : decode cX11_count 120 = .ok (.ireturn, 1) := by decide +kernel
theorem dX11_count_121 : decode cX11_count 121 = .ok (.aload_n 0, 1) := by decide +kernel
theorem dX11_count_122 : decode cX11_count 122 = .ok (.invokevirtual 453, 3) := by decide +kernel
theorem dX11_count_125 : decode cX11_count 125 = .ok (.ireturn, 1) := by decide +kernel
theorem dX11_count_126 : decode cX11_count 126 = .ok (.aload_n 0, 1) := by decide +kernel
theorem dX11_count_127 : decode cX11_count 127 = .ok (.getfield 73, 3) := by decide +kernel
theorem dX11_count_130 : decode cX11_count 130 = .ok (.bipush 22, 2) := by decide +kernel
theorem dX11_count_132 : decode cX11_count 132 = .ok (.iaload, 1) := by decide +kernel
theorem dX11_count_133 : decode cX11_count 133 = .ok (.ireturn, 1) := by decide +kernel
theorem dX11_count_134 : decode cX11_count 134 = .ok (.iconst 0, 1) := by decide +kernel
theorem dX11_count_135 : decode cX11_count 135 = .ok (.istore_n 3, 1) := by decide +kernel
theorem dX11_count_136 : decode cX11_count 136 = .ok (.iload_n 3, 1) := by decide +kernel
theorem dX11_count_137 : decode cX11_count 137 = .ok (.bipush 16, 2) := by decide +kernel
theorem dX11_count_139 : decode cX11_count 139 = .ok (.if_icmp .ge 29, 3) := by decide +kernel
theorem dX11_count_142 : decode cX11_count 142 = .ok (.iload_n 2, 1) := by decide +kernel
theorem dX11_count_143 : decode cX11_count 143 = .ok (.aload_n 0, 1) := by decide +kernel
theorem dX11_count_144 : decode cX11_count 144 = .ok (.getfield 73, 3) := by decide +kernel
theorem dX11_count_147 : decode cX11_count 147 = .ok (.bipush 29, 2) := by decide +kernel
theorem dX11_count_149 : decode cX11_count 149 = .ok (.iload_n 3, 1) := by decide +kernel
theorem dX11_count_150 : decode cX11_count 150 = .ok (.iadd, 1) := by decide +kernel
theorem dX11_count_151 : decode cX11_count 151 = .ok (.iaload, 1) := by decide +kernel
theorem dX11_count_152 : decode cX11_count 152 = .ok (.ifCond .le 7, 3) := by decide +kernel
theorem dX11_count_155 : decode cX11_count 155 = .ok (.iconst 1, 1) := by decide +kernel
theorem dX11_count_156 : decode cX11_count 156 = .ok (.goto 4, 3) := by decide +kernel
theorem dX11_count_159 : decode cX11_count 159 = .ok (.iconst 0, 1) := by decide +kernel
theorem dX11_count_160 : decode cX11_count 160 = .ok (.iadd, 1) := by decide +kernel
theorem dX11_count_161 : decode cX11_count 161 = .ok (.istore_n 2, 1) := by decide +kernel
theorem dX11_count_162 : decode cX11_count 162 = .ok (.iinc 3 1, 3) := by decide +kernel
theorem dX11_count_165 : decode cX11_count 165 = .ok (.goto (-29), 3) := by decide +kernel
theorem dX11_count_168 : decode cX11_count 168 = .ok (.iload_n 2, 1) := by decide +kernel
theorem dX11_count_169 : decode cX11_count 169 = .ok (.ireturn, 1) := by decide +kernel
theorem dX11_count_170 : decode cX11_count 170 = .ok (.iconst 0, 1) := by decide +kernel
theorem dX11_count_171 : decode cX11_count 171 = .ok (.istore_n 3, 1) := by decide +kernel
theorem dX11_count_172 : decode cX11_count 172 = .ok (.iload_n 3, 1) := by decide +kernel
theorem dX11_count_173 : decode cX11_count 173 = .ok (.bipush 16, 2) := by decide +kernel
theorem dX11_count_175 : decode cX11_count 175 = .ok (.if_icmp .ge 29, 3) := by decide +kernel
theorem dX11_count_178 : decode cX11_count 178 = .ok (.iload_n 2, 1) := by decide +kernel
theorem dX11_count_179 : decode cX11_count 179 = .ok (.aload_n 0, 1) := by decide +kernel
theorem dX11_count_180 : decode cX11_count 180 = .ok (.getfield 73, 3) := by decide +kernel
theorem dX11_count_183 : decode cX11_count 183 = .ok (.bipush 61, 2) := by decide +kernel
theorem dX11_count_185 : decode cX11_count 185 = .ok (.iload_n 3, 1) := by decide +kernel
theorem dX11_count_186 : decode cX11_count 186 = .ok (.iadd, 1) := by decide +kernel
theorem dX11_count_187 : decode cX11_count 187 = .ok (.iaload, 1) := by decide +kernel
theorem dX11_count_188 : decode cX11_count 188 = .ok (.ifCond .le 7, 3) := by decide +kernel
theorem dX11_count_191 : decode cX11_count 191 = .ok (.iconst 1, 1) := by decide +kernel
theorem dX11_count_192 : decode cX11_count 192 = .ok (.goto 4, 3) := by decide +kernel
theorem dX11_count_195 : decode cX11_count 195 = .ok (.iconst 0, 1) := by decide +kernel
theorem dX11_count_196 : decode cX11_count 196 = .ok (.iadd, 1) := by decide +kernel
theorem dX11_count_197 : decode cX11_count 197 = .ok (.istore_n 2, 1) := by decide +kernel
theorem dX11_count_198 : decode cX11_count 198 = .ok (.iinc 3 1, 3) := by decide +kernel
theorem dX11_count_201 : decode cX11_count 201 = .ok (.goto (-29), 3) := by decide +kernel
theorem dX11_count_204 : decode cX11_count 204 = .ok (.iload_n 2, 1) := by decide +kernel
theorem dX11_count_205 : decode cX11_count 205 = .ok (.ireturn, 1) := by decide +kernel
theorem dX11_count_206 : decode cX11_count 206 = .ok (.iconst 0, 1) := by decide +kernel
theorem dX11_count_207 : decode cX11_count 207 = .ok (.istore_n 3, 1) := by decide +kernel
theorem dX11_count_208 : decode cX11_count 208 = .ok (.iload_n 3, 1) := by decide +kernel
theorem dX11_count_209 : decode cX11_count 209 = .ok (.bipush 16, 2) := by decide +kernel
theorem dX11_count_211 : decode cX11_count 211 = .ok (.if_icmp .ge 29, 3) := by decide +kernel
theorem dX11_count_214 : decode cX11_count 214 = .ok (.iload_n 2, 1) := by decide +kernel
theorem dX11_count_215 : decode cX11_count 215 = .ok (.aload_n 0, 1) := by decide +kernel
theorem dX11_count_216 : decode cX11_count 216 = .ok (.getfield 73, 3) := by decide +kernel
theorem dX11_count_219 : decode cX11_count 219 = .ok (.bipush 45, 2) := by decide +kernel
theorem dX11_count_221 : decode cX11_count 221 = .ok (.iload_n 3, 1) := by decide +kernel
theorem dX11_count_222 : decode cX11_count 222 = .ok (.iadd, 1) := by decide +kernel
theorem dX11_count_223 : decode cX11_count 223 = .ok (.iaload, 1) := by decide +kernel
theorem dX11_count_224 : decode cX11_count 224 = .ok (.ifCond .le 7, 3) := by decide +kernel
theorem dX11_count_227 : decode cX11_count 227 = .ok (.iconst 1, 1) := by decide +kernel
theorem dX11_count_228 : decode cX11_count 228 = .ok (.goto 4, 3) := by decide +kernel
theorem dX11_count_231 : decode cX11_count 231 = .ok (.iconst 0, 1) := by decide +kernel
theorem dX11_count_232 : decode cX11_count 232 = .ok (.iadd, 1) := by decide +kernel
theorem dX11_count_233 : decode cX11_count 233 = .ok (.istore_n 2, 1) := by decide +kernel
theorem dX11_count_234 : decode cX11_count 234 = .ok (.iinc 3 1, 3) := by decide +kernel
theorem dX11_count_237 : decode cX11_count 237 = .ok (.goto (-29), 3) := by decide +kernel
theorem dX11_count_240 : decode cX11_count 240 = .ok (.iload_n 2, 1) := by decide +kernel
theorem dX11_count_241 : decode cX11_count 241 = .ok (.ireturn, 1) := by decide +kernel
theorem dX11_count_242 : decode cX11_count 242 = .ok (.aload_n 0, 1) := by decide +kernel
theorem dX11_count_243 : decode cX11_count 243 = .ok (.getfield 11, 3) := by decide +kernel
theorem dX11_count_246 : decode cX11_count 246 = .ok (.ireturn, 1) := by decide +kernel
theorem dX11_count_247 : decode cX11_count 247 = .ok (.aload_n 0, 1) := by decide +kernel
theorem dX11_count_248 : decode cX11_count 248 = .ok (.getfield 234, 3) := by decide +kernel
theorem dX11_count_251 : decode cX11_count 251 = .ok (.ireturn, 1) := by decide +kernel
theorem dX11_count_252 : decode cX11_count 252 = .ok (.iconst (-1), 1) := by decide +kernel
theorem dX11_count_253 : decode cX11_count 253 = .ok (.ireturn, 1) := by decide +kernel
theorem dJ0_length_8abf5_0 : decode cJ0_length_8abf5 0 = .ok (.aload_n 0, 1) := by decide +kernel
theorem dJ0_length_8abf5_1 : decode cJ0_length_8abf5 1 = .ok (.getfield 9, 3) := by decide +kernel
theorem dJ0_length_8abf5_4 : decode cJ0_length_8abf5 4 = .ok (.arraylength, 1) := by decide +kernel
theorem dJ0_length_8abf5_5 : decode cJ0_length_8abf5 5 = .ok (.aload_n 0, 1) := by decide +kernel
theorem dJ0_length_8abf5_6 : decode cJ0_length_8abf5 6 = .ok (.invokevirtual 335, 3) := by decide +kernel
theorem dJ0_length_8abf5_9 : decode cJ0_length_8abf5 9 = .ok (.ishr, 1) := by decide +kernel
theorem dJ0_length_8abf5_10 : decode cJ0_length_8abf5 10 = .ok (.ireturn, 1) := by decide +kernel
theorem dJ0_charAt_5068e_0 : decode cJ0_charAt_5068e 0 = .ok (.aload_n 0, 1) := by decide +kernel
theorem dJ0_charAt_5068e_1 : decode cJ0_charAt_5068e 1 = .ok (.invokevirtual 492, 3) := by decide +kernel
theorem dJ0_charAt_5068e_4 : decode cJ0_charAt_5068e 4 = .ok (.ifCond .eq 12, 3) := by decide +kernel
theorem dJ0_charAt_5068e_7 : decode cJ0_charAt_5068e 7 = .ok (.aload_n 0, 1) := by decide +kernel
theorem dJ0_charAt_5068e_8 : decode cJ0_charAt_5068e 8 = .ok (.getfield 9, 3) := by decide +kernel
theorem dJ0_charAt_5068e_11 : decode cJ0_charAt_5068e 11 = .ok (.iload_n 1, 1) := by decide +kernel
theorem dJ0_charAt_5068e_12 : decode cJ0_charAt_5068e 12 = .ok (.invokestatic 495, 3) := by decide +kernel
theorem dJ0_charAt_5068e_15 : decode cJ0_charAt_5068e 15 = .ok (.ireturn, 1) := by decide +kernel
theorem dJ0_charAt_5068e_16 : decode cJ0_charAt_5068e 16 = .ok (.aload_n 0, 1) := by decide +kernel
theorem dJ0_charAt_5068e_17 : decode cJ0_charAt_5068e 17 = .ok (.getfield 9, 3) := by decide +kernel
theorem dJ0_charAt_5068e_20 : decode cJ0_charAt_5068e 20 = .ok (.iload_n 1, 1) := by decide +kernel
theorem dJ0_charAt_5068e_21 : decode cJ0_charAt_5068e 21 = .ok (.invokestatic 498, 3) := by decide +kernel
theorem dJ0_charAt_5068e_24 : decode cJ0_charAt_5068e 24 = .ok (.ireturn, 1) := by decide +kernel
theorem dJ0_indexOf_0f7a4_0 : decode cJ0_indexOf_0f7a4 0 = .ok (.aload_n 0, 1) := by decide +kernel
theorem dJ0_indexOf_0f7a4_1 : decode cJ0_indexOf_0f7a4 1 = .ok (.iload_n 1, 1) := by decide +kernel
theorem dJ0_indexOf_0f7a4_2 : decode cJ0_indexOf_0f7a4 2 = .ok (.iconst 0, 1) := by decide +kernel
theorem dJ0_indexOf_0f7a4_3 : decode cJ0_indexOf_0f7a4 3 = .ok (.invokevirtual 633, 3) := by decide +kernel
theorem dJ0_indexOf_0f7a4_6 : decode cJ0_indexOf_0f7a4 6 = .ok (.ireturn, 1) := by decide +kernel
theorem dJ0_indexOf_7cf53_0 : decode cJ0_indexOf_7cf53 0 = .ok (.aload_n 0, 1) := by decide +kernel
theorem dJ0_indexOf_7cf53_1 : decode cJ0_indexOf_7cf53 1 = .ok (.invokevirtual 492, 3) := by decide +kernel
theorem dJ0_indexOf_7cf53_4 : decode cJ0_indexOf_7cf53 4 = .ok (.ifCond .eq 19, 3) := by decide +kernel
theorem dJ0_indexOf_7cf53_7 : decode cJ0_indexOf_7cf53 7 = .ok (.aload_n 0, 1) := by decide +kernel
theorem dJ0_indexOf_7cf53_8 : decode cJ0_indexOf_7cf53 8 = .ok (.getfield 9, 3) := by decide +kernel
theorem dJ0_indexOf_7cf53_11 : decode cJ0_indexOf_7cf53 11 = .ok (.iload_n 1, 1) := by decide +kernel
theorem dJ0_indexOf_7cf53_12 : decode cJ0_indexOf_7cf53 12 = .ok (.iload_n 2, 1) := by decide +kernel
theorem dJ0_indexOf_7cf53_13 : decode cJ0_indexOf_7cf53 13 = .ok (.aload_n 0, 1) := by decide +kernel
theorem dJ0_indexOf_7cf53_14 : decode cJ0_indexOf_7cf53 14 = .ok (.invokevirtual 505, 3) := by decide +kernel
theorem dJ0_indexOf_7cf53_17 : decode cJ0_indexOf_7cf53 17 = .ok (.invokestatic 637, 3) := by decide +kernel
theorem dJ0_indexOf_7cf53_20 : decode cJ0_indexOf_7cf53 20 = .ok (.goto 16, 3) := by decide +kernel
theorem dJ0_indexOf_7cf53_23 : decode cJ0_indexOf_7cf53 23 = .ok (.aload_n 0, 1) := by decide +kernel
theorem dJ0_indexOf_7cf53_24 : decode cJ0_indexOf_7cf53 24 = .ok (.getfield 9, 3) := by decide +kernel
theorem dJ0_indexOf_7cf53_27 : decode cJ0_indexOf_7cf53 27 = .ok (.iload_n 1, 1) := by decide +kernel
theorem dJ0_indexOf_7cf53_28 : decode cJ0_indexOf_7cf53 28 = .ok (.iload_n 2, 1) := by decide +kernel
theorem dJ0_indexOf_7cf53_29 : decode cJ0_indexOf_7cf53 29 = .ok (.aload_n 0, 1) := by decide +kernel
theorem dJ0_indexOf_7cf53_30 : decode cJ0_indexOf_7cf53 30 = .ok (.invokevirtual 505, 3) := by decide +kernel
theorem dJ0_indexOf_7cf53_33 : decode cJ0_indexOf_7cf53 33 = .ok (.invokestatic 640, 3) := by decide +kernel
theorem dJ0_indexOf_7cf53_36 : decode cJ0_indexOf_7cf53 36 = .ok (.ireturn, 1) := by decide +kernel
theorem dJ0_coder_7d493_0 : decode cJ0_coder_7d493 0 = .ok (.getstatic 38, 3) := by decide +kernel
theorem dJ0_coder_7d493_3 : decode cJ0_coder_7d493 3 = .ok (.ifCond .eq 10, 3) := by decide +kernel
theorem dJ0_coder_7d493_6 : decode cJ0_coder_7d493 6 = .ok (.aload_n 0, 1) := by decide +kernel
theorem dJ0_coder_7d493_7 : decode cJ0_coder_7d493 7 = .ok (.getfield 15, 3) := by decide +kernel
theorem dJ0_coder_7d493_10 : decode cJ0_coder_7d493 10 = .ok (.goto 4, 3) := by decide +kernel
theorem dJ0_coder_7d493_13 : decode cJ0_coder_7d493 13 = .ok (.iconst 1, 1) := by decide +kernel
theorem dJ0_coder_7d493_14 : decode cJ0_coder_7d493 14 = .ok (.ireturn, 1) := by decide +kernel
theorem dJ0_isLatin1_aae02_0 : decode cJ0_isLatin1_aae02 0 = .ok (.getstatic 38, 3) := by decide +kernel
theorem dJ0_isLatin1_aae02_3 : decode cJ0_isLatin1_aae02 3 = .ok (.ifCond .eq 14, 3) := by decide +kernel
theorem dJ0_isLatin1_aae02_6 : decode cJ0_isLatin1_aae02 6 = .ok (.aload_n 0, 1) := by decide +kernel
theorem dJ0_isLatin1_aae02_7 : decode cJ0_isLatin1_aae02 7 = .ok (.getfield 15, 3) := by decide +kernel
theorem dJ0_isLatin1_aae02_10 : decode cJ0_isLatin1_aae02 10 = .ok (.ifCond .ne 7, 3) := by decide +kernel
theorem dJ0_isLatin1_aae02_13 : decode cJ0_isLatin1_aae02 13 = .ok (.iconst 1, 1) := by decide +kernel
theorem dJ0_isLatin1_aae02_14 : decode cJ0_isLatin1_aae02 14 = .ok (.goto 4, 3) := by decide +kernel
theorem dJ0_isLatin1_aae02_17 : decode cJ0_isLatin1_aae02 17 = .ok (.iconst 0, 1) := by decide +kernel
theorem dJ0_isLatin1_aae02_18 : decode cJ0_isLatin1_aae02 18 = .ok (.ireturn, 1) := by decide +kernel
theorem dJ0_checkIndex_df160_0 : decode cJ0_checkIndex_df160 0 = .ok (.iload_n 0, 1) := by decide +kernel
theorem dJ0_checkIndex_df160_1 : decode cJ0_checkIndex_df160 1 = .ok (.iload_n 1, 1) := by decide +kernel
theorem dJ0_checkIndex_df160_2 : decode cJ0_checkIndex_df160 2 = .ok (.getstatic 1053, 3) := by decide +kernel
theorem dJ0_checkIndex_df160_5 : decode cJ0_checkIndex_df160 5 = .ok (.invokestatic 1059, 3) := by decide +kernel
theorem dJ0_checkIndex_df160_8 : decode cJ0_checkIndex_df160 8 = .ok (.pop, 1) := by decide +kernel
theorem dJ0_checkIndex_df160_9 : decode cJ0_checkIndex_df160 9 = .ok (.return_, 1) := by decide +kernel
theorem dJ0_checkBoundsBeginEnd_23922_0 : decode cJ0_checkBoundsBeginEnd_23922 0 = .ok (.iload_n 0, 1) := by decide +kernel
theorem dJ0_checkBoundsBeginEnd_23922_1 : decode cJ0_checkBoundsBeginEnd_23922 1 = .ok (.iload_n 1, 1) := by decide +kernel
theorem dJ0_checkBoundsBeginEnd_23922_2 : decode cJ0_checkBoundsBeginEnd_23922 2 = .ok (.iload_n 2, 1) := by decide +kernel
theorem dJ0_checkBoundsBeginEnd_23922_3 : decode cJ0_checkBoundsBeginEnd_23922 3 = .ok (.getstatic 1053, 3) := by decide +kernel
theorem dJ0_checkBoundsBeginEnd_23922_6 : decode cJ0_checkBoundsBeginEnd_23922 6 = .ok (.invokestatic 1062, 3) := by decide +kernel
theorem dJ0_checkBoundsBeginEnd_23922_9 : decode cJ0_checkBoundsBeginEnd_23922 9 = .ok (.pop, 1) := by decide +kernel
theorem dJ0_checkBoundsBeginEnd_23922_10 : decode cJ0_checkBoundsBeginEnd_23922 10 = .ok (.return_, 1) := by decide +kernel
theorem dJ1_charAt_3b067_0 : decode cJ1_charAt_3b067 0 = .ok (.iload_n 1, 1) := by decide +kernel
theorem dJ1_charAt_3b067_1 : decode cJ1_charAt_3b067 1 = .ok (.aload_n 0, 1) := by decide +kernel
theorem dJ1_charAt_3b067_2 : decode cJ1_charAt_3b067 2 = .ok (.arraylength, 1) := by decide +kernel
theorem dJ1_charAt_3b067_3 : decode cJ1_charAt_3b067 3 = .ok (.invokestatic 9, 3) := by decide +kernel
theorem dJ1_charAt_3b067_6 : decode cJ1_charAt_3b067 6 = .ok (.aload_n 0, 1) := by decide +kernel
theorem dJ1_charAt_3b067_7 : decode cJ1_charAt_3b067 7 = .ok (.iload_n 1, 1) := by decide +kernel
theorem dJ1_charAt_3b067_8 : decode cJ1_charAt_3b067 8 = .ok (.baload, 1) := by decide +kernel
theorem dJ1_charAt_3b067_9 : decode cJ1_charAt_3b067 9 = .ok (.sipush 255, 3) := by decide +kernel
theorem dJ1_charAt_3b067_12 : decode cJ1_charAt_3b067 12 = .ok (.iand, 1) := by decide +kernel
theorem dJ1_charAt_3b067_13 : decode cJ1_charAt_3b067 13 = .ok (.i2c, 1) := by decide +kernel
theorem dJ1_charAt_3b067_14 : decode cJ1_charAt_3b067 14 = .ok (.ireturn, 1) := by decide +kernel
theorem dJ1_canEncode_9a6ad_0 : decode cJ1_canEncode_9a6ad 0 = .ok (.iload_n 0, 1) := by decide +kernel
theorem dJ1_canEncode_9a6ad_1 : decode cJ1_canEncode_9a6ad 1 = .ok (.ifCond .lt 14, 3) := by decide +kernel
theorem dJ1_canEncode_9a6ad_4 : decode cJ1_canEncode_9a6ad 4 = .ok (.iload_n 0, 1) := by decide +kernel
theorem dJ1_canEncode_9a6ad_5 : decode cJ1_canEncode_9a6ad 5 = .ok (.sipush 255, 3) := by decide +kernel
theorem dJ1_canEncode_9a6ad_8 : decode cJ1_canEncode_9a6ad 8 = .ok (.if_icmp .gt 7, 3) := by decide +kernel
theorem dJ1_canEncode_9a6ad_11 : decode cJ1_canEncode_9a6ad 11 = .ok (.iconst 1, 1) := by decide +kernel
theorem dJ1_canEncode_9a6ad_12 : decode cJ1_canEncode_9a6ad 12 = .ok (.goto 4, 3) := by decide +kernel
theorem dJ1_canEncode_9a6ad_15 : decode cJ1_canEncode_9a6ad 15 = .ok (.iconst 0, 1) := by decide +kernel
theorem dJ1_canEncode_9a6ad_16 : decode cJ1_canEncode_9a6ad 16 = .ok (.ireturn, 1) := by decide +kernel
theorem dJ1_indexOf_4cfef_0 : decode cJ1_indexOf_4cfef 0 = .ok (.iload_n 1, 1) := by decide +kernel
theorem dJ1_indexOf_4cfef_1 : decode cJ1_indexOf_4cfef 1 = .ok (.invokestatic 88, 3) := by decide +kernel
theorem dJ1_indexOf_4cfef_4 : decode cJ1_indexOf_4cfef 4 = .ok (.ifCond .ne 5, 3) := by decide +kernel
theorem dJ1_indexOf_4cfef_7 : decode cJ1_indexOf_4cfef 7 = .ok (.iconst (-1), 1) := by decide +kernel
theorem dJ1_indexOf_4cfef_8 : decode cJ1_indexOf_4cfef 8 = .ok (.ireturn, 1) := by decide +kernel
theorem dJ1_indexOf_4cfef_9 : decode cJ1_indexOf_4cfef 9 = .ok (.iload_n 2, 1) := by decide +kernel
theorem dJ1_indexOf_4cfef_10 : decode cJ1_indexOf_4cfef 10 = .ok (.iconst 0, 1) := by decide +kernel
theorem dJ1_indexOf_4cfef_11 : decode cJ1_indexOf_4cfef 11 = .ok (.invokestatic 92, 3) := by decide +kernel
theorem dJ1_indexOf_4cfef_14 : decode cJ1_indexOf_4cfef 14 = .ok (.istore_n 2, 1) := by decide +kernel
theorem dJ1_indexOf_4cfef_15 : decode cJ1_indexOf_4cfef 15 = .ok (.iload_n 3, 1) := by decide +kernel
theorem dJ1_indexOf_4cfef_16 : decode cJ1_indexOf_4cfef 16 = .ok (.aload_n 0, 1) := by decide +kernel
theorem dJ1_indexOf_4cfef_17 : decode cJ1_indexOf_4cfef 17 = .ok (.arraylength, 1) := by decide +kernel
theorem dJ1_indexOf_4cfef_18 : decode cJ1_indexOf_4cfef 18 = .ok (.invokestatic 38, 3) := by decide +kernel
theorem dJ1_indexOf_4cfef_21 : decode cJ1_indexOf_4cfef 21 = .ok (.istore_n 3, 1) := by decide +kernel
theorem dJ1_indexOf_4cfef_22 : decode cJ1_indexOf_4cfef 22 = .ok (.iload_n 2, 1) := by decide +kernel
theorem dJ1_indexOf_4cfef_23 : decode cJ1_indexOf_4cfef 23 = .ok (.iload_n 3, 1) := by decide +kernel
theorem dJ1_indexOf_4cfef_24 : decode cJ1_indexOf_4cfef 24 = .ok (.if_icmp .lt 5, 3) := by decide +kernel
theorem dJ1_indexOf_4cfef_27 : decode cJ1_indexOf_4cfef 27 = .ok (.iconst (-1), 1) := by decide +kernel
theorem dJ1_indexOf_4cfef_28 : decode cJ1_indexOf_4cfef 28 = .ok (.ireturn, 1) := by decide +kernel
theorem dJ1_indexOf_4cfef_29 : decode cJ1_indexOf_4cfef 29 = .ok (.aload_n 0, 1) := by decide +kernel
theorem dJ1_indexOf_4cfef_30 : decode cJ1_indexOf_4cfef 30 = .ok (.iload_n 1, 1) := by decide +kernel
theorem dJ1_indexOf_4cfef_31 : decode cJ1_indexOf_4cfef 31 = .ok (.iload_n 2, 1) := by decide +kernel
theorem dJ1_indexOf_4cfef_32 : decode cJ1_indexOf_4cfef 32 = .ok (.iload_n 3, 1) := by decide +kernel
theorem dJ1_indexOf_4cfef_33 : decode cJ1_indexOf_4cfef 33 = .ok (.invokestatic 95, 3) := by decide +kernel
theorem dJ1_indexOf_4cfef_36 : decode cJ1_indexOf_4cfef 36 = .ok (.ireturn, 1) := by decide +kernel
theorem dJ1_indexOfChar_4cfef_0 : decode cJ1_indexOfChar_4cfef 0 = .ok (.iload_n 1, 1) := by decide +kernel
theorem dJ1_indexOfChar_4cfef_1 : decode cJ1_indexOfChar_4cfef 1 = .ok (.i2b, 1) := by decide +kernel
theorem dJ1_indexOfChar_4cfef_2 : decode cJ1_indexOfChar_4cfef 2 = .ok (.istore 4, 2) := by decide +kernel
theorem dJ1_indexOfChar_4cfef_4 : decode cJ1_indexOfChar_4cfef 4 = .ok (.iload_n 2, 1) := by decide +kernel
theorem dJ1_indexOfChar_4cfef_5 : decode cJ1_indexOfChar_4cfef 5 = .ok (.istore 5, 2) := by decide +kernel
theorem dJ1_indexOfChar_4cfef_7 : decode cJ1_indexOfChar_4cfef 7 = .ok (.iload 5, 2) := by decide +kernel
theorem dJ1_indexOfChar_4cfef_9 : decode cJ1_indexOfChar_4cfef 9 = .ok (.iload_n 3, 1) := by decide +kernel
theorem dJ1_indexOfChar_4cfef_10 : decode cJ1_indexOfChar_4cfef 10 = .ok (.if_icmp .ge 21, 3) := by decide +kernel
theorem dJ1_indexOfChar_4cfef_13 : decode cJ1_indexOfChar_4cfef 13 = .ok (.aload_n 0, 1) := by decide +kernel
theorem dJ1_indexOfChar_4cfef_14 : decode cJ1_indexOfChar_4cfef 14 = .ok (.iload 5, 2) := by decide +kernel
theorem dJ1_indexOfChar_4cfef_16 : decode cJ1_indexOfChar_4cfef 16 = .ok (.baload, 1) := by decide +kernel
theorem dJ1_indexOfChar_4cfef_17 : decode cJ1_indexOfChar_4cfef 17 = .ok (.iload 4, 2) := by decide +kernel
theorem dJ1_indexOfChar_4cfef_19 : decode cJ1_indexOfChar_4cfef 19 = .ok (.if_icmp .ne 6, 3) := by decide +kernel
theorem dJ1_indexOfChar_4cfef_22 : decode cJ1_indexOfChar_4cfef 22 = .ok (.iload 5, 2) := by decide +kernel
theorem dJ1_indexOfChar_4cfef_24 : decode cJ1_indexOfChar_4cfef 24 = .ok (.ireturn, 1) := by decide +kernel
theorem dJ1_indexOfChar_4cfef_25 : decode cJ1_indexOfChar_4cfef 25 = .ok (.iinc 5 1, 3) := by decide +kernel
theorem dJ1_indexOfChar_4cfef_28 : decode cJ1_indexOfChar_4cfef 28 = .ok (.goto (-21), 3) := by decide +kernel
theorem dJ1_indexOfChar_4cfef_31 : decode cJ1_indexOfChar_4cfef 31 = .ok (.iconst (-1), 1) := by decide +kernel
theorem dJ1_indexOfChar_4cfef_32 : decode cJ1_indexOfChar_4cfef 32 = .ok (.ireturn, 1) := by decide +kernel
theorem dJ2_getChar_3b067_0 : decode cJ2_getChar_3b067 0 = .ok (.getstatic 44, 3) := by decide +kernel
theorem dJ2_getChar_3b067_3 : decode cJ2_getChar_3b067 3 = .ok (.ifCond .ne 25, 3) := by decide +kernel
theorem dJ2_getChar_3b067_6 : decode cJ2_getChar_3b067 6 = .ok (.iload_n 1, 1) := by decide +kernel
theorem dJ2_getChar_3b067_7 : decode cJ2_getChar_3b067 7 = .ok (.ifCond .lt 11, 3) := by decide +kernel
theorem dJ2_getChar_3b067_10 : decode cJ2_getChar_3b067 10 = .ok (.iload_n 1, 1) := by decide +kernel
theorem dJ2_getChar_3b067_11 : decode cJ2_getChar_3b067 11 = .ok (.aload_n 0, 1) := by decide +kernel
theorem dJ2_getChar_3b067_12 : decode cJ2_getChar_3b067 12 = .ok (.invokestatic 48, 3) := by decide +kernel
theorem dJ2_getChar_3b067_15 : decode cJ2_getChar_3b067 15 = .ok (.if_icmp .lt 13, 3) := by decide +kernel
theorem dJ2_getChar_3b067_18 : decode cJ2_getChar_3b067 18 = .ok (.new 52, 3) := by decide +kernel
theorem dJ2_getChar_3b067_21 : decode cJ2_getChar_3b067 21 = .ok (.dup, 1) := by decide +kernel
theorem dJ2_getChar_3b067_22 : decode cJ2_getChar_3b067 22 = .ok (.ldc 54, 2) := by decide +kernel
theorem dJ2_getChar_3b067_24 : decode cJ2_getChar_3b067 24 = .ok (.invokespecial 56, 3) := by decide +kernel
theorem dJ2_getChar_3b067_27 : decode cJ2_getChar_3b067 27 = .ok (.athrow, 1) := by decide +kernel
theorem dJ2_getChar_3b067_28 : decode cJ2_getChar_3b067 28 = .ok (.iload_n 1, 1) := by decide +kernel
theorem dJ2_getChar_3b067_29 : decode cJ2_getChar_3b067 29 = .ok (.iconst 1, 1) := by decide +kernel
theorem dJ2_getChar_3b067_30 : decode cJ2_getChar_3b067 30 = .ok (.ishl, 1) := by decide +kernel
theorem dJ2_getChar_3b067_31 : decode cJ2_getChar_3b067 31 = .ok (.istore_n 1, 1) := by decide +kernel
theorem dJ2_getChar_3b067_32 : decode cJ2_getChar_3b067 32 = .ok (.aload_n 0, 1) := by decide +kernel
theorem dJ2_getChar_3b067_33 : decode cJ2_getChar_3b067 33 = .ok (.iload_n 1, 1) := by decide +kernel
theorem dJ2_getChar_3b067_34 : decode cJ2_getChar_3b067 34 = .ok (.iinc 1 1, 3) := by decide +kernel
theorem dJ2_getChar_3b067_37 : decode cJ2_getChar_3b067 37 = .ok (.baload, 1) := by decide +kernel
theorem dJ2_getChar_3b067_38 : decode cJ2_getChar_3b067 38 = .ok (.sipush 255, 3) := by decide +kernel
theorem dJ2_getChar_3b067_41 : decode cJ2_getChar_3b067 41 = .ok (.iand, 1) := by decide +kernel
theorem dJ2_getChar_3b067_42 : decode cJ2_getChar_3b067 42 = .ok (.getstatic 59, 3) := by decide +kernel
theorem dJ2_getChar_3b067_45 : decode cJ2_getChar_3b067 45 = .ok (.ishl, 1) := by decide +kernel
theorem dJ2_getChar_3b067_46 : decode cJ2_getChar_3b067 46 = .ok (.aload_n 0, 1) := by decide +kernel
theorem dJ2_getChar_3b067_47 : decode cJ2_getChar_3b067 47 = .ok (.iload_n 1, 1) := by decide +kernel
theorem dJ2_getChar_3b067_48 : decode cJ2_getChar_3b067 48 = .ok (.baload, 1) := by decide +kernel
theorem dJ2_getChar_3b067_49 : decode cJ2_getChar_3b067 49 = .ok (.sipush 255, 3) := by decide +kernel
theorem dJ2_getChar_3b067_52 : decode cJ2_getChar_3b067 52 = .ok (.iand, 1) := by decide +kernel
theorem dJ2_getChar_3b067_53 : decode cJ2_getChar_3b067 53 = .ok (.getstatic 63, 3) := by decide +kernel
theorem dJ2_getChar_3b067_56 : decode cJ2_getChar_3b067 56 = .ok (.ishl, 1) := by decide +kernel
theorem dJ2_getChar_3b067_57 : decode cJ2_getChar_3b067 57 = .ok (.ior, 1) := by decide +kernel
theorem dJ2_getChar_3b067_58 : decode cJ2_getChar_3b067 58 = .ok (.i2c, 1) := by decide +kernel
theorem dJ2_getChar_3b067_59 : decode cJ2_getChar_3b067 59 = .ok (.ireturn, 1) := by decide +kernel
theorem dJ2_length_9d52b_0 : decode cJ2_length_9d52b 0 = .ok (.aload_n 0, 1) := by decide +kernel
theorem dJ2_length_9d52b_1 : decode cJ2_length_9d52b 1 = .ok (.arraylength, 1) := by decide +kernel
theorem dJ2_length_9d52b_2 : decode cJ2_length_9d52b 2 = .ok (.iconst 1, 1) := by decide +kernel
theorem dJ2_length_9d52b_3 : decode cJ2_length_9d52b 3 = .ok (.ishr, 1) := by decide +kernel
theorem dJ2_length_9d52b_4 : decode cJ2_length_9d52b 4 = .ok (.ireturn, 1) := by decide +kernel
theorem dJ2_indexOf_4cfef_0 : decode cJ2_indexOf_4cfef 0 = .ok (.iload_n 2, 1) := by decide +kernel
theorem dJ2_indexOf_4cfef_1 : decode cJ2_indexOf_4cfef 1 = .ok (.iconst 0, 1) := by decide +kernel
theorem dJ2_indexOf_4cfef_2 : decode cJ2_indexOf_4cfef 2 = .ok (.invokestatic 224, 3) := by decide +kernel
theorem dJ2_indexOf_4cfef_5 : decode cJ2_indexOf_4cfef 5 = .ok (.istore_n 2, 1) := by decide +kernel
theorem dJ2_indexOf_4cfef_6 : decode cJ2_indexOf_4cfef 6 = .ok (.iload_n 3, 1) := by decide +kernel
theorem dJ2_indexOf_4cfef_7 : decode cJ2_indexOf_4cfef 7 = .ok (.aload_n 0, 1) := by decide +kernel
theorem dJ2_indexOf_4cfef_8 : decode cJ2_indexOf_4cfef 8 = .ok (.arraylength, 1) := by decide +kernel
theorem dJ2_indexOf_4cfef_9 : decode cJ2_indexOf_4cfef 9 = .ok (.iconst 1, 1) := by decide +kernel
theorem dJ2_indexOf_4cfef_10 : decode cJ2_indexOf_4cfef 10 = .ok (.ishr, 1) := by decide +kernel
theorem dJ2_indexOf_4cfef_11 : decode cJ2_indexOf_4cfef 11 = .ok (.invokestatic 183, 3) := by decide +kernel
theorem dJ2_indexOf_4cfef_14 : decode cJ2_indexOf_4cfef 14 = .ok (.istore_n 3, 1) := by decide +kernel
theorem dJ2_indexOf_4cfef_15 : decode cJ2_indexOf_4cfef 15 = .ok (.iload_n 2, 1) := by decide +kernel
theorem dJ2_indexOf_4cfef_16 : decode cJ2_indexOf_4cfef 16 = .ok (.iload_n 3, 1) := by decide +kernel
theorem dJ2_indexOf_4cfef_17 : decode cJ2_indexOf_4cfef 17 = .ok (.if_icmp .lt 5, 3) := by decide +kernel
theorem dJ2_indexOf_4cfef_20 : decode cJ2_indexOf_4cfef 20 = .ok (.iconst (-1), 1) := by decide +kernel
theorem dJ2_indexOf_4cfef_21 : decode cJ2_indexOf_4cfef 21 = .ok (.ireturn, 1) := by decide +kernel
theorem dJ2_indexOf_4cfef_22 : decode cJ2_indexOf_4cfef 22 = .ok (.iload_n 1, 1) := by decide +kernel
theorem dJ2_indexOf_4cfef_23 : decode cJ2_indexOf_4cfef 23 = .ok (.ldc 227, 2) := by decide +kernel
theorem dJ2_indexOf_4cfef_25 : decode cJ2_indexOf_4cfef 25 = .ok (.if_icmp .ge 11, 3) := by decide +kernel
theorem dJ2_indexOf_4cfef_28 : decode cJ2_indexOf_4cfef 28 = .ok (.aload_n 0, 1) := by decide +kernel
theorem dJ2_indexOf_4cfef_29 : decode cJ2_indexOf_4cfef 29 = .ok (.iload_n 1, 1) := by decide +kernel
theorem dJ2_indexOf_4cfef_30 : decode cJ2_indexOf_4cfef 30 = .ok (.iload_n 2, 1) := by decide +kernel
theorem dJ2_indexOf_4cfef_31 : decode cJ2_indexOf_4cfef 31 = .ok (.iload_n 3, 1) := by decide +kernel
theorem dJ2_indexOf_4cfef_32 : decode cJ2_indexOf_4cfef 32 = .ok (.invokestatic 228, 3) := by decide +kernel
theorem dJ2_indexOf_4cfef_35 : decode cJ2_indexOf_4cfef 35 = .ok (.ireturn, 1) := by decide +kernel
theorem dJ2_indexOf_4cfef_36 : decode cJ2_indexOf_4cfef 36 = .ok (.aload_n 0, 1) := by decide +kernel
theorem dJ2_indexOf_4cfef_37 : decode cJ2_indexOf_4cfef 37 = .ok (.iload_n 1, 1) := by decide +kernel
theorem dJ2_indexOf_4cfef_38 : decode cJ2_indexOf_4cfef 38 = .ok (.iload_n 2, 1) := by decide +kernel
theorem dJ2_indexOf_4cfef_39 : decode cJ2_indexOf_4cfef 39 = .ok (.iload_n 3, 1) := by decide +kernel
theorem dJ2_indexOf_4cfef_40 : decode cJ2_indexOf_4cfef 40 = .ok (.invokestatic 232, 3) := by decide +kernel
theorem dJ2_indexOf_4cfef_43 : decode cJ2_indexOf_4cfef 43 = .ok (.ireturn, 1) := by decide +kernel
theorem dJ2_indexOfChar_4cfef_0 : decode cJ2_indexOfChar_4cfef 0 = .ok (.iload_n 2, 1) := by decide +kernel
theorem dJ2_indexOfChar_4cfef_1 : decode cJ2_indexOfChar_4cfef 1 = .ok (.iload_n 3, 1) := by decide +kernel
theorem dJ2_indexOfChar_4cfef_2 : decode cJ2_indexOfChar_4cfef 2 = .ok (.aload_n 0, 1) := by decide +kernel
theorem dJ2_indexOfChar_4cfef_3 : decode cJ2_indexOfChar_4cfef 3 = .ok (.invokestatic 96, 3) := by decide +kernel
theorem dJ2_indexOfChar_4cfef_6 : decode cJ2_indexOfChar_4cfef 6 = .ok (.aload_n 0, 1) := by decide +kernel
theorem dJ2_indexOfChar_4cfef_7 : decode cJ2_indexOfChar_4cfef 7 = .ok (.iload_n 1, 1) := by decide +kernel
theorem dJ2_indexOfChar_4cfef_8 : decode cJ2_indexOfChar_4cfef 8 = .ok (.iload_n 2, 1) := by decide +kernel
theorem dJ2_indexOfChar_4cfef_9 : decode cJ2_indexOfChar_4cfef 9 = .ok (.iload_n 3, 1) := by decide +kernel
theorem dJ2_indexOfChar_4cfef_10 : decode cJ2_indexOfChar_4cfef 10 = .ok (.invokestatic 244, 3) := by decide +kernel
theorem dJ2_indexOfChar_4cfef_13 : decode cJ2_indexOfChar_4cfef 13 = .ok (.ireturn, 1) := by decide +kernel
theorem dJ2_indexOfCharUnsafe_4cfef_0 : decode cJ2_indexOfCharUnsafe_4cfef 0 = .ok (.iload_n 2, 1) := by decide +kernel
theorem dJ2_indexOfCharUnsafe_4cfef_1 : decode cJ2_indexOfCharUnsafe_4cfef 1 = .ok (.istore 4, 2) := by decide +kernel
theorem dJ2_indexOfCharUnsafe_4cfef_3 : decode cJ2_indexOfCharUnsafe_4cfef 3 = .ok (.iload 4, 2) := by decide +kernel
theorem dJ2_indexOfCharUnsafe_4cfef_5 : decode cJ2_indexOfCharUnsafe_4cfef 5 = .ok (.iload_n 3, 1) := by decide +kernel
theorem dJ2_indexOfCharUnsafe_4cfef_6 : decode cJ2_indexOfCharUnsafe_4cfef 6 = .ok (.if_icmp .ge 22, 3) := by decide +kernel
theorem dJ2_indexOfCharUnsafe_4cfef_9 : decode cJ2_indexOfCharUnsafe_4cfef 9 = .ok (.aload_n 0, 1) := by decide +kernel
theorem dJ2_indexOfCharUnsafe_4cfef_10 : decode cJ2_indexOfCharUnsafe_4cfef 10 = .ok (.iload 4, 2) := by decide +kernel
theorem dJ2_indexOfCharUnsafe_4cfef_12 : decode cJ2_indexOfCharUnsafe_4cfef 12 = .ok (.invokestatic 71, 3) := by decide +kernel
theorem dJ2_indexOfCharUnsafe_4cfef_15 : decode cJ2_indexOfCharUnsafe_4cfef 15 = .ok (.iload_n 1, 1) := by decide +kernel
theorem dJ2_indexOfCharUnsafe_4cfef_16 : decode cJ2_indexOfCharUnsafe_4cfef 16 = .ok (.if_icmp .ne 6, 3) := by decide +kernel
theorem dJ2_indexOfCharUnsafe_4cfef_19 : decode cJ2_indexOfCharUnsafe_4cfef 19 = .ok (.iload 4, 2) := by decide +kernel
theorem dJ2_indexOfCharUnsafe_4cfef_21 : decode cJ2_indexOfCharUnsafe_4cfef 21 = .ok (.ireturn, 1) := by decide +kernel
theorem dJ2_indexOfCharUnsafe_4cfef_22 : decode cJ2_indexOfCharUnsafe_4cfef 22 = .ok (.iinc 4 1, 3) := by decide +kernel
theorem dJ2_indexOfCharUnsafe_4cfef_25 : decode cJ2_indexOfCharUnsafe_4cfef 25 = .ok (.goto (-22), 3) := by decide +kernel
theorem dJ2_indexOfCharUnsafe_4cfef_28 : decode cJ2_indexOfCharUnsafe_4cfef 28 = .ok (.iconst (-1), 1) := by decide +kernel
theorem dJ2_indexOfCharUnsafe_4cfef_29 : decode cJ2_indexOfCharUnsafe_4cfef 29 = .ok (.ireturn, 1) := by decide +kernel
theorem dJ2_indexOfSupplementary_4cfef_0 : decode cJ2_indexOfSupplementary_4cfef 0 = .ok (.iload_n 1, 1) := by decide +kernel
theorem dJ2_indexOfSupplementary_4cfef_1 : decode cJ2_indexOfSupplementary_4cfef 1 = .ok (.invokestatic 164, 3) := by decide +kernel
theorem dJ2_indexOfSupplementary_4cfef_4 : decode cJ2_indexOfSupplementary_4cfef 4 = .ok (.ifCond .eq 65, 3) := by decide +kernel
theorem dJ2_indexOfSupplementary_4cfef_7 : decode cJ2_indexOfSupplementary_4cfef 7 = .ok (.iload_n 1, 1) := by decide +kernel
theorem dJ2_indexOfSupplementary_4cfef_8 : decode cJ2_indexOfSupplementary_4cfef 8 = .ok (.invokestatic 157, 3) := by decide +kernel
theorem dJ2_indexOfSupplementary_4cfef_11 : decode cJ2_indexOfSupplementary_4cfef 11 = .ok (.istore 4, 2) := by decide +kernel
theorem dJ2_indexOfSupplementary_4cfef_13 : decode cJ2_indexOfSupplementary_4cfef 13 = .ok (.iload_n 1, 1) := by decide +kernel
theorem dJ2_indexOfSupplementary_4cfef_14 : decode cJ2_indexOfSupplementary_4cfef 14 = .ok (.invokestatic 161, 3) := by decide +kernel
theorem dJ2_indexOfSupplementary_4cfef_17 : decode cJ2_indexOfSupplementary_4cfef 17 = .ok (.istore 5, 2) := by decide +kernel
theorem dJ2_indexOfSupplementary_4cfef_19 : decode cJ2_indexOfSupplementary_4cfef 19 = .ok (.iload_n 2, 1) := by decide +kernel
theorem dJ2_indexOfSupplementary_4cfef_20 : decode cJ2_indexOfSupplementary_4cfef 20 = .ok (.iload_n 3, 1) := by decide +kernel
theorem dJ2_indexOfSupplementary_4cfef_21 : decode cJ2_indexOfSupplementary_4cfef 21 = .ok (.aload_n 0, 1) := by decide +kernel
theorem dJ2_indexOfSupplementary_4cfef_22 : decode cJ2_indexOfSupplementary_4cfef 22 = .ok (.invokestatic 96, 3) := by decide +kernel
theorem dJ2_indexOfSupplementary_4cfef_25 : decode cJ2_indexOfSupplementary_4cfef 25 = .ok (.iload_n 2, 1) := by decide +kernel
theorem dJ2_indexOfSupplementary_4cfef_26 : decode cJ2_indexOfSupplementary_4cfef 26 = .ok (.istore 6, 2) := by decide +kernel
theorem dJ2_indexOfSupplementary_4cfef_28 : decode cJ2_indexOfSupplementary_4cfef 28 = .ok (.iload 6, 2) := by decide +kernel
theorem dJ2_indexOfSupplementary_4cfef_30 : decode cJ2_indexOfSupplementary_4cfef 30 = .ok (.iload_n 3, 1) := by decide +kernel
theorem dJ2_indexOfSupplementary_4cfef_31 : decode cJ2_indexOfSupplementary_4cfef 31 = .ok (.iconst 1, 1) := by decide +kernel
theorem dJ2_indexOfSupplementary_4cfef_32 : decode cJ2_indexOfSupplementary_4cfef 32 = .ok (.isub, 1) := by decide +kernel
theorem dJ2_indexOfSupplementary_4cfef_33 : decode cJ2_indexOfSupplementary_4cfef 33 = .ok (.if_icmp .ge 36, 3) := by decide +kernel
theorem dJ2_indexOfSupplementary_4cfef_36 : decode cJ2_indexOfSupplementary_4cfef 36 = .ok (.aload_n 0, 1) := by decide +kernel
theorem dJ2_indexOfSupplementary_4cfef_37 : decode cJ2_indexOfSupplementary_4cfef 37 = .ok (.iload 6, 2) := by decide +kernel
theorem dJ2_indexOfSupplementary_4cfef_39 : decode cJ2_indexOfSupplementary_4cfef 39 = .ok (.invokestatic 71, 3) := by decide +kernel
theorem dJ2_indexOfSupplementary_4cfef_42 : decode cJ2_indexOfSupplementary_4cfef 42 = .ok (.iload 4, 2) := by decide +kernel
theorem dJ2_indexOfSupplementary_4cfef_44 : decode cJ2_indexOfSupplementary_4cfef 44 = .ok (.if_icmp .ne 19, 3) := by decide +kernel
theorem dJ2_indexOfSupplementary_4cfef_47 : decode cJ2_indexOfSupplementary_4cfef 47 = .ok (.aload_n 0, 1) := by decide +kernel
theorem dJ2_indexOfSupplementary_4cfef_48 : decode cJ2_indexOfSupplementary_4cfef 48 = .ok (.iload 6, 2) := by decide +kernel
theorem dJ2_indexOfSupplementary_4cfef_50 : decode cJ2_indexOfSupplementary_4cfef 50 = .ok (.iconst 1, 1) := by decide +kernel
theorem dJ2_indexOfSupplementary_4cfef_51 : decode cJ2_indexOfSupplementary_4cfef 51 = .ok (.iadd, 1) := by decide +kernel
theorem dJ2_indexOfSupplementary_4cfef_52 : decode cJ2_indexOfSupplementary_4cfef 52 = .ok (.invokestatic 71, 3) := by decide +kernel
theorem dJ2_indexOfSupplementary_4cfef_55 : decode cJ2_indexOfSupplementary_4cfef 55 = .ok (.iload 5, 2) := by decide +kernel
theorem dJ2_indexOfSupplementary_4cfef_57 : decode cJ2_indexOfSupplementary_4cfef 57 = .ok (.if_icmp .ne 6, 3) := by decide +kernel
theorem dJ2_indexOfSupplementary_4cfef_60 : decode cJ2_indexOfSupplementary_4cfef 60 = .ok (.iload 6, 2) := by decide +kernel
theorem dJ2_indexOfSupplementary_4cfef_62 : decode cJ2_indexOfSupplementary_4cfef 62 = .ok (.ireturn, 1) := by decide +kernel
theorem dJ2_indexOfSupplementary_4cfef_63 : decode cJ2_indexOfSupplementary_4cfef 63 = .ok (.iinc 6 1, 3) := by decide +kernel
theorem dJ2_indexOfSupplementary_4cfef_66 : decode cJ2_indexOfSupplementary_4cfef 66 = .ok (.goto (-38), 3) := by decide +kernel
theorem dJ2_indexOfSupplementary_4cfef_69 : decode cJ2_indexOfSupplementary_4cfef 69 = .ok (.iconst (-1), 1) := by decide +kernel
theorem dJ2_indexOfSupplementary_4cfef_70 : decode cJ2_indexOfSupplementary_4cfef 70 = .ok (.ireturn, 1) := by decide +kernel
theorem dJ2_charAt_3b067_0 : decode cJ2_charAt_3b067 0 = .ok (.iload_n 1, 1) := by decide +kernel
theorem dJ2_charAt_3b067_1 : decode cJ2_charAt_3b067 1 = .ok (.aload_n 0, 1) := by decide +kernel
theorem dJ2_charAt_3b067_2 : decode cJ2_charAt_3b067 2 = .ok (.invokestatic 67, 3) := by decide +kernel
theorem dJ2_charAt_3b067_5 : decode cJ2_charAt_3b067 5 = .ok (.aload_n 0, 1) := by decide +kernel
theorem dJ2_charAt_3b067_6 : decode cJ2_charAt_3b067 6 = .ok (.iload_n 1, 1) := by decide +kernel
theorem dJ2_charAt_3b067_7 : decode cJ2_charAt_3b067 7 = .ok (.invokestatic 71, 3) := by decide +kernel
theorem dJ2_charAt_3b067_10 : decode cJ2_charAt_3b067 10 = .ok (.ireturn, 1) := by decide +kernel
theorem dJ2_checkIndex_2214a_0 : decode cJ2_checkIndex_2214a 0 = .ok (.iload_n 0, 1) := by decide +kernel
theorem dJ2_checkIndex_2214a_1 : decode cJ2_checkIndex_2214a 1 = .ok (.aload_n 1, 1) := by decide +kernel
theorem dJ2_checkIndex_2214a_2 : decode cJ2_checkIndex_2214a 2 = .ok (.invokestatic 48, 3) := by decide +kernel
theorem dJ2_checkIndex_2214a_5 : decode cJ2_checkIndex_2214a 5 = .ok (.invokestatic 414, 3) := by decide +kernel
theorem dJ2_checkIndex_2214a_8 : decode cJ2_checkIndex_2214a 8 = .ok (.return_, 1) := by decide +kernel
theorem dJ2_checkBoundsBeginEnd_d044e_0 : decode cJ2_checkBoundsBeginEnd_d044e 0 = .ok (.iload_n 0, 1) := by decide +kernel
theorem dJ2_checkBoundsBeginEnd_d044e_1 : decode cJ2_checkBoundsBeginEnd_d044e 1 = .ok (.iload_n 1, 1) := by decide +kernel
theorem dJ2_checkBoundsBeginEnd_d044e_2 : decode cJ2_checkBoundsBeginEnd_d044e 2 = .ok (.aload_n 2, 1) := by decide +kernel
theorem dJ2_checkBoundsBeginEnd_d044e_3 : decode cJ2_checkBoundsBeginEnd_d044e 3 = .ok (.invokestatic 48, 3) := by decide +kernel
theorem dJ2_checkBoundsBeginEnd_d044e_6 : decode cJ2_checkBoundsBeginEnd_d044e 6 = .ok (.invokestatic 241, 3) := by decide +kernel
theorem dJ2_checkBoundsBeginEnd_d044e_9 : decode cJ2_checkBoundsBeginEnd_d044e 9 = .ok (.return_, 1) := by decide +kernel
theorem dJ3_checkIndex_8e157_0 : decode cJ3_checkIndex_8e157 0 = .ok (.iload_n 0, 1) := by decide +kernel
theorem dJ3_checkIndex_8e157_1 : decode cJ3_checkIndex_8e157 1 = .ok (.ifCond .lt 8, 3) := by decide +kernel
theorem dJ3_checkIndex_8e157_4 : decode cJ3_checkIndex_8e157 4 = .ok (.iload_n 0, 1) := by decide +kernel
theorem dJ3_checkIndex_8e157_5 : decode cJ3_checkIndex_8e157 5 = .ok (.iload_n 1, 1) := by decide +kernel
theorem dJ3_checkIndex_8e157_6 : decode cJ3_checkIndex_8e157 6 = .ok (.if_icmp .lt 10, 3) := by decide +kernel
theorem dJ3_checkIndex_8e157_9 : decode cJ3_checkIndex_8e157 9 = .ok (.aload_n 2, 1) := by decide +kernel
theorem dJ3_checkIndex_8e157_10 : decode cJ3_checkIndex_8e157 10 = .ok (.iload_n 0, 1) := by decide +kernel
theorem dJ3_checkIndex_8e157_11 : decode cJ3_checkIndex_8e157 11 = .ok (.iload_n 1, 1) := by decide +kernel
theorem dJ3_checkIndex_8e157_12 : decode cJ3_checkIndex_8e157 12 = .ok (.invokestatic 95, 3) := by decide +kernel
theorem dJ3_checkIndex_8e157_15 : decode cJ3_checkIndex_8e157 15 = .ok (.athrow, 1) := by decide +kernel
theorem dJ3_checkIndex_8e157_16 : decode cJ3_checkIndex_8e157 16 = .ok (.iload_n 0, 1) := by decide +kernel
theorem dJ3_checkIndex_8e157_17 : decode cJ3_checkIndex_8e157 17 = .ok (.ireturn, 1) := by decide +kernel
theorem dJ3_checkFromToIndex_8c36e_0 : decode cJ3_checkFromToIndex_8c36e 0 = .ok (.iload_n 0, 1) := by decide +kernel
theorem dJ3_checkFromToIndex_8c36e_1 : decode cJ3_checkFromToIndex_8c36e 1 = .ok (.ifCond .lt 13, 3) := by decide +kernel
theorem dJ3_checkFromToIndex_8c36e_4 : decode cJ3_checkFromToIndex_8c36e 4 = .ok (.iload_n 0, 1) := by decide +kernel
theorem dJ3_checkFromToIndex_8c36e_5 : decode cJ3_checkFromToIndex_8c36e 5 = .ok (.iload_n 1, 1) := by decide +kernel
theorem dJ3_checkFromToIndex_8c36e_6 : decode cJ3_checkFromToIndex_8c36e 6 = .ok (.if_icmp .gt 8, 3) := by decide +kernel
theorem dJ3_checkFromToIndex_8c36e_9 : decode cJ3_checkFromToIndex_8c36e 9 = .ok (.iload_n 1, 1) := by decide +kernel
theorem dJ3_checkFromToIndex_8c36e_10 : decode cJ3_checkFromToIndex_8c36e 10 = .ok (.iload_n 2, 1) := by decide +kernel
theorem dJ3_checkFromToIndex_8c36e_11 : decode cJ3_checkFromToIndex_8c36e 11 = .ok (.if_icmp .le 11, 3) := by decide +kernel
theorem dJ3_checkFromToIndex_8c36e_14 : decode cJ3_checkFromToIndex_8c36e 14 = .ok (.aload_n 3, 1) := by decide +kernel
theorem dJ3_checkFromToIndex_8c36e_15 : decode cJ3_checkFromToIndex_8c36e 15 = .ok (.iload_n 0, 1) := by decide +kernel
theorem dJ3_checkFromToIndex_8c36e_16 : decode cJ3_checkFromToIndex_8c36e 16 = .ok (.iload_n 1, 1) := by decide +kernel
theorem dJ3_checkFromToIndex_8c36e_17 : decode cJ3_checkFromToIndex_8c36e 17 = .ok (.iload_n 2, 1) := by decide +kernel
theorem dJ3_checkFromToIndex_8c36e_18 : decode cJ3_checkFromToIndex_8c36e 18 = .ok (.invokestatic 99, 3) := by decide +kernel
theorem dJ3_checkFromToIndex_8c36e_21 : decode cJ3_checkFromToIndex_8c36e 21 = .ok (.athrow, 1) := by decide +kernel
theorem dJ3_checkFromToIndex_8c36e_22 : decode cJ3_checkFromToIndex_8c36e 22 = .ok (.iload_n 0, 1) := by decide +kernel
theorem dJ3_checkFromToIndex_8c36e_23 : decode cJ3_checkFromToIndex_8c36e 23 = .ok (.ireturn, 1) := by decide +kernel
theorem dJ7_fill_d0a16_0 : decode cJ7_fill_d0a16 0 = .ok (.iconst 0, 1) := by decide +kernel
theorem dJ7_fill_d0a16_1 : decode cJ7_fill_d0a16 1 = .ok (.istore_n 3, 1) := by decide +kernel
theorem dJ7_fill_d0a16_2 : decode cJ7_fill_d0a16 2 = .ok (.aload_n 0, 1) := by decide +kernel
theorem dJ7_fill_d0a16_3 : decode cJ7_fill_d0a16 3 = .ok (.arraylength, 1) := by decide +kernel
theorem dJ7_fill_d0a16_4 : decode cJ7_fill_d0a16 4 = .ok (.istore 4, 2) := by decide +kernel
theorem dJ7_fill_d0a16_6 : decode cJ7_fill_d0a16 6 = .ok (.iload_n 3, 1) := by decide +kernel
theorem dJ7_fill_d0a16_7 : decode cJ7_fill_d0a16 7 = .ok (.iload 4, 2) := by decide +kernel
theorem dJ7_fill_d0a16_9 : decode cJ7_fill_d0a16 9 = .ok (.if_icmp .ge 13, 3) := by decide +kernel
theorem dJ7_fill_d0a16_12 : decode cJ7_fill_d0a16 12 = .ok (.aload_n 0, 1) := by decide +kernel
theorem dJ7_fill_d0a16_13 : decode cJ7_fill_d0a16 13 = .ok (.iload_n 3, 1) := by decide +kernel
theorem dJ7_fill_d0a16_14 : decode cJ7_fill_d0a16 14 = .ok (.lload_n 1, 1) := by decide +kernel
theorem dJ7_fill_d0a16_15 : decode cJ7_fill_d0a16 15 = .ok (.lastore, 1) := by decide +kernel
theorem dJ7_fill_d0a16_16 : decode cJ7_fill_d0a16 16 = .ok (.iinc 3 1, 3) := by decide +kernel
theorem dJ7_fill_d0a16_19 : decode cJ7_fill_d0a16 19 = .ok (.goto (-13), 3) := by decide +kernel
theorem dJ7_fill_d0a16_22 : decode cJ7_fill_d0a16 22 = .ok (.return_, 1) := by decide +kernel
theorem dJ7_fill_53178_0 : decode cJ7_fill_53178 0 = .ok (.iconst 0, 1) := by decide +kernel
theorem dJ7_fill_53178_1 : decode cJ7_fill_53178 1 = .ok (.istore_n 2, 1) := by decide +kernel
theorem dJ7_fill_53178_2 : decode cJ7_fill_53178 2 = .ok (.aload_n 0, 1) := by decide +kernel
theorem dJ7_fill_53178_3 : decode cJ7_fill_53178 3 = .ok (.arraylength, 1) := by decide +kernel
theorem dJ7_fill_53178_4 : decode cJ7_fill_53178 4 = .ok (.istore_n 3, 1) := by decide +kernel
theorem dJ7_fill_53178_5 : decode cJ7_fill_53178 5 = .ok (.iload_n 2, 1) := by decide +kernel
theorem dJ7_fill_53178_6 : decode cJ7_fill_53178 6 = .ok (.iload_n 3, 1) := by decide +kernel
theorem dJ7_fill_53178_7 : decode cJ7_fill_53178 7 = .ok (.if_icmp .ge 13, 3) := by decide +kernel
theorem dJ7_fill_53178_10 : decode cJ7_fill_53178 10 = .ok (.aload_n 0, 1) := by decide +kernel
theorem dJ7_fill_53178_11 : decode cJ7_fill_53178 11 = .ok (.iload_n 2, 1) := by decide +kernel
theorem dJ7_fill_53178_12 : decode cJ7_fill_53178 12 = .ok (.iload_n 1, 1) := by decide +kernel
theorem dJ7_fill_53178_13 : decode cJ7_fill_53178 13 = .ok (.iastore, 1) := by decide +kernel
theorem dJ7_fill_53178_14 : decode cJ7_fill_53178 14 = .ok (.iinc 2 1, 3) := by decide +kernel
theorem dJ7_fill_53178_17 : decode cJ7_fill_53178 17 = .ok (.goto (-12), 3) := by decide +kernel
theorem dJ7_fill_53178_20 : decode cJ7_fill_53178 20 = .ok (.return_, 1) := by decide +kernel
theorem dJ7_copyOf_59c91_0 : decode cJ7_copyOf_59c91 0 = .ok (.iload_n 1, 1) := by decide +kernel
theorem dJ7_copyOf_59c91_1 : decode cJ7_copyOf_59c91 1 = .ok (.aload_n 0, 1) := by decide +kernel
theorem dJ7_copyOf_59c91_2 : decode cJ7_copyOf_59c91 2 = .ok (.arraylength, 1) := by decide +kernel
theorem dJ7_copyOf_59c91_3 : decode cJ7_copyOf_59c91 3 = .ok (.if_icmp .ne 11, 3) := by decide +kernel
theorem dJ7_copyOf_59c91_6 : decode cJ7_copyOf_59c91 6 = .ok (.aload_n 0, 1) := by decide +kernel
theorem dJ7_copyOf_59c91_7 : decode cJ7_copyOf_59c91 7 = .ok (.invokevirtual 316, 3) := by decide +kernel
theorem dJ7_copyOf_59c91_10 : decode cJ7_copyOf_59c91 10 = .ok (.checkcast 317, 3) := by decide +kernel
theorem dJ7_copyOf_59c91_13 : decode cJ7_copyOf_59c91 13 = .ok (.areturn, 1) := by decide +kernel
theorem dJ7_copyOf_59c91_14 : decode cJ7_copyOf_59c91 14 = .ok (.iload_n 1, 1) := by decide +kernel
theorem dJ7_copyOf_59c91_15 : decode cJ7_copyOf_59c91 15 = .ok (.newarray .int, 2) := by decide +kernel
theorem dJ7_copyOf_59c91_17 : decode cJ7_copyOf_59c91 17 = .ok (.astore_n 2, 1) := by decide +kernel
theorem dJ7_copyOf_59c91_18 : decode cJ7_copyOf_59c91 18 = .ok (.aload_n 0, 1) := by decide +kernel
theorem dJ7_copyOf_59c91_19 : decode cJ7_copyOf_59c91 19 = .ok (.iconst 0, 1) := by decide +kernel
theorem dJ7_copyOf_59c91_20 : decode cJ7_copyOf_59c91 20 = .ok (.aload_n 2, 1) := by decide +kernel
theorem dJ7_copyOf_59c91_21 : decode cJ7_copyOf_59c91 21 = .ok (.iconst 0, 1) := by decide +kernel
theorem dJ7_copyOf_59c91_22 : decode cJ7_copyOf_59c91 22 = .ok (.aload_n 0, 1) := by decide +kernel
theorem dJ7_copyOf_59c91_23 : decode cJ7_copyOf_59c91 23 = .ok (.arraylength, 1) := by decide +kernel
theorem dJ7_copyOf_59c91_24 : decode cJ7_copyOf_59c91 24 = .ok (.iload_n 1, 1) := by decide +kernel
theorem dJ7_copyOf_59c91_25 : decode cJ7_copyOf_59c91 25 = .ok (.invokestatic 304, 3) := by decide +kernel
theorem dJ7_copyOf_59c91_28 : decode cJ7_copyOf_59c91 28 = .ok (.invokestatic 150, 3) := by decide +kernel
theorem dJ7_copyOf_59c91_31 : decode cJ7_copyOf_59c91 31 = .ok (.aload_n 2, 1) := by decide +kernel
theorem dJ7_copyOf_59c91_32 : decode cJ7_copyOf_59c91 32 = .ok (.areturn, 1) := by decide +kernel
theorem dJ9_abs_067f4_0 : decode cJ9_abs_067f4 0 = .ok (.lload_n 0, 1) := by decide +kernel
theorem dJ9_abs_067f4_1 : decode cJ9_abs_067f4 1 = .ok (.lconst 0, 1) := by decide +kernel
theorem dJ9_abs_067f4_2 : decode cJ9_abs_067f4 2 = .ok (.lcmp, 1) := by decide +kernel
theorem dJ9_abs_067f4_3 : decode cJ9_abs_067f4 3 = .ok (.ifCond .ge 8, 3) := by decide +kernel
theorem dJ9_abs_067f4_6 : decode cJ9_abs_067f4 6 = .ok (.lload_n 0, 1) := by decide +kernel
theorem dJ9_abs_067f4_7 : decode cJ9_abs_067f4 7 = .ok (.lneg, 1) := by decide +kernel
theorem dJ9_abs_067f4_8 : decode cJ9_abs_067f4 8 = .ok (.goto 4, 3) := by decide +kernel
theorem dJ9_abs_067f4_11 : decode cJ9_abs_067f4 11 = .ok (.lload_n 0, 1) := by decide +kernel
theorem dJ9_abs_067f4_12 : decode cJ9_abs_067f4 12 = .ok (.lreturn, 1) := by decide +kernel
theorem dJ9_max_7cf53_0 : decode cJ9_max_7cf53 0 = .ok (.iload_n 0, 1) := by decide +kernel
theorem dJ9_max_7cf53_1 : decode cJ9_max_7cf53 1 = .ok (.iload_n 1, 1) := by decide +kernel
theorem dJ9_max_7cf53_2 : decode cJ9_max_7cf53 2 = .ok (.if_icmp .lt 7, 3) := by decide +kernel
theorem dJ9_max_7cf53_5 : decode cJ9_max_7cf53 5 = .ok (.iload_n 0, 1) := by decide +kernel
theorem dJ9_max_7cf53_6 : decode cJ9_max_7cf53 6 = .ok (.goto 4, 3) := by decide +kernel
theorem dJ9_max_7cf53_9 : decode cJ9_max_7cf53 9 = .ok (.iload_n 1, 1) := by decide +kernel
theorem dJ9_max_7cf53_10 : decode cJ9_max_7cf53 10 = .ok (.ireturn, 1) := by decide +kernel
theorem dJ9_min_7cf53_0 : decode cJ9_min_7cf53 0 = .ok (.iload_n 0, 1) := by decide +kernel
theorem dJ9_min_7cf53_1 : decode cJ9_min_7cf53 1 = .ok (.iload_n 1, 1) := by decide +kernel
theorem dJ9_min_7cf53_2 : decode cJ9_min_7cf53 2 = .ok (.if_icmp .gt 7, 3) := by decide +kernel
theorem dJ9_min_7cf53_5 : decode cJ9_min_7cf53 5 = .ok (.iload_n 0, 1) := by decide +kernel
theorem dJ9_min_7cf53_6 : decode cJ9_min_7cf53 6 = .ok (.goto 4, 3) := by decide +kernel
theorem dJ9_min_7cf53_9 : decode cJ9_min_7cf53 9 = .ok (.iload_n 1, 1) := by decide +kernel
theorem dJ9_min_7cf53_10 : decode cJ9_min_7cf53 10 = .ok (.ireturn, 1) := by decide +kernel
theorem dJ11_isValidCodePoint_9a6ad_0 : decode cJ11_isValidCodePoint_9a6ad 0 = .ok (.iload_n 0, 1) := by decide +kernel
theorem dJ11_isValidCodePoint_9a6ad_1 : decode cJ11_isValidCodePoint_9a6ad 1 = .ok (.bipush 16, 2) := by decide +kernel
theorem dJ11_isValidCodePoint_9a6ad_3 : decode cJ11_isValidCodePoint_9a6ad 3 = .ok (.iushr, 1) := by decide +kernel
theorem dJ11_isValidCodePoint_9a6ad_4 : decode cJ11_isValidCodePoint_9a6ad 4 = .ok (.istore_n 1, 1) := by decide +kernel
theorem dJ11_isValidCodePoint_9a6ad_5 : decode cJ11_isValidCodePoint_9a6ad 5 = .ok (.iload_n 1, 1) := by decide +kernel
theorem dJ11_isValidCodePoint_9a6ad_6 : decode cJ11_isValidCodePoint_9a6ad 6 = .ok (.bipush 17, 2) := by decide +kernel
theorem dJ11_isValidCodePoint_9a6ad_8 : decode cJ11_isValidCodePoint_9a6ad 8 = .ok (.if_icmp .ge 7, 3) := by decide +kernel
theorem dJ11_isValidCodePoint_9a6ad_11 : decode cJ11_isValidCodePoint_9a6ad 11 = .ok (.iconst 1, 1) := by decide +kernel
theorem dJ11_isValidCodePoint_9a6ad_12 : decode cJ11_isValidCodePoint_9a6ad 12 = .ok (.goto 4, 3) := by decide +kernel
theorem dJ11_isValidCodePoint_9a6ad_15 : decode cJ11_isValidCodePoint_9a6ad 15 = .ok (.iconst 0, 1) := by decide +kernel
theorem dJ11_isValidCodePoint_9a6ad_16 : decode cJ11_isValidCodePoint_9a6ad 16 = .ok (.ireturn, 1) := by decide +kernel
theorem dJ11_highSurrogate_5068e_0 : decode cJ11_highSurrogate_5068e 0 = .ok (.iload_n 0, 1) := by decide +kernel
theorem dJ11_highSurrogate_5068e_1 : decode cJ11_highSurrogate_5068e 1 = .ok (.bipush 10, 2) := by decide +kernel
theorem dJ11_highSurrogate_5068e_3 : decode cJ11_highSurrogate_5068e 3 = .ok (.iushr, 1) := by decide +kernel
theorem dJ11_highSurrogate_5068e_4 : decode cJ11_highSurrogate_5068e 4 = .ok (.ldc 110, 2) := by decide +kernel
theorem dJ11_highSurrogate_5068e_6 : decode cJ11_highSurrogate_5068e 6 = .ok (.iadd, 1) := by decide +kernel
theorem dJ11_highSurrogate_5068e_7 : decode cJ11_highSurrogate_5068e 7 = .ok (.i2c, 1) := by decide +kernel
theorem dJ11_highSurrogate_5068e_8 : decode cJ11_highSurrogate_5068e 8 = .ok (.ireturn, 1) := by decide +kernel
theorem dJ11_lowSurrogate_5068e_0 : decode cJ11_lowSurrogate_5068e 0 = .ok (.iload_n 0, 1) := by decide +kernel
theorem dJ11_lowSurrogate_5068e_1 : decode cJ11_lowSurrogate_5068e 1 = .ok (.sipush 1023, 3) := by decide +kernel
theorem dJ11_lowSurrogate_5068e_4 : decode cJ11_lowSurrogate_5068e 4 = .ok (.iand, 1) := by decide +kernel
theorem dJ11_lowSurrogate_5068e_5 : decode cJ11_lowSurrogate_5068e 5 = .ok (.ldc 76, 2) := by decide +kernel
theorem dJ11_lowSurrogate_5068e_7 : decode cJ11_lowSurrogate_5068e 7 = .ok (.iadd, 1) := by decide +kernel
theorem dJ11_lowSurrogate_5068e_8 : decode cJ11_lowSurrogate_5068e 8 = .ok (.i2c, 1) := by decide +kernel
theorem dJ11_lowSurrogate_5068e_9 : decode cJ11_lowSurrogate_5068e 9 = .ok (.ireturn, 1) := by decide +kernel
theorem dL_worth_0 : decode cL_worth 0 = .ok (.aload 5, 2) := by decide +kernel
theorem dL_worth_2 : decode cL_worth 2 = .ok (.iconst 0, 1) := by decide +kernel
theorem dL_worth_3 : decode cL_worth 3 = .ok (.aload_n 0, 1) := by decide +kernel
theorem dL_worth_4 : decode cL_worth 4 = .ok (.iload_n 1, 1) := by decide +kernel
theorem dL_worth_5 : decode cL_worth 5 = .ok (.iload_n 2, 1) := by decide +kernel
theorem dL_worth_6 : decode cL_worth 6 = .ok (.iload_n 3, 1) := by decide +kernel
theorem dL_worth_7 : decode cL_worth 7 = .ok (.iload 4, 2) := by decide +kernel
theorem dL_worth_9 : decode cL_worth 9 = .ok (.invokevirtual 7, 3) := by decide +kernel
theorem dL_worth_12 : decode cL_worth 12 = .ok (.i2l, 1) := by decide +kernel
theorem dL_worth_13 : decode cL_worth 13 = .ok (.lastore, 1) := by decide +kernel
theorem dL_worth_14 : decode cL_worth 14 = .ok (.goto 7, 3) := by decide +kernel
theorem dL_worth_17 : decode cL_worth 17 = .ok (.astore 6, 2) := by decide +kernel
theorem dL_worth_19 : decode cL_worth 19 = .ok (.iconst 1, 1) := by decide +kernel
theorem dL_worth_20 : decode cL_worth 20 = .ok (.ireturn, 1) := by decide +kernel
theorem dL_worth_21 : decode cL_worth 21 = .ok (.iconst 0, 1) := by decide +kernel
theorem dL_worth_22 : decode cL_worth 22 = .ok (.ireturn, 1) := by decide +kernel
theorem dL_value_0 : decode cL_value 0 = .ok (.aload 5, 2) := by decide +kernel
theorem dL_value_2 : decode cL_value 2 = .ok (.iconst 0, 1) := by decide +kernel
theorem dL_value_3 : decode cL_value 3 = .ok (.aload_n 0, 1) := by decide +kernel
theorem dL_value_4 : decode cL_value 4 = .ok (.iload_n 1, 1) := by decide +kernel
theorem dL_value_5 : decode cL_value 5 = .ok (.iload_n 2, 1) := by decide +kernel
theorem dL_value_6 : decode cL_value 6 = .ok (.iload_n 3, 1) := by decide +kernel
theorem dL_value_7 : decode cL_value 7 = .ok (.iload 4, 2) := by decide +kernel
theorem dL_value_9 : decode cL_value 9 = .ok (.invokevirtual 15, 3) := by decide +kernel
theorem dL_value_12 : decode cL_value 12 = .ok (.lastore, 1) := by decide +kernel
theorem dL_value_13 : decode cL_value 13 = .ok (.goto 7, 3) := by decide +kernel
theorem dL_value_16 : decode cL_value 16 = .ok (.astore 6, 2) := by decide +kernel
theorem dL_value_18 : decode cL_value 18 = .ok (.iconst 1, 1) := by decide +kernel
theorem dL_value_19 : decode cL_value 19 = .ok (.ireturn, 1) := by decide +kernel
theorem dL_value_20 : decode cL_value 20 = .ok (.iconst 0, 1) := by decide +kernel
theorem dL_value_21 : decode cL_value 21 = .ok (.ireturn, 1) := by decide +kernel
theorem dL_odds_0 : decode cL_odds 0 = .ok (.aload 4, 2) := by decide +kernel
theorem dL_odds_2 : decode cL_odds 2 = .ok (.iconst 0, 1) := by decide +kernel
theorem dL_odds_3 : decode cL_odds 3 = .ok (.aload_n 0, 1) := by decide +kernel
theorem dL_odds_4 : decode cL_odds 4 = .ok (.iload_n 1, 1) := by decide +kernel
theorem dL_odds_5 : decode cL_odds 5 = .ok (.iload_n 2, 1) := by decide +kernel
theorem dL_odds_6 : decode cL_odds 6 = .ok (.iload_n 3, 1) := by decide +kernel
theorem dL_odds_7 : decode cL_odds 7 = .ok (.invokevirtual 19, 3) := by decide +kernel
theorem dL_odds_10 : decode cL_odds 10 = .ok (.lastore, 1) := by decide +kernel
theorem dL_odds_11 : decode cL_odds 11 = .ok (.goto 7, 3) := by decide +kernel
theorem dL_odds_14 : decode cL_odds 14 = .ok (.astore 5, 2) := by decide +kernel
theorem dL_odds_16 : decode cL_odds 16 = .ok (.iconst 1, 1) := by decide +kernel
theorem dL_odds_17 : decode cL_odds 17 = .ok (.ireturn, 1) := by decide +kernel
theorem dL_odds_18 : decode cL_odds 18 = .ok (.iconst 0, 1) := by decide +kernel
theorem dL_odds_19 : decode cL_odds 19 = .ok (.ireturn, 1) := by decide +kernel
theorem dL_stir_0 : decode cL_stir 0 = .ok (.aload_n 3, 1) := by decide +kernel
theorem dL_stir_1 : decode cL_stir 1 = .ok (.iconst 0, 1) := by decide +kernel
theorem dL_stir_2 : decode cL_stir 2 = .ok (.aload_n 0, 1) := by decide +kernel
theorem dL_stir_3 : decode cL_stir 3 = .ok (.iload_n 1, 1) := by decide +kernel
theorem dL_stir_4 : decode cL_stir 4 = .ok (.iload_n 2, 1) := by decide +kernel
theorem dL_stir_5 : decode cL_stir 5 = .ok (.invokevirtual 23, 3) := by decide +kernel
theorem dL_stir_8 : decode cL_stir 8 = .ok (.lastore, 1) := by decide +kernel
theorem dL_stir_9 : decode cL_stir 9 = .ok (.goto 7, 3) := by decide +kernel
theorem dL_stir_12 : decode cL_stir 12 = .ok (.astore 4, 2) := by decide +kernel
theorem dL_stir_14 : decode cL_stir 14 = .ok (.iconst 1, 1) := by decide +kernel
theorem dL_stir_15 : decode cL_stir 15 = .ok (.ireturn, 1) := by decide +kernel
theorem dL_stir_16 : decode cL_stir 16 = .ok (.iconst 0, 1) := by decide +kernel
theorem dL_stir_17 : decode cL_stir 17 = .ok (.ireturn, 1) := by decide +kernel
theorem dL_price_0 : decode cL_price 0 = .ok (.aload 6, 2) := by decide +kernel
theorem dL_price_2 : decode cL_price 2 = .ok (.iconst 0, 1) := by decide +kernel
theorem dL_price_3 : decode cL_price 3 = .ok (.aload_n 0, 1) := by decide +kernel
theorem dL_price_4 : decode cL_price 4 = .ok (.iload_n 1, 1) := by decide +kernel
theorem dL_price_5 : decode cL_price 5 = .ok (.iload_n 2, 1) := by decide +kernel
theorem dL_price_6 : decode cL_price 6 = .ok (.iload_n 3, 1) := by decide +kernel
theorem dL_price_7 : decode cL_price 7 = .ok (.iload 4, 2) := by decide +kernel
theorem dL_price_9 : decode cL_price 9 = .ok (.iload 5, 2) := by decide +kernel
theorem dL_price_11 : decode cL_price 11 = .ok (.invokevirtual 27, 3) := by decide +kernel
theorem dL_price_14 : decode cL_price 14 = .ok (.lastore, 1) := by decide +kernel
theorem dL_price_15 : decode cL_price 15 = .ok (.goto 7, 3) := by decide +kernel
theorem dL_price_18 : decode cL_price 18 = .ok (.astore 7, 2) := by decide +kernel
theorem dL_price_20 : decode cL_price 20 = .ok (.iconst 1, 1) := by decide +kernel
theorem dL_price_21 : decode cL_price 21 = .ok (.ireturn, 1) := by decide +kernel
theorem dL_price_22 : decode cL_price 22 = .ok (.iconst 0, 1) := by decide +kernel
theorem dL_price_23 : decode cL_price 23 = .ok (.ireturn, 1) := by decide +kernel
theorem dL_gain_0 : decode cL_gain 0 = .ok (.aload 8, 2) := by decide +kernel
theorem dL_gain_2 : decode cL_gain 2 = .ok (.iconst 0, 1) := by decide +kernel
theorem dL_gain_3 : decode cL_gain 3 = .ok (.aload_n 0, 1) := by decide +kernel
theorem dL_gain_4 : decode cL_gain 4 = .ok (.iload_n 1, 1) := by decide +kernel
theorem dL_gain_5 : decode cL_gain 5 = .ok (.iload_n 2, 1) := by decide +kernel
theorem dL_gain_6 : decode cL_gain 6 = .ok (.iload_n 3, 1) := by decide +kernel
theorem dL_gain_7 : decode cL_gain 7 = .ok (.iload 4, 2) := by decide +kernel
theorem dL_gain_9 : decode cL_gain 9 = .ok (.iload 5, 2) := by decide +kernel
theorem dL_gain_11 : decode cL_gain 11 = .ok (.iload 6, 2) := by decide +kernel
theorem dL_gain_13 : decode cL_gain 13 = .ok (.iload 7, 2) := by decide +kernel
theorem dL_gain_15 : decode cL_gain 15 = .ok (.invokevirtual 31, 3) := by decide +kernel
theorem dL_gain_18 : decode cL_gain 18 = .ok (.lastore, 1) := by decide +kernel
theorem dL_gain_19 : decode cL_gain 19 = .ok (.goto 7, 3) := by decide +kernel
theorem dL_gain_22 : decode cL_gain 22 = .ok (.astore 9, 2) := by decide +kernel
theorem dL_gain_24 : decode cL_gain 24 = .ok (.iconst 1, 1) := by decide +kernel
theorem dL_gain_25 : decode cL_gain 25 = .ok (.ireturn, 1) := by decide +kernel
theorem dL_gain_26 : decode cL_gain 26 = .ok (.iconst 0, 1) := by decide +kernel
theorem dL_gain_27 : decode cL_gain 27 = .ok (.ireturn, 1) := by decide +kernel
theorem dL_lets_0 : decode cL_lets 0 = .ok (.aload 8, 2) := by decide +kernel
theorem dL_lets_2 : decode cL_lets 2 = .ok (.iconst 0, 1) := by decide +kernel
theorem dL_lets_3 : decode cL_lets 3 = .ok (.aload_n 0, 1) := by decide +kernel
theorem dL_lets_4 : decode cL_lets 4 = .ok (.iload_n 1, 1) := by decide +kernel
theorem dL_lets_5 : decode cL_lets 5 = .ok (.iload_n 2, 1) := by decide +kernel
theorem dL_lets_6 : decode cL_lets 6 = .ok (.iload_n 3, 1) := by decide +kernel
theorem dL_lets_7 : decode cL_lets 7 = .ok (.iload 4, 2) := by decide +kernel
theorem dL_lets_9 : decode cL_lets 9 = .ok (.iload 5, 2) := by decide +kernel
theorem dL_lets_11 : decode cL_lets 11 = .ok (.iload 6, 2) := by decide +kernel
theorem dL_lets_13 : decode cL_lets 13 = .ok (.iload 7, 2) := by decide +kernel
theorem dL_lets_15 : decode cL_lets 15 = .ok (.invokevirtual 35, 3) := by decide +kernel
theorem dL_lets_18 : decode cL_lets 18 = .ok (.lastore, 1) := by decide +kernel
theorem dL_lets_19 : decode cL_lets 19 = .ok (.goto 7, 3) := by decide +kernel
theorem dL_lets_22 : decode cL_lets 22 = .ok (.astore 9, 2) := by decide +kernel
theorem dL_lets_24 : decode cL_lets 24 = .ok (.iconst 1, 1) := by decide +kernel
theorem dL_lets_25 : decode cL_lets 25 = .ok (.ireturn, 1) := by decide +kernel
theorem dL_lets_26 : decode cL_lets 26 = .ok (.iconst 0, 1) := by decide +kernel
theorem dL_lets_27 : decode cL_lets 27 = .ok (.ireturn, 1) := by decide +kernel
theorem dL_present_0 : decode cL_present 0 = .ok (.aload 5, 2) := by decide +kernel
theorem dL_present_2 : decode cL_present 2 = .ok (.iconst 0, 1) := by decide +kernel
theorem dL_present_3 : decode cL_present 3 = .ok (.aload_n 0, 1) := by decide +kernel
theorem dL_present_4 : decode cL_present 4 = .ok (.iload_n 1, 1) := by decide +kernel
theorem dL_present_5 : decode cL_present 5 = .ok (.iload_n 2, 1) := by decide +kernel
theorem dL_present_6 : decode cL_present 6 = .ok (.iload_n 3, 1) := by decide +kernel
theorem dL_present_7 : decode cL_present 7 = .ok (.iload 4, 2) := by decide +kernel
theorem dL_present_9 : decode cL_present 9 = .ok (.invokevirtual 38, 3) := by decide +kernel
theorem dL_present_12 : decode cL_present 12 = .ok (.lastore, 1) := by decide +kernel
theorem dL_present_13 : decode cL_present 13 = .ok (.goto 7, 3) := by decide +kernel
theorem dL_present_16 : decode cL_present 16 = .ok (.astore 6, 2) := by decide +kernel
theorem dL_present_18 : decode cL_present 18 = .ok (.iconst 1, 1) := by decide +kernel
theorem dL_present_19 : decode cL_present 19 = .ok (.ireturn, 1) := by decide +kernel
theorem dL_present_20 : decode cL_present 20 = .ok (.iconst 0, 1) := by decide +kernel
theorem dL_present_21 : decode cL_present 21 = .ok (.ireturn, 1) := by decide +kernel
theorem dL_hopes_0 : decode cL_hopes 0 = .ok (.aload 4, 2) := by decide +kernel
theorem dL_hopes_2 : decode cL_hopes 2 = .ok (.iconst 0, 1) := by decide +kernel
theorem dL_hopes_3 : decode cL_hopes 3 = .ok (.aload_n 0, 1) := by decide +kernel
theorem dL_hopes_4 : decode cL_hopes 4 = .ok (.iload_n 1, 1) := by decide +kernel
theorem dL_hopes_5 : decode cL_hopes 5 = .ok (.iload_n 2, 1) := by decide +kernel
theorem dL_hopes_6 : decode cL_hopes 6 = .ok (.iload_n 3, 1) := by decide +kernel
theorem dL_hopes_7 : decode cL_hopes 7 = .ok (.invokevirtual 41, 3) := by decide +kernel
theorem dL_hopes_10 : decode cL_hopes 10 = .ok (.lastore, 1) := by decide +kernel
theorem dL_hopes_11 : decode cL_hopes 11 = .ok (.goto 7, 3) := by decide +kernel
theorem dL_hopes_14 : decode cL_hopes 14 = .ok (.astore 5, 2) := by decide +kernel
theorem dL_hopes_16 : decode cL_hopes 16 = .ok (.iconst 1, 1) := by decide +kernel
theorem dL_hopes_17 : decode cL_hopes 17 = .ok (.ireturn, 1) := by decide +kernel
theorem dL_hopes_18 : decode cL_hopes 18 = .ok (.iconst 0, 1) := by decide +kernel
theorem dL_hopes_19 : decode cL_hopes 19 = .ok (.ireturn, 1) := by decide +kernel
theorem dL_vow_0 : decode cL_vow 0 = .ok (.aload 4, 2) := by decide +kernel
theorem dL_vow_2 : decode cL_vow 2 = .ok (.iconst 0, 1) := by decide +kernel
theorem dL_vow_3 : decode cL_vow 3 = .ok (.aload_n 0, 1) := by decide +kernel
theorem dL_vow_4 : decode cL_vow 4 = .ok (.iload_n 1, 1) := by decide +kernel
theorem dL_vow_5 : decode cL_vow 5 = .ok (.iload_n 2, 1) := by decide +kernel
theorem dL_vow_6 : decode cL_vow 6 = .ok (.iload_n 3, 1) := by decide +kernel
theorem dL_vow_7 : decode cL_vow 7 = .ok (.invokevirtual 44, 3) := by decide +kernel
theorem dL_vow_10 : decode cL_vow 10 = .ok (.lastore, 1) := by decide +kernel
theorem dL_vow_11 : decode cL_vow 11 = .ok (.goto 7, 3) := by decide +kernel
theorem dL_vow_14 : decode cL_vow 14 = .ok (.astore 5, 2) := by decide +kernel
theorem dL_vow_16 : decode cL_vow 16 = .ok (.iconst 1, 1) := by decide +kernel
theorem dL_vow_17 : decode cL_vow 17 = .ok (.ireturn, 1) := by decide +kernel
theorem dL_vow_18 : decode cL_vow 18 = .ok (.iconst 0, 1) := by decide +kernel
theorem dL_vow_19 : decode cL_vow 19 = .ok (.ireturn, 1) := by decide +kernel
theorem dL_bind_0 : decode cL_bind 0 = .ok (.aload 6, 2) := by decide +kernel
theorem dL_bind_2 : decode cL_bind 2 = .ok (.iconst 0, 1) := by decide +kernel
theorem dL_bind_3 : decode cL_bind 3 = .ok (.aload_n 0, 1) := by decide +kernel
theorem dL_bind_4 : decode cL_bind 4 = .ok (.iload_n 1, 1) := by decide +kernel
theorem dL_bind_5 : decode cL_bind 5 = .ok (.iload_n 2, 1) := by decide +kernel
theorem dL_bind_6 : decode cL_bind 6 = .ok (.iload_n 3, 1) := by decide +kernel
theorem dL_bind_7 : decode cL_bind 7 = .ok (.iload 4, 2) := by decide +kernel
theorem dL_bind_9 : decode cL_bind 9 = .ok (.iload 5, 2) := by decide +kernel
theorem dL_bind_11 : decode cL_bind 11 = .ok (.invokevirtual 47, 3) := by decide +kernel
theorem dL_bind_14 : decode cL_bind 14 = .ok (.lastore, 1) := by decide +kernel
theorem dL_bind_15 : decode cL_bind 15 = .ok (.goto 7, 3) := by decide +kernel
theorem dL_bind_18 : decode cL_bind 18 = .ok (.astore 7, 2) := by decide +kernel
theorem dL_bind_20 : decode cL_bind 20 = .ok (.iconst 1, 1) := by decide +kernel
theorem dL_bind_21 : decode cL_bind 21 = .ok (.ireturn, 1) := by decide +kernel
theorem dL_bind_22 : decode cL_bind 22 = .ok (.iconst 0, 1) := by decide +kernel
theorem dL_bind_23 : decode cL_bind 23 = .ok (.ireturn, 1) := by decide +kernel
theorem dL_order_0 : decode cL_order 0 = .ok (.aload 7, 2) := by decide +kernel
theorem dL_order_2 : decode cL_order 2 = .ok (.iconst 0, 1) := by decide +kernel
theorem dL_order_3 : decode cL_order 3 = .ok (.aload_n 0, 1) := by decide +kernel
theorem dL_order_4 : decode cL_order 4 = .ok (.iload_n 1, 1) := by decide +kernel
theorem dL_order_5 : decode cL_order 5 = .ok (.iload_n 2, 1) := by decide +kernel
theorem dL_order_6 : decode cL_order 6 = .ok (.iload_n 3, 1) := by decide +kernel
theorem dL_order_7 : decode cL_order 7 = .ok (.iload 4, 2) := by decide +kernel
theorem dL_order_9 : decode cL_order 9 = .ok (.iload 5, 2) := by decide +kernel
theorem dL_order_11 : decode cL_order 11 = .ok (.iload 6, 2) := by decide +kernel
theorem dL_order_13 : decode cL_order 13 = .ok (.invokevirtual 50, 3) := by decide +kernel
theorem dL_order_16 : decode cL_order 16 = .ok (.lastore, 1) := by decide +kernel
theorem dL_order_17 : decode cL_order 17 = .ok (.goto 7, 3) := by decide +kernel
theorem dL_order_20 : decode cL_order 20 = .ok (.astore 8, 2) := by decide +kernel
theorem dL_order_22 : decode cL_order 22 = .ok (.iconst 1, 1) := by decide +kernel
theorem dL_order_23 : decode cL_order 23 = .ok (.ireturn, 1) := by decide +kernel
theorem dL_order_24 : decode cL_order 24 = .ok (.iconst 0, 1) := by decide +kernel
theorem dL_order_25 : decode cL_order 25 = .ok (.ireturn, 1) := by decide +kernel
theorem dL_century_0 : decode cL_century 0 = .ok (.aload 5, 2) := by decide +kernel
theorem dL_century_2 : decode cL_century 2 = .ok (.iconst 0, 1) := by decide +kernel
theorem dL_century_3 : decode cL_century 3 = .ok (.aload_n 0, 1) := by decide +kernel
theorem dL_century_4 : decode cL_century 4 = .ok (.iload_n 1, 1) := by decide +kernel
theorem dL_century_5 : decode cL_century 5 = .ok (.iload_n 2, 1) := by decide +kernel
theorem dL_century_6 : decode cL_century 6 = .ok (.iload_n 3, 1) := by decide +kernel
theorem dL_century_7 : decode cL_century 7 = .ok (.iload 4, 2) := by decide +kernel
theorem dL_century_9 : decode cL_century 9 = .ok (.invokevirtual 54, 3) := by decide +kernel
theorem dL_century_12 : decode cL_century 12 = .ok (.i2l, 1) := by decide +kernel
theorem dL_century_13 : decode cL_century 13 = .ok (.lastore, 1) := by decide +kernel
theorem dL_century_14 : decode cL_century 14 = .ok (.goto 7, 3) := by decide +kernel
theorem dL_century_17 : decode cL_century 17 = .ok (.astore 6, 2) := by decide +kernel
theorem dL_century_19 : decode cL_century 19 = .ok (.iconst 1, 1) := by decide +kernel
theorem dL_century_20 : decode cL_century 20 = .ok (.ireturn, 1) := by decide +kernel
theorem dL_century_21 : decode cL_century 21 = .ok (.iconst 0, 1) := by decide +kernel
theorem dL_century_22 : decode cL_century 22 = .ok (.ireturn, 1) := by decide +kernel
theorem dL_fares_0 : decode cL_fares 0 = .ok (.aload 4, 2) := by decide +kernel
theorem dL_fares_2 : decode cL_fares 2 = .ok (.iconst 0, 1) := by decide +kernel
theorem dL_fares_3 : decode cL_fares 3 = .ok (.aload_n 0, 1) := by decide +kernel
theorem dL_fares_4 : decode cL_fares 4 = .ok (.iload_n 1, 1) := by decide +kernel
theorem dL_fares_5 : decode cL_fares 5 = .ok (.iload_n 2, 1) := by decide +kernel
theorem dL_fares_6 : decode cL_fares 6 = .ok (.iload_n 3, 1) := by decide +kernel
theorem dL_fares_7 : decode cL_fares 7 = .ok (.invokevirtual 57, 3) := by decide +kernel
theorem dL_fares_10 : decode cL_fares 10 = .ok (.i2l, 1) := by decide +kernel
theorem dL_fares_11 : decode cL_fares 11 = .ok (.lastore, 1) := by decide +kernel
theorem dL_fares_12 : decode cL_fares 12 = .ok (.goto 7, 3) := by decide +kernel
theorem dL_fares_15 : decode cL_fares 15 = .ok (.astore 5, 2) := by decide +kernel
theorem dL_fares_17 : decode cL_fares 17 = .ok (.iconst 1, 1) := by decide +kernel
theorem dL_fares_18 : decode cL_fares 18 = .ok (.ireturn, 1) := by decide +kernel
theorem dL_fares_19 : decode cL_fares 19 = .ok (.iconst 0, 1) := by decide +kernel
theorem dL_fares_20 : decode cL_fares 20 = .ok (.ireturn, 1) := by decide +kernel
theorem dL_told_0 : decode cL_told 0 = .ok (.aload 4, 2) := by decide +kernel
theorem dL_told_2 : decode cL_told 2 = .ok (.iconst 0, 1) := by decide +kernel
theorem dL_told_3 : decode cL_told 3 = .ok (.aload_n 0, 1) := by decide +kernel
theorem dL_told_4 : decode cL_told 4 = .ok (.iload_n 1, 1) := by decide +kernel
theorem dL_told_5 : decode cL_told 5 = .ok (.iload_n 2, 1) := by decide +kernel
theorem dL_told_6 : decode cL_told 6 = .ok (.iload_n 3, 1) := by decide +kernel
theorem dL_told_7 : decode cL_told 7 = .ok (.invokevirtual 61, 3) := by decide +kernel
theorem dL_told_10 : decode cL_told 10 = .ok (.i2l, 1) := by decide +kernel
theorem dL_told_11 : decode cL_told 11 = .ok (.lastore, 1) := by decide +kernel
theorem dL_told_12 : decode cL_told 12 = .ok (.goto 7, 3) := by decide +kernel
theorem dL_told_15 : decode cL_told 15 = .ok (.astore 5, 2) := by decide +kernel
theorem dL_told_17 : decode cL_told 17 = .ok (.iconst 1, 1) := by decide +kernel
theorem dL_told_18 : decode cL_told 18 = .ok (.ireturn, 1) := by decide +kernel
theorem dL_told_19 : decode cL_told 19 = .ok (.iconst 0, 1) := by decide +kernel
theorem dL_told_20 : decode cL_told 20 = .ok (.ireturn, 1) := by decide +kernel
theorem dL_judged_0 : decode cL_judged 0 = .ok (.aload_n 2, 1) := by decide +kernel
theorem dL_judged_1 : decode cL_judged 1 = .ok (.iconst 0, 1) := by decide +kernel
theorem dL_judged_2 : decode cL_judged 2 = .ok (.aload_n 0, 1) := by decide +kernel
theorem dL_judged_3 : decode cL_judged 3 = .ok (.iload_n 1, 1) := by decide +kernel
theorem dL_judged_4 : decode cL_judged 4 = .ok (.invokevirtual 64, 3) := by decide +kernel
theorem dL_judged_7 : decode cL_judged 7 = .ok (.lastore, 1) := by decide +kernel
theorem dL_judged_8 : decode cL_judged 8 = .ok (.goto 6, 3) := by decide +kernel
theorem dL_judged_11 : decode cL_judged 11 = .ok (.astore_n 3, 1) := by decide +kernel
theorem dL_judged_12 : decode cL_judged 12 = .ok (.iconst 1, 1) := by decide +kernel
theorem dL_judged_13 : decode cL_judged 13 = .ok (.ireturn, 1) := by decide +kernel
theorem dL_judged_14 : decode cL_judged 14 = .ok (.iconst 0, 1) := by decide +kernel
theorem dL_judged_15 : decode cL_judged 15 = .ok (.ireturn, 1) := by decide +kernel
theorem dL_rowFares_0 : decode cL_rowFares 0 = .ok (.aload_n 3, 1) := by decide +kernel
theorem dL_rowFares_1 : decode cL_rowFares 1 = .ok (.iconst 0, 1) := by decide +kernel
theorem dL_rowFares_2 : decode cL_rowFares 2 = .ok (.aload_n 0, 1) := by decide +kernel
theorem dL_rowFares_3 : decode cL_rowFares 3 = .ok (.iload_n 1, 1) := by decide +kernel
theorem dL_rowFares_4 : decode cL_rowFares 4 = .ok (.iload_n 2, 1) := by decide +kernel
theorem dL_rowFares_5 : decode cL_rowFares 5 = .ok (.invokevirtual 68, 3) := by decide +kernel
theorem dL_rowFares_8 : decode cL_rowFares 8 = .ok (.i2l, 1) := by decide +kernel
theorem dL_rowFares_9 : decode cL_rowFares 9 = .ok (.lastore, 1) := by decide +kernel
theorem dL_rowFares_10 : decode cL_rowFares 10 = .ok (.goto 7, 3) := by decide +kernel
theorem dL_rowFares_13 : decode cL_rowFares 13 = .ok (.astore 4, 2) := by decide +kernel
theorem dL_rowFares_15 : decode cL_rowFares 15 = .ok (.iconst 1, 1) := by decide +kernel
theorem dL_rowFares_16 : decode cL_rowFares 16 = .ok (.ireturn, 1) := by decide +kernel
theorem dL_rowFares_17 : decode cL_rowFares 17 = .ok (.iconst 0, 1) := by decide +kernel
theorem dL_rowFares_18 : decode cL_rowFares 18 = .ok (.ireturn, 1) := by decide +kernel
theorem dL_when_0 : decode cL_when 0 = .ok (.aload_n 3, 1) := by decide +kernel
theorem dL_when_1 : decode cL_when 1 = .ok (.iconst 0, 1) := by decide +kernel
theorem dL_when_2 : decode cL_when 2 = .ok (.aload_n 0, 1) := by decide +kernel
theorem dL_when_3 : decode cL_when 3 = .ok (.iload_n 1, 1) := by decide +kernel
theorem dL_when_4 : decode cL_when 4 = .ok (.iload_n 2, 1) := by decide +kernel
theorem dL_when_5 : decode cL_when 5 = .ok (.invokevirtual 72, 3) := by decide +kernel
theorem dL_when_8 : decode cL_when 8 = .ok (.lastore, 1) := by decide +kernel
theorem dL_when_9 : decode cL_when 9 = .ok (.goto 7, 3) := by decide +kernel
theorem dL_when_12 : decode cL_when 12 = .ok (.astore 4, 2) := by decide +kernel
theorem dL_when_14 : decode cL_when 14 = .ok (.iconst 1, 1) := by decide +kernel
theorem dL_when_15 : decode cL_when 15 = .ok (.ireturn, 1) := by decide +kernel
theorem dL_when_16 : decode cL_when 16 = .ok (.iconst 0, 1) := by decide +kernel
theorem dL_when_17 : decode cL_when 17 = .ok (.ireturn, 1) := by decide +kernel
theorem dL_law_0 : decode cL_law 0 = .ok (.new 8, 3) := by decide +kernel
theorem dL_law_3 : decode cL_law 3 = .ok (.dup, 1) := by decide +kernel
theorem dL_law_4 : decode cL_law 4 = .ok (.invokespecial 75, 3) := by decide +kernel
theorem dL_law_7 : decode cL_law 7 = .ok (.astore_n 1, 1) := by decide +kernel
theorem dL_law_8 : decode cL_law 8 = .ok (.new 76, 3) := by decide +kernel
theorem dL_law_11 : decode cL_law 11 = .ok (.dup, 1) := by decide +kernel
theorem dL_law_12 : decode cL_law 12 = .ok (.invokespecial 78, 3) := by decide +kernel
theorem dL_law_15 : decode cL_law 15 = .ok (.astore_n 2, 1) := by decide +kernel
theorem dL_law_16 : decode cL_law 16 = .ok (.iconst 1, 1) := by decide +kernel
theorem dL_law_17 : decode cL_law 17 = .ok (.newarray .long, 2) := by decide +kernel
theorem dL_law_19 : decode cL_law 19 = .ok (.astore_n 3, 1) := by decide +kernel
theorem dL_law_20 : decode cL_law 20 = .ok (.iconst 0, 1) := by decide +kernel
theorem dL_law_21 : decode cL_law 21 = .ok (.istore 4, 2) := by decide +kernel
theorem dL_law_23 : decode cL_law 23 = .ok (.iload 4, 2) := by decide +kernel
theorem dL_law_25 : decode cL_law 25 = .ok (.aload_n 0, 1) := by decide +kernel
theorem dL_law_26 : decode cL_law 26 = .ok (.arraylength, 1) := by decide +kernel
theorem dL_law_27 : decode cL_law 27 = .ok (.bipush 8, 2) := by decide +kernel
theorem dL_law_29 : decode cL_law 29 = .ok (.isub, 1) := by decide +kernel
theorem dL_law_30 : decode cL_law 30 = .ok (.if_icmp .gt 2556, 3) := by decide +kernel
theorem dL_law_33 : decode cL_law 33 = .ok (.aload_n 0, 1) := by decide +kernel
theorem dL_law_34 : decode cL_law 34 = .ok (.iload 4, 2) := by decide +kernel
theorem dL_law_36 : decode cL_law 36 = .ok (.iaload, 1) := by decide +kernel
theorem dL_law_37 : decode cL_law 37 = .ok (.bipush 63, 2) := by decide +kernel
theorem dL_law_39 : decode cL_law 39 = .ok (.iand, 1) := by decide +kernel
theorem dL_law_40 : decode cL_law 40 = .ok (.tableswitch 2540 0 34 #[156, 303, 316, 353, 445, 506, 583, 674, 711, 760, 813, 892, 959, 984, 1087, 1218, 1349, 1440, 1519, 1598, 1701, 1818, 1910, 1990, 2070, 2095, 2120, 2157, 2194, 2243, 2256, 2311, 2395, 2462, 2515], 156) := by decide +kernel
theorem dL_law_196 : decode cL_law 196 = .ok (.aload_n 1, 1) := by decide +kernel
theorem dL_law_197 : decode cL_law 197 = .ok (.aload_n 0, 1) := by decide +kernel
theorem dL_law_198 : decode cL_law 198 = .ok (.iload 4, 2) := by decide +kernel
theorem dL_law_200 : decode cL_law 200 = .ok (.iconst 1, 1) := by decide +kernel
theorem dL_law_201 : decode cL_law 201 = .ok (.iadd, 1) := by decide +kernel
theorem dL_law_202 : decode cL_law 202 = .ok (.iaload, 1) := by decide +kernel
theorem dL_law_203 : decode cL_law 203 = .ok (.i2l, 1) := by decide +kernel
theorem dL_law_204 : decode cL_law 204 = .ok (.bipush 32, 2) := by decide +kernel
theorem dL_law_206 : decode cL_law 206 = .ok (.lshl, 1) := by decide +kernel
theorem dL_law_207 : decode cL_law 207 = .ok (.aload_n 0, 1) := by decide +kernel
theorem dL_law_208 : decode cL_law 208 = .ok (.iload 4, 2) := by decide +kernel
theorem dL_law_210 : decode cL_law 210 = .ok (.iconst 2, 1) := by decide +kernel
theorem dL_law_211 : decode cL_law 211 = .ok (.iadd, 1) := by decide +kernel
theorem dL_law_212 : decode cL_law 212 = .ok (.iaload, 1) := by decide +kernel
theorem dL_law_213 : decode cL_law 213 = .ok (.i2l, 1) := by decide +kernel
theorem dL_law_214 : decode cL_law 214 = .ok (.ldc2_w 79, 3) := by decide +kernel
theorem dL_law_217 : decode cL_law 217 = .ok (.land, 1) := by decide +kernel
theorem dL_law_218 : decode cL_law 218 = .ok (.lor, 1) := by decide +kernel
theorem dL_law_219 : decode cL_law 219 = .ok (.aload_n 0, 1) := by decide +kernel
theorem dL_law_220 : decode cL_law 220 = .ok (.iload 4, 2) := by decide +kernel
theorem dL_law_222 : decode cL_law 222 = .ok (.iconst 3, 1) := by decide +kernel
theorem dL_law_223 : decode cL_law 223 = .ok (.iadd, 1) := by decide +kernel
theorem dL_law_224 : decode cL_law 224 = .ok (.iaload, 1) := by decide +kernel
theorem dL_law_225 : decode cL_law 225 = .ok (.i2l, 1) := by decide +kernel
theorem dL_law_226 : decode cL_law 226 = .ok (.bipush 32, 2) := by decide +kernel
theorem dL_law_228 : decode cL_law 228 = .ok (.lshl, 1) := by decide +kernel
theorem dL_law_229 : decode cL_law 229 = .ok (.aload_n 0, 1) := by decide +kernel
theorem dL_law_230 : decode cL_law 230 = .ok (.iload 4, 2) := by decide +kernel
theorem dL_law_232 : decode cL_law 232 = .ok (.iconst 4, 1) := by decide +kernel
theorem dL_law_233 : decode cL_law 233 = .ok (.iadd, 1) := by decide +kernel
theorem dL_law_234 : decode cL_law 234 = .ok (.iaload, 1) := by decide +kernel
theorem dL_law_235 : decode cL_law 235 = .ok (.i2l, 1) := by decide +kernel
theorem dL_law_236 : decode cL_law 236 = .ok (.ldc2_w 79, 3) := by decide +kernel
theorem dL_law_239 : decode cL_law 239 = .ok (.land, 1) := by decide +kernel
theorem dL_law_240 : decode cL_law 240 = .ok (.lor, 1) := by decide +kernel
theorem dL_law_241 : decode cL_law 241 = .ok (.aload_n 0, 1) := by decide +kernel
theorem dL_law_242 : decode cL_law 242 = .ok (.iload 4, 2) := by decide +kernel
theorem dL_law_244 : decode cL_law 244 = .ok (.iconst 5, 1) := by decide +kernel
theorem dL_law_245 : decode cL_law 245 = .ok (.iadd, 1) := by decide +kernel
theorem dL_law_246 : decode cL_law 246 = .ok (.iaload, 1) := by decide +kernel
theorem dL_law_247 : decode cL_law 247 = .ok (.i2l, 1) := by decide +kernel
theorem dL_law_248 : decode cL_law 248 = .ok (.bipush 32, 2) := by decide +kernel
theorem dL_law_250 : decode cL_law 250 = .ok (.lshl, 1) := by decide +kernel
theorem dL_law_251 : decode cL_law 251 = .ok (.aload_n 0, 1) := by decide +kernel
theorem dL_law_252 : decode cL_law 252 = .ok (.iload 4, 2) := by decide +kernel
theorem dL_law_254 : decode cL_law 254 = .ok (.bipush 6, 2) := by decide +kernel
theorem dL_law_256 : decode cL_law 256 = .ok (.iadd, 1) := by decide +kernel
theorem dL_law_257 : decode cL_law 257 = .ok (.iaload, 1) := by decide +kernel
theorem dL_law_258 : decode cL_law 258 = .ok (.i2l, 1) := by decide +kernel
theorem dL_law_259 : decode cL_law 259 = .ok (.ldc2_w 79, 3) := by decide +kernel
theorem dL_law_262 : decode cL_law 262 = .ok (.land, 1) := by decide +kernel
theorem dL_law_263 : decode cL_law 263 = .ok (.lor, 1) := by decide +kernel
theorem dL_law_264 : decode cL_law 264 = .ok (.invokevirtual 81, 3) := by decide +kernel
theorem dL_law_267 : decode cL_law 267 = .ok (.aload_n 2, 1) := by decide +kernel
theorem dL_law_268 : decode cL_law 268 = .ok (.aload_n 0, 1) := by decide +kernel
theorem dL_law_269 : decode cL_law 269 = .ok (.iload 4, 2) := by decide +kernel
theorem dL_law_271 : decode cL_law 271 = .ok (.iconst 1, 1) := by decide +kernel
theorem dL_law_272 : decode cL_law 272 = .ok (.iadd, 1) := by decide +kernel
theorem dL_law_273 : decode cL_law 273 = .ok (.iaload, 1) := by decide +kernel
theorem dL_law_274 : decode cL_law 274 = .ok (.i2l, 1) := by decide +kernel
theorem dL_law_275 : decode cL_law 275 = .ok (.bipush 32, 2) := by decide +kernel
theorem dL_law_277 : decode cL_law 277 = .ok (.lshl, 1) := by decide +kernel
theorem dL_law_278 : decode cL_law 278 = .ok (.aload_n 0, 1) := by decide +kernel
theorem dL_law_279 : decode cL_law 279 = .ok (.iload 4, 2) := by decide +kernel
theorem dL_law_281 : decode cL_law 281 = .ok (.iconst 2, 1) := by decide +kernel
theorem dL_law_282 : decode cL_law 282 = .ok (.iadd, 1) := by decide +kernel
theorem dL_law_283 : decode cL_law 283 = .ok (.iaload, 1) := by decide +kernel
theorem dL_law_284 : decode cL_law 284 = .ok (.i2l, 1) := by decide +kernel
theorem dL_law_285 : decode cL_law 285 = .ok (.ldc2_w 79, 3) := by decide +kernel
theorem dL_law_288 : decode cL_law 288 = .ok (.land, 1) := by decide +kernel
theorem dL_law_289 : decode cL_law 289 = .ok (.lor, 1) := by decide +kernel
theorem dL_law_290 : decode cL_law 290 = .ok (.aload_n 0, 1) := by decide +kernel
theorem dL_law_291 : decode cL_law 291 = .ok (.iload 4, 2) := by decide +kernel
theorem dL_law_293 : decode cL_law 293 = .ok (.iconst 3, 1) := by decide +kernel
theorem dL_law_294 : decode cL_law 294 = .ok (.iadd, 1) := by decide +kernel
theorem dL_law_295 : decode cL_law 295 = .ok (.iaload, 1) := by decide +kernel
theorem dL_law_296 : decode cL_law 296 = .ok (.i2l, 1) := by decide +kernel
theorem dL_law_297 : decode cL_law 297 = .ok (.bipush 32, 2) := by decide +kernel
theorem dL_law_299 : decode cL_law 299 = .ok (.lshl, 1) := by decide +kernel
theorem dL_law_300 : decode cL_law 300 = .ok (.aload_n 0, 1) := by decide +kernel
theorem dL_law_301 : decode cL_law 301 = .ok (.iload 4, 2) := by decide +kernel
theorem dL_law_303 : decode cL_law 303 = .ok (.iconst 4, 1) := by decide +kernel
theorem dL_law_304 : decode cL_law 304 = .ok (.iadd, 1) := by decide +kernel
theorem dL_law_305 : decode cL_law 305 = .ok (.iaload, 1) := by decide +kernel
theorem dL_law_306 : decode cL_law 306 = .ok (.i2l, 1) := by decide +kernel
theorem dL_law_307 : decode cL_law 307 = .ok (.ldc2_w 79, 3) := by decide +kernel
theorem dL_law_310 : decode cL_law 310 = .ok (.land, 1) := by decide +kernel
theorem dL_law_311 : decode cL_law 311 = .ok (.lor, 1) := by decide +kernel
theorem dL_law_312 : decode cL_law 312 = .ok (.aload_n 0, 1) := by decide +kernel
theorem dL_law_313 : decode cL_law 313 = .ok (.iload 4, 2) := by decide +kernel
theorem dL_law_315 : decode cL_law 315 = .ok (.iconst 5, 1) := by decide +kernel
theorem dL_law_316 : decode cL_law 316 = .ok (.iadd, 1) := by decide +kernel
theorem dL_law_317 : decode cL_law 317 = .ok (.iaload, 1) := by decide +kernel
theorem dL_law_318 : decode cL_law 318 = .ok (.i2l, 1) := by decide +kernel
theorem dL_law_319 : decode cL_law 319 = .ok (.bipush 32, 2) := by decide +kernel
theorem dL_law_321 : decode cL_law 321 = .ok (.lshl, 1) := by decide +kernel
theorem dL_law_322 : decode cL_law 322 = .ok (.aload_n 0, 1) := by decide +kernel
theorem dL_law_323 : decode cL_law 323 = .ok (.iload 4, 2) := by decide +kernel
theorem dL_law_325 : decode cL_law 325 = .ok (.bipush 6, 2) := by decide +kernel
theorem dL_law_327 : decode cL_law 327 = .ok (.iadd, 1) := by decide +kernel
theorem dL_law_328 : decode cL_law 328 = .ok (.iaload, 1) := by decide +kernel
theorem dL_law_329 : decode cL_law 329 = .ok (.i2l, 1) := by decide +kernel
theorem dL_law_330 : decode cL_law 330 = .ok (.ldc2_w 79, 3) := by decide +kernel
theorem dL_law_333 : decode cL_law 333 = .ok (.land, 1) := by decide +kernel
theorem dL_law_334 : decode cL_law 334 = .ok (.lor, 1) := by decide +kernel
theorem dL_law_335 : decode cL_law 335 = .ok (.invokevirtual 85, 3) := by decide +kernel
theorem dL_law_338 : decode cL_law 338 = .ok (.if_icmp .eq 2242, 3) := by decide +kernel
theorem dL_law_341 : decode cL_law 341 = .ok (.iconst 0, 1) := by decide +kernel
theorem dL_law_342 : decode cL_law 342 = .ok (.ireturn, 1) := by decide +kernel
theorem dL_law_343 : decode cL_law 343 = .ok (.aload_n 1, 1) := by decide +kernel
theorem dL_law_344 : decode cL_law 344 = .ok (.invokevirtual 86, 3) := by decide +kernel
theorem dL_law_347 : decode cL_law 347 = .ok (.aload_n 2, 1) := by decide +kernel
theorem dL_law_348 : decode cL_law 348 = .ok (.invokevirtual 90, 3) := by decide +kernel
theorem dL_law_351 : decode cL_law 351 = .ok (.if_icmp .eq 2229, 3) := by decide +kernel
theorem dL_law_354 : decode cL_law 354 = .ok (.iconst 0, 1) := by decide +kernel
theorem dL_law_355 : decode cL_law 355 = .ok (.ireturn, 1) := by decide +kernel
theorem dL_law_356 : decode cL_law 356 = .ok (.aload_n 1, 1) := by decide +kernel
theorem dL_law_357 : decode cL_law 357 = .ok (.aload_n 0, 1) := by decide +kernel
theorem dL_law_358 : decode cL_law 358 = .ok (.iload 4, 2) := by decide +kernel
theorem dL_law_360 : decode cL_law 360 = .ok (.iconst 1, 1) := by decide +kernel
theorem dL_law_361 : decode cL_law 361 = .ok (.iadd, 1) := by decide +kernel
theorem dL_law_362 : decode cL_law 362 = .ok (.iaload, 1) := by decide +kernel
theorem dL_law_363 : decode cL_law 363 = .ok (.aload_n 0, 1) := by decide +kernel
theorem dL_law_364 : decode cL_law 364 = .ok (.iload 4, 2) := by decide +kernel
theorem dL_law_366 : decode cL_law 366 = .ok (.iconst 2, 1) := by decide +kernel
theorem dL_law_367 : decode cL_law 367 = .ok (.iadd, 1) := by decide +kernel
theorem dL_law_368 : decode cL_law 368 = .ok (.iaload, 1) := by decide +kernel
theorem dL_law_369 : decode cL_law 369 = .ok (.invokevirtual 91, 3) := by decide +kernel
theorem dL_law_372 : decode cL_law 372 = .ok (.aload_n 2, 1) := by decide +kernel
theorem dL_law_373 : decode cL_law 373 = .ok (.aload_n 0, 1) := by decide +kernel
theorem dL_law_374 : decode cL_law 374 = .ok (.iload 4, 2) := by decide +kernel
theorem dL_law_376 : decode cL_law 376 = .ok (.iconst 1, 1) := by decide +kernel
theorem dL_law_377 : decode cL_law 377 = .ok (.iadd, 1) := by decide +kernel
theorem dL_law_378 : decode cL_law 378 = .ok (.iaload, 1) := by decide +kernel
theorem dL_law_379 : decode cL_law 379 = .ok (.aload_n 0, 1) := by decide +kernel
theorem dL_law_380 : decode cL_law 380 = .ok (.iload 4, 2) := by decide +kernel
theorem dL_law_382 : decode cL_law 382 = .ok (.iconst 2, 1) := by decide +kernel
theorem dL_law_383 : decode cL_law 383 = .ok (.iadd, 1) := by decide +kernel
theorem dL_law_384 : decode cL_law 384 = .ok (.iaload, 1) := by decide +kernel
theorem dL_law_385 : decode cL_law 385 = .ok (.invokevirtual 95, 3) := by decide +kernel
theorem dL_law_388 : decode cL_law 388 = .ok (.if_icmp .eq 2192, 3) := by decide +kernel
theorem dL_law_391 : decode cL_law 391 = .ok (.iconst 0, 1) := by decide +kernel
theorem dL_law_392 : decode cL_law 392 = .ok (.ireturn, 1) := by decide +kernel
theorem dL_law_393 : decode cL_law 393 = .ok (.aload_n 1, 1) := by decide +kernel
theorem dL_law_394 : decode cL_law 394 = .ok (.aload_n 0, 1) := by decide +kernel
theorem dL_law_395 : decode cL_law 395 = .ok (.iload 4, 2) := by decide +kernel
theorem dL_law_397 : decode cL_law 397 = .ok (.iconst 1, 1) := by decide +kernel
theorem dL_law_398 : decode cL_law 398 = .ok (.iadd, 1) := by decide +kernel
theorem dL_law_399 : decode cL_law 399 = .ok (.iaload, 1) := by decide +kernel
theorem dL_law_400 : decode cL_law 400 = .ok (.aload_n 0, 1) := by decide +kernel
theorem dL_law_401 : decode cL_law 401 = .ok (.iload 4, 2) := by decide +kernel
theorem dL_law_403 : decode cL_law 403 = .ok (.iconst 2, 1) := by decide +kernel
theorem dL_law_404 : decode cL_law 404 = .ok (.iadd, 1) := by decide +kernel
theorem dL_law_405 : decode cL_law 405 = .ok (.iaload, 1) := by decide +kernel
theorem dL_law_406 : decode cL_law 406 = .ok (.aload_n 0, 1) := by decide +kernel
theorem dL_law_407 : decode cL_law 407 = .ok (.iload 4, 2) := by decide +kernel
theorem dL_law_409 : decode cL_law 409 = .ok (.iconst 3, 1) := by decide +kernel
theorem dL_law_410 : decode cL_law 410 = .ok (.iadd, 1) := by decide +kernel
theorem dL_law_411 : decode cL_law 411 = .ok (.iaload, 1) := by decide +kernel
theorem dL_law_412 : decode cL_law 412 = .ok (.aload_n 0, 1) := by decide +kernel
theorem dL_law_413 : decode cL_law 413 = .ok (.iload 4, 2) := by decide +kernel
theorem dL_law_415 : decode cL_law 415 = .ok (.iconst 4, 1) := by decide +kernel
theorem dL_law_416 : decode cL_law 416 = .ok (.iadd, 1) := by decide +kernel
theorem dL_law_417 : decode cL_law 417 = .ok (.iaload, 1) := by decide +kernel
theorem dL_law_418 : decode cL_law 418 = .ok (.aload_n 3, 1) := by decide +kernel
theorem dL_law_419 : decode cL_law 419 = .ok (.invokestatic 96, 3) := by decide +kernel
theorem dL_law_422 : decode cL_law 422 = .ok (.istore 5, 2) := by decide +kernel
theorem dL_law_424 : decode cL_law 424 = .ok (.aload_n 2, 1) := by decide +kernel
theorem dL_law_425 : decode cL_law 425 = .ok (.aload_n 0, 1) := by decide +kernel
theorem dL_law_426 : decode cL_law 426 = .ok (.iload 4, 2) := by decide +kernel
theorem dL_law_428 : decode cL_law 428 = .ok (.iconst 1, 1) := by decide +kernel
theorem dL_law_429 : decode cL_law 429 = .ok (.iadd, 1) := by decide +kernel
theorem dL_law_430 : decode cL_law 430 = .ok (.iaload, 1) := by decide +kernel
theorem dL_law_431 : decode cL_law 431 = .ok (.aload_n 0, 1) := by decide +kernel
theorem dL_law_432 : decode cL_law 432 = .ok (.iload 4, 2) := by decide +kernel
theorem dL_law_434 : decode cL_law 434 = .ok (.iconst 2, 1) := by decide +kernel
theorem dL_law_435 : decode cL_law 435 = .ok (.iadd, 1) := by decide +kernel
theorem dL_law_436 : decode cL_law 436 = .ok (.iaload, 1) := by decide +kernel
theorem dL_law_437 : decode cL_law 437 = .ok (.aload_n 0, 1) := by decide +kernel
theorem dL_law_438 : decode cL_law 438 = .ok (.iload 4, 2) := by decide +kernel
theorem dL_law_440 : decode cL_law 440 = .ok (.iconst 3, 1) := by decide +kernel
theorem dL_law_441 : decode cL_law 441 = .ok (.iadd, 1) := by decide +kernel
theorem dL_law_442 : decode cL_law 442 = .ok (.iaload, 1) := by decide +kernel
theorem dL_law_443 : decode cL_law 443 = .ok (.aload_n 0, 1) := by decide +kernel
theorem dL_law_444 : decode cL_law 444 = .ok (.iload 4, 2) := by decide +kernel
theorem dL_law_446 : decode cL_law 446 = .ok (.iconst 4, 1) := by decide +kernel
theorem dL_law_447 : decode cL_law 447 = .ok (.iadd, 1) := by decide +kernel
theorem dL_law_448 : decode cL_law 448 = .ok (.iaload, 1) := by decide +kernel
theorem dL_law_449 : decode cL_law 449 = .ok (.invokevirtual 101, 3) := by decide +kernel
theorem dL_law_452 : decode cL_law 452 = .ok (.istore 6, 2) := by decide +kernel
theorem dL_law_454 : decode cL_law 454 = .ok (.aload_n 2, 1) := by decide +kernel
theorem dL_law_455 : decode cL_law 455 = .ok (.invokevirtual 102, 3) := by decide +kernel
theorem dL_law_458 : decode cL_law 458 = .ok (.iload 5, 2) := by decide +kernel
theorem dL_law_460 : decode cL_law 460 = .ok (.if_icmp .eq 5, 3) := by decide +kernel
theorem dL_law_463 : decode cL_law 463 = .ok (.iconst 0, 1) := by decide +kernel
theorem dL_law_464 : decode cL_law 464 = .ok (.ireturn, 1) := by decide +kernel
theorem dL_law_465 : decode cL_law 465 = .ok (.iload 5, 2) := by decide +kernel
theorem dL_law_467 : decode cL_law 467 = .ok (.ifCond .ne 15, 3) := by decide +kernel
theorem dL_law_470 : decode cL_law 470 = .ok (.aload_n 3, 1) := by decide +kernel
theorem dL_law_471 : decode cL_law 471 = .ok (.iconst 0, 1) := by decide +kernel
theorem dL_law_472 : decode cL_law 472 = .ok (.laload, 1) := by decide +kernel
theorem dL_law_473 : decode cL_law 473 = .ok (.iload 6, 2) := by decide +kernel
theorem dL_law_475 : decode cL_law 475 = .ok (.i2l, 1) := by decide +kernel
theorem dL_law_476 : decode cL_law 476 = .ok (.lcmp, 1) := by decide +kernel
theorem dL_law_477 : decode cL_law 477 = .ok (.ifCond .eq 5, 3) := by decide +kernel
theorem dL_law_480 : decode cL_law 480 = .ok (.iconst 0, 1) := by decide +kernel
theorem dL_law_481 : decode cL_law 481 = .ok (.ireturn, 1) := by decide +kernel
theorem dL_law_482 : decode cL_law 482 = .ok (.goto 2098, 3) := by decide +kernel
theorem dL_law_485 : decode cL_law 485 = .ok (.aload_n 1, 1) := by decide +kernel
theorem dL_law_486 : decode cL_law 486 = .ok (.aload_n 0, 1) := by decide +kernel
theorem dL_law_487 : decode cL_law 487 = .ok (.iload 4, 2) := by decide +kernel
theorem dL_law_489 : decode cL_law 489 = .ok (.iconst 1, 1) := by decide +kernel
theorem dL_law_490 : decode cL_law 490 = .ok (.iadd, 1) := by decide +kernel
theorem dL_law_491 : decode cL_law 491 = .ok (.iaload, 1) := by decide +kernel
theorem dL_law_492 : decode cL_law 492 = .ok (.aload_n 0, 1) := by decide +kernel
theorem dL_law_493 : decode cL_law 493 = .ok (.iload 4, 2) := by decide +kernel
theorem dL_law_495 : decode cL_law 495 = .ok (.iconst 2, 1) := by decide +kernel
theorem dL_law_496 : decode cL_law 496 = .ok (.iadd, 1) := by decide +kernel
theorem dL_law_497 : decode cL_law 497 = .ok (.iaload, 1) := by decide +kernel
theorem dL_law_498 : decode cL_law 498 = .ok (.aload_n 0, 1) := by decide +kernel
theorem dL_law_499 : decode cL_law 499 = .ok (.iload 4, 2) := by decide +kernel
theorem dL_law_501 : decode cL_law 501 = .ok (.iconst 3, 1) := by decide +kernel
theorem dL_law_502 : decode cL_law 502 = .ok (.iadd, 1) := by decide +kernel
theorem dL_law_503 : decode cL_law 503 = .ok (.iaload, 1) := by decide +kernel
theorem dL_law_504 : decode cL_law 504 = .ok (.aload_n 0, 1) := by decide +kernel
theorem dL_law_505 : decode cL_law 505 = .ok (.iload 4, 2) := by decide +kernel
theorem dL_law_507 : decode cL_law 507 = .ok (.iconst 4, 1) := by decide +kernel
theorem dL_law_508 : decode cL_law 508 = .ok (.iadd, 1) := by decide +kernel
theorem dL_law_509 : decode cL_law 509 = .ok (.iaload, 1) := by decide +kernel
theorem dL_law_510 : decode cL_law 510 = .ok (.invokevirtual 105, 3) := by decide +kernel
theorem dL_law_513 : decode cL_law 513 = .ok (.aload_n 2, 1) := by decide +kernel
theorem dL_law_514 : decode cL_law 514 = .ok (.aload_n 0, 1) := by decide +kernel
theorem dL_law_515 : decode cL_law 515 = .ok (.iload 4, 2) := by decide +kernel
theorem dL_law_517 : decode cL_law 517 = .ok (.iconst 1, 1) := by decide +kernel
theorem dL_law_518 : decode cL_law 518 = .ok (.iadd, 1) := by decide +kernel
theorem dL_law_519 : decode cL_law 519 = .ok (.iaload, 1) := by decide +kernel
theorem dL_law_520 : decode cL_law 520 = .ok (.aload_n 0, 1) := by decide +kernel
theorem dL_law_521 : decode cL_law 521 = .ok (.iload 4, 2) := by decide +kernel
theorem dL_law_523 : decode cL_law 523 = .ok (.iconst 2, 1) := by decide +kernel
theorem dL_law_524 : decode cL_law 524 = .ok (.iadd, 1) := by decide +kernel
theorem dL_law_525 : decode cL_law 525 = .ok (.iaload, 1) := by decide +kernel
theorem dL_law_526 : decode cL_law 526 = .ok (.aload_n 0, 1) := by decide +kernel
theorem dL_law_527 : decode cL_law 527 = .ok (.iload 4, 2) := by decide +kernel
theorem dL_law_529 : decode cL_law 529 = .ok (.iconst 3, 1) := by decide +kernel
theorem dL_law_530 : decode cL_law 530 = .ok (.iadd, 1) := by decide +kernel
theorem dL_law_531 : decode cL_law 531 = .ok (.iaload, 1) := by decide +kernel
theorem dL_law_532 : decode cL_law 532 = .ok (.aload_n 0, 1) := by decide +kernel
theorem dL_law_533 : decode cL_law 533 = .ok (.iload 4, 2) := by decide +kernel
theorem dL_law_535 : decode cL_law 535 = .ok (.iconst 4, 1) := by decide +kernel
theorem dL_law_536 : decode cL_law 536 = .ok (.iadd, 1) := by decide +kernel
theorem dL_law_537 : decode cL_law 537 = .ok (.iaload, 1) := by decide +kernel
theorem dL_law_538 : decode cL_law 538 = .ok (.invokevirtual 108, 3) := by decide +kernel
theorem dL_law_541 : decode cL_law 541 = .ok (.if_icmp .eq 2039, 3) := by decide +kernel
theorem dL_law_544 : decode cL_law 544 = .ok (.iconst 0, 1) := by decide +kernel
theorem dL_law_545 : decode cL_law 545 = .ok (.ireturn, 1) := by decide +kernel
theorem dL_law_546 : decode cL_law 546 = .ok (.aload_n 1, 1) := by decide +kernel
theorem dL_law_547 : decode cL_law 547 = .ok (.aload_n 0, 1) := by decide +kernel
theorem dL_law_548 : decode cL_law 548 = .ok (.iload 4, 2) := by decide +kernel
theorem dL_law_550 : decode cL_law 550 = .ok (.iconst 1, 1) := by decide +kernel
theorem dL_law_551 : decode cL_law 551 = .ok (.iadd, 1) := by decide +kernel
theorem dL_law_552 : decode cL_law 552 = .ok (.iaload, 1) := by decide +kernel
theorem dL_law_553 : decode cL_law 553 = .ok (.aload_n 0, 1) := by decide +kernel
theorem dL_law_554 : decode cL_law 554 = .ok (.iload 4, 2) := by decide +kernel
theorem dL_law_556 : decode cL_law 556 = .ok (.iconst 2, 1) := by decide +kernel
theorem dL_law_557 : decode cL_law 557 = .ok (.iadd, 1) := by decide +kernel
theorem dL_law_558 : decode cL_law 558 = .ok (.iaload, 1) := by decide +kernel
theorem dL_law_559 : decode cL_law 559 = .ok (.aload_n 0, 1) := by decide +kernel
theorem dL_law_560 : decode cL_law 560 = .ok (.iload 4, 2) := by decide +kernel
theorem dL_law_562 : decode cL_law 562 = .ok (.iconst 3, 1) := by decide +kernel
theorem dL_law_563 : decode cL_law 563 = .ok (.iadd, 1) := by decide +kernel
