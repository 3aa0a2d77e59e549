theorem dX11_finds_123 : decode cX11_finds 123 = .ok (.aload_n 0, 1) := by decide +kernel
theorem dX11_finds_124 : decode cX11_finds 124 = .ok (.iload_n 2, 1) := by decide +kernel
theorem dX11_finds_125 : decode cX11_finds 125 = .ok (.invokevirtual 341, 3) := by decide +kernel
theorem dX11_finds_128 : decode cX11_finds 128 = .ok (.ifCond .eq 25, 3) := by decide +kernel
theorem dX11_finds_131 : decode cX11_finds 131 = .ok (.aload_n 0, 1) := by decide +kernel
theorem dX11_finds_132 : decode cX11_finds 132 = .ok (.iload_n 1, 1) := by decide +kernel
theorem dX11_finds_133 : decode cX11_finds 133 = .ok (.iload_n 3, 1) := by decide +kernel
theorem dX11_finds_134 : decode cX11_finds 134 = .ok (.bipush 6, 2) := by decide +kernel
theorem dX11_finds_136 : decode cX11_finds 136 = .ok (.idiv, 1) := by decide +kernel
theorem dX11_finds_137 : decode cX11_finds 137 = .ok (.iload_n 3, 1) := by decide +kernel
theorem dX11_finds_138 : decode cX11_finds 138 = .ok (.bipush 6, 2) := by decide +kernel
theorem dX11_finds_140 : decode cX11_finds 140 = .ok (.irem, 1) := by decide +kernel
theorem dX11_finds_141 : decode cX11_finds 141 = .ok (.iconst 1, 1) := by decide +kernel
theorem dX11_finds_142 : decode cX11_finds 142 = .ok (.iadd, 1) := by decide +kernel
theorem dX11_finds_143 : decode cX11_finds 143 = .ok (.iload_n 2, 1) := by decide +kernel
theorem dX11_finds_144 : decode cX11_finds 144 = .ok (.invokevirtual 406, 3) := by decide +kernel
theorem dX11_finds_147 : decode cX11_finds 147 = .ok (.iinc 3 1, 3) := by decide +kernel
theorem dX11_finds_150 : decode cX11_finds 150 = .ok (.goto (-33), 3) := by decide +kernel
theorem dX11_finds_153 : decode cX11_finds 153 = .ok (.iinc 2 1, 3) := by decide +kernel
theorem dX11_finds_156 : decode cX11_finds 156 = .ok (.goto (-47), 3) := by decide +kernel
theorem dX11_finds_159 : decode cX11_finds 159 = .ok (.iinc 1 (-1), 3) := by decide +kernel
theorem dX11_finds_162 : decode cX11_finds 162 = .ok (.goto (-133), 3) := by decide +kernel
theorem dX11_finds_165 : decode cX11_finds 165 = .ok (.return_, 1) := by decide +kernel
theorem dX11_likelyFor_0 : decode cX11_likelyFor 0 = .ok (.aload_n 0, 1) := by decide +kernel
theorem dX11_likelyFor_1 : decode cX11_likelyFor 1 = .ok (.iload_n 1, 1) := by decide +kernel
theorem dX11_likelyFor_2 : decode cX11_likelyFor 2 = .ok (.iload_n 3, 1) := by decide +kernel
theorem dX11_likelyFor_3 : decode cX11_likelyFor 3 = .ok (.invokevirtual 374, 3) := by decide +kernel
theorem dX11_likelyFor_6 : decode cX11_likelyFor 6 = .ok (.istore 5, 2) := by decide +kernel
theorem dX11_likelyFor_8 : decode cX11_likelyFor 8 = .ok (.iload 5, 2) := by decide +kernel
theorem dX11_likelyFor_10 : decode cX11_likelyFor 10 = .ok (.ifCond .eq 11, 3) := by decide +kernel
theorem dX11_likelyFor_13 : decode cX11_likelyFor 13 = .ok (.iload_n 2, 1) := by decide +kernel
theorem dX11_likelyFor_14 : decode cX11_likelyFor 14 = .ok (.aload_n 0, 1) := by decide +kernel
theorem dX11_likelyFor_15 : decode cX11_likelyFor 15 = .ok (.invokevirtual 323, 3) := by decide +kernel
theorem dX11_likelyFor_18 : decode cX11_likelyFor 18 = .ok (.if_icmp .lt 4, 3) := by decide +kernel
theorem dX11_likelyFor_21 : decode cX11_likelyFor 21 = .ok (.return_, 1) := by decide +kernel
theorem dX11_likelyFor_22 : decode cX11_likelyFor 22 = .ok (.lconst 0, 1) := by decide +kernel
theorem dX11_likelyFor_23 : decode cX11_likelyFor 23 = .ok (.lstore 6, 2) := by decide +kernel
theorem dX11_likelyFor_25 : decode cX11_likelyFor 25 = .ok (.iconst (-1), 1) := by decide +kernel
theorem dX11_likelyFor_26 : decode cX11_likelyFor 26 = .ok (.istore 8, 2) := by decide +kernel
theorem dX11_likelyFor_28 : decode cX11_likelyFor 28 = .ok (.iload 8, 2) := by decide +kernel
theorem dX11_likelyFor_30 : decode cX11_likelyFor 30 = .ok (.aload_n 0, 1) := by decide +kernel
theorem dX11_likelyFor_31 : decode cX11_likelyFor 31 = .ok (.invokevirtual 323, 3) := by decide +kernel
theorem dX11_likelyFor_34 : decode cX11_likelyFor 34 = .ok (.if_icmp .ge 95, 3) := by decide +kernel
theorem dX11_likelyFor_37 : decode cX11_likelyFor 37 = .ok (.aload_n 0, 1) := by decide +kernel
theorem dX11_likelyFor_38 : decode cX11_likelyFor 38 = .ok (.iload_n 1, 1) := by decide +kernel
theorem dX11_likelyFor_39 : decode cX11_likelyFor 39 = .ok (.iload 8, 2) := by decide +kernel
theorem dX11_likelyFor_41 : decode cX11_likelyFor 41 = .ok (.invokevirtual 410, 3) := by decide +kernel
theorem dX11_likelyFor_44 : decode cX11_likelyFor 44 = .ok (.istore 9, 2) := by decide +kernel
theorem dX11_likelyFor_46 : decode cX11_likelyFor 46 = .ok (.iload 9, 2) := by decide +kernel
theorem dX11_likelyFor_48 : decode cX11_likelyFor 48 = .ok (.ifCond .le 75, 3) := by decide +kernel
theorem dX11_likelyFor_51 : decode cX11_likelyFor 51 = .ok (.iload 8, 2) := by decide +kernel
theorem dX11_likelyFor_53 : decode cX11_likelyFor 53 = .ok (.ifCond .ge 8, 3) := by decide +kernel
theorem dX11_likelyFor_56 : decode cX11_likelyFor 56 = .ok (.iload 4, 2) := by decide +kernel
theorem dX11_likelyFor_58 : decode cX11_likelyFor 58 = .ok (.goto 16, 3) := by decide +kernel
theorem dX11_likelyFor_61 : decode cX11_likelyFor 61 = .ok (.aload_n 0, 1) := by decide +kernel
theorem dX11_likelyFor_62 : decode cX11_likelyFor 62 = .ok (.getfield 101, 3) := by decide +kernel
theorem dX11_likelyFor_65 : decode cX11_likelyFor 65 = .ok (.iload_n 1, 1) := by decide +kernel
theorem dX11_likelyFor_66 : decode cX11_likelyFor 66 = .ok (.iload 8, 2) := by decide +kernel
theorem dX11_likelyFor_68 : decode cX11_likelyFor 68 = .ok (.iload 4, 2) := by decide +kernel
theorem dX11_likelyFor_70 : decode cX11_likelyFor 70 = .ok (.invokestatic 400, 3) := by decide +kernel
theorem dX11_likelyFor_73 : decode cX11_likelyFor 73 = .ok (.iaload, 1) := by decide +kernel
theorem dX11_likelyFor_74 : decode cX11_likelyFor 74 = .ok (.istore 10, 2) := by decide +kernel
theorem dX11_likelyFor_76 : decode cX11_likelyFor 76 = .ok (.lload 6, 2) := by decide +kernel
theorem dX11_likelyFor_78 : decode cX11_likelyFor 78 = .ok (.iload 9, 2) := by decide +kernel
theorem dX11_likelyFor_80 : decode cX11_likelyFor 80 = .ok (.i2l, 1) := by decide +kernel
theorem dX11_likelyFor_81 : decode cX11_likelyFor 81 = .ok (.aload_n 0, 1) := by decide +kernel
theorem dX11_likelyFor_82 : decode cX11_likelyFor 82 = .ok (.iload_n 2, 1) := by decide +kernel
theorem dX11_likelyFor_83 : decode cX11_likelyFor 83 = .ok (.iload 10, 2) := by decide +kernel
theorem dX11_likelyFor_85 : decode cX11_likelyFor 85 = .ok (.iload_n 3, 1) := by decide +kernel
theorem dX11_likelyFor_86 : decode cX11_likelyFor 86 = .ok (.iload_n 1, 1) := by decide +kernel
theorem dX11_likelyFor_87 : decode cX11_likelyFor 87 = .ok (.invokevirtual 371, 3) := by decide +kernel
theorem dX11_likelyFor_90 : decode cX11_likelyFor 90 = .ok (.i2l, 1) := by decide +kernel
theorem dX11_likelyFor_91 : decode cX11_likelyFor 91 = .ok (.aload_n 0, 1) := by decide +kernel
theorem dX11_likelyFor_92 : decode cX11_likelyFor 92 = .ok (.getfield 121, 3) := by decide +kernel
theorem dX11_likelyFor_95 : decode cX11_likelyFor 95 = .ok (.iload 5, 2) := by decide +kernel
theorem dX11_likelyFor_97 : decode cX11_likelyFor 97 = .ok (.iconst 1, 1) := by decide +kernel
theorem dX11_likelyFor_98 : decode cX11_likelyFor 98 = .ok (.isub, 1) := by decide +kernel
theorem dX11_likelyFor_99 : decode cX11_likelyFor 99 = .ok (.laload, 1) := by decide +kernel
theorem dX11_likelyFor_100 : decode cX11_likelyFor 100 = .ok (.lmul, 1) := by decide +kernel
theorem dX11_likelyFor_101 : decode cX11_likelyFor 101 = .ok (.aload_n 0, 1) := by decide +kernel
theorem dX11_likelyFor_102 : decode cX11_likelyFor 102 = .ok (.getfield 104, 3) := by decide +kernel
theorem dX11_likelyFor_105 : decode cX11_likelyFor 105 = .ok (.iload_n 1, 1) := by decide +kernel
theorem dX11_likelyFor_106 : decode cX11_likelyFor 106 = .ok (.iconst 1, 1) := by decide +kernel
theorem dX11_likelyFor_107 : decode cX11_likelyFor 107 = .ok (.iadd, 1) := by decide +kernel
theorem dX11_likelyFor_108 : decode cX11_likelyFor 108 = .ok (.iload_n 2, 1) := by decide +kernel
theorem dX11_likelyFor_109 : decode cX11_likelyFor 109 = .ok (.iload_n 3, 1) := by decide +kernel
theorem dX11_likelyFor_110 : decode cX11_likelyFor 110 = .ok (.iconst 1, 1) := by decide +kernel
theorem dX11_likelyFor_111 : decode cX11_likelyFor 111 = .ok (.iadd, 1) := by decide +kernel
theorem dX11_likelyFor_112 : decode cX11_likelyFor 112 = .ok (.iload 10, 2) := by decide +kernel
theorem dX11_likelyFor_114 : decode cX11_likelyFor 114 = .ok (.invokestatic 377, 3) := by decide +kernel
theorem dX11_likelyFor_117 : decode cX11_likelyFor 117 = .ok (.laload, 1) := by decide +kernel
theorem dX11_likelyFor_118 : decode cX11_likelyFor 118 = .ok (.ladd, 1) := by decide +kernel
theorem dX11_likelyFor_119 : decode cX11_likelyFor 119 = .ok (.lmul, 1) := by decide +kernel
theorem dX11_likelyFor_120 : decode cX11_likelyFor 120 = .ok (.ladd, 1) := by decide +kernel
theorem dX11_likelyFor_121 : decode cX11_likelyFor 121 = .ok (.lstore 6, 2) := by decide +kernel
theorem dX11_likelyFor_123 : decode cX11_likelyFor 123 = .ok (.iinc 8 1, 3) := by decide +kernel
theorem dX11_likelyFor_126 : decode cX11_likelyFor 126 = .ok (.goto (-98), 3) := by decide +kernel
theorem dX11_likelyFor_129 : decode cX11_likelyFor 129 = .ok (.aload_n 0, 1) := by decide +kernel
theorem dX11_likelyFor_130 : decode cX11_likelyFor 130 = .ok (.getfield 104, 3) := by decide +kernel
theorem dX11_likelyFor_133 : decode cX11_likelyFor 133 = .ok (.iload_n 1, 1) := by decide +kernel
theorem dX11_likelyFor_134 : decode cX11_likelyFor 134 = .ok (.iload_n 2, 1) := by decide +kernel
theorem dX11_likelyFor_135 : decode cX11_likelyFor 135 = .ok (.iload_n 3, 1) := by decide +kernel
theorem dX11_likelyFor_136 : decode cX11_likelyFor 136 = .ok (.iload 4, 2) := by decide +kernel
theorem dX11_likelyFor_138 : decode cX11_likelyFor 138 = .ok (.invokestatic 377, 3) := by decide +kernel
theorem dX11_likelyFor_141 : decode cX11_likelyFor 141 = .ok (.lload 6, 2) := by decide +kernel
theorem dX11_likelyFor_143 : decode cX11_likelyFor 143 = .ok (.lastore, 1) := by decide +kernel
theorem dX11_likelyFor_144 : decode cX11_likelyFor 144 = .ok (.return_, 1) := by decide +kernel
theorem dX11_isOne_0 : decode cX11_isOne 0 = .ok (.aload_n 0, 1) := by decide +kernel
theorem dX11_isOne_1 : decode cX11_isOne 1 = .ok (.iload_n 1, 1) := by decide +kernel
theorem dX11_isOne_2 : decode cX11_isOne 2 = .ok (.invokevirtual 354, 3) := by decide +kernel
theorem dX11_isOne_5 : decode cX11_isOne 5 = .ok (.ifCond .eq 23, 3) := by decide +kernel
theorem dX11_isOne_8 : decode cX11_isOne 8 = .ok (.aload_n 0, 1) := by decide +kernel
theorem dX11_isOne_9 : decode cX11_isOne 9 = .ok (.iload_n 2, 1) := by decide +kernel
theorem dX11_isOne_10 : decode cX11_isOne 10 = .ok (.invokevirtual 338, 3) := by decide +kernel
theorem dX11_isOne_13 : decode cX11_isOne 13 = .ok (.ifCond .eq 15, 3) := by decide +kernel
theorem dX11_isOne_16 : decode cX11_isOne 16 = .ok (.aload_n 0, 1) := by decide +kernel
theorem dX11_isOne_17 : decode cX11_isOne 17 = .ok (.iload_n 3, 1) := by decide +kernel
theorem dX11_isOne_18 : decode cX11_isOne 18 = .ok (.invokevirtual 341, 3) := by decide +kernel
theorem dX11_isOne_21 : decode cX11_isOne 21 = .ok (.ifCond .eq 7, 3) := by decide +kernel
theorem dX11_isOne_24 : decode cX11_isOne 24 = .ok (.iconst 1, 1) := by decide +kernel
theorem dX11_isOne_25 : decode cX11_isOne 25 = .ok (.goto 4, 3) := by decide +kernel
theorem dX11_isOne_28 : decode cX11_isOne 28 = .ok (.iconst 0, 1) := by decide +kernel
theorem dX11_isOne_29 : decode cX11_isOne 29 = .ok (.ireturn, 1) := by decide +kernel
theorem dX11_plain_0 : decode cX11_plain 0 = .ok (.iconst 0, 1) := by decide +kernel
theorem dX11_plain_1 : decode cX11_plain 1 = .ok (.istore 5, 2) := by decide +kernel
theorem dX11_plain_3 : decode cX11_plain 3 = .ok (.iconst 0, 1) := by decide +kernel
theorem dX11_plain_4 : decode cX11_plain 4 = .ok (.istore 6, 2) := by decide +kernel
theorem dX11_plain_6 : decode cX11_plain 6 = .ok (.iload 6, 2) := by decide +kernel
theorem dX11_plain_8 : decode cX11_plain 8 = .ok (.aload_n 0, 1) := by decide +kernel
theorem dX11_plain_9 : decode cX11_plain 9 = .ok (.iload_n 1, 1) := by decide +kernel
theorem dX11_plain_10 : decode cX11_plain 10 = .ok (.iload_n 3, 1) := by decide +kernel
theorem dX11_plain_11 : decode cX11_plain 11 = .ok (.invokevirtual 374, 3) := by decide +kernel
theorem dX11_plain_14 : decode cX11_plain 14 = .ok (.if_icmp .ge 29, 3) := by decide +kernel
theorem dX11_plain_17 : decode cX11_plain 17 = .ok (.iload 5, 2) := by decide +kernel
theorem dX11_plain_19 : decode cX11_plain 19 = .ok (.aload_n 0, 1) := by decide +kernel
theorem dX11_plain_20 : decode cX11_plain 20 = .ok (.iload_n 2, 1) := by decide +kernel
theorem dX11_plain_21 : decode cX11_plain 21 = .ok (.iload 4, 2) := by decide +kernel
theorem dX11_plain_23 : decode cX11_plain 23 = .ok (.iload_n 3, 1) := by decide +kernel
theorem dX11_plain_24 : decode cX11_plain 24 = .ok (.iload 6, 2) := by decide +kernel
theorem dX11_plain_26 : decode cX11_plain 26 = .ok (.iadd, 1) := by decide +kernel
theorem dX11_plain_27 : decode cX11_plain 27 = .ok (.iload_n 1, 1) := by decide +kernel
theorem dX11_plain_28 : decode cX11_plain 28 = .ok (.iload 6, 2) := by decide +kernel
theorem dX11_plain_30 : decode cX11_plain 30 = .ok (.iadd, 1) := by decide +kernel
theorem dX11_plain_31 : decode cX11_plain 31 = .ok (.invokevirtual 371, 3) := by decide +kernel
theorem dX11_plain_34 : decode cX11_plain 34 = .ok (.iadd, 1) := by decide +kernel
theorem dX11_plain_35 : decode cX11_plain 35 = .ok (.istore 5, 2) := by decide +kernel
theorem dX11_plain_37 : decode cX11_plain 37 = .ok (.iinc 6 1, 3) := by decide +kernel
theorem dX11_plain_40 : decode cX11_plain 40 = .ok (.goto (-34), 3) := by decide +kernel
theorem dX11_plain_43 : decode cX11_plain 43 = .ok (.iload 5, 2) := by decide +kernel
theorem dX11_plain_45 : decode cX11_plain 45 = .ok (.ireturn, 1) := by decide +kernel
theorem dX11_plainChoice_0 : decode cX11_plainChoice 0 = .ok (.iload 4, 2) := by decide +kernel
theorem dX11_plainChoice_2 : decode cX11_plainChoice 2 = .ok (.istore 5, 2) := by decide +kernel
theorem dX11_plainChoice_4 : decode cX11_plainChoice 4 = .ok (.aload_n 0, 1) := by decide +kernel
theorem dX11_plainChoice_5 : decode cX11_plainChoice 5 = .ok (.iload_n 1, 1) := by decide +kernel
theorem dX11_plainChoice_6 : decode cX11_plainChoice 6 = .ok (.iload_n 2, 1) := by decide +kernel
theorem dX11_plainChoice_7 : decode cX11_plainChoice 7 = .ok (.iload_n 3, 1) := by decide +kernel
theorem dX11_plainChoice_8 : decode cX11_plainChoice 8 = .ok (.iload 4, 2) := by decide +kernel
theorem dX11_plainChoice_10 : decode cX11_plainChoice 10 = .ok (.invokevirtual 413, 3) := by decide +kernel
theorem dX11_plainChoice_13 : decode cX11_plainChoice 13 = .ok (.istore 6, 2) := by decide +kernel
theorem dX11_plainChoice_15 : decode cX11_plainChoice 15 = .ok (.iconst 1, 1) := by decide +kernel
theorem dX11_plainChoice_16 : decode cX11_plainChoice 16 = .ok (.istore 7, 2) := by decide +kernel
theorem dX11_plainChoice_18 : decode cX11_plainChoice 18 = .ok (.iload 7, 2) := by decide +kernel
theorem dX11_plainChoice_20 : decode cX11_plainChoice 20 = .ok (.bipush 10, 2) := by decide +kernel
theorem dX11_plainChoice_22 : decode cX11_plainChoice 22 = .ok (.if_icmp .ge 72, 3) := by decide +kernel
theorem dX11_plainChoice_25 : decode cX11_plainChoice 25 = .ok (.aload_n 0, 1) := by decide +kernel
theorem dX11_plainChoice_26 : decode cX11_plainChoice 26 = .ok (.iload_n 1, 1) := by decide +kernel
theorem dX11_plainChoice_27 : decode cX11_plainChoice 27 = .ok (.iload 4, 2) := by decide +kernel
theorem dX11_plainChoice_29 : decode cX11_plainChoice 29 = .ok (.iload 7, 2) := by decide +kernel
theorem dX11_plainChoice_31 : decode cX11_plainChoice 31 = .ok (.invokevirtual 387, 3) := by decide +kernel
theorem dX11_plainChoice_34 : decode cX11_plainChoice 34 = .ok (.istore 8, 2) := by decide +kernel
theorem dX11_plainChoice_36 : decode cX11_plainChoice 36 = .ok (.iload 8, 2) := by decide +kernel
theorem dX11_plainChoice_38 : decode cX11_plainChoice 38 = .ok (.ifCond .lt 50, 3) := by decide +kernel
theorem dX11_plainChoice_41 : decode cX11_plainChoice 41 = .ok (.aload_n 0, 1) := by decide +kernel
theorem dX11_plainChoice_42 : decode cX11_plainChoice 42 = .ok (.iload_n 1, 1) := by decide +kernel
theorem dX11_plainChoice_43 : decode cX11_plainChoice 43 = .ok (.iload_n 2, 1) := by decide +kernel
theorem dX11_plainChoice_44 : decode cX11_plainChoice 44 = .ok (.iload_n 3, 1) := by decide +kernel
theorem dX11_plainChoice_45 : decode cX11_plainChoice 45 = .ok (.iload 8, 2) := by decide +kernel
theorem dX11_plainChoice_47 : decode cX11_plainChoice 47 = .ok (.invokevirtual 413, 3) := by decide +kernel
theorem dX11_plainChoice_50 : decode cX11_plainChoice 50 = .ok (.aload_n 0, 1) := by decide +kernel
theorem dX11_plainChoice_51 : decode cX11_plainChoice 51 = .ok (.iload 4, 2) := by decide +kernel
theorem dX11_plainChoice_53 : decode cX11_plainChoice 53 = .ok (.iload 8, 2) := by decide +kernel
theorem dX11_plainChoice_55 : decode cX11_plainChoice 55 = .ok (.invokevirtual 384, 3) := by decide +kernel
theorem dX11_plainChoice_58 : decode cX11_plainChoice 58 = .ok (.isub, 1) := by decide +kernel
theorem dX11_plainChoice_59 : decode cX11_plainChoice 59 = .ok (.iload 6, 2) := by decide +kernel
theorem dX11_plainChoice_61 : decode cX11_plainChoice 61 = .ok (.if_icmp .le 27, 3) := by decide +kernel
theorem dX11_plainChoice_64 : decode cX11_plainChoice 64 = .ok (.aload_n 0, 1) := by decide +kernel
theorem dX11_plainChoice_65 : decode cX11_plainChoice 65 = .ok (.iload_n 1, 1) := by decide +kernel
theorem dX11_plainChoice_66 : decode cX11_plainChoice 66 = .ok (.iload_n 2, 1) := by decide +kernel
theorem dX11_plainChoice_67 : decode cX11_plainChoice 67 = .ok (.iload_n 3, 1) := by decide +kernel
theorem dX11_plainChoice_68 : decode cX11_plainChoice 68 = .ok (.iload 8, 2) := by decide +kernel
theorem dX11_plainChoice_70 : decode cX11_plainChoice 70 = .ok (.invokevirtual 413, 3) := by decide +kernel
theorem dX11_plainChoice_73 : decode cX11_plainChoice 73 = .ok (.aload_n 0, 1) := by decide +kernel
theorem dX11_plainChoice_74 : decode cX11_plainChoice 74 = .ok (.iload 4, 2) := by decide +kernel
theorem dX11_plainChoice_76 : decode cX11_plainChoice 76 = .ok (.iload 8, 2) := by decide +kernel
theorem dX11_plainChoice_78 : decode cX11_plainChoice 78 = .ok (.invokevirtual 384, 3) := by decide +kernel
theorem dX11_plainChoice_81 : decode cX11_plainChoice 81 = .ok (.isub, 1) := by decide +kernel
theorem dX11_plainChoice_82 : decode cX11_plainChoice 82 = .ok (.istore 6, 2) := by decide +kernel
theorem dX11_plainChoice_84 : decode cX11_plainChoice 84 = .ok (.iload 8, 2) := by decide +kernel
theorem dX11_plainChoice_86 : decode cX11_plainChoice 86 = .ok (.istore 5, 2) := by decide +kernel
theorem dX11_plainChoice_88 : decode cX11_plainChoice 88 = .ok (.iinc 7 1, 3) := by decide +kernel
theorem dX11_plainChoice_91 : decode cX11_plainChoice 91 = .ok (.goto (-73), 3) := by decide +kernel
theorem dX11_plainChoice_94 : decode cX11_plainChoice 94 = .ok (.iload 5, 2) := by decide +kernel
theorem dX11_plainChoice_96 : decode cX11_plainChoice 96 = .ok (.ireturn, 1) := by decide +kernel
theorem dX11_chooses_0 : decode cX11_chooses 0 = .ok (.aload_n 0, 1) := by decide +kernel
theorem dX11_chooses_1 : decode cX11_chooses 1 = .ok (.iconst 0, 1) := by decide +kernel
theorem dX11_chooses_2 : decode cX11_chooses 2 = .ok (.putfield 1, 3) := by decide +kernel
theorem dX11_chooses_5 : decode cX11_chooses 5 = .ok (.aload_n 0, 1) := by decide +kernel
theorem dX11_chooses_6 : decode cX11_chooses 6 = .ok (.iload_n 1, 1) := by decide +kernel
theorem dX11_chooses_7 : decode cX11_chooses 7 = .ok (.iload_n 2, 1) := by decide +kernel
theorem dX11_chooses_8 : decode cX11_chooses 8 = .ok (.iload_n 3, 1) := by decide +kernel
theorem dX11_chooses_9 : decode cX11_chooses 9 = .ok (.invokevirtual 416, 3) := by decide +kernel
theorem dX11_chooses_12 : decode cX11_chooses 12 = .ok (.ifCond .ne 5, 3) := by decide +kernel
theorem dX11_chooses_15 : decode cX11_chooses 15 = .ok (.iconst (-1), 1) := by decide +kernel
theorem dX11_chooses_16 : decode cX11_chooses 16 = .ok (.ireturn, 1) := by decide +kernel
theorem dX11_chooses_17 : decode cX11_chooses 17 = .ok (.aload_n 0, 1) := by decide +kernel
theorem dX11_chooses_18 : decode cX11_chooses 18 = .ok (.invokevirtual 419, 3) := by decide +kernel
theorem dX11_chooses_21 : decode cX11_chooses 21 = .ok (.iload 4, 2) := by decide +kernel
theorem dX11_chooses_23 : decode cX11_chooses 23 = .ok (.ifCond .eq 17, 3) := by decide +kernel
theorem dX11_chooses_26 : decode cX11_chooses 26 = .ok (.aload_n 0, 1) := by decide +kernel
theorem dX11_chooses_27 : decode cX11_chooses 27 = .ok (.getfield 101, 3) := by decide +kernel
theorem dX11_chooses_30 : decode cX11_chooses 30 = .ok (.iload_n 1, 1) := by decide +kernel
theorem dX11_chooses_31 : decode cX11_chooses 31 = .ok (.iload_n 2, 1) := by decide +kernel
theorem dX11_chooses_32 : decode cX11_chooses 32 = .ok (.iload_n 3, 1) := by decide +kernel
theorem dX11_chooses_33 : decode cX11_chooses 33 = .ok (.invokestatic 400, 3) := by decide +kernel
theorem dX11_chooses_36 : decode cX11_chooses 36 = .ok (.iaload, 1) := by decide +kernel
theorem dX11_chooses_37 : decode cX11_chooses 37 = .ok (.goto 11, 3) := by decide +kernel
theorem dX11_chooses_40 : decode cX11_chooses 40 = .ok (.aload_n 0, 1) := by decide +kernel
theorem dX11_chooses_41 : decode cX11_chooses 41 = .ok (.iload_n 1, 1) := by decide +kernel
theorem dX11_chooses_42 : decode cX11_chooses 42 = .ok (.iload_n 2, 1) := by decide +kernel
theorem dX11_chooses_43 : decode cX11_chooses 43 = .ok (.iconst 0, 1) := by decide +kernel
theorem dX11_chooses_44 : decode cX11_chooses 44 = .ok (.iload_n 3, 1) := by decide +kernel
theorem dX11_chooses_45 : decode cX11_chooses 45 = .ok (.invokevirtual 422, 3) := by decide +kernel
theorem dX11_chooses_48 : decode cX11_chooses 48 = .ok (.ireturn, 1) := by decide +kernel
theorem dX11_common_0 : decode cX11_common 0 = .ok (.lload_n 0, 1) := by decide +kernel
theorem dX11_common_1 : decode cX11_common 1 = .ok (.lconst 0, 1) := by decide +kernel
theorem dX11_common_2 : decode cX11_common 2 = .ok (.lcmp, 1) := by decide +kernel
theorem dX11_common_3 : decode cX11_common 3 = .ok (.ifCond .ge 8, 3) := by decide +kernel
theorem dX11_common_6 : decode cX11_common 6 = .ok (.lload_n 0, 1) := by decide +kernel
theorem dX11_common_7 : decode cX11_common 7 = .ok (.lneg, 1) := by decide +kernel
theorem dX11_common_8 : decode cX11_common 8 = .ok (.goto 4, 3) := by decide +kernel
theorem dX11_common_11 : decode cX11_common 11 = .ok (.lload_n 0, 1) := by decide +kernel
theorem dX11_common_12 : decode cX11_common 12 = .ok (.lstore 4, 2) := by decide +kernel
theorem dX11_common_14 : decode cX11_common 14 = .ok (.lload_n 2, 1) := by decide +kernel
theorem dX11_common_15 : decode cX11_common 15 = .ok (.lconst 0, 1) := by decide +kernel
theorem dX11_common_16 : decode cX11_common 16 = .ok (.lcmp, 1) := by decide +kernel
theorem dX11_common_17 : decode cX11_common 17 = .ok (.ifCond .ge 8, 3) := by decide +kernel
theorem dX11_common_20 : decode cX11_common 20 = .ok (.lload_n 2, 1) := by decide +kernel
theorem dX11_common_21 : decode cX11_common 21 = .ok (.lneg, 1) := by decide +kernel
theorem dX11_common_22 : decode cX11_common 22 = .ok (.goto 4, 3) := by decide +kernel
theorem dX11_common_25 : decode cX11_common 25 = .ok (.lload_n 2, 1) := by decide +kernel
theorem dX11_common_26 : decode cX11_common 26 = .ok (.lstore 6, 2) := by decide +kernel
theorem dX11_common_28 : decode cX11_common 28 = .ok (.lload 6, 2) := by decide +kernel
theorem dX11_common_30 : decode cX11_common 30 = .ok (.lconst 0, 1) := by decide +kernel
theorem dX11_common_31 : decode cX11_common 31 = .ok (.lcmp, 1) := by decide +kernel
theorem dX11_common_32 : decode cX11_common 32 = .ok (.ifCond .eq 21, 3) := by decide +kernel
theorem dX11_common_35 : decode cX11_common 35 = .ok (.lload 4, 2) := by decide +kernel
theorem dX11_common_37 : decode cX11_common 37 = .ok (.lload 6, 2) := by decide +kernel
theorem dX11_common_39 : decode cX11_common 39 = .ok (.lrem, 1) := by decide +kernel
theorem dX11_common_40 : decode cX11_common 40 = .ok (.lstore 8, 2) := by decide +kernel
theorem dX11_common_42 : decode cX11_common 42 = .ok (.lload 6, 2) := by decide +kernel
theorem dX11_common_44 : decode cX11_common 44 = .ok (.lstore 4, 2) := by decide +kernel
theorem dX11_common_46 : decode cX11_common 46 = .ok (.lload 8, 2) := by decide +kernel
theorem dX11_common_48 : decode cX11_common 48 = .ok (.lstore 6, 2) := by decide +kernel
theorem dX11_common_50 : decode cX11_common 50 = .ok (.goto (-22), 3) := by decide +kernel
theorem dX11_common_53 : decode cX11_common 53 = .ok (.lload 4, 2) := by decide +kernel
theorem dX11_common_55 : decode cX11_common 55 = .ok (.lreturn, 1) := by decide +kernel
theorem dX11_sets_0 : decode cX11_sets 0 = .ok (.lload_n 1, 1) := by decide +kernel
theorem dX11_sets_1 : decode cX11_sets 1 = .ok (.lload_n 3, 1) := by decide +kernel
theorem dX11_sets_2 : decode cX11_sets 2 = .ok (.invokestatic 425, 3) := by decide +kernel
theorem dX11_sets_5 : decode cX11_sets 5 = .ok (.lstore 5, 2) := by decide +kernel
theorem dX11_sets_7 : decode cX11_sets 7 = .ok (.aload_n 0, 1) := by decide +kernel
theorem dX11_sets_8 : decode cX11_sets 8 = .ok (.lload_n 1, 1) := by decide +kernel
theorem dX11_sets_9 : decode cX11_sets 9 = .ok (.lload 5, 2) := by decide +kernel
theorem dX11_sets_11 : decode cX11_sets 11 = .ok (.ldiv, 1) := by decide +kernel
theorem dX11_sets_12 : decode cX11_sets 12 = .ok (.putfield 429, 3) := by decide +kernel
theorem dX11_sets_15 : decode cX11_sets 15 = .ok (.aload_n 0, 1) := by decide +kernel
theorem dX11_sets_16 : decode cX11_sets 16 = .ok (.lload_n 3, 1) := by decide +kernel
theorem dX11_sets_17 : decode cX11_sets 17 = .ok (.lload 5, 2) := by decide +kernel
theorem dX11_sets_19 : decode cX11_sets 19 = .ok (.ldiv, 1) := by decide +kernel
theorem dX11_sets_20 : decode cX11_sets 20 = .ok (.putfield 433, 3) := by decide +kernel
theorem dX11_sets_23 : decode cX11_sets 23 = .ok (.return_, 1) := by decide +kernel
theorem dX11_partFound_0 : decode cX11_partFound 0 = .ok (.iload_n 1, 1) := by decide +kernel
theorem dX11_partFound_1 : decode cX11_partFound 1 = .ok (.ifCond .ne 10, 3) := by decide +kernel
theorem dX11_partFound_4 : decode cX11_partFound 4 = .ok (.aload_n 0, 1) := by decide +kernel
theorem dX11_partFound_5 : decode cX11_partFound 5 = .ok (.getfield 429, 3) := by decide +kernel
theorem dX11_partFound_8 : decode cX11_partFound 8 = .ok (.goto 7, 3) := by decide +kernel
theorem dX11_partFound_11 : decode cX11_partFound 11 = .ok (.aload_n 0, 1) := by decide +kernel
theorem dX11_partFound_12 : decode cX11_partFound 12 = .ok (.getfield 433, 3) := by decide +kernel
theorem dX11_partFound_15 : decode cX11_partFound 15 = .ok (.lreturn, 1) := by decide +kernel
theorem dX11_isWhat_0 : decode cX11_isWhat 0 = .ok (.iload_n 0, 1) := by decide +kernel
theorem dX11_isWhat_1 : decode cX11_isWhat 1 = .ok (.iconst 0, 1) := by decide +kernel
theorem dX11_isWhat_2 : decode cX11_isWhat 2 = .ok (.iconst 1, 1) := by decide +kernel
theorem dX11_isWhat_3 : decode cX11_isWhat 3 = .ok (.invokestatic 303, 3) := by decide +kernel
theorem dX11_isWhat_6 : decode cX11_isWhat 6 = .ok (.ireturn, 1) := by decide +kernel
theorem dX11_valueNow_0 : decode cX11_valueNow 0 = .ok (.aload_n 0, 1) := by decide +kernel
theorem dX11_valueNow_1 : decode cX11_valueNow 1 = .ok (.invokevirtual 419, 3) := by decide +kernel
theorem dX11_valueNow_4 : decode cX11_valueNow 4 = .ok (.aload_n 0, 1) := by decide +kernel
theorem dX11_valueNow_5 : decode cX11_valueNow 5 = .ok (.iload_n 1, 1) := by decide +kernel
theorem dX11_valueNow_6 : decode cX11_valueNow 6 = .ok (.iload_n 2, 1) := by decide +kernel
theorem dX11_valueNow_7 : decode cX11_valueNow 7 = .ok (.iload_n 3, 1) := by decide +kernel
theorem dX11_valueNow_8 : decode cX11_valueNow 8 = .ok (.aload_n 0, 1) := by decide +kernel
theorem dX11_valueNow_9 : decode cX11_valueNow 9 = .ok (.getfield 101, 3) := by decide +kernel
theorem dX11_valueNow_12 : decode cX11_valueNow 12 = .ok (.iload_n 1, 1) := by decide +kernel
theorem dX11_valueNow_13 : decode cX11_valueNow 13 = .ok (.iload_n 2, 1) := by decide +kernel
theorem dX11_valueNow_14 : decode cX11_valueNow 14 = .ok (.iload_n 3, 1) := by decide +kernel
theorem dX11_valueNow_15 : decode cX11_valueNow 15 = .ok (.invokestatic 400, 3) := by decide +kernel
theorem dX11_valueNow_18 : decode cX11_valueNow 18 = .ok (.iaload, 1) := by decide +kernel
theorem dX11_valueNow_19 : decode cX11_valueNow 19 = .ok (.invokevirtual 390, 3) := by decide +kernel
theorem dX11_valueNow_22 : decode cX11_valueNow 22 = .ok (.lreturn, 1) := by decide +kernel
theorem dX11_partsOf_0 : decode cX11_partsOf 0 = .ok (.aload_n 0, 1) := by decide +kernel
theorem dX11_partsOf_1 : decode cX11_partsOf 1 = .ok (.getfield 121, 3) := by decide +kernel
theorem dX11_partsOf_4 : decode cX11_partsOf 4 = .ok (.aload_n 0, 1) := by decide +kernel
theorem dX11_partsOf_5 : decode cX11_partsOf 5 = .ok (.iload_n 1, 1) := by decide +kernel
theorem dX11_partsOf_6 : decode cX11_partsOf 6 = .ok (.iconst 0, 1) := by decide +kernel
theorem dX11_partsOf_7 : decode cX11_partsOf 7 = .ok (.invokevirtual 374, 3) := by decide +kernel
theorem dX11_partsOf_10 : decode cX11_partsOf 10 = .ok (.iconst 1, 1) := by decide +kernel
theorem dX11_partsOf_11 : decode cX11_partsOf 11 = .ok (.isub, 1) := by decide +kernel
theorem dX11_partsOf_12 : decode cX11_partsOf 12 = .ok (.laload, 1) := by decide +kernel
theorem dX11_partsOf_13 : decode cX11_partsOf 13 = .ok (.lreturn, 1) := by decide +kernel
theorem dX11_value_0 : decode cX11_value 0 = .ok (.aload_n 0, 1) := by decide +kernel
theorem dX11_value_1 : decode cX11_value 1 = .ok (.aload_n 0, 1) := by decide +kernel
theorem dX11_value_2 : decode cX11_value 2 = .ok (.iload_n 1, 1) := by decide +kernel
theorem dX11_value_3 : decode cX11_value 3 = .ok (.iload_n 2, 1) := by decide +kernel
theorem dX11_value_4 : decode cX11_value 4 = .ok (.iload_n 3, 1) := by decide +kernel
theorem dX11_value_5 : decode cX11_value 5 = .ok (.invokevirtual 416, 3) := by decide +kernel
theorem dX11_value_8 : decode cX11_value 8 = .ok (.ifCond .eq 15, 3) := by decide +kernel
theorem dX11_value_11 : decode cX11_value 11 = .ok (.iload 4, 2) := by decide +kernel
theorem dX11_value_13 : decode cX11_value 13 = .ok (.invokestatic 436, 3) := by decide +kernel
theorem dX11_value_16 : decode cX11_value 16 = .ok (.ifCond .eq 7, 3) := by decide +kernel
theorem dX11_value_19 : decode cX11_value 19 = .ok (.iconst 0, 1) := by decide +kernel
theorem dX11_value_20 : decode cX11_value 20 = .ok (.goto 4, 3) := by decide +kernel
theorem dX11_value_23 : decode cX11_value 23 = .ok (.iconst 1, 1) := by decide +kernel
theorem dX11_value_24 : decode cX11_value 24 = .ok (.putfield 1, 3) := by decide +kernel
theorem dX11_value_27 : decode cX11_value 27 = .ok (.aload_n 0, 1) := by decide +kernel
theorem dX11_value_28 : decode cX11_value 28 = .ok (.getfield 1, 3) := by decide +kernel
theorem dX11_value_31 : decode cX11_value 31 = .ok (.ifCond .le 5, 3) := by decide +kernel
theorem dX11_value_34 : decode cX11_value 34 = .ok (.lconst 0, 1) := by decide +kernel
theorem dX11_value_35 : decode cX11_value 35 = .ok (.lreturn, 1) := by decide +kernel
theorem dX11_value_36 : decode cX11_value 36 = .ok (.aload_n 0, 1) := by decide +kernel
theorem dX11_value_37 : decode cX11_value 37 = .ok (.aload_n 0, 1) := by decide +kernel
theorem dX11_value_38 : decode cX11_value 38 = .ok (.iload_n 1, 1) := by decide +kernel
theorem dX11_value_39 : decode cX11_value 39 = .ok (.iload_n 2, 1) := by decide +kernel
theorem dX11_value_40 : decode cX11_value 40 = .ok (.iload_n 3, 1) := by decide +kernel
theorem dX11_value_41 : decode cX11_value 41 = .ok (.invokevirtual 439, 3) := by decide +kernel
theorem dX11_value_44 : decode cX11_value 44 = .ok (.aload_n 0, 1) := by decide +kernel
theorem dX11_value_45 : decode cX11_value 45 = .ok (.iload_n 1, 1) := by decide +kernel
theorem dX11_value_46 : decode cX11_value 46 = .ok (.invokevirtual 442, 3) := by decide +kernel
theorem dX11_value_49 : decode cX11_value 49 = .ok (.invokevirtual 446, 3) := by decide +kernel
theorem dX11_value_52 : decode cX11_value 52 = .ok (.aload_n 0, 1) := by decide +kernel
theorem dX11_value_53 : decode cX11_value 53 = .ok (.iload 4, 2) := by decide +kernel
theorem dX11_value_55 : decode cX11_value 55 = .ok (.invokevirtual 450, 3) := by decide +kernel
theorem dX11_value_58 : decode cX11_value 58 = .ok (.lreturn, 1) := by decide +kernel
theorem dX11_ask_0 : decode cX11_ask 0 = .ok (.aload_n 0, 1) := by decide +kernel
theorem dX11_ask_1 : decode cX11_ask 1 = .ok (.iconst 0, 1) := by decide +kernel
theorem dX11_ask_2 : decode cX11_ask 2 = .ok (.putfield 1, 3) := by decide +kernel
theorem dX11_ask_5 : decode cX11_ask 5 = .ok (.iload_n 1, 1) := by decide +kernel
theorem dX11_ask_6 : decode cX11_ask 6 = .ok (.iconst 0, 1) := by decide +kernel
theorem dX11_ask_7 : decode cX11_ask 7 = .ok (.bipush 15, 2) := by decide +kernel
theorem dX11_ask_9 : decode cX11_ask 9 = .ok (.invokestatic 303, 3) := by decide +kernel
theorem dX11_ask_12 : decode cX11_ask 12 = .ok (.ifCond .eq 16, 3) := by decide +kernel
theorem dX11_ask_15 : decode cX11_ask 15 = .ok (.iload_n 2, 1) := by decide +kernel
theorem dX11_ask_16 : decode cX11_ask 16 = .ok (.iconst (-1), 1) := by decide +kernel
theorem dX11_ask_17 : decode cX11_ask 17 = .ok (.if_icmp .eq 13, 3) := by decide +kernel
theorem dX11_ask_20 : decode cX11_ask 20 = .ok (.aload_n 0, 1) := by decide +kernel
theorem dX11_ask_21 : decode cX11_ask 21 = .ok (.iload_n 2, 1) := by decide +kernel
theorem dX11_ask_22 : decode cX11_ask 22 = .ok (.invokevirtual 329, 3) := by decide +kernel
theorem dX11_ask_25 : decode cX11_ask 25 = .ok (.ifCond .ne 5, 3) := by decide +kernel
theorem dX11_ask_28 : decode cX11_ask 28 = .ok (.iconst 0, 1) := by decide +kernel
theorem dX11_ask_29 : decode cX11_ask 29 = .ok (.ireturn, 1) := by decide +kernel
theorem dX11_ask_30 : decode cX11_ask 30 = .ok (.aload_n 0, 1) := by decide +kernel
theorem dX11_ask_31 : decode cX11_ask 31 = .ok (.getfield 73, 3) := by decide +kernel
theorem dX11_ask_34 : decode cX11_ask 34 = .ok (.bipush 45, 2) := by decide +kernel
theorem dX11_ask_36 : decode cX11_ask 36 = .ok (.iload_n 1, 1) := by decide +kernel
theorem dX11_ask_37 : decode cX11_ask 37 = .ok (.iadd, 1) := by decide +kernel
theorem dX11_ask_38 : decode cX11_ask 38 = .ok (.iload_n 2, 1) := by decide +kernel
theorem dX11_ask_39 : decode cX11_ask 39 = .ok (.iconst 1, 1) := by decide +kernel
theorem dX11_ask_40 : decode cX11_ask 40 = .ok (.iadd, 1) := by decide +kernel
theorem dX11_ask_41 : decode cX11_ask 41 = .ok (.iastore, 1) := by decide +kernel
theorem dX11_ask_42 : decode cX11_ask 42 = .ok (.aload_n 0, 1) := by decide +kernel
theorem dX11_ask_43 : decode cX11_ask 43 = .ok (.iconst 1, 1) := by decide +kernel
theorem dX11_ask_44 : decode cX11_ask 44 = .ok (.putfield 163, 3) := by decide +kernel
theorem dX11_ask_47 : decode cX11_ask 47 = .ok (.iconst 1, 1) := by decide +kernel
theorem dX11_ask_48 : decode cX11_ask 48 = .ok (.ireturn, 1) := by decide +kernel
theorem dX11_pledge_0 : decode cX11_pledge 0 = .ok (.aload_n 0, 1) := by decide +kernel
theorem dX11_pledge_1 : decode cX11_pledge 1 = .ok (.iconst 0, 1) := by decide +kernel
theorem dX11_pledge_2 : decode cX11_pledge 2 = .ok (.putfield 1, 3) := by decide +kernel
theorem dX11_pledge_5 : decode cX11_pledge 5 = .ok (.iload_n 1, 1) := by decide +kernel
theorem dX11_pledge_6 : decode cX11_pledge 6 = .ok (.iconst 0, 1) := by decide +kernel
theorem dX11_pledge_7 : decode cX11_pledge 7 = .ok (.bipush 15, 2) := by decide +kernel
theorem dX11_pledge_9 : decode cX11_pledge 9 = .ok (.invokestatic 303, 3) := by decide +kernel
theorem dX11_pledge_12 : decode cX11_pledge 12 = .ok (.ifCond .eq 17, 3) := by decide +kernel
theorem dX11_pledge_15 : decode cX11_pledge 15 = .ok (.iload_n 2, 1) := by decide +kernel
theorem dX11_pledge_16 : decode cX11_pledge 16 = .ok (.iconst (-1), 1) := by decide +kernel
theorem dX11_pledge_17 : decode cX11_pledge 17 = .ok (.if_icmp .eq 14, 3) := by decide +kernel
theorem dX11_pledge_20 : decode cX11_pledge 20 = .ok (.aload_n 0, 1) := by decide +kernel
theorem dX11_pledge_21 : decode cX11_pledge 21 = .ok (.iload_n 2, 1) := by decide +kernel
theorem dX11_pledge_22 : decode cX11_pledge 22 = .ok (.iload_n 3, 1) := by decide +kernel
theorem dX11_pledge_23 : decode cX11_pledge 23 = .ok (.invokevirtual 357, 3) := by decide +kernel
theorem dX11_pledge_26 : decode cX11_pledge 26 = .ok (.ifCond .ne 5, 3) := by decide +kernel
theorem dX11_pledge_29 : decode cX11_pledge 29 = .ok (.iconst 0, 1) := by decide +kernel
theorem dX11_pledge_30 : decode cX11_pledge 30 = .ok (.ireturn, 1) := by decide +kernel
theorem dX11_pledge_31 : decode cX11_pledge 31 = .ok (.aload_n 0, 1) := by decide +kernel
theorem dX11_pledge_32 : decode cX11_pledge 32 = .ok (.getfield 73, 3) := by decide +kernel
theorem dX11_pledge_35 : decode cX11_pledge 35 = .ok (.bipush 61, 2) := by decide +kernel
theorem dX11_pledge_37 : decode cX11_pledge 37 = .ok (.iload_n 1, 1) := by decide +kernel
theorem dX11_pledge_38 : decode cX11_pledge 38 = .ok (.iadd, 1) := by decide +kernel
theorem dX11_pledge_39 : decode cX11_pledge 39 = .ok (.iload_n 2, 1) := by decide +kernel
theorem dX11_pledge_40 : decode cX11_pledge 40 = .ok (.iconst (-1), 1) := by decide +kernel
theorem dX11_pledge_41 : decode cX11_pledge 41 = .ok (.if_icmp .ne 7, 3) := by decide +kernel
theorem dX11_pledge_44 : decode cX11_pledge 44 = .ok (.iconst 0, 1) := by decide +kernel
theorem dX11_pledge_45 : decode cX11_pledge 45 = .ok (.goto 10, 3) := by decide +kernel
theorem dX11_pledge_48 : decode cX11_pledge 48 = .ok (.iconst 1, 1) := by decide +kernel
theorem dX11_pledge_49 : decode cX11_pledge 49 = .ok (.iconst 3, 1) := by decide +kernel
theorem dX11_pledge_50 : decode cX11_pledge 50 = .ok (.iload_n 2, 1) := by decide +kernel
theorem dX11_pledge_51 : decode cX11_pledge 51 = .ok (.imul, 1) := by decide +kernel
theorem dX11_pledge_52 : decode cX11_pledge 52 = .ok (.iadd, 1) := by decide +kernel
theorem dX11_pledge_53 : decode cX11_pledge 53 = .ok (.iload_n 3, 1) := by decide +kernel
theorem dX11_pledge_54 : decode cX11_pledge 54 = .ok (.iadd, 1) := by decide +kernel
theorem dX11_pledge_55 : decode cX11_pledge 55 = .ok (.iastore, 1) := by decide +kernel
theorem dX11_pledge_56 : decode cX11_pledge 56 = .ok (.aload_n 0, 1) := by decide +kernel
theorem dX11_pledge_57 : decode cX11_pledge 57 = .ok (.iconst 1, 1) := by decide +kernel
theorem dX11_pledge_58 : decode cX11_pledge 58 = .ok (.putfield 163, 3) := by decide +kernel
theorem dX11_pledge_61 : decode cX11_pledge 61 = .ok (.iconst 1, 1) := by decide +kernel
theorem dX11_pledge_62 : decode cX11_pledge 62 = .ok (.ireturn, 1) := by decide +kernel
theorem dX11_stone_0 : decode cX11_stone 0 = .ok (.aload_n 0, 1) := by decide +kernel
theorem dX11_stone_1 : decode cX11_stone 1 = .ok (.iconst 0, 1) := by decide +kernel
theorem dX11_stone_2 : decode cX11_stone 2 = .ok (.putfield 1, 3) := by decide +kernel
theorem dX11_stone_5 : decode cX11_stone 5 = .ok (.aload_n 0, 1) := by decide +kernel
theorem dX11_stone_6 : decode cX11_stone 6 = .ok (.iload_n 1, 1) := by decide +kernel
theorem dX11_stone_7 : decode cX11_stone 7 = .ok (.invokevirtual 329, 3) := by decide +kernel
theorem dX11_stone_10 : decode cX11_stone 10 = .ok (.ifCond .ne 5, 3) := by decide +kernel
theorem dX11_stone_13 : decode cX11_stone 13 = .ok (.iconst 0, 1) := by decide +kernel
theorem dX11_stone_14 : decode cX11_stone 14 = .ok (.ireturn, 1) := by decide +kernel
theorem dX11_stone_15 : decode cX11_stone 15 = .ok (.aload_n 0, 1) := by decide +kernel
theorem dX11_stone_16 : decode cX11_stone 16 = .ok (.getfield 73, 3) := by decide +kernel
theorem dX11_stone_19 : decode cX11_stone 19 = .ok (.iconst 1, 1) := by decide +kernel
theorem dX11_stone_20 : decode cX11_stone 20 = .ok (.iconst 4, 1) := by decide +kernel
theorem dX11_stone_21 : decode cX11_stone 21 = .ok (.iload_n 1, 1) := by decide +kernel
theorem dX11_stone_22 : decode cX11_stone 22 = .ok (.imul, 1) := by decide +kernel
theorem dX11_stone_23 : decode cX11_stone 23 = .ok (.iadd, 1) := by decide +kernel
theorem dX11_stone_24 : decode cX11_stone 24 = .ok (.iconst 3, 1) := by decide +kernel
theorem dX11_stone_25 : decode cX11_stone 25 = .ok (.iadd, 1) := by decide +kernel
theorem dX11_stone_26 : decode cX11_stone 26 = .ok (.iload_n 2, 1) := by decide +kernel
theorem dX11_stone_27 : decode cX11_stone 27 = .ok (.ifCond .eq 7, 3) := by decide +kernel
theorem dX11_stone_30 : decode cX11_stone 30 = .ok (.iconst 1, 1) := by decide +kernel
theorem dX11_stone_31 : decode cX11_stone 31 = .ok (.goto 4, 3) := by decide +kernel
theorem dX11_stone_34 : decode cX11_stone 34 = .ok (.iconst 0, 1) := by decide +kernel
theorem dX11_stone_35 : decode cX11_stone 35 = .ok (.iastore, 1) := by decide +kernel
theorem dX11_stone_36 : decode cX11_stone 36 = .ok (.aload_n 0, 1) := by decide +kernel
theorem dX11_stone_37 : decode cX11_stone 37 = .ok (.iconst 1, 1) := by decide +kernel
theorem dX11_stone_38 : decode cX11_stone 38 = .ok (.putfield 163, 3) := by decide +kernel
theorem dX11_stone_41 : decode cX11_stone 41 = .ok (.iconst 1, 1) := by decide +kernel
theorem dX11_stone_42 : decode cX11_stone 42 = .ok (.ireturn, 1) := by decide +kernel
theorem dX11_runsTo_0 : decode cX11_runsTo 0 = .ok (.aload_n 0, 1) := by decide +kernel
theorem dX11_runsTo_1 : decode cX11_runsTo 1 = .ok (.invokevirtual 419, 3) := by decide +kernel
theorem dX11_runsTo_4 : decode cX11_runsTo 4 = .ok (.iconst 0, 1) := by decide +kernel
theorem dX11_runsTo_5 : decode cX11_runsTo 5 = .ok (.istore_n 2, 1) := by decide +kernel
theorem dX11_runsTo_6 : decode cX11_runsTo 6 = .ok (.iload_n 2, 1) := by decide +kernel
theorem dX11_runsTo_7 : decode cX11_runsTo 7 = .ok (.bipush 27, 2) := by decide +kernel
theorem dX11_runsTo_9 : decode cX11_runsTo 9 = .ok (.if_icmp .ge 28, 3) := by decide +kernel
theorem dX11_runsTo_12 : decode cX11_runsTo 12 = .ok (.aload_n 0, 1) := by decide +kernel
theorem dX11_runsTo_13 : decode cX11_runsTo 13 = .ok (.getfield 124, 3) := by decide +kernel
theorem dX11_runsTo_16 : decode cX11_runsTo 16 = .ok (.iload_n 2, 1) := by decide +kernel
theorem dX11_runsTo_17 : decode cX11_runsTo 17 = .ok (.iload_n 2, 1) := by decide +kernel
theorem dX11_runsTo_18 : decode cX11_runsTo 18 = .ok (.aload_n 0, 1) := by decide +kernel
theorem dX11_runsTo_19 : decode cX11_runsTo 19 = .ok (.invokevirtual 453, 3) := by decide +kernel
theorem dX11_runsTo_22 : decode cX11_runsTo 22 = .ok (.if_icmp .ne 7, 3) := by decide +kernel
theorem dX11_runsTo_25 : decode cX11_runsTo 25 = .ok (.lconst 1, 1) := by decide +kernel
theorem dX11_runsTo_26 : decode cX11_runsTo 26 = .ok (.goto 4, 3) := by decide +kernel
theorem dX11_runsTo_29 : decode cX11_runsTo 29 = .ok (.lconst 0, 1) := by decide +kernel
theorem dX11_runsTo_30 : decode cX11_runsTo 30 = .ok (.lastore, 1) := by decide +kernel
theorem dX11_runsTo_31 : decode cX11_runsTo 31 = .ok (.iinc 2 1, 3) := by decide +kernel
theorem dX11_runsTo_34 : decode cX11_runsTo 34 = .ok (.goto (-28), 3) := by decide +kernel
theorem dX11_runsTo_37 : decode cX11_runsTo 37 = .ok (.aload_n 0, 1) := by decide +kernel
theorem dX11_runsTo_38 : decode cX11_runsTo 38 = .ok (.lconst 0, 1) := by decide +kernel
theorem dX11_runsTo_39 : decode cX11_runsTo 39 = .ok (.putfield 456, 3) := by decide +kernel
theorem dX11_runsTo_42 : decode cX11_runsTo 42 = .ok (.iconst 0, 1) := by decide +kernel
theorem dX11_runsTo_43 : decode cX11_runsTo 43 = .ok (.istore_n 2, 1) := by decide +kernel
theorem dX11_runsTo_44 : decode cX11_runsTo 44 = .ok (.iload_n 2, 1) := by decide +kernel
theorem dX11_runsTo_45 : decode cX11_runsTo 45 = .ok (.iload_n 1, 1) := by decide +kernel
theorem dX11_runsTo_46 : decode cX11_runsTo 46 = .ok (.if_icmp .ge 14, 3) := by decide +kernel
theorem dX11_runsTo_49 : decode cX11_runsTo 49 = .ok (.aload_n 0, 1) := by decide +kernel
theorem dX11_runsTo_50 : decode cX11_runsTo 50 = .ok (.iload_n 2, 1) := by decide +kernel
theorem dX11_runsTo_51 : decode cX11_runsTo 51 = .ok (.invokevirtual 459, 3) := by decide +kernel
theorem dX11_runsTo_54 : decode cX11_runsTo 54 = .ok (.iinc 2 1, 3) := by decide +kernel
theorem dX11_runsTo_57 : decode cX11_runsTo 57 = .ok (.goto (-13), 3) := by decide +kernel
theorem dX11_runsTo_60 : decode cX11_runsTo 60 = .ok (.return_, 1) := by decide +kernel
theorem dX11_runsOn_0 : decode cX11_runsOn 0 = .ok (.aload_n 0, 1) := by decide +kernel
theorem dX11_runsOn_1 : decode cX11_runsOn 1 = .ok (.ldc2_w 107, 3) := by decide +kernel
theorem dX11_runsOn_4 : decode cX11_runsOn 4 = .ok (.aload_n 0, 1) := by decide +kernel
theorem dX11_runsOn_5 : decode cX11_runsOn 5 = .ok (.getfield 456, 3) := by decide +kernel
theorem dX11_runsOn_8 : decode cX11_runsOn 8 = .ok (.lmul, 1) := by decide +kernel
theorem dX11_runsOn_9 : decode cX11_runsOn 9 = .ok (.putfield 456, 3) := by decide +kernel
theorem dX11_runsOn_12 : decode cX11_runsOn 12 = .ok (.iconst 0, 1) := by decide +kernel
theorem dX11_runsOn_13 : decode cX11_runsOn 13 = .ok (.istore_n 2, 1) := by decide +kernel
theorem dX11_runsOn_14 : decode cX11_runsOn 14 = .ok (.iload_n 2, 1) := by decide +kernel
theorem dX11_runsOn_15 : decode cX11_runsOn 15 = .ok (.bipush 27, 2) := by decide +kernel
theorem dX11_runsOn_17 : decode cX11_runsOn 17 = .ok (.if_icmp .ge 16, 3) := by decide +kernel
theorem dX11_runsOn_20 : decode cX11_runsOn 20 = .ok (.aload_n 0, 1) := by decide +kernel
theorem dX11_runsOn_21 : decode cX11_runsOn 21 = .ok (.getfield 127, 3) := by decide +kernel
theorem dX11_runsOn_24 : decode cX11_runsOn 24 = .ok (.iload_n 2, 1) := by decide +kernel
theorem dX11_runsOn_25 : decode cX11_runsOn 25 = .ok (.lconst 0, 1) := by decide +kernel
theorem dX11_runsOn_26 : decode cX11_runsOn 26 = .ok (.lastore, 1) := by decide +kernel
theorem dX11_runsOn_27 : decode cX11_runsOn 27 = .ok (.iinc 2 1, 3) := by decide +kernel
theorem dX11_runsOn_30 : decode cX11_runsOn 30 = .ok (.goto (-16), 3) := by decide +kernel
theorem dX11_runsOn_33 : decode cX11_runsOn 33 = .ok (.iconst 0, 1) := by decide +kernel
theorem dX11_runsOn_34 : decode cX11_runsOn 34 = .ok (.istore_n 2, 1) := by decide +kernel
theorem dX11_runsOn_35 : decode cX11_runsOn 35 = .ok (.iload_n 2, 1) := by decide +kernel
theorem dX11_runsOn_36 : decode cX11_runsOn 36 = .ok (.bipush 27, 2) := by decide +kernel
theorem dX11_runsOn_38 : decode cX11_runsOn 38 = .ok (.if_icmp .ge 114, 3) := by decide +kernel
theorem dX11_runsOn_41 : decode cX11_runsOn 41 = .ok (.iconst (-1), 1) := by decide +kernel
theorem dX11_runsOn_42 : decode cX11_runsOn 42 = .ok (.istore_n 3, 1) := by decide +kernel
theorem dX11_runsOn_43 : decode cX11_runsOn 43 = .ok (.iload_n 3, 1) := by decide +kernel
theorem dX11_runsOn_44 : decode cX11_runsOn 44 = .ok (.aload_n 0, 1) := by decide +kernel
theorem dX11_runsOn_45 : decode cX11_runsOn 45 = .ok (.invokevirtual 323, 3) := by decide +kernel
theorem dX11_runsOn_48 : decode cX11_runsOn 48 = .ok (.if_icmp .ge 98, 3) := by decide +kernel
theorem dX11_runsOn_51 : decode cX11_runsOn 51 = .ok (.aload_n 0, 1) := by decide +kernel
theorem dX11_runsOn_52 : decode cX11_runsOn 52 = .ok (.getfield 124, 3) := by decide +kernel
theorem dX11_runsOn_55 : decode cX11_runsOn 55 = .ok (.iload_n 2, 1) := by decide +kernel
theorem dX11_runsOn_56 : decode cX11_runsOn 56 = .ok (.laload, 1) := by decide +kernel
theorem dX11_runsOn_57 : decode cX11_runsOn 57 = .ok (.lconst 0, 1) := by decide +kernel
theorem dX11_runsOn_58 : decode cX11_runsOn 58 = .ok (.lcmp, 1) := by decide +kernel
theorem dX11_runsOn_59 : decode cX11_runsOn 59 = .ok (.ifCond .le 87, 3) := by decide +kernel
theorem dX11_runsOn_62 : decode cX11_runsOn 62 = .ok (.iload_n 3, 1) := by decide +kernel
theorem dX11_runsOn_63 : decode cX11_runsOn 63 = .ok (.ifCond .ge 7, 3) := by decide +kernel
theorem dX11_runsOn_66 : decode cX11_runsOn 66 = .ok (.iload_n 2, 1) := by decide +kernel
theorem dX11_runsOn_67 : decode cX11_runsOn 67 = .ok (.goto 14, 3) := by decide +kernel
theorem dX11_runsOn_70 : decode cX11_runsOn 70 = .ok (.aload_n 0, 1) := by decide +kernel
theorem dX11_runsOn_71 : decode cX11_runsOn 71 = .ok (.getfield 101, 3) := by decide +kernel
theorem dX11_runsOn_74 : decode cX11_runsOn 74 = .ok (.iload_n 1, 1) := by decide +kernel
theorem dX11_runsOn_75 : decode cX11_runsOn 75 = .ok (.iload_n 3, 1) := by decide +kernel
theorem dX11_runsOn_76 : decode cX11_runsOn 76 = .ok (.iload_n 2, 1) := by decide +kernel
theorem dX11_runsOn_77 : decode cX11_runsOn 77 = .ok (.invokestatic 400, 3) := by decide +kernel
theorem dX11_runsOn_80 : decode cX11_runsOn 80 = .ok (.iaload, 1) := by decide +kernel
theorem dX11_runsOn_81 : decode cX11_runsOn 81 = .ok (.istore 4, 2) := by decide +kernel
theorem dX11_runsOn_83 : decode cX11_runsOn 83 = .ok (.aload_n 0, 1) := by decide +kernel
theorem dX11_runsOn_84 : decode cX11_runsOn 84 = .ok (.getfield 127, 3) := by decide +kernel
theorem dX11_runsOn_87 : decode cX11_runsOn 87 = .ok (.iload 4, 2) := by decide +kernel
theorem dX11_runsOn_89 : decode cX11_runsOn 89 = .ok (.dup2, 1) := by decide +kernel
theorem dX11_runsOn_90 : decode cX11_runsOn 90 = .ok (.laload, 1) := by decide +kernel
theorem dX11_runsOn_91 : decode cX11_runsOn 91 = .ok (.aload_n 0, 1) := by decide +kernel
theorem dX11_runsOn_92 : decode cX11_runsOn 92 = .ok (.getfield 124, 3) := by decide +kernel
theorem dX11_runsOn_95 : decode cX11_runsOn 95 = .ok (.iload_n 2, 1) := by decide +kernel
theorem dX11_runsOn_96 : decode cX11_runsOn 96 = .ok (.laload, 1) := by decide +kernel
theorem dX11_runsOn_97 : decode cX11_runsOn 97 = .ok (.aload_n 0, 1) := by decide +kernel
theorem dX11_runsOn_98 : decode cX11_runsOn 98 = .ok (.iload_n 1, 1) := by decide +kernel
theorem dX11_runsOn_99 : decode cX11_runsOn 99 = .ok (.iload_n 3, 1) := by decide +kernel
theorem dX11_runsOn_100 : decode cX11_runsOn 100 = .ok (.invokevirtual 410, 3) := by decide +kernel
theorem dX11_runsOn_103 : decode cX11_runsOn 103 = .ok (.i2l, 1) := by decide +kernel
theorem dX11_runsOn_104 : decode cX11_runsOn 104 = .ok (.lmul, 1) := by decide +kernel
theorem dX11_runsOn_105 : decode cX11_runsOn 105 = .ok (.ladd, 1) := by decide +kernel
theorem dX11_runsOn_106 : decode cX11_runsOn 106 = .ok (.lastore, 1) := by decide +kernel
theorem dX11_runsOn_107 : decode cX11_runsOn 107 = .ok (.aload_n 0, 1) := by decide +kernel
theorem dX11_runsOn_108 : decode cX11_runsOn 108 = .ok (.dup, 1) := by decide +kernel
theorem dX11_runsOn_109 : decode cX11_runsOn 109 = .ok (.getfield 456, 3) := by decide +kernel
theorem dX11_runsOn_112 : decode cX11_runsOn 112 = .ok (.iload 4, 2) := by decide +kernel
theorem dX11_runsOn_114 : decode cX11_runsOn 114 = .ok (.iload_n 2, 1) := by decide +kernel
theorem dX11_runsOn_115 : decode cX11_runsOn 115 = .ok (.if_icmp .eq 20, 3) := by decide +kernel
theorem dX11_runsOn_118 : decode cX11_runsOn 118 = .ok (.aload_n 0, 1) := by decide +kernel
theorem dX11_runsOn_119 : decode cX11_runsOn 119 = .ok (.getfield 124, 3) := by decide +kernel
theorem dX11_runsOn_122 : decode cX11_runsOn 122 = .ok (.iload_n 2, 1) := by decide +kernel
theorem dX11_runsOn_123 : decode cX11_runsOn 123 = .ok (.laload, 1) := by decide +kernel
theorem dX11_runsOn_124 : decode cX11_runsOn 124 = .ok (.aload_n 0, 1) := by decide +kernel
theorem dX11_runsOn_125 : decode cX11_runsOn 125 = .ok (.iload_n 1, 1) := by decide +kernel
theorem dX11_runsOn_126 : decode cX11_runsOn 126 = .ok (.iload_n 3, 1) := by decide +kernel
theorem dX11_runsOn_127 : decode cX11_runsOn 127 = .ok (.invokevirtual 410, 3) := by decide +kernel
theorem dX11_runsOn_130 : decode cX11_runsOn 130 = .ok (.i2l, 1) := by decide +kernel
theorem dX11_runsOn_131 : decode cX11_runsOn 131 = .ok (.lmul, 1) := by decide +kernel
theorem dX11_runsOn_132 : decode cX11_runsOn 132 = .ok (.goto 4, 3) := by decide +kernel
theorem dX11_runsOn_135 : decode cX11_runsOn 135 = .ok (.lconst 0, 1) := by decide +kernel
theorem dX11_runsOn_136 : decode cX11_runsOn 136 = .ok (.ladd, 1) := by decide +kernel
theorem dX11_runsOn_137 : decode cX11_runsOn 137 = .ok (.putfield 456, 3) := by decide +kernel
theorem dX11_runsOn_140 : decode cX11_runsOn 140 = .ok (.iinc 3 1, 3) := by decide +kernel
theorem dX11_runsOn_143 : decode cX11_runsOn 143 = .ok (.goto (-100), 3) := by decide +kernel
theorem dX11_runsOn_146 : decode cX11_runsOn 146 = .ok (.iinc 2 1, 3) := by decide +kernel
theorem dX11_runsOn_149 : decode cX11_runsOn 149 = .ok (.goto (-114), 3) := by decide +kernel
theorem dX11_runsOn_152 : decode cX11_runsOn 152 = .ok (.iconst 0, 1) := by decide +kernel
theorem dX11_runsOn_153 : decode cX11_runsOn 153 = .ok (.istore_n 2, 1) := by decide +kernel
theorem dX11_runsOn_154 : decode cX11_runsOn 154 = .ok (.iload_n 2, 1) := by decide +kernel
theorem dX11_runsOn_155 : decode cX11_runsOn 155 = .ok (.bipush 27, 2) := by decide +kernel
theorem dX11_runsOn_157 : decode cX11_runsOn 157 = .ok (.if_icmp .ge 21, 3) := by decide +kernel
theorem dX11_runsOn_160 : decode cX11_runsOn 160 = .ok (.aload_n 0, 1) := by decide +kernel
theorem dX11_runsOn_161 : decode cX11_runsOn 161 = .ok (.getfield 124, 3) := by decide +kernel
theorem dX11_runsOn_164 : decode cX11_runsOn 164 = .ok (.iload_n 2, 1) := by decide +kernel
theorem dX11_runsOn_165 : decode cX11_runsOn 165 = .ok (.aload_n 0, 1) := by decide +kernel
theorem dX11_runsOn_166 : decode cX11_runsOn 166 = .ok (.getfield 127, 3) := by decide +kernel
theorem dX11_runsOn_169 : decode cX11_runsOn 169 = .ok (.iload_n 2, 1) := by decide +kernel
theorem dX11_runsOn_170 : decode cX11_runsOn 170 = .ok (.laload, 1) := by decide +kernel
theorem dX11_runsOn_171 : decode cX11_runsOn 171 = .ok (.lastore, 1) := by decide +kernel
theorem dX11_runsOn_172 : decode cX11_runsOn 172 = .ok (.iinc 2 1, 3) := by decide +kernel
theorem dX11_runsOn_175 : decode cX11_runsOn 175 = .ok (.goto (-21), 3) := by decide +kernel
theorem dX11_runsOn_178 : decode cX11_runsOn 178 = .ok (.return_, 1) := by decide +kernel
theorem dX11_isEarly_0 : decode cX11_isEarly 0 = .ok (.aload_n 0, 1) := by decide +kernel
theorem dX11_isEarly_1 : decode cX11_isEarly 1 = .ok (.iload_n 1, 1) := by decide +kernel
theorem dX11_isEarly_2 : decode cX11_isEarly 2 = .ok (.invokevirtual 354, 3) := by decide +kernel
theorem dX11_isEarly_5 : decode cX11_isEarly 5 = .ok (.ifCond .eq 20, 3) := by decide +kernel
theorem dX11_isEarly_8 : decode cX11_isEarly 8 = .ok (.iload_n 1, 1) := by decide +kernel
theorem dX11_isEarly_9 : decode cX11_isEarly 9 = .ok (.bipush 6, 2) := by decide +kernel
theorem dX11_isEarly_11 : decode cX11_isEarly 11 = .ok (.if_icmp .gt 14, 3) := by decide +kernel
theorem dX11_isEarly_14 : decode cX11_isEarly 14 = .ok (.aload_n 0, 1) := by decide +kernel
theorem dX11_isEarly_15 : decode cX11_isEarly 15 = .ok (.invokevirtual 323, 3) := by decide +kernel
theorem dX11_isEarly_18 : decode cX11_isEarly 18 = .ok (.ifCond .le 7, 3) := by decide +kernel
theorem dX11_isEarly_21 : decode cX11_isEarly 21 = .ok (.iconst 1, 1) := by decide +kernel
theorem dX11_isEarly_22 : decode cX11_isEarly 22 = .ok (.goto 4, 3) := by decide +kernel
theorem dX11_isEarly_25 : decode cX11_isEarly 25 = .ok (.iconst 0, 1) := by decide +kernel
theorem dX11_isEarly_26 : decode cX11_isEarly 26 = .ok (.ireturn, 1) := by decide +kernel
theorem dX11_odds_0 : decode cX11_odds 0 = .ok (.aload_n 0, 1) := by decide +kernel
theorem dX11_odds_1 : decode cX11_odds 1 = .ok (.aload_n 0, 1) := by decide +kernel
theorem dX11_odds_2 : decode cX11_odds 2 = .ok (.iload_n 1, 1) := by decide +kernel
theorem dX11_odds_3 : decode cX11_odds 3 = .ok (.invokevirtual 462, 3) := by decide +kernel
theorem dX11_odds_6 : decode cX11_odds 6 = .ok (.ifCond .eq 22, 3) := by decide +kernel
theorem dX11_odds_9 : decode cX11_odds 9 = .ok (.aload_n 0, 1) := by decide +kernel
theorem dX11_odds_10 : decode cX11_odds 10 = .ok (.iload_n 2, 1) := by decide +kernel
theorem dX11_odds_11 : decode cX11_odds 11 = .ok (.invokevirtual 341, 3) := by decide +kernel
theorem dX11_odds_14 : decode cX11_odds 14 = .ok (.ifCond .eq 14, 3) := by decide +kernel
theorem dX11_odds_17 : decode cX11_odds 17 = .ok (.iload_n 3, 1) := by decide +kernel
theorem dX11_odds_18 : decode cX11_odds 18 = .ok (.invokestatic 436, 3) := by decide +kernel
theorem dX11_odds_21 : decode cX11_odds 21 = .ok (.ifCond .eq 7, 3) := by decide +kernel
theorem dX11_odds_24 : decode cX11_odds 24 = .ok (.iconst 0, 1) := by decide +kernel
theorem dX11_odds_25 : decode cX11_odds 25 = .ok (.goto 4, 3) := by decide +kernel
theorem dX11_odds_28 : decode cX11_odds 28 = .ok (.iconst 1, 1) := by decide +kernel
theorem dX11_odds_29 : decode cX11_odds 29 = .ok (.putfield 1, 3) := by decide +kernel
theorem dX11_odds_32 : decode cX11_odds 32 = .ok (.aload_n 0, 1) := by decide +kernel
theorem dX11_odds_33 : decode cX11_odds 33 = .ok (.getfield 1, 3) := by decide +kernel
theorem dX11_odds_36 : decode cX11_odds 36 = .ok (.ifCond .le 5, 3) := by decide +kernel
theorem dX11_odds_39 : decode cX11_odds 39 = .ok (.lconst 0, 1) := by decide +kernel
theorem dX11_odds_40 : decode cX11_odds 40 = .ok (.lreturn, 1) := by decide +kernel
theorem dX11_odds_41 : decode cX11_odds 41 = .ok (.aload_n 0, 1) := by decide +kernel
theorem dX11_odds_42 : decode cX11_odds 42 = .ok (.iload_n 1, 1) := by decide +kernel
theorem dX11_odds_43 : decode cX11_odds 43 = .ok (.iconst 1, 1) := by decide +kernel
theorem dX11_odds_44 : decode cX11_odds 44 = .ok (.iadd, 1) := by decide +kernel
theorem dX11_odds_45 : decode cX11_odds 45 = .ok (.invokevirtual 465, 3) := by decide +kernel
theorem dX11_odds_48 : decode cX11_odds 48 = .ok (.aload_n 0, 1) := by decide +kernel
theorem dX11_odds_49 : decode cX11_odds 49 = .ok (.aload_n 0, 1) := by decide +kernel
theorem dX11_odds_50 : decode cX11_odds 50 = .ok (.getfield 124, 3) := by decide +kernel
theorem dX11_odds_53 : decode cX11_odds 53 = .ok (.iload_n 2, 1) := by decide +kernel
theorem dX11_odds_54 : decode cX11_odds 54 = .ok (.laload, 1) := by decide +kernel
theorem dX11_odds_55 : decode cX11_odds 55 = .ok (.aload_n 0, 1) := by decide +kernel
theorem dX11_odds_56 : decode cX11_odds 56 = .ok (.getfield 121, 3) := by decide +kernel
theorem dX11_odds_59 : decode cX11_odds 59 = .ok (.iload_n 1, 1) := by decide +kernel
theorem dX11_odds_60 : decode cX11_odds 60 = .ok (.iconst 1, 1) := by decide +kernel
theorem dX11_odds_61 : decode cX11_odds 61 = .ok (.iadd, 1) := by decide +kernel
theorem dX11_odds_62 : decode cX11_odds 62 = .ok (.laload, 1) := by decide +kernel
theorem dX11_odds_63 : decode cX11_odds 63 = .ok (.invokevirtual 446, 3) := by decide +kernel
theorem dX11_odds_66 : decode cX11_odds 66 = .ok (.aload_n 0, 1) := by decide +kernel
theorem dX11_odds_67 : decode cX11_odds 67 = .ok (.iload_n 3, 1) := by decide +kernel
theorem dX11_odds_68 : decode cX11_odds 68 = .ok (.invokevirtual 450, 3) := by decide +kernel
theorem dX11_odds_71 : decode cX11_odds 71 = .ok (.lreturn, 1) := by decide +kernel
theorem dX11_stir_0 : decode cX11_stir 0 = .ok (.aload_n 0, 1) := by decide +kernel
theorem dX11_stir_1 : decode cX11_stir 1 = .ok (.aload_n 0, 1) := by decide +kernel
theorem dX11_stir_2 : decode cX11_stir 2 = .ok (.iload_n 1, 1) := by decide +kernel
theorem dX11_stir_3 : decode cX11_stir 3 = .ok (.invokevirtual 462, 3) := by decide +kernel
theorem dX11_stir_6 : decode cX11_stir 6 = .ok (.ifCond .eq 14, 3) := by decide +kernel
theorem dX11_stir_9 : decode cX11_stir 9 = .ok (.iload_n 2, 1) := by decide +kernel
theorem dX11_stir_10 : decode cX11_stir 10 = .ok (.invokestatic 436, 3) := by decide +kernel
theorem dX11_stir_13 : decode cX11_stir 13 = .ok (.ifCond .eq 7, 3) := by decide +kernel
theorem dX11_stir_16 : decode cX11_stir 16 = .ok (.iconst 0, 1) := by decide +kernel
theorem dX11_stir_17 : decode cX11_stir 17 = .ok (.goto 4, 3) := by decide +kernel
theorem dX11_stir_20 : decode cX11_stir 20 = .ok (.iconst 1, 1) := by decide +kernel
theorem dX11_stir_21 : decode cX11_stir 21 = .ok (.putfield 1, 3) := by decide +kernel
theorem dX11_stir_24 : decode cX11_stir 24 = .ok (.aload_n 0, 1) := by decide +kernel
theorem dX11_stir_25 : decode cX11_stir 25 = .ok (.getfield 1, 3) := by decide +kernel
theorem dX11_stir_28 : decode cX11_stir 28 = .ok (.ifCond .le 5, 3) := by decide +kernel
theorem dX11_stir_31 : decode cX11_stir 31 = .ok (.lconst 0, 1) := by decide +kernel
theorem dX11_stir_32 : decode cX11_stir 32 = .ok (.lreturn, 1) := by decide +kernel
theorem dX11_stir_33 : decode cX11_stir 33 = .ok (.aload_n 0, 1) := by decide +kernel
theorem dX11_stir_34 : decode cX11_stir 34 = .ok (.iload_n 1, 1) := by decide +kernel
theorem dX11_stir_35 : decode cX11_stir 35 = .ok (.iconst 1, 1) := by decide +kernel
theorem dX11_stir_36 : decode cX11_stir 36 = .ok (.iadd, 1) := by decide +kernel
theorem dX11_stir_37 : decode cX11_stir 37 = .ok (.invokevirtual 465, 3) := by decide +kernel
theorem dX11_stir_40 : decode cX11_stir 40 = .ok (.aload_n 0, 1) := by decide +kernel
theorem dX11_stir_41 : decode cX11_stir 41 = .ok (.aload_n 0, 1) := by decide +kernel
theorem dX11_stir_42 : decode cX11_stir 42 = .ok (.getfield 456, 3) := by decide +kernel
theorem dX11_stir_45 : decode cX11_stir 45 = .ok (.aload_n 0, 1) := by decide +kernel
theorem dX11_stir_46 : decode cX11_stir 46 = .ok (.getfield 121, 3) := by decide +kernel
theorem dX11_stir_49 : decode cX11_stir 49 = .ok (.iload_n 1, 1) := by decide +kernel
theorem dX11_stir_50 : decode cX11_stir 50 = .ok (.iconst 1, 1) := by decide +kernel
theorem dX11_stir_51 : decode cX11_stir 51 = .ok (.iadd, 1) := by decide +kernel
theorem dX11_stir_52 : decode cX11_stir 52 = .ok (.laload, 1) := by decide +kernel
theorem dX11_stir_53 : decode cX11_stir 53 = .ok (.invokevirtual 446, 3) := by decide +kernel
theorem dX11_stir_56 : decode cX11_stir 56 = .ok (.aload_n 0, 1) := by decide +kernel
theorem dX11_stir_57 : decode cX11_stir 57 = .ok (.iload_n 2, 1) := by decide +kernel
theorem dX11_stir_58 : decode cX11_stir 58 = .ok (.invokevirtual 450, 3) := by decide +kernel
theorem dX11_stir_61 : decode cX11_stir 61 = .ok (.lreturn, 1) := by decide +kernel
theorem dX11_settled_0 : decode cX11_settled 0 = .ok (.aload_n 0, 1) := by decide +kernel
theorem dX11_settled_1 : decode cX11_settled 1 = .ok (.iconst 0, 1) := by decide +kernel
theorem dX11_settled_2 : decode cX11_settled 2 = .ok (.putfield 1, 3) := by decide +kernel
theorem dX11_settled_5 : decode cX11_settled 5 = .ok (.aload_n 0, 1) := by decide +kernel
theorem dX11_settled_6 : decode cX11_settled 6 = .ok (.iload_n 1, 1) := by decide +kernel
theorem dX11_settled_7 : decode cX11_settled 7 = .ok (.invokevirtual 341, 3) := by decide +kernel
theorem dX11_settled_10 : decode cX11_settled 10 = .ok (.ifCond .ne 5, 3) := by decide +kernel
theorem dX11_settled_13 : decode cX11_settled 13 = .ok (.iconst (-1), 1) := by decide +kernel
theorem dX11_settled_14 : decode cX11_settled 14 = .ok (.ireturn, 1) := by decide +kernel
theorem dX11_settled_15 : decode cX11_settled 15 = .ok (.aload_n 0, 1) := by decide +kernel
theorem dX11_settled_16 : decode cX11_settled 16 = .ok (.invokevirtual 419, 3) := by decide +kernel
theorem dX11_settled_19 : decode cX11_settled 19 = .ok (.iconst 1, 1) := by decide +kernel
theorem dX11_settled_20 : decode cX11_settled 20 = .ok (.istore_n 2, 1) := by decide +kernel
theorem dX11_settled_21 : decode cX11_settled 21 = .ok (.iconst 0, 1) := by decide +kernel
theorem dX11_settled_22 : decode cX11_settled 22 = .ok (.istore_n 3, 1) := by decide +kernel
theorem dX11_settled_23 : decode cX11_settled 23 = .ok (.iload_n 3, 1) := by decide +kernel
theorem dX11_settled_24 : decode cX11_settled 24 = .ok (.aload_n 0, 1) := by decide +kernel
theorem dX11_settled_25 : decode cX11_settled 25 = .ok (.invokevirtual 326, 3) := by decide +kernel
theorem dX11_settled_28 : decode cX11_settled 28 = .ok (.if_icmp .ge 63, 3) := by decide +kernel
theorem dX11_settled_31 : decode cX11_settled 31 = .ok (.iconst 0, 1) := by decide +kernel
theorem dX11_settled_32 : decode cX11_settled 32 = .ok (.istore 4, 2) := by decide +kernel
theorem dX11_settled_34 : decode cX11_settled 34 = .ok (.iload 4, 2) := by decide +kernel
theorem dX11_settled_36 : decode cX11_settled 36 = .ok (.aload_n 0, 1) := by decide +kernel
theorem dX11_settled_37 : decode cX11_settled 37 = .ok (.invokevirtual 323, 3) := by decide +kernel
theorem dX11_settled_40 : decode cX11_settled 40 = .ok (.if_icmp .ge 45, 3) := by decide +kernel
theorem dX11_settled_43 : decode cX11_settled 43 = .ok (.iload_n 2, 1) := by decide +kernel
theorem dX11_settled_44 : decode cX11_settled 44 = .ok (.ifCond .eq 33, 3) := by decide +kernel
theorem dX11_settled_47 : decode cX11_settled 47 = .ok (.aload_n 0, 1) := by decide +kernel
theorem dX11_settled_48 : decode cX11_settled 48 = .ok (.iload_n 3, 1) := by decide +kernel
theorem dX11_settled_49 : decode cX11_settled 49 = .ok (.iload 4, 2) := by decide +kernel
theorem dX11_settled_51 : decode cX11_settled 51 = .ok (.invokevirtual 410, 3) := by decide +kernel
theorem dX11_settled_54 : decode cX11_settled 54 = .ok (.ifCond .eq 19, 3) := by decide +kernel
theorem dX11_settled_57 : decode cX11_settled 57 = .ok (.aload_n 0, 1) := by decide +kernel
theorem dX11_settled_58 : decode cX11_settled 58 = .ok (.getfield 101, 3) := by decide +kernel
theorem dX11_settled_61 : decode cX11_settled 61 = .ok (.iload_n 3, 1) := by decide +kernel
theorem dX11_settled_62 : decode cX11_settled 62 = .ok (.iload 4, 2) := by decide +kernel
theorem dX11_settled_64 : decode cX11_settled 64 = .ok (.iload_n 1, 1) := by decide +kernel
theorem dX11_settled_65 : decode cX11_settled 65 = .ok (.invokestatic 400, 3) := by decide +kernel
theorem dX11_settled_68 : decode cX11_settled 68 = .ok (.iaload, 1) := by decide +kernel
theorem dX11_settled_69 : decode cX11_settled 69 = .ok (.iload_n 1, 1) := by decide +kernel
theorem dX11_settled_70 : decode cX11_settled 70 = .ok (.if_icmp .ne 7, 3) := by decide +kernel
theorem dX11_settled_73 : decode cX11_settled 73 = .ok (.iconst 1, 1) := by decide +kernel
theorem dX11_settled_74 : decode cX11_settled 74 = .ok (.goto 4, 3) := by decide +kernel
theorem dX11_settled_77 : decode cX11_settled 77 = .ok (.iconst 0, 1) := by decide +kernel
theorem dX11_settled_78 : decode cX11_settled 78 = .ok (.istore_n 2, 1) := by decide +kernel
theorem dX11_settled_79 : decode cX11_settled 79 = .ok (.iinc 4 1, 3) := by decide +kernel
theorem dX11_settled_82 : decode cX11_settled 82 = .ok (.goto (-48), 3) := by decide +kernel
theorem dX11_settled_85 : decode cX11_settled 85 = .ok (.iinc 3 1, 3) := by decide +kernel
theorem dX11_settled_88 : decode cX11_settled 88 = .ok (.goto (-65), 3) := by decide +kernel
theorem dX11_settled_91 : decode cX11_settled 91 = .ok (.iload_n 2, 1) := by decide +kernel
theorem dX11_settled_92 : decode cX11_settled 92 = .ok (.ifCond .eq 7, 3) := by decide +kernel
theorem dX11_settled_95 : decode cX11_settled 95 = .ok (.iconst 1, 1) := by decide +kernel
theorem dX11_settled_96 : decode cX11_settled 96 = .ok (.goto 4, 3) := by decide +kernel
theorem dX11_settled_99 : decode cX11_settled 99 = .ok (.iconst 0, 1) := by decide +kernel
theorem dX11_settled_100 : decode cX11_settled 100 = .ok (.ireturn, 1) := by decide +kernel
theorem dX11_isAct_0 : decode cX11_isAct 0 = .ok (.aload_n 0, 1) := by decide +kernel
theorem dX11_isAct_1 : decode cX11_isAct 1 = .ok (.iload_n 1, 1) := by decide +kernel
theorem dX11_isAct_2 : decode cX11_isAct 2 = .ok (.iload_n 2, 1) := by decide +kernel
theorem dX11_isAct_3 : decode cX11_isAct 3 = .ok (.iload_n 3, 1) := by decide +kernel
theorem dX11_isAct_4 : decode cX11_isAct 4 = .ok (.invokevirtual 416, 3) := by decide +kernel
theorem dX11_isAct_7 : decode cX11_isAct 7 = .ok (.ifCond .eq 24, 3) := by decide +kernel
theorem dX11_isAct_10 : decode cX11_isAct 10 = .ok (.aload_n 0, 1) := by decide +kernel
theorem dX11_isAct_11 : decode cX11_isAct 11 = .ok (.iload 4, 2) := by decide +kernel
theorem dX11_isAct_13 : decode cX11_isAct 13 = .ok (.invokevirtual 341, 3) := by decide +kernel
theorem dX11_isAct_16 : decode cX11_isAct 16 = .ok (.ifCond .eq 15, 3) := by decide +kernel
theorem dX11_isAct_19 : decode cX11_isAct 19 = .ok (.aload_n 0, 1) := by decide +kernel
theorem dX11_isAct_20 : decode cX11_isAct 20 = .ok (.getfield 73, 3) := by decide +kernel
theorem dX11_isAct_23 : decode cX11_isAct 23 = .ok (.bipush 61, 2) := by decide +kernel
theorem dX11_isAct_25 : decode cX11_isAct 25 = .ok (.iload_n 1, 1) := by decide +kernel
theorem dX11_isAct_26 : decode cX11_isAct 26 = .ok (.iadd, 1) := by decide +kernel
theorem dX11_isAct_27 : decode cX11_isAct 27 = .ok (.iaload, 1) := by decide +kernel
theorem dX11_isAct_28 : decode cX11_isAct 28 = .ok (.ifCond .le 5, 3) := by decide +kernel
theorem dX11_isAct_31 : decode cX11_isAct 31 = .ok (.iconst 0, 1) := by decide +kernel
theorem dX11_isAct_32 : decode cX11_isAct 32 = .ok (.ireturn, 1) := by decide +kernel
theorem dX11_isAct_33 : decode cX11_isAct 33 = .ok (.iconst 0, 1) := by decide +kernel
theorem dX11_isAct_34 : decode cX11_isAct 34 = .ok (.istore 5, 2) := by decide +kernel
theorem dX11_isAct_36 : decode cX11_isAct 36 = .ok (.iconst 0, 1) := by decide +kernel
theorem dX11_isAct_37 : decode cX11_isAct 37 = .ok (.istore 6, 2) := by decide +kernel
theorem dX11_isAct_39 : decode cX11_isAct 39 = .ok (.iload 6, 2) := by decide +kernel
theorem dX11_isAct_41 : decode cX11_isAct 41 = .ok (.bipush 10, 2) := by decide +kernel
theorem dX11_isAct_43 : decode cX11_isAct 43 = .ok (.if_icmp .ge 34, 3) := by decide +kernel
theorem dX11_isAct_46 : decode cX11_isAct 46 = .ok (.iload 5, 2) := by decide +kernel
theorem dX11_isAct_48 : decode cX11_isAct 48 = .ok (.ifCond .ne 16, 3) := by decide +kernel
theorem dX11_isAct_51 : decode cX11_isAct 51 = .ok (.aload_n 0, 1) := by decide +kernel
theorem dX11_isAct_52 : decode cX11_isAct 52 = .ok (.iload_n 1, 1) := by decide +kernel
theorem dX11_isAct_53 : decode cX11_isAct 53 = .ok (.iload_n 3, 1) := by decide +kernel
theorem dX11_isAct_54 : decode cX11_isAct 54 = .ok (.iload 6, 2) := by decide +kernel
theorem dX11_isAct_56 : decode cX11_isAct 56 = .ok (.invokevirtual 387, 3) := by decide +kernel
theorem dX11_isAct_59 : decode cX11_isAct 59 = .ok (.iload 4, 2) := by decide +kernel
theorem dX11_isAct_61 : decode cX11_isAct 61 = .ok (.if_icmp .ne 7, 3) := by decide +kernel
theorem dX11_isAct_64 : decode cX11_isAct 64 = .ok (.iconst 1, 1) := by decide +kernel
theorem dX11_isAct_65 : decode cX11_isAct 65 = .ok (.goto 4, 3) := by decide +kernel
theorem dX11_isAct_68 : decode cX11_isAct 68 = .ok (.iconst 0, 1) := by decide +kernel
theorem dX11_isAct_69 : decode cX11_isAct 69 = .ok (.istore 5, 2) := by decide +kernel
theorem dX11_isAct_71 : decode cX11_isAct 71 = .ok (.iinc 6 1, 3) := by decide +kernel
theorem dX11_isAct_74 : decode cX11_isAct 74 = .ok (.goto (-35), 3) := by decide +kernel
theorem dX11_isAct_77 : decode cX11_isAct 77 = .ok (.iload 5, 2) := by decide +kernel
theorem dX11_isAct_79 : decode cX11_isAct 79 = .ok (.ireturn, 1) := by decide +kernel
theorem dX11_priceOf_0 : decode cX11_priceOf 0 = .ok (.aload_n 0, 1) := by decide +kernel
theorem dX11_priceOf_1 : decode cX11_priceOf 1 = .ok (.iload_n 1, 1) := by decide +kernel
theorem dX11_priceOf_2 : decode cX11_priceOf 2 = .ok (.iload_n 2, 1) := by decide +kernel
theorem dX11_priceOf_3 : decode cX11_priceOf 3 = .ok (.iload_n 3, 1) := by decide +kernel
theorem dX11_priceOf_4 : decode cX11_priceOf 4 = .ok (.invokevirtual 439, 3) := by decide +kernel
theorem dX11_priceOf_7 : decode cX11_priceOf 7 = .ok (.aload_n 0, 1) := by decide +kernel
theorem dX11_priceOf_8 : decode cX11_priceOf 8 = .ok (.iload_n 1, 1) := by decide +kernel
theorem dX11_priceOf_9 : decode cX11_priceOf 9 = .ok (.iload_n 2, 1) := by decide +kernel
theorem dX11_priceOf_10 : decode cX11_priceOf 10 = .ok (.iload_n 3, 1) := by decide +kernel
theorem dX11_priceOf_11 : decode cX11_priceOf 11 = .ok (.iload 4, 2) := by decide +kernel
theorem dX11_priceOf_13 : decode cX11_priceOf 13 = .ok (.invokevirtual 390, 3) := by decide +kernel
theorem dX11_priceOf_16 : decode cX11_priceOf 16 = .ok (.lsub, 1) := by decide +kernel
theorem dX11_priceOf_17 : decode cX11_priceOf 17 = .ok (.lreturn, 1) := by decide +kernel
theorem dX11_gainOf_0 : decode cX11_gainOf 0 = .ok (.aload_n 0, 1) := by decide +kernel
theorem dX11_gainOf_1 : decode cX11_gainOf 1 = .ok (.getfield 101, 3) := by decide +kernel
theorem dX11_gainOf_4 : decode cX11_gainOf 4 = .ok (.iload_n 1, 1) := by decide +kernel
theorem dX11_gainOf_5 : decode cX11_gainOf 5 = .ok (.iload_n 2, 1) := by decide +kernel
theorem dX11_gainOf_6 : decode cX11_gainOf 6 = .ok (.iload_n 3, 1) := by decide +kernel
theorem dX11_gainOf_7 : decode cX11_gainOf 7 = .ok (.invokestatic 400, 3) := by decide +kernel
theorem dX11_gainOf_10 : decode cX11_gainOf 10 = .ok (.iaload, 1) := by decide +kernel
theorem dX11_gainOf_11 : decode cX11_gainOf 11 = .ok (.istore 7, 2) := by decide +kernel
theorem dX11_gainOf_13 : decode cX11_gainOf 13 = .ok (.aload_n 0, 1) := by decide +kernel
theorem dX11_gainOf_14 : decode cX11_gainOf 14 = .ok (.iload_n 1, 1) := by decide +kernel
theorem dX11_gainOf_15 : decode cX11_gainOf 15 = .ok (.invokevirtual 442, 3) := by decide +kernel
theorem dX11_gainOf_18 : decode cX11_gainOf 18 = .ok (.aload_n 0, 1) := by decide +kernel
theorem dX11_gainOf_19 : decode cX11_gainOf 19 = .ok (.getfield 121, 3) := by decide +kernel
theorem dX11_gainOf_22 : decode cX11_gainOf 22 = .ok (.aload_n 0, 1) := by decide +kernel
theorem dX11_gainOf_23 : decode cX11_gainOf 23 = .ok (.iload_n 1, 1) := by decide +kernel
theorem dX11_gainOf_24 : decode cX11_gainOf 24 = .ok (.iload 6, 2) := by decide +kernel
theorem dX11_gainOf_26 : decode cX11_gainOf 26 = .ok (.invokevirtual 374, 3) := by decide +kernel
theorem dX11_gainOf_29 : decode cX11_gainOf 29 = .ok (.iconst 1, 1) := by decide +kernel
theorem dX11_gainOf_30 : decode cX11_gainOf 30 = .ok (.isub, 1) := by decide +kernel
theorem dX11_gainOf_31 : decode cX11_gainOf 31 = .ok (.laload, 1) := by decide +kernel
theorem dX11_gainOf_32 : decode cX11_gainOf 32 = .ok (.ldiv, 1) := by decide +kernel
theorem dX11_gainOf_33 : decode cX11_gainOf 33 = .ok (.lstore 8, 2) := by decide +kernel
theorem dX11_gainOf_35 : decode cX11_gainOf 35 = .ok (.lload 8, 2) := by decide +kernel
theorem dX11_gainOf_37 : decode cX11_gainOf 37 = .ok (.aload_n 0, 1) := by decide +kernel
theorem dX11_gainOf_38 : decode cX11_gainOf 38 = .ok (.iload_n 1, 1) := by decide +kernel
theorem dX11_gainOf_39 : decode cX11_gainOf 39 = .ok (.iload 5, 2) := by decide +kernel
theorem dX11_gainOf_41 : decode cX11_gainOf 41 = .ok (.iload 6, 2) := by decide +kernel
theorem dX11_gainOf_43 : decode cX11_gainOf 43 = .ok (.iload 4, 2) := by decide +kernel
theorem dX11_gainOf_45 : decode cX11_gainOf 45 = .ok (.invokevirtual 468, 3) := by decide +kernel
theorem dX11_gainOf_48 : decode cX11_gainOf 48 = .ok (.aload_n 0, 1) := by decide +kernel
theorem dX11_gainOf_49 : decode cX11_gainOf 49 = .ok (.iload_n 1, 1) := by decide +kernel
theorem dX11_gainOf_50 : decode cX11_gainOf 50 = .ok (.iload 5, 2) := by decide +kernel
theorem dX11_gainOf_52 : decode cX11_gainOf 52 = .ok (.iload 6, 2) := by decide +kernel
theorem dX11_gainOf_54 : decode cX11_gainOf 54 = .ok (.iload 7, 2) := by decide +kernel
theorem dX11_gainOf_56 : decode cX11_gainOf 56 = .ok (.invokevirtual 468, 3) := by decide +kernel
theorem dX11_gainOf_59 : decode cX11_gainOf 59 = .ok (.lsub, 1) := by decide +kernel
theorem dX11_gainOf_60 : decode cX11_gainOf 60 = .ok (.lmul, 1) := by decide +kernel
theorem dX11_gainOf_61 : decode cX11_gainOf 61 = .ok (.lreturn, 1) := by decide +kernel
theorem dX11_thereBy_0 : decode cX11_thereBy 0 = .ok (.aload_n 0, 1) := by decide +kernel
theorem dX11_thereBy_1 : decode cX11_thereBy 1 = .ok (.iload_n 2, 1) := by decide +kernel
theorem dX11_thereBy_2 : decode cX11_thereBy 2 = .ok (.iload 4, 2) := by decide +kernel
theorem dX11_thereBy_4 : decode cX11_thereBy 4 = .ok (.iload_n 3, 1) := by decide +kernel
theorem dX11_thereBy_5 : decode cX11_thereBy 5 = .ok (.iload_n 1, 1) := by decide +kernel
theorem dX11_thereBy_6 : decode cX11_thereBy 6 = .ok (.invokevirtual 371, 3) := by decide +kernel
theorem dX11_thereBy_9 : decode cX11_thereBy 9 = .ok (.i2l, 1) := by decide +kernel
theorem dX11_thereBy_10 : decode cX11_thereBy 10 = .ok (.aload_n 0, 1) := by decide +kernel
theorem dX11_thereBy_11 : decode cX11_thereBy 11 = .ok (.getfield 121, 3) := by decide +kernel
theorem dX11_thereBy_14 : decode cX11_thereBy 14 = .ok (.aload_n 0, 1) := by decide +kernel
theorem dX11_thereBy_15 : decode cX11_thereBy 15 = .ok (.iload_n 1, 1) := by decide +kernel
theorem dX11_thereBy_16 : decode cX11_thereBy 16 = .ok (.iload_n 3, 1) := by decide +kernel
theorem dX11_thereBy_17 : decode cX11_thereBy 17 = .ok (.invokevirtual 374, 3) := by decide +kernel
theorem dX11_thereBy_20 : decode cX11_thereBy 20 = .ok (.iconst 1, 1) := by decide +kernel
theorem dX11_thereBy_21 : decode cX11_thereBy 21 = .ok (.isub, 1) := by decide +kernel
theorem dX11_thereBy_22 : decode cX11_thereBy 22 = .ok (.laload, 1) := by decide +kernel
theorem dX11_thereBy_23 : decode cX11_thereBy 23 = .ok (.lmul, 1) := by decide +kernel
theorem dX11_thereBy_24 : decode cX11_thereBy 24 = .ok (.aload_n 0, 1) := by decide +kernel
theorem dX11_thereBy_25 : decode cX11_thereBy 25 = .ok (.getfield 104, 3) := by decide +kernel
theorem dX11_thereBy_28 : decode cX11_thereBy 28 = .ok (.iload_n 1, 1) := by decide +kernel
theorem dX11_thereBy_29 : decode cX11_thereBy 29 = .ok (.iconst 1, 1) := by decide +kernel
theorem dX11_thereBy_30 : decode cX11_thereBy 30 = .ok (.iadd, 1) := by decide +kernel
theorem dX11_thereBy_31 : decode cX11_thereBy 31 = .ok (.iload_n 2, 1) := by decide +kernel
theorem dX11_thereBy_32 : decode cX11_thereBy 32 = .ok (.iload_n 3, 1) := by decide +kernel
theorem dX11_thereBy_33 : decode cX11_thereBy 33 = .ok (.iconst 1, 1) := by decide +kernel
theorem dX11_thereBy_34 : decode cX11_thereBy 34 = .ok (.iadd, 1) := by decide +kernel
theorem dX11_thereBy_35 : decode cX11_thereBy 35 = .ok (.iload 4, 2) := by decide +kernel
theorem dX11_thereBy_37 : decode cX11_thereBy 37 = .ok (.invokestatic 377, 3) := by decide +kernel
theorem dX11_thereBy_40 : decode cX11_thereBy 40 = .ok (.laload, 1) := by decide +kernel
theorem dX11_thereBy_41 : decode cX11_thereBy 41 = .ok (.ladd, 1) := by decide +kernel
theorem dX11_thereBy_42 : decode cX11_thereBy 42 = .ok (.lreturn, 1) := by decide +kernel
theorem dX11_isOther_0 : decode cX11_isOther 0 = .ok (.aload_n 0, 1) := by decide +kernel
theorem dX11_isOther_1 : decode cX11_isOther 1 = .ok (.iload_n 1, 1) := by decide +kernel
theorem dX11_isOther_2 : decode cX11_isOther 2 = .ok (.invokevirtual 338, 3) := by decide +kernel
theorem dX11_isOther_5 : decode cX11_isOther 5 = .ok (.ifCond .eq 21, 3) := by decide +kernel
theorem dX11_isOther_8 : decode cX11_isOther 8 = .ok (.iload_n 2, 1) := by decide +kernel
theorem dX11_isOther_9 : decode cX11_isOther 9 = .ok (.iconst 1, 1) := by decide +kernel
theorem dX11_isOther_10 : decode cX11_isOther 10 = .ok (.aload_n 0, 1) := by decide +kernel
theorem dX11_isOther_11 : decode cX11_isOther 11 = .ok (.invokevirtual 365, 3) := by decide +kernel
theorem dX11_isOther_14 : decode cX11_isOther 14 = .ok (.iconst 1, 1) := by decide +kernel
theorem dX11_isOther_15 : decode cX11_isOther 15 = .ok (.isub, 1) := by decide +kernel
theorem dX11_isOther_16 : decode cX11_isOther 16 = .ok (.invokestatic 303, 3) := by decide +kernel
theorem dX11_isOther_19 : decode cX11_isOther 19 = .ok (.ifCond .eq 7, 3) := by decide +kernel
theorem dX11_isOther_22 : decode cX11_isOther 22 = .ok (.iconst 1, 1) := by decide +kernel
theorem dX11_isOther_23 : decode cX11_isOther 23 = .ok (.goto 4, 3) := by decide +kernel
theorem dX11_isOther_26 : decode cX11_isOther 26 = .ok (.iconst 0, 1) := by decide +kernel
theorem dX11_isOther_27 : decode cX11_isOther 27 = .ok (.ireturn, 1) := by decide +kernel
theorem dX11_price_0 : decode cX11_price 0 = .ok (.aload_n 0, 1) := by decide +kernel
theorem dX11_price_1 : decode cX11_price 1 = .ok (.aload_n 0, 1) := by decide +kernel
theorem dX11_price_2 : decode cX11_price 2 = .ok (.iload_n 1, 1) := by decide +kernel
theorem dX11_price_3 : decode cX11_price 3 = .ok (.iload_n 2, 1) := by decide +kernel
theorem dX11_price_4 : decode cX11_price 4 = .ok (.iload_n 3, 1) := by decide +kernel
theorem dX11_price_5 : decode cX11_price 5 = .ok (.iload 4, 2) := by decide +kernel
theorem dX11_price_7 : decode cX11_price 7 = .ok (.invokevirtual 471, 3) := by decide +kernel
theorem dX11_price_10 : decode cX11_price 10 = .ok (.ifCond .eq 15, 3) := by decide +kernel
theorem dX11_price_13 : decode cX11_price 13 = .ok (.iload 5, 2) := by decide +kernel
theorem dX11_price_15 : decode cX11_price 15 = .ok (.invokestatic 436, 3) := by decide +kernel
theorem dX11_price_18 : decode cX11_price 18 = .ok (.ifCond .eq 7, 3) := by decide +kernel
theorem dX11_price_21 : decode cX11_price 21 = .ok (.iconst 0, 1) := by decide +kernel
theorem dX11_price_22 : decode cX11_price 22 = .ok (.goto 4, 3) := by decide +kernel
theorem dX11_price_25 : decode cX11_price 25 = .ok (.iconst 1, 1) := by decide +kernel
theorem dX11_price_26 : decode cX11_price 26 = .ok (.putfield 1, 3) := by decide +kernel
theorem dX11_price_29 : decode cX11_price 29 = .ok (.aload_n 0, 1) := by decide +kernel
theorem dX11_price_30 : decode cX11_price 30 = .ok (.getfield 1, 3) := by decide +kernel
theorem dX11_price_33 : decode cX11_price 33 = .ok (.ifCond .le 5, 3) := by decide +kernel
theorem dX11_price_36 : decode cX11_price 36 = .ok (.lconst 0, 1) := by decide +kernel
theorem dX11_price_37 : decode cX11_price 37 = .ok (.lreturn, 1) := by decide +kernel
theorem dX11_price_38 : decode cX11_price 38 = .ok (.aload_n 0, 1) := by decide +kernel
theorem dX11_price_39 : decode cX11_price 39 = .ok (.aload_n 0, 1) := by decide +kernel
theorem dX11_price_40 : decode cX11_price 40 = .ok (.iload_n 1, 1) := by decide +kernel
theorem dX11_price_41 : decode cX11_price 41 = .ok (.iload_n 2, 1) := by decide +kernel
theorem dX11_price_42 : decode cX11_price 42 = .ok (.iload_n 3, 1) := by decide +kernel
theorem dX11_price_43 : decode cX11_price 43 = .ok (.iload 4, 2) := by decide +kernel
theorem dX11_price_45 : decode cX11_price 45 = .ok (.invokevirtual 474, 3) := by decide +kernel
theorem dX11_price_48 : decode cX11_price 48 = .ok (.aload_n 0, 1) := by decide +kernel
theorem dX11_price_49 : decode cX11_price 49 = .ok (.iload_n 1, 1) := by decide +kernel
theorem dX11_price_50 : decode cX11_price 50 = .ok (.invokevirtual 442, 3) := by decide +kernel
theorem dX11_price_53 : decode cX11_price 53 = .ok (.invokevirtual 446, 3) := by decide +kernel
theorem dX11_price_56 : decode cX11_price 56 = .ok (.aload_n 0, 1) := by decide +kernel
theorem dX11_price_57 : decode cX11_price 57 = .ok (.iload 5, 2) := by decide +kernel
theorem dX11_price_59 : decode cX11_price 59 = .ok (.invokevirtual 450, 3) := by decide +kernel
theorem dX11_price_62 : decode cX11_price 62 = .ok (.lreturn, 1) := by decide +kernel
theorem dX11_gain_0 : decode cX11_gain 0 = .ok (.aload_n 0, 1) := by decide +kernel
theorem dX11_gain_1 : decode cX11_gain 1 = .ok (.aload_n 0, 1) := by decide +kernel
theorem dX11_gain_2 : decode cX11_gain 2 = .ok (.iload_n 1, 1) := by decide +kernel
theorem dX11_gain_3 : decode cX11_gain 3 = .ok (.iload_n 2, 1) := by decide +kernel
theorem dX11_gain_4 : decode cX11_gain 4 = .ok (.iload_n 3, 1) := by decide +kernel
theorem dX11_gain_5 : decode cX11_gain 5 = .ok (.iload 4, 2) := by decide +kernel
theorem dX11_gain_7 : decode cX11_gain 7 = .ok (.invokevirtual 471, 3) := by decide +kernel
theorem dX11_gain_10 : decode cX11_gain 10 = .ok (.ifCond .eq 26, 3) := by decide +kernel
theorem dX11_gain_13 : decode cX11_gain 13 = .ok (.aload_n 0, 1) := by decide +kernel
theorem dX11_gain_14 : decode cX11_gain 14 = .ok (.iload 5, 2) := by decide +kernel
theorem dX11_gain_16 : decode cX11_gain 16 = .ok (.iload 6, 2) := by decide +kernel
theorem dX11_gain_18 : decode cX11_gain 18 = .ok (.invokevirtual 477, 3) := by decide +kernel
theorem dX11_gain_21 : decode cX11_gain 21 = .ok (.ifCond .eq 15, 3) := by decide +kernel
theorem dX11_gain_24 : decode cX11_gain 24 = .ok (.iload 7, 2) := by decide +kernel
theorem dX11_gain_26 : decode cX11_gain 26 = .ok (.invokestatic 436, 3) := by decide +kernel
theorem dX11_gain_29 : decode cX11_gain 29 = .ok (.ifCond .eq 7, 3) := by decide +kernel
theorem dX11_gain_32 : decode cX11_gain 32 = .ok (.iconst 0, 1) := by decide +kernel
theorem dX11_gain_33 : decode cX11_gain 33 = .ok (.goto 4, 3) := by decide +kernel
theorem dX11_gain_36 : decode cX11_gain 36 = .ok (.iconst 1, 1) := by decide +kernel
theorem dX11_gain_37 : decode cX11_gain 37 = .ok (.putfield 1, 3) := by decide +kernel
theorem dX11_gain_40 : decode cX11_gain 40 = .ok (.aload_n 0, 1) := by decide +kernel
theorem dX11_gain_41 : decode cX11_gain 41 = .ok (.getfield 1, 3) := by decide +kernel
theorem dX11_gain_44 : decode cX11_gain 44 = .ok (.ifCond .le 5, 3) := by decide +kernel
theorem dX11_gain_47 : decode cX11_gain 47 = .ok (.lconst 0, 1) := by decide +kernel
theorem dX11_gain_48 : decode cX11_gain 48 = .ok (.lreturn, 1) := by decide +kernel
theorem dX11_gain_49 : decode cX11_gain 49 = .ok (.aload_n 0, 1) := by decide +kernel
theorem dX11_gain_50 : decode cX11_gain 50 = .ok (.invokevirtual 419, 3) := by decide +kernel
theorem dX11_gain_53 : decode cX11_gain 53 = .ok (.aload_n 0, 1) := by decide +kernel
theorem dX11_gain_54 : decode cX11_gain 54 = .ok (.aload_n 0, 1) := by decide +kernel
theorem dX11_gain_55 : decode cX11_gain 55 = .ok (.iload_n 1, 1) := by decide +kernel
theorem dX11_gain_56 : decode cX11_gain 56 = .ok (.iload_n 2, 1) := by decide +kernel
theorem dX11_gain_57 : decode cX11_gain 57 = .ok (.iload_n 3, 1) := by decide +kernel
theorem dX11_gain_58 : decode cX11_gain 58 = .ok (.iload 4, 2) := by decide +kernel
theorem dX11_gain_60 : decode cX11_gain 60 = .ok (.iload 5, 2) := by decide +kernel
theorem dX11_gain_62 : decode cX11_gain 62 = .ok (.iload 6, 2) := by decide +kernel
theorem dX11_gain_64 : decode cX11_gain 64 = .ok (.invokevirtual 480, 3) := by decide +kernel
theorem dX11_gain_67 : decode cX11_gain 67 = .ok (.aload_n 0, 1) := by decide +kernel
theorem dX11_gain_68 : decode cX11_gain 68 = .ok (.iload_n 1, 1) := by decide +kernel
theorem dX11_gain_69 : decode cX11_gain 69 = .ok (.invokevirtual 442, 3) := by decide +kernel
theorem dX11_gain_72 : decode cX11_gain 72 = .ok (.invokevirtual 446, 3) := by decide +kernel
theorem dX11_gain_75 : decode cX11_gain 75 = .ok (.aload_n 0, 1) := by decide +kernel
theorem dX11_gain_76 : decode cX11_gain 76 = .ok (.iload 7, 2) := by decide +kernel
theorem dX11_gain_78 : decode cX11_gain 78 = .ok (.invokevirtual 450, 3) := by decide +kernel
theorem dX11_gain_81 : decode cX11_gain 81 = .ok (.lreturn, 1) := by decide +kernel
theorem dX11_lets_0 : decode cX11_lets 0 = .ok (.aload_n 0, 1) := by decide +kernel
theorem dX11_lets_1 : decode cX11_lets 1 = .ok (.aload_n 0, 1) := by decide +kernel
theorem dX11_lets_2 : decode cX11_lets 2 = .ok (.iload_n 1, 1) := by decide +kernel
theorem dX11_lets_3 : decode cX11_lets 3 = .ok (.iload_n 2, 1) := by decide +kernel
theorem dX11_lets_4 : decode cX11_lets 4 = .ok (.iload_n 3, 1) := by decide +kernel
theorem dX11_lets_5 : decode cX11_lets 5 = .ok (.iload 4, 2) := by decide +kernel
theorem dX11_lets_7 : decode cX11_lets 7 = .ok (.invokevirtual 471, 3) := by decide +kernel
theorem dX11_lets_10 : decode cX11_lets 10 = .ok (.ifCond .eq 26, 3) := by decide +kernel
theorem dX11_lets_13 : decode cX11_lets 13 = .ok (.aload_n 0, 1) := by decide +kernel
theorem dX11_lets_14 : decode cX11_lets 14 = .ok (.iload 5, 2) := by decide +kernel
theorem dX11_lets_16 : decode cX11_lets 16 = .ok (.iload 6, 2) := by decide +kernel
theorem dX11_lets_18 : decode cX11_lets 18 = .ok (.invokevirtual 477, 3) := by decide +kernel
theorem dX11_lets_21 : decode cX11_lets 21 = .ok (.ifCond .eq 15, 3) := by decide +kernel
theorem dX11_lets_24 : decode cX11_lets 24 = .ok (.iload 7, 2) := by decide +kernel
theorem dX11_lets_26 : decode cX11_lets 26 = .ok (.invokestatic 436, 3) := by decide +kernel
theorem dX11_lets_29 : decode cX11_lets 29 = .ok (.ifCond .eq 7, 3) := by decide +kernel
theorem dX11_lets_32 : decode cX11_lets 32 = .ok (.iconst 0, 1) := by decide +kernel
theorem dX11_lets_33 : decode cX11_lets 33 = .ok (.goto 4, 3) := by decide +kernel
theorem dX11_lets_36 : decode cX11_lets 36 = .ok (.iconst 1, 1) := by decide +kernel
theorem dX11_lets_37 : decode cX11_lets 37 = .ok (.putfield 1, 3) := by decide +kernel
theorem dX11_lets_40 : decode cX11_lets 40 = .ok (.aload_n 0, 1) := by decide +kernel
theorem dX11_lets_41 : decode cX11_lets 41 = .ok (.getfield 1, 3) := by decide +kernel
theorem dX11_lets_44 : decode cX11_lets 44 = .ok (.ifCond .le 5, 3) := by decide +kernel
theorem dX11_lets_47 : decode cX11_lets 47 = .ok (.lconst 0, 1) := by decide +kernel
theorem dX11_lets_48 : decode cX11_lets 48 = .ok (.lreturn, 1) := by decide +kernel
theorem dX11_lets_49 : decode cX11_lets 49 = .ok (.aload_n 0, 1) := by decide +kernel
theorem dX11_lets_50 : decode cX11_lets 50 = .ok (.iload_n 1, 1) := by decide +kernel
theorem dX11_lets_51 : decode cX11_lets 51 = .ok (.iload_n 2, 1) := by decide +kernel
theorem dX11_lets_52 : decode cX11_lets 52 = .ok (.iload_n 3, 1) := by decide +kernel
theorem dX11_lets_53 : decode cX11_lets 53 = .ok (.iload 4, 2) := by decide +kernel
theorem dX11_lets_55 : decode cX11_lets 55 = .ok (.invokevirtual 474, 3) := by decide +kernel
theorem dX11_lets_58 : decode cX11_lets 58 = .ok (.lstore 8, 2) := by decide +kernel
theorem dX11_lets_60 : decode cX11_lets 60 = .ok (.aload_n 0, 1) := by decide +kernel
theorem dX11_lets_61 : decode cX11_lets 61 = .ok (.aload_n 0, 1) := by decide +kernel
theorem dX11_lets_62 : decode cX11_lets 62 = .ok (.iload_n 1, 1) := by decide +kernel
theorem dX11_lets_63 : decode cX11_lets 63 = .ok (.iload_n 2, 1) := by decide +kernel
theorem dX11_lets_64 : decode cX11_lets 64 = .ok (.iload_n 3, 1) := by decide +kernel
theorem dX11_lets_65 : decode cX11_lets 65 = .ok (.iload 4, 2) := by decide +kernel
theorem dX11_lets_67 : decode cX11_lets 67 = .ok (.iload 5, 2) := by decide +kernel
theorem dX11_lets_69 : decode cX11_lets 69 = .ok (.iload 6, 2) := by decide +kernel
theorem dX11_lets_71 : decode cX11_lets 71 = .ok (.invokevirtual 480, 3) := by decide +kernel
theorem dX11_lets_74 : decode cX11_lets 74 = .ok (.lload 8, 2) := by decide +kernel
theorem dX11_lets_76 : decode cX11_lets 76 = .ok (.lsub, 1) := by decide +kernel
theorem dX11_lets_77 : decode cX11_lets 77 = .ok (.aload_n 0, 1) := by decide +kernel
theorem dX11_lets_78 : decode cX11_lets 78 = .ok (.iload_n 1, 1) := by decide +kernel
theorem dX11_lets_79 : decode cX11_lets 79 = .ok (.invokevirtual 442, 3) := by decide +kernel
theorem dX11_lets_82 : decode cX11_lets 82 = .ok (.invokevirtual 446, 3) := by decide +kernel
theorem dX11_lets_85 : decode cX11_lets 85 = .ok (.aload_n 0, 1) := by decide +kernel
theorem dX11_lets_86 : decode cX11_lets 86 = .ok (.iload 7, 2) := by decide +kernel
theorem dX11_lets_88 : decode cX11_lets 88 = .ok (.invokevirtual 450, 3) := by decide +kernel
theorem dX11_lets_91 : decode cX11_lets 91 = .ok (.lreturn, 1) := by decide +kernel
theorem dX11_present_0 : decode cX11_present 0 = .ok (.aload_n 0, 1) := by decide +kernel
theorem dX11_present_1 : decode cX11_present 1 = .ok (.aload_n 0, 1) := by decide +kernel
theorem dX11_present_2 : decode cX11_present 2 = .ok (.iload_n 1, 1) := by decide +kernel
theorem dX11_present_3 : decode cX11_present 3 = .ok (.iload_n 2, 1) := by decide +kernel
theorem dX11_present_4 : decode cX11_present 4 = .ok (.iload_n 3, 1) := by decide +kernel
theorem dX11_present_5 : decode cX11_present 5 = .ok (.invokevirtual 416, 3) := by decide +kernel
theorem dX11_present_8 : decode cX11_present 8 = .ok (.ifCond .eq 37, 3) := by decide +kernel
theorem dX11_present_11 : decode cX11_present 11 = .ok (.aload_n 0, 1) := by decide +kernel
theorem dX11_present_12 : decode cX11_present 12 = .ok (.getfield 73, 3) := by decide +kernel
theorem dX11_present_15 : decode cX11_present 15 = .ok (.bipush 61, 2) := by decide +kernel
theorem dX11_present_17 : decode cX11_present 17 = .ok (.iload_n 1, 1) := by decide +kernel
theorem dX11_present_18 : decode cX11_present 18 = .ok (.iadd, 1) := by decide +kernel
theorem dX11_present_19 : decode cX11_present 19 = .ok (.iaload, 1) := by decide +kernel
theorem dX11_present_20 : decode cX11_present 20 = .ok (.ifCond .ne 25, 3) := by decide +kernel
theorem dX11_present_23 : decode cX11_present 23 = .ok (.aload_n 0, 1) := by decide +kernel
theorem dX11_present_24 : decode cX11_present 24 = .ok (.invokevirtual 365, 3) := by decide +kernel
theorem dX11_present_27 : decode cX11_present 27 = .ok (.iconst 1, 1) := by decide +kernel
theorem dX11_present_28 : decode cX11_present 28 = .ok (.if_icmp .le 17, 3) := by decide +kernel
theorem dX11_present_31 : decode cX11_present 31 = .ok (.iload 4, 2) := by decide +kernel
theorem dX11_present_33 : decode cX11_present 33 = .ok (.iconst 0, 1) := by decide +kernel
theorem dX11_present_34 : decode cX11_present 34 = .ok (.iconst 4, 1) := by decide +kernel
theorem dX11_present_35 : decode cX11_present 35 = .ok (.invokestatic 303, 3) := by decide +kernel
theorem dX11_present_38 : decode cX11_present 38 = .ok (.ifCond .eq 7, 3) := by decide +kernel
theorem dX11_present_41 : decode cX11_present 41 = .ok (.iconst 0, 1) := by decide +kernel
theorem dX11_present_42 : decode cX11_present 42 = .ok (.goto 4, 3) := by decide +kernel
theorem dX11_present_45 : decode cX11_present 45 = .ok (.iconst 1, 1) := by decide +kernel
theorem dX11_present_46 : decode cX11_present 46 = .ok (.putfield 1, 3) := by decide +kernel
theorem dX11_present_49 : decode cX11_present 49 = .ok (.aload_n 0, 1) := by decide +kernel
theorem dX11_present_50 : decode cX11_present 50 = .ok (.getfield 1, 3) := by decide +kernel
theorem dX11_present_53 : decode cX11_present 53 = .ok (.ifCond .le 5, 3) := by decide +kernel
theorem dX11_present_56 : decode cX11_present 56 = .ok (.lconst 0, 1) := by decide +kernel
theorem dX11_present_57 : decode cX11_present 57 = .ok (.lreturn, 1) := by decide +kernel
theorem dX11_present_58 : decode cX11_present 58 = .ok (.aload_n 0, 1) := by decide +kernel
theorem dX11_present_59 : decode cX11_present 59 = .ok (.invokevirtual 419, 3) := by decide +kernel
theorem dX11_present_62 : decode cX11_present 62 = .ok (.iconst (-1), 1) := by decide +kernel
theorem dX11_present_63 : decode cX11_present 63 = .ok (.istore 5, 2) := by decide +kernel
theorem dX11_present_65 : decode cX11_present 65 = .ok (.iconst (-1), 1) := by decide +kernel
theorem dX11_present_66 : decode cX11_present 66 = .ok (.istore 6, 2) := by decide +kernel
theorem dX11_present_68 : decode cX11_present 68 = .ok (.iconst (-1), 1) := by decide +kernel
theorem dX11_present_69 : decode cX11_present 69 = .ok (.istore 7, 2) := by decide +kernel
theorem dX11_present_71 : decode cX11_present 71 = .ok (.lconst 0, 1) := by decide +kernel
theorem dX11_present_72 : decode cX11_present 72 = .ok (.lstore 8, 2) := by decide +kernel
theorem dX11_present_74 : decode cX11_present 74 = .ok (.iconst 0, 1) := by decide +kernel
theorem dX11_present_75 : decode cX11_present 75 = .ok (.istore 10, 2) := by decide +kernel
theorem dX11_present_77 : decode cX11_present 77 = .ok (.iload 10, 2) := by decide +kernel
theorem dX11_present_79 : decode cX11_present 79 = .ok (.bipush 10, 2) := by decide +kernel
theorem dX11_present_81 : decode cX11_present 81 = .ok (.if_icmp .ge 123, 3) := by decide +kernel
theorem dX11_present_84 : decode cX11_present 84 = .ok (.aload_n 0, 1) := by decide +kernel
theorem dX11_present_85 : decode cX11_present 85 = .ok (.iload_n 1, 1) := by decide +kernel
theorem dX11_present_86 : decode cX11_present 86 = .ok (.iload_n 3, 1) := by decide +kernel
theorem dX11_present_87 : decode cX11_present 87 = .ok (.iload 10, 2) := by decide +kernel
theorem dX11_present_89 : decode cX11_present 89 = .ok (.invokevirtual 387, 3) := by decide +kernel
theorem dX11_present_92 : decode cX11_present 92 = .ok (.istore 11, 2) := by decide +kernel
theorem dX11_present_94 : decode cX11_present 94 = .ok (.iconst 0, 1) := by decide +kernel
theorem dX11_present_95 : decode cX11_present 95 = .ok (.istore 12, 2) := by decide +kernel
theorem dX11_present_97 : decode cX11_present 97 = .ok (.iload 12, 2) := by decide +kernel
theorem dX11_present_99 : decode cX11_present 99 = .ok (.bipush 24, 2) := by decide +kernel
theorem dX11_present_101 : decode cX11_present 101 = .ok (.if_icmp .ge 97, 3) := by decide +kernel
theorem dX11_present_104 : decode cX11_present 104 = .ok (.iload 11, 2) := by decide +kernel
theorem dX11_present_106 : decode cX11_present 106 = .ok (.ifCond .lt 92, 3) := by decide +kernel
theorem dX11_present_109 : decode cX11_present 109 = .ok (.aload_n 0, 1) := by decide +kernel
theorem dX11_present_110 : decode cX11_present 110 = .ok (.iload 12, 2) := by decide +kernel
theorem dX11_present_112 : decode cX11_present 112 = .ok (.bipush 6, 2) := by decide +kernel
theorem dX11_present_114 : decode cX11_present 114 = .ok (.idiv, 1) := by decide +kernel
theorem dX11_present_115 : decode cX11_present 115 = .ok (.iload 12, 2) := by decide +kernel
theorem dX11_present_117 : decode cX11_present 117 = .ok (.bipush 6, 2) := by decide +kernel
theorem dX11_present_119 : decode cX11_present 119 = .ok (.irem, 1) := by decide +kernel
theorem dX11_present_120 : decode cX11_present 120 = .ok (.invokevirtual 477, 3) := by decide +kernel
theorem dX11_present_123 : decode cX11_present 123 = .ok (.ifCond .eq 69, 3) := by decide +kernel
theorem dX11_present_126 : decode cX11_present 126 = .ok (.aload_n 0, 1) := by decide +kernel
theorem dX11_present_127 : decode cX11_present 127 = .ok (.iload_n 1, 1) := by decide +kernel
theorem dX11_present_128 : decode cX11_present 128 = .ok (.iload_n 2, 1) := by decide +kernel
theorem dX11_present_129 : decode cX11_present 129 = .ok (.iload_n 3, 1) := by decide +kernel
theorem dX11_present_130 : decode cX11_present 130 = .ok (.iload 11, 2) := by decide +kernel
theorem dX11_present_132 : decode cX11_present 132 = .ok (.iload 12, 2) := by decide +kernel
theorem dX11_present_134 : decode cX11_present 134 = .ok (.bipush 6, 2) := by decide +kernel
theorem dX11_present_136 : decode cX11_present 136 = .ok (.idiv, 1) := by decide +kernel
theorem dX11_present_137 : decode cX11_present 137 = .ok (.iload 12, 2) := by decide +kernel
theorem dX11_present_139 : decode cX11_present 139 = .ok (.bipush 6, 2) := by decide +kernel
theorem dX11_present_141 : decode cX11_present 141 = .ok (.irem, 1) := by decide +kernel
theorem dX11_present_142 : decode cX11_present 142 = .ok (.invokevirtual 480, 3) := by decide +kernel
theorem dX11_present_145 : decode cX11_present 145 = .ok (.aload_n 0, 1) := by decide +kernel
theorem dX11_present_146 : decode cX11_present 146 = .ok (.iload_n 1, 1) := by decide +kernel
theorem dX11_present_147 : decode cX11_present 147 = .ok (.iload_n 2, 1) := by decide +kernel
theorem dX11_present_148 : decode cX11_present 148 = .ok (.iload_n 3, 1) := by decide +kernel
theorem dX11_present_149 : decode cX11_present 149 = .ok (.iload 11, 2) := by decide +kernel
theorem dX11_present_151 : decode cX11_present 151 = .ok (.invokevirtual 474, 3) := by decide +kernel
theorem dX11_present_154 : decode cX11_present 154 = .ok (.lsub, 1) := by decide +kernel
theorem dX11_present_155 : decode cX11_present 155 = .ok (.lstore 13, 2) := by decide +kernel
theorem dX11_present_157 : decode cX11_present 157 = .ok (.iload 5, 2) := by decide +kernel
theorem dX11_present_159 : decode cX11_present 159 = .ok (.ifCond .lt 11, 3) := by decide +kernel
theorem dX11_present_162 : decode cX11_present 162 = .ok (.lload 13, 2) := by decide +kernel
theorem dX11_present_164 : decode cX11_present 164 = .ok (.lload 8, 2) := by decide +kernel
theorem dX11_present_166 : decode cX11_present 166 = .ok (.lcmp, 1) := by decide +kernel
theorem dX11_present_167 : decode cX11_present 167 = .ok (.ifCond .le 25, 3) := by decide +kernel
theorem dX11_present_170 : decode cX11_present 170 = .ok (.lload 13, 2) := by decide +kernel
theorem dX11_present_172 : decode cX11_present 172 = .ok (.lstore 8, 2) := by decide +kernel
theorem dX11_present_174 : decode cX11_present 174 = .ok (.iload 11, 2) := by decide +kernel
theorem dX11_present_176 : decode cX11_present 176 = .ok (.istore 5, 2) := by decide +kernel
theorem dX11_present_178 : decode cX11_present 178 = .ok (.iload 12, 2) := by decide +kernel
theorem dX11_present_180 : decode cX11_present 180 = .ok (.bipush 6, 2) := by decide +kernel
theorem dX11_present_182 : decode cX11_present 182 = .ok (.idiv, 1) := by decide +kernel
theorem dX11_present_183 : decode cX11_present 183 = .ok (.istore 6, 2) := by decide +kernel
theorem dX11_present_185 : decode cX11_present 185 = .ok (.iload 12, 2) := by decide +kernel
theorem dX11_present_187 : decode cX11_present 187 = .ok (.bipush 6, 2) := by decide +kernel
theorem dX11_present_189 : decode cX11_present 189 = .ok (.irem, 1) := by decide +kernel
theorem dX11_present_190 : decode cX11_present 190 = .ok (.istore 7, 2) := by decide +kernel
theorem dX11_present_192 : decode cX11_present 192 = .ok (.iinc 12 1, 3) := by decide +kernel
theorem dX11_present_195 : decode cX11_present 195 = .ok (.goto (-98), 3) := by decide +kernel
theorem dX11_present_198 : decode cX11_present 198 = .ok (.iinc 10 1, 3) := by decide +kernel
theorem dX11_present_201 : decode cX11_present 201 = .ok (.goto (-124), 3) := by decide +kernel
theorem dX11_present_204 : decode cX11_present 204 = .ok (.aload_n 0, 1) := by decide +kernel
theorem dX11_present_205 : decode cX11_present 205 = .ok (.lload 8, 2) := by decide +kernel
theorem dX11_present_207 : decode cX11_present 207 = .ok (.aload_n 0, 1) := by decide +kernel
theorem dX11_present_208 : decode cX11_present 208 = .ok (.iload_n 1, 1) := by decide +kernel
theorem dX11_present_209 : decode cX11_present 209 = .ok (.invokevirtual 442, 3) := by decide +kernel
theorem dX11_present_212 : decode cX11_present 212 = .ok (.invokevirtual 446, 3) := by decide +kernel
theorem dX11_present_215 : decode cX11_present 215 = .ok (.iload 4, 2) := by decide +kernel
theorem dX11_present_217 : decode cX11_present 217 = .ok (.ifCond .ne 9, 3) := by decide +kernel
theorem dX11_present_220 : decode cX11_present 220 = .ok (.iload 5, 2) := by decide +kernel
theorem dX11_present_222 : decode cX11_present 222 = .ok (.i2l, 1) := by decide +kernel
theorem dX11_present_223 : decode cX11_present 223 = .ok (.goto 35, 3) := by decide +kernel
theorem dX11_present_226 : decode cX11_present 226 = .ok (.iload 4, 2) := by decide +kernel
theorem dX11_present_228 : decode cX11_present 228 = .ok (.iconst 1, 1) := by decide +kernel
theorem dX11_present_229 : decode cX11_present 229 = .ok (.if_icmp .ne 9, 3) := by decide +kernel
theorem dX11_present_232 : decode cX11_present 232 = .ok (.iload 6, 2) := by decide +kernel
theorem dX11_present_234 : decode cX11_present 234 = .ok (.i2l, 1) := by decide +kernel
theorem dX11_present_235 : decode cX11_present 235 = .ok (.goto 23, 3) := by decide +kernel
theorem dX11_present_238 : decode cX11_present 238 = .ok (.iload 4, 2) := by decide +kernel
theorem dX11_present_240 : decode cX11_present 240 = .ok (.iconst 2, 1) := by decide +kernel
theorem dX11_present_241 : decode cX11_present 241 = .ok (.if_icmp .ne 9, 3) := by decide +kernel
theorem dX11_present_244 : decode cX11_present 244 = .ok (.iload 7, 2) := by decide +kernel
theorem dX11_present_246 : decode cX11_present 246 = .ok (.i2l, 1) := by decide +kernel
theorem dX11_present_247 : decode cX11_present 247 = .ok (.goto 11, 3) := by decide +kernel
theorem dX11_present_250 : decode cX11_present 250 = .ok (.aload_n 0, 1) := by decide +kernel
theorem dX11_present_251 : decode cX11_present 251 = .ok (.iload 4, 2) := by decide +kernel
theorem dX11_present_253 : decode cX11_present 253 = .ok (.iconst 3, 1) := by decide +kernel
theorem dX11_present_254 : decode cX11_present 254 = .ok (.isub, 1) := by decide +kernel
theorem dX11_present_255 : decode cX11_present 255 = .ok (.invokevirtual 450, 3) := by decide +kernel
theorem dX11_present_258 : decode cX11_present 258 = .ok (.lreturn, 1) := by decide +kernel
theorem dX11_hopesOf_0 : decode cX11_hopesOf 0 = .ok (.aload_n 0, 1) := by decide +kernel
theorem dX11_hopesOf_1 : decode cX11_hopesOf 1 = .ok (.iload_n 2, 1) := by decide +kernel
theorem dX11_hopesOf_2 : decode cX11_hopesOf 2 = .ok (.invokevirtual 465, 3) := by decide +kernel
theorem dX11_hopesOf_5 : decode cX11_hopesOf 5 = .ok (.lconst 0, 1) := by decide +kernel
theorem dX11_hopesOf_6 : decode cX11_hopesOf 6 = .ok (.lstore_n 3, 1) := by decide +kernel
theorem dX11_hopesOf_7 : decode cX11_hopesOf 7 = .ok (.iconst 0, 1) := by decide +kernel
theorem dX11_hopesOf_8 : decode cX11_hopesOf 8 = .ok (.istore 5, 2) := by decide +kernel
theorem dX11_hopesOf_10 : decode cX11_hopesOf 10 = .ok (.iload 5, 2) := by decide +kernel
theorem dX11_hopesOf_12 : decode cX11_hopesOf 12 = .ok (.bipush 27, 2) := by decide +kernel
theorem dX11_hopesOf_14 : decode cX11_hopesOf 14 = .ok (.if_icmp .ge 56, 3) := by decide +kernel
theorem dX11_hopesOf_17 : decode cX11_hopesOf 17 = .ok (.lload_n 3, 1) := by decide +kernel
theorem dX11_hopesOf_18 : decode cX11_hopesOf 18 = .ok (.aload_n 0, 1) := by decide +kernel
theorem dX11_hopesOf_19 : decode cX11_hopesOf 19 = .ok (.getfield 124, 3) := by decide +kernel
theorem dX11_hopesOf_22 : decode cX11_hopesOf 22 = .ok (.iload 5, 2) := by decide +kernel
theorem dX11_hopesOf_24 : decode cX11_hopesOf 24 = .ok (.laload, 1) := by decide +kernel
theorem dX11_hopesOf_25 : decode cX11_hopesOf 25 = .ok (.lconst 0, 1) := by decide +kernel
theorem dX11_hopesOf_26 : decode cX11_hopesOf 26 = .ok (.lcmp, 1) := by decide +kernel
theorem dX11_hopesOf_27 : decode cX11_hopesOf 27 = .ok (.ifCond .le 34, 3) := by decide +kernel
theorem dX11_hopesOf_30 : decode cX11_hopesOf 30 = .ok (.aload_n 0, 1) := by decide +kernel
theorem dX11_hopesOf_31 : decode cX11_hopesOf 31 = .ok (.getfield 124, 3) := by decide +kernel
theorem dX11_hopesOf_34 : decode cX11_hopesOf 34 = .ok (.iload 5, 2) := by decide +kernel
theorem dX11_hopesOf_36 : decode cX11_hopesOf 36 = .ok (.laload, 1) := by decide +kernel
theorem dX11_hopesOf_37 : decode cX11_hopesOf 37 = .ok (.aload_n 0, 1) := by decide +kernel
theorem dX11_hopesOf_38 : decode cX11_hopesOf 38 = .ok (.iload_n 2, 1) := by decide +kernel
theorem dX11_hopesOf_39 : decode cX11_hopesOf 39 = .ok (.iload_n 1, 1) := by decide +kernel
theorem dX11_hopesOf_40 : decode cX11_hopesOf 40 = .ok (.iload 5, 2) := by decide +kernel
theorem dX11_hopesOf_42 : decode cX11_hopesOf 42 = .ok (.aload_n 0, 1) := by decide +kernel
theorem dX11_hopesOf_43 : decode cX11_hopesOf 43 = .ok (.getfield 101, 3) := by decide +kernel
theorem dX11_hopesOf_46 : decode cX11_hopesOf 46 = .ok (.iload_n 2, 1) := by decide +kernel
theorem dX11_hopesOf_47 : decode cX11_hopesOf 47 = .ok (.iload_n 1, 1) := by decide +kernel
theorem dX11_hopesOf_48 : decode cX11_hopesOf 48 = .ok (.iload 5, 2) := by decide +kernel
theorem dX11_hopesOf_50 : decode cX11_hopesOf 50 = .ok (.invokestatic 400, 3) := by decide +kernel
theorem dX11_hopesOf_53 : decode cX11_hopesOf 53 = .ok (.iaload, 1) := by decide +kernel
theorem dX11_hopesOf_54 : decode cX11_hopesOf 54 = .ok (.invokevirtual 390, 3) := by decide +kernel
theorem dX11_hopesOf_57 : decode cX11_hopesOf 57 = .ok (.lmul, 1) := by decide +kernel
theorem dX11_hopesOf_58 : decode cX11_hopesOf 58 = .ok (.goto 4, 3) := by decide +kernel
theorem dX11_hopesOf_61 : decode cX11_hopesOf 61 = .ok (.lconst 0, 1) := by decide +kernel
theorem dX11_hopesOf_62 : decode cX11_hopesOf 62 = .ok (.ladd, 1) := by decide +kernel
theorem dX11_hopesOf_63 : decode cX11_hopesOf 63 = .ok (.lstore_n 3, 1) := by decide +kernel
theorem dX11_hopesOf_64 : decode cX11_hopesOf 64 = .ok (.iinc 5 1, 3) := by decide +kernel
theorem dX11_hopesOf_67 : decode cX11_hopesOf 67 = .ok (.goto (-57), 3) := by decide +kernel
theorem dX11_hopesOf_70 : decode cX11_hopesOf 70 = .ok (.lload_n 3, 1) := by decide +kernel
theorem dX11_hopesOf_71 : decode cX11_hopesOf 71 = .ok (.lreturn, 1) := by decide +kernel
theorem dX11_isHope_0 : decode cX11_isHope 0 = .ok (.aload_n 0, 1) := by decide +kernel
theorem dX11_isHope_1 : decode cX11_isHope 1 = .ok (.iload_n 1, 1) := by decide +kernel
theorem dX11_isHope_2 : decode cX11_isHope 2 = .ok (.invokevirtual 338, 3) := by decide +kernel
theorem dX11_isHope_5 : decode cX11_isHope 5 = .ok (.ifCond .eq 15, 3) := by decide +kernel
theorem dX11_isHope_8 : decode cX11_isHope 8 = .ok (.aload_n 0, 1) := by decide +kernel
theorem dX11_isHope_9 : decode cX11_isHope 9 = .ok (.iload_n 2, 1) := by decide +kernel
theorem dX11_isHope_10 : decode cX11_isHope 10 = .ok (.invokevirtual 462, 3) := by decide +kernel
theorem dX11_isHope_13 : decode cX11_isHope 13 = .ok (.ifCond .eq 7, 3) := by decide +kernel
theorem dX11_isHope_16 : decode cX11_isHope 16 = .ok (.iconst 1, 1) := by decide +kernel
theorem dX11_isHope_17 : decode cX11_isHope 17 = .ok (.goto 4, 3) := by decide +kernel
theorem dX11_isHope_20 : decode cX11_isHope 20 = .ok (.iconst 0, 1) := by decide +kernel
theorem dX11_isHope_21 : decode cX11_isHope 21 = .ok (.ireturn, 1) := by decide +kernel
theorem dX11_hopes_0 : decode cX11_hopes 0 = .ok (.aload_n 0, 1) := by decide +kernel
theorem dX11_hopes_1 : decode cX11_hopes 1 = .ok (.aload_n 0, 1) := by decide +kernel
theorem dX11_hopes_2 : decode cX11_hopes 2 = .ok (.iload_n 2, 1) := by decide +kernel
theorem dX11_hopes_3 : decode cX11_hopes 3 = .ok (.iload_n 1, 1) := by decide +kernel
theorem dX11_hopes_4 : decode cX11_hopes 4 = .ok (.invokevirtual 484, 3) := by decide +kernel
theorem dX11_hopes_7 : decode cX11_hopes 7 = .ok (.ifCond .eq 14, 3) := by decide +kernel
theorem dX11_hopes_10 : decode cX11_hopes 10 = .ok (.iload_n 3, 1) := by decide +kernel
theorem dX11_hopes_11 : decode cX11_hopes 11 = .ok (.invokestatic 436, 3) := by decide +kernel
theorem dX11_hopes_14 : decode cX11_hopes 14 = .ok (.ifCond .eq 7, 3) := by decide +kernel
theorem dX11_hopes_17 : decode cX11_hopes 17 = .ok (.iconst 0, 1) := by decide +kernel
theorem dX11_hopes_18 : decode cX11_hopes 18 = .ok (.goto 4, 3) := by decide +kernel
theorem dX11_hopes_21 : decode cX11_hopes 21 = .ok (.iconst 1, 1) := by decide +kernel
theorem dX11_hopes_22 : decode cX11_hopes 22 = .ok (.putfield 1, 3) := by decide +kernel
theorem dX11_hopes_25 : decode cX11_hopes 25 = .ok (.aload_n 0, 1) := by decide +kernel
theorem dX11_hopes_26 : decode cX11_hopes 26 = .ok (.getfield 1, 3) := by decide +kernel
theorem dX11_hopes_29 : decode cX11_hopes 29 = .ok (.ifCond .le 5, 3) := by decide +kernel
theorem dX11_hopes_32 : decode cX11_hopes 32 = .ok (.lconst 0, 1) := by decide +kernel
theorem dX11_hopes_33 : decode cX11_hopes 33 = .ok (.lreturn, 1) := by decide +kernel
theorem dX11_hopes_34 : decode cX11_hopes 34 = .ok (.aload_n 0, 1) := by decide +kernel
theorem dX11_hopes_35 : decode cX11_hopes 35 = .ok (.aload_n 0, 1) := by decide +kernel
theorem dX11_hopes_36 : decode cX11_hopes 36 = .ok (.iload_n 2, 1) := by decide +kernel
theorem dX11_hopes_37 : decode cX11_hopes 37 = .ok (.iload_n 1, 1) := by decide +kernel
theorem dX11_hopes_38 : decode cX11_hopes 38 = .ok (.invokevirtual 487, 3) := by decide +kernel
theorem dX11_hopes_41 : decode cX11_hopes 41 = .ok (.aload_n 0, 1) := by decide +kernel
theorem dX11_hopes_42 : decode cX11_hopes 42 = .ok (.getfield 121, 3) := by decide +kernel
theorem dX11_hopes_45 : decode cX11_hopes 45 = .ok (.iload_n 1, 1) := by decide +kernel
theorem dX11_hopes_46 : decode cX11_hopes 46 = .ok (.laload, 1) := by decide +kernel
theorem dX11_hopes_47 : decode cX11_hopes 47 = .ok (.aload_n 0, 1) := by decide +kernel
theorem dX11_hopes_48 : decode cX11_hopes 48 = .ok (.iload_n 1, 1) := by decide +kernel
theorem dX11_hopes_49 : decode cX11_hopes 49 = .ok (.invokevirtual 442, 3) := by decide +kernel
theorem dX11_hopes_52 : decode cX11_hopes 52 = .ok (.lmul, 1) := by decide +kernel
theorem dX11_hopes_53 : decode cX11_hopes 53 = .ok (.invokevirtual 446, 3) := by decide +kernel
theorem dX11_hopes_56 : decode cX11_hopes 56 = .ok (.aload_n 0, 1) := by decide +kernel
theorem dX11_hopes_57 : decode cX11_hopes 57 = .ok (.iload_n 3, 1) := by decide +kernel
theorem dX11_hopes_58 : decode cX11_hopes 58 = .ok (.invokevirtual 450, 3) := by decide +kernel
theorem dX11_hopes_61 : decode cX11_hopes 61 = .ok (.lreturn, 1) := by decide +kernel
theorem dX11_vow_0 : decode cX11_vow 0 = .ok (.aload_n 0, 1) := by decide +kernel
theorem dX11_vow_1 : decode cX11_vow 1 = .ok (.aload_n 0, 1) := by decide +kernel
theorem dX11_vow_2 : decode cX11_vow 2 = .ok (.iload_n 2, 1) := by decide +kernel
theorem dX11_vow_3 : decode cX11_vow 3 = .ok (.iload_n 1, 1) := by decide +kernel
theorem dX11_vow_4 : decode cX11_vow 4 = .ok (.invokevirtual 484, 3) := by decide +kernel
theorem dX11_vow_7 : decode cX11_vow 7 = .ok (.ifCond .eq 23, 3) := by decide +kernel
theorem dX11_vow_10 : decode cX11_vow 10 = .ok (.aload_n 0, 1) := by decide +kernel
theorem dX11_vow_11 : decode cX11_vow 11 = .ok (.invokevirtual 314, 3) := by decide +kernel
theorem dX11_vow_14 : decode cX11_vow 14 = .ok (.ifCond .le 16, 3) := by decide +kernel
theorem dX11_vow_17 : decode cX11_vow 17 = .ok (.iload_n 3, 1) := by decide +kernel
theorem dX11_vow_18 : decode cX11_vow 18 = .ok (.iconst 0, 1) := by decide +kernel
theorem dX11_vow_19 : decode cX11_vow 19 = .ok (.iconst 2, 1) := by decide +kernel
theorem dX11_vow_20 : decode cX11_vow 20 = .ok (.invokestatic 303, 3) := by decide +kernel
theorem dX11_vow_23 : decode cX11_vow 23 = .ok (.ifCond .eq 7, 3) := by decide +kernel
theorem dX11_vow_26 : decode cX11_vow 26 = .ok (.iconst 0, 1) := by decide +kernel
theorem dX11_vow_27 : decode cX11_vow 27 = .ok (.goto 4, 3) := by decide +kernel
theorem dX11_vow_30 : decode cX11_vow 30 = .ok (.iconst 1, 1) := by decide +kernel
theorem dX11_vow_31 : decode cX11_vow 31 = .ok (.putfield 1, 3) := by decide +kernel
theorem dX11_vow_34 : decode cX11_vow 34 = .ok (.aload_n 0, 1) := by decide +kernel
theorem dX11_vow_35 : decode cX11_vow 35 = .ok (.getfield 1, 3) := by decide +kernel
theorem dX11_vow_38 : decode cX11_vow 38 = .ok (.ifCond .le 5, 3) := by decide +kernel
theorem dX11_vow_41 : decode cX11_vow 41 = .ok (.lconst 0, 1) := by decide +kernel
theorem dX11_vow_42 : decode cX11_vow 42 = .ok (.lreturn, 1) := by decide +kernel
theorem dX11_vow_43 : decode cX11_vow 43 = .ok (.aload_n 0, 1) := by decide +kernel
theorem dX11_vow_44 : decode cX11_vow 44 = .ok (.getfield 73, 3) := by decide +kernel
theorem dX11_vow_47 : decode cX11_vow 47 = .ok (.bipush 61, 2) := by decide +kernel
theorem dX11_vow_49 : decode cX11_vow 49 = .ok (.iload_n 1, 1) := by decide +kernel
theorem dX11_vow_50 : decode cX11_vow 50 = .ok (.iadd, 1) := by decide +kernel
theorem dX11_vow_51 : decode cX11_vow 51 = .ok (.iaload, 1) := by decide +kernel
theorem dX11_vow_52 : decode cX11_vow 52 = .ok (.istore 4, 2) := by decide +kernel
theorem dX11_vow_54 : decode cX11_vow 54 = .ok (.aload_n 0, 1) := by decide +kernel
theorem dX11_vow_55 : decode cX11_vow 55 = .ok (.getfield 73, 3) := by decide +kernel
theorem dX11_vow_58 : decode cX11_vow 58 = .ok (.bipush 61, 2) := by decide +kernel
theorem dX11_vow_60 : decode cX11_vow 60 = .ok (.iload_n 1, 1) := by decide +kernel
theorem dX11_vow_61 : decode cX11_vow 61 = .ok (.iadd, 1) := by decide +kernel
theorem dX11_vow_62 : decode cX11_vow 62 = .ok (.iconst 0, 1) := by decide +kernel
theorem dX11_vow_63 : decode cX11_vow 63 = .ok (.iastore, 1) := by decide +kernel
theorem dX11_vow_64 : decode cX11_vow 64 = .ok (.aload_n 0, 1) := by decide +kernel
theorem dX11_vow_65 : decode cX11_vow 65 = .ok (.iconst 1, 1) := by decide +kernel
theorem dX11_vow_66 : decode cX11_vow 66 = .ok (.putfield 163, 3) := by decide +kernel
theorem dX11_vow_69 : decode cX11_vow 69 = .ok (.aload_n 0, 1) := by decide +kernel
theorem dX11_vow_70 : decode cX11_vow 70 = .ok (.iload_n 2, 1) := by decide +kernel
theorem dX11_vow_71 : decode cX11_vow 71 = .ok (.iload_n 1, 1) := by decide +kernel
theorem dX11_vow_72 : decode cX11_vow 72 = .ok (.invokevirtual 487, 3) := by decide +kernel
theorem dX11_vow_75 : decode cX11_vow 75 = .ok (.lstore 5, 2) := by decide +kernel
theorem dX11_vow_77 : decode cX11_vow 77 = .ok (.iconst (-1), 1) := by decide +kernel
theorem dX11_vow_78 : decode cX11_vow 78 = .ok (.istore 7, 2) := by decide +kernel
theorem dX11_vow_80 : decode cX11_vow 80 = .ok (.lconst 0, 1) := by decide +kernel
theorem dX11_vow_81 : decode cX11_vow 81 = .ok (.lstore 8, 2) := by decide +kernel
theorem dX11_vow_83 : decode cX11_vow 83 = .ok (.iconst 0, 1) := by decide +kernel
theorem dX11_vow_84 : decode cX11_vow 84 = .ok (.istore 10, 2) := by decide +kernel
theorem dX11_vow_86 : decode cX11_vow 86 = .ok (.iload 10, 2) := by decide +kernel
theorem dX11_vow_88 : decode cX11_vow 88 = .ok (.bipush 9, 2) := by decide +kernel
theorem dX11_vow_90 : decode cX11_vow 90 = .ok (.if_icmp .ge 71, 3) := by decide +kernel
theorem dX11_vow_93 : decode cX11_vow 93 = .ok (.aload_n 0, 1) := by decide +kernel
theorem dX11_vow_94 : decode cX11_vow 94 = .ok (.iload 10, 2) := by decide +kernel
theorem dX11_vow_96 : decode cX11_vow 96 = .ok (.iconst 3, 1) := by decide +kernel
theorem dX11_vow_97 : decode cX11_vow 97 = .ok (.idiv, 1) := by decide +kernel
theorem dX11_vow_98 : decode cX11_vow 98 = .ok (.iload 10, 2) := by decide +kernel
theorem dX11_vow_100 : decode cX11_vow 100 = .ok (.iconst 3, 1) := by decide +kernel
theorem dX11_vow_101 : decode cX11_vow 101 = .ok (.irem, 1) := by decide +kernel
theorem dX11_vow_102 : decode cX11_vow 102 = .ok (.invokevirtual 357, 3) := by decide +kernel
theorem dX11_vow_105 : decode cX11_vow 105 = .ok (.ifCond .eq 50, 3) := by decide +kernel
theorem dX11_vow_108 : decode cX11_vow 108 = .ok (.aload_n 0, 1) := by decide +kernel
theorem dX11_vow_109 : decode cX11_vow 109 = .ok (.getfield 73, 3) := by decide +kernel
theorem dX11_vow_112 : decode cX11_vow 112 = .ok (.bipush 61, 2) := by decide +kernel
theorem dX11_vow_114 : decode cX11_vow 114 = .ok (.iload_n 1, 1) := by decide +kernel
theorem dX11_vow_115 : decode cX11_vow 115 = .ok (.iadd, 1) := by decide +kernel
theorem dX11_vow_116 : decode cX11_vow 116 = .ok (.iconst 1, 1) := by decide +kernel
theorem dX11_vow_117 : decode cX11_vow 117 = .ok (.iload 10, 2) := by decide +kernel
theorem dX11_vow_119 : decode cX11_vow 119 = .ok (.iadd, 1) := by decide +kernel
theorem dX11_vow_120 : decode cX11_vow 120 = .ok (.iastore, 1) := by decide +kernel
theorem dX11_vow_121 : decode cX11_vow 121 = .ok (.aload_n 0, 1) := by decide +kernel
theorem dX11_vow_122 : decode cX11_vow 122 = .ok (.iconst 1, 1) := by decide +kernel
theorem dX11_vow_123 : decode cX11_vow 123 = .ok (.putfield 163, 3) := by decide +kernel
theorem dX11_vow_126 : decode cX11_vow 126 = .ok (.aload_n 0, 1) := by decide +kernel
theorem dX11_vow_127 : decode cX11_vow 127 = .ok (.iload_n 2, 1) := by decide +kernel
theorem dX11_vow_128 : decode cX11_vow 128 = .ok (.iload_n 1, 1) := by decide +kernel
theorem dX11_vow_129 : decode cX11_vow 129 = .ok (.invokevirtual 487, 3) := by decide +kernel
theorem dX11_vow_132 : decode cX11_vow 132 = .ok (.lstore 11, 2) := by decide +kernel
theorem dX11_vow_134 : decode cX11_vow 134 = .ok (.iload 7, 2) := by decide +kernel
theorem dX11_vow_136 : decode cX11_vow 136 = .ok (.ifCond .lt 11, 3) := by decide +kernel
theorem dX11_vow_139 : decode cX11_vow 139 = .ok (.lload 11, 2) := by decide +kernel
theorem dX11_vow_141 : decode cX11_vow 141 = .ok (.lload 8, 2) := by decide +kernel
theorem dX11_vow_143 : decode cX11_vow 143 = .ok (.lcmp, 1) := by decide +kernel
theorem dX11_vow_144 : decode cX11_vow 144 = .ok (.ifCond .le 11, 3) := by decide +kernel
theorem dX11_vow_147 : decode cX11_vow 147 = .ok (.lload 11, 2) := by decide +kernel
theorem dX11_vow_149 : decode cX11_vow 149 = .ok (.lstore 8, 2) := by decide +kernel
theorem dX11_vow_151 : decode cX11_vow 151 = .ok (.iload 10, 2) := by decide +kernel
theorem dX11_vow_153 : decode cX11_vow 153 = .ok (.istore 7, 2) := by decide +kernel
theorem dX11_vow_155 : decode cX11_vow 155 = .ok (.iinc 10 1, 3) := by decide +kernel
theorem dX11_vow_158 : decode cX11_vow 158 = .ok (.goto (-72), 3) := by decide +kernel
theorem dX11_vow_161 : decode cX11_vow 161 = .ok (.aload_n 0, 1) := by decide +kernel
theorem dX11_vow_162 : decode cX11_vow 162 = .ok (.getfield 73, 3) := by decide +kernel
theorem dX11_vow_165 : decode cX11_vow 165 = .ok (.bipush 61, 2) := by decide +kernel
theorem dX11_vow_167 : decode cX11_vow 167 = .ok (.iload_n 1, 1) := by decide +kernel
theorem dX11_vow_168 : decode cX11_vow 168 = .ok (.iadd, 1) := by decide +kernel
theorem dX11_vow_169 : decode cX11_vow 169 = .ok (.iload 4, 2) := by decide +kernel
theorem dX11_vow_171 : decode cX11_vow 171 = .ok (.iastore, 1) := by decide +kernel
theorem dX11_vow_172 : decode cX11_vow 172 = .ok (.aload_n 0, 1) := by decide +kernel
theorem dX11_vow_173 : decode cX11_vow 173 = .ok (.iconst 1, 1) := by decide +kernel
theorem dX11_vow_174 : decode cX11_vow 174 = .ok (.putfield 163, 3) := by decide +kernel
theorem dX11_vow_177 : decode cX11_vow 177 = .ok (.aload_n 0, 1) := by decide +kernel
theorem dX11_vow_178 : decode cX11_vow 178 = .ok (.lload 8, 2) := by decide +kernel
theorem dX11_vow_180 : decode cX11_vow 180 = .ok (.lload 5, 2) := by decide +kernel
theorem dX11_vow_182 : decode cX11_vow 182 = .ok (.lsub, 1) := by decide +kernel
theorem dX11_vow_183 : decode cX11_vow 183 = .ok (.aload_n 0, 1) := by decide +kernel
theorem dX11_vow_184 : decode cX11_vow 184 = .ok (.getfield 121, 3) := by decide +kernel
theorem dX11_vow_187 : decode cX11_vow 187 = .ok (.iload_n 1, 1) := by decide +kernel
theorem dX11_vow_188 : decode cX11_vow 188 = .ok (.laload, 1) := by decide +kernel
theorem dX11_vow_189 : decode cX11_vow 189 = .ok (.aload_n 0, 1) := by decide +kernel
theorem dX11_vow_190 : decode cX11_vow 190 = .ok (.iload_n 1, 1) := by decide +kernel
theorem dX11_vow_191 : decode cX11_vow 191 = .ok (.invokevirtual 442, 3) := by decide +kernel
theorem dX11_vow_194 : decode cX11_vow 194 = .ok (.lmul, 1) := by decide +kernel
theorem dX11_vow_195 : decode cX11_vow 195 = .ok (.invokevirtual 446, 3) := by decide +kernel
theorem dX11_vow_198 : decode cX11_vow 198 = .ok (.iload_n 3, 1) := by decide +kernel
theorem dX11_vow_199 : decode cX11_vow 199 = .ok (.ifCond .ne 9, 3) := by decide +kernel
theorem dX11_vow_202 : decode cX11_vow 202 = .ok (.iload 7, 2) := by decide +kernel
theorem dX11_vow_204 : decode cX11_vow 204 = .ok (.i2l, 1) := by decide +kernel
theorem dX11_vow_205 : decode cX11_vow 205 = .ok (.goto 10, 3) := by decide +kernel
theorem dX11_vow_208 : decode cX11_vow 208 = .ok (.aload_n 0, 1) := by decide +kernel
theorem dX11_vow_209 : decode cX11_vow 209 = .ok (.iload_n 3, 1) := by decide +kernel
theorem dX11_vow_210 : decode cX11_vow 210 = .ok (.iconst 1, 1) := by decide +kernel
theorem dX11_vow_211 : decode cX11_vow 211 = .ok (.isub, 1) := by decide +kernel
theorem dX11_vow_212 : decode cX11_vow 212 = .ok (.invokevirtual 450, 3) := by decide +kernel
theorem dX11_vow_215 : decode cX11_vow 215 = .ok (.lreturn, 1) := by decide +kernel
theorem dX11_bind_0 : decode cX11_bind 0 = .ok (.aload_n 0, 1) := by decide +kernel
theorem dX11_bind_1 : decode cX11_bind 1 = .ok (.aload_n 0, 1) := by decide +kernel
theorem dX11_bind_2 : decode cX11_bind 2 = .ok (.iload_n 1, 1) := by decide +kernel
theorem dX11_bind_3 : decode cX11_bind 3 = .ok (.invokevirtual 329, 3) := by decide +kernel
theorem dX11_bind_6 : decode cX11_bind 6 = .ok (.ifCond .eq 26, 3) := by decide +kernel
theorem dX11_bind_9 : decode cX11_bind 9 = .ok (.aload_n 0, 1) := by decide +kernel
theorem dX11_bind_10 : decode cX11_bind 10 = .ok (.iload_n 2, 1) := by decide +kernel
theorem dX11_bind_11 : decode cX11_bind 11 = .ok (.iload_n 3, 1) := by decide +kernel
theorem dX11_bind_12 : decode cX11_bind 12 = .ok (.iload 4, 2) := by decide +kernel
theorem dX11_bind_14 : decode cX11_bind 14 = .ok (.invokevirtual 416, 3) := by decide +kernel
theorem dX11_bind_17 : decode cX11_bind 17 = .ok (.ifCond .eq 15, 3) := by decide +kernel
theorem dX11_bind_20 : decode cX11_bind 20 = .ok (.iload 5, 2) := by decide +kernel
theorem dX11_bind_22 : decode cX11_bind 22 = .ok (.invokestatic 436, 3) := by decide +kernel
theorem dX11_bind_25 : decode cX11_bind 25 = .ok (.ifCond .eq 7, 3) := by decide +kernel
theorem dX11_bind_28 : decode cX11_bind 28 = .ok (.iconst 0, 1) := by decide +kernel
theorem dX11_bind_29 : decode cX11_bind 29 = .ok (.goto 4, 3) := by decide +kernel
theorem dX11_bind_32 : decode cX11_bind 32 = .ok (.iconst 1, 1) := by decide +kernel
theorem dX11_bind_33 : decode cX11_bind 33 = .ok (.putfield 1, 3) := by decide +kernel
theorem dX11_bind_36 : decode cX11_bind 36 = .ok (.aload_n 0, 1) := by decide +kernel
theorem dX11_bind_37 : decode cX11_bind 37 = .ok (.getfield 1, 3) := by decide +kernel
theorem dX11_bind_40 : decode cX11_bind 40 = .ok (.ifCond .le 5, 3) := by decide +kernel
theorem dX11_bind_43 : decode cX11_bind 43 = .ok (.lconst 0, 1) := by decide +kernel
theorem dX11_bind_44 : decode cX11_bind 44 = .ok (.lreturn, 1) := by decide +kernel
theorem dX11_bind_45 : decode cX11_bind 45 = .ok (.iconst 1, 1) := by decide +kernel
theorem dX11_bind_46 : decode cX11_bind 46 = .ok (.iconst 4, 1) := by decide +kernel
theorem dX11_bind_47 : decode cX11_bind 47 = .ok (.iload_n 1, 1) := by decide +kernel
theorem dX11_bind_48 : decode cX11_bind 48 = .ok (.imul, 1) := by decide +kernel
theorem dX11_bind_49 : decode cX11_bind 49 = .ok (.iadd, 1) := by decide +kernel
theorem dX11_bind_50 : decode cX11_bind 50 = .ok (.iconst 3, 1) := by decide +kernel
theorem dX11_bind_51 : decode cX11_bind 51 = .ok (.iadd, 1) := by decide +kernel
theorem dX11_bind_52 : decode cX11_bind 52 = .ok (.istore 6, 2) := by decide +kernel
theorem dX11_bind_54 : decode cX11_bind 54 = .ok (.aload_n 0, 1) := by decide +kernel
theorem dX11_bind_55 : decode cX11_bind 55 = .ok (.getfield 73, 3) := by decide +kernel
theorem dX11_bind_58 : decode cX11_bind 58 = .ok (.iload 6, 2) := by decide +kernel
theorem dX11_bind_60 : decode cX11_bind 60 = .ok (.iaload, 1) := by decide +kernel
theorem dX11_bind_61 : decode cX11_bind 61 = .ok (.istore 7, 2) := by decide +kernel
theorem dX11_bind_63 : decode cX11_bind 63 = .ok (.aload_n 0, 1) := by decide +kernel
theorem dX11_bind_64 : decode cX11_bind 64 = .ok (.getfield 73, 3) := by decide +kernel
theorem dX11_bind_67 : decode cX11_bind 67 = .ok (.iload 6, 2) := by decide +kernel
theorem dX11_bind_69 : decode cX11_bind 69 = .ok (.iconst 1, 1) := by decide +kernel
theorem dX11_bind_70 : decode cX11_bind 70 = .ok (.iastore, 1) := by decide +kernel
theorem dX11_bind_71 : decode cX11_bind 71 = .ok (.aload_n 0, 1) := by decide +kernel
theorem dX11_bind_72 : decode cX11_bind 72 = .ok (.iconst 1, 1) := by decide +kernel
theorem dX11_bind_73 : decode cX11_bind 73 = .ok (.putfield 163, 3) := by decide +kernel
theorem dX11_bind_76 : decode cX11_bind 76 = .ok (.aload_n 0, 1) := by decide +kernel
theorem dX11_bind_77 : decode cX11_bind 77 = .ok (.iload_n 2, 1) := by decide +kernel
theorem dX11_bind_78 : decode cX11_bind 78 = .ok (.iload_n 3, 1) := by decide +kernel
theorem dX11_bind_79 : decode cX11_bind 79 = .ok (.iload 4, 2) := by decide +kernel
theorem dX11_bind_81 : decode cX11_bind 81 = .ok (.invokevirtual 439, 3) := by decide +kernel
theorem dX11_bind_84 : decode cX11_bind 84 = .ok (.lstore 8, 2) := by decide +kernel
theorem dX11_bind_86 : decode cX11_bind 86 = .ok (.aload_n 0, 1) := by decide +kernel
theorem dX11_bind_87 : decode cX11_bind 87 = .ok (.getfield 73, 3) := by decide +kernel
theorem dX11_bind_90 : decode cX11_bind 90 = .ok (.iload 6, 2) := by decide +kernel
theorem dX11_bind_92 : decode cX11_bind 92 = .ok (.iconst 0, 1) := by decide +kernel
theorem dX11_bind_93 : decode cX11_bind 93 = .ok (.iastore, 1) := by decide +kernel
theorem dX11_bind_94 : decode cX11_bind 94 = .ok (.aload_n 0, 1) := by decide +kernel
theorem dX11_bind_95 : decode cX11_bind 95 = .ok (.iconst 1, 1) := by decide +kernel
theorem dX11_bind_96 : decode cX11_bind 96 = .ok (.putfield 163, 3) := by decide +kernel
theorem dX11_bind_99 : decode cX11_bind 99 = .ok (.aload_n 0, 1) := by decide +kernel
theorem dX11_bind_100 : decode cX11_bind 100 = .ok (.iload_n 2, 1) := by decide +kernel
theorem dX11_bind_101 : decode cX11_bind 101 = .ok (.iload_n 3, 1) := by decide +kernel
theorem dX11_bind_102 : decode cX11_bind 102 = .ok (.iload 4, 2) := by decide +kernel
theorem dX11_bind_104 : decode cX11_bind 104 = .ok (.invokevirtual 439, 3) := by decide +kernel
theorem dX11_bind_107 : decode cX11_bind 107 = .ok (.lstore 10, 2) := by decide +kernel
theorem dX11_bind_109 : decode cX11_bind 109 = .ok (.aload_n 0, 1) := by decide +kernel
theorem dX11_bind_110 : decode cX11_bind 110 = .ok (.getfield 73, 3) := by decide +kernel
theorem dX11_bind_113 : decode cX11_bind 113 = .ok (.iload 6, 2) := by decide +kernel
theorem dX11_bind_115 : decode cX11_bind 115 = .ok (.iload 7, 2) := by decide +kernel
theorem dX11_bind_117 : decode cX11_bind 117 = .ok (.iastore, 1) := by decide +kernel
theorem dX11_bind_118 : decode cX11_bind 118 = .ok (.aload_n 0, 1) := by decide +kernel
theorem dX11_bind_119 : decode cX11_bind 119 = .ok (.iconst 1, 1) := by decide +kernel
theorem dX11_bind_120 : decode cX11_bind 120 = .ok (.putfield 163, 3) := by decide +kernel
theorem dX11_bind_123 : decode cX11_bind 123 = .ok (.aload_n 0, 1) := by decide +kernel
theorem dX11_bind_124 : decode cX11_bind 124 = .ok (.lload 8, 2) := by decide +kernel
theorem dX11_bind_126 : decode cX11_bind 126 = .ok (.lload 10, 2) := by decide +kernel
theorem dX11_bind_128 : decode cX11_bind 128 = .ok (.lsub, 1) := by decide +kernel
theorem dX11_bind_129 : decode cX11_bind 129 = .ok (.aload_n 0, 1) := by decide +kernel
theorem dX11_bind_130 : decode cX11_bind 130 = .ok (.iload_n 2, 1) := by decide +kernel
theorem dX11_bind_131 : decode cX11_bind 131 = .ok (.invokevirtual 442, 3) := by decide +kernel
theorem dX11_bind_134 : decode cX11_bind 134 = .ok (.invokevirtual 446, 3) := by decide +kernel
theorem dX11_bind_137 : decode cX11_bind 137 = .ok (.aload_n 0, 1) := by decide +kernel
theorem dX11_bind_138 : decode cX11_bind 138 = .ok (.iload 5, 2) := by decide +kernel
theorem dX11_bind_140 : decode cX11_bind 140 = .ok (.invokevirtual 450, 3) := by decide +kernel
theorem dX11_bind_143 : decode cX11_bind 143 = .ok (.lreturn, 1) := by decide +kernel
theorem dX11_valueAsked_0 : decode cX11_valueAsked 0 = .ok (.aload_n 0, 1) := by decide +kernel
theorem dX11_valueAsked_1 : decode cX11_valueAsked 1 = .ok (.getfield 73, 3) := by decide +kernel
theorem dX11_valueAsked_4 : decode cX11_valueAsked 4 = .ok (.bipush 45, 2) := by decide +kernel
theorem dX11_valueAsked_6 : decode cX11_valueAsked 6 = .ok (.iload_n 3, 1) := by decide +kernel
theorem dX11_valueAsked_7 : decode cX11_valueAsked 7 = .ok (.iadd, 1) := by decide +kernel
theorem dX11_valueAsked_8 : decode cX11_valueAsked 8 = .ok (.iload_n 1, 1) := by decide +kernel
theorem dX11_valueAsked_9 : decode cX11_valueAsked 9 = .ok (.iconst 1, 1) := by decide +kernel
theorem dX11_valueAsked_10 : decode cX11_valueAsked 10 = .ok (.iadd, 1) := by decide +kernel
theorem dX11_valueAsked_11 : decode cX11_valueAsked 11 = .ok (.iastore, 1) := by decide +kernel
theorem dX11_valueAsked_12 : decode cX11_valueAsked 12 = .ok (.aload_n 0, 1) := by decide +kernel
theorem dX11_valueAsked_13 : decode cX11_valueAsked 13 = .ok (.getfield 73, 3) := by decide +kernel
theorem dX11_valueAsked_16 : decode cX11_valueAsked 16 = .ok (.bipush 45, 2) := by decide +kernel
theorem dX11_valueAsked_18 : decode cX11_valueAsked 18 = .ok (.iload_n 3, 1) := by decide +kernel
theorem dX11_valueAsked_19 : decode cX11_valueAsked 19 = .ok (.iadd, 1) := by decide +kernel
theorem dX11_valueAsked_20 : decode cX11_valueAsked 20 = .ok (.iconst 1, 1) := by decide +kernel
theorem dX11_valueAsked_21 : decode cX11_valueAsked 21 = .ok (.iadd, 1) := by decide +kernel
theorem dX11_valueAsked_22 : decode cX11_valueAsked 22 = .ok (.iload_n 2, 1) := by decide +kernel
theorem dX11_valueAsked_23 : decode cX11_valueAsked 23 = .ok (.iconst 1, 1) := by decide +kernel
theorem dX11_valueAsked_24 : decode cX11_valueAsked 24 = .ok (.iadd, 1) := by decide +kernel
theorem dX11_valueAsked_25 : decode cX11_valueAsked 25 = .ok (.iastore, 1) := by decide +kernel
theorem dX11_valueAsked_26 : decode cX11_valueAsked 26 = .ok (.aload_n 0, 1) := by decide +kernel
theorem dX11_valueAsked_27 : decode cX11_valueAsked 27 = .ok (.iconst 1, 1) := by decide +kernel
theorem dX11_valueAsked_28 : decode cX11_valueAsked 28 = .ok (.putfield 163, 3) := by decide +kernel
theorem dX11_valueAsked_31 : decode cX11_valueAsked 31 = .ok (.aload_n 0, 1) := by decide +kernel
theorem dX11_valueAsked_32 : decode cX11_valueAsked 32 = .ok (.iload_n 3, 1) := by decide +kernel
theorem dX11_valueAsked_33 : decode cX11_valueAsked 33 = .ok (.iload 4, 2) := by decide +kernel
theorem dX11_valueAsked_35 : decode cX11_valueAsked 35 = .ok (.iload 5, 2) := by decide +kernel
theorem dX11_valueAsked_37 : decode cX11_valueAsked 37 = .ok (.invokevirtual 439, 3) := by decide +kernel
theorem dX11_valueAsked_40 : decode cX11_valueAsked 40 = .ok (.lreturn, 1) := by decide +kernel
theorem dX11_order_0 : decode cX11_order 0 = .ok (.aload_n 0, 1) := by decide +kernel
theorem dX11_order_1 : decode cX11_order 1 = .ok (.iload_n 1, 1) := by decide +kernel
theorem dX11_order_2 : decode cX11_order 2 = .ok (.invokevirtual 329, 3) := by decide +kernel
theorem dX11_order_5 : decode cX11_order 5 = .ok (.ifCond .eq 42, 3) := by decide +kernel
theorem dX11_order_8 : decode cX11_order 8 = .ok (.aload_n 0, 1) := by decide +kernel
theorem dX11_order_9 : decode cX11_order 9 = .ok (.iload_n 2, 1) := by decide +kernel
theorem dX11_order_10 : decode cX11_order 10 = .ok (.invokevirtual 329, 3) := by decide +kernel
theorem dX11_order_13 : decode cX11_order 13 = .ok (.ifCond .eq 34, 3) := by decide +kernel
theorem dX11_order_16 : decode cX11_order 16 = .ok (.iload_n 1, 1) := by decide +kernel
theorem dX11_order_17 : decode cX11_order 17 = .ok (.iload_n 2, 1) := by decide +kernel
theorem dX11_order_18 : decode cX11_order 18 = .ok (.if_icmp .eq 29, 3) := by decide +kernel
theorem dX11_order_21 : decode cX11_order 21 = .ok (.aload_n 0, 1) := by decide +kernel
theorem dX11_order_22 : decode cX11_order 22 = .ok (.iload_n 3, 1) := by decide +kernel
theorem dX11_order_23 : decode cX11_order 23 = .ok (.iload 4, 2) := by decide +kernel
theorem dX11_order_25 : decode cX11_order 25 = .ok (.iload 5, 2) := by decide +kernel
theorem dX11_order_27 : decode cX11_order 27 = .ok (.invokevirtual 416, 3) := by decide +kernel
theorem dX11_order_30 : decode cX11_order 30 = .ok (.ifCond .eq 17, 3) := by decide +kernel
theorem dX11_order_33 : decode cX11_order 33 = .ok (.aload_n 0, 1) := by decide +kernel
theorem dX11_order_34 : decode cX11_order 34 = .ok (.iload_n 3, 1) := by decide +kernel
theorem dX11_order_35 : decode cX11_order 35 = .ok (.iconst 1, 1) := by decide +kernel
