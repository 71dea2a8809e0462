theorem dX11_leaps_63 : decode cX11_leaps 63 = .ok (.iload 6, 2) := by decide +kernel
theorem dX11_leaps_65 : decode cX11_leaps 65 = .ok (.iaload, 1) := by decide +kernel
theorem dX11_leaps_66 : decode cX11_leaps 66 = .ok (.iastore, 1) := by decide +kernel
theorem dX11_leaps_67 : decode cX11_leaps 67 = .ok (.iinc 6 1, 3) := by decide +kernel
theorem dX11_leaps_70 : decode cX11_leaps 70 = .ok (.goto (-28), 3) := by decide +kernel
theorem dX11_leaps_73 : decode cX11_leaps 73 = .ok (.return_, 1) := by decide +kernel
theorem dX11_turn_0 : decode cX11_turn 0 = .ok (.aload_n 0, 1) := by decide +kernel
theorem dX11_turn_1 : decode cX11_turn 1 = .ok (.iconst 0, 1) := by decide +kernel
theorem dX11_turn_2 : decode cX11_turn 2 = .ok (.putfield 104, 3) := by decide +kernel
theorem dX11_turn_5 : decode cX11_turn 5 = .ok (.aload_n 0, 1) := by decide +kernel
theorem dX11_turn_6 : decode cX11_turn 6 = .ok (.iload_n 1, 1) := by decide +kernel
theorem dX11_turn_7 : decode cX11_turn 7 = .ok (.invokevirtual 108, 3) := by decide +kernel
theorem dX11_turn_10 : decode cX11_turn 10 = .ok (.ifCond .eq 14, 3) := by decide +kernel
theorem dX11_turn_13 : decode cX11_turn 13 = .ok (.iload_n 2, 1) := by decide +kernel
theorem dX11_turn_14 : decode cX11_turn 14 = .ok (.ifCond .lt 10, 3) := by decide +kernel
theorem dX11_turn_17 : decode cX11_turn 17 = .ok (.iload_n 2, 1) := by decide +kernel
theorem dX11_turn_18 : decode cX11_turn 18 = .ok (.sipush 5000, 3) := by decide +kernel
theorem dX11_turn_21 : decode cX11_turn 21 = .ok (.if_icmp .le 5, 3) := by decide +kernel
theorem dX11_turn_24 : decode cX11_turn 24 = .ok (.iconst 0, 1) := by decide +kernel
theorem dX11_turn_25 : decode cX11_turn 25 = .ok (.ireturn, 1) := by decide +kernel
theorem dX11_turn_26 : decode cX11_turn 26 = .ok (.aload_n 0, 1) := by decide +kernel
theorem dX11_turn_27 : decode cX11_turn 27 = .ok (.getfield 17, 3) := by decide +kernel
theorem dX11_turn_30 : decode cX11_turn 30 = .ok (.iload_n 1, 1) := by decide +kernel
theorem dX11_turn_31 : decode cX11_turn 31 = .ok (.iaload, 1) := by decide +kernel
theorem dX11_turn_32 : decode cX11_turn 32 = .ok (.istore_n 3, 1) := by decide +kernel
theorem dX11_turn_33 : decode cX11_turn 33 = .ok (.aload_n 0, 1) := by decide +kernel
theorem dX11_turn_34 : decode cX11_turn 34 = .ok (.getfield 20, 3) := by decide +kernel
theorem dX11_turn_37 : decode cX11_turn 37 = .ok (.iload_n 1, 1) := by decide +kernel
theorem dX11_turn_38 : decode cX11_turn 38 = .ok (.iaload, 1) := by decide +kernel
theorem dX11_turn_39 : decode cX11_turn 39 = .ok (.istore 4, 2) := by decide +kernel
theorem dX11_turn_41 : decode cX11_turn 41 = .ok (.aload_n 0, 1) := by decide +kernel
theorem dX11_turn_42 : decode cX11_turn 42 = .ok (.iload_n 1, 1) := by decide +kernel
theorem dX11_turn_43 : decode cX11_turn 43 = .ok (.lconst 1, 1) := by decide +kernel
theorem dX11_turn_44 : decode cX11_turn 44 = .ok (.iload_n 3, 1) := by decide +kernel
theorem dX11_turn_45 : decode cX11_turn 45 = .ok (.invokevirtual 133, 3) := by decide +kernel
theorem dX11_turn_48 : decode cX11_turn 48 = .ok (.aload_n 0, 1) := by decide +kernel
theorem dX11_turn_49 : decode cX11_turn 49 = .ok (.iload_n 1, 1) := by decide +kernel
theorem dX11_turn_50 : decode cX11_turn 50 = .ok (.iload_n 3, 1) := by decide +kernel
theorem dX11_turn_51 : decode cX11_turn 51 = .ok (.invokevirtual 137, 3) := by decide +kernel
theorem dX11_turn_54 : decode cX11_turn 54 = .ok (.iconst 0, 1) := by decide +kernel
theorem dX11_turn_55 : decode cX11_turn 55 = .ok (.istore 5, 2) := by decide +kernel
theorem dX11_turn_57 : decode cX11_turn 57 = .ok (.iload 5, 2) := by decide +kernel
theorem dX11_turn_59 : decode cX11_turn 59 = .ok (.iload_n 2, 1) := by decide +kernel
theorem dX11_turn_60 : decode cX11_turn 60 = .ok (.if_icmp .ge 22, 3) := by decide +kernel
theorem dX11_turn_63 : decode cX11_turn 63 = .ok (.aload_n 0, 1) := by decide +kernel
theorem dX11_turn_64 : decode cX11_turn 64 = .ok (.iload 4, 2) := by decide +kernel
theorem dX11_turn_66 : decode cX11_turn 66 = .ok (.iload_n 3, 1) := by decide +kernel
theorem dX11_turn_67 : decode cX11_turn 67 = .ok (.invokevirtual 140, 3) := by decide +kernel
theorem dX11_turn_70 : decode cX11_turn 70 = .ok (.aload_n 0, 1) := by decide +kernel
theorem dX11_turn_71 : decode cX11_turn 71 = .ok (.iload 4, 2) := by decide +kernel
theorem dX11_turn_73 : decode cX11_turn 73 = .ok (.invokevirtual 143, 3) := by decide +kernel
theorem dX11_turn_76 : decode cX11_turn 76 = .ok (.iinc 5 1, 3) := by decide +kernel
theorem dX11_turn_79 : decode cX11_turn 79 = .ok (.goto (-22), 3) := by decide +kernel
theorem dX11_turn_82 : decode cX11_turn 82 = .ok (.iconst 0, 1) := by decide +kernel
theorem dX11_turn_83 : decode cX11_turn 83 = .ok (.istore 5, 2) := by decide +kernel
theorem dX11_turn_85 : decode cX11_turn 85 = .ok (.iload 5, 2) := by decide +kernel
theorem dX11_turn_87 : decode cX11_turn 87 = .ok (.iload 4, 2) := by decide +kernel
theorem dX11_turn_89 : decode cX11_turn 89 = .ok (.if_icmp .ge 27, 3) := by decide +kernel
theorem dX11_turn_92 : decode cX11_turn 92 = .ok (.aload_n 0, 1) := by decide +kernel
theorem dX11_turn_93 : decode cX11_turn 93 = .ok (.getfield 29, 3) := by decide +kernel
theorem dX11_turn_96 : decode cX11_turn 96 = .ok (.iconst 4, 1) := by decide +kernel
theorem dX11_turn_97 : decode cX11_turn 97 = .ok (.iload_n 1, 1) := by decide +kernel
theorem dX11_turn_98 : decode cX11_turn 98 = .ok (.imul, 1) := by decide +kernel
theorem dX11_turn_99 : decode cX11_turn 99 = .ok (.iload 5, 2) := by decide +kernel
theorem dX11_turn_101 : decode cX11_turn 101 = .ok (.iadd, 1) := by decide +kernel
theorem dX11_turn_102 : decode cX11_turn 102 = .ok (.aload_n 0, 1) := by decide +kernel
theorem dX11_turn_103 : decode cX11_turn 103 = .ok (.getfield 48, 3) := by decide +kernel
theorem dX11_turn_106 : decode cX11_turn 106 = .ok (.iload 5, 2) := by decide +kernel
theorem dX11_turn_108 : decode cX11_turn 108 = .ok (.iaload, 1) := by decide +kernel
theorem dX11_turn_109 : decode cX11_turn 109 = .ok (.iastore, 1) := by decide +kernel
theorem dX11_turn_110 : decode cX11_turn 110 = .ok (.iinc 5 1, 3) := by decide +kernel
theorem dX11_turn_113 : decode cX11_turn 113 = .ok (.goto (-28), 3) := by decide +kernel
theorem dX11_turn_116 : decode cX11_turn 116 = .ok (.iconst 1, 1) := by decide +kernel
theorem dX11_turn_117 : decode cX11_turn 117 = .ok (.ireturn, 1) := by decide +kernel
theorem dX11_leap_0 : decode cX11_leap 0 = .ok (.aload_n 0, 1) := by decide +kernel
theorem dX11_leap_1 : decode cX11_leap 1 = .ok (.iconst 0, 1) := by decide +kernel
theorem dX11_leap_2 : decode cX11_leap 2 = .ok (.putfield 104, 3) := by decide +kernel
theorem dX11_leap_5 : decode cX11_leap 5 = .ok (.aload_n 0, 1) := by decide +kernel
theorem dX11_leap_6 : decode cX11_leap 6 = .ok (.iload_n 1, 1) := by decide +kernel
theorem dX11_leap_7 : decode cX11_leap 7 = .ok (.invokevirtual 108, 3) := by decide +kernel
theorem dX11_leap_10 : decode cX11_leap 10 = .ok (.ifCond .eq 9, 3) := by decide +kernel
theorem dX11_leap_13 : decode cX11_leap 13 = .ok (.lload_n 2, 1) := by decide +kernel
theorem dX11_leap_14 : decode cX11_leap 14 = .ok (.lconst 0, 1) := by decide +kernel
theorem dX11_leap_15 : decode cX11_leap 15 = .ok (.lcmp, 1) := by decide +kernel
theorem dX11_leap_16 : decode cX11_leap 16 = .ok (.ifCond .ge 5, 3) := by decide +kernel
theorem dX11_leap_19 : decode cX11_leap 19 = .ok (.iconst 0, 1) := by decide +kernel
theorem dX11_leap_20 : decode cX11_leap 20 = .ok (.ireturn, 1) := by decide +kernel
theorem dX11_leap_21 : decode cX11_leap 21 = .ok (.aload_n 0, 1) := by decide +kernel
theorem dX11_leap_22 : decode cX11_leap 22 = .ok (.iload_n 1, 1) := by decide +kernel
theorem dX11_leap_23 : decode cX11_leap 23 = .ok (.lload_n 2, 1) := by decide +kernel
theorem dX11_leap_24 : decode cX11_leap 24 = .ok (.invokevirtual 146, 3) := by decide +kernel
theorem dX11_leap_27 : decode cX11_leap 27 = .ok (.iconst 1, 1) := by decide +kernel
theorem dX11_leap_28 : decode cX11_leap 28 = .ok (.ireturn, 1) := by decide +kernel
theorem dX11_worth_0 : decode cX11_worth 0 = .ok (.aload_n 0, 1) := by decide +kernel
theorem dX11_worth_1 : decode cX11_worth 1 = .ok (.getfield 20, 3) := by decide +kernel
theorem dX11_worth_4 : decode cX11_worth 4 = .ok (.iload_n 1, 1) := by decide +kernel
theorem dX11_worth_5 : decode cX11_worth 5 = .ok (.iaload, 1) := by decide +kernel
theorem dX11_worth_6 : decode cX11_worth 6 = .ok (.istore_n 2, 1) := by decide +kernel
theorem dX11_worth_7 : decode cX11_worth 7 = .ok (.lconst 0, 1) := by decide +kernel
theorem dX11_worth_8 : decode cX11_worth 8 = .ok (.lstore_n 3, 1) := by decide +kernel
theorem dX11_worth_9 : decode cX11_worth 9 = .ok (.iconst 1, 1) := by decide +kernel
theorem dX11_worth_10 : decode cX11_worth 10 = .ok (.istore 5, 2) := by decide +kernel
theorem dX11_worth_12 : decode cX11_worth 12 = .ok (.iconst 0, 1) := by decide +kernel
theorem dX11_worth_13 : decode cX11_worth 13 = .ok (.istore 6, 2) := by decide +kernel
theorem dX11_worth_15 : decode cX11_worth 15 = .ok (.iload 6, 2) := by decide +kernel
theorem dX11_worth_17 : decode cX11_worth 17 = .ok (.iload_n 2, 1) := by decide +kernel
theorem dX11_worth_18 : decode cX11_worth 18 = .ok (.if_icmp .ge 15, 3) := by decide +kernel
theorem dX11_worth_21 : decode cX11_worth 21 = .ok (.iload 5, 2) := by decide +kernel
theorem dX11_worth_23 : decode cX11_worth 23 = .ok (.iload_n 2, 1) := by decide +kernel
theorem dX11_worth_24 : decode cX11_worth 24 = .ok (.imul, 1) := by decide +kernel
theorem dX11_worth_25 : decode cX11_worth 25 = .ok (.istore 5, 2) := by decide +kernel
theorem dX11_worth_27 : decode cX11_worth 27 = .ok (.iinc 6 1, 3) := by decide +kernel
theorem dX11_worth_30 : decode cX11_worth 30 = .ok (.goto (-15), 3) := by decide +kernel
theorem dX11_worth_33 : decode cX11_worth 33 = .ok (.iconst 0, 1) := by decide +kernel
theorem dX11_worth_34 : decode cX11_worth 34 = .ok (.istore 6, 2) := by decide +kernel
theorem dX11_worth_36 : decode cX11_worth 36 = .ok (.iload 6, 2) := by decide +kernel
theorem dX11_worth_38 : decode cX11_worth 38 = .ok (.iload 5, 2) := by decide +kernel
theorem dX11_worth_40 : decode cX11_worth 40 = .ok (.if_icmp .ge 144, 3) := by decide +kernel
theorem dX11_worth_43 : decode cX11_worth 43 = .ok (.lconst 1, 1) := by decide +kernel
theorem dX11_worth_44 : decode cX11_worth 44 = .ok (.lstore 7, 2) := by decide +kernel
theorem dX11_worth_46 : decode cX11_worth 46 = .ok (.iload 6, 2) := by decide +kernel
theorem dX11_worth_48 : decode cX11_worth 48 = .ok (.istore 9, 2) := by decide +kernel
theorem dX11_worth_50 : decode cX11_worth 50 = .ok (.iconst 0, 1) := by decide +kernel
theorem dX11_worth_51 : decode cX11_worth 51 = .ok (.istore 10, 2) := by decide +kernel
theorem dX11_worth_53 : decode cX11_worth 53 = .ok (.iconst 0, 1) := by decide +kernel
theorem dX11_worth_54 : decode cX11_worth 54 = .ok (.istore 11, 2) := by decide +kernel
theorem dX11_worth_56 : decode cX11_worth 56 = .ok (.iconst 0, 1) := by decide +kernel
theorem dX11_worth_57 : decode cX11_worth 57 = .ok (.istore 12, 2) := by decide +kernel
theorem dX11_worth_59 : decode cX11_worth 59 = .ok (.iload 12, 2) := by decide +kernel
theorem dX11_worth_61 : decode cX11_worth 61 = .ok (.iload_n 2, 1) := by decide +kernel
theorem dX11_worth_62 : decode cX11_worth 62 = .ok (.if_icmp .ge 98, 3) := by decide +kernel
theorem dX11_worth_65 : decode cX11_worth 65 = .ok (.iload 9, 2) := by decide +kernel
theorem dX11_worth_67 : decode cX11_worth 67 = .ok (.iload_n 2, 1) := by decide +kernel
theorem dX11_worth_68 : decode cX11_worth 68 = .ok (.irem, 1) := by decide +kernel
theorem dX11_worth_69 : decode cX11_worth 69 = .ok (.istore 13, 2) := by decide +kernel
theorem dX11_worth_71 : decode cX11_worth 71 = .ok (.iload 9, 2) := by decide +kernel
theorem dX11_worth_73 : decode cX11_worth 73 = .ok (.iload_n 2, 1) := by decide +kernel
theorem dX11_worth_74 : decode cX11_worth 74 = .ok (.idiv, 1) := by decide +kernel
theorem dX11_worth_75 : decode cX11_worth 75 = .ok (.istore 9, 2) := by decide +kernel
theorem dX11_worth_77 : decode cX11_worth 77 = .ok (.iload 13, 2) := by decide +kernel
theorem dX11_worth_79 : decode cX11_worth 79 = .ok (.iconst 1, 1) := by decide +kernel
theorem dX11_worth_80 : decode cX11_worth 80 = .ok (.iadd, 1) := by decide +kernel
theorem dX11_worth_81 : decode cX11_worth 81 = .ok (.istore 14, 2) := by decide +kernel
theorem dX11_worth_83 : decode cX11_worth 83 = .ok (.iload 14, 2) := by decide +kernel
theorem dX11_worth_85 : decode cX11_worth 85 = .ok (.iload_n 2, 1) := by decide +kernel
theorem dX11_worth_86 : decode cX11_worth 86 = .ok (.if_icmp .ge 21, 3) := by decide +kernel
theorem dX11_worth_89 : decode cX11_worth 89 = .ok (.iload 11, 2) := by decide +kernel
theorem dX11_worth_91 : decode cX11_worth 91 = .ok (.iload 10, 2) := by decide +kernel
theorem dX11_worth_93 : decode cX11_worth 93 = .ok (.iload 14, 2) := by decide +kernel
theorem dX11_worth_95 : decode cX11_worth 95 = .ok (.ishr, 1) := by decide +kernel
theorem dX11_worth_96 : decode cX11_worth 96 = .ok (.iconst 1, 1) := by decide +kernel
theorem dX11_worth_97 : decode cX11_worth 97 = .ok (.iand, 1) := by decide +kernel
theorem dX11_worth_98 : decode cX11_worth 98 = .ok (.iadd, 1) := by decide +kernel
theorem dX11_worth_99 : decode cX11_worth 99 = .ok (.istore 11, 2) := by decide +kernel
theorem dX11_worth_101 : decode cX11_worth 101 = .ok (.iinc 14 1, 3) := by decide +kernel
theorem dX11_worth_104 : decode cX11_worth 104 = .ok (.goto (-21), 3) := by decide +kernel
theorem dX11_worth_107 : decode cX11_worth 107 = .ok (.iload 10, 2) := by decide +kernel
theorem dX11_worth_109 : decode cX11_worth 109 = .ok (.iload 13, 2) := by decide +kernel
theorem dX11_worth_111 : decode cX11_worth 111 = .ok (.ishr, 1) := by decide +kernel
theorem dX11_worth_112 : decode cX11_worth 112 = .ok (.iconst 1, 1) := by decide +kernel
theorem dX11_worth_113 : decode cX11_worth 113 = .ok (.iand, 1) := by decide +kernel
theorem dX11_worth_114 : decode cX11_worth 114 = .ok (.iconst 1, 1) := by decide +kernel
theorem dX11_worth_115 : decode cX11_worth 115 = .ok (.if_icmp .ne 7, 3) := by decide +kernel
theorem dX11_worth_118 : decode cX11_worth 118 = .ok (.lconst 0, 1) := by decide +kernel
theorem dX11_worth_119 : decode cX11_worth 119 = .ok (.goto 24, 3) := by decide +kernel
theorem dX11_worth_122 : decode cX11_worth 122 = .ok (.lload 7, 2) := by decide +kernel
theorem dX11_worth_124 : decode cX11_worth 124 = .ok (.aload_n 0, 1) := by decide +kernel
theorem dX11_worth_125 : decode cX11_worth 125 = .ok (.getfield 23, 3) := by decide +kernel
theorem dX11_worth_128 : decode cX11_worth 128 = .ok (.bipush 16, 2) := by decide +kernel
theorem dX11_worth_130 : decode cX11_worth 130 = .ok (.iload_n 1, 1) := by decide +kernel
theorem dX11_worth_131 : decode cX11_worth 131 = .ok (.imul, 1) := by decide +kernel
theorem dX11_worth_132 : decode cX11_worth 132 = .ok (.iconst 4, 1) := by decide +kernel
theorem dX11_worth_133 : decode cX11_worth 133 = .ok (.iload 12, 2) := by decide +kernel
theorem dX11_worth_135 : decode cX11_worth 135 = .ok (.imul, 1) := by decide +kernel
theorem dX11_worth_136 : decode cX11_worth 136 = .ok (.iadd, 1) := by decide +kernel
theorem dX11_worth_137 : decode cX11_worth 137 = .ok (.iload 13, 2) := by decide +kernel
theorem dX11_worth_139 : decode cX11_worth 139 = .ok (.iadd, 1) := by decide +kernel
theorem dX11_worth_140 : decode cX11_worth 140 = .ok (.iaload, 1) := by decide +kernel
theorem dX11_worth_141 : decode cX11_worth 141 = .ok (.i2l, 1) := by decide +kernel
theorem dX11_worth_142 : decode cX11_worth 142 = .ok (.lmul, 1) := by decide +kernel
theorem dX11_worth_143 : decode cX11_worth 143 = .ok (.lstore 7, 2) := by decide +kernel
theorem dX11_worth_145 : decode cX11_worth 145 = .ok (.iload 10, 2) := by decide +kernel
theorem dX11_worth_147 : decode cX11_worth 147 = .ok (.iconst 1, 1) := by decide +kernel
theorem dX11_worth_148 : decode cX11_worth 148 = .ok (.iload 13, 2) := by decide +kernel
theorem dX11_worth_150 : decode cX11_worth 150 = .ok (.ishl, 1) := by decide +kernel
theorem dX11_worth_151 : decode cX11_worth 151 = .ok (.ior, 1) := by decide +kernel
theorem dX11_worth_152 : decode cX11_worth 152 = .ok (.istore 10, 2) := by decide +kernel
theorem dX11_worth_154 : decode cX11_worth 154 = .ok (.iinc 12 1, 3) := by decide +kernel
theorem dX11_worth_157 : decode cX11_worth 157 = .ok (.goto (-98), 3) := by decide +kernel
theorem dX11_worth_160 : decode cX11_worth 160 = .ok (.lload_n 3, 1) := by decide +kernel
theorem dX11_worth_161 : decode cX11_worth 161 = .ok (.iload 11, 2) := by decide +kernel
theorem dX11_worth_163 : decode cX11_worth 163 = .ok (.iconst 2, 1) := by decide +kernel
theorem dX11_worth_164 : decode cX11_worth 164 = .ok (.irem, 1) := by decide +kernel
theorem dX11_worth_165 : decode cX11_worth 165 = .ok (.ifCond .ne 8, 3) := by decide +kernel
theorem dX11_worth_168 : decode cX11_worth 168 = .ok (.lload 7, 2) := by decide +kernel
theorem dX11_worth_170 : decode cX11_worth 170 = .ok (.goto 6, 3) := by decide +kernel
theorem dX11_worth_173 : decode cX11_worth 173 = .ok (.lload 7, 2) := by decide +kernel
theorem dX11_worth_175 : decode cX11_worth 175 = .ok (.lneg, 1) := by decide +kernel
theorem dX11_worth_176 : decode cX11_worth 176 = .ok (.ladd, 1) := by decide +kernel
theorem dX11_worth_177 : decode cX11_worth 177 = .ok (.lstore_n 3, 1) := by decide +kernel
theorem dX11_worth_178 : decode cX11_worth 178 = .ok (.iinc 6 1, 3) := by decide +kernel
theorem dX11_worth_181 : decode cX11_worth 181 = .ok (.goto (-145), 3) := by decide +kernel
theorem dX11_worth_184 : decode cX11_worth 184 = .ok (.lload_n 3, 1) := by decide +kernel
theorem dX11_worth_185 : decode cX11_worth 185 = .ok (.aload_n 0, 1) := by decide +kernel
theorem dX11_worth_186 : decode cX11_worth 186 = .ok (.getfield 17, 3) := by decide +kernel
theorem dX11_worth_189 : decode cX11_worth 189 = .ok (.iload_n 1, 1) := by decide +kernel
theorem dX11_worth_190 : decode cX11_worth 190 = .ok (.iaload, 1) := by decide +kernel
theorem dX11_worth_191 : decode cX11_worth 191 = .ok (.invokestatic 116, 3) := by decide +kernel
theorem dX11_worth_194 : decode cX11_worth 194 = .ok (.ireturn, 1) := by decide +kernel
theorem dX11_common_0 : decode cX11_common 0 = .ok (.iload_n 0, 1) := by decide +kernel
theorem dX11_common_1 : decode cX11_common 1 = .ok (.istore_n 2, 1) := by decide +kernel
theorem dX11_common_2 : decode cX11_common 2 = .ok (.iload_n 1, 1) := by decide +kernel
theorem dX11_common_3 : decode cX11_common 3 = .ok (.istore_n 3, 1) := by decide +kernel
theorem dX11_common_4 : decode cX11_common 4 = .ok (.iload_n 3, 1) := by decide +kernel
theorem dX11_common_5 : decode cX11_common 5 = .ok (.ifCond .le 16, 3) := by decide +kernel
theorem dX11_common_8 : decode cX11_common 8 = .ok (.iload_n 2, 1) := by decide +kernel
theorem dX11_common_9 : decode cX11_common 9 = .ok (.iload_n 3, 1) := by decide +kernel
theorem dX11_common_10 : decode cX11_common 10 = .ok (.irem, 1) := by decide +kernel
theorem dX11_common_11 : decode cX11_common 11 = .ok (.istore 4, 2) := by decide +kernel
theorem dX11_common_13 : decode cX11_common 13 = .ok (.iload_n 3, 1) := by decide +kernel
theorem dX11_common_14 : decode cX11_common 14 = .ok (.istore_n 2, 1) := by decide +kernel
theorem dX11_common_15 : decode cX11_common 15 = .ok (.iload 4, 2) := by decide +kernel
theorem dX11_common_17 : decode cX11_common 17 = .ok (.istore_n 3, 1) := by decide +kernel
theorem dX11_common_18 : decode cX11_common 18 = .ok (.goto (-14), 3) := by decide +kernel
theorem dX11_common_21 : decode cX11_common 21 = .ok (.iload_n 2, 1) := by decide +kernel
theorem dX11_common_22 : decode cX11_common 22 = .ok (.ireturn, 1) := by decide +kernel
theorem dX11_isTurnable_0 : decode cX11_isTurnable 0 = .ok (.aload_n 0, 1) := by decide +kernel
theorem dX11_isTurnable_1 : decode cX11_isTurnable 1 = .ok (.getfield 17, 3) := by decide +kernel
theorem dX11_isTurnable_4 : decode cX11_isTurnable 4 = .ok (.iload_n 1, 1) := by decide +kernel
theorem dX11_isTurnable_5 : decode cX11_isTurnable 5 = .ok (.iaload, 1) := by decide +kernel
theorem dX11_isTurnable_6 : decode cX11_isTurnable 6 = .ok (.aload_n 0, 1) := by decide +kernel
theorem dX11_isTurnable_7 : decode cX11_isTurnable 7 = .ok (.iload_n 1, 1) := by decide +kernel
theorem dX11_isTurnable_8 : decode cX11_isTurnable 8 = .ok (.invokevirtual 150, 3) := by decide +kernel
theorem dX11_isTurnable_11 : decode cX11_isTurnable 11 = .ok (.invokestatic 154, 3) := by decide +kernel
theorem dX11_isTurnable_14 : decode cX11_isTurnable 14 = .ok (.iconst 1, 1) := by decide +kernel
theorem dX11_isTurnable_15 : decode cX11_isTurnable 15 = .ok (.if_icmp .ne 7, 3) := by decide +kernel
theorem dX11_isTurnable_18 : decode cX11_isTurnable 18 = .ok (.iconst 1, 1) := by decide +kernel
theorem dX11_isTurnable_19 : decode cX11_isTurnable 19 = .ok (.goto 4, 3) := by decide +kernel
theorem dX11_isTurnable_22 : decode cX11_isTurnable 22 = .ok (.iconst 0, 1) := by decide +kernel
theorem dX11_isTurnable_23 : decode cX11_isTurnable 23 = .ok (.ireturn, 1) := by decide +kernel
theorem dX11_parts_0 : decode cX11_parts 0 = .ok (.aload_n 0, 1) := by decide +kernel
theorem dX11_parts_1 : decode cX11_parts 1 = .ok (.iconst 0, 1) := by decide +kernel
theorem dX11_parts_2 : decode cX11_parts 2 = .ok (.putfield 158, 3) := by decide +kernel
theorem dX11_parts_5 : decode cX11_parts 5 = .ok (.iload_n 1, 1) := by decide +kernel
theorem dX11_parts_6 : decode cX11_parts 6 = .ok (.istore_n 2, 1) := by decide +kernel
theorem dX11_parts_7 : decode cX11_parts 7 = .ok (.iconst 2, 1) := by decide +kernel
theorem dX11_parts_8 : decode cX11_parts 8 = .ok (.istore_n 3, 1) := by decide +kernel
theorem dX11_parts_9 : decode cX11_parts 9 = .ok (.iload_n 3, 1) := by decide +kernel
theorem dX11_parts_10 : decode cX11_parts 10 = .ok (.iload_n 2, 1) := by decide +kernel
theorem dX11_parts_11 : decode cX11_parts 11 = .ok (.if_icmp .gt 97, 3) := by decide +kernel
theorem dX11_parts_14 : decode cX11_parts 14 = .ok (.iload_n 2, 1) := by decide +kernel
theorem dX11_parts_15 : decode cX11_parts 15 = .ok (.iload_n 3, 1) := by decide +kernel
theorem dX11_parts_16 : decode cX11_parts 16 = .ok (.irem, 1) := by decide +kernel
theorem dX11_parts_17 : decode cX11_parts 17 = .ok (.ifCond .eq 6, 3) := by decide +kernel
theorem dX11_parts_20 : decode cX11_parts 20 = .ok (.goto 82, 3) := by decide +kernel
theorem dX11_parts_23 : decode cX11_parts 23 = .ok (.aload_n 0, 1) := by decide +kernel
theorem dX11_parts_24 : decode cX11_parts 24 = .ok (.getfield 54, 3) := by decide +kernel
theorem dX11_parts_27 : decode cX11_parts 27 = .ok (.aload_n 0, 1) := by decide +kernel
theorem dX11_parts_28 : decode cX11_parts 28 = .ok (.getfield 158, 3) := by decide +kernel
theorem dX11_parts_31 : decode cX11_parts 31 = .ok (.iload_n 3, 1) := by decide +kernel
theorem dX11_parts_32 : decode cX11_parts 32 = .ok (.iastore, 1) := by decide +kernel
theorem dX11_parts_33 : decode cX11_parts 33 = .ok (.aload_n 0, 1) := by decide +kernel
theorem dX11_parts_34 : decode cX11_parts 34 = .ok (.getfield 57, 3) := by decide +kernel
theorem dX11_parts_37 : decode cX11_parts 37 = .ok (.aload_n 0, 1) := by decide +kernel
theorem dX11_parts_38 : decode cX11_parts 38 = .ok (.getfield 158, 3) := by decide +kernel
theorem dX11_parts_41 : decode cX11_parts 41 = .ok (.iconst 1, 1) := by decide +kernel
theorem dX11_parts_42 : decode cX11_parts 42 = .ok (.iastore, 1) := by decide +kernel
theorem dX11_parts_43 : decode cX11_parts 43 = .ok (.aload_n 0, 1) := by decide +kernel
theorem dX11_parts_44 : decode cX11_parts 44 = .ok (.getfield 60, 3) := by decide +kernel
theorem dX11_parts_47 : decode cX11_parts 47 = .ok (.aload_n 0, 1) := by decide +kernel
theorem dX11_parts_48 : decode cX11_parts 48 = .ok (.getfield 158, 3) := by decide +kernel
theorem dX11_parts_51 : decode cX11_parts 51 = .ok (.iconst 0, 1) := by decide +kernel
theorem dX11_parts_52 : decode cX11_parts 52 = .ok (.iastore, 1) := by decide +kernel
theorem dX11_parts_53 : decode cX11_parts 53 = .ok (.iload_n 2, 1) := by decide +kernel
theorem dX11_parts_54 : decode cX11_parts 54 = .ok (.iload_n 3, 1) := by decide +kernel
theorem dX11_parts_55 : decode cX11_parts 55 = .ok (.irem, 1) := by decide +kernel
theorem dX11_parts_56 : decode cX11_parts 56 = .ok (.ifCond .ne 36, 3) := by decide +kernel
theorem dX11_parts_59 : decode cX11_parts 59 = .ok (.iload_n 2, 1) := by decide +kernel
theorem dX11_parts_60 : decode cX11_parts 60 = .ok (.iload_n 3, 1) := by decide +kernel
theorem dX11_parts_61 : decode cX11_parts 61 = .ok (.idiv, 1) := by decide +kernel
theorem dX11_parts_62 : decode cX11_parts 62 = .ok (.istore_n 2, 1) := by decide +kernel
theorem dX11_parts_63 : decode cX11_parts 63 = .ok (.aload_n 0, 1) := by decide +kernel
theorem dX11_parts_64 : decode cX11_parts 64 = .ok (.getfield 57, 3) := by decide +kernel
theorem dX11_parts_67 : decode cX11_parts 67 = .ok (.aload_n 0, 1) := by decide +kernel
theorem dX11_parts_68 : decode cX11_parts 68 = .ok (.getfield 158, 3) := by decide +kernel
theorem dX11_parts_71 : decode cX11_parts 71 = .ok (.dup2, 1) := by decide +kernel
theorem dX11_parts_72 : decode cX11_parts 72 = .ok (.iaload, 1) := by decide +kernel
theorem dX11_parts_73 : decode cX11_parts 73 = .ok (.iload_n 3, 1) := by decide +kernel
theorem dX11_parts_74 : decode cX11_parts 74 = .ok (.imul, 1) := by decide +kernel
theorem dX11_parts_75 : decode cX11_parts 75 = .ok (.iastore, 1) := by decide +kernel
theorem dX11_parts_76 : decode cX11_parts 76 = .ok (.aload_n 0, 1) := by decide +kernel
theorem dX11_parts_77 : decode cX11_parts 77 = .ok (.getfield 60, 3) := by decide +kernel
theorem dX11_parts_80 : decode cX11_parts 80 = .ok (.aload_n 0, 1) := by decide +kernel
theorem dX11_parts_81 : decode cX11_parts 81 = .ok (.getfield 158, 3) := by decide +kernel
theorem dX11_parts_84 : decode cX11_parts 84 = .ok (.dup2, 1) := by decide +kernel
theorem dX11_parts_85 : decode cX11_parts 85 = .ok (.iaload, 1) := by decide +kernel
theorem dX11_parts_86 : decode cX11_parts 86 = .ok (.iconst 1, 1) := by decide +kernel
theorem dX11_parts_87 : decode cX11_parts 87 = .ok (.iadd, 1) := by decide +kernel
theorem dX11_parts_88 : decode cX11_parts 88 = .ok (.iastore, 1) := by decide +kernel
theorem dX11_parts_89 : decode cX11_parts 89 = .ok (.goto (-36), 3) := by decide +kernel
theorem dX11_parts_92 : decode cX11_parts 92 = .ok (.aload_n 0, 1) := by decide +kernel
theorem dX11_parts_93 : decode cX11_parts 93 = .ok (.dup, 1) := by decide +kernel
theorem dX11_parts_94 : decode cX11_parts 94 = .ok (.getfield 158, 3) := by decide +kernel
theorem dX11_parts_97 : decode cX11_parts 97 = .ok (.iconst 1, 1) := by decide +kernel
theorem dX11_parts_98 : decode cX11_parts 98 = .ok (.iadd, 1) := by decide +kernel
theorem dX11_parts_99 : decode cX11_parts 99 = .ok (.putfield 158, 3) := by decide +kernel
theorem dX11_parts_102 : decode cX11_parts 102 = .ok (.iinc 3 1, 3) := by decide +kernel
theorem dX11_parts_105 : decode cX11_parts 105 = .ok (.goto (-96), 3) := by decide +kernel
theorem dX11_parts_108 : decode cX11_parts 108 = .ok (.return_, 1) := by decide +kernel
theorem dX11_look_0 : decode cX11_look 0 = .ok (.aload_n 0, 1) := by decide +kernel
theorem dX11_look_1 : decode cX11_look 1 = .ok (.iconst 0, 1) := by decide +kernel
theorem dX11_look_2 : decode cX11_look 2 = .ok (.putfield 104, 3) := by decide +kernel
theorem dX11_look_5 : decode cX11_look 5 = .ok (.aload_n 0, 1) := by decide +kernel
theorem dX11_look_6 : decode cX11_look 6 = .ok (.iload_n 1, 1) := by decide +kernel
theorem dX11_look_7 : decode cX11_look 7 = .ok (.invokevirtual 108, 3) := by decide +kernel
theorem dX11_look_10 : decode cX11_look 10 = .ok (.ifCond .ne 5, 3) := by decide +kernel
theorem dX11_look_13 : decode cX11_look 13 = .ok (.iconst (-1), 1) := by decide +kernel
theorem dX11_look_14 : decode cX11_look 14 = .ok (.ireturn, 1) := by decide +kernel
theorem dX11_look_15 : decode cX11_look 15 = .ok (.iload_n 2, 1) := by decide +kernel
theorem dX11_look_16 : decode cX11_look 16 = .ok (.tableswitch 96 0 5 #[40, 47, 54, 61, 67, 81], 40) := by decide +kernel
theorem dX11_look_56 : decode cX11_look 56 = .ok (.aload_n 0, 1) := by decide +kernel
theorem dX11_look_57 : decode cX11_look 57 = .ok (.getfield 13, 3) := by decide +kernel
theorem dX11_look_60 : decode cX11_look 60 = .ok (.iload_n 1, 1) := by decide +kernel
theorem dX11_look_61 : decode cX11_look 61 = .ok (.iaload, 1) := by decide +kernel
theorem dX11_look_62 : decode cX11_look 62 = .ok (.ireturn, 1) := by decide +kernel
theorem dX11_look_63 : decode cX11_look 63 = .ok (.aload_n 0, 1) := by decide +kernel
theorem dX11_look_64 : decode cX11_look 64 = .ok (.getfield 17, 3) := by decide +kernel
theorem dX11_look_67 : decode cX11_look 67 = .ok (.iload_n 1, 1) := by decide +kernel
theorem dX11_look_68 : decode cX11_look 68 = .ok (.iaload, 1) := by decide +kernel
theorem dX11_look_69 : decode cX11_look 69 = .ok (.ireturn, 1) := by decide +kernel
theorem dX11_look_70 : decode cX11_look 70 = .ok (.aload_n 0, 1) := by decide +kernel
theorem dX11_look_71 : decode cX11_look 71 = .ok (.getfield 20, 3) := by decide +kernel
theorem dX11_look_74 : decode cX11_look 74 = .ok (.iload_n 1, 1) := by decide +kernel
theorem dX11_look_75 : decode cX11_look 75 = .ok (.iaload, 1) := by decide +kernel
theorem dX11_look_76 : decode cX11_look 76 = .ok (.ireturn, 1) := by decide +kernel
theorem dX11_look_77 : decode cX11_look 77 = .ok (.aload_n 0, 1) := by decide +kernel
theorem dX11_look_78 : decode cX11_look 78 = .ok (.iload_n 1, 1) := by decide +kernel
theorem dX11_look_79 : decode cX11_look 79 = .ok (.invokevirtual 150, 3) := by decide +kernel
theorem dX11_look_82 : decode cX11_look 82 = .ok (.ireturn, 1) := by decide +kernel
theorem dX11_look_83 : decode cX11_look 83 = .ok (.aload_n 0, 1) := by decide +kernel
theorem dX11_look_84 : decode cX11_look 84 = .ok (.iload_n 1, 1) := by decide +kernel
theorem dX11_look_85 : decode cX11_look 85 = .ok (.invokevirtual 161, 3) := by decide +kernel
theorem dX11_look_88 : decode cX11_look 88 = .ok (.ifCond .eq 7, 3) := by decide +kernel
theorem dX11_look_91 : decode cX11_look 91 = .ok (.iconst 1, 1) := by decide +kernel
theorem dX11_look_92 : decode cX11_look 92 = .ok (.goto 4, 3) := by decide +kernel
theorem dX11_look_95 : decode cX11_look 95 = .ok (.iconst 0, 1) := by decide +kernel
theorem dX11_look_96 : decode cX11_look 96 = .ok (.ireturn, 1) := by decide +kernel
theorem dX11_look_97 : decode cX11_look 97 = .ok (.aload_n 0, 1) := by decide +kernel
theorem dX11_look_98 : decode cX11_look 98 = .ok (.aload_n 0, 1) := by decide +kernel
theorem dX11_look_99 : decode cX11_look 99 = .ok (.getfield 17, 3) := by decide +kernel
theorem dX11_look_102 : decode cX11_look 102 = .ok (.iload_n 1, 1) := by decide +kernel
theorem dX11_look_103 : decode cX11_look 103 = .ok (.iaload, 1) := by decide +kernel
theorem dX11_look_104 : decode cX11_look 104 = .ok (.invokevirtual 164, 3) := by decide +kernel
theorem dX11_look_107 : decode cX11_look 107 = .ok (.aload_n 0, 1) := by decide +kernel
theorem dX11_look_108 : decode cX11_look 108 = .ok (.getfield 158, 3) := by decide +kernel
theorem dX11_look_111 : decode cX11_look 111 = .ok (.ireturn, 1) := by decide +kernel
theorem dX11_look_112 : decode cX11_look 112 = .ok (.iconst (-1), 1) := by decide +kernel
theorem dX11_look_113 : decode cX11_look 113 = .ok (.ireturn, 1) := by decide +kernel
theorem dX11_part_0 : decode cX11_part 0 = .ok (.aload_n 0, 1) := by decide +kernel
theorem dX11_part_1 : decode cX11_part 1 = .ok (.iconst 0, 1) := by decide +kernel
theorem dX11_part_2 : decode cX11_part 2 = .ok (.putfield 104, 3) := by decide +kernel
theorem dX11_part_5 : decode cX11_part 5 = .ok (.aload_n 0, 1) := by decide +kernel
theorem dX11_part_6 : decode cX11_part 6 = .ok (.iload_n 1, 1) := by decide +kernel
theorem dX11_part_7 : decode cX11_part 7 = .ok (.invokevirtual 108, 3) := by decide +kernel
theorem dX11_part_10 : decode cX11_part 10 = .ok (.ifCond .ne 5, 3) := by decide +kernel
theorem dX11_part_13 : decode cX11_part 13 = .ok (.iconst (-1), 1) := by decide +kernel
theorem dX11_part_14 : decode cX11_part 14 = .ok (.ireturn, 1) := by decide +kernel
theorem dX11_part_15 : decode cX11_part 15 = .ok (.aload_n 0, 1) := by decide +kernel
theorem dX11_part_16 : decode cX11_part 16 = .ok (.aload_n 0, 1) := by decide +kernel
theorem dX11_part_17 : decode cX11_part 17 = .ok (.getfield 17, 3) := by decide +kernel
theorem dX11_part_20 : decode cX11_part 20 = .ok (.iload_n 1, 1) := by decide +kernel
theorem dX11_part_21 : decode cX11_part 21 = .ok (.iaload, 1) := by decide +kernel
theorem dX11_part_22 : decode cX11_part 22 = .ok (.invokevirtual 164, 3) := by decide +kernel
theorem dX11_part_25 : decode cX11_part 25 = .ok (.iload_n 2, 1) := by decide +kernel
theorem dX11_part_26 : decode cX11_part 26 = .ok (.ifCond .lt 11, 3) := by decide +kernel
theorem dX11_part_29 : decode cX11_part 29 = .ok (.iload_n 2, 1) := by decide +kernel
theorem dX11_part_30 : decode cX11_part 30 = .ok (.aload_n 0, 1) := by decide +kernel
theorem dX11_part_31 : decode cX11_part 31 = .ok (.getfield 158, 3) := by decide +kernel
theorem dX11_part_34 : decode cX11_part 34 = .ok (.if_icmp .lt 5, 3) := by decide +kernel
theorem dX11_part_37 : decode cX11_part 37 = .ok (.iconst (-1), 1) := by decide +kernel
theorem dX11_part_38 : decode cX11_part 38 = .ok (.ireturn, 1) := by decide +kernel
theorem dX11_part_39 : decode cX11_part 39 = .ok (.iload_n 3, 1) := by decide +kernel
theorem dX11_part_40 : decode cX11_part 40 = .ok (.tableswitch 66 0 3 #[32, 39, 46, 53], 32) := by decide +kernel
theorem dX11_part_72 : decode cX11_part 72 = .ok (.aload_n 0, 1) := by decide +kernel
theorem dX11_part_73 : decode cX11_part 73 = .ok (.getfield 54, 3) := by decide +kernel
theorem dX11_part_76 : decode cX11_part 76 = .ok (.iload_n 2, 1) := by decide +kernel
theorem dX11_part_77 : decode cX11_part 77 = .ok (.iaload, 1) := by decide +kernel
theorem dX11_part_78 : decode cX11_part 78 = .ok (.ireturn, 1) := by decide +kernel
theorem dX11_part_79 : decode cX11_part 79 = .ok (.aload_n 0, 1) := by decide +kernel
theorem dX11_part_80 : decode cX11_part 80 = .ok (.getfield 57, 3) := by decide +kernel
theorem dX11_part_83 : decode cX11_part 83 = .ok (.iload_n 2, 1) := by decide +kernel
theorem dX11_part_84 : decode cX11_part 84 = .ok (.iaload, 1) := by decide +kernel
theorem dX11_part_85 : decode cX11_part 85 = .ok (.ireturn, 1) := by decide +kernel
theorem dX11_part_86 : decode cX11_part 86 = .ok (.aload_n 0, 1) := by decide +kernel
theorem dX11_part_87 : decode cX11_part 87 = .ok (.getfield 60, 3) := by decide +kernel
theorem dX11_part_90 : decode cX11_part 90 = .ok (.iload_n 2, 1) := by decide +kernel
theorem dX11_part_91 : decode cX11_part 91 = .ok (.iaload, 1) := by decide +kernel
theorem dX11_part_92 : decode cX11_part 92 = .ok (.ireturn, 1) := by decide +kernel
theorem dX11_part_93 : decode cX11_part 93 = .ok (.aload_n 0, 1) := by decide +kernel
theorem dX11_part_94 : decode cX11_part 94 = .ok (.iload_n 1, 1) := by decide +kernel
theorem dX11_part_95 : decode cX11_part 95 = .ok (.invokevirtual 150, 3) := by decide +kernel
theorem dX11_part_98 : decode cX11_part 98 = .ok (.aload_n 0, 1) := by decide +kernel
theorem dX11_part_99 : decode cX11_part 99 = .ok (.getfield 57, 3) := by decide +kernel
theorem dX11_part_102 : decode cX11_part 102 = .ok (.iload_n 2, 1) := by decide +kernel
theorem dX11_part_103 : decode cX11_part 103 = .ok (.iaload, 1) := by decide +kernel
theorem dX11_part_104 : decode cX11_part 104 = .ok (.irem, 1) := by decide +kernel
theorem dX11_part_105 : decode cX11_part 105 = .ok (.ireturn, 1) := by decide +kernel
theorem dX11_part_106 : decode cX11_part 106 = .ok (.iconst (-1), 1) := by decide +kernel
theorem dX11_part_107 : decode cX11_part 107 = .ok (.ireturn, 1) := by decide +kernel
theorem dX11_split_0 : decode cX11_split 0 = .ok (.aload_n 0, 1) := by decide +kernel
theorem dX11_split_1 : decode cX11_split 1 = .ok (.iconst 0, 1) := by decide +kernel
theorem dX11_split_2 : decode cX11_split 2 = .ok (.putfield 104, 3) := by decide +kernel
theorem dX11_split_5 : decode cX11_split 5 = .ok (.aload_n 0, 1) := by decide +kernel
theorem dX11_split_6 : decode cX11_split 6 = .ok (.iload_n 1, 1) := by decide +kernel
theorem dX11_split_7 : decode cX11_split 7 = .ok (.invokevirtual 108, 3) := by decide +kernel
theorem dX11_split_10 : decode cX11_split 10 = .ok (.ifCond .eq 17, 3) := by decide +kernel
theorem dX11_split_13 : decode cX11_split 13 = .ok (.iload_n 3, 1) := by decide +kernel
theorem dX11_split_14 : decode cX11_split 14 = .ok (.ifCond .lt 13, 3) := by decide +kernel
theorem dX11_split_17 : decode cX11_split 17 = .ok (.iload_n 3, 1) := by decide +kernel
theorem dX11_split_18 : decode cX11_split 18 = .ok (.aload_n 0, 1) := by decide +kernel
theorem dX11_split_19 : decode cX11_split 19 = .ok (.getfield 20, 3) := by decide +kernel
theorem dX11_split_22 : decode cX11_split 22 = .ok (.iload_n 1, 1) := by decide +kernel
theorem dX11_split_23 : decode cX11_split 23 = .ok (.iaload, 1) := by decide +kernel
theorem dX11_split_24 : decode cX11_split 24 = .ok (.if_icmp .lt 5, 3) := by decide +kernel
theorem dX11_split_27 : decode cX11_split 27 = .ok (.iconst (-1), 1) := by decide +kernel
theorem dX11_split_28 : decode cX11_split 28 = .ok (.ireturn, 1) := by decide +kernel
theorem dX11_split_29 : decode cX11_split 29 = .ok (.aload_n 0, 1) := by decide +kernel
theorem dX11_split_30 : decode cX11_split 30 = .ok (.aload_n 0, 1) := by decide +kernel
theorem dX11_split_31 : decode cX11_split 31 = .ok (.getfield 17, 3) := by decide +kernel
theorem dX11_split_34 : decode cX11_split 34 = .ok (.iload_n 1, 1) := by decide +kernel
theorem dX11_split_35 : decode cX11_split 35 = .ok (.iaload, 1) := by decide +kernel
theorem dX11_split_36 : decode cX11_split 36 = .ok (.invokevirtual 164, 3) := by decide +kernel
theorem dX11_split_39 : decode cX11_split 39 = .ok (.iload_n 2, 1) := by decide +kernel
theorem dX11_split_40 : decode cX11_split 40 = .ok (.ifCond .lt 11, 3) := by decide +kernel
theorem dX11_split_43 : decode cX11_split 43 = .ok (.iload_n 2, 1) := by decide +kernel
theorem dX11_split_44 : decode cX11_split 44 = .ok (.aload_n 0, 1) := by decide +kernel
theorem dX11_split_45 : decode cX11_split 45 = .ok (.getfield 158, 3) := by decide +kernel
theorem dX11_split_48 : decode cX11_split 48 = .ok (.if_icmp .lt 7, 3) := by decide +kernel
theorem dX11_split_51 : decode cX11_split 51 = .ok (.iconst (-1), 1) := by decide +kernel
theorem dX11_split_52 : decode cX11_split 52 = .ok (.goto 20, 3) := by decide +kernel
theorem dX11_split_55 : decode cX11_split 55 = .ok (.aload_n 0, 1) := by decide +kernel
theorem dX11_split_56 : decode cX11_split 56 = .ok (.getfield 29, 3) := by decide +kernel
theorem dX11_split_59 : decode cX11_split 59 = .ok (.iconst 4, 1) := by decide +kernel
theorem dX11_split_60 : decode cX11_split 60 = .ok (.iload_n 1, 1) := by decide +kernel
theorem dX11_split_61 : decode cX11_split 61 = .ok (.imul, 1) := by decide +kernel
theorem dX11_split_62 : decode cX11_split 62 = .ok (.iload_n 3, 1) := by decide +kernel
theorem dX11_split_63 : decode cX11_split 63 = .ok (.iadd, 1) := by decide +kernel
theorem dX11_split_64 : decode cX11_split 64 = .ok (.iaload, 1) := by decide +kernel
theorem dX11_split_65 : decode cX11_split 65 = .ok (.aload_n 0, 1) := by decide +kernel
theorem dX11_split_66 : decode cX11_split 66 = .ok (.getfield 57, 3) := by decide +kernel
theorem dX11_split_69 : decode cX11_split 69 = .ok (.iload_n 2, 1) := by decide +kernel
theorem dX11_split_70 : decode cX11_split 70 = .ok (.iaload, 1) := by decide +kernel
theorem dX11_split_71 : decode cX11_split 71 = .ok (.irem, 1) := by decide +kernel
theorem dX11_split_72 : decode cX11_split 72 = .ok (.ireturn, 1) := by decide +kernel
theorem dX11_join_0 : decode cX11_join 0 = .ok (.aload_n 0, 1) := by decide +kernel
theorem dX11_join_1 : decode cX11_join 1 = .ok (.iconst 0, 1) := by decide +kernel
theorem dX11_join_2 : decode cX11_join 2 = .ok (.putfield 104, 3) := by decide +kernel
theorem dX11_join_5 : decode cX11_join 5 = .ok (.aload_n 0, 1) := by decide +kernel
theorem dX11_join_6 : decode cX11_join 6 = .ok (.iload_n 1, 1) := by decide +kernel
theorem dX11_join_7 : decode cX11_join 7 = .ok (.invokevirtual 108, 3) := by decide +kernel
theorem dX11_join_10 : decode cX11_join 10 = .ok (.ifCond .eq 17, 3) := by decide +kernel
theorem dX11_join_13 : decode cX11_join 13 = .ok (.iload_n 3, 1) := by decide +kernel
theorem dX11_join_14 : decode cX11_join 14 = .ok (.ifCond .lt 13, 3) := by decide +kernel
theorem dX11_join_17 : decode cX11_join 17 = .ok (.iload_n 3, 1) := by decide +kernel
theorem dX11_join_18 : decode cX11_join 18 = .ok (.aload_n 0, 1) := by decide +kernel
theorem dX11_join_19 : decode cX11_join 19 = .ok (.getfield 20, 3) := by decide +kernel
theorem dX11_join_22 : decode cX11_join 22 = .ok (.iload_n 1, 1) := by decide +kernel
theorem dX11_join_23 : decode cX11_join 23 = .ok (.iaload, 1) := by decide +kernel
theorem dX11_join_24 : decode cX11_join 24 = .ok (.if_icmp .lt 5, 3) := by decide +kernel
theorem dX11_join_27 : decode cX11_join 27 = .ok (.iconst 0, 1) := by decide +kernel
theorem dX11_join_28 : decode cX11_join 28 = .ok (.ireturn, 1) := by decide +kernel
theorem dX11_join_29 : decode cX11_join 29 = .ok (.aload_n 0, 1) := by decide +kernel
theorem dX11_join_30 : decode cX11_join 30 = .ok (.getfield 17, 3) := by decide +kernel
theorem dX11_join_33 : decode cX11_join 33 = .ok (.iload_n 1, 1) := by decide +kernel
theorem dX11_join_34 : decode cX11_join 34 = .ok (.iaload, 1) := by decide +kernel
theorem dX11_join_35 : decode cX11_join 35 = .ok (.istore 5, 2) := by decide +kernel
theorem dX11_join_37 : decode cX11_join 37 = .ok (.aload_n 0, 1) := by decide +kernel
theorem dX11_join_38 : decode cX11_join 38 = .ok (.iload 5, 2) := by decide +kernel
theorem dX11_join_40 : decode cX11_join 40 = .ok (.invokevirtual 164, 3) := by decide +kernel
theorem dX11_join_43 : decode cX11_join 43 = .ok (.iload_n 2, 1) := by decide +kernel
theorem dX11_join_44 : decode cX11_join 44 = .ok (.ifCond .lt 11, 3) := by decide +kernel
theorem dX11_join_47 : decode cX11_join 47 = .ok (.iload_n 2, 1) := by decide +kernel
theorem dX11_join_48 : decode cX11_join 48 = .ok (.aload_n 0, 1) := by decide +kernel
theorem dX11_join_49 : decode cX11_join 49 = .ok (.getfield 158, 3) := by decide +kernel
theorem dX11_join_52 : decode cX11_join 52 = .ok (.if_icmp .lt 5, 3) := by decide +kernel
theorem dX11_join_55 : decode cX11_join 55 = .ok (.iconst 0, 1) := by decide +kernel
theorem dX11_join_56 : decode cX11_join 56 = .ok (.ireturn, 1) := by decide +kernel
theorem dX11_join_57 : decode cX11_join 57 = .ok (.aload_n 0, 1) := by decide +kernel
theorem dX11_join_58 : decode cX11_join 58 = .ok (.getfield 57, 3) := by decide +kernel
theorem dX11_join_61 : decode cX11_join 61 = .ok (.iload_n 2, 1) := by decide +kernel
theorem dX11_join_62 : decode cX11_join 62 = .ok (.iaload, 1) := by decide +kernel
theorem dX11_join_63 : decode cX11_join 63 = .ok (.istore 6, 2) := by decide +kernel
theorem dX11_join_65 : decode cX11_join 65 = .ok (.iload 4, 2) := by decide +kernel
theorem dX11_join_67 : decode cX11_join 67 = .ok (.i2l, 1) := by decide +kernel
theorem dX11_join_68 : decode cX11_join 68 = .ok (.iload 6, 2) := by decide +kernel
theorem dX11_join_70 : decode cX11_join 70 = .ok (.invokestatic 116, 3) := by decide +kernel
theorem dX11_join_73 : decode cX11_join 73 = .ok (.istore 7, 2) := by decide +kernel
theorem dX11_join_75 : decode cX11_join 75 = .ok (.aload_n 0, 1) := by decide +kernel
theorem dX11_join_76 : decode cX11_join 76 = .ok (.getfield 29, 3) := by decide +kernel
theorem dX11_join_79 : decode cX11_join 79 = .ok (.iconst 4, 1) := by decide +kernel
theorem dX11_join_80 : decode cX11_join 80 = .ok (.iload_n 1, 1) := by decide +kernel
theorem dX11_join_81 : decode cX11_join 81 = .ok (.imul, 1) := by decide +kernel
theorem dX11_join_82 : decode cX11_join 82 = .ok (.iload_n 3, 1) := by decide +kernel
theorem dX11_join_83 : decode cX11_join 83 = .ok (.iadd, 1) := by decide +kernel
theorem dX11_join_84 : decode cX11_join 84 = .ok (.iaload, 1) := by decide +kernel
theorem dX11_join_85 : decode cX11_join 85 = .ok (.iload 5, 2) := by decide +kernel
theorem dX11_join_87 : decode cX11_join 87 = .ok (.iload 6, 2) := by decide +kernel
theorem dX11_join_89 : decode cX11_join 89 = .ok (.idiv, 1) := by decide +kernel
theorem dX11_join_90 : decode cX11_join 90 = .ok (.irem, 1) := by decide +kernel
theorem dX11_join_91 : decode cX11_join 91 = .ok (.istore 8, 2) := by decide +kernel
theorem dX11_join_93 : decode cX11_join 93 = .ok (.iload 8, 2) := by decide +kernel
theorem dX11_join_95 : decode cX11_join 95 = .ok (.iload 6, 2) := by decide +kernel
theorem dX11_join_97 : decode cX11_join 97 = .ok (.irem, 1) := by decide +kernel
theorem dX11_join_98 : decode cX11_join 98 = .ok (.iload 7, 2) := by decide +kernel
theorem dX11_join_100 : decode cX11_join 100 = .ok (.if_icmp .eq 16, 3) := by decide +kernel
theorem dX11_join_103 : decode cX11_join 103 = .ok (.iload 8, 2) := by decide +kernel
theorem dX11_join_105 : decode cX11_join 105 = .ok (.iload 5, 2) := by decide +kernel
theorem dX11_join_107 : decode cX11_join 107 = .ok (.iload 6, 2) := by decide +kernel
theorem dX11_join_109 : decode cX11_join 109 = .ok (.idiv, 1) := by decide +kernel
theorem dX11_join_110 : decode cX11_join 110 = .ok (.iadd, 1) := by decide +kernel
theorem dX11_join_111 : decode cX11_join 111 = .ok (.istore 8, 2) := by decide +kernel
theorem dX11_join_113 : decode cX11_join 113 = .ok (.goto (-20), 3) := by decide +kernel
theorem dX11_join_116 : decode cX11_join 116 = .ok (.aload_n 0, 1) := by decide +kernel
theorem dX11_join_117 : decode cX11_join 117 = .ok (.getfield 29, 3) := by decide +kernel
theorem dX11_join_120 : decode cX11_join 120 = .ok (.iconst 4, 1) := by decide +kernel
theorem dX11_join_121 : decode cX11_join 121 = .ok (.iload_n 1, 1) := by decide +kernel
theorem dX11_join_122 : decode cX11_join 122 = .ok (.imul, 1) := by decide +kernel
theorem dX11_join_123 : decode cX11_join 123 = .ok (.iload_n 3, 1) := by decide +kernel
theorem dX11_join_124 : decode cX11_join 124 = .ok (.iadd, 1) := by decide +kernel
theorem dX11_join_125 : decode cX11_join 125 = .ok (.iload 8, 2) := by decide +kernel
theorem dX11_join_127 : decode cX11_join 127 = .ok (.iastore, 1) := by decide +kernel
theorem dX11_join_128 : decode cX11_join 128 = .ok (.iconst 1, 1) := by decide +kernel
theorem dX11_join_129 : decode cX11_join 129 = .ok (.ireturn, 1) := by decide +kernel
theorem dX11_factor_0 : decode cX11_factor 0 = .ok (.lload_n 1, 1) := by decide +kernel
theorem dX11_factor_1 : decode cX11_factor 1 = .ok (.lstore_n 3, 1) := by decide +kernel
theorem dX11_factor_2 : decode cX11_factor 2 = .ok (.ldc2_w 127, 3) := by decide +kernel
theorem dX11_factor_5 : decode cX11_factor 5 = .ok (.lstore 5, 2) := by decide +kernel
theorem dX11_factor_7 : decode cX11_factor 7 = .ok (.lload 5, 2) := by decide +kernel
theorem dX11_factor_9 : decode cX11_factor 9 = .ok (.lload 5, 2) := by decide +kernel
theorem dX11_factor_11 : decode cX11_factor 11 = .ok (.lmul, 1) := by decide +kernel
theorem dX11_factor_12 : decode cX11_factor 12 = .ok (.lload_n 3, 1) := by decide +kernel
theorem dX11_factor_13 : decode cX11_factor 13 = .ok (.lcmp, 1) := by decide +kernel
theorem dX11_factor_14 : decode cX11_factor 14 = .ok (.ifCond .gt 50, 3) := by decide +kernel
theorem dX11_factor_17 : decode cX11_factor 17 = .ok (.lload_n 3, 1) := by decide +kernel
theorem dX11_factor_18 : decode cX11_factor 18 = .ok (.lload 5, 2) := by decide +kernel
theorem dX11_factor_20 : decode cX11_factor 20 = .ok (.lrem, 1) := by decide +kernel
theorem dX11_factor_21 : decode cX11_factor 21 = .ok (.lconst 0, 1) := by decide +kernel
theorem dX11_factor_22 : decode cX11_factor 22 = .ok (.lcmp, 1) := by decide +kernel
theorem dX11_factor_23 : decode cX11_factor 23 = .ok (.ifCond .ne 32, 3) := by decide +kernel
theorem dX11_factor_26 : decode cX11_factor 26 = .ok (.aload_n 0, 1) := by decide +kernel
theorem dX11_factor_27 : decode cX11_factor 27 = .ok (.getfield 63, 3) := by decide +kernel
theorem dX11_factor_30 : decode cX11_factor 30 = .ok (.aload_n 0, 1) := by decide +kernel
theorem dX11_factor_31 : decode cX11_factor 31 = .ok (.getfield 167, 3) := by decide +kernel
theorem dX11_factor_34 : decode cX11_factor 34 = .ok (.lload 5, 2) := by decide +kernel
theorem dX11_factor_36 : decode cX11_factor 36 = .ok (.lastore, 1) := by decide +kernel
theorem dX11_factor_37 : decode cX11_factor 37 = .ok (.aload_n 0, 1) := by decide +kernel
theorem dX11_factor_38 : decode cX11_factor 38 = .ok (.dup, 1) := by decide +kernel
theorem dX11_factor_39 : decode cX11_factor 39 = .ok (.getfield 167, 3) := by decide +kernel
theorem dX11_factor_42 : decode cX11_factor 42 = .ok (.iconst 1, 1) := by decide +kernel
theorem dX11_factor_43 : decode cX11_factor 43 = .ok (.iadd, 1) := by decide +kernel
theorem dX11_factor_44 : decode cX11_factor 44 = .ok (.putfield 167, 3) := by decide +kernel
theorem dX11_factor_47 : decode cX11_factor 47 = .ok (.lload_n 3, 1) := by decide +kernel
theorem dX11_factor_48 : decode cX11_factor 48 = .ok (.lload 5, 2) := by decide +kernel
theorem dX11_factor_50 : decode cX11_factor 50 = .ok (.ldiv, 1) := by decide +kernel
theorem dX11_factor_51 : decode cX11_factor 51 = .ok (.lstore_n 3, 1) := by decide +kernel
theorem dX11_factor_52 : decode cX11_factor 52 = .ok (.goto (-35), 3) := by decide +kernel
theorem dX11_factor_55 : decode cX11_factor 55 = .ok (.lload 5, 2) := by decide +kernel
theorem dX11_factor_57 : decode cX11_factor 57 = .ok (.lconst 1, 1) := by decide +kernel
theorem dX11_factor_58 : decode cX11_factor 58 = .ok (.ladd, 1) := by decide +kernel
theorem dX11_factor_59 : decode cX11_factor 59 = .ok (.lstore 5, 2) := by decide +kernel
theorem dX11_factor_61 : decode cX11_factor 61 = .ok (.goto (-54), 3) := by decide +kernel
theorem dX11_factor_64 : decode cX11_factor 64 = .ok (.lload_n 3, 1) := by decide +kernel
theorem dX11_factor_65 : decode cX11_factor 65 = .ok (.lconst 1, 1) := by decide +kernel
theorem dX11_factor_66 : decode cX11_factor 66 = .ok (.lcmp, 1) := by decide +kernel
theorem dX11_factor_67 : decode cX11_factor 67 = .ok (.ifCond .le 23, 3) := by decide +kernel
theorem dX11_factor_70 : decode cX11_factor 70 = .ok (.aload_n 0, 1) := by decide +kernel
theorem dX11_factor_71 : decode cX11_factor 71 = .ok (.getfield 63, 3) := by decide +kernel
theorem dX11_factor_74 : decode cX11_factor 74 = .ok (.aload_n 0, 1) := by decide +kernel
theorem dX11_factor_75 : decode cX11_factor 75 = .ok (.getfield 167, 3) := by decide +kernel
theorem dX11_factor_78 : decode cX11_factor 78 = .ok (.lload_n 3, 1) := by decide +kernel
theorem dX11_factor_79 : decode cX11_factor 79 = .ok (.lastore, 1) := by decide +kernel
theorem dX11_factor_80 : decode cX11_factor 80 = .ok (.aload_n 0, 1) := by decide +kernel
theorem dX11_factor_81 : decode cX11_factor 81 = .ok (.dup, 1) := by decide +kernel
theorem dX11_factor_82 : decode cX11_factor 82 = .ok (.getfield 167, 3) := by decide +kernel
theorem dX11_factor_85 : decode cX11_factor 85 = .ok (.iconst 1, 1) := by decide +kernel
theorem dX11_factor_86 : decode cX11_factor 86 = .ok (.iadd, 1) := by decide +kernel
theorem dX11_factor_87 : decode cX11_factor 87 = .ok (.putfield 167, 3) := by decide +kernel
theorem dX11_factor_90 : decode cX11_factor 90 = .ok (.return_, 1) := by decide +kernel
theorem dX11_makesMultiple_0 : decode cX11_makesMultiple 0 = .ok (.aload_n 0, 1) := by decide +kernel
theorem dX11_makesMultiple_1 : decode cX11_makesMultiple 1 = .ok (.getfield 54, 3) := by decide +kernel
theorem dX11_makesMultiple_4 : decode cX11_makesMultiple 4 = .ok (.iload_n 1, 1) := by decide +kernel
theorem dX11_makesMultiple_5 : decode cX11_makesMultiple 5 = .ok (.iaload, 1) := by decide +kernel
theorem dX11_makesMultiple_6 : decode cX11_makesMultiple 6 = .ok (.i2l, 1) := by decide +kernel
theorem dX11_makesMultiple_7 : decode cX11_makesMultiple 7 = .ok (.lstore_n 2, 1) := by decide +kernel
theorem dX11_makesMultiple_8 : decode cX11_makesMultiple 8 = .ok (.aload_n 0, 1) := by decide +kernel
theorem dX11_makesMultiple_9 : decode cX11_makesMultiple 9 = .ok (.iconst 0, 1) := by decide +kernel
theorem dX11_makesMultiple_10 : decode cX11_makesMultiple 10 = .ok (.putfield 167, 3) := by decide +kernel
theorem dX11_makesMultiple_13 : decode cX11_makesMultiple 13 = .ok (.iconst 1, 1) := by decide +kernel
theorem dX11_makesMultiple_14 : decode cX11_makesMultiple 14 = .ok (.istore 4, 2) := by decide +kernel
theorem dX11_makesMultiple_16 : decode cX11_makesMultiple 16 = .ok (.iload 4, 2) := by decide +kernel
theorem dX11_makesMultiple_18 : decode cX11_makesMultiple 18 = .ok (.aload_n 0, 1) := by decide +kernel
theorem dX11_makesMultiple_19 : decode cX11_makesMultiple 19 = .ok (.getfield 60, 3) := by decide +kernel
theorem dX11_makesMultiple_22 : decode cX11_makesMultiple 22 = .ok (.iload_n 1, 1) := by decide +kernel
theorem dX11_makesMultiple_23 : decode cX11_makesMultiple 23 = .ok (.iaload, 1) := by decide +kernel
theorem dX11_makesMultiple_24 : decode cX11_makesMultiple 24 = .ok (.if_icmp .ge 14, 3) := by decide +kernel
theorem dX11_makesMultiple_27 : decode cX11_makesMultiple 27 = .ok (.aload_n 0, 1) := by decide +kernel
theorem dX11_makesMultiple_28 : decode cX11_makesMultiple 28 = .ok (.lload_n 2, 1) := by decide +kernel
theorem dX11_makesMultiple_29 : decode cX11_makesMultiple 29 = .ok (.invokevirtual 170, 3) := by decide +kernel
theorem dX11_makesMultiple_32 : decode cX11_makesMultiple 32 = .ok (.iinc 4 1, 3) := by decide +kernel
theorem dX11_makesMultiple_35 : decode cX11_makesMultiple 35 = .ok (.goto (-19), 3) := by decide +kernel
theorem dX11_makesMultiple_38 : decode cX11_makesMultiple 38 = .ok (.lconst 1, 1) := by decide +kernel
theorem dX11_makesMultiple_39 : decode cX11_makesMultiple 39 = .ok (.lstore 4, 2) := by decide +kernel
theorem dX11_makesMultiple_41 : decode cX11_makesMultiple 41 = .ok (.lload 4, 2) := by decide +kernel
theorem dX11_makesMultiple_43 : decode cX11_makesMultiple 43 = .ok (.ldc2_w 174, 3) := by decide +kernel
theorem dX11_makesMultiple_46 : decode cX11_makesMultiple 46 = .ok (.lcmp, 1) := by decide +kernel
theorem dX11_makesMultiple_47 : decode cX11_makesMultiple 47 = .ok (.ifCond .ge 17, 3) := by decide +kernel
theorem dX11_makesMultiple_50 : decode cX11_makesMultiple 50 = .ok (.aload_n 0, 1) := by decide +kernel
theorem dX11_makesMultiple_51 : decode cX11_makesMultiple 51 = .ok (.lload_n 2, 1) := by decide +kernel
theorem dX11_makesMultiple_52 : decode cX11_makesMultiple 52 = .ok (.invokevirtual 170, 3) := by decide +kernel
theorem dX11_makesMultiple_55 : decode cX11_makesMultiple 55 = .ok (.lload 4, 2) := by decide +kernel
theorem dX11_makesMultiple_57 : decode cX11_makesMultiple 57 = .ok (.lload_n 2, 1) := by decide +kernel
theorem dX11_makesMultiple_58 : decode cX11_makesMultiple 58 = .ok (.lmul, 1) := by decide +kernel
theorem dX11_makesMultiple_59 : decode cX11_makesMultiple 59 = .ok (.lstore 4, 2) := by decide +kernel
theorem dX11_makesMultiple_61 : decode cX11_makesMultiple 61 = .ok (.goto (-20), 3) := by decide +kernel
theorem dX11_makesMultiple_64 : decode cX11_makesMultiple 64 = .ok (.aload_n 0, 1) := by decide +kernel
theorem dX11_makesMultiple_65 : decode cX11_makesMultiple 65 = .ok (.lload_n 2, 1) := by decide +kernel
theorem dX11_makesMultiple_66 : decode cX11_makesMultiple 66 = .ok (.lconst 1, 1) := by decide +kernel
theorem dX11_makesMultiple_67 : decode cX11_makesMultiple 67 = .ok (.lsub, 1) := by decide +kernel
theorem dX11_makesMultiple_68 : decode cX11_makesMultiple 68 = .ok (.invokevirtual 170, 3) := by decide +kernel
theorem dX11_makesMultiple_71 : decode cX11_makesMultiple 71 = .ok (.aload_n 0, 1) := by decide +kernel
theorem dX11_makesMultiple_72 : decode cX11_makesMultiple 72 = .ok (.lload_n 2, 1) := by decide +kernel
theorem dX11_makesMultiple_73 : decode cX11_makesMultiple 73 = .ok (.lconst 1, 1) := by decide +kernel
theorem dX11_makesMultiple_74 : decode cX11_makesMultiple 74 = .ok (.ladd, 1) := by decide +kernel
theorem dX11_makesMultiple_75 : decode cX11_makesMultiple 75 = .ok (.invokevirtual 170, 3) := by decide +kernel
theorem dX11_makesMultiple_78 : decode cX11_makesMultiple 78 = .ok (.aload_n 0, 1) := by decide +kernel
theorem dX11_makesMultiple_79 : decode cX11_makesMultiple 79 = .ok (.lload_n 2, 1) := by decide +kernel
theorem dX11_makesMultiple_80 : decode cX11_makesMultiple 80 = .ok (.lload_n 2, 1) := by decide +kernel
theorem dX11_makesMultiple_81 : decode cX11_makesMultiple 81 = .ok (.lmul, 1) := by decide +kernel
theorem dX11_makesMultiple_82 : decode cX11_makesMultiple 82 = .ok (.lload_n 2, 1) := by decide +kernel
theorem dX11_makesMultiple_83 : decode cX11_makesMultiple 83 = .ok (.ladd, 1) := by decide +kernel
theorem dX11_makesMultiple_84 : decode cX11_makesMultiple 84 = .ok (.lconst 1, 1) := by decide +kernel
theorem dX11_makesMultiple_85 : decode cX11_makesMultiple 85 = .ok (.ladd, 1) := by decide +kernel
theorem dX11_makesMultiple_86 : decode cX11_makesMultiple 86 = .ok (.invokevirtual 170, 3) := by decide +kernel
theorem dX11_makesMultiple_89 : decode cX11_makesMultiple 89 = .ok (.aload_n 0, 1) := by decide +kernel
theorem dX11_makesMultiple_90 : decode cX11_makesMultiple 90 = .ok (.lload_n 2, 1) := by decide +kernel
theorem dX11_makesMultiple_91 : decode cX11_makesMultiple 91 = .ok (.lload_n 2, 1) := by decide +kernel
theorem dX11_makesMultiple_92 : decode cX11_makesMultiple 92 = .ok (.lmul, 1) := by decide +kernel
theorem dX11_makesMultiple_93 : decode cX11_makesMultiple 93 = .ok (.lconst 1, 1) := by decide +kernel
theorem dX11_makesMultiple_94 : decode cX11_makesMultiple 94 = .ok (.ladd, 1) := by decide +kernel
theorem dX11_makesMultiple_95 : decode cX11_makesMultiple 95 = .ok (.invokevirtual 170, 3) := by decide +kernel
theorem dX11_makesMultiple_98 : decode cX11_makesMultiple 98 = .ok (.aload_n 0, 1) := by decide +kernel
theorem dX11_makesMultiple_99 : decode cX11_makesMultiple 99 = .ok (.lconst 1, 1) := by decide +kernel
theorem dX11_makesMultiple_100 : decode cX11_makesMultiple 100 = .ok (.putfield 176, 3) := by decide +kernel
theorem dX11_makesMultiple_103 : decode cX11_makesMultiple 103 = .ok (.iconst 0, 1) := by decide +kernel
theorem dX11_makesMultiple_104 : decode cX11_makesMultiple 104 = .ok (.istore 4, 2) := by decide +kernel
theorem dX11_makesMultiple_106 : decode cX11_makesMultiple 106 = .ok (.iload 4, 2) := by decide +kernel
theorem dX11_makesMultiple_108 : decode cX11_makesMultiple 108 = .ok (.aload_n 0, 1) := by decide +kernel
theorem dX11_makesMultiple_109 : decode cX11_makesMultiple 109 = .ok (.getfield 167, 3) := by decide +kernel
theorem dX11_makesMultiple_112 : decode cX11_makesMultiple 112 = .ok (.if_icmp .ge 25, 3) := by decide +kernel
theorem dX11_makesMultiple_115 : decode cX11_makesMultiple 115 = .ok (.aload_n 0, 1) := by decide +kernel
theorem dX11_makesMultiple_116 : decode cX11_makesMultiple 116 = .ok (.dup, 1) := by decide +kernel
theorem dX11_makesMultiple_117 : decode cX11_makesMultiple 117 = .ok (.getfield 176, 3) := by decide +kernel
theorem dX11_makesMultiple_120 : decode cX11_makesMultiple 120 = .ok (.aload_n 0, 1) := by decide +kernel
theorem dX11_makesMultiple_121 : decode cX11_makesMultiple 121 = .ok (.getfield 63, 3) := by decide +kernel
theorem dX11_makesMultiple_124 : decode cX11_makesMultiple 124 = .ok (.iload 4, 2) := by decide +kernel
theorem dX11_makesMultiple_126 : decode cX11_makesMultiple 126 = .ok (.laload, 1) := by decide +kernel
theorem dX11_makesMultiple_127 : decode cX11_makesMultiple 127 = .ok (.lmul, 1) := by decide +kernel
theorem dX11_makesMultiple_128 : decode cX11_makesMultiple 128 = .ok (.putfield 176, 3) := by decide +kernel
theorem dX11_makesMultiple_131 : decode cX11_makesMultiple 131 = .ok (.iinc 4 1, 3) := by decide +kernel
theorem dX11_makesMultiple_134 : decode cX11_makesMultiple 134 = .ok (.goto (-28), 3) := by decide +kernel
theorem dX11_makesMultiple_137 : decode cX11_makesMultiple 137 = .ok (.return_, 1) := by decide +kernel
theorem dX11_commonOf_0 : decode cX11_commonOf 0 = .ok (.lload_n 0, 1) := by decide +kernel
theorem dX11_commonOf_1 : decode cX11_commonOf 1 = .ok (.lstore 4, 2) := by decide +kernel
theorem dX11_commonOf_3 : decode cX11_commonOf 3 = .ok (.lload_n 2, 1) := by decide +kernel
theorem dX11_commonOf_4 : decode cX11_commonOf 4 = .ok (.lstore 6, 2) := by decide +kernel
theorem dX11_commonOf_6 : decode cX11_commonOf 6 = .ok (.lload 6, 2) := by decide +kernel
theorem dX11_commonOf_8 : decode cX11_commonOf 8 = .ok (.lconst 0, 1) := by decide +kernel
theorem dX11_commonOf_9 : decode cX11_commonOf 9 = .ok (.lcmp, 1) := by decide +kernel
theorem dX11_commonOf_10 : decode cX11_commonOf 10 = .ok (.ifCond .le 21, 3) := by decide +kernel
theorem dX11_commonOf_13 : decode cX11_commonOf 13 = .ok (.lload 4, 2) := by decide +kernel
theorem dX11_commonOf_15 : decode cX11_commonOf 15 = .ok (.lload 6, 2) := by decide +kernel
theorem dX11_commonOf_17 : decode cX11_commonOf 17 = .ok (.lrem, 1) := by decide +kernel
theorem dX11_commonOf_18 : decode cX11_commonOf 18 = .ok (.lstore 8, 2) := by decide +kernel
theorem dX11_commonOf_20 : decode cX11_commonOf 20 = .ok (.lload 6, 2) := by decide +kernel
theorem dX11_commonOf_22 : decode cX11_commonOf 22 = .ok (.lstore 4, 2) := by decide +kernel
theorem dX11_commonOf_24 : decode cX11_commonOf 24 = .ok (.lload 8, 2) := by decide +kernel
theorem dX11_commonOf_26 : decode cX11_commonOf 26 = .ok (.lstore 6, 2) := by decide +kernel
theorem dX11_commonOf_28 : decode cX11_commonOf 28 = .ok (.goto (-22), 3) := by decide +kernel
theorem dX11_commonOf_31 : decode cX11_commonOf 31 = .ok (.lload 4, 2) := by decide +kernel
theorem dX11_commonOf_33 : decode cX11_commonOf 33 = .ok (.lreturn, 1) := by decide +kernel
theorem dX11_together_0 : decode cX11_together 0 = .ok (.lload_n 0, 1) := by decide +kernel
theorem dX11_together_1 : decode cX11_together 1 = .ok (.lload_n 0, 1) := by decide +kernel
theorem dX11_together_2 : decode cX11_together 2 = .ok (.lload_n 2, 1) := by decide +kernel
theorem dX11_together_3 : decode cX11_together 3 = .ok (.invokestatic 180, 3) := by decide +kernel
theorem dX11_together_6 : decode cX11_together 6 = .ok (.ldiv, 1) := by decide +kernel
theorem dX11_together_7 : decode cX11_together 7 = .ok (.lload_n 2, 1) := by decide +kernel
theorem dX11_together_8 : decode cX11_together 8 = .ok (.lmul, 1) := by decide +kernel
theorem dX11_together_9 : decode cX11_together 9 = .ok (.lreturn, 1) := by decide +kernel
theorem dX11_settles_0 : decode cX11_settles 0 = .ok (.aload_n 0, 1) := by decide +kernel
theorem dX11_settles_1 : decode cX11_settles 1 = .ok (.iload_n 1, 1) := by decide +kernel
theorem dX11_settles_2 : decode cX11_settles 2 = .ok (.ldc2_w 184, 3) := by decide +kernel
theorem dX11_settles_5 : decode cX11_settles 5 = .ok (.iload_n 2, 1) := by decide +kernel
theorem dX11_settles_6 : decode cX11_settles 6 = .ok (.invokevirtual 133, 3) := by decide +kernel
theorem dX11_settles_9 : decode cX11_settles 9 = .ok (.aload_n 0, 1) := by decide +kernel
theorem dX11_settles_10 : decode cX11_settles 10 = .ok (.iload_n 1, 1) := by decide +kernel
theorem dX11_settles_11 : decode cX11_settles 11 = .ok (.iload_n 2, 1) := by decide +kernel
theorem dX11_settles_12 : decode cX11_settles 12 = .ok (.invokevirtual 137, 3) := by decide +kernel
theorem dX11_settles_15 : decode cX11_settles 15 = .ok (.aload_n 0, 1) := by decide +kernel
theorem dX11_settles_16 : decode cX11_settles 16 = .ok (.aload_n 0, 1) := by decide +kernel
theorem dX11_settles_17 : decode cX11_settles 17 = .ok (.getfield 20, 3) := by decide +kernel
theorem dX11_settles_20 : decode cX11_settles 20 = .ok (.iload_n 1, 1) := by decide +kernel
theorem dX11_settles_21 : decode cX11_settles 21 = .ok (.iaload, 1) := by decide +kernel
theorem dX11_settles_22 : decode cX11_settles 22 = .ok (.iload_n 2, 1) := by decide +kernel
theorem dX11_settles_23 : decode cX11_settles 23 = .ok (.invokevirtual 140, 3) := by decide +kernel
theorem dX11_settles_26 : decode cX11_settles 26 = .ok (.aload_n 0, 1) := by decide +kernel
theorem dX11_settles_27 : decode cX11_settles 27 = .ok (.aload_n 0, 1) := by decide +kernel
theorem dX11_settles_28 : decode cX11_settles 28 = .ok (.getfield 20, 3) := by decide +kernel
theorem dX11_settles_31 : decode cX11_settles 31 = .ok (.iload_n 1, 1) := by decide +kernel
theorem dX11_settles_32 : decode cX11_settles 32 = .ok (.iaload, 1) := by decide +kernel
theorem dX11_settles_33 : decode cX11_settles 33 = .ok (.invokevirtual 143, 3) := by decide +kernel
theorem dX11_settles_36 : decode cX11_settles 36 = .ok (.return_, 1) := by decide +kernel
theorem dX11_comesBack_0 : decode cX11_comesBack 0 = .ok (.aload_n 0, 1) := by decide +kernel
theorem dX11_comesBack_1 : decode cX11_comesBack 1 = .ok (.iload_n 1, 1) := by decide +kernel
theorem dX11_comesBack_2 : decode cX11_comesBack 2 = .ok (.lload_n 2, 1) := by decide +kernel
theorem dX11_comesBack_3 : decode cX11_comesBack 3 = .ok (.iload 4, 2) := by decide +kernel
theorem dX11_comesBack_5 : decode cX11_comesBack 5 = .ok (.invokevirtual 133, 3) := by decide +kernel
theorem dX11_comesBack_8 : decode cX11_comesBack 8 = .ok (.aload_n 0, 1) := by decide +kernel
theorem dX11_comesBack_9 : decode cX11_comesBack 9 = .ok (.aload_n 0, 1) := by decide +kernel
theorem dX11_comesBack_10 : decode cX11_comesBack 10 = .ok (.getfield 20, 3) := by decide +kernel
theorem dX11_comesBack_13 : decode cX11_comesBack 13 = .ok (.iload_n 1, 1) := by decide +kernel
theorem dX11_comesBack_14 : decode cX11_comesBack 14 = .ok (.iaload, 1) := by decide +kernel
theorem dX11_comesBack_15 : decode cX11_comesBack 15 = .ok (.iload 4, 2) := by decide +kernel
theorem dX11_comesBack_17 : decode cX11_comesBack 17 = .ok (.invokevirtual 140, 3) := by decide +kernel
theorem dX11_comesBack_20 : decode cX11_comesBack 20 = .ok (.aload_n 0, 1) := by decide +kernel
theorem dX11_comesBack_21 : decode cX11_comesBack 21 = .ok (.aload_n 0, 1) := by decide +kernel
theorem dX11_comesBack_22 : decode cX11_comesBack 22 = .ok (.getfield 20, 3) := by decide +kernel
theorem dX11_comesBack_25 : decode cX11_comesBack 25 = .ok (.iload_n 1, 1) := by decide +kernel
theorem dX11_comesBack_26 : decode cX11_comesBack 26 = .ok (.iaload, 1) := by decide +kernel
theorem dX11_comesBack_27 : decode cX11_comesBack 27 = .ok (.invokevirtual 186, 3) := by decide +kernel
theorem dX11_comesBack_30 : decode cX11_comesBack 30 = .ok (.ireturn, 1) := by decide +kernel
theorem dX11_roundOf_0 : decode cX11_roundOf 0 = .ok (.aload_n 0, 1) := by decide +kernel
theorem dX11_roundOf_1 : decode cX11_roundOf 1 = .ok (.aload_n 0, 1) := by decide +kernel
theorem dX11_roundOf_2 : decode cX11_roundOf 2 = .ok (.getfield 17, 3) := by decide +kernel
theorem dX11_roundOf_5 : decode cX11_roundOf 5 = .ok (.iload_n 1, 1) := by decide +kernel
theorem dX11_roundOf_6 : decode cX11_roundOf 6 = .ok (.iaload, 1) := by decide +kernel
theorem dX11_roundOf_7 : decode cX11_roundOf 7 = .ok (.invokevirtual 164, 3) := by decide +kernel
theorem dX11_roundOf_10 : decode cX11_roundOf 10 = .ok (.lconst 1, 1) := by decide +kernel
theorem dX11_roundOf_11 : decode cX11_roundOf 11 = .ok (.lstore_n 2, 1) := by decide +kernel
theorem dX11_roundOf_12 : decode cX11_roundOf 12 = .ok (.iconst 0, 1) := by decide +kernel
theorem dX11_roundOf_13 : decode cX11_roundOf 13 = .ok (.istore 4, 2) := by decide +kernel
theorem dX11_roundOf_15 : decode cX11_roundOf 15 = .ok (.iload 4, 2) := by decide +kernel
theorem dX11_roundOf_17 : decode cX11_roundOf 17 = .ok (.aload_n 0, 1) := by decide +kernel
theorem dX11_roundOf_18 : decode cX11_roundOf 18 = .ok (.getfield 158, 3) := by decide +kernel
theorem dX11_roundOf_21 : decode cX11_roundOf 21 = .ok (.if_icmp .ge 94, 3) := by decide +kernel
theorem dX11_roundOf_24 : decode cX11_roundOf 24 = .ok (.aload_n 0, 1) := by decide +kernel
theorem dX11_roundOf_25 : decode cX11_roundOf 25 = .ok (.getfield 57, 3) := by decide +kernel
theorem dX11_roundOf_28 : decode cX11_roundOf 28 = .ok (.iload 4, 2) := by decide +kernel
theorem dX11_roundOf_30 : decode cX11_roundOf 30 = .ok (.iaload, 1) := by decide +kernel
theorem dX11_roundOf_31 : decode cX11_roundOf 31 = .ok (.istore 5, 2) := by decide +kernel
theorem dX11_roundOf_33 : decode cX11_roundOf 33 = .ok (.aload_n 0, 1) := by decide +kernel
theorem dX11_roundOf_34 : decode cX11_roundOf 34 = .ok (.iload 4, 2) := by decide +kernel
theorem dX11_roundOf_36 : decode cX11_roundOf 36 = .ok (.invokevirtual 189, 3) := by decide +kernel
theorem dX11_roundOf_39 : decode cX11_roundOf 39 = .ok (.aload_n 0, 1) := by decide +kernel
theorem dX11_roundOf_40 : decode cX11_roundOf 40 = .ok (.iload_n 1, 1) := by decide +kernel
theorem dX11_roundOf_41 : decode cX11_roundOf 41 = .ok (.iload 5, 2) := by decide +kernel
theorem dX11_roundOf_43 : decode cX11_roundOf 43 = .ok (.invokevirtual 192, 3) := by decide +kernel
theorem dX11_roundOf_46 : decode cX11_roundOf 46 = .ok (.aload_n 0, 1) := by decide +kernel
theorem dX11_roundOf_47 : decode cX11_roundOf 47 = .ok (.getfield 176, 3) := by decide +kernel
theorem dX11_roundOf_50 : decode cX11_roundOf 50 = .ok (.lstore 6, 2) := by decide +kernel
theorem dX11_roundOf_52 : decode cX11_roundOf 52 = .ok (.iconst 0, 1) := by decide +kernel
theorem dX11_roundOf_53 : decode cX11_roundOf 53 = .ok (.istore 8, 2) := by decide +kernel
theorem dX11_roundOf_55 : decode cX11_roundOf 55 = .ok (.iload 8, 2) := by decide +kernel
theorem dX11_roundOf_57 : decode cX11_roundOf 57 = .ok (.aload_n 0, 1) := by decide +kernel
theorem dX11_roundOf_58 : decode cX11_roundOf 58 = .ok (.getfield 167, 3) := by decide +kernel
theorem dX11_roundOf_61 : decode cX11_roundOf 61 = .ok (.if_icmp .ge 41, 3) := by decide +kernel
theorem dX11_roundOf_64 : decode cX11_roundOf 64 = .ok (.aload_n 0, 1) := by decide +kernel
theorem dX11_roundOf_65 : decode cX11_roundOf 65 = .ok (.iload_n 1, 1) := by decide +kernel
theorem dX11_roundOf_66 : decode cX11_roundOf 66 = .ok (.lload 6, 2) := by decide +kernel
theorem dX11_roundOf_68 : decode cX11_roundOf 68 = .ok (.aload_n 0, 1) := by decide +kernel
theorem dX11_roundOf_69 : decode cX11_roundOf 69 = .ok (.getfield 63, 3) := by decide +kernel
theorem dX11_roundOf_72 : decode cX11_roundOf 72 = .ok (.iload 8, 2) := by decide +kernel
theorem dX11_roundOf_74 : decode cX11_roundOf 74 = .ok (.laload, 1) := by decide +kernel
theorem dX11_roundOf_75 : decode cX11_roundOf 75 = .ok (.ldiv, 1) := by decide +kernel
theorem dX11_roundOf_76 : decode cX11_roundOf 76 = .ok (.iload 5, 2) := by decide +kernel
theorem dX11_roundOf_78 : decode cX11_roundOf 78 = .ok (.invokevirtual 195, 3) := by decide +kernel
theorem dX11_roundOf_81 : decode cX11_roundOf 81 = .ok (.ifCond .eq 15, 3) := by decide +kernel
theorem dX11_roundOf_84 : decode cX11_roundOf 84 = .ok (.lload 6, 2) := by decide +kernel
theorem dX11_roundOf_86 : decode cX11_roundOf 86 = .ok (.aload_n 0, 1) := by decide +kernel
theorem dX11_roundOf_87 : decode cX11_roundOf 87 = .ok (.getfield 63, 3) := by decide +kernel
theorem dX11_roundOf_90 : decode cX11_roundOf 90 = .ok (.iload 8, 2) := by decide +kernel
theorem dX11_roundOf_92 : decode cX11_roundOf 92 = .ok (.laload, 1) := by decide +kernel
theorem dX11_roundOf_93 : decode cX11_roundOf 93 = .ok (.ldiv, 1) := by decide +kernel
theorem dX11_roundOf_94 : decode cX11_roundOf 94 = .ok (.lstore 6, 2) := by decide +kernel
theorem dX11_roundOf_96 : decode cX11_roundOf 96 = .ok (.iinc 8 1, 3) := by decide +kernel
theorem dX11_roundOf_99 : decode cX11_roundOf 99 = .ok (.goto (-44), 3) := by decide +kernel
theorem dX11_roundOf_102 : decode cX11_roundOf 102 = .ok (.lload_n 2, 1) := by decide +kernel
theorem dX11_roundOf_103 : decode cX11_roundOf 103 = .ok (.lload 6, 2) := by decide +kernel
theorem dX11_roundOf_105 : decode cX11_roundOf 105 = .ok (.invokestatic 199, 3) := by decide +kernel
theorem dX11_roundOf_108 : decode cX11_roundOf 108 = .ok (.lstore_n 2, 1) := by decide +kernel
theorem dX11_roundOf_109 : decode cX11_roundOf 109 = .ok (.iinc 4 1, 3) := by decide +kernel
theorem dX11_roundOf_112 : decode cX11_roundOf 112 = .ok (.goto (-97), 3) := by decide +kernel
theorem dX11_roundOf_115 : decode cX11_roundOf 115 = .ok (.lload_n 2, 1) := by decide +kernel
theorem dX11_roundOf_116 : decode cX11_roundOf 116 = .ok (.lreturn, 1) := by decide +kernel
theorem dX11_round_0 : decode cX11_round 0 = .ok (.aload_n 0, 1) := by decide +kernel
theorem dX11_round_1 : decode cX11_round 1 = .ok (.iconst 0, 1) := by decide +kernel
theorem dX11_round_2 : decode cX11_round 2 = .ok (.putfield 104, 3) := by decide +kernel
theorem dX11_round_5 : decode cX11_round 5 = .ok (.aload_n 0, 1) := by decide +kernel
theorem dX11_round_6 : decode cX11_round 6 = .ok (.iload_n 1, 1) := by decide +kernel
theorem dX11_round_7 : decode cX11_round 7 = .ok (.invokevirtual 108, 3) := by decide +kernel
theorem dX11_round_10 : decode cX11_round 10 = .ok (.ifCond .eq 11, 3) := by decide +kernel
theorem dX11_round_13 : decode cX11_round 13 = .ok (.aload_n 0, 1) := by decide +kernel
theorem dX11_round_14 : decode cX11_round 14 = .ok (.iload_n 1, 1) := by decide +kernel
theorem dX11_round_15 : decode cX11_round 15 = .ok (.invokevirtual 202, 3) := by decide +kernel
theorem dX11_round_18 : decode cX11_round 18 = .ok (.goto 6, 3) := by decide +kernel
theorem dX11_round_21 : decode cX11_round 21 = .ok (.ldc2_w 206, 3) := by decide +kernel
theorem dX11_round_24 : decode cX11_round 24 = .ok (.lreturn, 1) := by decide +kernel
theorem dX11_tail_0 : decode cX11_tail 0 = .ok (.aload_n 0, 1) := by decide +kernel
theorem dX11_tail_1 : decode cX11_tail 1 = .ok (.iconst 0, 1) := by decide +kernel
theorem dX11_tail_2 : decode cX11_tail 2 = .ok (.putfield 104, 3) := by decide +kernel
theorem dX11_tail_5 : decode cX11_tail 5 = .ok (.aload_n 0, 1) := by decide +kernel
theorem dX11_tail_6 : decode cX11_tail 6 = .ok (.iload_n 1, 1) := by decide +kernel
theorem dX11_tail_7 : decode cX11_tail 7 = .ok (.invokevirtual 108, 3) := by decide +kernel
theorem dX11_tail_10 : decode cX11_tail 10 = .ok (.ifCond .ne 5, 3) := by decide +kernel
theorem dX11_tail_13 : decode cX11_tail 13 = .ok (.iconst (-1), 1) := by decide +kernel
theorem dX11_tail_14 : decode cX11_tail 14 = .ok (.ireturn, 1) := by decide +kernel
theorem dX11_tail_15 : decode cX11_tail 15 = .ok (.aload_n 0, 1) := by decide +kernel
theorem dX11_tail_16 : decode cX11_tail 16 = .ok (.iload_n 1, 1) := by decide +kernel
theorem dX11_tail_17 : decode cX11_tail 17 = .ok (.invokevirtual 202, 3) := by decide +kernel
theorem dX11_tail_20 : decode cX11_tail 20 = .ok (.lstore_n 2, 1) := by decide +kernel
theorem dX11_tail_21 : decode cX11_tail 21 = .ok (.aload_n 0, 1) := by decide +kernel
theorem dX11_tail_22 : decode cX11_tail 22 = .ok (.getfield 17, 3) := by decide +kernel
theorem dX11_tail_25 : decode cX11_tail 25 = .ok (.iload_n 1, 1) := by decide +kernel
theorem dX11_tail_26 : decode cX11_tail 26 = .ok (.iaload, 1) := by decide +kernel
theorem dX11_tail_27 : decode cX11_tail 27 = .ok (.istore 4, 2) := by decide +kernel
theorem dX11_tail_29 : decode cX11_tail 29 = .ok (.aload_n 0, 1) := by decide +kernel
theorem dX11_tail_30 : decode cX11_tail 30 = .ok (.getfield 20, 3) := by decide +kernel
theorem dX11_tail_33 : decode cX11_tail 33 = .ok (.iload_n 1, 1) := by decide +kernel
theorem dX11_tail_34 : decode cX11_tail 34 = .ok (.iaload, 1) := by decide +kernel
theorem dX11_tail_35 : decode cX11_tail 35 = .ok (.istore 5, 2) := by decide +kernel
theorem dX11_tail_37 : decode cX11_tail 37 = .ok (.aload_n 0, 1) := by decide +kernel
theorem dX11_tail_38 : decode cX11_tail 38 = .ok (.iload_n 1, 1) := by decide +kernel
theorem dX11_tail_39 : decode cX11_tail 39 = .ok (.iload 4, 2) := by decide +kernel
theorem dX11_tail_41 : decode cX11_tail 41 = .ok (.invokevirtual 137, 3) := by decide +kernel
theorem dX11_tail_44 : decode cX11_tail 44 = .ok (.iconst 0, 1) := by decide +kernel
theorem dX11_tail_45 : decode cX11_tail 45 = .ok (.istore 6, 2) := by decide +kernel
theorem dX11_tail_47 : decode cX11_tail 47 = .ok (.aload_n 0, 1) := by decide +kernel
theorem dX11_tail_48 : decode cX11_tail 48 = .ok (.iload_n 1, 1) := by decide +kernel
theorem dX11_tail_49 : decode cX11_tail 49 = .ok (.lload_n 2, 1) := by decide +kernel
theorem dX11_tail_50 : decode cX11_tail 50 = .ok (.iload 4, 2) := by decide +kernel
theorem dX11_tail_52 : decode cX11_tail 52 = .ok (.invokevirtual 195, 3) := by decide +kernel
theorem dX11_tail_55 : decode cX11_tail 55 = .ok (.ifCond .ne 31, 3) := by decide +kernel
theorem dX11_tail_58 : decode cX11_tail 58 = .ok (.aload_n 0, 1) := by decide +kernel
theorem dX11_tail_59 : decode cX11_tail 59 = .ok (.iload_n 1, 1) := by decide +kernel
theorem dX11_tail_60 : decode cX11_tail 60 = .ok (.lconst 1, 1) := by decide +kernel
theorem dX11_tail_61 : decode cX11_tail 61 = .ok (.iload 4, 2) := by decide +kernel
theorem dX11_tail_63 : decode cX11_tail 63 = .ok (.invokevirtual 133, 3) := by decide +kernel
theorem dX11_tail_66 : decode cX11_tail 66 = .ok (.aload_n 0, 1) := by decide +kernel
theorem dX11_tail_67 : decode cX11_tail 67 = .ok (.iload 5, 2) := by decide +kernel
theorem dX11_tail_69 : decode cX11_tail 69 = .ok (.iload 4, 2) := by decide +kernel
theorem dX11_tail_71 : decode cX11_tail 71 = .ok (.invokevirtual 140, 3) := by decide +kernel
theorem dX11_tail_74 : decode cX11_tail 74 = .ok (.aload_n 0, 1) := by decide +kernel
theorem dX11_tail_75 : decode cX11_tail 75 = .ok (.iload 5, 2) := by decide +kernel
theorem dX11_tail_77 : decode cX11_tail 77 = .ok (.invokevirtual 143, 3) := by decide +kernel
theorem dX11_tail_80 : decode cX11_tail 80 = .ok (.iinc 6 1, 3) := by decide +kernel
theorem dX11_tail_83 : decode cX11_tail 83 = .ok (.goto (-36), 3) := by decide +kernel
theorem dX11_tail_86 : decode cX11_tail 86 = .ok (.iload 6, 2) := by decide +kernel
theorem dX11_tail_88 : decode cX11_tail 88 = .ok (.ireturn, 1) := by decide +kernel
theorem dX11_isStill_0 : decode cX11_isStill 0 = .ok (.aload_n 0, 1) := by decide +kernel
theorem dX11_isStill_1 : decode cX11_isStill 1 = .ok (.iload_n 1, 1) := by decide +kernel
theorem dX11_isStill_2 : decode cX11_isStill 2 = .ok (.lload_n 2, 1) := by decide +kernel
theorem dX11_isStill_3 : decode cX11_isStill 3 = .ok (.iload 4, 2) := by decide +kernel
theorem dX11_isStill_5 : decode cX11_isStill 5 = .ok (.invokevirtual 133, 3) := by decide +kernel
theorem dX11_isStill_8 : decode cX11_isStill 8 = .ok (.iconst 0, 1) := by decide +kernel
theorem dX11_isStill_9 : decode cX11_isStill 9 = .ok (.istore 5, 2) := by decide +kernel
theorem dX11_isStill_11 : decode cX11_isStill 11 = .ok (.iload 5, 2) := by decide +kernel
theorem dX11_isStill_13 : decode cX11_isStill 13 = .ok (.aload_n 0, 1) := by decide +kernel
theorem dX11_isStill_14 : decode cX11_isStill 14 = .ok (.getfield 120, 3) := by decide +kernel
theorem dX11_isStill_17 : decode cX11_isStill 17 = .ok (.if_icmp .ge 56, 3) := by decide +kernel
theorem dX11_isStill_20 : decode cX11_isStill 20 = .ok (.iconst 0, 1) := by decide +kernel
theorem dX11_isStill_21 : decode cX11_isStill 21 = .ok (.istore 6, 2) := by decide +kernel
theorem dX11_isStill_23 : decode cX11_isStill 23 = .ok (.iload 6, 2) := by decide +kernel
theorem dX11_isStill_25 : decode cX11_isStill 25 = .ok (.aload_n 0, 1) := by decide +kernel
theorem dX11_isStill_26 : decode cX11_isStill 26 = .ok (.getfield 120, 3) := by decide +kernel
theorem dX11_isStill_29 : decode cX11_isStill 29 = .ok (.if_icmp .ge 38, 3) := by decide +kernel
theorem dX11_isStill_32 : decode cX11_isStill 32 = .ok (.aload_n 0, 1) := by decide +kernel
theorem dX11_isStill_33 : decode cX11_isStill 33 = .ok (.getfield 42, 3) := by decide +kernel
theorem dX11_isStill_36 : decode cX11_isStill 36 = .ok (.iconst 5, 1) := by decide +kernel
theorem dX11_isStill_37 : decode cX11_isStill 37 = .ok (.iload 5, 2) := by decide +kernel
theorem dX11_isStill_39 : decode cX11_isStill 39 = .ok (.imul, 1) := by decide +kernel
theorem dX11_isStill_40 : decode cX11_isStill 40 = .ok (.iload 6, 2) := by decide +kernel
theorem dX11_isStill_42 : decode cX11_isStill 42 = .ok (.iadd, 1) := by decide +kernel
theorem dX11_isStill_43 : decode cX11_isStill 43 = .ok (.iaload, 1) := by decide +kernel
theorem dX11_isStill_44 : decode cX11_isStill 44 = .ok (.iload 5, 2) := by decide +kernel
theorem dX11_isStill_46 : decode cX11_isStill 46 = .ok (.iload 6, 2) := by decide +kernel
theorem dX11_isStill_48 : decode cX11_isStill 48 = .ok (.if_icmp .ne 7, 3) := by decide +kernel
theorem dX11_isStill_51 : decode cX11_isStill 51 = .ok (.iconst 1, 1) := by decide +kernel
theorem dX11_isStill_52 : decode cX11_isStill 52 = .ok (.goto 4, 3) := by decide +kernel
theorem dX11_isStill_55 : decode cX11_isStill 55 = .ok (.iconst 0, 1) := by decide +kernel
theorem dX11_isStill_56 : decode cX11_isStill 56 = .ok (.if_icmp .eq 5, 3) := by decide +kernel
theorem dX11_isStill_59 : decode cX11_isStill 59 = .ok (.iconst 0, 1) := by decide +kernel
