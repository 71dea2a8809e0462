theorem dX11_init_0 : decode cX11_init 0 = .ok (.aload_n 0, 1) := by decide +kernel
theorem dX11_init_1 : decode cX11_init 1 = .ok (.invokespecial 1, 3) := by decide +kernel
theorem dX11_init_4 : decode cX11_init 4 = .ok (.aload_n 0, 1) := by decide +kernel
theorem dX11_init_5 : decode cX11_init 5 = .ok (.bipush 6, 2) := by decide +kernel
theorem dX11_init_7 : decode cX11_init 7 = .ok (.newarray .boolean, 2) := by decide +kernel
theorem dX11_init_9 : decode cX11_init 9 = .ok (.putfield 7, 3) := by decide +kernel
theorem dX11_init_12 : decode cX11_init 12 = .ok (.aload_n 0, 1) := by decide +kernel
theorem dX11_init_13 : decode cX11_init 13 = .ok (.bipush 6, 2) := by decide +kernel
theorem dX11_init_15 : decode cX11_init 15 = .ok (.newarray .int, 2) := by decide +kernel
theorem dX11_init_17 : decode cX11_init 17 = .ok (.putfield 13, 3) := by decide +kernel
theorem dX11_init_20 : decode cX11_init 20 = .ok (.aload_n 0, 1) := by decide +kernel
theorem dX11_init_21 : decode cX11_init 21 = .ok (.bipush 6, 2) := by decide +kernel
theorem dX11_init_23 : decode cX11_init 23 = .ok (.newarray .int, 2) := by decide +kernel
theorem dX11_init_25 : decode cX11_init 25 = .ok (.putfield 17, 3) := by decide +kernel
theorem dX11_init_28 : decode cX11_init 28 = .ok (.aload_n 0, 1) := by decide +kernel
theorem dX11_init_29 : decode cX11_init 29 = .ok (.bipush 6, 2) := by decide +kernel
theorem dX11_init_31 : decode cX11_init 31 = .ok (.newarray .int, 2) := by decide +kernel
theorem dX11_init_33 : decode cX11_init 33 = .ok (.putfield 20, 3) := by decide +kernel
theorem dX11_init_36 : decode cX11_init 36 = .ok (.aload_n 0, 1) := by decide +kernel
theorem dX11_init_37 : decode cX11_init 37 = .ok (.bipush 96, 2) := by decide +kernel
theorem dX11_init_39 : decode cX11_init 39 = .ok (.newarray .int, 2) := by decide +kernel
theorem dX11_init_41 : decode cX11_init 41 = .ok (.putfield 23, 3) := by decide +kernel
theorem dX11_init_44 : decode cX11_init 44 = .ok (.aload_n 0, 1) := by decide +kernel
theorem dX11_init_45 : decode cX11_init 45 = .ok (.bipush 24, 2) := by decide +kernel
theorem dX11_init_47 : decode cX11_init 47 = .ok (.newarray .int, 2) := by decide +kernel
theorem dX11_init_49 : decode cX11_init 49 = .ok (.putfield 26, 3) := by decide +kernel
theorem dX11_init_52 : decode cX11_init 52 = .ok (.aload_n 0, 1) := by decide +kernel
theorem dX11_init_53 : decode cX11_init 53 = .ok (.bipush 24, 2) := by decide +kernel
theorem dX11_init_55 : decode cX11_init 55 = .ok (.newarray .int, 2) := by decide +kernel
theorem dX11_init_57 : decode cX11_init 57 = .ok (.putfield 29, 3) := by decide +kernel
theorem dX11_init_60 : decode cX11_init 60 = .ok (.aload_n 0, 1) := by decide +kernel
theorem dX11_init_61 : decode cX11_init 61 = .ok (.sipush 24576, 3) := by decide +kernel
theorem dX11_init_64 : decode cX11_init 64 = .ok (.newarray .byte, 2) := by decide +kernel
theorem dX11_init_66 : decode cX11_init 66 = .ok (.putfield 32, 3) := by decide +kernel
theorem dX11_init_69 : decode cX11_init 69 = .ok (.aload_n 0, 1) := by decide +kernel
theorem dX11_init_70 : decode cX11_init 70 = .ok (.sipush 4096, 3) := by decide +kernel
theorem dX11_init_73 : decode cX11_init 73 = .ok (.newarray .byte, 2) := by decide +kernel
theorem dX11_init_75 : decode cX11_init 75 = .ok (.putfield 36, 3) := by decide +kernel
theorem dX11_init_78 : decode cX11_init 78 = .ok (.aload_n 0, 1) := by decide +kernel
theorem dX11_init_79 : decode cX11_init 79 = .ok (.bipush 25, 2) := by decide +kernel
theorem dX11_init_81 : decode cX11_init 81 = .ok (.newarray .int, 2) := by decide +kernel
theorem dX11_init_83 : decode cX11_init 83 = .ok (.putfield 39, 3) := by decide +kernel
theorem dX11_init_86 : decode cX11_init 86 = .ok (.aload_n 0, 1) := by decide +kernel
theorem dX11_init_87 : decode cX11_init 87 = .ok (.bipush 25, 2) := by decide +kernel
theorem dX11_init_89 : decode cX11_init 89 = .ok (.newarray .int, 2) := by decide +kernel
theorem dX11_init_91 : decode cX11_init 91 = .ok (.putfield 42, 3) := by decide +kernel
theorem dX11_init_94 : decode cX11_init 94 = .ok (.aload_n 0, 1) := by decide +kernel
theorem dX11_init_95 : decode cX11_init 95 = .ok (.bipush 25, 2) := by decide +kernel
theorem dX11_init_97 : decode cX11_init 97 = .ok (.newarray .int, 2) := by decide +kernel
theorem dX11_init_99 : decode cX11_init 99 = .ok (.putfield 45, 3) := by decide +kernel
theorem dX11_init_102 : decode cX11_init 102 = .ok (.aload_n 0, 1) := by decide +kernel
theorem dX11_init_103 : decode cX11_init 103 = .ok (.iconst 4, 1) := by decide +kernel
theorem dX11_init_104 : decode cX11_init 104 = .ok (.newarray .int, 2) := by decide +kernel
theorem dX11_init_106 : decode cX11_init 106 = .ok (.putfield 48, 3) := by decide +kernel
theorem dX11_init_109 : decode cX11_init 109 = .ok (.aload_n 0, 1) := by decide +kernel
theorem dX11_init_110 : decode cX11_init 110 = .ok (.iconst 4, 1) := by decide +kernel
theorem dX11_init_111 : decode cX11_init 111 = .ok (.newarray .int, 2) := by decide +kernel
theorem dX11_init_113 : decode cX11_init 113 = .ok (.putfield 51, 3) := by decide +kernel
theorem dX11_init_116 : decode cX11_init 116 = .ok (.aload_n 0, 1) := by decide +kernel
theorem dX11_init_117 : decode cX11_init 117 = .ok (.iconst 5, 1) := by decide +kernel
theorem dX11_init_118 : decode cX11_init 118 = .ok (.newarray .int, 2) := by decide +kernel
theorem dX11_init_120 : decode cX11_init 120 = .ok (.putfield 54, 3) := by decide +kernel
theorem dX11_init_123 : decode cX11_init 123 = .ok (.aload_n 0, 1) := by decide +kernel
theorem dX11_init_124 : decode cX11_init 124 = .ok (.iconst 5, 1) := by decide +kernel
theorem dX11_init_125 : decode cX11_init 125 = .ok (.newarray .int, 2) := by decide +kernel
theorem dX11_init_127 : decode cX11_init 127 = .ok (.putfield 57, 3) := by decide +kernel
theorem dX11_init_130 : decode cX11_init 130 = .ok (.aload_n 0, 1) := by decide +kernel
theorem dX11_init_131 : decode cX11_init 131 = .ok (.iconst 5, 1) := by decide +kernel
theorem dX11_init_132 : decode cX11_init 132 = .ok (.newarray .int, 2) := by decide +kernel
theorem dX11_init_134 : decode cX11_init 134 = .ok (.putfield 60, 3) := by decide +kernel
theorem dX11_init_137 : decode cX11_init 137 = .ok (.aload_n 0, 1) := by decide +kernel
theorem dX11_init_138 : decode cX11_init 138 = .ok (.bipush 70, 2) := by decide +kernel
theorem dX11_init_140 : decode cX11_init 140 = .ok (.newarray .long, 2) := by decide +kernel
theorem dX11_init_142 : decode cX11_init 142 = .ok (.putfield 63, 3) := by decide +kernel
theorem dX11_init_145 : decode cX11_init 145 = .ok (.aload_n 0, 1) := by decide +kernel
theorem dX11_init_146 : decode cX11_init 146 = .ok (.bipush 20, 2) := by decide +kernel
theorem dX11_init_148 : decode cX11_init 148 = .ok (.newarray .int, 2) := by decide +kernel
theorem dX11_init_150 : decode cX11_init 150 = .ok (.putfield 67, 3) := by decide +kernel
theorem dX11_init_153 : decode cX11_init 153 = .ok (.aload_n 0, 1) := by decide +kernel
theorem dX11_init_154 : decode cX11_init 154 = .ok (.iconst 4, 1) := by decide +kernel
theorem dX11_init_155 : decode cX11_init 155 = .ok (.newarray .boolean, 2) := by decide +kernel
theorem dX11_init_157 : decode cX11_init 157 = .ok (.putfield 70, 3) := by decide +kernel
theorem dX11_init_160 : decode cX11_init 160 = .ok (.aload_n 0, 1) := by decide +kernel
theorem dX11_init_161 : decode cX11_init 161 = .ok (.iconst 4, 1) := by decide +kernel
theorem dX11_init_162 : decode cX11_init 162 = .ok (.newarray .boolean, 2) := by decide +kernel
theorem dX11_init_164 : decode cX11_init 164 = .ok (.putfield 73, 3) := by decide +kernel
theorem dX11_init_167 : decode cX11_init 167 = .ok (.aload_n 0, 1) := by decide +kernel
theorem dX11_init_168 : decode cX11_init 168 = .ok (.bipush 16, 2) := by decide +kernel
theorem dX11_init_170 : decode cX11_init 170 = .ok (.newarray .long, 2) := by decide +kernel
theorem dX11_init_172 : decode cX11_init 172 = .ok (.putfield 76, 3) := by decide +kernel
theorem dX11_init_175 : decode cX11_init 175 = .ok (.aload_n 0, 1) := by decide +kernel
theorem dX11_init_176 : decode cX11_init 176 = .ok (.iconst 4, 1) := by decide +kernel
theorem dX11_init_177 : decode cX11_init 177 = .ok (.newarray .int, 2) := by decide +kernel
theorem dX11_init_179 : decode cX11_init 179 = .ok (.putfield 79, 3) := by decide +kernel
theorem dX11_init_182 : decode cX11_init 182 = .ok (.aload_n 0, 1) := by decide +kernel
theorem dX11_init_183 : decode cX11_init 183 = .ok (.sipush 4096, 3) := by decide +kernel
theorem dX11_init_186 : decode cX11_init 186 = .ok (.newarray .int, 2) := by decide +kernel
theorem dX11_init_188 : decode cX11_init 188 = .ok (.putfield 82, 3) := by decide +kernel
theorem dX11_init_191 : decode cX11_init 191 = .ok (.aload_n 0, 1) := by decide +kernel
theorem dX11_init_192 : decode cX11_init 192 = .ok (.sipush 4096, 3) := by decide +kernel
theorem dX11_init_195 : decode cX11_init 195 = .ok (.newarray .boolean, 2) := by decide +kernel
theorem dX11_init_197 : decode cX11_init 197 = .ok (.putfield 85, 3) := by decide +kernel
theorem dX11_init_200 : decode cX11_init 200 = .ok (.aload_n 0, 1) := by decide +kernel
theorem dX11_init_201 : decode cX11_init 201 = .ok (.bipush 64, 2) := by decide +kernel
theorem dX11_init_203 : decode cX11_init 203 = .ok (.newarray .int, 2) := by decide +kernel
theorem dX11_init_205 : decode cX11_init 205 = .ok (.putfield 88, 3) := by decide +kernel
theorem dX11_init_208 : decode cX11_init 208 = .ok (.aload_n 0, 1) := by decide +kernel
theorem dX11_init_209 : decode cX11_init 209 = .ok (.sipush 4160, 3) := by decide +kernel
theorem dX11_init_212 : decode cX11_init 212 = .ok (.newarray .int, 2) := by decide +kernel
theorem dX11_init_214 : decode cX11_init 214 = .ok (.putfield 91, 3) := by decide +kernel
theorem dX11_init_217 : decode cX11_init 217 = .ok (.aload_n 0, 1) := by decide +kernel
theorem dX11_init_218 : decode cX11_init 218 = .ok (.bipush 65, 2) := by decide +kernel
theorem dX11_init_220 : decode cX11_init 220 = .ok (.newarray .int, 2) := by decide +kernel
theorem dX11_init_222 : decode cX11_init 222 = .ok (.putfield 94, 3) := by decide +kernel
theorem dX11_init_225 : decode cX11_init 225 = .ok (.aload_n 0, 1) := by decide +kernel
theorem dX11_init_226 : decode cX11_init 226 = .ok (.bipush 65, 2) := by decide +kernel
theorem dX11_init_228 : decode cX11_init 228 = .ok (.newarray .int, 2) := by decide +kernel
theorem dX11_init_230 : decode cX11_init 230 = .ok (.putfield 97, 3) := by decide +kernel
theorem dX11_init_233 : decode cX11_init 233 = .ok (.aload_n 0, 1) := by decide +kernel
theorem dX11_init_234 : decode cX11_init 234 = .ok (.iconst 2, 1) := by decide +kernel
theorem dX11_init_235 : decode cX11_init 235 = .ok (.invokevirtual 100, 3) := by decide +kernel
theorem dX11_init_238 : decode cX11_init 238 = .ok (.return_, 1) := by decide +kernel
theorem dX11_isMill_0 : decode cX11_isMill 0 = .ok (.iload_n 1, 1) := by decide +kernel
theorem dX11_isMill_1 : decode cX11_isMill 1 = .ok (.ifCond .lt 22, 3) := by decide +kernel
theorem dX11_isMill_4 : decode cX11_isMill 4 = .ok (.iload_n 1, 1) := by decide +kernel
theorem dX11_isMill_5 : decode cX11_isMill 5 = .ok (.bipush 6, 2) := by decide +kernel
theorem dX11_isMill_7 : decode cX11_isMill 7 = .ok (.if_icmp .ge 16, 3) := by decide +kernel
theorem dX11_isMill_10 : decode cX11_isMill 10 = .ok (.aload_n 0, 1) := by decide +kernel
theorem dX11_isMill_11 : decode cX11_isMill 11 = .ok (.getfield 7, 3) := by decide +kernel
theorem dX11_isMill_14 : decode cX11_isMill 14 = .ok (.iload_n 1, 1) := by decide +kernel
theorem dX11_isMill_15 : decode cX11_isMill 15 = .ok (.baload, 1) := by decide +kernel
theorem dX11_isMill_16 : decode cX11_isMill 16 = .ok (.ifCond .eq 7, 3) := by decide +kernel
theorem dX11_isMill_19 : decode cX11_isMill 19 = .ok (.iconst 1, 1) := by decide +kernel
theorem dX11_isMill_20 : decode cX11_isMill 20 = .ok (.goto 4, 3) := by decide +kernel
theorem dX11_isMill_23 : decode cX11_isMill 23 = .ok (.iconst 0, 1) := by decide +kernel
theorem dX11_isMill_24 : decode cX11_isMill 24 = .ok (.ireturn, 1) := by decide +kernel
theorem dX11_restOf_0 : decode cX11_restOf 0 = .ok (.lload_n 0, 1) := by decide +kernel
theorem dX11_restOf_1 : decode cX11_restOf 1 = .ok (.iload_n 2, 1) := by decide +kernel
theorem dX11_restOf_2 : decode cX11_restOf 2 = .ok (.i2l, 1) := by decide +kernel
theorem dX11_restOf_3 : decode cX11_restOf 3 = .ok (.lrem, 1) := by decide +kernel
theorem dX11_restOf_4 : decode cX11_restOf 4 = .ok (.lstore_n 3, 1) := by decide +kernel
theorem dX11_restOf_5 : decode cX11_restOf 5 = .ok (.lload_n 3, 1) := by decide +kernel
theorem dX11_restOf_6 : decode cX11_restOf 6 = .ok (.lconst 0, 1) := by decide +kernel
theorem dX11_restOf_7 : decode cX11_restOf 7 = .ok (.lcmp, 1) := by decide +kernel
theorem dX11_restOf_8 : decode cX11_restOf 8 = .ok (.ifCond .ge 10, 3) := by decide +kernel
theorem dX11_restOf_11 : decode cX11_restOf 11 = .ok (.lload_n 3, 1) := by decide +kernel
theorem dX11_restOf_12 : decode cX11_restOf 12 = .ok (.iload_n 2, 1) := by decide +kernel
theorem dX11_restOf_13 : decode cX11_restOf 13 = .ok (.i2l, 1) := by decide +kernel
theorem dX11_restOf_14 : decode cX11_restOf 14 = .ok (.ladd, 1) := by decide +kernel
theorem dX11_restOf_15 : decode cX11_restOf 15 = .ok (.goto 4, 3) := by decide +kernel
theorem dX11_restOf_18 : decode cX11_restOf 18 = .ok (.lload_n 3, 1) := by decide +kernel
theorem dX11_restOf_19 : decode cX11_restOf 19 = .ok (.l2i, 1) := by decide +kernel
theorem dX11_restOf_20 : decode cX11_restOf 20 = .ok (.ireturn, 1) := by decide +kernel
theorem dX11_mill_0 : decode cX11_mill 0 = .ok (.aload_n 0, 1) := by decide +kernel
theorem dX11_mill_1 : decode cX11_mill 1 = .ok (.iconst 0, 1) := by decide +kernel
theorem dX11_mill_2 : decode cX11_mill 2 = .ok (.putfield 104, 3) := by decide +kernel
theorem dX11_mill_5 : decode cX11_mill 5 = .ok (.iload_n 1, 1) := by decide +kernel
theorem dX11_mill_6 : decode cX11_mill 6 = .ok (.ifCond .lt 30, 3) := by decide +kernel
theorem dX11_mill_9 : decode cX11_mill 9 = .ok (.iload_n 1, 1) := by decide +kernel
theorem dX11_mill_10 : decode cX11_mill 10 = .ok (.iconst 3, 1) := by decide +kernel
theorem dX11_mill_11 : decode cX11_mill 11 = .ok (.if_icmp .gt 25, 3) := by decide +kernel
theorem dX11_mill_14 : decode cX11_mill 14 = .ok (.iload_n 2, 1) := by decide +kernel
theorem dX11_mill_15 : decode cX11_mill 15 = .ok (.iconst 2, 1) := by decide +kernel
theorem dX11_mill_16 : decode cX11_mill 16 = .ok (.if_icmp .lt 20, 3) := by decide +kernel
theorem dX11_mill_19 : decode cX11_mill 19 = .ok (.iload_n 2, 1) := by decide +kernel
theorem dX11_mill_20 : decode cX11_mill 20 = .ok (.sipush 500, 3) := by decide +kernel
theorem dX11_mill_23 : decode cX11_mill 23 = .ok (.if_icmp .gt 13, 3) := by decide +kernel
theorem dX11_mill_26 : decode cX11_mill 26 = .ok (.iload_n 3, 1) := by decide +kernel
theorem dX11_mill_27 : decode cX11_mill 27 = .ok (.iconst 1, 1) := by decide +kernel
theorem dX11_mill_28 : decode cX11_mill 28 = .ok (.if_icmp .lt 8, 3) := by decide +kernel
theorem dX11_mill_31 : decode cX11_mill 31 = .ok (.iload_n 3, 1) := by decide +kernel
theorem dX11_mill_32 : decode cX11_mill 32 = .ok (.iconst 4, 1) := by decide +kernel
theorem dX11_mill_33 : decode cX11_mill 33 = .ok (.if_icmp .le 5, 3) := by decide +kernel
theorem dX11_mill_36 : decode cX11_mill 36 = .ok (.iconst (-1), 1) := by decide +kernel
theorem dX11_mill_37 : decode cX11_mill 37 = .ok (.ireturn, 1) := by decide +kernel
theorem dX11_mill_38 : decode cX11_mill 38 = .ok (.iload_n 1, 1) := by decide +kernel
theorem dX11_mill_39 : decode cX11_mill 39 = .ok (.iconst 1, 1) := by decide +kernel
theorem dX11_mill_40 : decode cX11_mill 40 = .ok (.if_icmp .ne 8, 3) := by decide +kernel
theorem dX11_mill_43 : decode cX11_mill 43 = .ok (.iload_n 3, 1) := by decide +kernel
theorem dX11_mill_44 : decode cX11_mill 44 = .ok (.iconst 1, 1) := by decide +kernel
theorem dX11_mill_45 : decode cX11_mill 45 = .ok (.if_icmp .ne 19, 3) := by decide +kernel
theorem dX11_mill_48 : decode cX11_mill 48 = .ok (.iload_n 1, 1) := by decide +kernel
theorem dX11_mill_49 : decode cX11_mill 49 = .ok (.iconst 3, 1) := by decide +kernel
theorem dX11_mill_50 : decode cX11_mill 50 = .ok (.if_icmp .ne 16, 3) := by decide +kernel
theorem dX11_mill_53 : decode cX11_mill 53 = .ok (.iload_n 3, 1) := by decide +kernel
theorem dX11_mill_54 : decode cX11_mill 54 = .ok (.iconst 2, 1) := by decide +kernel
theorem dX11_mill_55 : decode cX11_mill 55 = .ok (.if_icmp .ne 9, 3) := by decide +kernel
theorem dX11_mill_58 : decode cX11_mill 58 = .ok (.iload_n 2, 1) := by decide +kernel
theorem dX11_mill_59 : decode cX11_mill 59 = .ok (.bipush 64, 2) := by decide +kernel
theorem dX11_mill_61 : decode cX11_mill 61 = .ok (.if_icmp .le 5, 3) := by decide +kernel
theorem dX11_mill_64 : decode cX11_mill 64 = .ok (.iconst (-1), 1) := by decide +kernel
theorem dX11_mill_65 : decode cX11_mill 65 = .ok (.ireturn, 1) := by decide +kernel
theorem dX11_mill_66 : decode cX11_mill 66 = .ok (.iconst 0, 1) := by decide +kernel
theorem dX11_mill_67 : decode cX11_mill 67 = .ok (.istore 4, 2) := by decide +kernel
theorem dX11_mill_69 : decode cX11_mill 69 = .ok (.iload 4, 2) := by decide +kernel
theorem dX11_mill_71 : decode cX11_mill 71 = .ok (.bipush 6, 2) := by decide +kernel
theorem dX11_mill_73 : decode cX11_mill 73 = .ok (.if_icmp .ge 19, 3) := by decide +kernel
theorem dX11_mill_76 : decode cX11_mill 76 = .ok (.aload_n 0, 1) := by decide +kernel
theorem dX11_mill_77 : decode cX11_mill 77 = .ok (.getfield 7, 3) := by decide +kernel
theorem dX11_mill_80 : decode cX11_mill 80 = .ok (.iload 4, 2) := by decide +kernel
theorem dX11_mill_82 : decode cX11_mill 82 = .ok (.baload, 1) := by decide +kernel
theorem dX11_mill_83 : decode cX11_mill 83 = .ok (.ifCond .eq 9, 3) := by decide +kernel
theorem dX11_mill_86 : decode cX11_mill 86 = .ok (.iinc 4 1, 3) := by decide +kernel
theorem dX11_mill_89 : decode cX11_mill 89 = .ok (.goto (-20), 3) := by decide +kernel
theorem dX11_mill_92 : decode cX11_mill 92 = .ok (.iload 4, 2) := by decide +kernel
theorem dX11_mill_94 : decode cX11_mill 94 = .ok (.bipush 6, 2) := by decide +kernel
theorem dX11_mill_96 : decode cX11_mill 96 = .ok (.if_icmp .ne 5, 3) := by decide +kernel
theorem dX11_mill_99 : decode cX11_mill 99 = .ok (.iconst (-1), 1) := by decide +kernel
theorem dX11_mill_100 : decode cX11_mill 100 = .ok (.ireturn, 1) := by decide +kernel
theorem dX11_mill_101 : decode cX11_mill 101 = .ok (.aload_n 0, 1) := by decide +kernel
theorem dX11_mill_102 : decode cX11_mill 102 = .ok (.getfield 7, 3) := by decide +kernel
theorem dX11_mill_105 : decode cX11_mill 105 = .ok (.iload 4, 2) := by decide +kernel
theorem dX11_mill_107 : decode cX11_mill 107 = .ok (.iconst 1, 1) := by decide +kernel
theorem dX11_mill_108 : decode cX11_mill 108 = .ok (.bastore, 1) := by decide +kernel
theorem dX11_mill_109 : decode cX11_mill 109 = .ok (.aload_n 0, 1) := by decide +kernel
theorem dX11_mill_110 : decode cX11_mill 110 = .ok (.getfield 13, 3) := by decide +kernel
theorem dX11_mill_113 : decode cX11_mill 113 = .ok (.iload 4, 2) := by decide +kernel
theorem dX11_mill_115 : decode cX11_mill 115 = .ok (.iload_n 1, 1) := by decide +kernel
theorem dX11_mill_116 : decode cX11_mill 116 = .ok (.iastore, 1) := by decide +kernel
theorem dX11_mill_117 : decode cX11_mill 117 = .ok (.aload_n 0, 1) := by decide +kernel
theorem dX11_mill_118 : decode cX11_mill 118 = .ok (.getfield 17, 3) := by decide +kernel
theorem dX11_mill_121 : decode cX11_mill 121 = .ok (.iload 4, 2) := by decide +kernel
theorem dX11_mill_123 : decode cX11_mill 123 = .ok (.iload_n 2, 1) := by decide +kernel
theorem dX11_mill_124 : decode cX11_mill 124 = .ok (.iastore, 1) := by decide +kernel
theorem dX11_mill_125 : decode cX11_mill 125 = .ok (.aload_n 0, 1) := by decide +kernel
theorem dX11_mill_126 : decode cX11_mill 126 = .ok (.getfield 20, 3) := by decide +kernel
theorem dX11_mill_129 : decode cX11_mill 129 = .ok (.iload 4, 2) := by decide +kernel
theorem dX11_mill_131 : decode cX11_mill 131 = .ok (.iload_n 3, 1) := by decide +kernel
theorem dX11_mill_132 : decode cX11_mill 132 = .ok (.iastore, 1) := by decide +kernel
theorem dX11_mill_133 : decode cX11_mill 133 = .ok (.iconst 0, 1) := by decide +kernel
theorem dX11_mill_134 : decode cX11_mill 134 = .ok (.istore 5, 2) := by decide +kernel
theorem dX11_mill_136 : decode cX11_mill 136 = .ok (.iload 5, 2) := by decide +kernel
theorem dX11_mill_138 : decode cX11_mill 138 = .ok (.bipush 16, 2) := by decide +kernel
theorem dX11_mill_140 : decode cX11_mill 140 = .ok (.if_icmp .ge 23, 3) := by decide +kernel
theorem dX11_mill_143 : decode cX11_mill 143 = .ok (.aload_n 0, 1) := by decide +kernel
theorem dX11_mill_144 : decode cX11_mill 144 = .ok (.getfield 23, 3) := by decide +kernel
theorem dX11_mill_147 : decode cX11_mill 147 = .ok (.bipush 16, 2) := by decide +kernel
theorem dX11_mill_149 : decode cX11_mill 149 = .ok (.iload 4, 2) := by decide +kernel
theorem dX11_mill_151 : decode cX11_mill 151 = .ok (.imul, 1) := by decide +kernel
theorem dX11_mill_152 : decode cX11_mill 152 = .ok (.iload 5, 2) := by decide +kernel
theorem dX11_mill_154 : decode cX11_mill 154 = .ok (.iadd, 1) := by decide +kernel
theorem dX11_mill_155 : decode cX11_mill 155 = .ok (.iconst 0, 1) := by decide +kernel
theorem dX11_mill_156 : decode cX11_mill 156 = .ok (.iastore, 1) := by decide +kernel
theorem dX11_mill_157 : decode cX11_mill 157 = .ok (.iinc 5 1, 3) := by decide +kernel
theorem dX11_mill_160 : decode cX11_mill 160 = .ok (.goto (-24), 3) := by decide +kernel
theorem dX11_mill_163 : decode cX11_mill 163 = .ok (.iconst 0, 1) := by decide +kernel
theorem dX11_mill_164 : decode cX11_mill 164 = .ok (.istore 5, 2) := by decide +kernel
theorem dX11_mill_166 : decode cX11_mill 166 = .ok (.iload 5, 2) := by decide +kernel
theorem dX11_mill_168 : decode cX11_mill 168 = .ok (.iconst 4, 1) := by decide +kernel
theorem dX11_mill_169 : decode cX11_mill 169 = .ok (.if_icmp .ge 35, 3) := by decide +kernel
theorem dX11_mill_172 : decode cX11_mill 172 = .ok (.aload_n 0, 1) := by decide +kernel
theorem dX11_mill_173 : decode cX11_mill 173 = .ok (.getfield 26, 3) := by decide +kernel
theorem dX11_mill_176 : decode cX11_mill 176 = .ok (.iconst 4, 1) := by decide +kernel
theorem dX11_mill_177 : decode cX11_mill 177 = .ok (.iload 4, 2) := by decide +kernel
theorem dX11_mill_179 : decode cX11_mill 179 = .ok (.imul, 1) := by decide +kernel
theorem dX11_mill_180 : decode cX11_mill 180 = .ok (.iload 5, 2) := by decide +kernel
theorem dX11_mill_182 : decode cX11_mill 182 = .ok (.iadd, 1) := by decide +kernel
theorem dX11_mill_183 : decode cX11_mill 183 = .ok (.iconst 0, 1) := by decide +kernel
theorem dX11_mill_184 : decode cX11_mill 184 = .ok (.iastore, 1) := by decide +kernel
theorem dX11_mill_185 : decode cX11_mill 185 = .ok (.aload_n 0, 1) := by decide +kernel
theorem dX11_mill_186 : decode cX11_mill 186 = .ok (.getfield 29, 3) := by decide +kernel
theorem dX11_mill_189 : decode cX11_mill 189 = .ok (.iconst 4, 1) := by decide +kernel
theorem dX11_mill_190 : decode cX11_mill 190 = .ok (.iload 4, 2) := by decide +kernel
theorem dX11_mill_192 : decode cX11_mill 192 = .ok (.imul, 1) := by decide +kernel
theorem dX11_mill_193 : decode cX11_mill 193 = .ok (.iload 5, 2) := by decide +kernel
theorem dX11_mill_195 : decode cX11_mill 195 = .ok (.iadd, 1) := by decide +kernel
theorem dX11_mill_196 : decode cX11_mill 196 = .ok (.iconst 0, 1) := by decide +kernel
theorem dX11_mill_197 : decode cX11_mill 197 = .ok (.iastore, 1) := by decide +kernel
theorem dX11_mill_198 : decode cX11_mill 198 = .ok (.iinc 5 1, 3) := by decide +kernel
theorem dX11_mill_201 : decode cX11_mill 201 = .ok (.goto (-35), 3) := by decide +kernel
theorem dX11_mill_204 : decode cX11_mill 204 = .ok (.iconst 0, 1) := by decide +kernel
theorem dX11_mill_205 : decode cX11_mill 205 = .ok (.istore 5, 2) := by decide +kernel
theorem dX11_mill_207 : decode cX11_mill 207 = .ok (.iload 5, 2) := by decide +kernel
theorem dX11_mill_209 : decode cX11_mill 209 = .ok (.sipush 4096, 3) := by decide +kernel
theorem dX11_mill_212 : decode cX11_mill 212 = .ok (.if_icmp .ge 24, 3) := by decide +kernel
theorem dX11_mill_215 : decode cX11_mill 215 = .ok (.aload_n 0, 1) := by decide +kernel
theorem dX11_mill_216 : decode cX11_mill 216 = .ok (.getfield 32, 3) := by decide +kernel
theorem dX11_mill_219 : decode cX11_mill 219 = .ok (.sipush 4096, 3) := by decide +kernel
theorem dX11_mill_222 : decode cX11_mill 222 = .ok (.iload 4, 2) := by decide +kernel
theorem dX11_mill_224 : decode cX11_mill 224 = .ok (.imul, 1) := by decide +kernel
theorem dX11_mill_225 : decode cX11_mill 225 = .ok (.iload 5, 2) := by decide +kernel
theorem dX11_mill_227 : decode cX11_mill 227 = .ok (.iadd, 1) := by decide +kernel
theorem dX11_mill_228 : decode cX11_mill 228 = .ok (.iconst 0, 1) := by decide +kernel
theorem dX11_mill_229 : decode cX11_mill 229 = .ok (.bastore, 1) := by decide +kernel
theorem dX11_mill_230 : decode cX11_mill 230 = .ok (.iinc 5 1, 3) := by decide +kernel
theorem dX11_mill_233 : decode cX11_mill 233 = .ok (.goto (-26), 3) := by decide +kernel
theorem dX11_mill_236 : decode cX11_mill 236 = .ok (.iconst 0, 1) := by decide +kernel
theorem dX11_mill_237 : decode cX11_mill 237 = .ok (.istore 5, 2) := by decide +kernel
theorem dX11_mill_239 : decode cX11_mill 239 = .ok (.iload 5, 2) := by decide +kernel
theorem dX11_mill_241 : decode cX11_mill 241 = .ok (.iconst 1, 1) := by decide +kernel
theorem dX11_mill_242 : decode cX11_mill 242 = .ok (.iadd, 1) := by decide +kernel
theorem dX11_mill_243 : decode cX11_mill 243 = .ok (.iload_n 3, 1) := by decide +kernel
theorem dX11_mill_244 : decode cX11_mill 244 = .ok (.if_icmp .ge 35, 3) := by decide +kernel
theorem dX11_mill_247 : decode cX11_mill 247 = .ok (.iload_n 1, 1) := by decide +kernel
theorem dX11_mill_248 : decode cX11_mill 248 = .ok (.iconst 2, 1) := by decide +kernel
theorem dX11_mill_249 : decode cX11_mill 249 = .ok (.if_icmp .ne 30, 3) := by decide +kernel
theorem dX11_mill_252 : decode cX11_mill 252 = .ok (.aload_n 0, 1) := by decide +kernel
theorem dX11_mill_253 : decode cX11_mill 253 = .ok (.getfield 23, 3) := by decide +kernel
theorem dX11_mill_256 : decode cX11_mill 256 = .ok (.bipush 16, 2) := by decide +kernel
theorem dX11_mill_258 : decode cX11_mill 258 = .ok (.iload 4, 2) := by decide +kernel
theorem dX11_mill_260 : decode cX11_mill 260 = .ok (.imul, 1) := by decide +kernel
theorem dX11_mill_261 : decode cX11_mill 261 = .ok (.iconst 4, 1) := by decide +kernel
theorem dX11_mill_262 : decode cX11_mill 262 = .ok (.iload 5, 2) := by decide +kernel
theorem dX11_mill_264 : decode cX11_mill 264 = .ok (.imul, 1) := by decide +kernel
theorem dX11_mill_265 : decode cX11_mill 265 = .ok (.iadd, 1) := by decide +kernel
theorem dX11_mill_266 : decode cX11_mill 266 = .ok (.iload 5, 2) := by decide +kernel
theorem dX11_mill_268 : decode cX11_mill 268 = .ok (.iadd, 1) := by decide +kernel
theorem dX11_mill_269 : decode cX11_mill 269 = .ok (.iconst 1, 1) := by decide +kernel
theorem dX11_mill_270 : decode cX11_mill 270 = .ok (.iadd, 1) := by decide +kernel
theorem dX11_mill_271 : decode cX11_mill 271 = .ok (.iconst 1, 1) := by decide +kernel
theorem dX11_mill_272 : decode cX11_mill 272 = .ok (.iastore, 1) := by decide +kernel
theorem dX11_mill_273 : decode cX11_mill 273 = .ok (.iinc 5 1, 3) := by decide +kernel
theorem dX11_mill_276 : decode cX11_mill 276 = .ok (.goto (-37), 3) := by decide +kernel
theorem dX11_mill_279 : decode cX11_mill 279 = .ok (.iload 4, 2) := by decide +kernel
theorem dX11_mill_281 : decode cX11_mill 281 = .ok (.ireturn, 1) := by decide +kernel
theorem dX11_drop_0 : decode cX11_drop 0 = .ok (.aload_n 0, 1) := by decide +kernel
theorem dX11_drop_1 : decode cX11_drop 1 = .ok (.iconst 0, 1) := by decide +kernel
theorem dX11_drop_2 : decode cX11_drop 2 = .ok (.putfield 104, 3) := by decide +kernel
theorem dX11_drop_5 : decode cX11_drop 5 = .ok (.aload_n 0, 1) := by decide +kernel
theorem dX11_drop_6 : decode cX11_drop 6 = .ok (.iload_n 1, 1) := by decide +kernel
theorem dX11_drop_7 : decode cX11_drop 7 = .ok (.invokevirtual 108, 3) := by decide +kernel
theorem dX11_drop_10 : decode cX11_drop 10 = .ok (.ifCond .ne 5, 3) := by decide +kernel
theorem dX11_drop_13 : decode cX11_drop 13 = .ok (.iconst 0, 1) := by decide +kernel
theorem dX11_drop_14 : decode cX11_drop 14 = .ok (.ireturn, 1) := by decide +kernel
theorem dX11_drop_15 : decode cX11_drop 15 = .ok (.aload_n 0, 1) := by decide +kernel
theorem dX11_drop_16 : decode cX11_drop 16 = .ok (.getfield 7, 3) := by decide +kernel
theorem dX11_drop_19 : decode cX11_drop 19 = .ok (.iload_n 1, 1) := by decide +kernel
theorem dX11_drop_20 : decode cX11_drop 20 = .ok (.iconst 0, 1) := by decide +kernel
theorem dX11_drop_21 : decode cX11_drop 21 = .ok (.bastore, 1) := by decide +kernel
theorem dX11_drop_22 : decode cX11_drop 22 = .ok (.iconst 1, 1) := by decide +kernel
theorem dX11_drop_23 : decode cX11_drop 23 = .ok (.ireturn, 1) := by decide +kernel
theorem dX11_canTell_0 : decode cX11_canTell 0 = .ok (.aload_n 0, 1) := by decide +kernel
theorem dX11_canTell_1 : decode cX11_canTell 1 = .ok (.iload_n 1, 1) := by decide +kernel
theorem dX11_canTell_2 : decode cX11_canTell 2 = .ok (.invokevirtual 108, 3) := by decide +kernel
theorem dX11_canTell_5 : decode cX11_canTell 5 = .ok (.ifCond .eq 43, 3) := by decide +kernel
theorem dX11_canTell_8 : decode cX11_canTell 8 = .ok (.iload_n 2, 1) := by decide +kernel
theorem dX11_canTell_9 : decode cX11_canTell 9 = .ok (.ifCond .lt 39, 3) := by decide +kernel
theorem dX11_canTell_12 : decode cX11_canTell 12 = .ok (.iload_n 2, 1) := by decide +kernel
theorem dX11_canTell_13 : decode cX11_canTell 13 = .ok (.aload_n 0, 1) := by decide +kernel
theorem dX11_canTell_14 : decode cX11_canTell 14 = .ok (.getfield 20, 3) := by decide +kernel
theorem dX11_canTell_17 : decode cX11_canTell 17 = .ok (.iload_n 1, 1) := by decide +kernel
theorem dX11_canTell_18 : decode cX11_canTell 18 = .ok (.iaload, 1) := by decide +kernel
theorem dX11_canTell_19 : decode cX11_canTell 19 = .ok (.if_icmp .ge 29, 3) := by decide +kernel
theorem dX11_canTell_22 : decode cX11_canTell 22 = .ok (.aload_n 0, 1) := by decide +kernel
theorem dX11_canTell_23 : decode cX11_canTell 23 = .ok (.getfield 13, 3) := by decide +kernel
theorem dX11_canTell_26 : decode cX11_canTell 26 = .ok (.iload_n 1, 1) := by decide +kernel
theorem dX11_canTell_27 : decode cX11_canTell 27 = .ok (.iaload, 1) := by decide +kernel
theorem dX11_canTell_28 : decode cX11_canTell 28 = .ok (.iconst 2, 1) := by decide +kernel
theorem dX11_canTell_29 : decode cX11_canTell 29 = .ok (.if_icmp .ne 15, 3) := by decide +kernel
theorem dX11_canTell_32 : decode cX11_canTell 32 = .ok (.iload_n 2, 1) := by decide +kernel
theorem dX11_canTell_33 : decode cX11_canTell 33 = .ok (.aload_n 0, 1) := by decide +kernel
theorem dX11_canTell_34 : decode cX11_canTell 34 = .ok (.getfield 20, 3) := by decide +kernel
theorem dX11_canTell_37 : decode cX11_canTell 37 = .ok (.iload_n 1, 1) := by decide +kernel
theorem dX11_canTell_38 : decode cX11_canTell 38 = .ok (.iaload, 1) := by decide +kernel
theorem dX11_canTell_39 : decode cX11_canTell 39 = .ok (.iconst 1, 1) := by decide +kernel
theorem dX11_canTell_40 : decode cX11_canTell 40 = .ok (.isub, 1) := by decide +kernel
theorem dX11_canTell_41 : decode cX11_canTell 41 = .ok (.if_icmp .ne 7, 3) := by decide +kernel
theorem dX11_canTell_44 : decode cX11_canTell 44 = .ok (.iconst 1, 1) := by decide +kernel
theorem dX11_canTell_45 : decode cX11_canTell 45 = .ok (.goto 4, 3) := by decide +kernel
theorem dX11_canTell_48 : decode cX11_canTell 48 = .ok (.iconst 0, 1) := by decide +kernel
theorem dX11_canTell_49 : decode cX11_canTell 49 = .ok (.ireturn, 1) := by decide +kernel
theorem dX11_table_0 : decode cX11_table 0 = .ok (.aload_n 0, 1) := by decide +kernel
theorem dX11_table_1 : decode cX11_table 1 = .ok (.iconst 0, 1) := by decide +kernel
theorem dX11_table_2 : decode cX11_table 2 = .ok (.putfield 104, 3) := by decide +kernel
theorem dX11_table_5 : decode cX11_table 5 = .ok (.aload_n 0, 1) := by decide +kernel
theorem dX11_table_6 : decode cX11_table 6 = .ok (.iload_n 1, 1) := by decide +kernel
theorem dX11_table_7 : decode cX11_table 7 = .ok (.iload_n 2, 1) := by decide +kernel
theorem dX11_table_8 : decode cX11_table 8 = .ok (.invokevirtual 112, 3) := by decide +kernel
theorem dX11_table_11 : decode cX11_table 11 = .ok (.ifCond .eq 17, 3) := by decide +kernel
theorem dX11_table_14 : decode cX11_table 14 = .ok (.iload_n 3, 1) := by decide +kernel
theorem dX11_table_15 : decode cX11_table 15 = .ok (.ifCond .lt 13, 3) := by decide +kernel
theorem dX11_table_18 : decode cX11_table 18 = .ok (.iload_n 3, 1) := by decide +kernel
theorem dX11_table_19 : decode cX11_table 19 = .ok (.aload_n 0, 1) := by decide +kernel
theorem dX11_table_20 : decode cX11_table 20 = .ok (.getfield 20, 3) := by decide +kernel
theorem dX11_table_23 : decode cX11_table 23 = .ok (.iload_n 1, 1) := by decide +kernel
theorem dX11_table_24 : decode cX11_table 24 = .ok (.iaload, 1) := by decide +kernel
theorem dX11_table_25 : decode cX11_table 25 = .ok (.if_icmp .lt 5, 3) := by decide +kernel
theorem dX11_table_28 : decode cX11_table 28 = .ok (.iconst 0, 1) := by decide +kernel
theorem dX11_table_29 : decode cX11_table 29 = .ok (.ireturn, 1) := by decide +kernel
theorem dX11_table_30 : decode cX11_table 30 = .ok (.aload_n 0, 1) := by decide +kernel
theorem dX11_table_31 : decode cX11_table 31 = .ok (.getfield 23, 3) := by decide +kernel
theorem dX11_table_34 : decode cX11_table 34 = .ok (.bipush 16, 2) := by decide +kernel
theorem dX11_table_36 : decode cX11_table 36 = .ok (.iload_n 1, 1) := by decide +kernel
theorem dX11_table_37 : decode cX11_table 37 = .ok (.imul, 1) := by decide +kernel
theorem dX11_table_38 : decode cX11_table 38 = .ok (.iconst 4, 1) := by decide +kernel
theorem dX11_table_39 : decode cX11_table 39 = .ok (.iload_n 2, 1) := by decide +kernel
theorem dX11_table_40 : decode cX11_table 40 = .ok (.imul, 1) := by decide +kernel
theorem dX11_table_41 : decode cX11_table 41 = .ok (.iadd, 1) := by decide +kernel
theorem dX11_table_42 : decode cX11_table 42 = .ok (.iload_n 3, 1) := by decide +kernel
theorem dX11_table_43 : decode cX11_table 43 = .ok (.iadd, 1) := by decide +kernel
theorem dX11_table_44 : decode cX11_table 44 = .ok (.iload 4, 2) := by decide +kernel
theorem dX11_table_46 : decode cX11_table 46 = .ok (.i2l, 1) := by decide +kernel
theorem dX11_table_47 : decode cX11_table 47 = .ok (.aload_n 0, 1) := by decide +kernel
theorem dX11_table_48 : decode cX11_table 48 = .ok (.getfield 17, 3) := by decide +kernel
theorem dX11_table_51 : decode cX11_table 51 = .ok (.iload_n 1, 1) := by decide +kernel
theorem dX11_table_52 : decode cX11_table 52 = .ok (.iaload, 1) := by decide +kernel
theorem dX11_table_53 : decode cX11_table 53 = .ok (.invokestatic 116, 3) := by decide +kernel
theorem dX11_table_56 : decode cX11_table 56 = .ok (.iastore, 1) := by decide +kernel
theorem dX11_table_57 : decode cX11_table 57 = .ok (.iconst 1, 1) := by decide +kernel
theorem dX11_table_58 : decode cX11_table 58 = .ok (.ireturn, 1) := by decide +kernel
theorem dX11_more_0 : decode cX11_more 0 = .ok (.aload_n 0, 1) := by decide +kernel
theorem dX11_more_1 : decode cX11_more 1 = .ok (.iconst 0, 1) := by decide +kernel
theorem dX11_more_2 : decode cX11_more 2 = .ok (.putfield 104, 3) := by decide +kernel
theorem dX11_more_5 : decode cX11_more 5 = .ok (.aload_n 0, 1) := by decide +kernel
theorem dX11_more_6 : decode cX11_more 6 = .ok (.iload_n 1, 1) := by decide +kernel
theorem dX11_more_7 : decode cX11_more 7 = .ok (.iload_n 2, 1) := by decide +kernel
theorem dX11_more_8 : decode cX11_more 8 = .ok (.invokevirtual 112, 3) := by decide +kernel
theorem dX11_more_11 : decode cX11_more 11 = .ok (.ifCond .ne 5, 3) := by decide +kernel
theorem dX11_more_14 : decode cX11_more 14 = .ok (.iconst 0, 1) := by decide +kernel
theorem dX11_more_15 : decode cX11_more 15 = .ok (.ireturn, 1) := by decide +kernel
theorem dX11_more_16 : decode cX11_more 16 = .ok (.aload_n 0, 1) := by decide +kernel
theorem dX11_more_17 : decode cX11_more 17 = .ok (.getfield 26, 3) := by decide +kernel
theorem dX11_more_20 : decode cX11_more 20 = .ok (.iconst 4, 1) := by decide +kernel
theorem dX11_more_21 : decode cX11_more 21 = .ok (.iload_n 1, 1) := by decide +kernel
theorem dX11_more_22 : decode cX11_more 22 = .ok (.imul, 1) := by decide +kernel
theorem dX11_more_23 : decode cX11_more 23 = .ok (.iload_n 2, 1) := by decide +kernel
theorem dX11_more_24 : decode cX11_more 24 = .ok (.iadd, 1) := by decide +kernel
theorem dX11_more_25 : decode cX11_more 25 = .ok (.iload_n 3, 1) := by decide +kernel
theorem dX11_more_26 : decode cX11_more 26 = .ok (.i2l, 1) := by decide +kernel
theorem dX11_more_27 : decode cX11_more 27 = .ok (.aload_n 0, 1) := by decide +kernel
theorem dX11_more_28 : decode cX11_more 28 = .ok (.getfield 17, 3) := by decide +kernel
theorem dX11_more_31 : decode cX11_more 31 = .ok (.iload_n 1, 1) := by decide +kernel
theorem dX11_more_32 : decode cX11_more 32 = .ok (.iaload, 1) := by decide +kernel
theorem dX11_more_33 : decode cX11_more 33 = .ok (.invokestatic 116, 3) := by decide +kernel
theorem dX11_more_36 : decode cX11_more 36 = .ok (.iastore, 1) := by decide +kernel
theorem dX11_more_37 : decode cX11_more 37 = .ok (.iconst 1, 1) := by decide +kernel
theorem dX11_more_38 : decode cX11_more 38 = .ok (.ireturn, 1) := by decide +kernel
theorem dX11_plate_0 : decode cX11_plate 0 = .ok (.aload_n 0, 1) := by decide +kernel
theorem dX11_plate_1 : decode cX11_plate 1 = .ok (.iconst 0, 1) := by decide +kernel
theorem dX11_plate_2 : decode cX11_plate 2 = .ok (.putfield 104, 3) := by decide +kernel
theorem dX11_plate_5 : decode cX11_plate 5 = .ok (.aload_n 0, 1) := by decide +kernel
theorem dX11_plate_6 : decode cX11_plate 6 = .ok (.iload_n 1, 1) := by decide +kernel
theorem dX11_plate_7 : decode cX11_plate 7 = .ok (.invokevirtual 108, 3) := by decide +kernel
theorem dX11_plate_10 : decode cX11_plate 10 = .ok (.ifCond .eq 17, 3) := by decide +kernel
theorem dX11_plate_13 : decode cX11_plate 13 = .ok (.iload_n 2, 1) := by decide +kernel
theorem dX11_plate_14 : decode cX11_plate 14 = .ok (.ifCond .lt 13, 3) := by decide +kernel
theorem dX11_plate_17 : decode cX11_plate 17 = .ok (.iload_n 2, 1) := by decide +kernel
theorem dX11_plate_18 : decode cX11_plate 18 = .ok (.aload_n 0, 1) := by decide +kernel
theorem dX11_plate_19 : decode cX11_plate 19 = .ok (.getfield 20, 3) := by decide +kernel
theorem dX11_plate_22 : decode cX11_plate 22 = .ok (.iload_n 1, 1) := by decide +kernel
theorem dX11_plate_23 : decode cX11_plate 23 = .ok (.iaload, 1) := by decide +kernel
theorem dX11_plate_24 : decode cX11_plate 24 = .ok (.if_icmp .lt 5, 3) := by decide +kernel
theorem dX11_plate_27 : decode cX11_plate 27 = .ok (.iconst 0, 1) := by decide +kernel
theorem dX11_plate_28 : decode cX11_plate 28 = .ok (.ireturn, 1) := by decide +kernel
theorem dX11_plate_29 : decode cX11_plate 29 = .ok (.aload_n 0, 1) := by decide +kernel
theorem dX11_plate_30 : decode cX11_plate 30 = .ok (.getfield 29, 3) := by decide +kernel
theorem dX11_plate_33 : decode cX11_plate 33 = .ok (.iconst 4, 1) := by decide +kernel
theorem dX11_plate_34 : decode cX11_plate 34 = .ok (.iload_n 1, 1) := by decide +kernel
theorem dX11_plate_35 : decode cX11_plate 35 = .ok (.imul, 1) := by decide +kernel
theorem dX11_plate_36 : decode cX11_plate 36 = .ok (.iload_n 2, 1) := by decide +kernel
theorem dX11_plate_37 : decode cX11_plate 37 = .ok (.iadd, 1) := by decide +kernel
theorem dX11_plate_38 : decode cX11_plate 38 = .ok (.iload_n 3, 1) := by decide +kernel
theorem dX11_plate_39 : decode cX11_plate 39 = .ok (.i2l, 1) := by decide +kernel
theorem dX11_plate_40 : decode cX11_plate 40 = .ok (.aload_n 0, 1) := by decide +kernel
theorem dX11_plate_41 : decode cX11_plate 41 = .ok (.getfield 17, 3) := by decide +kernel
theorem dX11_plate_44 : decode cX11_plate 44 = .ok (.iload_n 1, 1) := by decide +kernel
theorem dX11_plate_45 : decode cX11_plate 45 = .ok (.iaload, 1) := by decide +kernel
theorem dX11_plate_46 : decode cX11_plate 46 = .ok (.invokestatic 116, 3) := by decide +kernel
theorem dX11_plate_49 : decode cX11_plate 49 = .ok (.iastore, 1) := by decide +kernel
theorem dX11_plate_50 : decode cX11_plate 50 = .ok (.iconst 1, 1) := by decide +kernel
theorem dX11_plate_51 : decode cX11_plate 51 = .ok (.ireturn, 1) := by decide +kernel
theorem dX11_rest_0 : decode cX11_rest 0 = .ok (.aload_n 0, 1) := by decide +kernel
theorem dX11_rest_1 : decode cX11_rest 1 = .ok (.iconst 0, 1) := by decide +kernel
theorem dX11_rest_2 : decode cX11_rest 2 = .ok (.putfield 104, 3) := by decide +kernel
theorem dX11_rest_5 : decode cX11_rest 5 = .ok (.aload_n 0, 1) := by decide +kernel
theorem dX11_rest_6 : decode cX11_rest 6 = .ok (.iload_n 1, 1) := by decide +kernel
theorem dX11_rest_7 : decode cX11_rest 7 = .ok (.invokevirtual 108, 3) := by decide +kernel
theorem dX11_rest_10 : decode cX11_rest 10 = .ok (.ifCond .eq 30, 3) := by decide +kernel
theorem dX11_rest_13 : decode cX11_rest 13 = .ok (.iload_n 2, 1) := by decide +kernel
theorem dX11_rest_14 : decode cX11_rest 14 = .ok (.ifCond .lt 26, 3) := by decide +kernel
theorem dX11_rest_17 : decode cX11_rest 17 = .ok (.iload_n 2, 1) := by decide +kernel
theorem dX11_rest_18 : decode cX11_rest 18 = .ok (.aload_n 0, 1) := by decide +kernel
theorem dX11_rest_19 : decode cX11_rest 19 = .ok (.getfield 20, 3) := by decide +kernel
theorem dX11_rest_22 : decode cX11_rest 22 = .ok (.iload_n 1, 1) := by decide +kernel
theorem dX11_rest_23 : decode cX11_rest 23 = .ok (.iaload, 1) := by decide +kernel
theorem dX11_rest_24 : decode cX11_rest 24 = .ok (.if_icmp .ge 16, 3) := by decide +kernel
theorem dX11_rest_27 : decode cX11_rest 27 = .ok (.aload_n 0, 1) := by decide +kernel
theorem dX11_rest_28 : decode cX11_rest 28 = .ok (.getfield 29, 3) := by decide +kernel
theorem dX11_rest_31 : decode cX11_rest 31 = .ok (.iconst 4, 1) := by decide +kernel
theorem dX11_rest_32 : decode cX11_rest 32 = .ok (.iload_n 1, 1) := by decide +kernel
theorem dX11_rest_33 : decode cX11_rest 33 = .ok (.imul, 1) := by decide +kernel
theorem dX11_rest_34 : decode cX11_rest 34 = .ok (.iload_n 2, 1) := by decide +kernel
theorem dX11_rest_35 : decode cX11_rest 35 = .ok (.iadd, 1) := by decide +kernel
theorem dX11_rest_36 : decode cX11_rest 36 = .ok (.iaload, 1) := by decide +kernel
theorem dX11_rest_37 : decode cX11_rest 37 = .ok (.goto 4, 3) := by decide +kernel
theorem dX11_rest_40 : decode cX11_rest 40 = .ok (.iconst (-1), 1) := by decide +kernel
theorem dX11_rest_41 : decode cX11_rest 41 = .ok (.ireturn, 1) := by decide +kernel
theorem dX11_cell_0 : decode cX11_cell 0 = .ok (.aload_n 0, 1) := by decide +kernel
theorem dX11_cell_1 : decode cX11_cell 1 = .ok (.iconst 0, 1) := by decide +kernel
theorem dX11_cell_2 : decode cX11_cell 2 = .ok (.putfield 104, 3) := by decide +kernel
theorem dX11_cell_5 : decode cX11_cell 5 = .ok (.aload_n 0, 1) := by decide +kernel
theorem dX11_cell_6 : decode cX11_cell 6 = .ok (.iload_n 1, 1) := by decide +kernel
theorem dX11_cell_7 : decode cX11_cell 7 = .ok (.invokevirtual 108, 3) := by decide +kernel
theorem dX11_cell_10 : decode cX11_cell 10 = .ok (.ifCond .eq 31, 3) := by decide +kernel
theorem dX11_cell_13 : decode cX11_cell 13 = .ok (.iload_n 2, 1) := by decide +kernel
theorem dX11_cell_14 : decode cX11_cell 14 = .ok (.ifCond .lt 27, 3) := by decide +kernel
theorem dX11_cell_17 : decode cX11_cell 17 = .ok (.iload_n 2, 1) := by decide +kernel
theorem dX11_cell_18 : decode cX11_cell 18 = .ok (.aload_n 0, 1) := by decide +kernel
theorem dX11_cell_19 : decode cX11_cell 19 = .ok (.getfield 20, 3) := by decide +kernel
theorem dX11_cell_22 : decode cX11_cell 22 = .ok (.iload_n 1, 1) := by decide +kernel
theorem dX11_cell_23 : decode cX11_cell 23 = .ok (.iaload, 1) := by decide +kernel
theorem dX11_cell_24 : decode cX11_cell 24 = .ok (.if_icmp .ge 17, 3) := by decide +kernel
theorem dX11_cell_27 : decode cX11_cell 27 = .ok (.iload_n 3, 1) := by decide +kernel
theorem dX11_cell_28 : decode cX11_cell 28 = .ok (.ifCond .lt 13, 3) := by decide +kernel
theorem dX11_cell_31 : decode cX11_cell 31 = .ok (.iload_n 3, 1) := by decide +kernel
theorem dX11_cell_32 : decode cX11_cell 32 = .ok (.aload_n 0, 1) := by decide +kernel
theorem dX11_cell_33 : decode cX11_cell 33 = .ok (.getfield 20, 3) := by decide +kernel
theorem dX11_cell_36 : decode cX11_cell 36 = .ok (.iload_n 1, 1) := by decide +kernel
theorem dX11_cell_37 : decode cX11_cell 37 = .ok (.iaload, 1) := by decide +kernel
theorem dX11_cell_38 : decode cX11_cell 38 = .ok (.if_icmp .le 5, 3) := by decide +kernel
theorem dX11_cell_41 : decode cX11_cell 41 = .ok (.iconst (-1), 1) := by decide +kernel
theorem dX11_cell_42 : decode cX11_cell 42 = .ok (.ireturn, 1) := by decide +kernel
theorem dX11_cell_43 : decode cX11_cell 43 = .ok (.iload_n 3, 1) := by decide +kernel
theorem dX11_cell_44 : decode cX11_cell 44 = .ok (.aload_n 0, 1) := by decide +kernel
theorem dX11_cell_45 : decode cX11_cell 45 = .ok (.getfield 20, 3) := by decide +kernel
theorem dX11_cell_48 : decode cX11_cell 48 = .ok (.iload_n 1, 1) := by decide +kernel
theorem dX11_cell_49 : decode cX11_cell 49 = .ok (.iaload, 1) := by decide +kernel
theorem dX11_cell_50 : decode cX11_cell 50 = .ok (.if_icmp .ne 16, 3) := by decide +kernel
theorem dX11_cell_53 : decode cX11_cell 53 = .ok (.aload_n 0, 1) := by decide +kernel
theorem dX11_cell_54 : decode cX11_cell 54 = .ok (.getfield 26, 3) := by decide +kernel
theorem dX11_cell_57 : decode cX11_cell 57 = .ok (.iconst 4, 1) := by decide +kernel
theorem dX11_cell_58 : decode cX11_cell 58 = .ok (.iload_n 1, 1) := by decide +kernel
theorem dX11_cell_59 : decode cX11_cell 59 = .ok (.imul, 1) := by decide +kernel
theorem dX11_cell_60 : decode cX11_cell 60 = .ok (.iload_n 2, 1) := by decide +kernel
theorem dX11_cell_61 : decode cX11_cell 61 = .ok (.iadd, 1) := by decide +kernel
theorem dX11_cell_62 : decode cX11_cell 62 = .ok (.iaload, 1) := by decide +kernel
theorem dX11_cell_63 : decode cX11_cell 63 = .ok (.goto 18, 3) := by decide +kernel
theorem dX11_cell_66 : decode cX11_cell 66 = .ok (.aload_n 0, 1) := by decide +kernel
theorem dX11_cell_67 : decode cX11_cell 67 = .ok (.getfield 23, 3) := by decide +kernel
theorem dX11_cell_70 : decode cX11_cell 70 = .ok (.bipush 16, 2) := by decide +kernel
theorem dX11_cell_72 : decode cX11_cell 72 = .ok (.iload_n 1, 1) := by decide +kernel
theorem dX11_cell_73 : decode cX11_cell 73 = .ok (.imul, 1) := by decide +kernel
theorem dX11_cell_74 : decode cX11_cell 74 = .ok (.iconst 4, 1) := by decide +kernel
theorem dX11_cell_75 : decode cX11_cell 75 = .ok (.iload_n 2, 1) := by decide +kernel
theorem dX11_cell_76 : decode cX11_cell 76 = .ok (.imul, 1) := by decide +kernel
theorem dX11_cell_77 : decode cX11_cell 77 = .ok (.iadd, 1) := by decide +kernel
theorem dX11_cell_78 : decode cX11_cell 78 = .ok (.iload_n 3, 1) := by decide +kernel
theorem dX11_cell_79 : decode cX11_cell 79 = .ok (.iadd, 1) := by decide +kernel
theorem dX11_cell_80 : decode cX11_cell 80 = .ok (.iaload, 1) := by decide +kernel
theorem dX11_cell_81 : decode cX11_cell 81 = .ok (.ireturn, 1) := by decide +kernel
theorem dX11_beginsBase_0 : decode cX11_beginsBase 0 = .ok (.aload_n 0, 1) := by decide +kernel
theorem dX11_beginsBase_1 : decode cX11_beginsBase 1 = .ok (.getfield 20, 3) := by decide +kernel
theorem dX11_beginsBase_4 : decode cX11_beginsBase 4 = .ok (.iload_n 1, 1) := by decide +kernel
theorem dX11_beginsBase_5 : decode cX11_beginsBase 5 = .ok (.iaload, 1) := by decide +kernel
theorem dX11_beginsBase_6 : decode cX11_beginsBase 6 = .ok (.istore_n 3, 1) := by decide +kernel
theorem dX11_beginsBase_7 : decode cX11_beginsBase 7 = .ok (.aload_n 0, 1) := by decide +kernel
theorem dX11_beginsBase_8 : decode cX11_beginsBase 8 = .ok (.iload_n 3, 1) := by decide +kernel
theorem dX11_beginsBase_9 : decode cX11_beginsBase 9 = .ok (.iconst 1, 1) := by decide +kernel
theorem dX11_beginsBase_10 : decode cX11_beginsBase 10 = .ok (.iadd, 1) := by decide +kernel
theorem dX11_beginsBase_11 : decode cX11_beginsBase 11 = .ok (.putfield 120, 3) := by decide +kernel
theorem dX11_beginsBase_14 : decode cX11_beginsBase 14 = .ok (.iconst 0, 1) := by decide +kernel
theorem dX11_beginsBase_15 : decode cX11_beginsBase 15 = .ok (.istore 4, 2) := by decide +kernel
theorem dX11_beginsBase_17 : decode cX11_beginsBase 17 = .ok (.iload 4, 2) := by decide +kernel
theorem dX11_beginsBase_19 : decode cX11_beginsBase 19 = .ok (.aload_n 0, 1) := by decide +kernel
theorem dX11_beginsBase_20 : decode cX11_beginsBase 20 = .ok (.getfield 120, 3) := by decide +kernel
theorem dX11_beginsBase_23 : decode cX11_beginsBase 23 = .ok (.if_icmp .ge 102, 3) := by decide +kernel
theorem dX11_beginsBase_26 : decode cX11_beginsBase 26 = .ok (.iconst 0, 1) := by decide +kernel
theorem dX11_beginsBase_27 : decode cX11_beginsBase 27 = .ok (.istore 5, 2) := by decide +kernel
theorem dX11_beginsBase_29 : decode cX11_beginsBase 29 = .ok (.iload 5, 2) := by decide +kernel
theorem dX11_beginsBase_31 : decode cX11_beginsBase 31 = .ok (.aload_n 0, 1) := by decide +kernel
theorem dX11_beginsBase_32 : decode cX11_beginsBase 32 = .ok (.getfield 120, 3) := by decide +kernel
theorem dX11_beginsBase_35 : decode cX11_beginsBase 35 = .ok (.if_icmp .ge 84, 3) := by decide +kernel
theorem dX11_beginsBase_38 : decode cX11_beginsBase 38 = .ok (.iload 4, 2) := by decide +kernel
theorem dX11_beginsBase_40 : decode cX11_beginsBase 40 = .ok (.iload_n 3, 1) := by decide +kernel
theorem dX11_beginsBase_41 : decode cX11_beginsBase 41 = .ok (.if_icmp .ne 17, 3) := by decide +kernel
theorem dX11_beginsBase_44 : decode cX11_beginsBase 44 = .ok (.iload 5, 2) := by decide +kernel
theorem dX11_beginsBase_46 : decode cX11_beginsBase 46 = .ok (.iload_n 3, 1) := by decide +kernel
theorem dX11_beginsBase_47 : decode cX11_beginsBase 47 = .ok (.if_icmp .ne 7, 3) := by decide +kernel
theorem dX11_beginsBase_50 : decode cX11_beginsBase 50 = .ok (.iconst 1, 1) := by decide +kernel
theorem dX11_beginsBase_51 : decode cX11_beginsBase 51 = .ok (.goto 44, 3) := by decide +kernel
theorem dX11_beginsBase_54 : decode cX11_beginsBase 54 = .ok (.iconst 0, 1) := by decide +kernel
theorem dX11_beginsBase_55 : decode cX11_beginsBase 55 = .ok (.goto 40, 3) := by decide +kernel
theorem dX11_beginsBase_58 : decode cX11_beginsBase 58 = .ok (.iload 5, 2) := by decide +kernel
theorem dX11_beginsBase_60 : decode cX11_beginsBase 60 = .ok (.iload_n 3, 1) := by decide +kernel
theorem dX11_beginsBase_61 : decode cX11_beginsBase 61 = .ok (.if_icmp .ne 17, 3) := by decide +kernel
theorem dX11_beginsBase_64 : decode cX11_beginsBase 64 = .ok (.aload_n 0, 1) := by decide +kernel
theorem dX11_beginsBase_65 : decode cX11_beginsBase 65 = .ok (.getfield 26, 3) := by decide +kernel
theorem dX11_beginsBase_68 : decode cX11_beginsBase 68 = .ok (.iconst 4, 1) := by decide +kernel
theorem dX11_beginsBase_69 : decode cX11_beginsBase 69 = .ok (.iload_n 1, 1) := by decide +kernel
theorem dX11_beginsBase_70 : decode cX11_beginsBase 70 = .ok (.imul, 1) := by decide +kernel
theorem dX11_beginsBase_71 : decode cX11_beginsBase 71 = .ok (.iload 4, 2) := by decide +kernel
theorem dX11_beginsBase_73 : decode cX11_beginsBase 73 = .ok (.iadd, 1) := by decide +kernel
theorem dX11_beginsBase_74 : decode cX11_beginsBase 74 = .ok (.iaload, 1) := by decide +kernel
theorem dX11_beginsBase_75 : decode cX11_beginsBase 75 = .ok (.goto 20, 3) := by decide +kernel
theorem dX11_beginsBase_78 : decode cX11_beginsBase 78 = .ok (.aload_n 0, 1) := by decide +kernel
theorem dX11_beginsBase_79 : decode cX11_beginsBase 79 = .ok (.getfield 23, 3) := by decide +kernel
theorem dX11_beginsBase_82 : decode cX11_beginsBase 82 = .ok (.bipush 16, 2) := by decide +kernel
theorem dX11_beginsBase_84 : decode cX11_beginsBase 84 = .ok (.iload_n 1, 1) := by decide +kernel
theorem dX11_beginsBase_85 : decode cX11_beginsBase 85 = .ok (.imul, 1) := by decide +kernel
theorem dX11_beginsBase_86 : decode cX11_beginsBase 86 = .ok (.iconst 4, 1) := by decide +kernel
theorem dX11_beginsBase_87 : decode cX11_beginsBase 87 = .ok (.iload 4, 2) := by decide +kernel
theorem dX11_beginsBase_89 : decode cX11_beginsBase 89 = .ok (.imul, 1) := by decide +kernel
theorem dX11_beginsBase_90 : decode cX11_beginsBase 90 = .ok (.iadd, 1) := by decide +kernel
theorem dX11_beginsBase_91 : decode cX11_beginsBase 91 = .ok (.iload 5, 2) := by decide +kernel
theorem dX11_beginsBase_93 : decode cX11_beginsBase 93 = .ok (.iadd, 1) := by decide +kernel
theorem dX11_beginsBase_94 : decode cX11_beginsBase 94 = .ok (.iaload, 1) := by decide +kernel
theorem dX11_beginsBase_95 : decode cX11_beginsBase 95 = .ok (.istore 6, 2) := by decide +kernel
theorem dX11_beginsBase_97 : decode cX11_beginsBase 97 = .ok (.aload_n 0, 1) := by decide +kernel
theorem dX11_beginsBase_98 : decode cX11_beginsBase 98 = .ok (.getfield 39, 3) := by decide +kernel
theorem dX11_beginsBase_101 : decode cX11_beginsBase 101 = .ok (.iconst 5, 1) := by decide +kernel
theorem dX11_beginsBase_102 : decode cX11_beginsBase 102 = .ok (.iload 4, 2) := by decide +kernel
theorem dX11_beginsBase_104 : decode cX11_beginsBase 104 = .ok (.imul, 1) := by decide +kernel
theorem dX11_beginsBase_105 : decode cX11_beginsBase 105 = .ok (.iload 5, 2) := by decide +kernel
theorem dX11_beginsBase_107 : decode cX11_beginsBase 107 = .ok (.iadd, 1) := by decide +kernel
theorem dX11_beginsBase_108 : decode cX11_beginsBase 108 = .ok (.iload 6, 2) := by decide +kernel
theorem dX11_beginsBase_110 : decode cX11_beginsBase 110 = .ok (.iload_n 2, 1) := by decide +kernel
theorem dX11_beginsBase_111 : decode cX11_beginsBase 111 = .ok (.irem, 1) := by decide +kernel
theorem dX11_beginsBase_112 : decode cX11_beginsBase 112 = .ok (.iastore, 1) := by decide +kernel
theorem dX11_beginsBase_113 : decode cX11_beginsBase 113 = .ok (.iinc 5 1, 3) := by decide +kernel
theorem dX11_beginsBase_116 : decode cX11_beginsBase 116 = .ok (.goto (-87), 3) := by decide +kernel
theorem dX11_beginsBase_119 : decode cX11_beginsBase 119 = .ok (.iinc 4 1, 3) := by decide +kernel
theorem dX11_beginsBase_122 : decode cX11_beginsBase 122 = .ok (.goto (-105), 3) := by decide +kernel
theorem dX11_beginsBase_125 : decode cX11_beginsBase 125 = .ok (.return_, 1) := by decide +kernel
theorem dX11_multiplies_0 : decode cX11_multiplies 0 = .ok (.iconst 0, 1) := by decide +kernel
theorem dX11_multiplies_1 : decode cX11_multiplies 1 = .ok (.istore 5, 2) := by decide +kernel
theorem dX11_multiplies_3 : decode cX11_multiplies 3 = .ok (.iload 5, 2) := by decide +kernel
theorem dX11_multiplies_5 : decode cX11_multiplies 5 = .ok (.aload_n 0, 1) := by decide +kernel
theorem dX11_multiplies_6 : decode cX11_multiplies 6 = .ok (.getfield 120, 3) := by decide +kernel
theorem dX11_multiplies_9 : decode cX11_multiplies 9 = .ok (.if_icmp .ge 89, 3) := by decide +kernel
theorem dX11_multiplies_12 : decode cX11_multiplies 12 = .ok (.iconst 0, 1) := by decide +kernel
theorem dX11_multiplies_13 : decode cX11_multiplies 13 = .ok (.istore 6, 2) := by decide +kernel
theorem dX11_multiplies_15 : decode cX11_multiplies 15 = .ok (.iload 6, 2) := by decide +kernel
theorem dX11_multiplies_17 : decode cX11_multiplies 17 = .ok (.aload_n 0, 1) := by decide +kernel
theorem dX11_multiplies_18 : decode cX11_multiplies 18 = .ok (.getfield 120, 3) := by decide +kernel
theorem dX11_multiplies_21 : decode cX11_multiplies 21 = .ok (.if_icmp .ge 71, 3) := by decide +kernel
theorem dX11_multiplies_24 : decode cX11_multiplies 24 = .ok (.iconst 0, 1) := by decide +kernel
theorem dX11_multiplies_25 : decode cX11_multiplies 25 = .ok (.istore 7, 2) := by decide +kernel
theorem dX11_multiplies_27 : decode cX11_multiplies 27 = .ok (.iconst 0, 1) := by decide +kernel
theorem dX11_multiplies_28 : decode cX11_multiplies 28 = .ok (.istore 8, 2) := by decide +kernel
theorem dX11_multiplies_30 : decode cX11_multiplies 30 = .ok (.iload 8, 2) := by decide +kernel
theorem dX11_multiplies_32 : decode cX11_multiplies 32 = .ok (.aload_n 0, 1) := by decide +kernel
theorem dX11_multiplies_33 : decode cX11_multiplies 33 = .ok (.getfield 120, 3) := by decide +kernel
theorem dX11_multiplies_36 : decode cX11_multiplies 36 = .ok (.if_icmp .ge 33, 3) := by decide +kernel
theorem dX11_multiplies_39 : decode cX11_multiplies 39 = .ok (.iload 7, 2) := by decide +kernel
theorem dX11_multiplies_41 : decode cX11_multiplies 41 = .ok (.aload_n 1, 1) := by decide +kernel
theorem dX11_multiplies_42 : decode cX11_multiplies 42 = .ok (.iconst 5, 1) := by decide +kernel
theorem dX11_multiplies_43 : decode cX11_multiplies 43 = .ok (.iload 5, 2) := by decide +kernel
theorem dX11_multiplies_45 : decode cX11_multiplies 45 = .ok (.imul, 1) := by decide +kernel
theorem dX11_multiplies_46 : decode cX11_multiplies 46 = .ok (.iload 8, 2) := by decide +kernel
theorem dX11_multiplies_48 : decode cX11_multiplies 48 = .ok (.iadd, 1) := by decide +kernel
theorem dX11_multiplies_49 : decode cX11_multiplies 49 = .ok (.iaload, 1) := by decide +kernel
theorem dX11_multiplies_50 : decode cX11_multiplies 50 = .ok (.aload_n 2, 1) := by decide +kernel
theorem dX11_multiplies_51 : decode cX11_multiplies 51 = .ok (.iconst 5, 1) := by decide +kernel
theorem dX11_multiplies_52 : decode cX11_multiplies 52 = .ok (.iload 8, 2) := by decide +kernel
theorem dX11_multiplies_54 : decode cX11_multiplies 54 = .ok (.imul, 1) := by decide +kernel
theorem dX11_multiplies_55 : decode cX11_multiplies 55 = .ok (.iload 6, 2) := by decide +kernel
theorem dX11_multiplies_57 : decode cX11_multiplies 57 = .ok (.iadd, 1) := by decide +kernel
theorem dX11_multiplies_58 : decode cX11_multiplies 58 = .ok (.iaload, 1) := by decide +kernel
theorem dX11_multiplies_59 : decode cX11_multiplies 59 = .ok (.imul, 1) := by decide +kernel
theorem dX11_multiplies_60 : decode cX11_multiplies 60 = .ok (.iadd, 1) := by decide +kernel
theorem dX11_multiplies_61 : decode cX11_multiplies 61 = .ok (.istore 7, 2) := by decide +kernel
theorem dX11_multiplies_63 : decode cX11_multiplies 63 = .ok (.iinc 8 1, 3) := by decide +kernel
theorem dX11_multiplies_66 : decode cX11_multiplies 66 = .ok (.goto (-36), 3) := by decide +kernel
theorem dX11_multiplies_69 : decode cX11_multiplies 69 = .ok (.aload_n 0, 1) := by decide +kernel
theorem dX11_multiplies_70 : decode cX11_multiplies 70 = .ok (.getfield 45, 3) := by decide +kernel
theorem dX11_multiplies_73 : decode cX11_multiplies 73 = .ok (.iconst 5, 1) := by decide +kernel
theorem dX11_multiplies_74 : decode cX11_multiplies 74 = .ok (.iload 5, 2) := by decide +kernel
theorem dX11_multiplies_76 : decode cX11_multiplies 76 = .ok (.imul, 1) := by decide +kernel
theorem dX11_multiplies_77 : decode cX11_multiplies 77 = .ok (.iload 6, 2) := by decide +kernel
theorem dX11_multiplies_79 : decode cX11_multiplies 79 = .ok (.iadd, 1) := by decide +kernel
theorem dX11_multiplies_80 : decode cX11_multiplies 80 = .ok (.iload 7, 2) := by decide +kernel
theorem dX11_multiplies_82 : decode cX11_multiplies 82 = .ok (.iload 4, 2) := by decide +kernel
theorem dX11_multiplies_84 : decode cX11_multiplies 84 = .ok (.irem, 1) := by decide +kernel
theorem dX11_multiplies_85 : decode cX11_multiplies 85 = .ok (.iastore, 1) := by decide +kernel
theorem dX11_multiplies_86 : decode cX11_multiplies 86 = .ok (.iinc 6 1, 3) := by decide +kernel
theorem dX11_multiplies_89 : decode cX11_multiplies 89 = .ok (.goto (-74), 3) := by decide +kernel
theorem dX11_multiplies_92 : decode cX11_multiplies 92 = .ok (.iinc 5 1, 3) := by decide +kernel
theorem dX11_multiplies_95 : decode cX11_multiplies 95 = .ok (.goto (-92), 3) := by decide +kernel
theorem dX11_multiplies_98 : decode cX11_multiplies 98 = .ok (.iconst 0, 1) := by decide +kernel
theorem dX11_multiplies_99 : decode cX11_multiplies 99 = .ok (.istore 5, 2) := by decide +kernel
theorem dX11_multiplies_101 : decode cX11_multiplies 101 = .ok (.iload 5, 2) := by decide +kernel
theorem dX11_multiplies_103 : decode cX11_multiplies 103 = .ok (.bipush 25, 2) := by decide +kernel
theorem dX11_multiplies_105 : decode cX11_multiplies 105 = .ok (.if_icmp .ge 20, 3) := by decide +kernel
theorem dX11_multiplies_108 : decode cX11_multiplies 108 = .ok (.aload_n 3, 1) := by decide +kernel
theorem dX11_multiplies_109 : decode cX11_multiplies 109 = .ok (.iload 5, 2) := by decide +kernel
theorem dX11_multiplies_111 : decode cX11_multiplies 111 = .ok (.aload_n 0, 1) := by decide +kernel
theorem dX11_multiplies_112 : decode cX11_multiplies 112 = .ok (.getfield 45, 3) := by decide +kernel
theorem dX11_multiplies_115 : decode cX11_multiplies 115 = .ok (.iload 5, 2) := by decide +kernel
theorem dX11_multiplies_117 : decode cX11_multiplies 117 = .ok (.iaload, 1) := by decide +kernel
theorem dX11_multiplies_118 : decode cX11_multiplies 118 = .ok (.iastore, 1) := by decide +kernel
theorem dX11_multiplies_119 : decode cX11_multiplies 119 = .ok (.iinc 5 1, 3) := by decide +kernel
theorem dX11_multiplies_122 : decode cX11_multiplies 122 = .ok (.goto (-21), 3) := by decide +kernel
theorem dX11_multiplies_125 : decode cX11_multiplies 125 = .ok (.return_, 1) := by decide +kernel
theorem dX11_powers_0 : decode cX11_powers 0 = .ok (.aload_n 0, 1) := by decide +kernel
theorem dX11_powers_1 : decode cX11_powers 1 = .ok (.iload_n 1, 1) := by decide +kernel
theorem dX11_powers_2 : decode cX11_powers 2 = .ok (.iload 4, 2) := by decide +kernel
theorem dX11_powers_4 : decode cX11_powers 4 = .ok (.invokevirtual 123, 3) := by decide +kernel
theorem dX11_powers_7 : decode cX11_powers 7 = .ok (.iconst 0, 1) := by decide +kernel
theorem dX11_powers_8 : decode cX11_powers 8 = .ok (.istore 5, 2) := by decide +kernel
theorem dX11_powers_10 : decode cX11_powers 10 = .ok (.iload 5, 2) := by decide +kernel
theorem dX11_powers_12 : decode cX11_powers 12 = .ok (.aload_n 0, 1) := by decide +kernel
theorem dX11_powers_13 : decode cX11_powers 13 = .ok (.getfield 120, 3) := by decide +kernel
theorem dX11_powers_16 : decode cX11_powers 16 = .ok (.if_icmp .ge 54, 3) := by decide +kernel
theorem dX11_powers_19 : decode cX11_powers 19 = .ok (.iconst 0, 1) := by decide +kernel
theorem dX11_powers_20 : decode cX11_powers 20 = .ok (.istore 6, 2) := by decide +kernel
theorem dX11_powers_22 : decode cX11_powers 22 = .ok (.iload 6, 2) := by decide +kernel
theorem dX11_powers_24 : decode cX11_powers 24 = .ok (.aload_n 0, 1) := by decide +kernel
theorem dX11_powers_25 : decode cX11_powers 25 = .ok (.getfield 120, 3) := by decide +kernel
theorem dX11_powers_28 : decode cX11_powers 28 = .ok (.if_icmp .ge 36, 3) := by decide +kernel
theorem dX11_powers_31 : decode cX11_powers 31 = .ok (.aload_n 0, 1) := by decide +kernel
theorem dX11_powers_32 : decode cX11_powers 32 = .ok (.getfield 42, 3) := by decide +kernel
theorem dX11_powers_35 : decode cX11_powers 35 = .ok (.iconst 5, 1) := by decide +kernel
theorem dX11_powers_36 : decode cX11_powers 36 = .ok (.iload 5, 2) := by decide +kernel
theorem dX11_powers_38 : decode cX11_powers 38 = .ok (.imul, 1) := by decide +kernel
theorem dX11_powers_39 : decode cX11_powers 39 = .ok (.iload 6, 2) := by decide +kernel
theorem dX11_powers_41 : decode cX11_powers 41 = .ok (.iadd, 1) := by decide +kernel
theorem dX11_powers_42 : decode cX11_powers 42 = .ok (.iload 5, 2) := by decide +kernel
theorem dX11_powers_44 : decode cX11_powers 44 = .ok (.iload 6, 2) := by decide +kernel
theorem dX11_powers_46 : decode cX11_powers 46 = .ok (.if_icmp .ne 10, 3) := by decide +kernel
theorem dX11_powers_49 : decode cX11_powers 49 = .ok (.iconst 1, 1) := by decide +kernel
theorem dX11_powers_50 : decode cX11_powers 50 = .ok (.iload 4, 2) := by decide +kernel
theorem dX11_powers_52 : decode cX11_powers 52 = .ok (.irem, 1) := by decide +kernel
theorem dX11_powers_53 : decode cX11_powers 53 = .ok (.goto 4, 3) := by decide +kernel
theorem dX11_powers_56 : decode cX11_powers 56 = .ok (.iconst 0, 1) := by decide +kernel
theorem dX11_powers_57 : decode cX11_powers 57 = .ok (.iastore, 1) := by decide +kernel
theorem dX11_powers_58 : decode cX11_powers 58 = .ok (.iinc 6 1, 3) := by decide +kernel
theorem dX11_powers_61 : decode cX11_powers 61 = .ok (.goto (-39), 3) := by decide +kernel
theorem dX11_powers_64 : decode cX11_powers 64 = .ok (.iinc 5 1, 3) := by decide +kernel
theorem dX11_powers_67 : decode cX11_powers 67 = .ok (.goto (-57), 3) := by decide +kernel
theorem dX11_powers_70 : decode cX11_powers 70 = .ok (.lload_n 2, 1) := by decide +kernel
theorem dX11_powers_71 : decode cX11_powers 71 = .ok (.lstore 5, 2) := by decide +kernel
theorem dX11_powers_73 : decode cX11_powers 73 = .ok (.lload 5, 2) := by decide +kernel
theorem dX11_powers_75 : decode cX11_powers 75 = .ok (.lconst 0, 1) := by decide +kernel
theorem dX11_powers_76 : decode cX11_powers 76 = .ok (.lcmp, 1) := by decide +kernel
theorem dX11_powers_77 : decode cX11_powers 77 = .ok (.ifCond .le 61, 3) := by decide +kernel
theorem dX11_powers_80 : decode cX11_powers 80 = .ok (.lload 5, 2) := by decide +kernel
theorem dX11_powers_82 : decode cX11_powers 82 = .ok (.ldc2_w 127, 3) := by decide +kernel
theorem dX11_powers_85 : decode cX11_powers 85 = .ok (.lrem, 1) := by decide +kernel
theorem dX11_powers_86 : decode cX11_powers 86 = .ok (.lconst 1, 1) := by decide +kernel
theorem dX11_powers_87 : decode cX11_powers 87 = .ok (.lcmp, 1) := by decide +kernel
theorem dX11_powers_88 : decode cX11_powers 88 = .ok (.ifCond .ne 21, 3) := by decide +kernel
theorem dX11_powers_91 : decode cX11_powers 91 = .ok (.aload_n 0, 1) := by decide +kernel
theorem dX11_powers_92 : decode cX11_powers 92 = .ok (.aload_n 0, 1) := by decide +kernel
theorem dX11_powers_93 : decode cX11_powers 93 = .ok (.getfield 42, 3) := by decide +kernel
theorem dX11_powers_96 : decode cX11_powers 96 = .ok (.aload_n 0, 1) := by decide +kernel
theorem dX11_powers_97 : decode cX11_powers 97 = .ok (.getfield 39, 3) := by decide +kernel
theorem dX11_powers_100 : decode cX11_powers 100 = .ok (.aload_n 0, 1) := by decide +kernel
theorem dX11_powers_101 : decode cX11_powers 101 = .ok (.getfield 42, 3) := by decide +kernel
theorem dX11_powers_104 : decode cX11_powers 104 = .ok (.iload 4, 2) := by decide +kernel
theorem dX11_powers_106 : decode cX11_powers 106 = .ok (.invokevirtual 129, 3) := by decide +kernel
theorem dX11_powers_109 : decode cX11_powers 109 = .ok (.aload_n 0, 1) := by decide +kernel
theorem dX11_powers_110 : decode cX11_powers 110 = .ok (.aload_n 0, 1) := by decide +kernel
theorem dX11_powers_111 : decode cX11_powers 111 = .ok (.getfield 39, 3) := by decide +kernel
theorem dX11_powers_114 : decode cX11_powers 114 = .ok (.aload_n 0, 1) := by decide +kernel
theorem dX11_powers_115 : decode cX11_powers 115 = .ok (.getfield 39, 3) := by decide +kernel
theorem dX11_powers_118 : decode cX11_powers 118 = .ok (.aload_n 0, 1) := by decide +kernel
theorem dX11_powers_119 : decode cX11_powers 119 = .ok (.getfield 39, 3) := by decide +kernel
theorem dX11_powers_122 : decode cX11_powers 122 = .ok (.iload 4, 2) := by decide +kernel
theorem dX11_powers_124 : decode cX11_powers 124 = .ok (.invokevirtual 129, 3) := by decide +kernel
theorem dX11_powers_127 : decode cX11_powers 127 = .ok (.lload 5, 2) := by decide +kernel
theorem dX11_powers_129 : decode cX11_powers 129 = .ok (.ldc2_w 127, 3) := by decide +kernel
theorem dX11_powers_132 : decode cX11_powers 132 = .ok (.ldiv, 1) := by decide +kernel
theorem dX11_powers_133 : decode cX11_powers 133 = .ok (.lstore 5, 2) := by decide +kernel
theorem dX11_powers_135 : decode cX11_powers 135 = .ok (.goto (-62), 3) := by decide +kernel
theorem dX11_powers_138 : decode cX11_powers 138 = .ok (.return_, 1) := by decide +kernel
theorem dX11_plateIs_0 : decode cX11_plateIs 0 = .ok (.iconst 0, 1) := by decide +kernel
theorem dX11_plateIs_1 : decode cX11_plateIs 1 = .ok (.istore_n 3, 1) := by decide +kernel
theorem dX11_plateIs_2 : decode cX11_plateIs 2 = .ok (.iload_n 3, 1) := by decide +kernel
theorem dX11_plateIs_3 : decode cX11_plateIs 3 = .ok (.aload_n 0, 1) := by decide +kernel
theorem dX11_plateIs_4 : decode cX11_plateIs 4 = .ok (.getfield 20, 3) := by decide +kernel
theorem dX11_plateIs_7 : decode cX11_plateIs 7 = .ok (.iload_n 1, 1) := by decide +kernel
theorem dX11_plateIs_8 : decode cX11_plateIs 8 = .ok (.iaload, 1) := by decide +kernel
theorem dX11_plateIs_9 : decode cX11_plateIs 9 = .ok (.if_icmp .ge 27, 3) := by decide +kernel
theorem dX11_plateIs_12 : decode cX11_plateIs 12 = .ok (.aload_n 0, 1) := by decide +kernel
theorem dX11_plateIs_13 : decode cX11_plateIs 13 = .ok (.getfield 48, 3) := by decide +kernel
theorem dX11_plateIs_16 : decode cX11_plateIs 16 = .ok (.iload_n 3, 1) := by decide +kernel
theorem dX11_plateIs_17 : decode cX11_plateIs 17 = .ok (.aload_n 0, 1) := by decide +kernel
theorem dX11_plateIs_18 : decode cX11_plateIs 18 = .ok (.getfield 29, 3) := by decide +kernel
theorem dX11_plateIs_21 : decode cX11_plateIs 21 = .ok (.iconst 4, 1) := by decide +kernel
theorem dX11_plateIs_22 : decode cX11_plateIs 22 = .ok (.iload_n 1, 1) := by decide +kernel
theorem dX11_plateIs_23 : decode cX11_plateIs 23 = .ok (.imul, 1) := by decide +kernel
theorem dX11_plateIs_24 : decode cX11_plateIs 24 = .ok (.iload_n 3, 1) := by decide +kernel
theorem dX11_plateIs_25 : decode cX11_plateIs 25 = .ok (.iadd, 1) := by decide +kernel
theorem dX11_plateIs_26 : decode cX11_plateIs 26 = .ok (.iaload, 1) := by decide +kernel
theorem dX11_plateIs_27 : decode cX11_plateIs 27 = .ok (.iload_n 2, 1) := by decide +kernel
theorem dX11_plateIs_28 : decode cX11_plateIs 28 = .ok (.irem, 1) := by decide +kernel
theorem dX11_plateIs_29 : decode cX11_plateIs 29 = .ok (.iastore, 1) := by decide +kernel
theorem dX11_plateIs_30 : decode cX11_plateIs 30 = .ok (.iinc 3 1, 3) := by decide +kernel
theorem dX11_plateIs_33 : decode cX11_plateIs 33 = .ok (.goto (-31), 3) := by decide +kernel
theorem dX11_plateIs_36 : decode cX11_plateIs 36 = .ok (.return_, 1) := by decide +kernel
theorem dX11_goes_0 : decode cX11_goes 0 = .ok (.iconst 0, 1) := by decide +kernel
theorem dX11_goes_1 : decode cX11_goes 1 = .ok (.istore_n 3, 1) := by decide +kernel
theorem dX11_goes_2 : decode cX11_goes 2 = .ok (.iload_n 3, 1) := by decide +kernel
theorem dX11_goes_3 : decode cX11_goes 3 = .ok (.iload_n 1, 1) := by decide +kernel
theorem dX11_goes_4 : decode cX11_goes 4 = .ok (.if_icmp .ge 70, 3) := by decide +kernel
theorem dX11_goes_7 : decode cX11_goes 7 = .ok (.aload_n 0, 1) := by decide +kernel
theorem dX11_goes_8 : decode cX11_goes 8 = .ok (.getfield 42, 3) := by decide +kernel
theorem dX11_goes_11 : decode cX11_goes 11 = .ok (.iconst 5, 1) := by decide +kernel
theorem dX11_goes_12 : decode cX11_goes 12 = .ok (.iload_n 3, 1) := by decide +kernel
theorem dX11_goes_13 : decode cX11_goes 13 = .ok (.imul, 1) := by decide +kernel
theorem dX11_goes_14 : decode cX11_goes 14 = .ok (.iload_n 1, 1) := by decide +kernel
theorem dX11_goes_15 : decode cX11_goes 15 = .ok (.iadd, 1) := by decide +kernel
theorem dX11_goes_16 : decode cX11_goes 16 = .ok (.iaload, 1) := by decide +kernel
theorem dX11_goes_17 : decode cX11_goes 17 = .ok (.istore 4, 2) := by decide +kernel
theorem dX11_goes_19 : decode cX11_goes 19 = .ok (.iconst 0, 1) := by decide +kernel
theorem dX11_goes_20 : decode cX11_goes 20 = .ok (.istore 5, 2) := by decide +kernel
theorem dX11_goes_22 : decode cX11_goes 22 = .ok (.iload 5, 2) := by decide +kernel
theorem dX11_goes_24 : decode cX11_goes 24 = .ok (.iload_n 1, 1) := by decide +kernel
theorem dX11_goes_25 : decode cX11_goes 25 = .ok (.if_icmp .ge 33, 3) := by decide +kernel
theorem dX11_goes_28 : decode cX11_goes 28 = .ok (.iload 4, 2) := by decide +kernel
theorem dX11_goes_30 : decode cX11_goes 30 = .ok (.aload_n 0, 1) := by decide +kernel
theorem dX11_goes_31 : decode cX11_goes 31 = .ok (.getfield 42, 3) := by decide +kernel
theorem dX11_goes_34 : decode cX11_goes 34 = .ok (.iconst 5, 1) := by decide +kernel
theorem dX11_goes_35 : decode cX11_goes 35 = .ok (.iload_n 3, 1) := by decide +kernel
theorem dX11_goes_36 : decode cX11_goes 36 = .ok (.imul, 1) := by decide +kernel
theorem dX11_goes_37 : decode cX11_goes 37 = .ok (.iload 5, 2) := by decide +kernel
theorem dX11_goes_39 : decode cX11_goes 39 = .ok (.iadd, 1) := by decide +kernel
theorem dX11_goes_40 : decode cX11_goes 40 = .ok (.iaload, 1) := by decide +kernel
theorem dX11_goes_41 : decode cX11_goes 41 = .ok (.aload_n 0, 1) := by decide +kernel
theorem dX11_goes_42 : decode cX11_goes 42 = .ok (.getfield 48, 3) := by decide +kernel
theorem dX11_goes_45 : decode cX11_goes 45 = .ok (.iload 5, 2) := by decide +kernel
theorem dX11_goes_47 : decode cX11_goes 47 = .ok (.iaload, 1) := by decide +kernel
theorem dX11_goes_48 : decode cX11_goes 48 = .ok (.imul, 1) := by decide +kernel
theorem dX11_goes_49 : decode cX11_goes 49 = .ok (.iadd, 1) := by decide +kernel
theorem dX11_goes_50 : decode cX11_goes 50 = .ok (.istore 4, 2) := by decide +kernel
theorem dX11_goes_52 : decode cX11_goes 52 = .ok (.iinc 5 1, 3) := by decide +kernel
theorem dX11_goes_55 : decode cX11_goes 55 = .ok (.goto (-33), 3) := by decide +kernel
theorem dX11_goes_58 : decode cX11_goes 58 = .ok (.aload_n 0, 1) := by decide +kernel
theorem dX11_goes_59 : decode cX11_goes 59 = .ok (.getfield 51, 3) := by decide +kernel
theorem dX11_goes_62 : decode cX11_goes 62 = .ok (.iload_n 3, 1) := by decide +kernel
theorem dX11_goes_63 : decode cX11_goes 63 = .ok (.iload 4, 2) := by decide +kernel
theorem dX11_goes_65 : decode cX11_goes 65 = .ok (.iload_n 2, 1) := by decide +kernel
theorem dX11_goes_66 : decode cX11_goes 66 = .ok (.irem, 1) := by decide +kernel
theorem dX11_goes_67 : decode cX11_goes 67 = .ok (.iastore, 1) := by decide +kernel
theorem dX11_goes_68 : decode cX11_goes 68 = .ok (.iinc 3 1, 3) := by decide +kernel
theorem dX11_goes_71 : decode cX11_goes 71 = .ok (.goto (-69), 3) := by decide +kernel
theorem dX11_goes_74 : decode cX11_goes 74 = .ok (.return_, 1) := by decide +kernel
theorem dX11_isBack_0 : decode cX11_isBack 0 = .ok (.iconst 0, 1) := by decide +kernel
theorem dX11_isBack_1 : decode cX11_isBack 1 = .ok (.istore_n 2, 1) := by decide +kernel
theorem dX11_isBack_2 : decode cX11_isBack 2 = .ok (.iload_n 2, 1) := by decide +kernel
theorem dX11_isBack_3 : decode cX11_isBack 3 = .ok (.iload_n 1, 1) := by decide +kernel
theorem dX11_isBack_4 : decode cX11_isBack 4 = .ok (.if_icmp .ge 26, 3) := by decide +kernel
theorem dX11_isBack_7 : decode cX11_isBack 7 = .ok (.aload_n 0, 1) := by decide +kernel
theorem dX11_isBack_8 : decode cX11_isBack 8 = .ok (.getfield 51, 3) := by decide +kernel
theorem dX11_isBack_11 : decode cX11_isBack 11 = .ok (.iload_n 2, 1) := by decide +kernel
theorem dX11_isBack_12 : decode cX11_isBack 12 = .ok (.iaload, 1) := by decide +kernel
theorem dX11_isBack_13 : decode cX11_isBack 13 = .ok (.aload_n 0, 1) := by decide +kernel
theorem dX11_isBack_14 : decode cX11_isBack 14 = .ok (.getfield 48, 3) := by decide +kernel
theorem dX11_isBack_17 : decode cX11_isBack 17 = .ok (.iload_n 2, 1) := by decide +kernel
theorem dX11_isBack_18 : decode cX11_isBack 18 = .ok (.iaload, 1) := by decide +kernel
theorem dX11_isBack_19 : decode cX11_isBack 19 = .ok (.if_icmp .eq 5, 3) := by decide +kernel
theorem dX11_isBack_22 : decode cX11_isBack 22 = .ok (.iconst 0, 1) := by decide +kernel
theorem dX11_isBack_23 : decode cX11_isBack 23 = .ok (.ireturn, 1) := by decide +kernel
theorem dX11_isBack_24 : decode cX11_isBack 24 = .ok (.iinc 2 1, 3) := by decide +kernel
theorem dX11_isBack_27 : decode cX11_isBack 27 = .ok (.goto (-25), 3) := by decide +kernel
theorem dX11_isBack_30 : decode cX11_isBack 30 = .ok (.iconst 1, 1) := by decide +kernel
theorem dX11_isBack_31 : decode cX11_isBack 31 = .ok (.ireturn, 1) := by decide +kernel
theorem dX11_takes_0 : decode cX11_takes 0 = .ok (.iconst 0, 1) := by decide +kernel
theorem dX11_takes_1 : decode cX11_takes 1 = .ok (.istore_n 2, 1) := by decide +kernel
theorem dX11_takes_2 : decode cX11_takes 2 = .ok (.iload_n 2, 1) := by decide +kernel
theorem dX11_takes_3 : decode cX11_takes 3 = .ok (.iload_n 1, 1) := by decide +kernel
theorem dX11_takes_4 : decode cX11_takes 4 = .ok (.if_icmp .ge 21, 3) := by decide +kernel
theorem dX11_takes_7 : decode cX11_takes 7 = .ok (.aload_n 0, 1) := by decide +kernel
theorem dX11_takes_8 : decode cX11_takes 8 = .ok (.getfield 48, 3) := by decide +kernel
theorem dX11_takes_11 : decode cX11_takes 11 = .ok (.iload_n 2, 1) := by decide +kernel
theorem dX11_takes_12 : decode cX11_takes 12 = .ok (.aload_n 0, 1) := by decide +kernel
theorem dX11_takes_13 : decode cX11_takes 13 = .ok (.getfield 51, 3) := by decide +kernel
theorem dX11_takes_16 : decode cX11_takes 16 = .ok (.iload_n 2, 1) := by decide +kernel
theorem dX11_takes_17 : decode cX11_takes 17 = .ok (.iaload, 1) := by decide +kernel
theorem dX11_takes_18 : decode cX11_takes 18 = .ok (.iastore, 1) := by decide +kernel
theorem dX11_takes_19 : decode cX11_takes 19 = .ok (.iinc 2 1, 3) := by decide +kernel
theorem dX11_takes_22 : decode cX11_takes 22 = .ok (.goto (-20), 3) := by decide +kernel
theorem dX11_takes_25 : decode cX11_takes 25 = .ok (.return_, 1) := by decide +kernel
theorem dX11_leaps_0 : decode cX11_leaps 0 = .ok (.aload_n 0, 1) := by decide +kernel
theorem dX11_leaps_1 : decode cX11_leaps 1 = .ok (.getfield 17, 3) := by decide +kernel
theorem dX11_leaps_4 : decode cX11_leaps 4 = .ok (.iload_n 1, 1) := by decide +kernel
theorem dX11_leaps_5 : decode cX11_leaps 5 = .ok (.iaload, 1) := by decide +kernel
theorem dX11_leaps_6 : decode cX11_leaps 6 = .ok (.istore 4, 2) := by decide +kernel
theorem dX11_leaps_8 : decode cX11_leaps 8 = .ok (.aload_n 0, 1) := by decide +kernel
theorem dX11_leaps_9 : decode cX11_leaps 9 = .ok (.getfield 20, 3) := by decide +kernel
theorem dX11_leaps_12 : decode cX11_leaps 12 = .ok (.iload_n 1, 1) := by decide +kernel
theorem dX11_leaps_13 : decode cX11_leaps 13 = .ok (.iaload, 1) := by decide +kernel
theorem dX11_leaps_14 : decode cX11_leaps 14 = .ok (.istore 5, 2) := by decide +kernel
theorem dX11_leaps_16 : decode cX11_leaps 16 = .ok (.aload_n 0, 1) := by decide +kernel
theorem dX11_leaps_17 : decode cX11_leaps 17 = .ok (.iload_n 1, 1) := by decide +kernel
theorem dX11_leaps_18 : decode cX11_leaps 18 = .ok (.lload_n 2, 1) := by decide +kernel
theorem dX11_leaps_19 : decode cX11_leaps 19 = .ok (.iload 4, 2) := by decide +kernel
theorem dX11_leaps_21 : decode cX11_leaps 21 = .ok (.invokevirtual 133, 3) := by decide +kernel
theorem dX11_leaps_24 : decode cX11_leaps 24 = .ok (.aload_n 0, 1) := by decide +kernel
theorem dX11_leaps_25 : decode cX11_leaps 25 = .ok (.iload_n 1, 1) := by decide +kernel
theorem dX11_leaps_26 : decode cX11_leaps 26 = .ok (.iload 4, 2) := by decide +kernel
theorem dX11_leaps_28 : decode cX11_leaps 28 = .ok (.invokevirtual 137, 3) := by decide +kernel
theorem dX11_leaps_31 : decode cX11_leaps 31 = .ok (.aload_n 0, 1) := by decide +kernel
theorem dX11_leaps_32 : decode cX11_leaps 32 = .ok (.iload 5, 2) := by decide +kernel
theorem dX11_leaps_34 : decode cX11_leaps 34 = .ok (.iload 4, 2) := by decide +kernel
theorem dX11_leaps_36 : decode cX11_leaps 36 = .ok (.invokevirtual 140, 3) := by decide +kernel
theorem dX11_leaps_39 : decode cX11_leaps 39 = .ok (.iconst 0, 1) := by decide +kernel
theorem dX11_leaps_40 : decode cX11_leaps 40 = .ok (.istore 6, 2) := by decide +kernel
theorem dX11_leaps_42 : decode cX11_leaps 42 = .ok (.iload 6, 2) := by decide +kernel
theorem dX11_leaps_44 : decode cX11_leaps 44 = .ok (.iload 5, 2) := by decide +kernel
theorem dX11_leaps_46 : decode cX11_leaps 46 = .ok (.if_icmp .ge 27, 3) := by decide +kernel
theorem dX11_leaps_49 : decode cX11_leaps 49 = .ok (.aload_n 0, 1) := by decide +kernel
theorem dX11_leaps_50 : decode cX11_leaps 50 = .ok (.getfield 29, 3) := by decide +kernel
theorem dX11_leaps_53 : decode cX11_leaps 53 = .ok (.iconst 4, 1) := by decide +kernel
theorem dX11_leaps_54 : decode cX11_leaps 54 = .ok (.iload_n 1, 1) := by decide +kernel
theorem dX11_leaps_55 : decode cX11_leaps 55 = .ok (.imul, 1) := by decide +kernel
theorem dX11_leaps_56 : decode cX11_leaps 56 = .ok (.iload 6, 2) := by decide +kernel
theorem dX11_leaps_58 : decode cX11_leaps 58 = .ok (.iadd, 1) := by decide +kernel
theorem dX11_leaps_59 : decode cX11_leaps 59 = .ok (.aload_n 0, 1) := by decide +kernel
theorem dX11_leaps_60 : decode cX11_leaps 60 = .ok (.getfield 51, 3) := by decide +kernel
