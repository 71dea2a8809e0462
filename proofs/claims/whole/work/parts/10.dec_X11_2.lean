theorem dX11_isStill_60 : decode cX11_isStill 60 = .ok (.ireturn, 1) := by decide +kernel
theorem dX11_isStill_61 : decode cX11_isStill 61 = .ok (.iinc 6 1, 3) := by decide +kernel
theorem dX11_isStill_64 : decode cX11_isStill 64 = .ok (.goto (-41), 3) := by decide +kernel
theorem dX11_isStill_67 : decode cX11_isStill 67 = .ok (.iinc 5 1, 3) := by decide +kernel
theorem dX11_isStill_70 : decode cX11_isStill 70 = .ok (.goto (-59), 3) := by decide +kernel
theorem dX11_isStill_73 : decode cX11_isStill 73 = .ok (.iconst 1, 1) := by decide +kernel
theorem dX11_isStill_74 : decode cX11_isStill 74 = .ok (.ireturn, 1) := by decide +kernel
theorem dX11_orderOf_0 : decode cX11_orderOf 0 = .ok (.aload_n 0, 1) := by decide +kernel
theorem dX11_orderOf_1 : decode cX11_orderOf 1 = .ok (.aload_n 0, 1) := by decide +kernel
theorem dX11_orderOf_2 : decode cX11_orderOf 2 = .ok (.getfield 17, 3) := by decide +kernel
theorem dX11_orderOf_5 : decode cX11_orderOf 5 = .ok (.iload_n 1, 1) := by decide +kernel
theorem dX11_orderOf_6 : decode cX11_orderOf 6 = .ok (.iaload, 1) := by decide +kernel
theorem dX11_orderOf_7 : decode cX11_orderOf 7 = .ok (.invokevirtual 164, 3) := by decide +kernel
theorem dX11_orderOf_10 : decode cX11_orderOf 10 = .ok (.lconst 1, 1) := by decide +kernel
theorem dX11_orderOf_11 : decode cX11_orderOf 11 = .ok (.lstore_n 2, 1) := by decide +kernel
theorem dX11_orderOf_12 : decode cX11_orderOf 12 = .ok (.iconst 0, 1) := by decide +kernel
theorem dX11_orderOf_13 : decode cX11_orderOf 13 = .ok (.istore 4, 2) := by decide +kernel
theorem dX11_orderOf_15 : decode cX11_orderOf 15 = .ok (.iload 4, 2) := by decide +kernel
theorem dX11_orderOf_17 : decode cX11_orderOf 17 = .ok (.aload_n 0, 1) := by decide +kernel
theorem dX11_orderOf_18 : decode cX11_orderOf 18 = .ok (.getfield 158, 3) := by decide +kernel
theorem dX11_orderOf_21 : decode cX11_orderOf 21 = .ok (.if_icmp .ge 83, 3) := by decide +kernel
theorem dX11_orderOf_24 : decode cX11_orderOf 24 = .ok (.aload_n 0, 1) := by decide +kernel
theorem dX11_orderOf_25 : decode cX11_orderOf 25 = .ok (.iload 4, 2) := by decide +kernel
theorem dX11_orderOf_27 : decode cX11_orderOf 27 = .ok (.invokevirtual 189, 3) := by decide +kernel
theorem dX11_orderOf_30 : decode cX11_orderOf 30 = .ok (.aload_n 0, 1) := by decide +kernel
theorem dX11_orderOf_31 : decode cX11_orderOf 31 = .ok (.getfield 176, 3) := by decide +kernel
theorem dX11_orderOf_34 : decode cX11_orderOf 34 = .ok (.lstore 5, 2) := by decide +kernel
theorem dX11_orderOf_36 : decode cX11_orderOf 36 = .ok (.iconst 0, 1) := by decide +kernel
theorem dX11_orderOf_37 : decode cX11_orderOf 37 = .ok (.istore 7, 2) := by decide +kernel
theorem dX11_orderOf_39 : decode cX11_orderOf 39 = .ok (.iload 7, 2) := by decide +kernel
theorem dX11_orderOf_41 : decode cX11_orderOf 41 = .ok (.aload_n 0, 1) := by decide +kernel
theorem dX11_orderOf_42 : decode cX11_orderOf 42 = .ok (.getfield 167, 3) := by decide +kernel
theorem dX11_orderOf_45 : decode cX11_orderOf 45 = .ok (.if_icmp .ge 46, 3) := by decide +kernel
theorem dX11_orderOf_48 : decode cX11_orderOf 48 = .ok (.aload_n 0, 1) := by decide +kernel
theorem dX11_orderOf_49 : decode cX11_orderOf 49 = .ok (.iload_n 1, 1) := by decide +kernel
theorem dX11_orderOf_50 : decode cX11_orderOf 50 = .ok (.lload 5, 2) := by decide +kernel
theorem dX11_orderOf_52 : decode cX11_orderOf 52 = .ok (.aload_n 0, 1) := by decide +kernel
theorem dX11_orderOf_53 : decode cX11_orderOf 53 = .ok (.getfield 63, 3) := by decide +kernel
theorem dX11_orderOf_56 : decode cX11_orderOf 56 = .ok (.iload 7, 2) := by decide +kernel
theorem dX11_orderOf_58 : decode cX11_orderOf 58 = .ok (.laload, 1) := by decide +kernel
theorem dX11_orderOf_59 : decode cX11_orderOf 59 = .ok (.ldiv, 1) := by decide +kernel
theorem dX11_orderOf_60 : decode cX11_orderOf 60 = .ok (.aload_n 0, 1) := by decide +kernel
theorem dX11_orderOf_61 : decode cX11_orderOf 61 = .ok (.getfield 57, 3) := by decide +kernel
theorem dX11_orderOf_64 : decode cX11_orderOf 64 = .ok (.iload 4, 2) := by decide +kernel
theorem dX11_orderOf_66 : decode cX11_orderOf 66 = .ok (.iaload, 1) := by decide +kernel
theorem dX11_orderOf_67 : decode cX11_orderOf 67 = .ok (.invokevirtual 208, 3) := by decide +kernel
theorem dX11_orderOf_70 : decode cX11_orderOf 70 = .ok (.ifCond .eq 15, 3) := by decide +kernel
theorem dX11_orderOf_73 : decode cX11_orderOf 73 = .ok (.lload 5, 2) := by decide +kernel
theorem dX11_orderOf_75 : decode cX11_orderOf 75 = .ok (.aload_n 0, 1) := by decide +kernel
theorem dX11_orderOf_76 : decode cX11_orderOf 76 = .ok (.getfield 63, 3) := by decide +kernel
theorem dX11_orderOf_79 : decode cX11_orderOf 79 = .ok (.iload 7, 2) := by decide +kernel
theorem dX11_orderOf_81 : decode cX11_orderOf 81 = .ok (.laload, 1) := by decide +kernel
theorem dX11_orderOf_82 : decode cX11_orderOf 82 = .ok (.ldiv, 1) := by decide +kernel
theorem dX11_orderOf_83 : decode cX11_orderOf 83 = .ok (.lstore 5, 2) := by decide +kernel
theorem dX11_orderOf_85 : decode cX11_orderOf 85 = .ok (.iinc 7 1, 3) := by decide +kernel
theorem dX11_orderOf_88 : decode cX11_orderOf 88 = .ok (.goto (-49), 3) := by decide +kernel
theorem dX11_orderOf_91 : decode cX11_orderOf 91 = .ok (.lload_n 2, 1) := by decide +kernel
theorem dX11_orderOf_92 : decode cX11_orderOf 92 = .ok (.lload 5, 2) := by decide +kernel
theorem dX11_orderOf_94 : decode cX11_orderOf 94 = .ok (.invokestatic 199, 3) := by decide +kernel
theorem dX11_orderOf_97 : decode cX11_orderOf 97 = .ok (.lstore_n 2, 1) := by decide +kernel
theorem dX11_orderOf_98 : decode cX11_orderOf 98 = .ok (.iinc 4 1, 3) := by decide +kernel
theorem dX11_orderOf_101 : decode cX11_orderOf 101 = .ok (.goto (-86), 3) := by decide +kernel
theorem dX11_orderOf_104 : decode cX11_orderOf 104 = .ok (.lload_n 2, 1) := by decide +kernel
theorem dX11_orderOf_105 : decode cX11_orderOf 105 = .ok (.lreturn, 1) := by decide +kernel
theorem dX11_order_0 : decode cX11_order 0 = .ok (.aload_n 0, 1) := by decide +kernel
theorem dX11_order_1 : decode cX11_order 1 = .ok (.iconst 0, 1) := by decide +kernel
theorem dX11_order_2 : decode cX11_order 2 = .ok (.putfield 104, 3) := by decide +kernel
theorem dX11_order_5 : decode cX11_order 5 = .ok (.aload_n 0, 1) := by decide +kernel
theorem dX11_order_6 : decode cX11_order 6 = .ok (.iload_n 1, 1) := by decide +kernel
theorem dX11_order_7 : decode cX11_order 7 = .ok (.invokevirtual 108, 3) := by decide +kernel
theorem dX11_order_10 : decode cX11_order 10 = .ok (.ifCond .eq 19, 3) := by decide +kernel
theorem dX11_order_13 : decode cX11_order 13 = .ok (.aload_n 0, 1) := by decide +kernel
theorem dX11_order_14 : decode cX11_order 14 = .ok (.iload_n 1, 1) := by decide +kernel
theorem dX11_order_15 : decode cX11_order 15 = .ok (.invokevirtual 161, 3) := by decide +kernel
theorem dX11_order_18 : decode cX11_order 18 = .ok (.ifCond .eq 11, 3) := by decide +kernel
theorem dX11_order_21 : decode cX11_order 21 = .ok (.aload_n 0, 1) := by decide +kernel
theorem dX11_order_22 : decode cX11_order 22 = .ok (.iload_n 1, 1) := by decide +kernel
theorem dX11_order_23 : decode cX11_order 23 = .ok (.invokevirtual 211, 3) := by decide +kernel
theorem dX11_order_26 : decode cX11_order 26 = .ok (.goto 6, 3) := by decide +kernel
theorem dX11_order_29 : decode cX11_order 29 = .ok (.ldc2_w 206, 3) := by decide +kernel
theorem dX11_order_32 : decode cX11_order 32 = .ok (.lreturn, 1) := by decide +kernel
theorem dX11_back_0 : decode cX11_back 0 = .ok (.aload_n 0, 1) := by decide +kernel
theorem dX11_back_1 : decode cX11_back 1 = .ok (.iconst 0, 1) := by decide +kernel
theorem dX11_back_2 : decode cX11_back 2 = .ok (.putfield 104, 3) := by decide +kernel
theorem dX11_back_5 : decode cX11_back 5 = .ok (.aload_n 0, 1) := by decide +kernel
theorem dX11_back_6 : decode cX11_back 6 = .ok (.iload_n 1, 1) := by decide +kernel
theorem dX11_back_7 : decode cX11_back 7 = .ok (.invokevirtual 108, 3) := by decide +kernel
theorem dX11_back_10 : decode cX11_back 10 = .ok (.ifCond .eq 17, 3) := by decide +kernel
theorem dX11_back_13 : decode cX11_back 13 = .ok (.lload_n 2, 1) := by decide +kernel
theorem dX11_back_14 : decode cX11_back 14 = .ok (.lconst 0, 1) := by decide +kernel
theorem dX11_back_15 : decode cX11_back 15 = .ok (.lcmp, 1) := by decide +kernel
theorem dX11_back_16 : decode cX11_back 16 = .ok (.ifCond .lt 11, 3) := by decide +kernel
theorem dX11_back_19 : decode cX11_back 19 = .ok (.aload_n 0, 1) := by decide +kernel
theorem dX11_back_20 : decode cX11_back 20 = .ok (.iload_n 1, 1) := by decide +kernel
theorem dX11_back_21 : decode cX11_back 21 = .ok (.invokevirtual 161, 3) := by decide +kernel
theorem dX11_back_24 : decode cX11_back 24 = .ok (.ifCond .ne 5, 3) := by decide +kernel
theorem dX11_back_27 : decode cX11_back 27 = .ok (.iconst 0, 1) := by decide +kernel
theorem dX11_back_28 : decode cX11_back 28 = .ok (.ireturn, 1) := by decide +kernel
theorem dX11_back_29 : decode cX11_back 29 = .ok (.aload_n 0, 1) := by decide +kernel
theorem dX11_back_30 : decode cX11_back 30 = .ok (.iload_n 1, 1) := by decide +kernel
theorem dX11_back_31 : decode cX11_back 31 = .ok (.invokevirtual 211, 3) := by decide +kernel
theorem dX11_back_34 : decode cX11_back 34 = .ok (.lstore 4, 2) := by decide +kernel
theorem dX11_back_36 : decode cX11_back 36 = .ok (.aload_n 0, 1) := by decide +kernel
theorem dX11_back_37 : decode cX11_back 37 = .ok (.iload_n 1, 1) := by decide +kernel
theorem dX11_back_38 : decode cX11_back 38 = .ok (.lload 4, 2) := by decide +kernel
theorem dX11_back_40 : decode cX11_back 40 = .ok (.lload_n 2, 1) := by decide +kernel
theorem dX11_back_41 : decode cX11_back 41 = .ok (.lload 4, 2) := by decide +kernel
theorem dX11_back_43 : decode cX11_back 43 = .ok (.lrem, 1) := by decide +kernel
theorem dX11_back_44 : decode cX11_back 44 = .ok (.lsub, 1) := by decide +kernel
theorem dX11_back_45 : decode cX11_back 45 = .ok (.lload 4, 2) := by decide +kernel
theorem dX11_back_47 : decode cX11_back 47 = .ok (.lrem, 1) := by decide +kernel
theorem dX11_back_48 : decode cX11_back 48 = .ok (.invokevirtual 146, 3) := by decide +kernel
theorem dX11_back_51 : decode cX11_back 51 = .ok (.iconst 1, 1) := by decide +kernel
theorem dX11_back_52 : decode cX11_back 52 = .ok (.ireturn, 1) := by decide +kernel
theorem dX11_solutions_0 : decode cX11_solutions 0 = .ok (.iconst 0, 1) := by decide +kernel
theorem dX11_solutions_1 : decode cX11_solutions 1 = .ok (.istore_n 3, 1) := by decide +kernel
theorem dX11_solutions_2 : decode cX11_solutions 2 = .ok (.iload_n 3, 1) := by decide +kernel
theorem dX11_solutions_3 : decode cX11_solutions 3 = .ok (.iconst 4, 1) := by decide +kernel
theorem dX11_solutions_4 : decode cX11_solutions 4 = .ok (.if_icmp .ge 23, 3) := by decide +kernel
theorem dX11_solutions_7 : decode cX11_solutions 7 = .ok (.aload_n 0, 1) := by decide +kernel
theorem dX11_solutions_8 : decode cX11_solutions 8 = .ok (.getfield 70, 3) := by decide +kernel
theorem dX11_solutions_11 : decode cX11_solutions 11 = .ok (.iload_n 3, 1) := by decide +kernel
theorem dX11_solutions_12 : decode cX11_solutions 12 = .ok (.iconst 0, 1) := by decide +kernel
theorem dX11_solutions_13 : decode cX11_solutions 13 = .ok (.bastore, 1) := by decide +kernel
theorem dX11_solutions_14 : decode cX11_solutions 14 = .ok (.aload_n 0, 1) := by decide +kernel
theorem dX11_solutions_15 : decode cX11_solutions 15 = .ok (.getfield 73, 3) := by decide +kernel
theorem dX11_solutions_18 : decode cX11_solutions 18 = .ok (.iload_n 3, 1) := by decide +kernel
theorem dX11_solutions_19 : decode cX11_solutions 19 = .ok (.iconst 0, 1) := by decide +kernel
theorem dX11_solutions_20 : decode cX11_solutions 20 = .ok (.bastore, 1) := by decide +kernel
theorem dX11_solutions_21 : decode cX11_solutions 21 = .ok (.iinc 3 1, 3) := by decide +kernel
theorem dX11_solutions_24 : decode cX11_solutions 24 = .ok (.goto (-22), 3) := by decide +kernel
theorem dX11_solutions_27 : decode cX11_solutions 27 = .ok (.lconst 1, 1) := by decide +kernel
theorem dX11_solutions_28 : decode cX11_solutions 28 = .ok (.lstore_n 3, 1) := by decide +kernel
theorem dX11_solutions_29 : decode cX11_solutions 29 = .ok (.iconst 0, 1) := by decide +kernel
theorem dX11_solutions_30 : decode cX11_solutions 30 = .ok (.istore 5, 2) := by decide +kernel
theorem dX11_solutions_32 : decode cX11_solutions 32 = .ok (.iload 5, 2) := by decide +kernel
theorem dX11_solutions_34 : decode cX11_solutions 34 = .ok (.iload_n 1, 1) := by decide +kernel
theorem dX11_solutions_35 : decode cX11_solutions 35 = .ok (.if_icmp .ge 180, 3) := by decide +kernel
theorem dX11_solutions_38 : decode cX11_solutions 38 = .ok (.iload_n 2, 1) := by decide +kernel
theorem dX11_solutions_39 : decode cX11_solutions 39 = .ok (.istore 6, 2) := by decide +kernel
theorem dX11_solutions_41 : decode cX11_solutions 41 = .ok (.iconst (-1), 1) := by decide +kernel
theorem dX11_solutions_42 : decode cX11_solutions 42 = .ok (.istore 7, 2) := by decide +kernel
theorem dX11_solutions_44 : decode cX11_solutions 44 = .ok (.iconst (-1), 1) := by decide +kernel
theorem dX11_solutions_45 : decode cX11_solutions 45 = .ok (.istore 8, 2) := by decide +kernel
theorem dX11_solutions_47 : decode cX11_solutions 47 = .ok (.iconst 0, 1) := by decide +kernel
theorem dX11_solutions_48 : decode cX11_solutions 48 = .ok (.istore 9, 2) := by decide +kernel
theorem dX11_solutions_50 : decode cX11_solutions 50 = .ok (.iload 9, 2) := by decide +kernel
theorem dX11_solutions_52 : decode cX11_solutions 52 = .ok (.iload_n 1, 1) := by decide +kernel
theorem dX11_solutions_53 : decode cX11_solutions 53 = .ok (.if_icmp .ge 84, 3) := by decide +kernel
theorem dX11_solutions_56 : decode cX11_solutions 56 = .ok (.iconst 0, 1) := by decide +kernel
theorem dX11_solutions_57 : decode cX11_solutions 57 = .ok (.istore 10, 2) := by decide +kernel
theorem dX11_solutions_59 : decode cX11_solutions 59 = .ok (.iload 10, 2) := by decide +kernel
theorem dX11_solutions_61 : decode cX11_solutions 61 = .ok (.iload_n 1, 1) := by decide +kernel
theorem dX11_solutions_62 : decode cX11_solutions 62 = .ok (.if_icmp .ge 69, 3) := by decide +kernel
theorem dX11_solutions_65 : decode cX11_solutions 65 = .ok (.aload_n 0, 1) := by decide +kernel
theorem dX11_solutions_66 : decode cX11_solutions 66 = .ok (.getfield 67, 3) := by decide +kernel
theorem dX11_solutions_69 : decode cX11_solutions 69 = .ok (.iconst 5, 1) := by decide +kernel
theorem dX11_solutions_70 : decode cX11_solutions 70 = .ok (.iload 9, 2) := by decide +kernel
theorem dX11_solutions_72 : decode cX11_solutions 72 = .ok (.imul, 1) := by decide +kernel
theorem dX11_solutions_73 : decode cX11_solutions 73 = .ok (.iload 10, 2) := by decide +kernel
theorem dX11_solutions_75 : decode cX11_solutions 75 = .ok (.iadd, 1) := by decide +kernel
theorem dX11_solutions_76 : decode cX11_solutions 76 = .ok (.iaload, 1) := by decide +kernel
theorem dX11_solutions_77 : decode cX11_solutions 77 = .ok (.iload_n 2, 1) := by decide +kernel
theorem dX11_solutions_78 : decode cX11_solutions 78 = .ok (.invokestatic 154, 3) := by decide +kernel
theorem dX11_solutions_81 : decode cX11_solutions 81 = .ok (.istore 11, 2) := by decide +kernel
theorem dX11_solutions_83 : decode cX11_solutions 83 = .ok (.aload_n 0, 1) := by decide +kernel
theorem dX11_solutions_84 : decode cX11_solutions 84 = .ok (.getfield 70, 3) := by decide +kernel
theorem dX11_solutions_87 : decode cX11_solutions 87 = .ok (.iload 9, 2) := by decide +kernel
theorem dX11_solutions_89 : decode cX11_solutions 89 = .ok (.baload, 1) := by decide +kernel
theorem dX11_solutions_90 : decode cX11_solutions 90 = .ok (.ifCond .ne 35, 3) := by decide +kernel
theorem dX11_solutions_93 : decode cX11_solutions 93 = .ok (.aload_n 0, 1) := by decide +kernel
theorem dX11_solutions_94 : decode cX11_solutions 94 = .ok (.getfield 73, 3) := by decide +kernel
theorem dX11_solutions_97 : decode cX11_solutions 97 = .ok (.iload 10, 2) := by decide +kernel
theorem dX11_solutions_99 : decode cX11_solutions 99 = .ok (.baload, 1) := by decide +kernel
theorem dX11_solutions_100 : decode cX11_solutions 100 = .ok (.ifCond .ne 25, 3) := by decide +kernel
theorem dX11_solutions_103 : decode cX11_solutions 103 = .ok (.iload 11, 2) := by decide +kernel
theorem dX11_solutions_105 : decode cX11_solutions 105 = .ok (.iload 6, 2) := by decide +kernel
theorem dX11_solutions_107 : decode cX11_solutions 107 = .ok (.if_icmp .lt 6, 3) := by decide +kernel
theorem dX11_solutions_110 : decode cX11_solutions 110 = .ok (.goto 15, 3) := by decide +kernel
theorem dX11_solutions_113 : decode cX11_solutions 113 = .ok (.iload 11, 2) := by decide +kernel
theorem dX11_solutions_115 : decode cX11_solutions 115 = .ok (.istore 6, 2) := by decide +kernel
theorem dX11_solutions_117 : decode cX11_solutions 117 = .ok (.iload 9, 2) := by decide +kernel
theorem dX11_solutions_119 : decode cX11_solutions 119 = .ok (.istore 7, 2) := by decide +kernel
theorem dX11_solutions_121 : decode cX11_solutions 121 = .ok (.iload 10, 2) := by decide +kernel
theorem dX11_solutions_123 : decode cX11_solutions 123 = .ok (.istore 8, 2) := by decide +kernel
theorem dX11_solutions_125 : decode cX11_solutions 125 = .ok (.iinc 10 1, 3) := by decide +kernel
theorem dX11_solutions_128 : decode cX11_solutions 128 = .ok (.goto (-69), 3) := by decide +kernel
theorem dX11_solutions_131 : decode cX11_solutions 131 = .ok (.iinc 9 1, 3) := by decide +kernel
theorem dX11_solutions_134 : decode cX11_solutions 134 = .ok (.goto (-84), 3) := by decide +kernel
theorem dX11_solutions_137 : decode cX11_solutions 137 = .ok (.iload 7, 2) := by decide +kernel
theorem dX11_solutions_139 : decode cX11_solutions 139 = .ok (.iconst (-1), 1) := by decide +kernel
theorem dX11_solutions_140 : decode cX11_solutions 140 = .ok (.if_icmp .ne 16, 3) := by decide +kernel
theorem dX11_solutions_143 : decode cX11_solutions 143 = .ok (.lload_n 3, 1) := by decide +kernel
theorem dX11_solutions_144 : decode cX11_solutions 144 = .ok (.aload_n 0, 1) := by decide +kernel
theorem dX11_solutions_145 : decode cX11_solutions 145 = .ok (.iload_n 1, 1) := by decide +kernel
theorem dX11_solutions_146 : decode cX11_solutions 146 = .ok (.iload_n 2, 1) := by decide +kernel
theorem dX11_solutions_147 : decode cX11_solutions 147 = .ok (.iload_n 1, 1) := by decide +kernel
theorem dX11_solutions_148 : decode cX11_solutions 148 = .ok (.iload 5, 2) := by decide +kernel
theorem dX11_solutions_150 : decode cX11_solutions 150 = .ok (.isub, 1) := by decide +kernel
theorem dX11_solutions_151 : decode cX11_solutions 151 = .ok (.invokevirtual 214, 3) := by decide +kernel
theorem dX11_solutions_154 : decode cX11_solutions 154 = .ok (.lmul, 1) := by decide +kernel
theorem dX11_solutions_155 : decode cX11_solutions 155 = .ok (.lreturn, 1) := by decide +kernel
theorem dX11_solutions_156 : decode cX11_solutions 156 = .ok (.aload_n 0, 1) := by decide +kernel
theorem dX11_solutions_157 : decode cX11_solutions 157 = .ok (.getfield 70, 3) := by decide +kernel
theorem dX11_solutions_160 : decode cX11_solutions 160 = .ok (.iload 7, 2) := by decide +kernel
theorem dX11_solutions_162 : decode cX11_solutions 162 = .ok (.iconst 1, 1) := by decide +kernel
theorem dX11_solutions_163 : decode cX11_solutions 163 = .ok (.bastore, 1) := by decide +kernel
theorem dX11_solutions_164 : decode cX11_solutions 164 = .ok (.aload_n 0, 1) := by decide +kernel
theorem dX11_solutions_165 : decode cX11_solutions 165 = .ok (.getfield 73, 3) := by decide +kernel
theorem dX11_solutions_168 : decode cX11_solutions 168 = .ok (.iload 8, 2) := by decide +kernel
theorem dX11_solutions_170 : decode cX11_solutions 170 = .ok (.iconst 1, 1) := by decide +kernel
theorem dX11_solutions_171 : decode cX11_solutions 171 = .ok (.bastore, 1) := by decide +kernel
theorem dX11_solutions_172 : decode cX11_solutions 172 = .ok (.aload_n 0, 1) := by decide +kernel
theorem dX11_solutions_173 : decode cX11_solutions 173 = .ok (.getfield 67, 3) := by decide +kernel
theorem dX11_solutions_176 : decode cX11_solutions 176 = .ok (.iconst 5, 1) := by decide +kernel
theorem dX11_solutions_177 : decode cX11_solutions 177 = .ok (.iload 7, 2) := by decide +kernel
theorem dX11_solutions_179 : decode cX11_solutions 179 = .ok (.imul, 1) := by decide +kernel
theorem dX11_solutions_180 : decode cX11_solutions 180 = .ok (.iload_n 1, 1) := by decide +kernel
theorem dX11_solutions_181 : decode cX11_solutions 181 = .ok (.iadd, 1) := by decide +kernel
theorem dX11_solutions_182 : decode cX11_solutions 182 = .ok (.iaload, 1) := by decide +kernel
theorem dX11_solutions_183 : decode cX11_solutions 183 = .ok (.iload 6, 2) := by decide +kernel
theorem dX11_solutions_185 : decode cX11_solutions 185 = .ok (.irem, 1) := by decide +kernel
theorem dX11_solutions_186 : decode cX11_solutions 186 = .ok (.ifCond .eq 5, 3) := by decide +kernel
theorem dX11_solutions_189 : decode cX11_solutions 189 = .ok (.lconst 0, 1) := by decide +kernel
theorem dX11_solutions_190 : decode cX11_solutions 190 = .ok (.lreturn, 1) := by decide +kernel
theorem dX11_solutions_191 : decode cX11_solutions 191 = .ok (.lload_n 3, 1) := by decide +kernel
theorem dX11_solutions_192 : decode cX11_solutions 192 = .ok (.iload 6, 2) := by decide +kernel
theorem dX11_solutions_194 : decode cX11_solutions 194 = .ok (.i2l, 1) := by decide +kernel
theorem dX11_solutions_195 : decode cX11_solutions 195 = .ok (.lmul, 1) := by decide +kernel
theorem dX11_solutions_196 : decode cX11_solutions 196 = .ok (.lstore_n 3, 1) := by decide +kernel
theorem dX11_solutions_197 : decode cX11_solutions 197 = .ok (.aload_n 0, 1) := by decide +kernel
theorem dX11_solutions_198 : decode cX11_solutions 198 = .ok (.iload_n 1, 1) := by decide +kernel
theorem dX11_solutions_199 : decode cX11_solutions 199 = .ok (.iload_n 2, 1) := by decide +kernel
theorem dX11_solutions_200 : decode cX11_solutions 200 = .ok (.iload 7, 2) := by decide +kernel
theorem dX11_solutions_202 : decode cX11_solutions 202 = .ok (.iload 8, 2) := by decide +kernel
theorem dX11_solutions_204 : decode cX11_solutions 204 = .ok (.iload 6, 2) := by decide +kernel
theorem dX11_solutions_206 : decode cX11_solutions 206 = .ok (.invokevirtual 218, 3) := by decide +kernel
theorem dX11_solutions_209 : decode cX11_solutions 209 = .ok (.iinc 5 1, 3) := by decide +kernel
theorem dX11_solutions_212 : decode cX11_solutions 212 = .ok (.goto (-180), 3) := by decide +kernel
theorem dX11_solutions_215 : decode cX11_solutions 215 = .ok (.lload_n 3, 1) := by decide +kernel
theorem dX11_solutions_216 : decode cX11_solutions 216 = .ok (.lreturn, 1) := by decide +kernel
theorem dX11_stays_0 : decode cX11_stays 0 = .ok (.lconst 1, 1) := by decide +kernel
theorem dX11_stays_1 : decode cX11_stays 1 = .ok (.lstore 4, 2) := by decide +kernel
theorem dX11_stays_3 : decode cX11_stays 3 = .ok (.iconst 0, 1) := by decide +kernel
theorem dX11_stays_4 : decode cX11_stays 4 = .ok (.istore 6, 2) := by decide +kernel
theorem dX11_stays_6 : decode cX11_stays 6 = .ok (.iload 6, 2) := by decide +kernel
theorem dX11_stays_8 : decode cX11_stays 8 = .ok (.iload_n 1, 1) := by decide +kernel
theorem dX11_stays_9 : decode cX11_stays 9 = .ok (.if_icmp .ge 37, 3) := by decide +kernel
theorem dX11_stays_12 : decode cX11_stays 12 = .ok (.aload_n 0, 1) := by decide +kernel
theorem dX11_stays_13 : decode cX11_stays 13 = .ok (.getfield 70, 3) := by decide +kernel
theorem dX11_stays_16 : decode cX11_stays 16 = .ok (.iload 6, 2) := by decide +kernel
theorem dX11_stays_18 : decode cX11_stays 18 = .ok (.baload, 1) := by decide +kernel
theorem dX11_stays_19 : decode cX11_stays 19 = .ok (.ifCond .ne 21, 3) := by decide +kernel
theorem dX11_stays_22 : decode cX11_stays 22 = .ok (.aload_n 0, 1) := by decide +kernel
theorem dX11_stays_23 : decode cX11_stays 23 = .ok (.getfield 67, 3) := by decide +kernel
theorem dX11_stays_26 : decode cX11_stays 26 = .ok (.iconst 5, 1) := by decide +kernel
theorem dX11_stays_27 : decode cX11_stays 27 = .ok (.iload 6, 2) := by decide +kernel
theorem dX11_stays_29 : decode cX11_stays 29 = .ok (.imul, 1) := by decide +kernel
theorem dX11_stays_30 : decode cX11_stays 30 = .ok (.iload_n 1, 1) := by decide +kernel
theorem dX11_stays_31 : decode cX11_stays 31 = .ok (.iadd, 1) := by decide +kernel
theorem dX11_stays_32 : decode cX11_stays 32 = .ok (.iaload, 1) := by decide +kernel
theorem dX11_stays_33 : decode cX11_stays 33 = .ok (.iload_n 2, 1) := by decide +kernel
theorem dX11_stays_34 : decode cX11_stays 34 = .ok (.irem, 1) := by decide +kernel
theorem dX11_stays_35 : decode cX11_stays 35 = .ok (.ifCond .eq 5, 3) := by decide +kernel
theorem dX11_stays_38 : decode cX11_stays 38 = .ok (.lconst 0, 1) := by decide +kernel
theorem dX11_stays_39 : decode cX11_stays 39 = .ok (.lreturn, 1) := by decide +kernel
theorem dX11_stays_40 : decode cX11_stays 40 = .ok (.iinc 6 1, 3) := by decide +kernel
theorem dX11_stays_43 : decode cX11_stays 43 = .ok (.goto (-37), 3) := by decide +kernel
theorem dX11_stays_46 : decode cX11_stays 46 = .ok (.iconst 0, 1) := by decide +kernel
theorem dX11_stays_47 : decode cX11_stays 47 = .ok (.istore 6, 2) := by decide +kernel
theorem dX11_stays_49 : decode cX11_stays 49 = .ok (.iload 6, 2) := by decide +kernel
theorem dX11_stays_51 : decode cX11_stays 51 = .ok (.iload_n 3, 1) := by decide +kernel
theorem dX11_stays_52 : decode cX11_stays 52 = .ok (.if_icmp .ge 16, 3) := by decide +kernel
theorem dX11_stays_55 : decode cX11_stays 55 = .ok (.lload 4, 2) := by decide +kernel
theorem dX11_stays_57 : decode cX11_stays 57 = .ok (.iload_n 2, 1) := by decide +kernel
theorem dX11_stays_58 : decode cX11_stays 58 = .ok (.i2l, 1) := by decide +kernel
theorem dX11_stays_59 : decode cX11_stays 59 = .ok (.lmul, 1) := by decide +kernel
theorem dX11_stays_60 : decode cX11_stays 60 = .ok (.lstore 4, 2) := by decide +kernel
theorem dX11_stays_62 : decode cX11_stays 62 = .ok (.iinc 6 1, 3) := by decide +kernel
theorem dX11_stays_65 : decode cX11_stays 65 = .ok (.goto (-16), 3) := by decide +kernel
theorem dX11_stays_68 : decode cX11_stays 68 = .ok (.lload 4, 2) := by decide +kernel
theorem dX11_stays_70 : decode cX11_stays 70 = .ok (.lreturn, 1) := by decide +kernel
theorem dX11_sweeps_0 : decode cX11_sweeps 0 = .ok (.aload_n 0, 1) := by decide +kernel
theorem dX11_sweeps_1 : decode cX11_sweeps 1 = .ok (.getfield 67, 3) := by decide +kernel
theorem dX11_sweeps_4 : decode cX11_sweeps 4 = .ok (.iconst 5, 1) := by decide +kernel
theorem dX11_sweeps_5 : decode cX11_sweeps 5 = .ok (.iload_n 3, 1) := by decide +kernel
theorem dX11_sweeps_6 : decode cX11_sweeps 6 = .ok (.imul, 1) := by decide +kernel
theorem dX11_sweeps_7 : decode cX11_sweeps 7 = .ok (.iload 4, 2) := by decide +kernel
theorem dX11_sweeps_9 : decode cX11_sweeps 9 = .ok (.iadd, 1) := by decide +kernel
theorem dX11_sweeps_10 : decode cX11_sweeps 10 = .ok (.iaload, 1) := by decide +kernel
theorem dX11_sweeps_11 : decode cX11_sweeps 11 = .ok (.iload 5, 2) := by decide +kernel
theorem dX11_sweeps_13 : decode cX11_sweeps 13 = .ok (.idiv, 1) := by decide +kernel
theorem dX11_sweeps_14 : decode cX11_sweeps 14 = .ok (.istore 6, 2) := by decide +kernel
theorem dX11_sweeps_16 : decode cX11_sweeps 16 = .ok (.iconst 1, 1) := by decide +kernel
theorem dX11_sweeps_17 : decode cX11_sweeps 17 = .ok (.istore 7, 2) := by decide +kernel
theorem dX11_sweeps_19 : decode cX11_sweeps 19 = .ok (.iload 7, 2) := by decide +kernel
theorem dX11_sweeps_21 : decode cX11_sweeps 21 = .ok (.iload 6, 2) := by decide +kernel
theorem dX11_sweeps_23 : decode cX11_sweeps 23 = .ok (.imul, 1) := by decide +kernel
theorem dX11_sweeps_24 : decode cX11_sweeps 24 = .ok (.iload_n 2, 1) := by decide +kernel
theorem dX11_sweeps_25 : decode cX11_sweeps 25 = .ok (.iload 5, 2) := by decide +kernel
theorem dX11_sweeps_27 : decode cX11_sweeps 27 = .ok (.idiv, 1) := by decide +kernel
theorem dX11_sweeps_28 : decode cX11_sweeps 28 = .ok (.irem, 1) := by decide +kernel
theorem dX11_sweeps_29 : decode cX11_sweeps 29 = .ok (.iconst 1, 1) := by decide +kernel
theorem dX11_sweeps_30 : decode cX11_sweeps 30 = .ok (.iload_n 2, 1) := by decide +kernel
theorem dX11_sweeps_31 : decode cX11_sweeps 31 = .ok (.iload 5, 2) := by decide +kernel
theorem dX11_sweeps_33 : decode cX11_sweeps 33 = .ok (.idiv, 1) := by decide +kernel
theorem dX11_sweeps_34 : decode cX11_sweeps 34 = .ok (.irem, 1) := by decide +kernel
theorem dX11_sweeps_35 : decode cX11_sweeps 35 = .ok (.if_icmp .eq 9, 3) := by decide +kernel
theorem dX11_sweeps_38 : decode cX11_sweeps 38 = .ok (.iinc 7 1, 3) := by decide +kernel
theorem dX11_sweeps_41 : decode cX11_sweeps 41 = .ok (.goto (-22), 3) := by decide +kernel
theorem dX11_sweeps_44 : decode cX11_sweeps 44 = .ok (.iconst 0, 1) := by decide +kernel
theorem dX11_sweeps_45 : decode cX11_sweeps 45 = .ok (.istore 8, 2) := by decide +kernel
theorem dX11_sweeps_47 : decode cX11_sweeps 47 = .ok (.iload 8, 2) := by decide +kernel
theorem dX11_sweeps_49 : decode cX11_sweeps 49 = .ok (.iload_n 1, 1) := by decide +kernel
theorem dX11_sweeps_50 : decode cX11_sweeps 50 = .ok (.if_icmp .ge 105, 3) := by decide +kernel
theorem dX11_sweeps_53 : decode cX11_sweeps 53 = .ok (.aload_n 0, 1) := by decide +kernel
theorem dX11_sweeps_54 : decode cX11_sweeps 54 = .ok (.getfield 70, 3) := by decide +kernel
theorem dX11_sweeps_57 : decode cX11_sweeps 57 = .ok (.iload 8, 2) := by decide +kernel
theorem dX11_sweeps_59 : decode cX11_sweeps 59 = .ok (.baload, 1) := by decide +kernel
theorem dX11_sweeps_60 : decode cX11_sweeps 60 = .ok (.ifCond .eq 6, 3) := by decide +kernel
theorem dX11_sweeps_63 : decode cX11_sweeps 63 = .ok (.goto 86, 3) := by decide +kernel
theorem dX11_sweeps_66 : decode cX11_sweeps 66 = .ok (.aload_n 0, 1) := by decide +kernel
theorem dX11_sweeps_67 : decode cX11_sweeps 67 = .ok (.getfield 67, 3) := by decide +kernel
theorem dX11_sweeps_70 : decode cX11_sweeps 70 = .ok (.iconst 5, 1) := by decide +kernel
theorem dX11_sweeps_71 : decode cX11_sweeps 71 = .ok (.iload 8, 2) := by decide +kernel
theorem dX11_sweeps_73 : decode cX11_sweeps 73 = .ok (.imul, 1) := by decide +kernel
theorem dX11_sweeps_74 : decode cX11_sweeps 74 = .ok (.iload 4, 2) := by decide +kernel
theorem dX11_sweeps_76 : decode cX11_sweeps 76 = .ok (.iadd, 1) := by decide +kernel
theorem dX11_sweeps_77 : decode cX11_sweeps 77 = .ok (.iaload, 1) := by decide +kernel
theorem dX11_sweeps_78 : decode cX11_sweeps 78 = .ok (.iload 5, 2) := by decide +kernel
theorem dX11_sweeps_80 : decode cX11_sweeps 80 = .ok (.idiv, 1) := by decide +kernel
theorem dX11_sweeps_81 : decode cX11_sweeps 81 = .ok (.iload 7, 2) := by decide +kernel
theorem dX11_sweeps_83 : decode cX11_sweeps 83 = .ok (.imul, 1) := by decide +kernel
theorem dX11_sweeps_84 : decode cX11_sweeps 84 = .ok (.iload_n 2, 1) := by decide +kernel
theorem dX11_sweeps_85 : decode cX11_sweeps 85 = .ok (.irem, 1) := by decide +kernel
theorem dX11_sweeps_86 : decode cX11_sweeps 86 = .ok (.istore 9, 2) := by decide +kernel
theorem dX11_sweeps_88 : decode cX11_sweeps 88 = .ok (.iconst 0, 1) := by decide +kernel
theorem dX11_sweeps_89 : decode cX11_sweeps 89 = .ok (.istore 10, 2) := by decide +kernel
theorem dX11_sweeps_91 : decode cX11_sweeps 91 = .ok (.iload 10, 2) := by decide +kernel
theorem dX11_sweeps_93 : decode cX11_sweeps 93 = .ok (.iload_n 1, 1) := by decide +kernel
theorem dX11_sweeps_94 : decode cX11_sweeps 94 = .ok (.if_icmp .gt 55, 3) := by decide +kernel
theorem dX11_sweeps_97 : decode cX11_sweeps 97 = .ok (.aload_n 0, 1) := by decide +kernel
theorem dX11_sweeps_98 : decode cX11_sweeps 98 = .ok (.getfield 67, 3) := by decide +kernel
theorem dX11_sweeps_101 : decode cX11_sweeps 101 = .ok (.iconst 5, 1) := by decide +kernel
theorem dX11_sweeps_102 : decode cX11_sweeps 102 = .ok (.iload 8, 2) := by decide +kernel
theorem dX11_sweeps_104 : decode cX11_sweeps 104 = .ok (.imul, 1) := by decide +kernel
theorem dX11_sweeps_105 : decode cX11_sweeps 105 = .ok (.iload 10, 2) := by decide +kernel
theorem dX11_sweeps_107 : decode cX11_sweeps 107 = .ok (.iadd, 1) := by decide +kernel
theorem dX11_sweeps_108 : decode cX11_sweeps 108 = .ok (.aload_n 0, 1) := by decide +kernel
theorem dX11_sweeps_109 : decode cX11_sweeps 109 = .ok (.getfield 67, 3) := by decide +kernel
theorem dX11_sweeps_112 : decode cX11_sweeps 112 = .ok (.iconst 5, 1) := by decide +kernel
theorem dX11_sweeps_113 : decode cX11_sweeps 113 = .ok (.iload 8, 2) := by decide +kernel
theorem dX11_sweeps_115 : decode cX11_sweeps 115 = .ok (.imul, 1) := by decide +kernel
theorem dX11_sweeps_116 : decode cX11_sweeps 116 = .ok (.iload 10, 2) := by decide +kernel
theorem dX11_sweeps_118 : decode cX11_sweeps 118 = .ok (.iadd, 1) := by decide +kernel
theorem dX11_sweeps_119 : decode cX11_sweeps 119 = .ok (.iaload, 1) := by decide +kernel
theorem dX11_sweeps_120 : decode cX11_sweeps 120 = .ok (.i2l, 1) := by decide +kernel
theorem dX11_sweeps_121 : decode cX11_sweeps 121 = .ok (.iload 9, 2) := by decide +kernel
theorem dX11_sweeps_123 : decode cX11_sweeps 123 = .ok (.i2l, 1) := by decide +kernel
theorem dX11_sweeps_124 : decode cX11_sweeps 124 = .ok (.aload_n 0, 1) := by decide +kernel
theorem dX11_sweeps_125 : decode cX11_sweeps 125 = .ok (.getfield 67, 3) := by decide +kernel
theorem dX11_sweeps_128 : decode cX11_sweeps 128 = .ok (.iconst 5, 1) := by decide +kernel
theorem dX11_sweeps_129 : decode cX11_sweeps 129 = .ok (.iload_n 3, 1) := by decide +kernel
theorem dX11_sweeps_130 : decode cX11_sweeps 130 = .ok (.imul, 1) := by decide +kernel
theorem dX11_sweeps_131 : decode cX11_sweeps 131 = .ok (.iload 10, 2) := by decide +kernel
theorem dX11_sweeps_133 : decode cX11_sweeps 133 = .ok (.iadd, 1) := by decide +kernel
theorem dX11_sweeps_134 : decode cX11_sweeps 134 = .ok (.iaload, 1) := by decide +kernel
theorem dX11_sweeps_135 : decode cX11_sweeps 135 = .ok (.i2l, 1) := by decide +kernel
theorem dX11_sweeps_136 : decode cX11_sweeps 136 = .ok (.lmul, 1) := by decide +kernel
theorem dX11_sweeps_137 : decode cX11_sweeps 137 = .ok (.lsub, 1) := by decide +kernel
theorem dX11_sweeps_138 : decode cX11_sweeps 138 = .ok (.iload_n 2, 1) := by decide +kernel
theorem dX11_sweeps_139 : decode cX11_sweeps 139 = .ok (.invokestatic 116, 3) := by decide +kernel
theorem dX11_sweeps_142 : decode cX11_sweeps 142 = .ok (.iastore, 1) := by decide +kernel
theorem dX11_sweeps_143 : decode cX11_sweeps 143 = .ok (.iinc 10 1, 3) := by decide +kernel
theorem dX11_sweeps_146 : decode cX11_sweeps 146 = .ok (.goto (-55), 3) := by decide +kernel
theorem dX11_sweeps_149 : decode cX11_sweeps 149 = .ok (.iinc 8 1, 3) := by decide +kernel
theorem dX11_sweeps_152 : decode cX11_sweeps 152 = .ok (.goto (-105), 3) := by decide +kernel
theorem dX11_sweeps_155 : decode cX11_sweeps 155 = .ok (.return_, 1) := by decide +kernel
theorem dX11_fixedBy_0 : decode cX11_fixedBy 0 = .ok (.aload_n 0, 1) := by decide +kernel
theorem dX11_fixedBy_1 : decode cX11_fixedBy 1 = .ok (.getfield 20, 3) := by decide +kernel
theorem dX11_fixedBy_4 : decode cX11_fixedBy 4 = .ok (.iload_n 1, 1) := by decide +kernel
theorem dX11_fixedBy_5 : decode cX11_fixedBy 5 = .ok (.iaload, 1) := by decide +kernel
theorem dX11_fixedBy_6 : decode cX11_fixedBy 6 = .ok (.istore 4, 2) := by decide +kernel
theorem dX11_fixedBy_8 : decode cX11_fixedBy 8 = .ok (.aload_n 0, 1) := by decide +kernel
theorem dX11_fixedBy_9 : decode cX11_fixedBy 9 = .ok (.aload_n 0, 1) := by decide +kernel
theorem dX11_fixedBy_10 : decode cX11_fixedBy 10 = .ok (.getfield 17, 3) := by decide +kernel
theorem dX11_fixedBy_13 : decode cX11_fixedBy 13 = .ok (.iload_n 1, 1) := by decide +kernel
theorem dX11_fixedBy_14 : decode cX11_fixedBy 14 = .ok (.iaload, 1) := by decide +kernel
theorem dX11_fixedBy_15 : decode cX11_fixedBy 15 = .ok (.invokevirtual 164, 3) := by decide +kernel
theorem dX11_fixedBy_18 : decode cX11_fixedBy 18 = .ok (.lconst 1, 1) := by decide +kernel
theorem dX11_fixedBy_19 : decode cX11_fixedBy 19 = .ok (.lstore 5, 2) := by decide +kernel
theorem dX11_fixedBy_21 : decode cX11_fixedBy 21 = .ok (.iconst 0, 1) := by decide +kernel
theorem dX11_fixedBy_22 : decode cX11_fixedBy 22 = .ok (.istore 7, 2) := by decide +kernel
theorem dX11_fixedBy_24 : decode cX11_fixedBy 24 = .ok (.iload 7, 2) := by decide +kernel
theorem dX11_fixedBy_26 : decode cX11_fixedBy 26 = .ok (.aload_n 0, 1) := by decide +kernel
theorem dX11_fixedBy_27 : decode cX11_fixedBy 27 = .ok (.getfield 158, 3) := by decide +kernel
theorem dX11_fixedBy_30 : decode cX11_fixedBy 30 = .ok (.if_icmp .ge 145, 3) := by decide +kernel
theorem dX11_fixedBy_33 : decode cX11_fixedBy 33 = .ok (.aload_n 0, 1) := by decide +kernel
theorem dX11_fixedBy_34 : decode cX11_fixedBy 34 = .ok (.getfield 57, 3) := by decide +kernel
theorem dX11_fixedBy_37 : decode cX11_fixedBy 37 = .ok (.iload 7, 2) := by decide +kernel
theorem dX11_fixedBy_39 : decode cX11_fixedBy 39 = .ok (.iaload, 1) := by decide +kernel
theorem dX11_fixedBy_40 : decode cX11_fixedBy 40 = .ok (.istore 8, 2) := by decide +kernel
theorem dX11_fixedBy_42 : decode cX11_fixedBy 42 = .ok (.aload_n 0, 1) := by decide +kernel
theorem dX11_fixedBy_43 : decode cX11_fixedBy 43 = .ok (.iload_n 1, 1) := by decide +kernel
theorem dX11_fixedBy_44 : decode cX11_fixedBy 44 = .ok (.lload_n 2, 1) := by decide +kernel
theorem dX11_fixedBy_45 : decode cX11_fixedBy 45 = .ok (.iload 8, 2) := by decide +kernel
theorem dX11_fixedBy_47 : decode cX11_fixedBy 47 = .ok (.invokevirtual 133, 3) := by decide +kernel
theorem dX11_fixedBy_50 : decode cX11_fixedBy 50 = .ok (.iconst 0, 1) := by decide +kernel
theorem dX11_fixedBy_51 : decode cX11_fixedBy 51 = .ok (.istore 9, 2) := by decide +kernel
theorem dX11_fixedBy_53 : decode cX11_fixedBy 53 = .ok (.iload 9, 2) := by decide +kernel
theorem dX11_fixedBy_55 : decode cX11_fixedBy 55 = .ok (.iload 4, 2) := by decide +kernel
theorem dX11_fixedBy_57 : decode cX11_fixedBy 57 = .ok (.if_icmp .ge 99, 3) := by decide +kernel
theorem dX11_fixedBy_60 : decode cX11_fixedBy 60 = .ok (.iconst 0, 1) := by decide +kernel
theorem dX11_fixedBy_61 : decode cX11_fixedBy 61 = .ok (.istore 10, 2) := by decide +kernel
theorem dX11_fixedBy_63 : decode cX11_fixedBy 63 = .ok (.iload 10, 2) := by decide +kernel
theorem dX11_fixedBy_65 : decode cX11_fixedBy 65 = .ok (.iload 4, 2) := by decide +kernel
theorem dX11_fixedBy_67 : decode cX11_fixedBy 67 = .ok (.if_icmp .ge 52, 3) := by decide +kernel
theorem dX11_fixedBy_70 : decode cX11_fixedBy 70 = .ok (.aload_n 0, 1) := by decide +kernel
theorem dX11_fixedBy_71 : decode cX11_fixedBy 71 = .ok (.getfield 67, 3) := by decide +kernel
theorem dX11_fixedBy_74 : decode cX11_fixedBy 74 = .ok (.iconst 5, 1) := by decide +kernel
theorem dX11_fixedBy_75 : decode cX11_fixedBy 75 = .ok (.iload 9, 2) := by decide +kernel
theorem dX11_fixedBy_77 : decode cX11_fixedBy 77 = .ok (.imul, 1) := by decide +kernel
theorem dX11_fixedBy_78 : decode cX11_fixedBy 78 = .ok (.iload 10, 2) := by decide +kernel
theorem dX11_fixedBy_80 : decode cX11_fixedBy 80 = .ok (.iadd, 1) := by decide +kernel
theorem dX11_fixedBy_81 : decode cX11_fixedBy 81 = .ok (.aload_n 0, 1) := by decide +kernel
theorem dX11_fixedBy_82 : decode cX11_fixedBy 82 = .ok (.getfield 42, 3) := by decide +kernel
theorem dX11_fixedBy_85 : decode cX11_fixedBy 85 = .ok (.iconst 5, 1) := by decide +kernel
theorem dX11_fixedBy_86 : decode cX11_fixedBy 86 = .ok (.iload 9, 2) := by decide +kernel
theorem dX11_fixedBy_88 : decode cX11_fixedBy 88 = .ok (.imul, 1) := by decide +kernel
theorem dX11_fixedBy_89 : decode cX11_fixedBy 89 = .ok (.iload 10, 2) := by decide +kernel
theorem dX11_fixedBy_91 : decode cX11_fixedBy 91 = .ok (.iadd, 1) := by decide +kernel
theorem dX11_fixedBy_92 : decode cX11_fixedBy 92 = .ok (.iaload, 1) := by decide +kernel
theorem dX11_fixedBy_93 : decode cX11_fixedBy 93 = .ok (.iload 9, 2) := by decide +kernel
theorem dX11_fixedBy_95 : decode cX11_fixedBy 95 = .ok (.iload 10, 2) := by decide +kernel
theorem dX11_fixedBy_97 : decode cX11_fixedBy 97 = .ok (.if_icmp .ne 7, 3) := by decide +kernel
theorem dX11_fixedBy_100 : decode cX11_fixedBy 100 = .ok (.iconst 1, 1) := by decide +kernel
theorem dX11_fixedBy_101 : decode cX11_fixedBy 101 = .ok (.goto 4, 3) := by decide +kernel
theorem dX11_fixedBy_104 : decode cX11_fixedBy 104 = .ok (.iconst 0, 1) := by decide +kernel
theorem dX11_fixedBy_105 : decode cX11_fixedBy 105 = .ok (.isub, 1) := by decide +kernel
theorem dX11_fixedBy_106 : decode cX11_fixedBy 106 = .ok (.i2l, 1) := by decide +kernel
theorem dX11_fixedBy_107 : decode cX11_fixedBy 107 = .ok (.iload 8, 2) := by decide +kernel
theorem dX11_fixedBy_109 : decode cX11_fixedBy 109 = .ok (.invokestatic 116, 3) := by decide +kernel
theorem dX11_fixedBy_112 : decode cX11_fixedBy 112 = .ok (.iastore, 1) := by decide +kernel
theorem dX11_fixedBy_113 : decode cX11_fixedBy 113 = .ok (.iinc 10 1, 3) := by decide +kernel
theorem dX11_fixedBy_116 : decode cX11_fixedBy 116 = .ok (.goto (-53), 3) := by decide +kernel
theorem dX11_fixedBy_119 : decode cX11_fixedBy 119 = .ok (.aload_n 0, 1) := by decide +kernel
theorem dX11_fixedBy_120 : decode cX11_fixedBy 120 = .ok (.getfield 67, 3) := by decide +kernel
theorem dX11_fixedBy_123 : decode cX11_fixedBy 123 = .ok (.iconst 5, 1) := by decide +kernel
theorem dX11_fixedBy_124 : decode cX11_fixedBy 124 = .ok (.iload 9, 2) := by decide +kernel
theorem dX11_fixedBy_126 : decode cX11_fixedBy 126 = .ok (.imul, 1) := by decide +kernel
theorem dX11_fixedBy_127 : decode cX11_fixedBy 127 = .ok (.iload 4, 2) := by decide +kernel
theorem dX11_fixedBy_129 : decode cX11_fixedBy 129 = .ok (.iadd, 1) := by decide +kernel
theorem dX11_fixedBy_130 : decode cX11_fixedBy 130 = .ok (.aload_n 0, 1) := by decide +kernel
theorem dX11_fixedBy_131 : decode cX11_fixedBy 131 = .ok (.getfield 42, 3) := by decide +kernel
theorem dX11_fixedBy_134 : decode cX11_fixedBy 134 = .ok (.iconst 5, 1) := by decide +kernel
theorem dX11_fixedBy_135 : decode cX11_fixedBy 135 = .ok (.iload 9, 2) := by decide +kernel
theorem dX11_fixedBy_137 : decode cX11_fixedBy 137 = .ok (.imul, 1) := by decide +kernel
theorem dX11_fixedBy_138 : decode cX11_fixedBy 138 = .ok (.iload 4, 2) := by decide +kernel
theorem dX11_fixedBy_140 : decode cX11_fixedBy 140 = .ok (.iadd, 1) := by decide +kernel
theorem dX11_fixedBy_141 : decode cX11_fixedBy 141 = .ok (.iaload, 1) := by decide +kernel
theorem dX11_fixedBy_142 : decode cX11_fixedBy 142 = .ok (.ineg, 1) := by decide +kernel
theorem dX11_fixedBy_143 : decode cX11_fixedBy 143 = .ok (.i2l, 1) := by decide +kernel
theorem dX11_fixedBy_144 : decode cX11_fixedBy 144 = .ok (.iload 8, 2) := by decide +kernel
theorem dX11_fixedBy_146 : decode cX11_fixedBy 146 = .ok (.invokestatic 116, 3) := by decide +kernel
theorem dX11_fixedBy_149 : decode cX11_fixedBy 149 = .ok (.iastore, 1) := by decide +kernel
theorem dX11_fixedBy_150 : decode cX11_fixedBy 150 = .ok (.iinc 9 1, 3) := by decide +kernel
theorem dX11_fixedBy_153 : decode cX11_fixedBy 153 = .ok (.goto (-100), 3) := by decide +kernel
theorem dX11_fixedBy_156 : decode cX11_fixedBy 156 = .ok (.lload 5, 2) := by decide +kernel
theorem dX11_fixedBy_158 : decode cX11_fixedBy 158 = .ok (.aload_n 0, 1) := by decide +kernel
theorem dX11_fixedBy_159 : decode cX11_fixedBy 159 = .ok (.iload 4, 2) := by decide +kernel
theorem dX11_fixedBy_161 : decode cX11_fixedBy 161 = .ok (.iload 8, 2) := by decide +kernel
theorem dX11_fixedBy_163 : decode cX11_fixedBy 163 = .ok (.invokevirtual 222, 3) := by decide +kernel
theorem dX11_fixedBy_166 : decode cX11_fixedBy 166 = .ok (.lmul, 1) := by decide +kernel
theorem dX11_fixedBy_167 : decode cX11_fixedBy 167 = .ok (.lstore 5, 2) := by decide +kernel
theorem dX11_fixedBy_169 : decode cX11_fixedBy 169 = .ok (.iinc 7 1, 3) := by decide +kernel
theorem dX11_fixedBy_172 : decode cX11_fixedBy 172 = .ok (.goto (-148), 3) := by decide +kernel
theorem dX11_fixedBy_175 : decode cX11_fixedBy 175 = .ok (.lload 5, 2) := by decide +kernel
theorem dX11_fixedBy_177 : decode cX11_fixedBy 177 = .ok (.lreturn, 1) := by decide +kernel
theorem dX11_fixed_0 : decode cX11_fixed 0 = .ok (.aload_n 0, 1) := by decide +kernel
theorem dX11_fixed_1 : decode cX11_fixed 1 = .ok (.iconst 0, 1) := by decide +kernel
theorem dX11_fixed_2 : decode cX11_fixed 2 = .ok (.putfield 104, 3) := by decide +kernel
theorem dX11_fixed_5 : decode cX11_fixed 5 = .ok (.aload_n 0, 1) := by decide +kernel
theorem dX11_fixed_6 : decode cX11_fixed 6 = .ok (.iload_n 1, 1) := by decide +kernel
theorem dX11_fixed_7 : decode cX11_fixed 7 = .ok (.invokevirtual 108, 3) := by decide +kernel
theorem dX11_fixed_10 : decode cX11_fixed 10 = .ok (.ifCond .eq 18, 3) := by decide +kernel
theorem dX11_fixed_13 : decode cX11_fixed 13 = .ok (.lload_n 2, 1) := by decide +kernel
theorem dX11_fixed_14 : decode cX11_fixed 14 = .ok (.lconst 0, 1) := by decide +kernel
theorem dX11_fixed_15 : decode cX11_fixed 15 = .ok (.lcmp, 1) := by decide +kernel
theorem dX11_fixed_16 : decode cX11_fixed 16 = .ok (.ifCond .lt 12, 3) := by decide +kernel
theorem dX11_fixed_19 : decode cX11_fixed 19 = .ok (.aload_n 0, 1) := by decide +kernel
theorem dX11_fixed_20 : decode cX11_fixed 20 = .ok (.iload_n 1, 1) := by decide +kernel
theorem dX11_fixed_21 : decode cX11_fixed 21 = .ok (.lload_n 2, 1) := by decide +kernel
theorem dX11_fixed_22 : decode cX11_fixed 22 = .ok (.invokevirtual 226, 3) := by decide +kernel
theorem dX11_fixed_25 : decode cX11_fixed 25 = .ok (.goto 6, 3) := by decide +kernel
theorem dX11_fixed_28 : decode cX11_fixed 28 = .ok (.ldc2_w 206, 3) := by decide +kernel
theorem dX11_fixed_31 : decode cX11_fixed 31 = .ok (.lreturn, 1) := by decide +kernel
theorem dX11_primesOf_0 : decode cX11_primesOf 0 = .ok (.aload_n 0, 1) := by decide +kernel
theorem dX11_primesOf_1 : decode cX11_primesOf 1 = .ok (.iconst 0, 1) := by decide +kernel
theorem dX11_primesOf_2 : decode cX11_primesOf 2 = .ok (.putfield 167, 3) := by decide +kernel
theorem dX11_primesOf_5 : decode cX11_primesOf 5 = .ok (.aload_n 0, 1) := by decide +kernel
theorem dX11_primesOf_6 : decode cX11_primesOf 6 = .ok (.lload_n 1, 1) := by decide +kernel
theorem dX11_primesOf_7 : decode cX11_primesOf 7 = .ok (.invokevirtual 170, 3) := by decide +kernel
theorem dX11_primesOf_10 : decode cX11_primesOf 10 = .ok (.aload_n 0, 1) := by decide +kernel
theorem dX11_primesOf_11 : decode cX11_primesOf 11 = .ok (.iconst 0, 1) := by decide +kernel
theorem dX11_primesOf_12 : decode cX11_primesOf 12 = .ok (.putfield 230, 3) := by decide +kernel
theorem dX11_primesOf_15 : decode cX11_primesOf 15 = .ok (.iconst 0, 1) := by decide +kernel
theorem dX11_primesOf_16 : decode cX11_primesOf 16 = .ok (.istore_n 3, 1) := by decide +kernel
theorem dX11_primesOf_17 : decode cX11_primesOf 17 = .ok (.iload_n 3, 1) := by decide +kernel
theorem dX11_primesOf_18 : decode cX11_primesOf 18 = .ok (.aload_n 0, 1) := by decide +kernel
theorem dX11_primesOf_19 : decode cX11_primesOf 19 = .ok (.getfield 167, 3) := by decide +kernel
theorem dX11_primesOf_22 : decode cX11_primesOf 22 = .ok (.if_icmp .ge 59, 3) := by decide +kernel
theorem dX11_primesOf_25 : decode cX11_primesOf 25 = .ok (.iload_n 3, 1) := by decide +kernel
theorem dX11_primesOf_26 : decode cX11_primesOf 26 = .ok (.ifCond .le 24, 3) := by decide +kernel
theorem dX11_primesOf_29 : decode cX11_primesOf 29 = .ok (.aload_n 0, 1) := by decide +kernel
theorem dX11_primesOf_30 : decode cX11_primesOf 30 = .ok (.getfield 63, 3) := by decide +kernel
theorem dX11_primesOf_33 : decode cX11_primesOf 33 = .ok (.iload_n 3, 1) := by decide +kernel
theorem dX11_primesOf_34 : decode cX11_primesOf 34 = .ok (.laload, 1) := by decide +kernel
theorem dX11_primesOf_35 : decode cX11_primesOf 35 = .ok (.aload_n 0, 1) := by decide +kernel
theorem dX11_primesOf_36 : decode cX11_primesOf 36 = .ok (.getfield 63, 3) := by decide +kernel
theorem dX11_primesOf_39 : decode cX11_primesOf 39 = .ok (.iload_n 3, 1) := by decide +kernel
theorem dX11_primesOf_40 : decode cX11_primesOf 40 = .ok (.iconst 1, 1) := by decide +kernel
theorem dX11_primesOf_41 : decode cX11_primesOf 41 = .ok (.isub, 1) := by decide +kernel
theorem dX11_primesOf_42 : decode cX11_primesOf 42 = .ok (.laload, 1) := by decide +kernel
theorem dX11_primesOf_43 : decode cX11_primesOf 43 = .ok (.lcmp, 1) := by decide +kernel
theorem dX11_primesOf_44 : decode cX11_primesOf 44 = .ok (.ifCond .ne 6, 3) := by decide +kernel
theorem dX11_primesOf_47 : decode cX11_primesOf 47 = .ok (.goto 28, 3) := by decide +kernel
theorem dX11_primesOf_50 : decode cX11_primesOf 50 = .ok (.aload_n 0, 1) := by decide +kernel
theorem dX11_primesOf_51 : decode cX11_primesOf 51 = .ok (.getfield 76, 3) := by decide +kernel
theorem dX11_primesOf_54 : decode cX11_primesOf 54 = .ok (.aload_n 0, 1) := by decide +kernel
theorem dX11_primesOf_55 : decode cX11_primesOf 55 = .ok (.getfield 230, 3) := by decide +kernel
theorem dX11_primesOf_58 : decode cX11_primesOf 58 = .ok (.aload_n 0, 1) := by decide +kernel
theorem dX11_primesOf_59 : decode cX11_primesOf 59 = .ok (.getfield 63, 3) := by decide +kernel
theorem dX11_primesOf_62 : decode cX11_primesOf 62 = .ok (.iload_n 3, 1) := by decide +kernel
theorem dX11_primesOf_63 : decode cX11_primesOf 63 = .ok (.laload, 1) := by decide +kernel
theorem dX11_primesOf_64 : decode cX11_primesOf 64 = .ok (.lastore, 1) := by decide +kernel
theorem dX11_primesOf_65 : decode cX11_primesOf 65 = .ok (.aload_n 0, 1) := by decide +kernel
theorem dX11_primesOf_66 : decode cX11_primesOf 66 = .ok (.dup, 1) := by decide +kernel
theorem dX11_primesOf_67 : decode cX11_primesOf 67 = .ok (.getfield 230, 3) := by decide +kernel
theorem dX11_primesOf_70 : decode cX11_primesOf 70 = .ok (.iconst 1, 1) := by decide +kernel
theorem dX11_primesOf_71 : decode cX11_primesOf 71 = .ok (.iadd, 1) := by decide +kernel
theorem dX11_primesOf_72 : decode cX11_primesOf 72 = .ok (.putfield 230, 3) := by decide +kernel
theorem dX11_primesOf_75 : decode cX11_primesOf 75 = .ok (.iinc 3 1, 3) := by decide +kernel
theorem dX11_primesOf_78 : decode cX11_primesOf 78 = .ok (.goto (-61), 3) := by decide +kernel
theorem dX11_primesOf_81 : decode cX11_primesOf 81 = .ok (.return_, 1) := by decide +kernel
theorem dX11_rounds_0 : decode cX11_rounds 0 = .ok (.aload_n 0, 1) := by decide +kernel
theorem dX11_rounds_1 : decode cX11_rounds 1 = .ok (.iconst 0, 1) := by decide +kernel
theorem dX11_rounds_2 : decode cX11_rounds 2 = .ok (.putfield 104, 3) := by decide +kernel
theorem dX11_rounds_5 : decode cX11_rounds 5 = .ok (.aload_n 0, 1) := by decide +kernel
theorem dX11_rounds_6 : decode cX11_rounds 6 = .ok (.iload_n 1, 1) := by decide +kernel
theorem dX11_rounds_7 : decode cX11_rounds 7 = .ok (.invokevirtual 108, 3) := by decide +kernel
theorem dX11_rounds_10 : decode cX11_rounds 10 = .ok (.ifCond .eq 17, 3) := by decide +kernel
theorem dX11_rounds_13 : decode cX11_rounds 13 = .ok (.lload_n 2, 1) := by decide +kernel
theorem dX11_rounds_14 : decode cX11_rounds 14 = .ok (.lconst 1, 1) := by decide +kernel
theorem dX11_rounds_15 : decode cX11_rounds 15 = .ok (.lcmp, 1) := by decide +kernel
theorem dX11_rounds_16 : decode cX11_rounds 16 = .ok (.ifCond .lt 11, 3) := by decide +kernel
theorem dX11_rounds_19 : decode cX11_rounds 19 = .ok (.lload_n 2, 1) := by decide +kernel
theorem dX11_rounds_20 : decode cX11_rounds 20 = .ok (.ldc2_w 233, 3) := by decide +kernel
theorem dX11_rounds_23 : decode cX11_rounds 23 = .ok (.lcmp, 1) := by decide +kernel
theorem dX11_rounds_24 : decode cX11_rounds 24 = .ok (.ifCond .le 7, 3) := by decide +kernel
theorem dX11_rounds_27 : decode cX11_rounds 27 = .ok (.ldc2_w 206, 3) := by decide +kernel
theorem dX11_rounds_30 : decode cX11_rounds 30 = .ok (.lreturn, 1) := by decide +kernel
theorem dX11_rounds_31 : decode cX11_rounds 31 = .ok (.aload_n 0, 1) := by decide +kernel
theorem dX11_rounds_32 : decode cX11_rounds 32 = .ok (.lload_n 2, 1) := by decide +kernel
theorem dX11_rounds_33 : decode cX11_rounds 33 = .ok (.invokevirtual 235, 3) := by decide +kernel
theorem dX11_rounds_36 : decode cX11_rounds 36 = .ok (.lconst 0, 1) := by decide +kernel
theorem dX11_rounds_37 : decode cX11_rounds 37 = .ok (.lstore 4, 2) := by decide +kernel
theorem dX11_rounds_39 : decode cX11_rounds 39 = .ok (.iconst 0, 1) := by decide +kernel
theorem dX11_rounds_40 : decode cX11_rounds 40 = .ok (.istore 6, 2) := by decide +kernel
theorem dX11_rounds_42 : decode cX11_rounds 42 = .ok (.iload 6, 2) := by decide +kernel
theorem dX11_rounds_44 : decode cX11_rounds 44 = .ok (.iconst 1, 1) := by decide +kernel
theorem dX11_rounds_45 : decode cX11_rounds 45 = .ok (.aload_n 0, 1) := by decide +kernel
theorem dX11_rounds_46 : decode cX11_rounds 46 = .ok (.getfield 230, 3) := by decide +kernel
theorem dX11_rounds_49 : decode cX11_rounds 49 = .ok (.ishl, 1) := by decide +kernel
theorem dX11_rounds_50 : decode cX11_rounds 50 = .ok (.if_icmp .ge 91, 3) := by decide +kernel
theorem dX11_rounds_53 : decode cX11_rounds 53 = .ok (.lload_n 2, 1) := by decide +kernel
theorem dX11_rounds_54 : decode cX11_rounds 54 = .ok (.lstore 7, 2) := by decide +kernel
theorem dX11_rounds_56 : decode cX11_rounds 56 = .ok (.iconst 0, 1) := by decide +kernel
theorem dX11_rounds_57 : decode cX11_rounds 57 = .ok (.istore 9, 2) := by decide +kernel
theorem dX11_rounds_59 : decode cX11_rounds 59 = .ok (.iconst 0, 1) := by decide +kernel
theorem dX11_rounds_60 : decode cX11_rounds 60 = .ok (.istore 10, 2) := by decide +kernel
theorem dX11_rounds_62 : decode cX11_rounds 62 = .ok (.iload 10, 2) := by decide +kernel
theorem dX11_rounds_64 : decode cX11_rounds 64 = .ok (.aload_n 0, 1) := by decide +kernel
theorem dX11_rounds_65 : decode cX11_rounds 65 = .ok (.getfield 230, 3) := by decide +kernel
theorem dX11_rounds_68 : decode cX11_rounds 68 = .ok (.if_icmp .ge 37, 3) := by decide +kernel
theorem dX11_rounds_71 : decode cX11_rounds 71 = .ok (.iload 6, 2) := by decide +kernel
theorem dX11_rounds_73 : decode cX11_rounds 73 = .ok (.iload 10, 2) := by decide +kernel
theorem dX11_rounds_75 : decode cX11_rounds 75 = .ok (.ishr, 1) := by decide +kernel
theorem dX11_rounds_76 : decode cX11_rounds 76 = .ok (.iconst 1, 1) := by decide +kernel
theorem dX11_rounds_77 : decode cX11_rounds 77 = .ok (.iand, 1) := by decide +kernel
theorem dX11_rounds_78 : decode cX11_rounds 78 = .ok (.ifCond .ne 6, 3) := by decide +kernel
theorem dX11_rounds_81 : decode cX11_rounds 81 = .ok (.goto 18, 3) := by decide +kernel
theorem dX11_rounds_84 : decode cX11_rounds 84 = .ok (.lload 7, 2) := by decide +kernel
theorem dX11_rounds_86 : decode cX11_rounds 86 = .ok (.aload_n 0, 1) := by decide +kernel
theorem dX11_rounds_87 : decode cX11_rounds 87 = .ok (.getfield 76, 3) := by decide +kernel
theorem dX11_rounds_90 : decode cX11_rounds 90 = .ok (.iload 10, 2) := by decide +kernel
theorem dX11_rounds_92 : decode cX11_rounds 92 = .ok (.laload, 1) := by decide +kernel
theorem dX11_rounds_93 : decode cX11_rounds 93 = .ok (.ldiv, 1) := by decide +kernel
theorem dX11_rounds_94 : decode cX11_rounds 94 = .ok (.lstore 7, 2) := by decide +kernel
theorem dX11_rounds_96 : decode cX11_rounds 96 = .ok (.iinc 9 1, 3) := by decide +kernel
theorem dX11_rounds_99 : decode cX11_rounds 99 = .ok (.iinc 10 1, 3) := by decide +kernel
theorem dX11_rounds_102 : decode cX11_rounds 102 = .ok (.goto (-40), 3) := by decide +kernel
theorem dX11_rounds_105 : decode cX11_rounds 105 = .ok (.lload 4, 2) := by decide +kernel
theorem dX11_rounds_107 : decode cX11_rounds 107 = .ok (.iload 9, 2) := by decide +kernel
theorem dX11_rounds_109 : decode cX11_rounds 109 = .ok (.iconst 2, 1) := by decide +kernel
theorem dX11_rounds_110 : decode cX11_rounds 110 = .ok (.irem, 1) := by decide +kernel
theorem dX11_rounds_111 : decode cX11_rounds 111 = .ok (.ifCond .ne 13, 3) := by decide +kernel
theorem dX11_rounds_114 : decode cX11_rounds 114 = .ok (.aload_n 0, 1) := by decide +kernel
theorem dX11_rounds_115 : decode cX11_rounds 115 = .ok (.iload_n 1, 1) := by decide +kernel
theorem dX11_rounds_116 : decode cX11_rounds 116 = .ok (.lload 7, 2) := by decide +kernel
theorem dX11_rounds_118 : decode cX11_rounds 118 = .ok (.invokevirtual 226, 3) := by decide +kernel
theorem dX11_rounds_121 : decode cX11_rounds 121 = .ok (.goto 11, 3) := by decide +kernel
theorem dX11_rounds_124 : decode cX11_rounds 124 = .ok (.aload_n 0, 1) := by decide +kernel
theorem dX11_rounds_125 : decode cX11_rounds 125 = .ok (.iload_n 1, 1) := by decide +kernel
theorem dX11_rounds_126 : decode cX11_rounds 126 = .ok (.lload 7, 2) := by decide +kernel
theorem dX11_rounds_128 : decode cX11_rounds 128 = .ok (.invokevirtual 226, 3) := by decide +kernel
theorem dX11_rounds_131 : decode cX11_rounds 131 = .ok (.lneg, 1) := by decide +kernel
theorem dX11_rounds_132 : decode cX11_rounds 132 = .ok (.ladd, 1) := by decide +kernel
theorem dX11_rounds_133 : decode cX11_rounds 133 = .ok (.lstore 4, 2) := by decide +kernel
theorem dX11_rounds_135 : decode cX11_rounds 135 = .ok (.iinc 6 1, 3) := by decide +kernel
theorem dX11_rounds_138 : decode cX11_rounds 138 = .ok (.goto (-96), 3) := by decide +kernel
theorem dX11_rounds_141 : decode cX11_rounds 141 = .ok (.lload 4, 2) := by decide +kernel
theorem dX11_rounds_143 : decode cX11_rounds 143 = .ok (.lreturn, 1) := by decide +kernel
theorem dX11_all_0 : decode cX11_all 0 = .ok (.aload_n 0, 1) := by decide +kernel
theorem dX11_all_1 : decode cX11_all 1 = .ok (.iconst 0, 1) := by decide +kernel
theorem dX11_all_2 : decode cX11_all 2 = .ok (.putfield 104, 3) := by decide +kernel
theorem dX11_all_5 : decode cX11_all 5 = .ok (.aload_n 0, 1) := by decide +kernel
theorem dX11_all_6 : decode cX11_all 6 = .ok (.iload_n 1, 1) := by decide +kernel
theorem dX11_all_7 : decode cX11_all 7 = .ok (.invokevirtual 108, 3) := by decide +kernel
theorem dX11_all_10 : decode cX11_all 10 = .ok (.ifCond .eq 13, 3) := by decide +kernel
theorem dX11_all_13 : decode cX11_all 13 = .ok (.aload_n 0, 1) := by decide +kernel
theorem dX11_all_14 : decode cX11_all 14 = .ok (.getfield 13, 3) := by decide +kernel
theorem dX11_all_17 : decode cX11_all 17 = .ok (.iload_n 1, 1) := by decide +kernel
theorem dX11_all_18 : decode cX11_all 18 = .ok (.iaload, 1) := by decide +kernel
theorem dX11_all_19 : decode cX11_all 19 = .ok (.iconst 1, 1) := by decide +kernel
theorem dX11_all_20 : decode cX11_all 20 = .ok (.if_icmp .eq 5, 3) := by decide +kernel
theorem dX11_all_23 : decode cX11_all 23 = .ok (.iconst (-1), 1) := by decide +kernel
theorem dX11_all_24 : decode cX11_all 24 = .ok (.ireturn, 1) := by decide +kernel
theorem dX11_all_25 : decode cX11_all 25 = .ok (.aload_n 0, 1) := by decide +kernel
theorem dX11_all_26 : decode cX11_all 26 = .ok (.getfield 17, 3) := by decide +kernel
theorem dX11_all_29 : decode cX11_all 29 = .ok (.iload_n 1, 1) := by decide +kernel
theorem dX11_all_30 : decode cX11_all 30 = .ok (.iaload, 1) := by decide +kernel
theorem dX11_all_31 : decode cX11_all 31 = .ok (.istore_n 2, 1) := by decide +kernel
theorem dX11_all_32 : decode cX11_all 32 = .ok (.aload_n 0, 1) := by decide +kernel
theorem dX11_all_33 : decode cX11_all 33 = .ok (.getfield 26, 3) := by decide +kernel
theorem dX11_all_36 : decode cX11_all 36 = .ok (.iconst 4, 1) := by decide +kernel
theorem dX11_all_37 : decode cX11_all 37 = .ok (.iload_n 1, 1) := by decide +kernel
theorem dX11_all_38 : decode cX11_all 38 = .ok (.imul, 1) := by decide +kernel
theorem dX11_all_39 : decode cX11_all 39 = .ok (.iaload, 1) := by decide +kernel
theorem dX11_all_40 : decode cX11_all 40 = .ok (.iload_n 2, 1) := by decide +kernel
theorem dX11_all_41 : decode cX11_all 41 = .ok (.irem, 1) := by decide +kernel
theorem dX11_all_42 : decode cX11_all 42 = .ok (.istore_n 3, 1) := by decide +kernel
theorem dX11_all_43 : decode cX11_all 43 = .ok (.iconst 1, 1) := by decide +kernel
theorem dX11_all_44 : decode cX11_all 44 = .ok (.istore 4, 2) := by decide +kernel
theorem dX11_all_46 : decode cX11_all 46 = .ok (.iload_n 3, 1) := by decide +kernel
theorem dX11_all_47 : decode cX11_all 47 = .ok (.ifCond .eq 38, 3) := by decide +kernel
theorem dX11_all_50 : decode cX11_all 50 = .ok (.iload 4, 2) := by decide +kernel
theorem dX11_all_52 : decode cX11_all 52 = .ok (.iload_n 2, 1) := by decide +kernel
theorem dX11_all_53 : decode cX11_all 53 = .ok (.if_icmp .ge 32, 3) := by decide +kernel
theorem dX11_all_56 : decode cX11_all 56 = .ok (.iload_n 3, 1) := by decide +kernel
theorem dX11_all_57 : decode cX11_all 57 = .ok (.aload_n 0, 1) := by decide +kernel
theorem dX11_all_58 : decode cX11_all 58 = .ok (.getfield 23, 3) := by decide +kernel
theorem dX11_all_61 : decode cX11_all 61 = .ok (.bipush 16, 2) := by decide +kernel
theorem dX11_all_63 : decode cX11_all 63 = .ok (.iload_n 1, 1) := by decide +kernel
theorem dX11_all_64 : decode cX11_all 64 = .ok (.imul, 1) := by decide +kernel
theorem dX11_all_65 : decode cX11_all 65 = .ok (.iaload, 1) := by decide +kernel
theorem dX11_all_66 : decode cX11_all 66 = .ok (.imul, 1) := by decide +kernel
theorem dX11_all_67 : decode cX11_all 67 = .ok (.aload_n 0, 1) := by decide +kernel
theorem dX11_all_68 : decode cX11_all 68 = .ok (.getfield 26, 3) := by decide +kernel
theorem dX11_all_71 : decode cX11_all 71 = .ok (.iconst 4, 1) := by decide +kernel
theorem dX11_all_72 : decode cX11_all 72 = .ok (.iload_n 1, 1) := by decide +kernel
theorem dX11_all_73 : decode cX11_all 73 = .ok (.imul, 1) := by decide +kernel
theorem dX11_all_74 : decode cX11_all 74 = .ok (.iaload, 1) := by decide +kernel
theorem dX11_all_75 : decode cX11_all 75 = .ok (.iadd, 1) := by decide +kernel
theorem dX11_all_76 : decode cX11_all 76 = .ok (.iload_n 2, 1) := by decide +kernel
theorem dX11_all_77 : decode cX11_all 77 = .ok (.irem, 1) := by decide +kernel
theorem dX11_all_78 : decode cX11_all 78 = .ok (.istore_n 3, 1) := by decide +kernel
theorem dX11_all_79 : decode cX11_all 79 = .ok (.iinc 4 1, 3) := by decide +kernel
theorem dX11_all_82 : decode cX11_all 82 = .ok (.goto (-36), 3) := by decide +kernel
theorem dX11_all_85 : decode cX11_all 85 = .ok (.iload_n 3, 1) := by decide +kernel
theorem dX11_all_86 : decode cX11_all 86 = .ok (.ifCond .ne 13, 3) := by decide +kernel
theorem dX11_all_89 : decode cX11_all 89 = .ok (.iload 4, 2) := by decide +kernel
theorem dX11_all_91 : decode cX11_all 91 = .ok (.iload_n 2, 1) := by decide +kernel
theorem dX11_all_92 : decode cX11_all 92 = .ok (.if_icmp .ne 7, 3) := by decide +kernel
theorem dX11_all_95 : decode cX11_all 95 = .ok (.iconst 1, 1) := by decide +kernel
theorem dX11_all_96 : decode cX11_all 96 = .ok (.goto 4, 3) := by decide +kernel
theorem dX11_all_99 : decode cX11_all 99 = .ok (.iconst 0, 1) := by decide +kernel
theorem dX11_all_100 : decode cX11_all 100 = .ok (.ireturn, 1) := by decide +kernel
theorem dX11_check_0 : decode cX11_check 0 = .ok (.aload_n 0, 1) := by decide +kernel
theorem dX11_check_1 : decode cX11_check 1 = .ok (.iconst 0, 1) := by decide +kernel
theorem dX11_check_2 : decode cX11_check 2 = .ok (.putfield 104, 3) := by decide +kernel
theorem dX11_check_5 : decode cX11_check 5 = .ok (.aload_n 0, 1) := by decide +kernel
theorem dX11_check_6 : decode cX11_check 6 = .ok (.iload_n 1, 1) := by decide +kernel
theorem dX11_check_7 : decode cX11_check 7 = .ok (.invokevirtual 108, 3) := by decide +kernel
theorem dX11_check_10 : decode cX11_check 10 = .ok (.ifCond .eq 17, 3) := by decide +kernel
theorem dX11_check_13 : decode cX11_check 13 = .ok (.lload_n 2, 1) := by decide +kernel
theorem dX11_check_14 : decode cX11_check 14 = .ok (.lconst 1, 1) := by decide +kernel
theorem dX11_check_15 : decode cX11_check 15 = .ok (.lcmp, 1) := by decide +kernel
theorem dX11_check_16 : decode cX11_check 16 = .ok (.ifCond .lt 11, 3) := by decide +kernel
theorem dX11_check_19 : decode cX11_check 19 = .ok (.lload_n 2, 1) := by decide +kernel
theorem dX11_check_20 : decode cX11_check 20 = .ok (.ldc2_w 233, 3) := by decide +kernel
theorem dX11_check_23 : decode cX11_check 23 = .ok (.lcmp, 1) := by decide +kernel
theorem dX11_check_24 : decode cX11_check 24 = .ok (.ifCond .le 5, 3) := by decide +kernel
theorem dX11_check_27 : decode cX11_check 27 = .ok (.iconst (-1), 1) := by decide +kernel
theorem dX11_check_28 : decode cX11_check 28 = .ok (.ireturn, 1) := by decide +kernel
theorem dX11_check_29 : decode cX11_check 29 = .ok (.aload_n 0, 1) := by decide +kernel
theorem dX11_check_30 : decode cX11_check 30 = .ok (.getfield 17, 3) := by decide +kernel
theorem dX11_check_33 : decode cX11_check 33 = .ok (.iload_n 1, 1) := by decide +kernel
theorem dX11_check_34 : decode cX11_check 34 = .ok (.iaload, 1) := by decide +kernel
theorem dX11_check_35 : decode cX11_check 35 = .ok (.istore 4, 2) := by decide +kernel
theorem dX11_check_37 : decode cX11_check 37 = .ok (.aload_n 0, 1) := by decide +kernel
theorem dX11_check_38 : decode cX11_check 38 = .ok (.iload_n 1, 1) := by decide +kernel
theorem dX11_check_39 : decode cX11_check 39 = .ok (.iload 4, 2) := by decide +kernel
theorem dX11_check_41 : decode cX11_check 41 = .ok (.invokevirtual 192, 3) := by decide +kernel
theorem dX11_check_44 : decode cX11_check 44 = .ok (.aload_n 0, 1) := by decide +kernel
theorem dX11_check_45 : decode cX11_check 45 = .ok (.iload_n 1, 1) := by decide +kernel
theorem dX11_check_46 : decode cX11_check 46 = .ok (.lload_n 2, 1) := by decide +kernel
theorem dX11_check_47 : decode cX11_check 47 = .ok (.iload 4, 2) := by decide +kernel
theorem dX11_check_49 : decode cX11_check 49 = .ok (.invokevirtual 195, 3) := by decide +kernel
theorem dX11_check_52 : decode cX11_check 52 = .ok (.ifCond .ne 5, 3) := by decide +kernel
theorem dX11_check_55 : decode cX11_check 55 = .ok (.iconst 0, 1) := by decide +kernel
theorem dX11_check_56 : decode cX11_check 56 = .ok (.ireturn, 1) := by decide +kernel
theorem dX11_check_57 : decode cX11_check 57 = .ok (.aload_n 0, 1) := by decide +kernel
theorem dX11_check_58 : decode cX11_check 58 = .ok (.lload_n 2, 1) := by decide +kernel
theorem dX11_check_59 : decode cX11_check 59 = .ok (.invokevirtual 235, 3) := by decide +kernel
theorem dX11_check_62 : decode cX11_check 62 = .ok (.iconst 0, 1) := by decide +kernel
theorem dX11_check_63 : decode cX11_check 63 = .ok (.istore 5, 2) := by decide +kernel
theorem dX11_check_65 : decode cX11_check 65 = .ok (.iload 5, 2) := by decide +kernel
theorem dX11_check_67 : decode cX11_check 67 = .ok (.aload_n 0, 1) := by decide +kernel
theorem dX11_check_68 : decode cX11_check 68 = .ok (.getfield 230, 3) := by decide +kernel
theorem dX11_check_71 : decode cX11_check 71 = .ok (.if_icmp .ge 30, 3) := by decide +kernel
theorem dX11_check_74 : decode cX11_check 74 = .ok (.aload_n 0, 1) := by decide +kernel
theorem dX11_check_75 : decode cX11_check 75 = .ok (.iload_n 1, 1) := by decide +kernel
theorem dX11_check_76 : decode cX11_check 76 = .ok (.lload_n 2, 1) := by decide +kernel
theorem dX11_check_77 : decode cX11_check 77 = .ok (.aload_n 0, 1) := by decide +kernel
theorem dX11_check_78 : decode cX11_check 78 = .ok (.getfield 76, 3) := by decide +kernel
theorem dX11_check_81 : decode cX11_check 81 = .ok (.iload 5, 2) := by decide +kernel
theorem dX11_check_83 : decode cX11_check 83 = .ok (.laload, 1) := by decide +kernel
theorem dX11_check_84 : decode cX11_check 84 = .ok (.ldiv, 1) := by decide +kernel
theorem dX11_check_85 : decode cX11_check 85 = .ok (.iload 4, 2) := by decide +kernel
theorem dX11_check_87 : decode cX11_check 87 = .ok (.invokevirtual 195, 3) := by decide +kernel
theorem dX11_check_90 : decode cX11_check 90 = .ok (.ifCond .eq 5, 3) := by decide +kernel
theorem dX11_check_93 : decode cX11_check 93 = .ok (.iconst 0, 1) := by decide +kernel
theorem dX11_check_94 : decode cX11_check 94 = .ok (.ireturn, 1) := by decide +kernel
theorem dX11_check_95 : decode cX11_check 95 = .ok (.iinc 5 1, 3) := by decide +kernel
theorem dX11_check_98 : decode cX11_check 98 = .ok (.goto (-33), 3) := by decide +kernel
theorem dX11_check_101 : decode cX11_check 101 = .ok (.iconst 1, 1) := by decide +kernel
theorem dX11_check_102 : decode cX11_check 102 = .ok (.ireturn, 1) := by decide +kernel
theorem dX11_shortOf_0 : decode cX11_shortOf 0 = .ok (.iconst 1, 1) := by decide +kernel
theorem dX11_shortOf_1 : decode cX11_shortOf 1 = .ok (.istore_n 3, 1) := by decide +kernel
theorem dX11_shortOf_2 : decode cX11_shortOf 2 = .ok (.aload_n 0, 1) := by decide +kernel
theorem dX11_shortOf_3 : decode cX11_shortOf 3 = .ok (.iload_n 1, 1) := by decide +kernel
theorem dX11_shortOf_4 : decode cX11_shortOf 4 = .ok (.iload_n 2, 1) := by decide +kernel
theorem dX11_shortOf_5 : decode cX11_shortOf 5 = .ok (.iload_n 3, 1) := by decide +kernel
theorem dX11_shortOf_6 : decode cX11_shortOf 6 = .ok (.invokevirtual 238, 3) := by decide +kernel
theorem dX11_shortOf_9 : decode cX11_shortOf 9 = .ok (.ifCond .ne 9, 3) := by decide +kernel
theorem dX11_shortOf_12 : decode cX11_shortOf 12 = .ok (.iinc 3 1, 3) := by decide +kernel
theorem dX11_shortOf_15 : decode cX11_shortOf 15 = .ok (.goto (-13), 3) := by decide +kernel
theorem dX11_shortOf_18 : decode cX11_shortOf 18 = .ok (.iload_n 3, 1) := by decide +kernel
theorem dX11_shortOf_19 : decode cX11_shortOf 19 = .ok (.ireturn, 1) := by decide +kernel
theorem dX11_hasLine_0 : decode cX11_hasLine 0 = .ok (.iconst 0, 1) := by decide +kernel
theorem dX11_hasLine_1 : decode cX11_hasLine 1 = .ok (.istore 4, 2) := by decide +kernel
theorem dX11_hasLine_3 : decode cX11_hasLine 3 = .ok (.iload 4, 2) := by decide +kernel
theorem dX11_hasLine_5 : decode cX11_hasLine 5 = .ok (.iconst 1, 1) := by decide +kernel
theorem dX11_hasLine_6 : decode cX11_hasLine 6 = .ok (.iadd, 1) := by decide +kernel
theorem dX11_hasLine_7 : decode cX11_hasLine 7 = .ok (.iload 4, 2) := by decide +kernel
theorem dX11_hasLine_9 : decode cX11_hasLine 9 = .ok (.iconst 1, 1) := by decide +kernel
theorem dX11_hasLine_10 : decode cX11_hasLine 10 = .ok (.iadd, 1) := by decide +kernel
theorem dX11_hasLine_11 : decode cX11_hasLine 11 = .ok (.imul, 1) := by decide +kernel
theorem dX11_hasLine_12 : decode cX11_hasLine 12 = .ok (.iload_n 3, 1) := by decide +kernel
theorem dX11_hasLine_13 : decode cX11_hasLine 13 = .ok (.if_icmp .gt 9, 3) := by decide +kernel
theorem dX11_hasLine_16 : decode cX11_hasLine 16 = .ok (.iinc 4 1, 3) := by decide +kernel
theorem dX11_hasLine_19 : decode cX11_hasLine 19 = .ok (.goto (-16), 3) := by decide +kernel
theorem dX11_hasLine_22 : decode cX11_hasLine 22 = .ok (.iconst 2, 1) := by decide +kernel
theorem dX11_hasLine_23 : decode cX11_hasLine 23 = .ok (.iload 4, 2) := by decide +kernel
theorem dX11_hasLine_25 : decode cX11_hasLine 25 = .ok (.imul, 1) := by decide +kernel
theorem dX11_hasLine_26 : decode cX11_hasLine 26 = .ok (.iconst 1, 1) := by decide +kernel
theorem dX11_hasLine_27 : decode cX11_hasLine 27 = .ok (.iadd, 1) := by decide +kernel
theorem dX11_hasLine_28 : decode cX11_hasLine 28 = .ok (.istore 5, 2) := by decide +kernel
theorem dX11_hasLine_30 : decode cX11_hasLine 30 = .ok (.iconst 1, 1) := by decide +kernel
theorem dX11_hasLine_31 : decode cX11_hasLine 31 = .ok (.istore 6, 2) := by decide +kernel
theorem dX11_hasLine_33 : decode cX11_hasLine 33 = .ok (.iconst 0, 1) := by decide +kernel
theorem dX11_hasLine_34 : decode cX11_hasLine 34 = .ok (.istore 7, 2) := by decide +kernel
theorem dX11_hasLine_36 : decode cX11_hasLine 36 = .ok (.iload 7, 2) := by decide +kernel
theorem dX11_hasLine_38 : decode cX11_hasLine 38 = .ok (.iload_n 2, 1) := by decide +kernel
theorem dX11_hasLine_39 : decode cX11_hasLine 39 = .ok (.if_icmp .ge 16, 3) := by decide +kernel
theorem dX11_hasLine_42 : decode cX11_hasLine 42 = .ok (.iload 6, 2) := by decide +kernel
theorem dX11_hasLine_44 : decode cX11_hasLine 44 = .ok (.iload 5, 2) := by decide +kernel
theorem dX11_hasLine_46 : decode cX11_hasLine 46 = .ok (.imul, 1) := by decide +kernel
theorem dX11_hasLine_47 : decode cX11_hasLine 47 = .ok (.istore 6, 2) := by decide +kernel
theorem dX11_hasLine_49 : decode cX11_hasLine 49 = .ok (.iinc 7 1, 3) := by decide +kernel
theorem dX11_hasLine_52 : decode cX11_hasLine 52 = .ok (.goto (-16), 3) := by decide +kernel
theorem dX11_hasLine_55 : decode cX11_hasLine 55 = .ok (.aload_n 0, 1) := by decide +kernel
theorem dX11_hasLine_56 : decode cX11_hasLine 56 = .ok (.getfield 17, 3) := by decide +kernel
theorem dX11_hasLine_59 : decode cX11_hasLine 59 = .ok (.iload_n 1, 1) := by decide +kernel
theorem dX11_hasLine_60 : decode cX11_hasLine 60 = .ok (.iaload, 1) := by decide +kernel
theorem dX11_hasLine_61 : decode cX11_hasLine 61 = .ok (.istore 7, 2) := by decide +kernel
theorem dX11_hasLine_63 : decode cX11_hasLine 63 = .ok (.aload_n 0, 1) := by decide +kernel
theorem dX11_hasLine_64 : decode cX11_hasLine 64 = .ok (.getfield 23, 3) := by decide +kernel
theorem dX11_hasLine_67 : decode cX11_hasLine 67 = .ok (.bipush 16, 2) := by decide +kernel
theorem dX11_hasLine_69 : decode cX11_hasLine 69 = .ok (.iload_n 1, 1) := by decide +kernel
theorem dX11_hasLine_70 : decode cX11_hasLine 70 = .ok (.imul, 1) := by decide +kernel
theorem dX11_hasLine_71 : decode cX11_hasLine 71 = .ok (.iaload, 1) := by decide +kernel
theorem dX11_hasLine_72 : decode cX11_hasLine 72 = .ok (.istore 8, 2) := by decide +kernel
theorem dX11_hasLine_74 : decode cX11_hasLine 74 = .ok (.iconst 0, 1) := by decide +kernel
theorem dX11_hasLine_75 : decode cX11_hasLine 75 = .ok (.istore 9, 2) := by decide +kernel
theorem dX11_hasLine_77 : decode cX11_hasLine 77 = .ok (.iload 9, 2) := by decide +kernel
theorem dX11_hasLine_79 : decode cX11_hasLine 79 = .ok (.iload 6, 2) := by decide +kernel
theorem dX11_hasLine_81 : decode cX11_hasLine 81 = .ok (.if_icmp .ge 168, 3) := by decide +kernel
theorem dX11_hasLine_84 : decode cX11_hasLine 84 = .ok (.iconst 0, 1) := by decide +kernel
theorem dX11_hasLine_85 : decode cX11_hasLine 85 = .ok (.istore 10, 2) := by decide +kernel
theorem dX11_hasLine_87 : decode cX11_hasLine 87 = .ok (.iconst 0, 1) := by decide +kernel
theorem dX11_hasLine_88 : decode cX11_hasLine 88 = .ok (.istore 11, 2) := by decide +kernel
theorem dX11_hasLine_90 : decode cX11_hasLine 90 = .ok (.iconst 0, 1) := by decide +kernel
theorem dX11_hasLine_91 : decode cX11_hasLine 91 = .ok (.istore 12, 2) := by decide +kernel
theorem dX11_hasLine_93 : decode cX11_hasLine 93 = .ok (.iload 9, 2) := by decide +kernel
theorem dX11_hasLine_95 : decode cX11_hasLine 95 = .ok (.istore 13, 2) := by decide +kernel
theorem dX11_hasLine_97 : decode cX11_hasLine 97 = .ok (.iload_n 2, 1) := by decide +kernel
theorem dX11_hasLine_98 : decode cX11_hasLine 98 = .ok (.iconst 1, 1) := by decide +kernel
theorem dX11_hasLine_99 : decode cX11_hasLine 99 = .ok (.isub, 1) := by decide +kernel
theorem dX11_hasLine_100 : decode cX11_hasLine 100 = .ok (.istore 14, 2) := by decide +kernel
theorem dX11_hasLine_102 : decode cX11_hasLine 102 = .ok (.iload 14, 2) := by decide +kernel
theorem dX11_hasLine_104 : decode cX11_hasLine 104 = .ok (.ifCond .lt 31, 3) := by decide +kernel
theorem dX11_hasLine_107 : decode cX11_hasLine 107 = .ok (.aload_n 0, 1) := by decide +kernel
theorem dX11_hasLine_108 : decode cX11_hasLine 108 = .ok (.getfield 79, 3) := by decide +kernel
theorem dX11_hasLine_111 : decode cX11_hasLine 111 = .ok (.iload 14, 2) := by decide +kernel
theorem dX11_hasLine_113 : decode cX11_hasLine 113 = .ok (.iload 13, 2) := by decide +kernel
theorem dX11_hasLine_115 : decode cX11_hasLine 115 = .ok (.iload 5, 2) := by decide +kernel
theorem dX11_hasLine_117 : decode cX11_hasLine 117 = .ok (.irem, 1) := by decide +kernel
theorem dX11_hasLine_118 : decode cX11_hasLine 118 = .ok (.iload 4, 2) := by decide +kernel
theorem dX11_hasLine_120 : decode cX11_hasLine 120 = .ok (.isub, 1) := by decide +kernel
theorem dX11_hasLine_121 : decode cX11_hasLine 121 = .ok (.iastore, 1) := by decide +kernel
theorem dX11_hasLine_122 : decode cX11_hasLine 122 = .ok (.iload 13, 2) := by decide +kernel
theorem dX11_hasLine_124 : decode cX11_hasLine 124 = .ok (.iload 5, 2) := by decide +kernel
theorem dX11_hasLine_126 : decode cX11_hasLine 126 = .ok (.idiv, 1) := by decide +kernel
theorem dX11_hasLine_127 : decode cX11_hasLine 127 = .ok (.istore 13, 2) := by decide +kernel
theorem dX11_hasLine_129 : decode cX11_hasLine 129 = .ok (.iinc 14 (-1), 3) := by decide +kernel
theorem dX11_hasLine_132 : decode cX11_hasLine 132 = .ok (.goto (-30), 3) := by decide +kernel
theorem dX11_hasLine_135 : decode cX11_hasLine 135 = .ok (.iconst 1, 1) := by decide +kernel
theorem dX11_hasLine_136 : decode cX11_hasLine 136 = .ok (.istore 14, 2) := by decide +kernel
theorem dX11_hasLine_138 : decode cX11_hasLine 138 = .ok (.iconst 0, 1) := by decide +kernel
theorem dX11_hasLine_139 : decode cX11_hasLine 139 = .ok (.istore 15, 2) := by decide +kernel
theorem dX11_hasLine_141 : decode cX11_hasLine 141 = .ok (.iload 15, 2) := by decide +kernel
theorem dX11_hasLine_143 : decode cX11_hasLine 143 = .ok (.iload_n 2, 1) := by decide +kernel
theorem dX11_hasLine_144 : decode cX11_hasLine 144 = .ok (.if_icmp .ge 81, 3) := by decide +kernel
theorem dX11_hasLine_147 : decode cX11_hasLine 147 = .ok (.iload 11, 2) := by decide +kernel
theorem dX11_hasLine_149 : decode cX11_hasLine 149 = .ok (.aload_n 0, 1) := by decide +kernel
theorem dX11_hasLine_150 : decode cX11_hasLine 150 = .ok (.getfield 79, 3) := by decide +kernel
theorem dX11_hasLine_153 : decode cX11_hasLine 153 = .ok (.iload 15, 2) := by decide +kernel
theorem dX11_hasLine_155 : decode cX11_hasLine 155 = .ok (.iaload, 1) := by decide +kernel
theorem dX11_hasLine_156 : decode cX11_hasLine 156 = .ok (.aload_n 0, 1) := by decide +kernel
theorem dX11_hasLine_157 : decode cX11_hasLine 157 = .ok (.getfield 79, 3) := by decide +kernel
theorem dX11_hasLine_160 : decode cX11_hasLine 160 = .ok (.iload 15, 2) := by decide +kernel
theorem dX11_hasLine_162 : decode cX11_hasLine 162 = .ok (.iaload, 1) := by decide +kernel
theorem dX11_hasLine_163 : decode cX11_hasLine 163 = .ok (.imul, 1) := by decide +kernel
theorem dX11_hasLine_164 : decode cX11_hasLine 164 = .ok (.iadd, 1) := by decide +kernel
theorem dX11_hasLine_165 : decode cX11_hasLine 165 = .ok (.istore 11, 2) := by decide +kernel
theorem dX11_hasLine_167 : decode cX11_hasLine 167 = .ok (.iload 10, 2) := by decide +kernel
theorem dX11_hasLine_169 : decode cX11_hasLine 169 = .ok (.i2l, 1) := by decide +kernel
theorem dX11_hasLine_170 : decode cX11_hasLine 170 = .ok (.iload 14, 2) := by decide +kernel
theorem dX11_hasLine_172 : decode cX11_hasLine 172 = .ok (.i2l, 1) := by decide +kernel
theorem dX11_hasLine_173 : decode cX11_hasLine 173 = .ok (.aload_n 0, 1) := by decide +kernel
theorem dX11_hasLine_174 : decode cX11_hasLine 174 = .ok (.getfield 79, 3) := by decide +kernel
theorem dX11_hasLine_177 : decode cX11_hasLine 177 = .ok (.iload 15, 2) := by decide +kernel
theorem dX11_hasLine_179 : decode cX11_hasLine 179 = .ok (.iaload, 1) := by decide +kernel
theorem dX11_hasLine_180 : decode cX11_hasLine 180 = .ok (.i2l, 1) := by decide +kernel
theorem dX11_hasLine_181 : decode cX11_hasLine 181 = .ok (.lmul, 1) := by decide +kernel
theorem dX11_hasLine_182 : decode cX11_hasLine 182 = .ok (.ladd, 1) := by decide +kernel
theorem dX11_hasLine_183 : decode cX11_hasLine 183 = .ok (.iload 7, 2) := by decide +kernel
theorem dX11_hasLine_185 : decode cX11_hasLine 185 = .ok (.invokestatic 116, 3) := by decide +kernel
theorem dX11_hasLine_188 : decode cX11_hasLine 188 = .ok (.istore 10, 2) := by decide +kernel
theorem dX11_hasLine_190 : decode cX11_hasLine 190 = .ok (.iload 14, 2) := by decide +kernel
theorem dX11_hasLine_192 : decode cX11_hasLine 192 = .ok (.iload 8, 2) := by decide +kernel
theorem dX11_hasLine_194 : decode cX11_hasLine 194 = .ok (.imul, 1) := by decide +kernel
theorem dX11_hasLine_195 : decode cX11_hasLine 195 = .ok (.iload 7, 2) := by decide +kernel
theorem dX11_hasLine_197 : decode cX11_hasLine 197 = .ok (.irem, 1) := by decide +kernel
theorem dX11_hasLine_198 : decode cX11_hasLine 198 = .ok (.istore 14, 2) := by decide +kernel
theorem dX11_hasLine_200 : decode cX11_hasLine 200 = .ok (.iload 12, 2) := by decide +kernel
theorem dX11_hasLine_202 : decode cX11_hasLine 202 = .ok (.ifCond .ne 13, 3) := by decide +kernel
theorem dX11_hasLine_205 : decode cX11_hasLine 205 = .ok (.aload_n 0, 1) := by decide +kernel
theorem dX11_hasLine_206 : decode cX11_hasLine 206 = .ok (.getfield 79, 3) := by decide +kernel
theorem dX11_hasLine_209 : decode cX11_hasLine 209 = .ok (.iload 15, 2) := by decide +kernel
theorem dX11_hasLine_211 : decode cX11_hasLine 211 = .ok (.iaload, 1) := by decide +kernel
theorem dX11_hasLine_212 : decode cX11_hasLine 212 = .ok (.goto 5, 3) := by decide +kernel
theorem dX11_hasLine_215 : decode cX11_hasLine 215 = .ok (.iload 12, 2) := by decide +kernel
theorem dX11_hasLine_217 : decode cX11_hasLine 217 = .ok (.istore 12, 2) := by decide +kernel
theorem dX11_hasLine_219 : decode cX11_hasLine 219 = .ok (.iinc 15 1, 3) := by decide +kernel
theorem dX11_hasLine_222 : decode cX11_hasLine 222 = .ok (.goto (-81), 3) := by decide +kernel
theorem dX11_hasLine_225 : decode cX11_hasLine 225 = .ok (.iload 11, 2) := by decide +kernel
theorem dX11_hasLine_227 : decode cX11_hasLine 227 = .ok (.iload_n 3, 1) := by decide +kernel
theorem dX11_hasLine_228 : decode cX11_hasLine 228 = .ok (.if_icmp .ne 15, 3) := by decide +kernel
theorem dX11_hasLine_231 : decode cX11_hasLine 231 = .ok (.iload 10, 2) := by decide +kernel
theorem dX11_hasLine_233 : decode cX11_hasLine 233 = .ok (.ifCond .ne 10, 3) := by decide +kernel
theorem dX11_hasLine_236 : decode cX11_hasLine 236 = .ok (.iload 12, 2) := by decide +kernel
theorem dX11_hasLine_238 : decode cX11_hasLine 238 = .ok (.ifCond .le 5, 3) := by decide +kernel
theorem dX11_hasLine_241 : decode cX11_hasLine 241 = .ok (.iconst 1, 1) := by decide +kernel
theorem dX11_hasLine_242 : decode cX11_hasLine 242 = .ok (.ireturn, 1) := by decide +kernel
theorem dX11_hasLine_243 : decode cX11_hasLine 243 = .ok (.iinc 9 1, 3) := by decide +kernel
theorem dX11_hasLine_246 : decode cX11_hasLine 246 = .ok (.goto (-169), 3) := by decide +kernel
theorem dX11_hasLine_249 : decode cX11_hasLine 249 = .ok (.iconst 0, 1) := by decide +kernel
theorem dX11_hasLine_250 : decode cX11_hasLine 250 = .ok (.ireturn, 1) := by decide +kernel
