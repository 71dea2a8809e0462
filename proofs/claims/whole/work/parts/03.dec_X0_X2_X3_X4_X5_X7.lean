theorem dX0_init_0 : decode cX0_init 0 = .ok (.aload_n 0, 1) := by decide +kernel
theorem dX0_init_1 : decode cX0_init 1 = .ok (.invokespecial 3, 3) := by decide +kernel
theorem dX0_init_4 : decode cX0_init 4 = .ok (.aload_n 0, 1) := by decide +kernel
theorem dX0_init_5 : decode cX0_init 5 = .ok (.iconst 4, 1) := by decide +kernel
theorem dX0_init_6 : decode cX0_init 6 = .ok (.iconst 5, 1) := by decide +kernel
theorem dX0_init_7 : decode cX0_init 7 = .ok (.multianewarray 9 2, 4) := by decide +kernel
theorem dX0_init_11 : decode cX0_init 11 = .ok (.putfield 11, 3) := by decide +kernel
theorem dX0_init_14 : decode cX0_init 14 = .ok (.return_, 1) := by decide +kernel
theorem dX0_countFixed_0 : decode cX0_countFixed 0 = .ok (.aload_n 0, 1) := by decide +kernel
theorem dX0_countFixed_1 : decode cX0_countFixed 1 = .ok (.iload_n 2, 1) := by decide +kernel
theorem dX0_countFixed_2 : decode cX0_countFixed 2 = .ok (.putfield 16, 3) := by decide +kernel
theorem dX0_countFixed_5 : decode cX0_countFixed 5 = .ok (.aload_n 0, 1) := by decide +kernel
theorem dX0_countFixed_6 : decode cX0_countFixed 6 = .ok (.iload_n 3, 1) := by decide +kernel
theorem dX0_countFixed_7 : decode cX0_countFixed 7 = .ok (.putfield 20, 3) := by decide +kernel
theorem dX0_countFixed_10 : decode cX0_countFixed 10 = .ok (.aload_n 0, 1) := by decide +kernel
theorem dX0_countFixed_11 : decode cX0_countFixed 11 = .ok (.aload_n 1, 1) := by decide +kernel
theorem dX0_countFixed_12 : decode cX0_countFixed 12 = .ok (.invokevirtual 23, 3) := by decide +kernel
theorem dX0_countFixed_15 : decode cX0_countFixed 15 = .ok (.lconst 1, 1) := by decide +kernel
theorem dX0_countFixed_16 : decode cX0_countFixed 16 = .ok (.lstore 4, 2) := by decide +kernel
theorem dX0_countFixed_18 : decode cX0_countFixed 18 = .ok (.iconst 0, 1) := by decide +kernel
theorem dX0_countFixed_19 : decode cX0_countFixed 19 = .ok (.istore 6, 2) := by decide +kernel
theorem dX0_countFixed_21 : decode cX0_countFixed 21 = .ok (.iload 6, 2) := by decide +kernel
theorem dX0_countFixed_23 : decode cX0_countFixed 23 = .ok (.aload_n 0, 1) := by decide +kernel
theorem dX0_countFixed_24 : decode cX0_countFixed 24 = .ok (.getfield 16, 3) := by decide +kernel
theorem dX0_countFixed_27 : decode cX0_countFixed 27 = .ok (.if_icmp .ge 28, 3) := by decide +kernel
theorem dX0_countFixed_30 : decode cX0_countFixed 30 = .ok (.lload 4, 2) := by decide +kernel
theorem dX0_countFixed_32 : decode cX0_countFixed 32 = .ok (.lconst 0, 1) := by decide +kernel
theorem dX0_countFixed_33 : decode cX0_countFixed 33 = .ok (.lcmp, 1) := by decide +kernel
theorem dX0_countFixed_34 : decode cX0_countFixed 34 = .ok (.ifCond .le 21, 3) := by decide +kernel
theorem dX0_countFixed_37 : decode cX0_countFixed 37 = .ok (.lload 4, 2) := by decide +kernel
theorem dX0_countFixed_39 : decode cX0_countFixed 39 = .ok (.aload_n 0, 1) := by decide +kernel
theorem dX0_countFixed_40 : decode cX0_countFixed 40 = .ok (.iload 6, 2) := by decide +kernel
theorem dX0_countFixed_42 : decode cX0_countFixed 42 = .ok (.invokevirtual 27, 3) := by decide +kernel
theorem dX0_countFixed_45 : decode cX0_countFixed 45 = .ok (.i2l, 1) := by decide +kernel
theorem dX0_countFixed_46 : decode cX0_countFixed 46 = .ok (.lmul, 1) := by decide +kernel
theorem dX0_countFixed_47 : decode cX0_countFixed 47 = .ok (.lstore 4, 2) := by decide +kernel
theorem dX0_countFixed_49 : decode cX0_countFixed 49 = .ok (.iinc 6 1, 3) := by decide +kernel
theorem dX0_countFixed_52 : decode cX0_countFixed 52 = .ok (.goto (-31), 3) := by decide +kernel
theorem dX0_countFixed_55 : decode cX0_countFixed 55 = .ok (.lload 4, 2) := by decide +kernel
theorem dX0_countFixed_57 : decode cX0_countFixed 57 = .ok (.lreturn, 1) := by decide +kernel
theorem dX0_load_0 : decode cX0_load 0 = .ok (.iconst 0, 1) := by decide +kernel
theorem dX0_load_1 : decode cX0_load 1 = .ok (.istore_n 2, 1) := by decide +kernel
theorem dX0_load_2 : decode cX0_load 2 = .ok (.iload_n 2, 1) := by decide +kernel
theorem dX0_load_3 : decode cX0_load 3 = .ok (.aload_n 0, 1) := by decide +kernel
theorem dX0_load_4 : decode cX0_load 4 = .ok (.getfield 16, 3) := by decide +kernel
theorem dX0_load_7 : decode cX0_load 7 = .ok (.if_icmp .ge 90, 3) := by decide +kernel
theorem dX0_load_10 : decode cX0_load 10 = .ok (.iconst 0, 1) := by decide +kernel
theorem dX0_load_11 : decode cX0_load 11 = .ok (.istore_n 3, 1) := by decide +kernel
theorem dX0_load_12 : decode cX0_load 12 = .ok (.iload_n 3, 1) := by decide +kernel
theorem dX0_load_13 : decode cX0_load 13 = .ok (.aload_n 0, 1) := by decide +kernel
theorem dX0_load_14 : decode cX0_load 14 = .ok (.getfield 16, 3) := by decide +kernel
theorem dX0_load_17 : decode cX0_load 17 = .ok (.if_icmp .ge 47, 3) := by decide +kernel
theorem dX0_load_20 : decode cX0_load 20 = .ok (.iload_n 2, 1) := by decide +kernel
theorem dX0_load_21 : decode cX0_load 21 = .ok (.iload_n 3, 1) := by decide +kernel
theorem dX0_load_22 : decode cX0_load 22 = .ok (.if_icmp .ne 7, 3) := by decide +kernel
theorem dX0_load_25 : decode cX0_load 25 = .ok (.iconst 1, 1) := by decide +kernel
theorem dX0_load_26 : decode cX0_load 26 = .ok (.goto 4, 3) := by decide +kernel
theorem dX0_load_29 : decode cX0_load 29 = .ok (.iconst 0, 1) := by decide +kernel
theorem dX0_load_30 : decode cX0_load 30 = .ok (.istore 4, 2) := by decide +kernel
theorem dX0_load_32 : decode cX0_load 32 = .ok (.aload_n 0, 1) := by decide +kernel
theorem dX0_load_33 : decode cX0_load 33 = .ok (.getfield 11, 3) := by decide +kernel
theorem dX0_load_36 : decode cX0_load 36 = .ok (.iload_n 2, 1) := by decide +kernel
theorem dX0_load_37 : decode cX0_load 37 = .ok (.aaload, 1) := by decide +kernel
theorem dX0_load_38 : decode cX0_load 38 = .ok (.iload_n 3, 1) := by decide +kernel
theorem dX0_load_39 : decode cX0_load 39 = .ok (.aload_n 1, 1) := by decide +kernel
theorem dX0_load_40 : decode cX0_load 40 = .ok (.iload_n 2, 1) := by decide +kernel
theorem dX0_load_41 : decode cX0_load 41 = .ok (.iconst 5, 1) := by decide +kernel
theorem dX0_load_42 : decode cX0_load 42 = .ok (.imul, 1) := by decide +kernel
theorem dX0_load_43 : decode cX0_load 43 = .ok (.iload_n 3, 1) := by decide +kernel
theorem dX0_load_44 : decode cX0_load 44 = .ok (.iadd, 1) := by decide +kernel
theorem dX0_load_45 : decode cX0_load 45 = .ok (.iaload, 1) := by decide +kernel
theorem dX0_load_46 : decode cX0_load 46 = .ok (.iload 4, 2) := by decide +kernel
theorem dX0_load_48 : decode cX0_load 48 = .ok (.isub, 1) := by decide +kernel
theorem dX0_load_49 : decode cX0_load 49 = .ok (.i2l, 1) := by decide +kernel
theorem dX0_load_50 : decode cX0_load 50 = .ok (.aload_n 0, 1) := by decide +kernel
theorem dX0_load_51 : decode cX0_load 51 = .ok (.getfield 20, 3) := by decide +kernel
theorem dX0_load_54 : decode cX0_load 54 = .ok (.invokestatic 33, 3) := by decide +kernel
theorem dX0_load_57 : decode cX0_load 57 = .ok (.iastore, 1) := by decide +kernel
theorem dX0_load_58 : decode cX0_load 58 = .ok (.iinc 3 1, 3) := by decide +kernel
theorem dX0_load_61 : decode cX0_load 61 = .ok (.goto (-49), 3) := by decide +kernel
theorem dX0_load_64 : decode cX0_load 64 = .ok (.aload_n 0, 1) := by decide +kernel
theorem dX0_load_65 : decode cX0_load 65 = .ok (.getfield 11, 3) := by decide +kernel
theorem dX0_load_68 : decode cX0_load 68 = .ok (.iload_n 2, 1) := by decide +kernel
theorem dX0_load_69 : decode cX0_load 69 = .ok (.aaload, 1) := by decide +kernel
theorem dX0_load_70 : decode cX0_load 70 = .ok (.aload_n 0, 1) := by decide +kernel
theorem dX0_load_71 : decode cX0_load 71 = .ok (.getfield 16, 3) := by decide +kernel
theorem dX0_load_74 : decode cX0_load 74 = .ok (.aload_n 1, 1) := by decide +kernel
theorem dX0_load_75 : decode cX0_load 75 = .ok (.iload_n 2, 1) := by decide +kernel
theorem dX0_load_76 : decode cX0_load 76 = .ok (.iconst 5, 1) := by decide +kernel
theorem dX0_load_77 : decode cX0_load 77 = .ok (.imul, 1) := by decide +kernel
theorem dX0_load_78 : decode cX0_load 78 = .ok (.iconst 4, 1) := by decide +kernel
theorem dX0_load_79 : decode cX0_load 79 = .ok (.iadd, 1) := by decide +kernel
theorem dX0_load_80 : decode cX0_load 80 = .ok (.iaload, 1) := by decide +kernel
theorem dX0_load_81 : decode cX0_load 81 = .ok (.ineg, 1) := by decide +kernel
theorem dX0_load_82 : decode cX0_load 82 = .ok (.i2l, 1) := by decide +kernel
theorem dX0_load_83 : decode cX0_load 83 = .ok (.aload_n 0, 1) := by decide +kernel
theorem dX0_load_84 : decode cX0_load 84 = .ok (.getfield 20, 3) := by decide +kernel
theorem dX0_load_87 : decode cX0_load 87 = .ok (.invokestatic 33, 3) := by decide +kernel
theorem dX0_load_90 : decode cX0_load 90 = .ok (.iastore, 1) := by decide +kernel
theorem dX0_load_91 : decode cX0_load 91 = .ok (.iinc 2 1, 3) := by decide +kernel
theorem dX0_load_94 : decode cX0_load 94 = .ok (.goto (-92), 3) := by decide +kernel
theorem dX0_load_97 : decode cX0_load 97 = .ok (.return_, 1) := by decide +kernel
theorem dX0_clear_0 : decode cX0_clear 0 = .ok (.aload_n 0, 1) := by decide +kernel
theorem dX0_clear_1 : decode cX0_clear 1 = .ok (.iload_n 1, 1) := by decide +kernel
theorem dX0_clear_2 : decode cX0_clear 2 = .ok (.invokevirtual 39, 3) := by decide +kernel
theorem dX0_clear_5 : decode cX0_clear 5 = .ok (.istore_n 2, 1) := by decide +kernel
theorem dX0_clear_6 : decode cX0_clear 6 = .ok (.aload_n 0, 1) := by decide +kernel
theorem dX0_clear_7 : decode cX0_clear 7 = .ok (.iload_n 1, 1) := by decide +kernel
theorem dX0_clear_8 : decode cX0_clear 8 = .ok (.invokevirtual 42, 3) := by decide +kernel
theorem dX0_clear_11 : decode cX0_clear 11 = .ok (.aload_n 0, 1) := by decide +kernel
theorem dX0_clear_12 : decode cX0_clear 12 = .ok (.getfield 11, 3) := by decide +kernel
theorem dX0_clear_15 : decode cX0_clear 15 = .ok (.iload_n 1, 1) := by decide +kernel
theorem dX0_clear_16 : decode cX0_clear 16 = .ok (.aaload, 1) := by decide +kernel
theorem dX0_clear_17 : decode cX0_clear 17 = .ok (.iload_n 1, 1) := by decide +kernel
theorem dX0_clear_18 : decode cX0_clear 18 = .ok (.iaload, 1) := by decide +kernel
theorem dX0_clear_19 : decode cX0_clear 19 = .ok (.istore_n 3, 1) := by decide +kernel
theorem dX0_clear_20 : decode cX0_clear 20 = .ok (.iload_n 3, 1) := by decide +kernel
theorem dX0_clear_21 : decode cX0_clear 21 = .ok (.iload_n 2, 1) := by decide +kernel
theorem dX0_clear_22 : decode cX0_clear 22 = .ok (.idiv, 1) := by decide +kernel
theorem dX0_clear_23 : decode cX0_clear 23 = .ok (.aload_n 0, 1) := by decide +kernel
theorem dX0_clear_24 : decode cX0_clear 24 = .ok (.getfield 20, 3) := by decide +kernel
theorem dX0_clear_27 : decode cX0_clear 27 = .ok (.invokestatic 46, 3) := by decide +kernel
theorem dX0_clear_30 : decode cX0_clear 30 = .ok (.istore 4, 2) := by decide +kernel
theorem dX0_clear_32 : decode cX0_clear 32 = .ok (.iload 4, 2) := by decide +kernel
theorem dX0_clear_34 : decode cX0_clear 34 = .ok (.ifCond .eq 89, 3) := by decide +kernel
theorem dX0_clear_37 : decode cX0_clear 37 = .ok (.iload_n 1, 1) := by decide +kernel
theorem dX0_clear_38 : decode cX0_clear 38 = .ok (.istore 5, 2) := by decide +kernel
theorem dX0_clear_40 : decode cX0_clear 40 = .ok (.iload 5, 2) := by decide +kernel
theorem dX0_clear_42 : decode cX0_clear 42 = .ok (.aload_n 0, 1) := by decide +kernel
theorem dX0_clear_43 : decode cX0_clear 43 = .ok (.getfield 16, 3) := by decide +kernel
theorem dX0_clear_46 : decode cX0_clear 46 = .ok (.if_icmp .gt 39, 3) := by decide +kernel
theorem dX0_clear_49 : decode cX0_clear 49 = .ok (.aload_n 0, 1) := by decide +kernel
theorem dX0_clear_50 : decode cX0_clear 50 = .ok (.getfield 11, 3) := by decide +kernel
theorem dX0_clear_53 : decode cX0_clear 53 = .ok (.iload_n 1, 1) := by decide +kernel
theorem dX0_clear_54 : decode cX0_clear 54 = .ok (.aaload, 1) := by decide +kernel
theorem dX0_clear_55 : decode cX0_clear 55 = .ok (.iload 5, 2) := by decide +kernel
theorem dX0_clear_57 : decode cX0_clear 57 = .ok (.aload_n 0, 1) := by decide +kernel
theorem dX0_clear_58 : decode cX0_clear 58 = .ok (.getfield 11, 3) := by decide +kernel
theorem dX0_clear_61 : decode cX0_clear 61 = .ok (.iload_n 1, 1) := by decide +kernel
theorem dX0_clear_62 : decode cX0_clear 62 = .ok (.aaload, 1) := by decide +kernel
theorem dX0_clear_63 : decode cX0_clear 63 = .ok (.iload 5, 2) := by decide +kernel
theorem dX0_clear_65 : decode cX0_clear 65 = .ok (.iaload, 1) := by decide +kernel
theorem dX0_clear_66 : decode cX0_clear 66 = .ok (.i2l, 1) := by decide +kernel
theorem dX0_clear_67 : decode cX0_clear 67 = .ok (.iload 4, 2) := by decide +kernel
theorem dX0_clear_69 : decode cX0_clear 69 = .ok (.i2l, 1) := by decide +kernel
theorem dX0_clear_70 : decode cX0_clear 70 = .ok (.lmul, 1) := by decide +kernel
theorem dX0_clear_71 : decode cX0_clear 71 = .ok (.aload_n 0, 1) := by decide +kernel
theorem dX0_clear_72 : decode cX0_clear 72 = .ok (.getfield 20, 3) := by decide +kernel
theorem dX0_clear_75 : decode cX0_clear 75 = .ok (.invokestatic 33, 3) := by decide +kernel
theorem dX0_clear_78 : decode cX0_clear 78 = .ok (.iastore, 1) := by decide +kernel
theorem dX0_clear_79 : decode cX0_clear 79 = .ok (.iinc 5 1, 3) := by decide +kernel
theorem dX0_clear_82 : decode cX0_clear 82 = .ok (.goto (-42), 3) := by decide +kernel
theorem dX0_clear_85 : decode cX0_clear 85 = .ok (.iload_n 1, 1) := by decide +kernel
theorem dX0_clear_86 : decode cX0_clear 86 = .ok (.iconst 1, 1) := by decide +kernel
theorem dX0_clear_87 : decode cX0_clear 87 = .ok (.iadd, 1) := by decide +kernel
theorem dX0_clear_88 : decode cX0_clear 88 = .ok (.istore 5, 2) := by decide +kernel
theorem dX0_clear_90 : decode cX0_clear 90 = .ok (.iload 5, 2) := by decide +kernel
theorem dX0_clear_92 : decode cX0_clear 92 = .ok (.aload_n 0, 1) := by decide +kernel
theorem dX0_clear_93 : decode cX0_clear 93 = .ok (.getfield 16, 3) := by decide +kernel
theorem dX0_clear_96 : decode cX0_clear 96 = .ok (.if_icmp .ge 27, 3) := by decide +kernel
theorem dX0_clear_99 : decode cX0_clear 99 = .ok (.aload_n 0, 1) := by decide +kernel
theorem dX0_clear_100 : decode cX0_clear 100 = .ok (.iload_n 1, 1) := by decide +kernel
theorem dX0_clear_101 : decode cX0_clear 101 = .ok (.iload 5, 2) := by decide +kernel
theorem dX0_clear_103 : decode cX0_clear 103 = .ok (.aload_n 0, 1) := by decide +kernel
theorem dX0_clear_104 : decode cX0_clear 104 = .ok (.getfield 11, 3) := by decide +kernel
theorem dX0_clear_107 : decode cX0_clear 107 = .ok (.iload 5, 2) := by decide +kernel
theorem dX0_clear_109 : decode cX0_clear 109 = .ok (.aaload, 1) := by decide +kernel
theorem dX0_clear_110 : decode cX0_clear 110 = .ok (.iload_n 1, 1) := by decide +kernel
theorem dX0_clear_111 : decode cX0_clear 111 = .ok (.iaload, 1) := by decide +kernel
theorem dX0_clear_112 : decode cX0_clear 112 = .ok (.iload_n 2, 1) := by decide +kernel
theorem dX0_clear_113 : decode cX0_clear 113 = .ok (.idiv, 1) := by decide +kernel
theorem dX0_clear_114 : decode cX0_clear 114 = .ok (.invokevirtual 50, 3) := by decide +kernel
theorem dX0_clear_117 : decode cX0_clear 117 = .ok (.iinc 5 1, 3) := by decide +kernel
theorem dX0_clear_120 : decode cX0_clear 120 = .ok (.goto (-30), 3) := by decide +kernel
theorem dX0_clear_123 : decode cX0_clear 123 = .ok (.aload_n 0, 1) := by decide +kernel
theorem dX0_clear_124 : decode cX0_clear 124 = .ok (.getfield 11, 3) := by decide +kernel
theorem dX0_clear_127 : decode cX0_clear 127 = .ok (.iload_n 1, 1) := by decide +kernel
theorem dX0_clear_128 : decode cX0_clear 128 = .ok (.aaload, 1) := by decide +kernel
theorem dX0_clear_129 : decode cX0_clear 129 = .ok (.aload_n 0, 1) := by decide +kernel
theorem dX0_clear_130 : decode cX0_clear 130 = .ok (.getfield 16, 3) := by decide +kernel
theorem dX0_clear_133 : decode cX0_clear 133 = .ok (.iaload, 1) := by decide +kernel
theorem dX0_clear_134 : decode cX0_clear 134 = .ok (.iload_n 2, 1) := by decide +kernel
theorem dX0_clear_135 : decode cX0_clear 135 = .ok (.irem, 1) := by decide +kernel
theorem dX0_clear_136 : decode cX0_clear 136 = .ok (.ifCond .ne 7, 3) := by decide +kernel
theorem dX0_clear_139 : decode cX0_clear 139 = .ok (.iload_n 2, 1) := by decide +kernel
theorem dX0_clear_140 : decode cX0_clear 140 = .ok (.goto 4, 3) := by decide +kernel
theorem dX0_clear_143 : decode cX0_clear 143 = .ok (.iconst 0, 1) := by decide +kernel
theorem dX0_clear_144 : decode cX0_clear 144 = .ok (.ireturn, 1) := by decide +kernel
theorem dX0_findLeast_0 : decode cX0_findLeast 0 = .ok (.aload_n 0, 1) := by decide +kernel
theorem dX0_findLeast_1 : decode cX0_findLeast 1 = .ok (.getfield 20, 3) := by decide +kernel
theorem dX0_findLeast_4 : decode cX0_findLeast 4 = .ok (.iconst 1, 1) := by decide +kernel
theorem dX0_findLeast_5 : decode cX0_findLeast 5 = .ok (.iadd, 1) := by decide +kernel
theorem dX0_findLeast_6 : decode cX0_findLeast 6 = .ok (.istore_n 2, 1) := by decide +kernel
theorem dX0_findLeast_7 : decode cX0_findLeast 7 = .ok (.iload_n 1, 1) := by decide +kernel
theorem dX0_findLeast_8 : decode cX0_findLeast 8 = .ok (.istore_n 3, 1) := by decide +kernel
theorem dX0_findLeast_9 : decode cX0_findLeast 9 = .ok (.iload_n 3, 1) := by decide +kernel
theorem dX0_findLeast_10 : decode cX0_findLeast 10 = .ok (.aload_n 0, 1) := by decide +kernel
theorem dX0_findLeast_11 : decode cX0_findLeast 11 = .ok (.getfield 16, 3) := by decide +kernel
theorem dX0_findLeast_14 : decode cX0_findLeast 14 = .ok (.if_icmp .ge 68, 3) := by decide +kernel
theorem dX0_findLeast_17 : decode cX0_findLeast 17 = .ok (.iload_n 1, 1) := by decide +kernel
theorem dX0_findLeast_18 : decode cX0_findLeast 18 = .ok (.istore 4, 2) := by decide +kernel
theorem dX0_findLeast_20 : decode cX0_findLeast 20 = .ok (.iload 4, 2) := by decide +kernel
theorem dX0_findLeast_22 : decode cX0_findLeast 22 = .ok (.aload_n 0, 1) := by decide +kernel
theorem dX0_findLeast_23 : decode cX0_findLeast 23 = .ok (.getfield 16, 3) := by decide +kernel
theorem dX0_findLeast_26 : decode cX0_findLeast 26 = .ok (.if_icmp .ge 50, 3) := by decide +kernel
theorem dX0_findLeast_29 : decode cX0_findLeast 29 = .ok (.aload_n 0, 1) := by decide +kernel
theorem dX0_findLeast_30 : decode cX0_findLeast 30 = .ok (.getfield 20, 3) := by decide +kernel
theorem dX0_findLeast_33 : decode cX0_findLeast 33 = .ok (.i2l, 1) := by decide +kernel
theorem dX0_findLeast_34 : decode cX0_findLeast 34 = .ok (.aload_n 0, 1) := by decide +kernel
theorem dX0_findLeast_35 : decode cX0_findLeast 35 = .ok (.getfield 11, 3) := by decide +kernel
theorem dX0_findLeast_38 : decode cX0_findLeast 38 = .ok (.iload_n 3, 1) := by decide +kernel
theorem dX0_findLeast_39 : decode cX0_findLeast 39 = .ok (.aaload, 1) := by decide +kernel
theorem dX0_findLeast_40 : decode cX0_findLeast 40 = .ok (.iload 4, 2) := by decide +kernel
theorem dX0_findLeast_42 : decode cX0_findLeast 42 = .ok (.iaload, 1) := by decide +kernel
theorem dX0_findLeast_43 : decode cX0_findLeast 43 = .ok (.i2l, 1) := by decide +kernel
theorem dX0_findLeast_44 : decode cX0_findLeast 44 = .ok (.invokestatic 54, 3) := by decide +kernel
theorem dX0_findLeast_47 : decode cX0_findLeast 47 = .ok (.l2i, 1) := by decide +kernel
theorem dX0_findLeast_48 : decode cX0_findLeast 48 = .ok (.istore 5, 2) := by decide +kernel
theorem dX0_findLeast_50 : decode cX0_findLeast 50 = .ok (.iload 5, 2) := by decide +kernel
theorem dX0_findLeast_52 : decode cX0_findLeast 52 = .ok (.iload_n 2, 1) := by decide +kernel
theorem dX0_findLeast_53 : decode cX0_findLeast 53 = .ok (.if_icmp .ge 17, 3) := by decide +kernel
theorem dX0_findLeast_56 : decode cX0_findLeast 56 = .ok (.iload 5, 2) := by decide +kernel
theorem dX0_findLeast_58 : decode cX0_findLeast 58 = .ok (.istore_n 2, 1) := by decide +kernel
theorem dX0_findLeast_59 : decode cX0_findLeast 59 = .ok (.aload_n 0, 1) := by decide +kernel
theorem dX0_findLeast_60 : decode cX0_findLeast 60 = .ok (.iload_n 3, 1) := by decide +kernel
theorem dX0_findLeast_61 : decode cX0_findLeast 61 = .ok (.putfield 58, 3) := by decide +kernel
theorem dX0_findLeast_64 : decode cX0_findLeast 64 = .ok (.aload_n 0, 1) := by decide +kernel
theorem dX0_findLeast_65 : decode cX0_findLeast 65 = .ok (.iload 4, 2) := by decide +kernel
theorem dX0_findLeast_67 : decode cX0_findLeast 67 = .ok (.putfield 61, 3) := by decide +kernel
theorem dX0_findLeast_70 : decode cX0_findLeast 70 = .ok (.iinc 4 1, 3) := by decide +kernel
theorem dX0_findLeast_73 : decode cX0_findLeast 73 = .ok (.goto (-53), 3) := by decide +kernel
theorem dX0_findLeast_76 : decode cX0_findLeast 76 = .ok (.iinc 3 1, 3) := by decide +kernel
theorem dX0_findLeast_79 : decode cX0_findLeast 79 = .ok (.goto (-70), 3) := by decide +kernel
theorem dX0_findLeast_82 : decode cX0_findLeast 82 = .ok (.iload_n 2, 1) := by decide +kernel
theorem dX0_findLeast_83 : decode cX0_findLeast 83 = .ok (.iconst 1, 1) := by decide +kernel
theorem dX0_findLeast_84 : decode cX0_findLeast 84 = .ok (.invokestatic 64, 3) := by decide +kernel
theorem dX0_findLeast_87 : decode cX0_findLeast 87 = .ok (.ireturn, 1) := by decide +kernel
theorem dX0_swap_0 : decode cX0_swap 0 = .ok (.aload_n 0, 1) := by decide +kernel
theorem dX0_swap_1 : decode cX0_swap 1 = .ok (.getfield 11, 3) := by decide +kernel
theorem dX0_swap_4 : decode cX0_swap 4 = .ok (.iload_n 1, 1) := by decide +kernel
theorem dX0_swap_5 : decode cX0_swap 5 = .ok (.aaload, 1) := by decide +kernel
theorem dX0_swap_6 : decode cX0_swap 6 = .ok (.astore_n 2, 1) := by decide +kernel
theorem dX0_swap_7 : decode cX0_swap 7 = .ok (.aload_n 0, 1) := by decide +kernel
theorem dX0_swap_8 : decode cX0_swap 8 = .ok (.getfield 11, 3) := by decide +kernel
theorem dX0_swap_11 : decode cX0_swap 11 = .ok (.iload_n 1, 1) := by decide +kernel
theorem dX0_swap_12 : decode cX0_swap 12 = .ok (.aload_n 0, 1) := by decide +kernel
theorem dX0_swap_13 : decode cX0_swap 13 = .ok (.getfield 11, 3) := by decide +kernel
theorem dX0_swap_16 : decode cX0_swap 16 = .ok (.aload_n 0, 1) := by decide +kernel
theorem dX0_swap_17 : decode cX0_swap 17 = .ok (.getfield 58, 3) := by decide +kernel
theorem dX0_swap_20 : decode cX0_swap 20 = .ok (.aaload, 1) := by decide +kernel
theorem dX0_swap_21 : decode cX0_swap 21 = .ok (.aastore, 1) := by decide +kernel
theorem dX0_swap_22 : decode cX0_swap 22 = .ok (.aload_n 0, 1) := by decide +kernel
theorem dX0_swap_23 : decode cX0_swap 23 = .ok (.getfield 11, 3) := by decide +kernel
theorem dX0_swap_26 : decode cX0_swap 26 = .ok (.aload_n 0, 1) := by decide +kernel
theorem dX0_swap_27 : decode cX0_swap 27 = .ok (.getfield 58, 3) := by decide +kernel
theorem dX0_swap_30 : decode cX0_swap 30 = .ok (.aload_n 2, 1) := by decide +kernel
theorem dX0_swap_31 : decode cX0_swap 31 = .ok (.aastore, 1) := by decide +kernel
theorem dX0_swap_32 : decode cX0_swap 32 = .ok (.iconst 0, 1) := by decide +kernel
theorem dX0_swap_33 : decode cX0_swap 33 = .ok (.istore_n 3, 1) := by decide +kernel
theorem dX0_swap_34 : decode cX0_swap 34 = .ok (.iload_n 3, 1) := by decide +kernel
theorem dX0_swap_35 : decode cX0_swap 35 = .ok (.aload_n 0, 1) := by decide +kernel
theorem dX0_swap_36 : decode cX0_swap 36 = .ok (.getfield 16, 3) := by decide +kernel
theorem dX0_swap_39 : decode cX0_swap 39 = .ok (.if_icmp .ge 51, 3) := by decide +kernel
theorem dX0_swap_42 : decode cX0_swap 42 = .ok (.aload_n 0, 1) := by decide +kernel
theorem dX0_swap_43 : decode cX0_swap 43 = .ok (.getfield 11, 3) := by decide +kernel
theorem dX0_swap_46 : decode cX0_swap 46 = .ok (.iload_n 3, 1) := by decide +kernel
theorem dX0_swap_47 : decode cX0_swap 47 = .ok (.aaload, 1) := by decide +kernel
theorem dX0_swap_48 : decode cX0_swap 48 = .ok (.iload_n 1, 1) := by decide +kernel
theorem dX0_swap_49 : decode cX0_swap 49 = .ok (.iaload, 1) := by decide +kernel
theorem dX0_swap_50 : decode cX0_swap 50 = .ok (.istore 4, 2) := by decide +kernel
theorem dX0_swap_52 : decode cX0_swap 52 = .ok (.aload_n 0, 1) := by decide +kernel
theorem dX0_swap_53 : decode cX0_swap 53 = .ok (.getfield 11, 3) := by decide +kernel
theorem dX0_swap_56 : decode cX0_swap 56 = .ok (.iload_n 3, 1) := by decide +kernel
theorem dX0_swap_57 : decode cX0_swap 57 = .ok (.aaload, 1) := by decide +kernel
theorem dX0_swap_58 : decode cX0_swap 58 = .ok (.iload_n 1, 1) := by decide +kernel
theorem dX0_swap_59 : decode cX0_swap 59 = .ok (.aload_n 0, 1) := by decide +kernel
theorem dX0_swap_60 : decode cX0_swap 60 = .ok (.getfield 11, 3) := by decide +kernel
theorem dX0_swap_63 : decode cX0_swap 63 = .ok (.iload_n 3, 1) := by decide +kernel
theorem dX0_swap_64 : decode cX0_swap 64 = .ok (.aaload, 1) := by decide +kernel
theorem dX0_swap_65 : decode cX0_swap 65 = .ok (.aload_n 0, 1) := by decide +kernel
theorem dX0_swap_66 : decode cX0_swap 66 = .ok (.getfield 61, 3) := by decide +kernel
theorem dX0_swap_69 : decode cX0_swap 69 = .ok (.iaload, 1) := by decide +kernel
theorem dX0_swap_70 : decode cX0_swap 70 = .ok (.iastore, 1) := by decide +kernel
theorem dX0_swap_71 : decode cX0_swap 71 = .ok (.aload_n 0, 1) := by decide +kernel
theorem dX0_swap_72 : decode cX0_swap 72 = .ok (.getfield 11, 3) := by decide +kernel
theorem dX0_swap_75 : decode cX0_swap 75 = .ok (.iload_n 3, 1) := by decide +kernel
theorem dX0_swap_76 : decode cX0_swap 76 = .ok (.aaload, 1) := by decide +kernel
theorem dX0_swap_77 : decode cX0_swap 77 = .ok (.aload_n 0, 1) := by decide +kernel
theorem dX0_swap_78 : decode cX0_swap 78 = .ok (.getfield 61, 3) := by decide +kernel
theorem dX0_swap_81 : decode cX0_swap 81 = .ok (.iload 4, 2) := by decide +kernel
theorem dX0_swap_83 : decode cX0_swap 83 = .ok (.iastore, 1) := by decide +kernel
theorem dX0_swap_84 : decode cX0_swap 84 = .ok (.iinc 3 1, 3) := by decide +kernel
theorem dX0_swap_87 : decode cX0_swap 87 = .ok (.goto (-53), 3) := by decide +kernel
theorem dX0_swap_90 : decode cX0_swap 90 = .ok (.return_, 1) := by decide +kernel
theorem dX0_takeOff_0 : decode cX0_takeOff 0 = .ok (.iload_n 1, 1) := by decide +kernel
theorem dX0_takeOff_1 : decode cX0_takeOff 1 = .ok (.istore 4, 2) := by decide +kernel
theorem dX0_takeOff_3 : decode cX0_takeOff 3 = .ok (.iload 4, 2) := by decide +kernel
theorem dX0_takeOff_5 : decode cX0_takeOff 5 = .ok (.aload_n 0, 1) := by decide +kernel
theorem dX0_takeOff_6 : decode cX0_takeOff 6 = .ok (.getfield 16, 3) := by decide +kernel
theorem dX0_takeOff_9 : decode cX0_takeOff 9 = .ok (.if_icmp .gt 49, 3) := by decide +kernel
theorem dX0_takeOff_12 : decode cX0_takeOff 12 = .ok (.aload_n 0, 1) := by decide +kernel
theorem dX0_takeOff_13 : decode cX0_takeOff 13 = .ok (.getfield 11, 3) := by decide +kernel
theorem dX0_takeOff_16 : decode cX0_takeOff 16 = .ok (.iload_n 2, 1) := by decide +kernel
theorem dX0_takeOff_17 : decode cX0_takeOff 17 = .ok (.aaload, 1) := by decide +kernel
theorem dX0_takeOff_18 : decode cX0_takeOff 18 = .ok (.iload 4, 2) := by decide +kernel
theorem dX0_takeOff_20 : decode cX0_takeOff 20 = .ok (.aload_n 0, 1) := by decide +kernel
theorem dX0_takeOff_21 : decode cX0_takeOff 21 = .ok (.getfield 11, 3) := by decide +kernel
theorem dX0_takeOff_24 : decode cX0_takeOff 24 = .ok (.iload_n 2, 1) := by decide +kernel
theorem dX0_takeOff_25 : decode cX0_takeOff 25 = .ok (.aaload, 1) := by decide +kernel
theorem dX0_takeOff_26 : decode cX0_takeOff 26 = .ok (.iload 4, 2) := by decide +kernel
theorem dX0_takeOff_28 : decode cX0_takeOff 28 = .ok (.iaload, 1) := by decide +kernel
theorem dX0_takeOff_29 : decode cX0_takeOff 29 = .ok (.i2l, 1) := by decide +kernel
theorem dX0_takeOff_30 : decode cX0_takeOff 30 = .ok (.iload_n 3, 1) := by decide +kernel
theorem dX0_takeOff_31 : decode cX0_takeOff 31 = .ok (.i2l, 1) := by decide +kernel
theorem dX0_takeOff_32 : decode cX0_takeOff 32 = .ok (.aload_n 0, 1) := by decide +kernel
theorem dX0_takeOff_33 : decode cX0_takeOff 33 = .ok (.getfield 11, 3) := by decide +kernel
theorem dX0_takeOff_36 : decode cX0_takeOff 36 = .ok (.iload_n 1, 1) := by decide +kernel
theorem dX0_takeOff_37 : decode cX0_takeOff 37 = .ok (.aaload, 1) := by decide +kernel
theorem dX0_takeOff_38 : decode cX0_takeOff 38 = .ok (.iload 4, 2) := by decide +kernel
theorem dX0_takeOff_40 : decode cX0_takeOff 40 = .ok (.iaload, 1) := by decide +kernel
theorem dX0_takeOff_41 : decode cX0_takeOff 41 = .ok (.i2l, 1) := by decide +kernel
theorem dX0_takeOff_42 : decode cX0_takeOff 42 = .ok (.lmul, 1) := by decide +kernel
theorem dX0_takeOff_43 : decode cX0_takeOff 43 = .ok (.lsub, 1) := by decide +kernel
theorem dX0_takeOff_44 : decode cX0_takeOff 44 = .ok (.aload_n 0, 1) := by decide +kernel
theorem dX0_takeOff_45 : decode cX0_takeOff 45 = .ok (.getfield 20, 3) := by decide +kernel
theorem dX0_takeOff_48 : decode cX0_takeOff 48 = .ok (.invokestatic 33, 3) := by decide +kernel
theorem dX0_takeOff_51 : decode cX0_takeOff 51 = .ok (.iastore, 1) := by decide +kernel
theorem dX0_takeOff_52 : decode cX0_takeOff 52 = .ok (.iinc 4 1, 3) := by decide +kernel
theorem dX0_takeOff_55 : decode cX0_takeOff 55 = .ok (.goto (-52), 3) := by decide +kernel
theorem dX0_takeOff_58 : decode cX0_takeOff 58 = .ok (.return_, 1) := by decide +kernel
theorem dX2_init_0 : decode cX2_init 0 = .ok (.aload_n 0, 1) := by decide +kernel
theorem dX2_init_1 : decode cX2_init 1 = .ok (.invokespecial 3, 3) := by decide +kernel
theorem dX2_init_4 : decode cX2_init 4 = .ok (.aload_n 0, 1) := by decide +kernel
theorem dX2_init_5 : decode cX2_init 5 = .ok (.iconst 4, 1) := by decide +kernel
theorem dX2_init_6 : decode cX2_init 6 = .ok (.newarray .int, 2) := by decide +kernel
theorem dX2_init_8 : decode cX2_init 8 = .ok (.putfield 9, 3) := by decide +kernel
theorem dX2_init_11 : decode cX2_init 11 = .ok (.aload_n 0, 1) := by decide +kernel
theorem dX2_init_12 : decode cX2_init 12 = .ok (.iconst 4, 1) := by decide +kernel
theorem dX2_init_13 : decode cX2_init 13 = .ok (.newarray .int, 2) := by decide +kernel
theorem dX2_init_15 : decode cX2_init 15 = .ok (.putfield 15, 3) := by decide +kernel
theorem dX2_init_18 : decode cX2_init 18 = .ok (.return_, 1) := by decide +kernel
theorem dX2_forget_0 : decode cX2_forget 0 = .ok (.aload_n 0, 1) := by decide +kernel
theorem dX2_forget_1 : decode cX2_forget 1 = .ok (.iconst 0, 1) := by decide +kernel
theorem dX2_forget_2 : decode cX2_forget 2 = .ok (.putfield 18, 3) := by decide +kernel
theorem dX2_forget_5 : decode cX2_forget 5 = .ok (.return_, 1) := by decide +kernel
theorem dX2_find_0 : decode cX2_find 0 = .ok (.aload_n 0, 1) := by decide +kernel
theorem dX2_find_1 : decode cX2_find 1 = .ok (.getfield 18, 3) := by decide +kernel
theorem dX2_find_4 : decode cX2_find 4 = .ok (.iload_n 3, 1) := by decide +kernel
theorem dX2_find_5 : decode cX2_find 5 = .ok (.if_icmp .eq 15, 3) := by decide +kernel
theorem dX2_find_8 : decode cX2_find 8 = .ok (.iload_n 3, 1) := by decide +kernel
theorem dX2_find_9 : decode cX2_find 9 = .ok (.ifCond .lt 11, 3) := by decide +kernel
theorem dX2_find_12 : decode cX2_find 12 = .ok (.iload_n 3, 1) := by decide +kernel
theorem dX2_find_13 : decode cX2_find 13 = .ok (.getstatic 22, 3) := by decide +kernel
theorem dX2_find_16 : decode cX2_find 16 = .ok (.arraylength, 1) := by decide +kernel
theorem dX2_find_17 : decode cX2_find 17 = .ok (.if_icmp .lt 4, 3) := by decide +kernel
theorem dX2_find_20 : decode cX2_find 20 = .ok (.return_, 1) := by decide +kernel
theorem dX2_find_21 : decode cX2_find 21 = .ok (.aload_n 0, 1) := by decide +kernel
theorem dX2_find_22 : decode cX2_find 22 = .ok (.iload_n 3, 1) := by decide +kernel
theorem dX2_find_23 : decode cX2_find 23 = .ok (.putfield 18, 3) := by decide +kernel
theorem dX2_find_26 : decode cX2_find 26 = .ok (.aload_n 0, 1) := by decide +kernel
theorem dX2_find_27 : decode cX2_find 27 = .ok (.ldc 25, 2) := by decide +kernel
theorem dX2_find_29 : decode cX2_find 29 = .ok (.putfield 26, 3) := by decide +kernel
theorem dX2_find_32 : decode cX2_find 32 = .ok (.getstatic 22, 3) := by decide +kernel
theorem dX2_find_35 : decode cX2_find 35 = .ok (.iload_n 3, 1) := by decide +kernel
theorem dX2_find_36 : decode cX2_find 36 = .ok (.iaload, 1) := by decide +kernel
theorem dX2_find_37 : decode cX2_find 37 = .ok (.istore 4, 2) := by decide +kernel
theorem dX2_find_39 : decode cX2_find 39 = .ok (.iload_n 3, 1) := by decide +kernel
theorem dX2_find_40 : decode cX2_find 40 = .ok (.iconst 2, 1) := by decide +kernel
theorem dX2_find_41 : decode cX2_find 41 = .ok (.if_icmp .le 8, 3) := by decide +kernel
theorem dX2_find_44 : decode cX2_find 44 = .ok (.iload 4, 2) := by decide +kernel
theorem dX2_find_46 : decode cX2_find 46 = .ok (.goto 4, 3) := by decide +kernel
theorem dX2_find_49 : decode cX2_find 49 = .ok (.iconst 0, 1) := by decide +kernel
theorem dX2_find_50 : decode cX2_find 50 = .ok (.istore 5, 2) := by decide +kernel
theorem dX2_find_52 : decode cX2_find 52 = .ok (.iload_n 3, 1) := by decide +kernel
theorem dX2_find_53 : decode cX2_find 53 = .ok (.iconst 3, 1) := by decide +kernel
theorem dX2_find_54 : decode cX2_find 54 = .ok (.if_icmp .le 8, 3) := by decide +kernel
theorem dX2_find_57 : decode cX2_find 57 = .ok (.iload 4, 2) := by decide +kernel
theorem dX2_find_59 : decode cX2_find 59 = .ok (.goto 4, 3) := by decide +kernel
theorem dX2_find_62 : decode cX2_find 62 = .ok (.iconst 0, 1) := by decide +kernel
theorem dX2_find_63 : decode cX2_find 63 = .ok (.istore 6, 2) := by decide +kernel
theorem dX2_find_65 : decode cX2_find 65 = .ok (.iload 4, 2) := by decide +kernel
theorem dX2_find_67 : decode cX2_find 67 = .ok (.ineg, 1) := by decide +kernel
theorem dX2_find_68 : decode cX2_find 68 = .ok (.istore 7, 2) := by decide +kernel
theorem dX2_find_70 : decode cX2_find 70 = .ok (.iload 7, 2) := by decide +kernel
theorem dX2_find_72 : decode cX2_find 72 = .ok (.iload 4, 2) := by decide +kernel
theorem dX2_find_74 : decode cX2_find 74 = .ok (.if_icmp .gt 100, 3) := by decide +kernel
theorem dX2_find_77 : decode cX2_find 77 = .ok (.iload 5, 2) := by decide +kernel
theorem dX2_find_79 : decode cX2_find 79 = .ok (.ineg, 1) := by decide +kernel
theorem dX2_find_80 : decode cX2_find 80 = .ok (.istore 8, 2) := by decide +kernel
theorem dX2_find_82 : decode cX2_find 82 = .ok (.iload 8, 2) := by decide +kernel
theorem dX2_find_84 : decode cX2_find 84 = .ok (.iload 5, 2) := by decide +kernel
theorem dX2_find_86 : decode cX2_find 86 = .ok (.if_icmp .gt 82, 3) := by decide +kernel
theorem dX2_find_89 : decode cX2_find 89 = .ok (.iload 6, 2) := by decide +kernel
theorem dX2_find_91 : decode cX2_find 91 = .ok (.ineg, 1) := by decide +kernel
theorem dX2_find_92 : decode cX2_find 92 = .ok (.istore 9, 2) := by decide +kernel
theorem dX2_find_94 : decode cX2_find 94 = .ok (.iload 9, 2) := by decide +kernel
theorem dX2_find_96 : decode cX2_find 96 = .ok (.iload 6, 2) := by decide +kernel
theorem dX2_find_98 : decode cX2_find 98 = .ok (.if_icmp .gt 64, 3) := by decide +kernel
theorem dX2_find_101 : decode cX2_find 101 = .ok (.aload_n 0, 1) := by decide +kernel
theorem dX2_find_102 : decode cX2_find 102 = .ok (.getfield 15, 3) := by decide +kernel
theorem dX2_find_105 : decode cX2_find 105 = .ok (.iconst 1, 1) := by decide +kernel
theorem dX2_find_106 : decode cX2_find 106 = .ok (.iload 7, 2) := by decide +kernel
theorem dX2_find_108 : decode cX2_find 108 = .ok (.iastore, 1) := by decide +kernel
theorem dX2_find_109 : decode cX2_find 109 = .ok (.aload_n 0, 1) := by decide +kernel
theorem dX2_find_110 : decode cX2_find 110 = .ok (.getfield 15, 3) := by decide +kernel
theorem dX2_find_113 : decode cX2_find 113 = .ok (.iconst 2, 1) := by decide +kernel
theorem dX2_find_114 : decode cX2_find 114 = .ok (.iload 8, 2) := by decide +kernel
theorem dX2_find_116 : decode cX2_find 116 = .ok (.iastore, 1) := by decide +kernel
theorem dX2_find_117 : decode cX2_find 117 = .ok (.aload_n 0, 1) := by decide +kernel
theorem dX2_find_118 : decode cX2_find 118 = .ok (.getfield 15, 3) := by decide +kernel
theorem dX2_find_121 : decode cX2_find 121 = .ok (.iconst 3, 1) := by decide +kernel
theorem dX2_find_122 : decode cX2_find 122 = .ok (.iload 9, 2) := by decide +kernel
theorem dX2_find_124 : decode cX2_find 124 = .ok (.iastore, 1) := by decide +kernel
theorem dX2_find_125 : decode cX2_find 125 = .ok (.aload_n 0, 1) := by decide +kernel
theorem dX2_find_126 : decode cX2_find 126 = .ok (.getfield 15, 3) := by decide +kernel
theorem dX2_find_129 : decode cX2_find 129 = .ok (.iconst 0, 1) := by decide +kernel
theorem dX2_find_130 : decode cX2_find 130 = .ok (.iload_n 1, 1) := by decide +kernel
theorem dX2_find_131 : decode cX2_find 131 = .ok (.i2l, 1) := by decide +kernel
theorem dX2_find_132 : decode cX2_find 132 = .ok (.lneg, 1) := by decide +kernel
theorem dX2_find_133 : decode cX2_find 133 = .ok (.iload 7, 2) := by decide +kernel
theorem dX2_find_135 : decode cX2_find 135 = .ok (.iload_n 1, 1) := by decide +kernel
theorem dX2_find_136 : decode cX2_find 136 = .ok (.iload 8, 2) := by decide +kernel
theorem dX2_find_138 : decode cX2_find 138 = .ok (.iload_n 1, 1) := by decide +kernel
theorem dX2_find_139 : decode cX2_find 139 = .ok (.iload 9, 2) := by decide +kernel
theorem dX2_find_141 : decode cX2_find 141 = .ok (.imul, 1) := by decide +kernel
theorem dX2_find_142 : decode cX2_find 142 = .ok (.iadd, 1) := by decide +kernel
theorem dX2_find_143 : decode cX2_find 143 = .ok (.imul, 1) := by decide +kernel
theorem dX2_find_144 : decode cX2_find 144 = .ok (.iadd, 1) := by decide +kernel
theorem dX2_find_145 : decode cX2_find 145 = .ok (.i2l, 1) := by decide +kernel
theorem dX2_find_146 : decode cX2_find 146 = .ok (.lmul, 1) := by decide +kernel
theorem dX2_find_147 : decode cX2_find 147 = .ok (.iload_n 2, 1) := by decide +kernel
theorem dX2_find_148 : decode cX2_find 148 = .ok (.invokestatic 29, 3) := by decide +kernel
theorem dX2_find_151 : decode cX2_find 151 = .ok (.iastore, 1) := by decide +kernel
theorem dX2_find_152 : decode cX2_find 152 = .ok (.aload_n 0, 1) := by decide +kernel
theorem dX2_find_153 : decode cX2_find 153 = .ok (.invokevirtual 35, 3) := by decide +kernel
theorem dX2_find_156 : decode cX2_find 156 = .ok (.iinc 9 1, 3) := by decide +kernel
theorem dX2_find_159 : decode cX2_find 159 = .ok (.goto (-65), 3) := by decide +kernel
theorem dX2_find_162 : decode cX2_find 162 = .ok (.iinc 8 1, 3) := by decide +kernel
theorem dX2_find_165 : decode cX2_find 165 = .ok (.goto (-83), 3) := by decide +kernel
theorem dX2_find_168 : decode cX2_find 168 = .ok (.iinc 7 1, 3) := by decide +kernel
theorem dX2_find_171 : decode cX2_find 171 = .ok (.goto (-101), 3) := by decide +kernel
theorem dX2_find_174 : decode cX2_find 174 = .ok (.return_, 1) := by decide +kernel
theorem dX2_take_0 : decode cX2_take 0 = .ok (.iconst 0, 1) := by decide +kernel
theorem dX2_take_1 : decode cX2_take 1 = .ok (.istore_n 1, 1) := by decide +kernel
theorem dX2_take_2 : decode cX2_take 2 = .ok (.aload_n 0, 1) := by decide +kernel
theorem dX2_take_3 : decode cX2_take 3 = .ok (.getfield 15, 3) := by decide +kernel
theorem dX2_take_6 : decode cX2_take 6 = .ok (.astore_n 2, 1) := by decide +kernel
theorem dX2_take_7 : decode cX2_take 7 = .ok (.aload_n 2, 1) := by decide +kernel
theorem dX2_take_8 : decode cX2_take 8 = .ok (.arraylength, 1) := by decide +kernel
theorem dX2_take_9 : decode cX2_take 9 = .ok (.istore_n 3, 1) := by decide +kernel
theorem dX2_take_10 : decode cX2_take 10 = .ok (.iconst 0, 1) := by decide +kernel
theorem dX2_take_11 : decode cX2_take 11 = .ok (.istore 4, 2) := by decide +kernel
theorem dX2_take_13 : decode cX2_take 13 = .ok (.iload 4, 2) := by decide +kernel
theorem dX2_take_15 : decode cX2_take 15 = .ok (.iload_n 3, 1) := by decide +kernel
theorem dX2_take_16 : decode cX2_take 16 = .ok (.if_icmp .ge 23, 3) := by decide +kernel
theorem dX2_take_19 : decode cX2_take 19 = .ok (.aload_n 2, 1) := by decide +kernel
theorem dX2_take_20 : decode cX2_take 20 = .ok (.iload 4, 2) := by decide +kernel
theorem dX2_take_22 : decode cX2_take 22 = .ok (.iaload, 1) := by decide +kernel
theorem dX2_take_23 : decode cX2_take 23 = .ok (.istore 5, 2) := by decide +kernel
theorem dX2_take_25 : decode cX2_take 25 = .ok (.iload_n 1, 1) := by decide +kernel
theorem dX2_take_26 : decode cX2_take 26 = .ok (.iload 5, 2) := by decide +kernel
theorem dX2_take_28 : decode cX2_take 28 = .ok (.iload 5, 2) := by decide +kernel
theorem dX2_take_30 : decode cX2_take 30 = .ok (.imul, 1) := by decide +kernel
theorem dX2_take_31 : decode cX2_take 31 = .ok (.iadd, 1) := by decide +kernel
theorem dX2_take_32 : decode cX2_take 32 = .ok (.istore_n 1, 1) := by decide +kernel
theorem dX2_take_33 : decode cX2_take 33 = .ok (.iinc 4 1, 3) := by decide +kernel
theorem dX2_take_36 : decode cX2_take 36 = .ok (.goto (-23), 3) := by decide +kernel
theorem dX2_take_39 : decode cX2_take 39 = .ok (.iload_n 1, 1) := by decide +kernel
theorem dX2_take_40 : decode cX2_take 40 = .ok (.aload_n 0, 1) := by decide +kernel
theorem dX2_take_41 : decode cX2_take 41 = .ok (.getfield 26, 3) := by decide +kernel
theorem dX2_take_44 : decode cX2_take 44 = .ok (.if_icmp .gt 48, 3) := by decide +kernel
theorem dX2_take_47 : decode cX2_take 47 = .ok (.aload_n 0, 1) := by decide +kernel
theorem dX2_take_48 : decode cX2_take 48 = .ok (.invokevirtual 38, 3) := by decide +kernel
theorem dX2_take_51 : decode cX2_take 51 = .ok (.ifCond .eq 41, 3) := by decide +kernel
theorem dX2_take_54 : decode cX2_take 54 = .ok (.iload_n 1, 1) := by decide +kernel
theorem dX2_take_55 : decode cX2_take 55 = .ok (.aload_n 0, 1) := by decide +kernel
theorem dX2_take_56 : decode cX2_take 56 = .ok (.getfield 26, 3) := by decide +kernel
theorem dX2_take_59 : decode cX2_take 59 = .ok (.if_icmp .lt 10, 3) := by decide +kernel
theorem dX2_take_62 : decode cX2_take 62 = .ok (.aload_n 0, 1) := by decide +kernel
theorem dX2_take_63 : decode cX2_take 63 = .ok (.invokevirtual 42, 3) := by decide +kernel
theorem dX2_take_66 : decode cX2_take 66 = .ok (.ifCond .eq 26, 3) := by decide +kernel
theorem dX2_take_69 : decode cX2_take 69 = .ok (.aload_n 0, 1) := by decide +kernel
theorem dX2_take_70 : decode cX2_take 70 = .ok (.iload_n 1, 1) := by decide +kernel
theorem dX2_take_71 : decode cX2_take 71 = .ok (.putfield 26, 3) := by decide +kernel
theorem dX2_take_74 : decode cX2_take 74 = .ok (.aload_n 0, 1) := by decide +kernel
theorem dX2_take_75 : decode cX2_take 75 = .ok (.getfield 15, 3) := by decide +kernel
theorem dX2_take_78 : decode cX2_take 78 = .ok (.iconst 0, 1) := by decide +kernel
theorem dX2_take_79 : decode cX2_take 79 = .ok (.aload_n 0, 1) := by decide +kernel
theorem dX2_take_80 : decode cX2_take 80 = .ok (.getfield 9, 3) := by decide +kernel
theorem dX2_take_83 : decode cX2_take 83 = .ok (.iconst 0, 1) := by decide +kernel
theorem dX2_take_84 : decode cX2_take 84 = .ok (.aload_n 0, 1) := by decide +kernel
theorem dX2_take_85 : decode cX2_take 85 = .ok (.getfield 9, 3) := by decide +kernel
theorem dX2_take_88 : decode cX2_take 88 = .ok (.arraylength, 1) := by decide +kernel
theorem dX2_take_89 : decode cX2_take 89 = .ok (.invokestatic 45, 3) := by decide +kernel
theorem dX2_take_92 : decode cX2_take 92 = .ok (.return_, 1) := by decide +kernel
theorem dX2_startsAboveNought_0 : decode cX2_startsAboveNought 0 = .ok (.aload_n 0, 1) := by decide +kernel
theorem dX2_startsAboveNought_1 : decode cX2_startsAboveNought 1 = .ok (.getfield 15, 3) := by decide +kernel
theorem dX2_startsAboveNought_4 : decode cX2_startsAboveNought 4 = .ok (.astore_n 1, 1) := by decide +kernel
theorem dX2_startsAboveNought_5 : decode cX2_startsAboveNought 5 = .ok (.aload_n 1, 1) := by decide +kernel
theorem dX2_startsAboveNought_6 : decode cX2_startsAboveNought 6 = .ok (.arraylength, 1) := by decide +kernel
theorem dX2_startsAboveNought_7 : decode cX2_startsAboveNought 7 = .ok (.istore_n 2, 1) := by decide +kernel
theorem dX2_startsAboveNought_8 : decode cX2_startsAboveNought 8 = .ok (.iconst 0, 1) := by decide +kernel
theorem dX2_startsAboveNought_9 : decode cX2_startsAboveNought 9 = .ok (.istore_n 3, 1) := by decide +kernel
theorem dX2_startsAboveNought_10 : decode cX2_startsAboveNought 10 = .ok (.iload_n 3, 1) := by decide +kernel
theorem dX2_startsAboveNought_11 : decode cX2_startsAboveNought 11 = .ok (.iload_n 2, 1) := by decide +kernel
theorem dX2_startsAboveNought_12 : decode cX2_startsAboveNought 12 = .ok (.if_icmp .ge 30, 3) := by decide +kernel
theorem dX2_startsAboveNought_15 : decode cX2_startsAboveNought 15 = .ok (.aload_n 1, 1) := by decide +kernel
theorem dX2_startsAboveNought_16 : decode cX2_startsAboveNought 16 = .ok (.iload_n 3, 1) := by decide +kernel
theorem dX2_startsAboveNought_17 : decode cX2_startsAboveNought 17 = .ok (.iaload, 1) := by decide +kernel
theorem dX2_startsAboveNought_18 : decode cX2_startsAboveNought 18 = .ok (.istore 4, 2) := by decide +kernel
theorem dX2_startsAboveNought_20 : decode cX2_startsAboveNought 20 = .ok (.iload 4, 2) := by decide +kernel
theorem dX2_startsAboveNought_22 : decode cX2_startsAboveNought 22 = .ok (.ifCond .eq 14, 3) := by decide +kernel
theorem dX2_startsAboveNought_25 : decode cX2_startsAboveNought 25 = .ok (.iload 4, 2) := by decide +kernel
theorem dX2_startsAboveNought_27 : decode cX2_startsAboveNought 27 = .ok (.ifCond .le 7, 3) := by decide +kernel
theorem dX2_startsAboveNought_30 : decode cX2_startsAboveNought 30 = .ok (.iconst 1, 1) := by decide +kernel
theorem dX2_startsAboveNought_31 : decode cX2_startsAboveNought 31 = .ok (.goto 4, 3) := by decide +kernel
theorem dX2_startsAboveNought_34 : decode cX2_startsAboveNought 34 = .ok (.iconst 0, 1) := by decide +kernel
theorem dX2_startsAboveNought_35 : decode cX2_startsAboveNought 35 = .ok (.ireturn, 1) := by decide +kernel
theorem dX2_startsAboveNought_36 : decode cX2_startsAboveNought 36 = .ok (.iinc 3 1, 3) := by decide +kernel
theorem dX2_startsAboveNought_39 : decode cX2_startsAboveNought 39 = .ok (.goto (-29), 3) := by decide +kernel
theorem dX2_startsAboveNought_42 : decode cX2_startsAboveNought 42 = .ok (.iconst 0, 1) := by decide +kernel
theorem dX2_startsAboveNought_43 : decode cX2_startsAboveNought 43 = .ok (.ireturn, 1) := by decide +kernel
theorem dX2_comesFirst_0 : decode cX2_comesFirst 0 = .ok (.iconst 0, 1) := by decide +kernel
theorem dX2_comesFirst_1 : decode cX2_comesFirst 1 = .ok (.istore_n 1, 1) := by decide +kernel
theorem dX2_comesFirst_2 : decode cX2_comesFirst 2 = .ok (.iload_n 1, 1) := by decide +kernel
theorem dX2_comesFirst_3 : decode cX2_comesFirst 3 = .ok (.aload_n 0, 1) := by decide +kernel
theorem dX2_comesFirst_4 : decode cX2_comesFirst 4 = .ok (.getfield 9, 3) := by decide +kernel
theorem dX2_comesFirst_7 : decode cX2_comesFirst 7 = .ok (.arraylength, 1) := by decide +kernel
theorem dX2_comesFirst_8 : decode cX2_comesFirst 8 = .ok (.if_icmp .ge 45, 3) := by decide +kernel
theorem dX2_comesFirst_11 : decode cX2_comesFirst 11 = .ok (.aload_n 0, 1) := by decide +kernel
theorem dX2_comesFirst_12 : decode cX2_comesFirst 12 = .ok (.getfield 15, 3) := by decide +kernel
theorem dX2_comesFirst_15 : decode cX2_comesFirst 15 = .ok (.iload_n 1, 1) := by decide +kernel
theorem dX2_comesFirst_16 : decode cX2_comesFirst 16 = .ok (.iaload, 1) := by decide +kernel
theorem dX2_comesFirst_17 : decode cX2_comesFirst 17 = .ok (.aload_n 0, 1) := by decide +kernel
theorem dX2_comesFirst_18 : decode cX2_comesFirst 18 = .ok (.getfield 9, 3) := by decide +kernel
theorem dX2_comesFirst_21 : decode cX2_comesFirst 21 = .ok (.iload_n 1, 1) := by decide +kernel
theorem dX2_comesFirst_22 : decode cX2_comesFirst 22 = .ok (.iaload, 1) := by decide +kernel
theorem dX2_comesFirst_23 : decode cX2_comesFirst 23 = .ok (.if_icmp .eq 24, 3) := by decide +kernel
theorem dX2_comesFirst_26 : decode cX2_comesFirst 26 = .ok (.aload_n 0, 1) := by decide +kernel
theorem dX2_comesFirst_27 : decode cX2_comesFirst 27 = .ok (.getfield 15, 3) := by decide +kernel
theorem dX2_comesFirst_30 : decode cX2_comesFirst 30 = .ok (.iload_n 1, 1) := by decide +kernel
theorem dX2_comesFirst_31 : decode cX2_comesFirst 31 = .ok (.iaload, 1) := by decide +kernel
theorem dX2_comesFirst_32 : decode cX2_comesFirst 32 = .ok (.aload_n 0, 1) := by decide +kernel
theorem dX2_comesFirst_33 : decode cX2_comesFirst 33 = .ok (.getfield 9, 3) := by decide +kernel
theorem dX2_comesFirst_36 : decode cX2_comesFirst 36 = .ok (.iload_n 1, 1) := by decide +kernel
theorem dX2_comesFirst_37 : decode cX2_comesFirst 37 = .ok (.iaload, 1) := by decide +kernel
theorem dX2_comesFirst_38 : decode cX2_comesFirst 38 = .ok (.if_icmp .ge 7, 3) := by decide +kernel
theorem dX2_comesFirst_41 : decode cX2_comesFirst 41 = .ok (.iconst 1, 1) := by decide +kernel
theorem dX2_comesFirst_42 : decode cX2_comesFirst 42 = .ok (.goto 4, 3) := by decide +kernel
theorem dX2_comesFirst_45 : decode cX2_comesFirst 45 = .ok (.iconst 0, 1) := by decide +kernel
theorem dX2_comesFirst_46 : decode cX2_comesFirst 46 = .ok (.ireturn, 1) := by decide +kernel
theorem dX2_comesFirst_47 : decode cX2_comesFirst 47 = .ok (.iinc 1 1, 3) := by decide +kernel
theorem dX2_comesFirst_50 : decode cX2_comesFirst 50 = .ok (.goto (-48), 3) := by decide +kernel
theorem dX2_comesFirst_53 : decode cX2_comesFirst 53 = .ok (.iconst 0, 1) := by decide +kernel
theorem dX2_comesFirst_54 : decode cX2_comesFirst 54 = .ok (.ireturn, 1) := by decide +kernel
theorem dX3_restOf_0 : decode cX3_restOf 0 = .ok (.iload_n 2, 1) := by decide +kernel
theorem dX3_restOf_1 : decode cX3_restOf 1 = .ok (.ifCond .le 13, 3) := by decide +kernel
theorem dX3_restOf_4 : decode cX3_restOf 4 = .ok (.lload_n 0, 1) := by decide +kernel
theorem dX3_restOf_5 : decode cX3_restOf 5 = .ok (.iload_n 2, 1) := by decide +kernel
theorem dX3_restOf_6 : decode cX3_restOf 6 = .ok (.i2l, 1) := by decide +kernel
theorem dX3_restOf_7 : decode cX3_restOf 7 = .ok (.invokestatic 9, 3) := by decide +kernel
theorem dX3_restOf_10 : decode cX3_restOf 10 = .ok (.l2i, 1) := by decide +kernel
theorem dX3_restOf_11 : decode cX3_restOf 11 = .ok (.goto 4, 3) := by decide +kernel
theorem dX3_restOf_14 : decode cX3_restOf 14 = .ok (.iconst 0, 1) := by decide +kernel
theorem dX3_restOf_15 : decode cX3_restOf 15 = .ok (.ireturn, 1) := by decide +kernel
theorem dX3_commonDivisor_0 : decode cX3_commonDivisor 0 = .ok (.lload_n 0, 1) := by decide +kernel
theorem dX3_commonDivisor_1 : decode cX3_commonDivisor 1 = .ok (.lstore 4, 2) := by decide +kernel
theorem dX3_commonDivisor_3 : decode cX3_commonDivisor 3 = .ok (.lload_n 2, 1) := by decide +kernel
theorem dX3_commonDivisor_4 : decode cX3_commonDivisor 4 = .ok (.lstore 6, 2) := by decide +kernel
theorem dX3_commonDivisor_6 : decode cX3_commonDivisor 6 = .ok (.iconst 0, 1) := by decide +kernel
theorem dX3_commonDivisor_7 : decode cX3_commonDivisor 7 = .ok (.istore 8, 2) := by decide +kernel
theorem dX3_commonDivisor_9 : decode cX3_commonDivisor 9 = .ok (.iload 8, 2) := by decide +kernel
theorem dX3_commonDivisor_11 : decode cX3_commonDivisor 11 = .ok (.sipush 128, 3) := by decide +kernel
theorem dX3_commonDivisor_14 : decode cX3_commonDivisor 14 = .ok (.if_icmp .ge 31, 3) := by decide +kernel
theorem dX3_commonDivisor_17 : decode cX3_commonDivisor 17 = .ok (.lload 6, 2) := by decide +kernel
theorem dX3_commonDivisor_19 : decode cX3_commonDivisor 19 = .ok (.lconst 0, 1) := by decide +kernel
theorem dX3_commonDivisor_20 : decode cX3_commonDivisor 20 = .ok (.lcmp, 1) := by decide +kernel
theorem dX3_commonDivisor_21 : decode cX3_commonDivisor 21 = .ok (.ifCond .eq 24, 3) := by decide +kernel
theorem dX3_commonDivisor_24 : decode cX3_commonDivisor 24 = .ok (.lload 4, 2) := by decide +kernel
theorem dX3_commonDivisor_26 : decode cX3_commonDivisor 26 = .ok (.lload 6, 2) := by decide +kernel
theorem dX3_commonDivisor_28 : decode cX3_commonDivisor 28 = .ok (.lrem, 1) := by decide +kernel
theorem dX3_commonDivisor_29 : decode cX3_commonDivisor 29 = .ok (.lstore 9, 2) := by decide +kernel
theorem dX3_commonDivisor_31 : decode cX3_commonDivisor 31 = .ok (.lload 6, 2) := by decide +kernel
theorem dX3_commonDivisor_33 : decode cX3_commonDivisor 33 = .ok (.lstore 4, 2) := by decide +kernel
theorem dX3_commonDivisor_35 : decode cX3_commonDivisor 35 = .ok (.lload 9, 2) := by decide +kernel
theorem dX3_commonDivisor_37 : decode cX3_commonDivisor 37 = .ok (.lstore 6, 2) := by decide +kernel
theorem dX3_commonDivisor_39 : decode cX3_commonDivisor 39 = .ok (.iinc 8 1, 3) := by decide +kernel
theorem dX3_commonDivisor_42 : decode cX3_commonDivisor 42 = .ok (.goto (-33), 3) := by decide +kernel
theorem dX3_commonDivisor_45 : decode cX3_commonDivisor 45 = .ok (.lload 4, 2) := by decide +kernel
theorem dX3_commonDivisor_47 : decode cX3_commonDivisor 47 = .ok (.lreturn, 1) := by decide +kernel
theorem dX3_inverse_0 : decode cX3_inverse 0 = .ok (.iload_n 1, 1) := by decide +kernel
theorem dX3_inverse_1 : decode cX3_inverse 1 = .ok (.istore_n 2, 1) := by decide +kernel
theorem dX3_inverse_2 : decode cX3_inverse 2 = .ok (.iload_n 0, 1) := by decide +kernel
theorem dX3_inverse_3 : decode cX3_inverse 3 = .ok (.i2l, 1) := by decide +kernel
theorem dX3_inverse_4 : decode cX3_inverse 4 = .ok (.iload_n 1, 1) := by decide +kernel
theorem dX3_inverse_5 : decode cX3_inverse 5 = .ok (.invokestatic 15, 3) := by decide +kernel
theorem dX3_inverse_8 : decode cX3_inverse 8 = .ok (.istore_n 3, 1) := by decide +kernel
theorem dX3_inverse_9 : decode cX3_inverse 9 = .ok (.iconst 0, 1) := by decide +kernel
theorem dX3_inverse_10 : decode cX3_inverse 10 = .ok (.istore 4, 2) := by decide +kernel
theorem dX3_inverse_12 : decode cX3_inverse 12 = .ok (.iconst 1, 1) := by decide +kernel
theorem dX3_inverse_13 : decode cX3_inverse 13 = .ok (.istore 5, 2) := by decide +kernel
theorem dX3_inverse_15 : decode cX3_inverse 15 = .ok (.iconst 0, 1) := by decide +kernel
theorem dX3_inverse_16 : decode cX3_inverse 16 = .ok (.istore 6, 2) := by decide +kernel
theorem dX3_inverse_18 : decode cX3_inverse 18 = .ok (.iload 6, 2) := by decide +kernel
theorem dX3_inverse_20 : decode cX3_inverse 20 = .ok (.bipush 64, 2) := by decide +kernel
theorem dX3_inverse_22 : decode cX3_inverse 22 = .ok (.if_icmp .ge 49, 3) := by decide +kernel
theorem dX3_inverse_25 : decode cX3_inverse 25 = .ok (.iload_n 3, 1) := by decide +kernel
theorem dX3_inverse_26 : decode cX3_inverse 26 = .ok (.ifCond .eq 45, 3) := by decide +kernel
theorem dX3_inverse_29 : decode cX3_inverse 29 = .ok (.iload_n 2, 1) := by decide +kernel
theorem dX3_inverse_30 : decode cX3_inverse 30 = .ok (.iload_n 3, 1) := by decide +kernel
theorem dX3_inverse_31 : decode cX3_inverse 31 = .ok (.idiv, 1) := by decide +kernel
theorem dX3_inverse_32 : decode cX3_inverse 32 = .ok (.istore 7, 2) := by decide +kernel
theorem dX3_inverse_34 : decode cX3_inverse 34 = .ok (.iload_n 2, 1) := by decide +kernel
theorem dX3_inverse_35 : decode cX3_inverse 35 = .ok (.iload 7, 2) := by decide +kernel
theorem dX3_inverse_37 : decode cX3_inverse 37 = .ok (.iload_n 3, 1) := by decide +kernel
theorem dX3_inverse_38 : decode cX3_inverse 38 = .ok (.imul, 1) := by decide +kernel
theorem dX3_inverse_39 : decode cX3_inverse 39 = .ok (.isub, 1) := by decide +kernel
theorem dX3_inverse_40 : decode cX3_inverse 40 = .ok (.istore 8, 2) := by decide +kernel
theorem dX3_inverse_42 : decode cX3_inverse 42 = .ok (.iload 4, 2) := by decide +kernel
theorem dX3_inverse_44 : decode cX3_inverse 44 = .ok (.iload 7, 2) := by decide +kernel
theorem dX3_inverse_46 : decode cX3_inverse 46 = .ok (.iload 5, 2) := by decide +kernel
theorem dX3_inverse_48 : decode cX3_inverse 48 = .ok (.imul, 1) := by decide +kernel
theorem dX3_inverse_49 : decode cX3_inverse 49 = .ok (.isub, 1) := by decide +kernel
theorem dX3_inverse_50 : decode cX3_inverse 50 = .ok (.istore 9, 2) := by decide +kernel
theorem dX3_inverse_52 : decode cX3_inverse 52 = .ok (.iload_n 3, 1) := by decide +kernel
theorem dX3_inverse_53 : decode cX3_inverse 53 = .ok (.istore_n 2, 1) := by decide +kernel
theorem dX3_inverse_54 : decode cX3_inverse 54 = .ok (.iload 8, 2) := by decide +kernel
theorem dX3_inverse_56 : decode cX3_inverse 56 = .ok (.istore_n 3, 1) := by decide +kernel
theorem dX3_inverse_57 : decode cX3_inverse 57 = .ok (.iload 5, 2) := by decide +kernel
theorem dX3_inverse_59 : decode cX3_inverse 59 = .ok (.istore 4, 2) := by decide +kernel
theorem dX3_inverse_61 : decode cX3_inverse 61 = .ok (.iload 9, 2) := by decide +kernel
theorem dX3_inverse_63 : decode cX3_inverse 63 = .ok (.istore 5, 2) := by decide +kernel
theorem dX3_inverse_65 : decode cX3_inverse 65 = .ok (.iinc 6 1, 3) := by decide +kernel
theorem dX3_inverse_68 : decode cX3_inverse 68 = .ok (.goto (-50), 3) := by decide +kernel
theorem dX3_inverse_71 : decode cX3_inverse 71 = .ok (.iload_n 2, 1) := by decide +kernel
theorem dX3_inverse_72 : decode cX3_inverse 72 = .ok (.iconst 1, 1) := by decide +kernel
theorem dX3_inverse_73 : decode cX3_inverse 73 = .ok (.if_icmp .ne 13, 3) := by decide +kernel
theorem dX3_inverse_76 : decode cX3_inverse 76 = .ok (.iload 4, 2) := by decide +kernel
theorem dX3_inverse_78 : decode cX3_inverse 78 = .ok (.i2l, 1) := by decide +kernel
theorem dX3_inverse_79 : decode cX3_inverse 79 = .ok (.iload_n 1, 1) := by decide +kernel
theorem dX3_inverse_80 : decode cX3_inverse 80 = .ok (.invokestatic 15, 3) := by decide +kernel
theorem dX3_inverse_83 : decode cX3_inverse 83 = .ok (.goto 4, 3) := by decide +kernel
theorem dX3_inverse_86 : decode cX3_inverse 86 = .ok (.iconst 0, 1) := by decide +kernel
theorem dX3_inverse_87 : decode cX3_inverse 87 = .ok (.ireturn, 1) := by decide +kernel
theorem dX3_isTellingPrime_0 : decode cX3_isTellingPrime 0 = .ok (.iload_n 0, 1) := by decide +kernel
theorem dX3_isTellingPrime_1 : decode cX3_isTellingPrime 1 = .ok (.iconst 2, 1) := by decide +kernel
theorem dX3_isTellingPrime_2 : decode cX3_isTellingPrime 2 = .ok (.if_icmp .lt 10, 3) := by decide +kernel
theorem dX3_isTellingPrime_5 : decode cX3_isTellingPrime 5 = .ok (.iload_n 0, 1) := by decide +kernel
theorem dX3_isTellingPrime_6 : decode cX3_isTellingPrime 6 = .ok (.sipush 499, 3) := by decide +kernel
theorem dX3_isTellingPrime_9 : decode cX3_isTellingPrime 9 = .ok (.if_icmp .le 5, 3) := by decide +kernel
theorem dX3_isTellingPrime_12 : decode cX3_isTellingPrime 12 = .ok (.iconst 0, 1) := by decide +kernel
theorem dX3_isTellingPrime_13 : decode cX3_isTellingPrime 13 = .ok (.ireturn, 1) := by decide +kernel
theorem dX3_isTellingPrime_14 : decode cX3_isTellingPrime 14 = .ok (.iconst 2, 1) := by decide +kernel
theorem dX3_isTellingPrime_15 : decode cX3_isTellingPrime 15 = .ok (.istore_n 1, 1) := by decide +kernel
theorem dX3_isTellingPrime_16 : decode cX3_isTellingPrime 16 = .ok (.iload_n 1, 1) := by decide +kernel
theorem dX3_isTellingPrime_17 : decode cX3_isTellingPrime 17 = .ok (.iload_n 1, 1) := by decide +kernel
theorem dX3_isTellingPrime_18 : decode cX3_isTellingPrime 18 = .ok (.imul, 1) := by decide +kernel
theorem dX3_isTellingPrime_19 : decode cX3_isTellingPrime 19 = .ok (.iload_n 0, 1) := by decide +kernel
theorem dX3_isTellingPrime_20 : decode cX3_isTellingPrime 20 = .ok (.if_icmp .gt 17, 3) := by decide +kernel
theorem dX3_isTellingPrime_23 : decode cX3_isTellingPrime 23 = .ok (.iload_n 0, 1) := by decide +kernel
theorem dX3_isTellingPrime_24 : decode cX3_isTellingPrime 24 = .ok (.iload_n 1, 1) := by decide +kernel
theorem dX3_isTellingPrime_25 : decode cX3_isTellingPrime 25 = .ok (.irem, 1) := by decide +kernel
theorem dX3_isTellingPrime_26 : decode cX3_isTellingPrime 26 = .ok (.ifCond .ne 5, 3) := by decide +kernel
theorem dX3_isTellingPrime_29 : decode cX3_isTellingPrime 29 = .ok (.iconst 0, 1) := by decide +kernel
theorem dX3_isTellingPrime_30 : decode cX3_isTellingPrime 30 = .ok (.ireturn, 1) := by decide +kernel
theorem dX3_isTellingPrime_31 : decode cX3_isTellingPrime 31 = .ok (.iinc 1 1, 3) := by decide +kernel
theorem dX3_isTellingPrime_34 : decode cX3_isTellingPrime 34 = .ok (.goto (-18), 3) := by decide +kernel
theorem dX3_isTellingPrime_37 : decode cX3_isTellingPrime 37 = .ok (.iconst 1, 1) := by decide +kernel
theorem dX3_isTellingPrime_38 : decode cX3_isTellingPrime 38 = .ok (.ireturn, 1) := by decide +kernel
theorem dX4_init_0 : decode cX4_init 0 = .ok (.aload_n 0, 1) := by decide +kernel
theorem dX4_init_1 : decode cX4_init 1 = .ok (.invokespecial 1, 3) := by decide +kernel
theorem dX4_init_4 : decode cX4_init 4 = .ok (.aload_n 0, 1) := by decide +kernel
theorem dX4_init_5 : decode cX4_init 5 = .ok (.iconst 1, 1) := by decide +kernel
theorem dX4_init_6 : decode cX4_init 6 = .ok (.putfield 7, 3) := by decide +kernel
theorem dX4_init_9 : decode cX4_init 9 = .ok (.return_, 1) := by decide +kernel
theorem dX4_leave_0 : decode cX4_leave 0 = .ok (.aload_n 0, 1) := by decide +kernel
theorem dX4_leave_1 : decode cX4_leave 1 = .ok (.iconst 0, 1) := by decide +kernel
theorem dX4_leave_2 : decode cX4_leave 2 = .ok (.putfield 13, 3) := by decide +kernel
theorem dX4_leave_5 : decode cX4_leave 5 = .ok (.aload_n 0, 1) := by decide +kernel
theorem dX4_leave_6 : decode cX4_leave 6 = .ok (.iconst 1, 1) := by decide +kernel
theorem dX4_leave_7 : decode cX4_leave 7 = .ok (.putfield 7, 3) := by decide +kernel
theorem dX4_leave_10 : decode cX4_leave 10 = .ok (.aload_n 0, 1) := by decide +kernel
theorem dX4_leave_11 : decode cX4_leave 11 = .ok (.iconst 0, 1) := by decide +kernel
theorem dX4_leave_12 : decode cX4_leave 12 = .ok (.putfield 16, 3) := by decide +kernel
theorem dX4_leave_15 : decode cX4_leave 15 = .ok (.return_, 1) := by decide +kernel
theorem dX4_take_0 : decode cX4_take 0 = .ok (.iload_n 2, 1) := by decide +kernel
theorem dX4_take_1 : decode cX4_take 1 = .ok (.istore_n 3, 1) := by decide +kernel
theorem dX4_take_2 : decode cX4_take 2 = .ok (.aload_n 0, 1) := by decide +kernel
theorem dX4_take_3 : decode cX4_take 3 = .ok (.invokevirtual 19, 3) := by decide +kernel
theorem dX4_take_6 : decode cX4_take 6 = .ok (.aload_n 0, 1) := by decide +kernel
theorem dX4_take_7 : decode cX4_take 7 = .ok (.iload_n 1, 1) := by decide +kernel
theorem dX4_take_8 : decode cX4_take 8 = .ok (.putfield 13, 3) := by decide +kernel
theorem dX4_take_11 : decode cX4_take 11 = .ok (.iconst 0, 1) := by decide +kernel
theorem dX4_take_12 : decode cX4_take 12 = .ok (.istore 4, 2) := by decide +kernel
theorem dX4_take_14 : decode cX4_take 14 = .ok (.iload 4, 2) := by decide +kernel
theorem dX4_take_16 : decode cX4_take 16 = .ok (.bipush 32, 2) := by decide +kernel
theorem dX4_take_18 : decode cX4_take 18 = .ok (.if_icmp .ge 44, 3) := by decide +kernel
theorem dX4_take_21 : decode cX4_take 21 = .ok (.iload_n 1, 1) := by decide +kernel
theorem dX4_take_22 : decode cX4_take 22 = .ok (.iconst 1, 1) := by decide +kernel
theorem dX4_take_23 : decode cX4_take 23 = .ok (.if_icmp .le 39, 3) := by decide +kernel
theorem dX4_take_26 : decode cX4_take 26 = .ok (.iload_n 3, 1) := by decide +kernel
theorem dX4_take_27 : decode cX4_take 27 = .ok (.iload_n 1, 1) := by decide +kernel
theorem dX4_take_28 : decode cX4_take 28 = .ok (.irem, 1) := by decide +kernel
theorem dX4_take_29 : decode cX4_take 29 = .ok (.ifCond .ne 33, 3) := by decide +kernel
theorem dX4_take_32 : decode cX4_take 32 = .ok (.iload_n 3, 1) := by decide +kernel
theorem dX4_take_33 : decode cX4_take 33 = .ok (.iload_n 1, 1) := by decide +kernel
theorem dX4_take_34 : decode cX4_take 34 = .ok (.idiv, 1) := by decide +kernel
theorem dX4_take_35 : decode cX4_take 35 = .ok (.istore_n 3, 1) := by decide +kernel
theorem dX4_take_36 : decode cX4_take 36 = .ok (.aload_n 0, 1) := by decide +kernel
theorem dX4_take_37 : decode cX4_take 37 = .ok (.dup, 1) := by decide +kernel
theorem dX4_take_38 : decode cX4_take 38 = .ok (.getfield 7, 3) := by decide +kernel
theorem dX4_take_41 : decode cX4_take 41 = .ok (.iload_n 1, 1) := by decide +kernel
theorem dX4_take_42 : decode cX4_take 42 = .ok (.imul, 1) := by decide +kernel
theorem dX4_take_43 : decode cX4_take 43 = .ok (.putfield 7, 3) := by decide +kernel
theorem dX4_take_46 : decode cX4_take 46 = .ok (.aload_n 0, 1) := by decide +kernel
theorem dX4_take_47 : decode cX4_take 47 = .ok (.dup, 1) := by decide +kernel
theorem dX4_take_48 : decode cX4_take 48 = .ok (.getfield 16, 3) := by decide +kernel
theorem dX4_take_51 : decode cX4_take 51 = .ok (.iconst 1, 1) := by decide +kernel
theorem dX4_take_52 : decode cX4_take 52 = .ok (.iadd, 1) := by decide +kernel
theorem dX4_take_53 : decode cX4_take 53 = .ok (.putfield 16, 3) := by decide +kernel
theorem dX4_take_56 : decode cX4_take 56 = .ok (.iinc 4 1, 3) := by decide +kernel
theorem dX4_take_59 : decode cX4_take 59 = .ok (.goto (-45), 3) := by decide +kernel
theorem dX4_take_62 : decode cX4_take 62 = .ok (.iload_n 3, 1) := by decide +kernel
theorem dX4_take_63 : decode cX4_take 63 = .ok (.ireturn, 1) := by decide +kernel
theorem dX4_joined_0 : decode cX4_joined 0 = .ok (.aload_n 0, 1) := by decide +kernel
theorem dX4_joined_1 : decode cX4_joined 1 = .ok (.getfield 7, 3) := by decide +kernel
theorem dX4_joined_4 : decode cX4_joined 4 = .ok (.iconst 1, 1) := by decide +kernel
theorem dX4_joined_5 : decode cX4_joined 5 = .ok (.if_icmp .ge 5, 3) := by decide +kernel
theorem dX4_joined_8 : decode cX4_joined 8 = .ok (.iload_n 1, 1) := by decide +kernel
theorem dX4_joined_9 : decode cX4_joined 9 = .ok (.ireturn, 1) := by decide +kernel
theorem dX4_joined_10 : decode cX4_joined 10 = .ok (.iload_n 3, 1) := by decide +kernel
theorem dX4_joined_11 : decode cX4_joined 11 = .ok (.aload_n 0, 1) := by decide +kernel
theorem dX4_joined_12 : decode cX4_joined 12 = .ok (.getfield 7, 3) := by decide +kernel
theorem dX4_joined_15 : decode cX4_joined 15 = .ok (.idiv, 1) := by decide +kernel
theorem dX4_joined_16 : decode cX4_joined 16 = .ok (.istore 4, 2) := by decide +kernel
theorem dX4_joined_18 : decode cX4_joined 18 = .ok (.iload_n 2, 1) := by decide +kernel
theorem dX4_joined_19 : decode cX4_joined 19 = .ok (.i2l, 1) := by decide +kernel
theorem dX4_joined_20 : decode cX4_joined 20 = .ok (.iload_n 1, 1) := by decide +kernel
theorem dX4_joined_21 : decode cX4_joined 21 = .ok (.i2l, 1) := by decide +kernel
theorem dX4_joined_22 : decode cX4_joined 22 = .ok (.lsub, 1) := by decide +kernel
theorem dX4_joined_23 : decode cX4_joined 23 = .ok (.aload_n 0, 1) := by decide +kernel
theorem dX4_joined_24 : decode cX4_joined 24 = .ok (.getfield 7, 3) := by decide +kernel
theorem dX4_joined_27 : decode cX4_joined 27 = .ok (.invokestatic 22, 3) := by decide +kernel
theorem dX4_joined_30 : decode cX4_joined 30 = .ok (.istore 5, 2) := by decide +kernel
theorem dX4_joined_32 : decode cX4_joined 32 = .ok (.iload 5, 2) := by decide +kernel
theorem dX4_joined_34 : decode cX4_joined 34 = .ok (.i2l, 1) := by decide +kernel
theorem dX4_joined_35 : decode cX4_joined 35 = .ok (.iload 4, 2) := by decide +kernel
theorem dX4_joined_37 : decode cX4_joined 37 = .ok (.aload_n 0, 1) := by decide +kernel
theorem dX4_joined_38 : decode cX4_joined 38 = .ok (.getfield 7, 3) := by decide +kernel
theorem dX4_joined_41 : decode cX4_joined 41 = .ok (.invokestatic 28, 3) := by decide +kernel
theorem dX4_joined_44 : decode cX4_joined 44 = .ok (.i2l, 1) := by decide +kernel
theorem dX4_joined_45 : decode cX4_joined 45 = .ok (.lmul, 1) := by decide +kernel
theorem dX4_joined_46 : decode cX4_joined 46 = .ok (.aload_n 0, 1) := by decide +kernel
theorem dX4_joined_47 : decode cX4_joined 47 = .ok (.getfield 7, 3) := by decide +kernel
theorem dX4_joined_50 : decode cX4_joined 50 = .ok (.invokestatic 22, 3) := by decide +kernel
theorem dX4_joined_53 : decode cX4_joined 53 = .ok (.istore 6, 2) := by decide +kernel
theorem dX4_joined_55 : decode cX4_joined 55 = .ok (.iload_n 1, 1) := by decide +kernel
theorem dX4_joined_56 : decode cX4_joined 56 = .ok (.i2l, 1) := by decide +kernel
theorem dX4_joined_57 : decode cX4_joined 57 = .ok (.iload 4, 2) := by decide +kernel
theorem dX4_joined_59 : decode cX4_joined 59 = .ok (.i2l, 1) := by decide +kernel
theorem dX4_joined_60 : decode cX4_joined 60 = .ok (.iload 6, 2) := by decide +kernel
theorem dX4_joined_62 : decode cX4_joined 62 = .ok (.i2l, 1) := by decide +kernel
theorem dX4_joined_63 : decode cX4_joined 63 = .ok (.lmul, 1) := by decide +kernel
theorem dX4_joined_64 : decode cX4_joined 64 = .ok (.ladd, 1) := by decide +kernel
theorem dX4_joined_65 : decode cX4_joined 65 = .ok (.iload_n 3, 1) := by decide +kernel
theorem dX4_joined_66 : decode cX4_joined 66 = .ok (.invokestatic 22, 3) := by decide +kernel
theorem dX4_joined_69 : decode cX4_joined 69 = .ok (.ireturn, 1) := by decide +kernel
theorem dX4_enoughTurns_0 : decode cX4_enoughTurns 0 = .ok (.aload_n 0, 1) := by decide +kernel
theorem dX4_enoughTurns_1 : decode cX4_enoughTurns 1 = .ok (.getfield 13, 3) := by decide +kernel
theorem dX4_enoughTurns_4 : decode cX4_enoughTurns 4 = .ok (.iconst 1, 1) := by decide +kernel
theorem dX4_enoughTurns_5 : decode cX4_enoughTurns 5 = .ok (.isub, 1) := by decide +kernel
theorem dX4_enoughTurns_6 : decode cX4_enoughTurns 6 = .ok (.i2l, 1) := by decide +kernel
theorem dX4_enoughTurns_7 : decode cX4_enoughTurns 7 = .ok (.lstore_n 2, 1) := by decide +kernel
theorem dX4_enoughTurns_8 : decode cX4_enoughTurns 8 = .ok (.iload_n 1, 1) := by decide +kernel
theorem dX4_enoughTurns_9 : decode cX4_enoughTurns 9 = .ok (.iconst 1, 1) := by decide +kernel
theorem dX4_enoughTurns_10 : decode cX4_enoughTurns 10 = .ok (.if_icmp .le 13, 3) := by decide +kernel
theorem dX4_enoughTurns_13 : decode cX4_enoughTurns 13 = .ok (.lload_n 2, 1) := by decide +kernel
theorem dX4_enoughTurns_14 : decode cX4_enoughTurns 14 = .ok (.aload_n 0, 1) := by decide +kernel
theorem dX4_enoughTurns_15 : decode cX4_enoughTurns 15 = .ok (.getfield 13, 3) := by decide +kernel
theorem dX4_enoughTurns_18 : decode cX4_enoughTurns 18 = .ok (.iconst 1, 1) := by decide +kernel
theorem dX4_enoughTurns_19 : decode cX4_enoughTurns 19 = .ok (.iadd, 1) := by decide +kernel
theorem dX4_enoughTurns_20 : decode cX4_enoughTurns 20 = .ok (.i2l, 1) := by decide +kernel
theorem dX4_enoughTurns_21 : decode cX4_enoughTurns 21 = .ok (.lmul, 1) := by decide +kernel
theorem dX4_enoughTurns_22 : decode cX4_enoughTurns 22 = .ok (.lstore_n 2, 1) := by decide +kernel
theorem dX4_enoughTurns_23 : decode cX4_enoughTurns 23 = .ok (.iload_n 1, 1) := by decide +kernel
theorem dX4_enoughTurns_24 : decode cX4_enoughTurns 24 = .ok (.iconst 2, 1) := by decide +kernel
theorem dX4_enoughTurns_25 : decode cX4_enoughTurns 25 = .ok (.if_icmp .le 23, 3) := by decide +kernel
theorem dX4_enoughTurns_28 : decode cX4_enoughTurns 28 = .ok (.lload_n 2, 1) := by decide +kernel
theorem dX4_enoughTurns_29 : decode cX4_enoughTurns 29 = .ok (.aload_n 0, 1) := by decide +kernel
theorem dX4_enoughTurns_30 : decode cX4_enoughTurns 30 = .ok (.getfield 13, 3) := by decide +kernel
theorem dX4_enoughTurns_33 : decode cX4_enoughTurns 33 = .ok (.aload_n 0, 1) := by decide +kernel
theorem dX4_enoughTurns_34 : decode cX4_enoughTurns 34 = .ok (.getfield 13, 3) := by decide +kernel
theorem dX4_enoughTurns_37 : decode cX4_enoughTurns 37 = .ok (.imul, 1) := by decide +kernel
theorem dX4_enoughTurns_38 : decode cX4_enoughTurns 38 = .ok (.aload_n 0, 1) := by decide +kernel
theorem dX4_enoughTurns_39 : decode cX4_enoughTurns 39 = .ok (.getfield 13, 3) := by decide +kernel
theorem dX4_enoughTurns_42 : decode cX4_enoughTurns 42 = .ok (.iadd, 1) := by decide +kernel
theorem dX4_enoughTurns_43 : decode cX4_enoughTurns 43 = .ok (.iconst 1, 1) := by decide +kernel
theorem dX4_enoughTurns_44 : decode cX4_enoughTurns 44 = .ok (.iadd, 1) := by decide +kernel
theorem dX4_enoughTurns_45 : decode cX4_enoughTurns 45 = .ok (.i2l, 1) := by decide +kernel
theorem dX4_enoughTurns_46 : decode cX4_enoughTurns 46 = .ok (.lmul, 1) := by decide +kernel
theorem dX4_enoughTurns_47 : decode cX4_enoughTurns 47 = .ok (.lstore_n 2, 1) := by decide +kernel
theorem dX4_enoughTurns_48 : decode cX4_enoughTurns 48 = .ok (.iload_n 1, 1) := by decide +kernel
theorem dX4_enoughTurns_49 : decode cX4_enoughTurns 49 = .ok (.iconst 3, 1) := by decide +kernel
theorem dX4_enoughTurns_50 : decode cX4_enoughTurns 50 = .ok (.if_icmp .le 18, 3) := by decide +kernel
theorem dX4_enoughTurns_53 : decode cX4_enoughTurns 53 = .ok (.lload_n 2, 1) := by decide +kernel
theorem dX4_enoughTurns_54 : decode cX4_enoughTurns 54 = .ok (.aload_n 0, 1) := by decide +kernel
theorem dX4_enoughTurns_55 : decode cX4_enoughTurns 55 = .ok (.getfield 13, 3) := by decide +kernel
theorem dX4_enoughTurns_58 : decode cX4_enoughTurns 58 = .ok (.aload_n 0, 1) := by decide +kernel
theorem dX4_enoughTurns_59 : decode cX4_enoughTurns 59 = .ok (.getfield 13, 3) := by decide +kernel
theorem dX4_enoughTurns_62 : decode cX4_enoughTurns 62 = .ok (.imul, 1) := by decide +kernel
theorem dX4_enoughTurns_63 : decode cX4_enoughTurns 63 = .ok (.iconst 1, 1) := by decide +kernel
theorem dX4_enoughTurns_64 : decode cX4_enoughTurns 64 = .ok (.iadd, 1) := by decide +kernel
theorem dX4_enoughTurns_65 : decode cX4_enoughTurns 65 = .ok (.i2l, 1) := by decide +kernel
theorem dX4_enoughTurns_66 : decode cX4_enoughTurns 66 = .ok (.lmul, 1) := by decide +kernel
theorem dX4_enoughTurns_67 : decode cX4_enoughTurns 67 = .ok (.lstore_n 2, 1) := by decide +kernel
theorem dX4_enoughTurns_68 : decode cX4_enoughTurns 68 = .ok (.lconst 1, 1) := by decide +kernel
theorem dX4_enoughTurns_69 : decode cX4_enoughTurns 69 = .ok (.lstore 4, 2) := by decide +kernel
theorem dX4_enoughTurns_71 : decode cX4_enoughTurns 71 = .ok (.iconst 0, 1) := by decide +kernel
theorem dX4_enoughTurns_72 : decode cX4_enoughTurns 72 = .ok (.istore 6, 2) := by decide +kernel
theorem dX4_enoughTurns_74 : decode cX4_enoughTurns 74 = .ok (.iload 6, 2) := by decide +kernel
theorem dX4_enoughTurns_76 : decode cX4_enoughTurns 76 = .ok (.iconst 3, 1) := by decide +kernel
theorem dX4_enoughTurns_77 : decode cX4_enoughTurns 77 = .ok (.if_icmp .ge 27, 3) := by decide +kernel
theorem dX4_enoughTurns_80 : decode cX4_enoughTurns 80 = .ok (.lload 4, 2) := by decide +kernel
theorem dX4_enoughTurns_82 : decode cX4_enoughTurns 82 = .ok (.iload_n 1, 1) := by decide +kernel
theorem dX4_enoughTurns_83 : decode cX4_enoughTurns 83 = .ok (.i2l, 1) := by decide +kernel
theorem dX4_enoughTurns_84 : decode cX4_enoughTurns 84 = .ok (.lcmp, 1) := by decide +kernel
theorem dX4_enoughTurns_85 : decode cX4_enoughTurns 85 = .ok (.ifCond .gt 19, 3) := by decide +kernel
theorem dX4_enoughTurns_88 : decode cX4_enoughTurns 88 = .ok (.lload 4, 2) := by decide +kernel
theorem dX4_enoughTurns_90 : decode cX4_enoughTurns 90 = .ok (.aload_n 0, 1) := by decide +kernel
theorem dX4_enoughTurns_91 : decode cX4_enoughTurns 91 = .ok (.getfield 13, 3) := by decide +kernel
theorem dX4_enoughTurns_94 : decode cX4_enoughTurns 94 = .ok (.i2l, 1) := by decide +kernel
theorem dX4_enoughTurns_95 : decode cX4_enoughTurns 95 = .ok (.lmul, 1) := by decide +kernel
theorem dX4_enoughTurns_96 : decode cX4_enoughTurns 96 = .ok (.lstore 4, 2) := by decide +kernel
theorem dX4_enoughTurns_98 : decode cX4_enoughTurns 98 = .ok (.iinc 6 1, 3) := by decide +kernel
theorem dX4_enoughTurns_101 : decode cX4_enoughTurns 101 = .ok (.goto (-27), 3) := by decide +kernel
theorem dX4_enoughTurns_104 : decode cX4_enoughTurns 104 = .ok (.aload_n 0, 1) := by decide +kernel
theorem dX4_enoughTurns_105 : decode cX4_enoughTurns 105 = .ok (.getfield 13, 3) := by decide +kernel
theorem dX4_enoughTurns_108 : decode cX4_enoughTurns 108 = .ok (.ifCond .le 21, 3) := by decide +kernel
theorem dX4_enoughTurns_111 : decode cX4_enoughTurns 111 = .ok (.lload_n 2, 1) := by decide +kernel
theorem dX4_enoughTurns_112 : decode cX4_enoughTurns 112 = .ok (.lload 4, 2) := by decide +kernel
theorem dX4_enoughTurns_114 : decode cX4_enoughTurns 114 = .ok (.lmul, 1) := by decide +kernel
theorem dX4_enoughTurns_115 : decode cX4_enoughTurns 115 = .ok (.aload_n 0, 1) := by decide +kernel
theorem dX4_enoughTurns_116 : decode cX4_enoughTurns 116 = .ok (.getfield 7, 3) := by decide +kernel
theorem dX4_enoughTurns_119 : decode cX4_enoughTurns 119 = .ok (.aload_n 0, 1) := by decide +kernel
theorem dX4_enoughTurns_120 : decode cX4_enoughTurns 120 = .ok (.getfield 13, 3) := by decide +kernel
theorem dX4_enoughTurns_123 : decode cX4_enoughTurns 123 = .ok (.idiv, 1) := by decide +kernel
theorem dX4_enoughTurns_124 : decode cX4_enoughTurns 124 = .ok (.i2l, 1) := by decide +kernel
theorem dX4_enoughTurns_125 : decode cX4_enoughTurns 125 = .ok (.lmul, 1) := by decide +kernel
theorem dX4_enoughTurns_126 : decode cX4_enoughTurns 126 = .ok (.goto 4, 3) := by decide +kernel
theorem dX4_enoughTurns_129 : decode cX4_enoughTurns 129 = .ok (.lconst 1, 1) := by decide +kernel
theorem dX4_enoughTurns_130 : decode cX4_enoughTurns 130 = .ok (.lreturn, 1) := by decide +kernel
theorem dX4_listPrimes_0 : decode cX4_listPrimes 0 = .ok (.aload_n 2, 1) := by decide +kernel
theorem dX4_listPrimes_1 : decode cX4_listPrimes 1 = .ok (.invokevirtual 32, 3) := by decide +kernel
theorem dX4_listPrimes_4 : decode cX4_listPrimes 4 = .ok (.iload_n 1, 1) := by decide +kernel
theorem dX4_listPrimes_5 : decode cX4_listPrimes 5 = .ok (.iconst 3, 1) := by decide +kernel
theorem dX4_listPrimes_6 : decode cX4_listPrimes 6 = .ok (.if_icmp .le 18, 3) := by decide +kernel
theorem dX4_listPrimes_9 : decode cX4_listPrimes 9 = .ok (.aload_n 2, 1) := by decide +kernel
theorem dX4_listPrimes_10 : decode cX4_listPrimes 10 = .ok (.aload_n 0, 1) := by decide +kernel
theorem dX4_listPrimes_11 : decode cX4_listPrimes 11 = .ok (.getfield 13, 3) := by decide +kernel
theorem dX4_listPrimes_14 : decode cX4_listPrimes 14 = .ok (.aload_n 0, 1) := by decide +kernel
theorem dX4_listPrimes_15 : decode cX4_listPrimes 15 = .ok (.getfield 13, 3) := by decide +kernel
theorem dX4_listPrimes_18 : decode cX4_listPrimes 18 = .ok (.imul, 1) := by decide +kernel
theorem dX4_listPrimes_19 : decode cX4_listPrimes 19 = .ok (.iconst 1, 1) := by decide +kernel
theorem dX4_listPrimes_20 : decode cX4_listPrimes 20 = .ok (.iadd, 1) := by decide +kernel
theorem dX4_listPrimes_21 : decode cX4_listPrimes 21 = .ok (.invokevirtual 37, 3) := by decide +kernel
theorem dX4_listPrimes_24 : decode cX4_listPrimes 24 = .ok (.iload_n 1, 1) := by decide +kernel
theorem dX4_listPrimes_25 : decode cX4_listPrimes 25 = .ok (.iconst 2, 1) := by decide +kernel
theorem dX4_listPrimes_26 : decode cX4_listPrimes 26 = .ok (.if_icmp .le 23, 3) := by decide +kernel
theorem dX4_listPrimes_29 : decode cX4_listPrimes 29 = .ok (.aload_n 2, 1) := by decide +kernel
theorem dX4_listPrimes_30 : decode cX4_listPrimes 30 = .ok (.aload_n 0, 1) := by decide +kernel
theorem dX4_listPrimes_31 : decode cX4_listPrimes 31 = .ok (.getfield 13, 3) := by decide +kernel
theorem dX4_listPrimes_34 : decode cX4_listPrimes 34 = .ok (.aload_n 0, 1) := by decide +kernel
theorem dX4_listPrimes_35 : decode cX4_listPrimes 35 = .ok (.getfield 13, 3) := by decide +kernel
theorem dX4_listPrimes_38 : decode cX4_listPrimes 38 = .ok (.imul, 1) := by decide +kernel
theorem dX4_listPrimes_39 : decode cX4_listPrimes 39 = .ok (.aload_n 0, 1) := by decide +kernel
theorem dX4_listPrimes_40 : decode cX4_listPrimes 40 = .ok (.getfield 13, 3) := by decide +kernel
theorem dX4_listPrimes_43 : decode cX4_listPrimes 43 = .ok (.iadd, 1) := by decide +kernel
theorem dX4_listPrimes_44 : decode cX4_listPrimes 44 = .ok (.iconst 1, 1) := by decide +kernel
theorem dX4_listPrimes_45 : decode cX4_listPrimes 45 = .ok (.iadd, 1) := by decide +kernel
theorem dX4_listPrimes_46 : decode cX4_listPrimes 46 = .ok (.invokevirtual 37, 3) := by decide +kernel
theorem dX4_listPrimes_49 : decode cX4_listPrimes 49 = .ok (.iload_n 1, 1) := by decide +kernel
theorem dX4_listPrimes_50 : decode cX4_listPrimes 50 = .ok (.iconst 1, 1) := by decide +kernel
theorem dX4_listPrimes_51 : decode cX4_listPrimes 51 = .ok (.if_icmp .le 13, 3) := by decide +kernel
theorem dX4_listPrimes_54 : decode cX4_listPrimes 54 = .ok (.aload_n 2, 1) := by decide +kernel
theorem dX4_listPrimes_55 : decode cX4_listPrimes 55 = .ok (.aload_n 0, 1) := by decide +kernel
theorem dX4_listPrimes_56 : decode cX4_listPrimes 56 = .ok (.getfield 13, 3) := by decide +kernel
theorem dX4_listPrimes_59 : decode cX4_listPrimes 59 = .ok (.iconst 1, 1) := by decide +kernel
theorem dX4_listPrimes_60 : decode cX4_listPrimes 60 = .ok (.iadd, 1) := by decide +kernel
theorem dX4_listPrimes_61 : decode cX4_listPrimes 61 = .ok (.invokevirtual 37, 3) := by decide +kernel
theorem dX4_listPrimes_64 : decode cX4_listPrimes 64 = .ok (.aload_n 2, 1) := by decide +kernel
theorem dX4_listPrimes_65 : decode cX4_listPrimes 65 = .ok (.aload_n 0, 1) := by decide +kernel
theorem dX4_listPrimes_66 : decode cX4_listPrimes 66 = .ok (.getfield 13, 3) := by decide +kernel
theorem dX4_listPrimes_69 : decode cX4_listPrimes 69 = .ok (.iconst 1, 1) := by decide +kernel
theorem dX4_listPrimes_70 : decode cX4_listPrimes 70 = .ok (.isub, 1) := by decide +kernel
theorem dX4_listPrimes_71 : decode cX4_listPrimes 71 = .ok (.invokevirtual 37, 3) := by decide +kernel
theorem dX4_listPrimes_74 : decode cX4_listPrimes 74 = .ok (.aload_n 2, 1) := by decide +kernel
theorem dX4_listPrimes_75 : decode cX4_listPrimes 75 = .ok (.aload_n 0, 1) := by decide +kernel
theorem dX4_listPrimes_76 : decode cX4_listPrimes 76 = .ok (.getfield 13, 3) := by decide +kernel
theorem dX4_listPrimes_79 : decode cX4_listPrimes 79 = .ok (.invokevirtual 41, 3) := by decide +kernel
theorem dX4_listPrimes_82 : decode cX4_listPrimes 82 = .ok (.return_, 1) := by decide +kernel
theorem dX5_init_0 : decode cX5_init 0 = .ok (.aload_n 0, 1) := by decide +kernel
theorem dX5_init_1 : decode cX5_init 1 = .ok (.invokespecial 3, 3) := by decide +kernel
theorem dX5_init_4 : decode cX5_init 4 = .ok (.aload_n 0, 1) := by decide +kernel
theorem dX5_init_5 : decode cX5_init 5 = .ok (.sipush 4096, 3) := by decide +kernel
theorem dX5_init_8 : decode cX5_init 8 = .ok (.newarray .int, 2) := by decide +kernel
theorem dX5_init_10 : decode cX5_init 10 = .ok (.putfield 9, 3) := by decide +kernel
theorem dX5_init_13 : decode cX5_init 13 = .ok (.return_, 1) := by decide +kernel
theorem dX5_clear_0 : decode cX5_clear 0 = .ok (.aload_n 0, 1) := by decide +kernel
theorem dX5_clear_1 : decode cX5_clear 1 = .ok (.iload_n 1, 1) := by decide +kernel
theorem dX5_clear_2 : decode cX5_clear 2 = .ok (.bipush 64, 2) := by decide +kernel
theorem dX5_clear_4 : decode cX5_clear 4 = .ok (.invokestatic 15, 3) := by decide +kernel
theorem dX5_clear_7 : decode cX5_clear 7 = .ok (.putfield 21, 3) := by decide +kernel
theorem dX5_clear_10 : decode cX5_clear 10 = .ok (.aload_n 0, 1) := by decide +kernel
theorem dX5_clear_11 : decode cX5_clear 11 = .ok (.getfield 9, 3) := by decide +kernel
theorem dX5_clear_14 : decode cX5_clear 14 = .ok (.iconst 0, 1) := by decide +kernel
theorem dX5_clear_15 : decode cX5_clear 15 = .ok (.invokestatic 25, 3) := by decide +kernel
theorem dX5_clear_18 : decode cX5_clear 18 = .ok (.return_, 1) := by decide +kernel
theorem dX5_has_0 : decode cX5_has 0 = .ok (.iload_n 1, 1) := by decide +kernel
theorem dX5_has_1 : decode cX5_has 1 = .ok (.ifCond .lt 27, 3) := by decide +kernel
theorem dX5_has_4 : decode cX5_has 4 = .ok (.iload_n 1, 1) := by decide +kernel
theorem dX5_has_5 : decode cX5_has 5 = .ok (.aload_n 0, 1) := by decide +kernel
theorem dX5_has_6 : decode cX5_has 6 = .ok (.getfield 21, 3) := by decide +kernel
theorem dX5_has_9 : decode cX5_has 9 = .ok (.if_icmp .ge 19, 3) := by decide +kernel
theorem dX5_has_12 : decode cX5_has 12 = .ok (.iload_n 2, 1) := by decide +kernel
theorem dX5_has_13 : decode cX5_has 13 = .ok (.ifCond .lt 15, 3) := by decide +kernel
theorem dX5_has_16 : decode cX5_has 16 = .ok (.iload_n 2, 1) := by decide +kernel
theorem dX5_has_17 : decode cX5_has 17 = .ok (.aload_n 0, 1) := by decide +kernel
theorem dX5_has_18 : decode cX5_has 18 = .ok (.getfield 21, 3) := by decide +kernel
theorem dX5_has_21 : decode cX5_has 21 = .ok (.if_icmp .ge 7, 3) := by decide +kernel
theorem dX5_has_24 : decode cX5_has 24 = .ok (.iconst 1, 1) := by decide +kernel
theorem dX5_has_25 : decode cX5_has 25 = .ok (.goto 4, 3) := by decide +kernel
theorem dX5_has_28 : decode cX5_has 28 = .ok (.iconst 0, 1) := by decide +kernel
theorem dX5_has_29 : decode cX5_has 29 = .ok (.ireturn, 1) := by decide +kernel
theorem dX5_place_0 : decode cX5_place 0 = .ok (.iload_n 1, 1) := by decide +kernel
theorem dX5_place_1 : decode cX5_place 1 = .ok (.aload_n 0, 1) := by decide +kernel
theorem dX5_place_2 : decode cX5_place 2 = .ok (.getfield 21, 3) := by decide +kernel
theorem dX5_place_5 : decode cX5_place 5 = .ok (.imul, 1) := by decide +kernel
theorem dX5_place_6 : decode cX5_place 6 = .ok (.iload_n 2, 1) := by decide +kernel
theorem dX5_place_7 : decode cX5_place 7 = .ok (.iadd, 1) := by decide +kernel
theorem dX5_place_8 : decode cX5_place 8 = .ok (.ireturn, 1) := by decide +kernel
theorem dX5_moveBy_0 : decode cX5_moveBy 0 = .ok (.iconst 0, 1) := by decide +kernel
theorem dX5_moveBy_1 : decode cX5_moveBy 1 = .ok (.istore_n 3, 1) := by decide +kernel
theorem dX5_moveBy_2 : decode cX5_moveBy 2 = .ok (.iconst 0, 1) := by decide +kernel
theorem dX5_moveBy_3 : decode cX5_moveBy 3 = .ok (.istore 4, 2) := by decide +kernel
theorem dX5_moveBy_5 : decode cX5_moveBy 5 = .ok (.iload 4, 2) := by decide +kernel
theorem dX5_moveBy_7 : decode cX5_moveBy 7 = .ok (.aload_n 0, 1) := by decide +kernel
theorem dX5_moveBy_8 : decode cX5_moveBy 8 = .ok (.getfield 21, 3) := by decide +kernel
theorem dX5_moveBy_11 : decode cX5_moveBy 11 = .ok (.if_icmp .ge 129, 3) := by decide +kernel
theorem dX5_moveBy_14 : decode cX5_moveBy 14 = .ok (.aload_n 0, 1) := by decide +kernel
theorem dX5_moveBy_15 : decode cX5_moveBy 15 = .ok (.aload_n 1, 1) := by decide +kernel
theorem dX5_moveBy_16 : decode cX5_moveBy 16 = .ok (.iconst 0, 1) := by decide +kernel
theorem dX5_moveBy_17 : decode cX5_moveBy 17 = .ok (.iload 4, 2) := by decide +kernel
theorem dX5_moveBy_19 : decode cX5_moveBy 19 = .ok (.invokevirtual 31, 3) := by decide +kernel
theorem dX5_moveBy_22 : decode cX5_moveBy 22 = .ok (.istore 5, 2) := by decide +kernel
theorem dX5_moveBy_24 : decode cX5_moveBy 24 = .ok (.aload_n 0, 1) := by decide +kernel
theorem dX5_moveBy_25 : decode cX5_moveBy 25 = .ok (.aload_n 1, 1) := by decide +kernel
theorem dX5_moveBy_26 : decode cX5_moveBy 26 = .ok (.iconst 5, 1) := by decide +kernel
theorem dX5_moveBy_27 : decode cX5_moveBy 27 = .ok (.iload 4, 2) := by decide +kernel
theorem dX5_moveBy_29 : decode cX5_moveBy 29 = .ok (.invokevirtual 31, 3) := by decide +kernel
theorem dX5_moveBy_32 : decode cX5_moveBy 32 = .ok (.istore 6, 2) := by decide +kernel
theorem dX5_moveBy_34 : decode cX5_moveBy 34 = .ok (.iconst 0, 1) := by decide +kernel
theorem dX5_moveBy_35 : decode cX5_moveBy 35 = .ok (.istore 7, 2) := by decide +kernel
theorem dX5_moveBy_37 : decode cX5_moveBy 37 = .ok (.iload 7, 2) := by decide +kernel
theorem dX5_moveBy_39 : decode cX5_moveBy 39 = .ok (.aload_n 0, 1) := by decide +kernel
theorem dX5_moveBy_40 : decode cX5_moveBy 40 = .ok (.getfield 21, 3) := by decide +kernel
theorem dX5_moveBy_43 : decode cX5_moveBy 43 = .ok (.if_icmp .ge 91, 3) := by decide +kernel
theorem dX5_moveBy_46 : decode cX5_moveBy 46 = .ok (.aload_n 2, 1) := by decide +kernel
theorem dX5_moveBy_47 : decode cX5_moveBy 47 = .ok (.iload 5, 2) := by decide +kernel
theorem dX5_moveBy_49 : decode cX5_moveBy 49 = .ok (.aload_n 0, 1) := by decide +kernel
theorem dX5_moveBy_50 : decode cX5_moveBy 50 = .ok (.getfield 21, 3) := by decide +kernel
theorem dX5_moveBy_53 : decode cX5_moveBy 53 = .ok (.imul, 1) := by decide +kernel
theorem dX5_moveBy_54 : decode cX5_moveBy 54 = .ok (.iload 6, 2) := by decide +kernel
theorem dX5_moveBy_56 : decode cX5_moveBy 56 = .ok (.iadd, 1) := by decide +kernel
theorem dX5_moveBy_57 : decode cX5_moveBy 57 = .ok (.aload_n 0, 1) := by decide +kernel
theorem dX5_moveBy_58 : decode cX5_moveBy 58 = .ok (.getfield 9, 3) := by decide +kernel
theorem dX5_moveBy_61 : decode cX5_moveBy 61 = .ok (.iload_n 3, 1) := by decide +kernel
theorem dX5_moveBy_62 : decode cX5_moveBy 62 = .ok (.iaload, 1) := by decide +kernel
theorem dX5_moveBy_63 : decode cX5_moveBy 63 = .ok (.iastore, 1) := by decide +kernel
theorem dX5_moveBy_64 : decode cX5_moveBy 64 = .ok (.iinc 3 1, 3) := by decide +kernel
theorem dX5_moveBy_67 : decode cX5_moveBy 67 = .ok (.iload 5, 2) := by decide +kernel
theorem dX5_moveBy_69 : decode cX5_moveBy 69 = .ok (.aload_n 1, 1) := by decide +kernel
theorem dX5_moveBy_70 : decode cX5_moveBy 70 = .ok (.iconst 1, 1) := by decide +kernel
theorem dX5_moveBy_71 : decode cX5_moveBy 71 = .ok (.iaload, 1) := by decide +kernel
theorem dX5_moveBy_72 : decode cX5_moveBy 72 = .ok (.iadd, 1) := by decide +kernel
theorem dX5_moveBy_73 : decode cX5_moveBy 73 = .ok (.istore 5, 2) := by decide +kernel
theorem dX5_moveBy_75 : decode cX5_moveBy 75 = .ok (.iload 5, 2) := by decide +kernel
theorem dX5_moveBy_77 : decode cX5_moveBy 77 = .ok (.iload 5, 2) := by decide +kernel
theorem dX5_moveBy_79 : decode cX5_moveBy 79 = .ok (.aload_n 0, 1) := by decide +kernel
theorem dX5_moveBy_80 : decode cX5_moveBy 80 = .ok (.getfield 21, 3) := by decide +kernel
theorem dX5_moveBy_83 : decode cX5_moveBy 83 = .ok (.if_icmp .ge 7, 3) := by decide +kernel
theorem dX5_moveBy_86 : decode cX5_moveBy 86 = .ok (.iconst 0, 1) := by decide +kernel
theorem dX5_moveBy_87 : decode cX5_moveBy 87 = .ok (.goto 7, 3) := by decide +kernel
theorem dX5_moveBy_90 : decode cX5_moveBy 90 = .ok (.aload_n 0, 1) := by decide +kernel
theorem dX5_moveBy_91 : decode cX5_moveBy 91 = .ok (.getfield 21, 3) := by decide +kernel
theorem dX5_moveBy_94 : decode cX5_moveBy 94 = .ok (.isub, 1) := by decide +kernel
theorem dX5_moveBy_95 : decode cX5_moveBy 95 = .ok (.istore 5, 2) := by decide +kernel
theorem dX5_moveBy_97 : decode cX5_moveBy 97 = .ok (.iload 6, 2) := by decide +kernel
theorem dX5_moveBy_99 : decode cX5_moveBy 99 = .ok (.aload_n 1, 1) := by decide +kernel
theorem dX5_moveBy_100 : decode cX5_moveBy 100 = .ok (.bipush 6, 2) := by decide +kernel
theorem dX5_moveBy_102 : decode cX5_moveBy 102 = .ok (.iaload, 1) := by decide +kernel
theorem dX5_moveBy_103 : decode cX5_moveBy 103 = .ok (.iadd, 1) := by decide +kernel
theorem dX5_moveBy_104 : decode cX5_moveBy 104 = .ok (.istore 6, 2) := by decide +kernel
theorem dX5_moveBy_106 : decode cX5_moveBy 106 = .ok (.iload 6, 2) := by decide +kernel
theorem dX5_moveBy_108 : decode cX5_moveBy 108 = .ok (.iload 6, 2) := by decide +kernel
theorem dX5_moveBy_110 : decode cX5_moveBy 110 = .ok (.aload_n 0, 1) := by decide +kernel
theorem dX5_moveBy_111 : decode cX5_moveBy 111 = .ok (.getfield 21, 3) := by decide +kernel
theorem dX5_moveBy_114 : decode cX5_moveBy 114 = .ok (.if_icmp .ge 7, 3) := by decide +kernel
theorem dX5_moveBy_117 : decode cX5_moveBy 117 = .ok (.iconst 0, 1) := by decide +kernel
theorem dX5_moveBy_118 : decode cX5_moveBy 118 = .ok (.goto 7, 3) := by decide +kernel
theorem dX5_moveBy_121 : decode cX5_moveBy 121 = .ok (.aload_n 0, 1) := by decide +kernel
theorem dX5_moveBy_122 : decode cX5_moveBy 122 = .ok (.getfield 21, 3) := by decide +kernel
theorem dX5_moveBy_125 : decode cX5_moveBy 125 = .ok (.isub, 1) := by decide +kernel
theorem dX5_moveBy_126 : decode cX5_moveBy 126 = .ok (.istore 6, 2) := by decide +kernel
theorem dX5_moveBy_128 : decode cX5_moveBy 128 = .ok (.iinc 7 1, 3) := by decide +kernel
theorem dX5_moveBy_131 : decode cX5_moveBy 131 = .ok (.goto (-94), 3) := by decide +kernel
theorem dX5_moveBy_134 : decode cX5_moveBy 134 = .ok (.iinc 4 1, 3) := by decide +kernel
theorem dX5_moveBy_137 : decode cX5_moveBy 137 = .ok (.goto (-132), 3) := by decide +kernel
theorem dX5_moveBy_140 : decode cX5_moveBy 140 = .ok (.aload_n 2, 1) := by decide +kernel
theorem dX5_moveBy_141 : decode cX5_moveBy 141 = .ok (.iconst 0, 1) := by decide +kernel
theorem dX5_moveBy_142 : decode cX5_moveBy 142 = .ok (.aload_n 0, 1) := by decide +kernel
theorem dX5_moveBy_143 : decode cX5_moveBy 143 = .ok (.getfield 9, 3) := by decide +kernel
theorem dX5_moveBy_146 : decode cX5_moveBy 146 = .ok (.iconst 0, 1) := by decide +kernel
theorem dX5_moveBy_147 : decode cX5_moveBy 147 = .ok (.aload_n 0, 1) := by decide +kernel
theorem dX5_moveBy_148 : decode cX5_moveBy 148 = .ok (.getfield 21, 3) := by decide +kernel
theorem dX5_moveBy_151 : decode cX5_moveBy 151 = .ok (.aload_n 0, 1) := by decide +kernel
theorem dX5_moveBy_152 : decode cX5_moveBy 152 = .ok (.getfield 21, 3) := by decide +kernel
theorem dX5_moveBy_155 : decode cX5_moveBy 155 = .ok (.imul, 1) := by decide +kernel
theorem dX5_moveBy_156 : decode cX5_moveBy 156 = .ok (.invokestatic 37, 3) := by decide +kernel
theorem dX5_moveBy_159 : decode cX5_moveBy 159 = .ok (.return_, 1) := by decide +kernel
theorem dX5_looksAlike_0 : decode cX5_looksAlike 0 = .ok (.iconst 0, 1) := by decide +kernel
theorem dX5_looksAlike_1 : decode cX5_looksAlike 1 = .ok (.istore_n 2, 1) := by decide +kernel
theorem dX5_looksAlike_2 : decode cX5_looksAlike 2 = .ok (.iconst 0, 1) := by decide +kernel
theorem dX5_looksAlike_3 : decode cX5_looksAlike 3 = .ok (.istore_n 3, 1) := by decide +kernel
theorem dX5_looksAlike_4 : decode cX5_looksAlike 4 = .ok (.iload_n 3, 1) := by decide +kernel
theorem dX5_looksAlike_5 : decode cX5_looksAlike 5 = .ok (.aload_n 0, 1) := by decide +kernel
theorem dX5_looksAlike_6 : decode cX5_looksAlike 6 = .ok (.getfield 21, 3) := by decide +kernel
theorem dX5_looksAlike_9 : decode cX5_looksAlike 9 = .ok (.if_icmp .ge 135, 3) := by decide +kernel
theorem dX5_looksAlike_12 : decode cX5_looksAlike 12 = .ok (.aload_n 0, 1) := by decide +kernel
theorem dX5_looksAlike_13 : decode cX5_looksAlike 13 = .ok (.aload_n 1, 1) := by decide +kernel
theorem dX5_looksAlike_14 : decode cX5_looksAlike 14 = .ok (.iconst 0, 1) := by decide +kernel
theorem dX5_looksAlike_15 : decode cX5_looksAlike 15 = .ok (.iload_n 3, 1) := by decide +kernel
theorem dX5_looksAlike_16 : decode cX5_looksAlike 16 = .ok (.invokevirtual 31, 3) := by decide +kernel
theorem dX5_looksAlike_19 : decode cX5_looksAlike 19 = .ok (.istore 4, 2) := by decide +kernel
theorem dX5_looksAlike_21 : decode cX5_looksAlike 21 = .ok (.aload_n 0, 1) := by decide +kernel
theorem dX5_looksAlike_22 : decode cX5_looksAlike 22 = .ok (.aload_n 1, 1) := by decide +kernel
theorem dX5_looksAlike_23 : decode cX5_looksAlike 23 = .ok (.iconst 5, 1) := by decide +kernel
theorem dX5_looksAlike_24 : decode cX5_looksAlike 24 = .ok (.iload_n 3, 1) := by decide +kernel
theorem dX5_looksAlike_25 : decode cX5_looksAlike 25 = .ok (.invokevirtual 31, 3) := by decide +kernel
theorem dX5_looksAlike_28 : decode cX5_looksAlike 28 = .ok (.istore 5, 2) := by decide +kernel
theorem dX5_looksAlike_30 : decode cX5_looksAlike 30 = .ok (.iconst 0, 1) := by decide +kernel
theorem dX5_looksAlike_31 : decode cX5_looksAlike 31 = .ok (.istore 6, 2) := by decide +kernel
theorem dX5_looksAlike_33 : decode cX5_looksAlike 33 = .ok (.iload 6, 2) := by decide +kernel
theorem dX5_looksAlike_35 : decode cX5_looksAlike 35 = .ok (.aload_n 0, 1) := by decide +kernel
theorem dX5_looksAlike_36 : decode cX5_looksAlike 36 = .ok (.getfield 21, 3) := by decide +kernel
theorem dX5_looksAlike_39 : decode cX5_looksAlike 39 = .ok (.if_icmp .ge 99, 3) := by decide +kernel
theorem dX5_looksAlike_42 : decode cX5_looksAlike 42 = .ok (.aload_n 0, 1) := by decide +kernel
theorem dX5_looksAlike_43 : decode cX5_looksAlike 43 = .ok (.getfield 9, 3) := by decide +kernel
theorem dX5_looksAlike_46 : decode cX5_looksAlike 46 = .ok (.iload 4, 2) := by decide +kernel
theorem dX5_looksAlike_48 : decode cX5_looksAlike 48 = .ok (.aload_n 0, 1) := by decide +kernel
theorem dX5_looksAlike_49 : decode cX5_looksAlike 49 = .ok (.getfield 21, 3) := by decide +kernel
theorem dX5_looksAlike_52 : decode cX5_looksAlike 52 = .ok (.imul, 1) := by decide +kernel
theorem dX5_looksAlike_53 : decode cX5_looksAlike 53 = .ok (.iload 5, 2) := by decide +kernel
theorem dX5_looksAlike_55 : decode cX5_looksAlike 55 = .ok (.iadd, 1) := by decide +kernel
theorem dX5_looksAlike_56 : decode cX5_looksAlike 56 = .ok (.iaload, 1) := by decide +kernel
theorem dX5_looksAlike_57 : decode cX5_looksAlike 57 = .ok (.aload_n 0, 1) := by decide +kernel
theorem dX5_looksAlike_58 : decode cX5_looksAlike 58 = .ok (.getfield 9, 3) := by decide +kernel
theorem dX5_looksAlike_61 : decode cX5_looksAlike 61 = .ok (.iload_n 2, 1) := by decide +kernel
theorem dX5_looksAlike_62 : decode cX5_looksAlike 62 = .ok (.iaload, 1) := by decide +kernel
theorem dX5_looksAlike_63 : decode cX5_looksAlike 63 = .ok (.if_icmp .eq 5, 3) := by decide +kernel
theorem dX5_looksAlike_66 : decode cX5_looksAlike 66 = .ok (.iconst 0, 1) := by decide +kernel
theorem dX5_looksAlike_67 : decode cX5_looksAlike 67 = .ok (.ireturn, 1) := by decide +kernel
theorem dX5_looksAlike_68 : decode cX5_looksAlike 68 = .ok (.iinc 2 1, 3) := by decide +kernel
theorem dX5_looksAlike_71 : decode cX5_looksAlike 71 = .ok (.iload 4, 2) := by decide +kernel
theorem dX5_looksAlike_73 : decode cX5_looksAlike 73 = .ok (.aload_n 1, 1) := by decide +kernel
theorem dX5_looksAlike_74 : decode cX5_looksAlike 74 = .ok (.iconst 1, 1) := by decide +kernel
theorem dX5_looksAlike_75 : decode cX5_looksAlike 75 = .ok (.iaload, 1) := by decide +kernel
theorem dX5_looksAlike_76 : decode cX5_looksAlike 76 = .ok (.iadd, 1) := by decide +kernel
theorem dX5_looksAlike_77 : decode cX5_looksAlike 77 = .ok (.istore 4, 2) := by decide +kernel
theorem dX5_looksAlike_79 : decode cX5_looksAlike 79 = .ok (.iload 4, 2) := by decide +kernel
theorem dX5_looksAlike_81 : decode cX5_looksAlike 81 = .ok (.iload 4, 2) := by decide +kernel
theorem dX5_looksAlike_83 : decode cX5_looksAlike 83 = .ok (.aload_n 0, 1) := by decide +kernel
theorem dX5_looksAlike_84 : decode cX5_looksAlike 84 = .ok (.getfield 21, 3) := by decide +kernel
theorem dX5_looksAlike_87 : decode cX5_looksAlike 87 = .ok (.if_icmp .ge 7, 3) := by decide +kernel
theorem dX5_looksAlike_90 : decode cX5_looksAlike 90 = .ok (.iconst 0, 1) := by decide +kernel
theorem dX5_looksAlike_91 : decode cX5_looksAlike 91 = .ok (.goto 7, 3) := by decide +kernel
theorem dX5_looksAlike_94 : decode cX5_looksAlike 94 = .ok (.aload_n 0, 1) := by decide +kernel
theorem dX5_looksAlike_95 : decode cX5_looksAlike 95 = .ok (.getfield 21, 3) := by decide +kernel
theorem dX5_looksAlike_98 : decode cX5_looksAlike 98 = .ok (.isub, 1) := by decide +kernel
theorem dX5_looksAlike_99 : decode cX5_looksAlike 99 = .ok (.istore 4, 2) := by decide +kernel
theorem dX5_looksAlike_101 : decode cX5_looksAlike 101 = .ok (.iload 5, 2) := by decide +kernel
theorem dX5_looksAlike_103 : decode cX5_looksAlike 103 = .ok (.aload_n 1, 1) := by decide +kernel
theorem dX5_looksAlike_104 : decode cX5_looksAlike 104 = .ok (.bipush 6, 2) := by decide +kernel
theorem dX5_looksAlike_106 : decode cX5_looksAlike 106 = .ok (.iaload, 1) := by decide +kernel
theorem dX5_looksAlike_107 : decode cX5_looksAlike 107 = .ok (.iadd, 1) := by decide +kernel
theorem dX5_looksAlike_108 : decode cX5_looksAlike 108 = .ok (.istore 5, 2) := by decide +kernel
theorem dX5_looksAlike_110 : decode cX5_looksAlike 110 = .ok (.iload 5, 2) := by decide +kernel
theorem dX5_looksAlike_112 : decode cX5_looksAlike 112 = .ok (.iload 5, 2) := by decide +kernel
theorem dX5_looksAlike_114 : decode cX5_looksAlike 114 = .ok (.aload_n 0, 1) := by decide +kernel
theorem dX5_looksAlike_115 : decode cX5_looksAlike 115 = .ok (.getfield 21, 3) := by decide +kernel
theorem dX5_looksAlike_118 : decode cX5_looksAlike 118 = .ok (.if_icmp .ge 7, 3) := by decide +kernel
theorem dX5_looksAlike_121 : decode cX5_looksAlike 121 = .ok (.iconst 0, 1) := by decide +kernel
theorem dX5_looksAlike_122 : decode cX5_looksAlike 122 = .ok (.goto 7, 3) := by decide +kernel
theorem dX5_looksAlike_125 : decode cX5_looksAlike 125 = .ok (.aload_n 0, 1) := by decide +kernel
theorem dX5_looksAlike_126 : decode cX5_looksAlike 126 = .ok (.getfield 21, 3) := by decide +kernel
theorem dX5_looksAlike_129 : decode cX5_looksAlike 129 = .ok (.isub, 1) := by decide +kernel
theorem dX5_looksAlike_130 : decode cX5_looksAlike 130 = .ok (.istore 5, 2) := by decide +kernel
theorem dX5_looksAlike_132 : decode cX5_looksAlike 132 = .ok (.iinc 6 1, 3) := by decide +kernel
theorem dX5_looksAlike_135 : decode cX5_looksAlike 135 = .ok (.goto (-102), 3) := by decide +kernel
theorem dX5_looksAlike_138 : decode cX5_looksAlike 138 = .ok (.iinc 3 1, 3) := by decide +kernel
theorem dX5_looksAlike_141 : decode cX5_looksAlike 141 = .ok (.goto (-137), 3) := by decide +kernel
theorem dX5_looksAlike_144 : decode cX5_looksAlike 144 = .ok (.iconst 1, 1) := by decide +kernel
theorem dX5_looksAlike_145 : decode cX5_looksAlike 145 = .ok (.ireturn, 1) := by decide +kernel
theorem dX5_startOf_0 : decode cX5_startOf 0 = .ok (.aload_n 1, 1) := by decide +kernel
theorem dX5_startOf_1 : decode cX5_startOf 1 = .ok (.iload_n 2, 1) := by decide +kernel
theorem dX5_startOf_2 : decode cX5_startOf 2 = .ok (.iaload, 1) := by decide +kernel
theorem dX5_startOf_3 : decode cX5_startOf 3 = .ok (.i2l, 1) := by decide +kernel
theorem dX5_startOf_4 : decode cX5_startOf 4 = .ok (.iload_n 3, 1) := by decide +kernel
theorem dX5_startOf_5 : decode cX5_startOf 5 = .ok (.i2l, 1) := by decide +kernel
theorem dX5_startOf_6 : decode cX5_startOf 6 = .ok (.lmul, 1) := by decide +kernel
theorem dX5_startOf_7 : decode cX5_startOf 7 = .ok (.aload_n 1, 1) := by decide +kernel
theorem dX5_startOf_8 : decode cX5_startOf 8 = .ok (.iload_n 2, 1) := by decide +kernel
theorem dX5_startOf_9 : decode cX5_startOf 9 = .ok (.iconst 4, 1) := by decide +kernel
theorem dX5_startOf_10 : decode cX5_startOf 10 = .ok (.iadd, 1) := by decide +kernel
theorem dX5_startOf_11 : decode cX5_startOf 11 = .ok (.iaload, 1) := by decide +kernel
theorem dX5_startOf_12 : decode cX5_startOf 12 = .ok (.i2l, 1) := by decide +kernel
theorem dX5_startOf_13 : decode cX5_startOf 13 = .ok (.ladd, 1) := by decide +kernel
theorem dX5_startOf_14 : decode cX5_startOf 14 = .ok (.aload_n 0, 1) := by decide +kernel
theorem dX5_startOf_15 : decode cX5_startOf 15 = .ok (.getfield 21, 3) := by decide +kernel
theorem dX5_startOf_18 : decode cX5_startOf 18 = .ok (.invokestatic 43, 3) := by decide +kernel
theorem dX5_startOf_21 : decode cX5_startOf 21 = .ok (.ireturn, 1) := by decide +kernel
theorem dX7_init_0 : decode cX7_init 0 = .ok (.aload_n 0, 1) := by decide +kernel
theorem dX7_init_1 : decode cX7_init 1 = .ok (.invokespecial 3, 3) := by decide +kernel
theorem dX7_init_4 : decode cX7_init 4 = .ok (.aload_n 0, 1) := by decide +kernel
theorem dX7_init_5 : decode cX7_init 5 = .ok (.bipush 16, 2) := by decide +kernel
theorem dX7_init_7 : decode cX7_init 7 = .ok (.newarray .int, 2) := by decide +kernel
theorem dX7_init_9 : decode cX7_init 9 = .ok (.putfield 9, 3) := by decide +kernel
theorem dX7_init_12 : decode cX7_init 12 = .ok (.return_, 1) := by decide +kernel
theorem dX7_clear_0 : decode cX7_clear 0 = .ok (.aload_n 0, 1) := by decide +kernel
theorem dX7_clear_1 : decode cX7_clear 1 = .ok (.iconst 0, 1) := by decide +kernel
theorem dX7_clear_2 : decode cX7_clear 2 = .ok (.putfield 15, 3) := by decide +kernel
theorem dX7_clear_5 : decode cX7_clear 5 = .ok (.return_, 1) := by decide +kernel
theorem dX7_add_0 : decode cX7_add 0 = .ok (.iconst 0, 1) := by decide +kernel
theorem dX7_add_1 : decode cX7_add 1 = .ok (.istore_n 2, 1) := by decide +kernel
theorem dX7_add_2 : decode cX7_add 2 = .ok (.iload_n 2, 1) := by decide +kernel
theorem dX7_add_3 : decode cX7_add 3 = .ok (.aload_n 0, 1) := by decide +kernel
theorem dX7_add_4 : decode cX7_add 4 = .ok (.getfield 15, 3) := by decide +kernel
theorem dX7_add_7 : decode cX7_add 7 = .ok (.if_icmp .ge 20, 3) := by decide +kernel
theorem dX7_add_10 : decode cX7_add 10 = .ok (.aload_n 0, 1) := by decide +kernel
theorem dX7_add_11 : decode cX7_add 11 = .ok (.getfield 9, 3) := by decide +kernel
theorem dX7_add_14 : decode cX7_add 14 = .ok (.iload_n 2, 1) := by decide +kernel
theorem dX7_add_15 : decode cX7_add 15 = .ok (.iaload, 1) := by decide +kernel
theorem dX7_add_16 : decode cX7_add 16 = .ok (.iload_n 1, 1) := by decide +kernel
theorem dX7_add_17 : decode cX7_add 17 = .ok (.if_icmp .ne 4, 3) := by decide +kernel
theorem dX7_add_20 : decode cX7_add 20 = .ok (.return_, 1) := by decide +kernel
theorem dX7_add_21 : decode cX7_add 21 = .ok (.iinc 2 1, 3) := by decide +kernel
theorem dX7_add_24 : decode cX7_add 24 = .ok (.goto (-22), 3) := by decide +kernel
theorem dX7_add_27 : decode cX7_add 27 = .ok (.aload_n 0, 1) := by decide +kernel
theorem dX7_add_28 : decode cX7_add 28 = .ok (.getfield 15, 3) := by decide +kernel
theorem dX7_add_31 : decode cX7_add 31 = .ok (.aload_n 0, 1) := by decide +kernel
theorem dX7_add_32 : decode cX7_add 32 = .ok (.getfield 9, 3) := by decide +kernel
theorem dX7_add_35 : decode cX7_add 35 = .ok (.arraylength, 1) := by decide +kernel
theorem dX7_add_36 : decode cX7_add 36 = .ok (.if_icmp .ge 23, 3) := by decide +kernel
theorem dX7_add_39 : decode cX7_add 39 = .ok (.aload_n 0, 1) := by decide +kernel
theorem dX7_add_40 : decode cX7_add 40 = .ok (.getfield 9, 3) := by decide +kernel
theorem dX7_add_43 : decode cX7_add 43 = .ok (.aload_n 0, 1) := by decide +kernel
theorem dX7_add_44 : decode cX7_add 44 = .ok (.getfield 15, 3) := by decide +kernel
theorem dX7_add_47 : decode cX7_add 47 = .ok (.iload_n 1, 1) := by decide +kernel
theorem dX7_add_48 : decode cX7_add 48 = .ok (.iastore, 1) := by decide +kernel
theorem dX7_add_49 : decode cX7_add 49 = .ok (.aload_n 0, 1) := by decide +kernel
theorem dX7_add_50 : decode cX7_add 50 = .ok (.dup, 1) := by decide +kernel
theorem dX7_add_51 : decode cX7_add 51 = .ok (.getfield 15, 3) := by decide +kernel
theorem dX7_add_54 : decode cX7_add 54 = .ok (.iconst 1, 1) := by decide +kernel
theorem dX7_add_55 : decode cX7_add 55 = .ok (.iadd, 1) := by decide +kernel
theorem dX7_add_56 : decode cX7_add 56 = .ok (.putfield 15, 3) := by decide +kernel
theorem dX7_add_59 : decode cX7_add 59 = .ok (.return_, 1) := by decide +kernel
theorem dX7_addThoseOf_0 : decode cX7_addThoseOf 0 = .ok (.iload_n 1, 1) := by decide +kernel
theorem dX7_addThoseOf_1 : decode cX7_addThoseOf 1 = .ok (.istore_n 2, 1) := by decide +kernel
theorem dX7_addThoseOf_2 : decode cX7_addThoseOf 2 = .ok (.iconst 2, 1) := by decide +kernel
theorem dX7_addThoseOf_3 : decode cX7_addThoseOf 3 = .ok (.istore_n 3, 1) := by decide +kernel
theorem dX7_addThoseOf_4 : decode cX7_addThoseOf 4 = .ok (.iload_n 3, 1) := by decide +kernel
theorem dX7_addThoseOf_5 : decode cX7_addThoseOf 5 = .ok (.sipush 500, 3) := by decide +kernel
theorem dX7_addThoseOf_8 : decode cX7_addThoseOf 8 = .ok (.if_icmp .gt 53, 3) := by decide +kernel
theorem dX7_addThoseOf_11 : decode cX7_addThoseOf 11 = .ok (.iload_n 3, 1) := by decide +kernel
theorem dX7_addThoseOf_12 : decode cX7_addThoseOf 12 = .ok (.iload_n 3, 1) := by decide +kernel
theorem dX7_addThoseOf_13 : decode cX7_addThoseOf 13 = .ok (.imul, 1) := by decide +kernel
theorem dX7_addThoseOf_14 : decode cX7_addThoseOf 14 = .ok (.iload_n 2, 1) := by decide +kernel
theorem dX7_addThoseOf_15 : decode cX7_addThoseOf 15 = .ok (.if_icmp .gt 46, 3) := by decide +kernel
theorem dX7_addThoseOf_18 : decode cX7_addThoseOf 18 = .ok (.iload_n 2, 1) := by decide +kernel
theorem dX7_addThoseOf_19 : decode cX7_addThoseOf 19 = .ok (.iload_n 3, 1) := by decide +kernel
theorem dX7_addThoseOf_20 : decode cX7_addThoseOf 20 = .ok (.irem, 1) := by decide +kernel
theorem dX7_addThoseOf_21 : decode cX7_addThoseOf 21 = .ok (.ifCond .ne 8, 3) := by decide +kernel
theorem dX7_addThoseOf_24 : decode cX7_addThoseOf 24 = .ok (.aload_n 0, 1) := by decide +kernel
theorem dX7_addThoseOf_25 : decode cX7_addThoseOf 25 = .ok (.iload_n 3, 1) := by decide +kernel
theorem dX7_addThoseOf_26 : decode cX7_addThoseOf 26 = .ok (.invokevirtual 19, 3) := by decide +kernel
theorem dX7_addThoseOf_29 : decode cX7_addThoseOf 29 = .ok (.iconst 0, 1) := by decide +kernel
theorem dX7_addThoseOf_30 : decode cX7_addThoseOf 30 = .ok (.istore 4, 2) := by decide +kernel
theorem dX7_addThoseOf_32 : decode cX7_addThoseOf 32 = .ok (.iload 4, 2) := by decide +kernel
theorem dX7_addThoseOf_34 : decode cX7_addThoseOf 34 = .ok (.bipush 32, 2) := by decide +kernel
theorem dX7_addThoseOf_36 : decode cX7_addThoseOf 36 = .ok (.if_icmp .ge 19, 3) := by decide +kernel
theorem dX7_addThoseOf_39 : decode cX7_addThoseOf 39 = .ok (.iload_n 2, 1) := by decide +kernel
theorem dX7_addThoseOf_40 : decode cX7_addThoseOf 40 = .ok (.iload_n 3, 1) := by decide +kernel
theorem dX7_addThoseOf_41 : decode cX7_addThoseOf 41 = .ok (.irem, 1) := by decide +kernel
theorem dX7_addThoseOf_42 : decode cX7_addThoseOf 42 = .ok (.ifCond .ne 13, 3) := by decide +kernel
theorem dX7_addThoseOf_45 : decode cX7_addThoseOf 45 = .ok (.iload_n 2, 1) := by decide +kernel
theorem dX7_addThoseOf_46 : decode cX7_addThoseOf 46 = .ok (.iload_n 3, 1) := by decide +kernel
theorem dX7_addThoseOf_47 : decode cX7_addThoseOf 47 = .ok (.idiv, 1) := by decide +kernel
theorem dX7_addThoseOf_48 : decode cX7_addThoseOf 48 = .ok (.istore_n 2, 1) := by decide +kernel
theorem dX7_addThoseOf_49 : decode cX7_addThoseOf 49 = .ok (.iinc 4 1, 3) := by decide +kernel
theorem dX7_addThoseOf_52 : decode cX7_addThoseOf 52 = .ok (.goto (-20), 3) := by decide +kernel
theorem dX7_addThoseOf_55 : decode cX7_addThoseOf 55 = .ok (.iinc 3 1, 3) := by decide +kernel
theorem dX7_addThoseOf_58 : decode cX7_addThoseOf 58 = .ok (.goto (-54), 3) := by decide +kernel
theorem dX7_addThoseOf_61 : decode cX7_addThoseOf 61 = .ok (.iload_n 2, 1) := by decide +kernel
theorem dX7_addThoseOf_62 : decode cX7_addThoseOf 62 = .ok (.iconst 1, 1) := by decide +kernel
theorem dX7_addThoseOf_63 : decode cX7_addThoseOf 63 = .ok (.if_icmp .le 8, 3) := by decide +kernel
theorem dX7_addThoseOf_66 : decode cX7_addThoseOf 66 = .ok (.aload_n 0, 1) := by decide +kernel
theorem dX7_addThoseOf_67 : decode cX7_addThoseOf 67 = .ok (.iload_n 2, 1) := by decide +kernel
theorem dX7_addThoseOf_68 : decode cX7_addThoseOf 68 = .ok (.invokevirtual 19, 3) := by decide +kernel
theorem dX7_addThoseOf_71 : decode cX7_addThoseOf 71 = .ok (.return_, 1) := by decide +kernel
