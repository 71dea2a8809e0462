theorem dX8_init_0 : decode cX8_init 0 = .ok (.aload_n 0, 1) := by decide +kernel
theorem dX8_init_1 : decode cX8_init 1 = .ok (.invokespecial 3, 3) := by decide +kernel
theorem dX8_init_4 : decode cX8_init 4 = .ok (.aload_n 0, 1) := by decide +kernel
theorem dX8_init_5 : decode cX8_init 5 = .ok (.new 9, 3) := by decide +kernel
theorem dX8_init_8 : decode cX8_init 8 = .ok (.dup, 1) := by decide +kernel
theorem dX8_init_9 : decode cX8_init 9 = .ok (.invokespecial 11, 3) := by decide +kernel
theorem dX8_init_12 : decode cX8_init 12 = .ok (.putfield 12, 3) := by decide +kernel
theorem dX8_init_15 : decode cX8_init 15 = .ok (.aload_n 0, 1) := by decide +kernel
theorem dX8_init_16 : decode cX8_init 16 = .ok (.new 9, 3) := by decide +kernel
theorem dX8_init_19 : decode cX8_init 19 = .ok (.dup, 1) := by decide +kernel
theorem dX8_init_20 : decode cX8_init 20 = .ok (.invokespecial 11, 3) := by decide +kernel
theorem dX8_init_23 : decode cX8_init 23 = .ok (.putfield 18, 3) := by decide +kernel
theorem dX8_init_26 : decode cX8_init 26 = .ok (.aload_n 0, 1) := by decide +kernel
theorem dX8_init_27 : decode cX8_init 27 = .ok (.new 21, 3) := by decide +kernel
theorem dX8_init_30 : decode cX8_init 30 = .ok (.dup, 1) := by decide +kernel
theorem dX8_init_31 : decode cX8_init 31 = .ok (.invokespecial 23, 3) := by decide +kernel
theorem dX8_init_34 : decode cX8_init 34 = .ok (.putfield 24, 3) := by decide +kernel
theorem dX8_init_37 : decode cX8_init 37 = .ok (.aload_n 0, 1) := by decide +kernel
theorem dX8_init_38 : decode cX8_init 38 = .ok (.bipush 20, 2) := by decide +kernel
theorem dX8_init_40 : decode cX8_init 40 = .ok (.newarray .int, 2) := by decide +kernel
theorem dX8_init_42 : decode cX8_init 42 = .ok (.putfield 30, 3) := by decide +kernel
theorem dX8_init_45 : decode cX8_init 45 = .ok (.aload_n 0, 1) := by decide +kernel
theorem dX8_init_46 : decode cX8_init 46 = .ok (.iconst 4, 1) := by decide +kernel
theorem dX8_init_47 : decode cX8_init 47 = .ok (.newarray .int, 2) := by decide +kernel
theorem dX8_init_49 : decode cX8_init 49 = .ok (.putfield 34, 3) := by decide +kernel
theorem dX8_init_52 : decode cX8_init 52 = .ok (.aload_n 0, 1) := by decide +kernel
theorem dX8_init_53 : decode cX8_init 53 = .ok (.iconst 4, 1) := by decide +kernel
theorem dX8_init_54 : decode cX8_init 54 = .ok (.newarray .int, 2) := by decide +kernel
theorem dX8_init_56 : decode cX8_init 56 = .ok (.putfield 37, 3) := by decide +kernel
theorem dX8_init_59 : decode cX8_init 59 = .ok (.aload_n 0, 1) := by decide +kernel
theorem dX8_init_60 : decode cX8_init 60 = .ok (.aload_n 1, 1) := by decide +kernel
theorem dX8_init_61 : decode cX8_init 61 = .ok (.putfield 40, 3) := by decide +kernel
theorem dX8_init_64 : decode cX8_init 64 = .ok (.aload_n 0, 1) := by decide +kernel
theorem dX8_init_65 : decode cX8_init 65 = .ok (.aload_n 2, 1) := by decide +kernel
theorem dX8_init_66 : decode cX8_init 66 = .ok (.putfield 44, 3) := by decide +kernel
theorem dX8_init_69 : decode cX8_init 69 = .ok (.return_, 1) := by decide +kernel
theorem dX8_forget_0 : decode cX8_forget 0 = .ok (.aload_n 0, 1) := by decide +kernel
theorem dX8_forget_1 : decode cX8_forget 1 = .ok (.lconst 0, 1) := by decide +kernel
theorem dX8_forget_2 : decode cX8_forget 2 = .ok (.putfield 48, 3) := by decide +kernel
theorem dX8_forget_5 : decode cX8_forget 5 = .ok (.return_, 1) := by decide +kernel
theorem dX8_wholeRound_0 : decode cX8_wholeRound 0 = .ok (.aload_n 0, 1) := by decide +kernel
theorem dX8_wholeRound_1 : decode cX8_wholeRound 1 = .ok (.getfield 48, 3) := by decide +kernel
theorem dX8_wholeRound_4 : decode cX8_wholeRound 4 = .ok (.lconst 0, 1) := by decide +kernel
theorem dX8_wholeRound_5 : decode cX8_wholeRound 5 = .ok (.lcmp, 1) := by decide +kernel
theorem dX8_wholeRound_6 : decode cX8_wholeRound 6 = .ok (.ifCond .le 8, 3) := by decide +kernel
theorem dX8_wholeRound_9 : decode cX8_wholeRound 9 = .ok (.aload_n 0, 1) := by decide +kernel
theorem dX8_wholeRound_10 : decode cX8_wholeRound 10 = .ok (.getfield 48, 3) := by decide +kernel
theorem dX8_wholeRound_13 : decode cX8_wholeRound 13 = .ok (.lreturn, 1) := by decide +kernel
theorem dX8_wholeRound_14 : decode cX8_wholeRound 14 = .ok (.aload_n 0, 1) := by decide +kernel
theorem dX8_wholeRound_15 : decode cX8_wholeRound 15 = .ok (.getfield 12, 3) := by decide +kernel
theorem dX8_wholeRound_18 : decode cX8_wholeRound 18 = .ok (.invokevirtual 52, 3) := by decide +kernel
theorem dX8_wholeRound_21 : decode cX8_wholeRound 21 = .ok (.lconst 1, 1) := by decide +kernel
theorem dX8_wholeRound_22 : decode cX8_wholeRound 22 = .ok (.lstore_n 1, 1) := by decide +kernel
theorem dX8_wholeRound_23 : decode cX8_wholeRound 23 = .ok (.aload_n 0, 1) := by decide +kernel
theorem dX8_wholeRound_24 : decode cX8_wholeRound 24 = .ok (.getfield 44, 3) := by decide +kernel
theorem dX8_wholeRound_27 : decode cX8_wholeRound 27 = .ok (.astore_n 3, 1) := by decide +kernel
theorem dX8_wholeRound_28 : decode cX8_wholeRound 28 = .ok (.aload_n 3, 1) := by decide +kernel
theorem dX8_wholeRound_29 : decode cX8_wholeRound 29 = .ok (.arraylength, 1) := by decide +kernel
theorem dX8_wholeRound_30 : decode cX8_wholeRound 30 = .ok (.istore 4, 2) := by decide +kernel
theorem dX8_wholeRound_32 : decode cX8_wholeRound 32 = .ok (.iconst 0, 1) := by decide +kernel
theorem dX8_wholeRound_33 : decode cX8_wholeRound 33 = .ok (.istore 5, 2) := by decide +kernel
theorem dX8_wholeRound_35 : decode cX8_wholeRound 35 = .ok (.iload 5, 2) := by decide +kernel
theorem dX8_wholeRound_37 : decode cX8_wholeRound 37 = .ok (.iload 4, 2) := by decide +kernel
theorem dX8_wholeRound_39 : decode cX8_wholeRound 39 = .ok (.if_icmp .ge 56, 3) := by decide +kernel
theorem dX8_wholeRound_42 : decode cX8_wholeRound 42 = .ok (.aload_n 3, 1) := by decide +kernel
theorem dX8_wholeRound_43 : decode cX8_wholeRound 43 = .ok (.iload 5, 2) := by decide +kernel
theorem dX8_wholeRound_45 : decode cX8_wholeRound 45 = .ok (.aaload, 1) := by decide +kernel
theorem dX8_wholeRound_46 : decode cX8_wholeRound 46 = .ok (.astore 6, 2) := by decide +kernel
theorem dX8_wholeRound_48 : decode cX8_wholeRound 48 = .ok (.aload 6, 2) := by decide +kernel
theorem dX8_wholeRound_50 : decode cX8_wholeRound 50 = .ok (.getfield 55, 3) := by decide +kernel
theorem dX8_wholeRound_53 : decode cX8_wholeRound 53 = .ok (.iconst 1, 1) := by decide +kernel
theorem dX8_wholeRound_54 : decode cX8_wholeRound 54 = .ok (.if_icmp .le 12, 3) := by decide +kernel
theorem dX8_wholeRound_57 : decode cX8_wholeRound 57 = .ok (.aload_n 0, 1) := by decide +kernel
theorem dX8_wholeRound_58 : decode cX8_wholeRound 58 = .ok (.aload 6, 2) := by decide +kernel
theorem dX8_wholeRound_60 : decode cX8_wholeRound 60 = .ok (.invokevirtual 61, 3) := by decide +kernel
theorem dX8_wholeRound_63 : decode cX8_wholeRound 63 = .ok (.goto 4, 3) := by decide +kernel
theorem dX8_wholeRound_66 : decode cX8_wholeRound 66 = .ok (.lconst 1, 1) := by decide +kernel
theorem dX8_wholeRound_67 : decode cX8_wholeRound 67 = .ok (.lstore 7, 2) := by decide +kernel
theorem dX8_wholeRound_69 : decode cX8_wholeRound 69 = .ok (.lload_n 1, 1) := by decide +kernel
theorem dX8_wholeRound_70 : decode cX8_wholeRound 70 = .ok (.lload 7, 2) := by decide +kernel
theorem dX8_wholeRound_72 : decode cX8_wholeRound 72 = .ok (.invokestatic 65, 3) := by decide +kernel
theorem dX8_wholeRound_75 : decode cX8_wholeRound 75 = .ok (.lconst 1, 1) := by decide +kernel
theorem dX8_wholeRound_76 : decode cX8_wholeRound 76 = .ok (.invokestatic 71, 3) := by decide +kernel
theorem dX8_wholeRound_79 : decode cX8_wholeRound 79 = .ok (.lstore 9, 2) := by decide +kernel
theorem dX8_wholeRound_81 : decode cX8_wholeRound 81 = .ok (.lload_n 1, 1) := by decide +kernel
theorem dX8_wholeRound_82 : decode cX8_wholeRound 82 = .ok (.lload 9, 2) := by decide +kernel
theorem dX8_wholeRound_84 : decode cX8_wholeRound 84 = .ok (.ldiv, 1) := by decide +kernel
theorem dX8_wholeRound_85 : decode cX8_wholeRound 85 = .ok (.lload 7, 2) := by decide +kernel
theorem dX8_wholeRound_87 : decode cX8_wholeRound 87 = .ok (.lmul, 1) := by decide +kernel
theorem dX8_wholeRound_88 : decode cX8_wholeRound 88 = .ok (.lstore_n 1, 1) := by decide +kernel
theorem dX8_wholeRound_89 : decode cX8_wholeRound 89 = .ok (.iinc 5 1, 3) := by decide +kernel
theorem dX8_wholeRound_92 : decode cX8_wholeRound 92 = .ok (.goto (-57), 3) := by decide +kernel
theorem dX8_wholeRound_95 : decode cX8_wholeRound 95 = .ok (.aload_n 0, 1) := by decide +kernel
theorem dX8_wholeRound_96 : decode cX8_wholeRound 96 = .ok (.lload_n 1, 1) := by decide +kernel
theorem dX8_wholeRound_97 : decode cX8_wholeRound 97 = .ok (.putfield 48, 3) := by decide +kernel
theorem dX8_wholeRound_100 : decode cX8_wholeRound 100 = .ok (.aload_n 0, 1) := by decide +kernel
theorem dX8_wholeRound_101 : decode cX8_wholeRound 101 = .ok (.getfield 48, 3) := by decide +kernel
theorem dX8_wholeRound_104 : decode cX8_wholeRound 104 = .ok (.lreturn, 1) := by decide +kernel
theorem dX8_turnsAhead_0 : decode cX8_turnsAhead 0 = .ok (.aload_n 0, 1) := by decide +kernel
theorem dX8_turnsAhead_1 : decode cX8_turnsAhead 1 = .ok (.invokevirtual 76, 3) := by decide +kernel
theorem dX8_turnsAhead_4 : decode cX8_turnsAhead 4 = .ok (.lconst 1, 1) := by decide +kernel
theorem dX8_turnsAhead_5 : decode cX8_turnsAhead 5 = .ok (.invokestatic 71, 3) := by decide +kernel
theorem dX8_turnsAhead_8 : decode cX8_turnsAhead 8 = .ok (.lstore_n 3, 1) := by decide +kernel
theorem dX8_turnsAhead_9 : decode cX8_turnsAhead 9 = .ok (.lload_n 3, 1) := by decide +kernel
theorem dX8_turnsAhead_10 : decode cX8_turnsAhead 10 = .ok (.lload_n 1, 1) := by decide +kernel
theorem dX8_turnsAhead_11 : decode cX8_turnsAhead 11 = .ok (.lload_n 3, 1) := by decide +kernel
theorem dX8_turnsAhead_12 : decode cX8_turnsAhead 12 = .ok (.lrem, 1) := by decide +kernel
theorem dX8_turnsAhead_13 : decode cX8_turnsAhead 13 = .ok (.lsub, 1) := by decide +kernel
theorem dX8_turnsAhead_14 : decode cX8_turnsAhead 14 = .ok (.lload_n 3, 1) := by decide +kernel
theorem dX8_turnsAhead_15 : decode cX8_turnsAhead 15 = .ok (.lrem, 1) := by decide +kernel
theorem dX8_turnsAhead_16 : decode cX8_turnsAhead 16 = .ok (.lreturn, 1) := by decide +kernel
theorem dX8_tailOf_0 : decode cX8_tailOf 0 = .ok (.aload_n 0, 1) := by decide +kernel
theorem dX8_tailOf_1 : decode cX8_tailOf 1 = .ok (.invokevirtual 76, 3) := by decide +kernel
theorem dX8_tailOf_4 : decode cX8_tailOf 4 = .ok (.lstore_n 2, 1) := by decide +kernel
theorem dX8_tailOf_5 : decode cX8_tailOf 5 = .ok (.aload_n 1, 1) := by decide +kernel
theorem dX8_tailOf_6 : decode cX8_tailOf 6 = .ok (.aload_n 0, 1) := by decide +kernel
theorem dX8_tailOf_7 : decode cX8_tailOf 7 = .ok (.getfield 34, 3) := by decide +kernel
theorem dX8_tailOf_10 : decode cX8_tailOf 10 = .ok (.invokestatic 80, 3) := by decide +kernel
theorem dX8_tailOf_13 : decode cX8_tailOf 13 = .ok (.aload_n 1, 1) := by decide +kernel
theorem dX8_tailOf_14 : decode cX8_tailOf 14 = .ok (.aload_n 0, 1) := by decide +kernel
theorem dX8_tailOf_15 : decode cX8_tailOf 15 = .ok (.getfield 37, 3) := by decide +kernel
theorem dX8_tailOf_18 : decode cX8_tailOf 18 = .ok (.invokestatic 80, 3) := by decide +kernel
theorem dX8_tailOf_21 : decode cX8_tailOf 21 = .ok (.aload_n 0, 1) := by decide +kernel
theorem dX8_tailOf_22 : decode cX8_tailOf 22 = .ok (.getfield 40, 3) := by decide +kernel
theorem dX8_tailOf_25 : decode cX8_tailOf 25 = .ok (.lload_n 2, 1) := by decide +kernel
theorem dX8_tailOf_26 : decode cX8_tailOf 26 = .ok (.aload_n 0, 1) := by decide +kernel
theorem dX8_tailOf_27 : decode cX8_tailOf 27 = .ok (.getfield 37, 3) := by decide +kernel
theorem dX8_tailOf_30 : decode cX8_tailOf 30 = .ok (.invokevirtual 84, 3) := by decide +kernel
theorem dX8_tailOf_33 : decode cX8_tailOf 33 = .ok (.iconst 0, 1) := by decide +kernel
theorem dX8_tailOf_34 : decode cX8_tailOf 34 = .ok (.istore 4, 2) := by decide +kernel
theorem dX8_tailOf_36 : decode cX8_tailOf 36 = .ok (.iload 4, 2) := by decide +kernel
theorem dX8_tailOf_38 : decode cX8_tailOf 38 = .ok (.bipush 32, 2) := by decide +kernel
theorem dX8_tailOf_40 : decode cX8_tailOf 40 = .ok (.if_icmp .ge 51, 3) := by decide +kernel
theorem dX8_tailOf_43 : decode cX8_tailOf 43 = .ok (.aload_n 0, 1) := by decide +kernel
theorem dX8_tailOf_44 : decode cX8_tailOf 44 = .ok (.getfield 40, 3) := by decide +kernel
theorem dX8_tailOf_47 : decode cX8_tailOf 47 = .ok (.aload_n 0, 1) := by decide +kernel
theorem dX8_tailOf_48 : decode cX8_tailOf 48 = .ok (.getfield 34, 3) := by decide +kernel
theorem dX8_tailOf_51 : decode cX8_tailOf 51 = .ok (.aload_n 0, 1) := by decide +kernel
theorem dX8_tailOf_52 : decode cX8_tailOf 52 = .ok (.getfield 37, 3) := by decide +kernel
theorem dX8_tailOf_55 : decode cX8_tailOf 55 = .ok (.invokevirtual 88, 3) := by decide +kernel
theorem dX8_tailOf_58 : decode cX8_tailOf 58 = .ok (.ifCond .ne 33, 3) := by decide +kernel
theorem dX8_tailOf_61 : decode cX8_tailOf 61 = .ok (.aload_n 0, 1) := by decide +kernel
theorem dX8_tailOf_62 : decode cX8_tailOf 62 = .ok (.getfield 40, 3) := by decide +kernel
theorem dX8_tailOf_65 : decode cX8_tailOf 65 = .ok (.lconst 1, 1) := by decide +kernel
theorem dX8_tailOf_66 : decode cX8_tailOf 66 = .ok (.aload_n 0, 1) := by decide +kernel
theorem dX8_tailOf_67 : decode cX8_tailOf 67 = .ok (.getfield 34, 3) := by decide +kernel
theorem dX8_tailOf_70 : decode cX8_tailOf 70 = .ok (.invokevirtual 84, 3) := by decide +kernel
theorem dX8_tailOf_73 : decode cX8_tailOf 73 = .ok (.aload_n 0, 1) := by decide +kernel
theorem dX8_tailOf_74 : decode cX8_tailOf 74 = .ok (.getfield 40, 3) := by decide +kernel
theorem dX8_tailOf_77 : decode cX8_tailOf 77 = .ok (.lconst 1, 1) := by decide +kernel
theorem dX8_tailOf_78 : decode cX8_tailOf 78 = .ok (.aload_n 0, 1) := by decide +kernel
theorem dX8_tailOf_79 : decode cX8_tailOf 79 = .ok (.getfield 37, 3) := by decide +kernel
theorem dX8_tailOf_82 : decode cX8_tailOf 82 = .ok (.invokevirtual 84, 3) := by decide +kernel
theorem dX8_tailOf_85 : decode cX8_tailOf 85 = .ok (.iinc 4 1, 3) := by decide +kernel
theorem dX8_tailOf_88 : decode cX8_tailOf 88 = .ok (.goto (-52), 3) := by decide +kernel
theorem dX8_tailOf_91 : decode cX8_tailOf 91 = .ok (.iload 4, 2) := by decide +kernel
theorem dX8_tailOf_93 : decode cX8_tailOf 93 = .ok (.ireturn, 1) := by decide +kernel
theorem dX8_roundOf_0 : decode cX8_roundOf 0 = .ok (.aload_n 0, 1) := by decide +kernel
theorem dX8_roundOf_1 : decode cX8_roundOf 1 = .ok (.invokevirtual 76, 3) := by decide +kernel
theorem dX8_roundOf_4 : decode cX8_roundOf 4 = .ok (.lstore_n 2, 1) := by decide +kernel
theorem dX8_roundOf_5 : decode cX8_roundOf 5 = .ok (.aload_n 1, 1) := by decide +kernel
theorem dX8_roundOf_6 : decode cX8_roundOf 6 = .ok (.aload_n 0, 1) := by decide +kernel
theorem dX8_roundOf_7 : decode cX8_roundOf 7 = .ok (.getfield 34, 3) := by decide +kernel
theorem dX8_roundOf_10 : decode cX8_roundOf 10 = .ok (.invokestatic 80, 3) := by decide +kernel
theorem dX8_roundOf_13 : decode cX8_roundOf 13 = .ok (.aload_n 0, 1) := by decide +kernel
theorem dX8_roundOf_14 : decode cX8_roundOf 14 = .ok (.getfield 40, 3) := by decide +kernel
theorem dX8_roundOf_17 : decode cX8_roundOf 17 = .ok (.ldc2_w 92, 3) := by decide +kernel
theorem dX8_roundOf_20 : decode cX8_roundOf 20 = .ok (.aload_n 0, 1) := by decide +kernel
theorem dX8_roundOf_21 : decode cX8_roundOf 21 = .ok (.getfield 34, 3) := by decide +kernel
theorem dX8_roundOf_24 : decode cX8_roundOf 24 = .ok (.invokevirtual 84, 3) := by decide +kernel
theorem dX8_roundOf_27 : decode cX8_roundOf 27 = .ok (.iconst 0, 1) := by decide +kernel
theorem dX8_roundOf_28 : decode cX8_roundOf 28 = .ok (.istore 4, 2) := by decide +kernel
theorem dX8_roundOf_30 : decode cX8_roundOf 30 = .ok (.iload 4, 2) := by decide +kernel
theorem dX8_roundOf_32 : decode cX8_roundOf 32 = .ok (.aload_n 0, 1) := by decide +kernel
theorem dX8_roundOf_33 : decode cX8_roundOf 33 = .ok (.getfield 12, 3) := by decide +kernel
theorem dX8_roundOf_36 : decode cX8_roundOf 36 = .ok (.getfield 94, 3) := by decide +kernel
theorem dX8_roundOf_39 : decode cX8_roundOf 39 = .ok (.if_icmp .ge 69, 3) := by decide +kernel
theorem dX8_roundOf_42 : decode cX8_roundOf 42 = .ok (.aload_n 0, 1) := by decide +kernel
theorem dX8_roundOf_43 : decode cX8_roundOf 43 = .ok (.getfield 12, 3) := by decide +kernel
theorem dX8_roundOf_46 : decode cX8_roundOf 46 = .ok (.getfield 97, 3) := by decide +kernel
theorem dX8_roundOf_49 : decode cX8_roundOf 49 = .ok (.iload 4, 2) := by decide +kernel
theorem dX8_roundOf_51 : decode cX8_roundOf 51 = .ok (.iaload, 1) := by decide +kernel
theorem dX8_roundOf_52 : decode cX8_roundOf 52 = .ok (.iconst 2, 1) := by decide +kernel
theorem dX8_roundOf_53 : decode cX8_roundOf 53 = .ok (.invokestatic 100, 3) := by decide +kernel
theorem dX8_roundOf_56 : decode cX8_roundOf 56 = .ok (.istore 5, 2) := by decide +kernel
theorem dX8_roundOf_58 : decode cX8_roundOf 58 = .ok (.iconst 0, 1) := by decide +kernel
theorem dX8_roundOf_59 : decode cX8_roundOf 59 = .ok (.istore 6, 2) := by decide +kernel
theorem dX8_roundOf_61 : decode cX8_roundOf 61 = .ok (.iload 6, 2) := by decide +kernel
theorem dX8_roundOf_63 : decode cX8_roundOf 63 = .ok (.bipush 64, 2) := by decide +kernel
theorem dX8_roundOf_65 : decode cX8_roundOf 65 = .ok (.if_icmp .ge 37, 3) := by decide +kernel
theorem dX8_roundOf_68 : decode cX8_roundOf 68 = .ok (.lload_n 2, 1) := by decide +kernel
theorem dX8_roundOf_69 : decode cX8_roundOf 69 = .ok (.iload 5, 2) := by decide +kernel
theorem dX8_roundOf_71 : decode cX8_roundOf 71 = .ok (.i2l, 1) := by decide +kernel
theorem dX8_roundOf_72 : decode cX8_roundOf 72 = .ok (.lrem, 1) := by decide +kernel
theorem dX8_roundOf_73 : decode cX8_roundOf 73 = .ok (.lconst 0, 1) := by decide +kernel
theorem dX8_roundOf_74 : decode cX8_roundOf 74 = .ok (.lcmp, 1) := by decide +kernel
theorem dX8_roundOf_75 : decode cX8_roundOf 75 = .ok (.ifCond .ne 27, 3) := by decide +kernel
theorem dX8_roundOf_78 : decode cX8_roundOf 78 = .ok (.aload_n 0, 1) := by decide +kernel
theorem dX8_roundOf_79 : decode cX8_roundOf 79 = .ok (.lload_n 2, 1) := by decide +kernel
theorem dX8_roundOf_80 : decode cX8_roundOf 80 = .ok (.iload 5, 2) := by decide +kernel
theorem dX8_roundOf_82 : decode cX8_roundOf 82 = .ok (.i2l, 1) := by decide +kernel
theorem dX8_roundOf_83 : decode cX8_roundOf 83 = .ok (.ldiv, 1) := by decide +kernel
theorem dX8_roundOf_84 : decode cX8_roundOf 84 = .ok (.invokevirtual 103, 3) := by decide +kernel
theorem dX8_roundOf_87 : decode cX8_roundOf 87 = .ok (.ifCond .eq 15, 3) := by decide +kernel
theorem dX8_roundOf_90 : decode cX8_roundOf 90 = .ok (.lload_n 2, 1) := by decide +kernel
theorem dX8_roundOf_91 : decode cX8_roundOf 91 = .ok (.iload 5, 2) := by decide +kernel
theorem dX8_roundOf_93 : decode cX8_roundOf 93 = .ok (.i2l, 1) := by decide +kernel
theorem dX8_roundOf_94 : decode cX8_roundOf 94 = .ok (.ldiv, 1) := by decide +kernel
theorem dX8_roundOf_95 : decode cX8_roundOf 95 = .ok (.lstore_n 2, 1) := by decide +kernel
theorem dX8_roundOf_96 : decode cX8_roundOf 96 = .ok (.iinc 6 1, 3) := by decide +kernel
theorem dX8_roundOf_99 : decode cX8_roundOf 99 = .ok (.goto (-38), 3) := by decide +kernel
theorem dX8_roundOf_102 : decode cX8_roundOf 102 = .ok (.iinc 4 1, 3) := by decide +kernel
theorem dX8_roundOf_105 : decode cX8_roundOf 105 = .ok (.goto (-75), 3) := by decide +kernel
theorem dX8_roundOf_108 : decode cX8_roundOf 108 = .ok (.lload_n 2, 1) := by decide +kernel
theorem dX8_roundOf_109 : decode cX8_roundOf 109 = .ok (.lreturn, 1) := by decide +kernel
theorem dX8_turnsToLookAlike_0 : decode cX8_turnsToLookAlike 0 = .ok (.aload_n 0, 1) := by decide +kernel
theorem dX8_turnsToLookAlike_1 : decode cX8_turnsToLookAlike 1 = .ok (.invokevirtual 76, 3) := by decide +kernel
theorem dX8_turnsToLookAlike_4 : decode cX8_turnsToLookAlike 4 = .ok (.lstore_n 2, 1) := by decide +kernel
theorem dX8_turnsToLookAlike_5 : decode cX8_turnsToLookAlike 5 = .ok (.iconst 0, 1) := by decide +kernel
theorem dX8_turnsToLookAlike_6 : decode cX8_turnsToLookAlike 6 = .ok (.istore 4, 2) := by decide +kernel
theorem dX8_turnsToLookAlike_8 : decode cX8_turnsToLookAlike 8 = .ok (.iload 4, 2) := by decide +kernel
theorem dX8_turnsToLookAlike_10 : decode cX8_turnsToLookAlike 10 = .ok (.aload_n 0, 1) := by decide +kernel
theorem dX8_turnsToLookAlike_11 : decode cX8_turnsToLookAlike 11 = .ok (.getfield 12, 3) := by decide +kernel
theorem dX8_turnsToLookAlike_14 : decode cX8_turnsToLookAlike 14 = .ok (.getfield 94, 3) := by decide +kernel
theorem dX8_turnsToLookAlike_17 : decode cX8_turnsToLookAlike 17 = .ok (.if_icmp .ge 73, 3) := by decide +kernel
theorem dX8_turnsToLookAlike_20 : decode cX8_turnsToLookAlike 20 = .ok (.aload_n 0, 1) := by decide +kernel
theorem dX8_turnsToLookAlike_21 : decode cX8_turnsToLookAlike 21 = .ok (.getfield 12, 3) := by decide +kernel
theorem dX8_turnsToLookAlike_24 : decode cX8_turnsToLookAlike 24 = .ok (.getfield 97, 3) := by decide +kernel
theorem dX8_turnsToLookAlike_27 : decode cX8_turnsToLookAlike 27 = .ok (.iload 4, 2) := by decide +kernel
theorem dX8_turnsToLookAlike_29 : decode cX8_turnsToLookAlike 29 = .ok (.iaload, 1) := by decide +kernel
theorem dX8_turnsToLookAlike_30 : decode cX8_turnsToLookAlike 30 = .ok (.iconst 2, 1) := by decide +kernel
theorem dX8_turnsToLookAlike_31 : decode cX8_turnsToLookAlike 31 = .ok (.invokestatic 100, 3) := by decide +kernel
theorem dX8_turnsToLookAlike_34 : decode cX8_turnsToLookAlike 34 = .ok (.istore 5, 2) := by decide +kernel
theorem dX8_turnsToLookAlike_36 : decode cX8_turnsToLookAlike 36 = .ok (.iconst 0, 1) := by decide +kernel
theorem dX8_turnsToLookAlike_37 : decode cX8_turnsToLookAlike 37 = .ok (.istore 6, 2) := by decide +kernel
theorem dX8_turnsToLookAlike_39 : decode cX8_turnsToLookAlike 39 = .ok (.iload 6, 2) := by decide +kernel
theorem dX8_turnsToLookAlike_41 : decode cX8_turnsToLookAlike 41 = .ok (.bipush 64, 2) := by decide +kernel
theorem dX8_turnsToLookAlike_43 : decode cX8_turnsToLookAlike 43 = .ok (.if_icmp .ge 41, 3) := by decide +kernel
theorem dX8_turnsToLookAlike_46 : decode cX8_turnsToLookAlike 46 = .ok (.lload_n 2, 1) := by decide +kernel
theorem dX8_turnsToLookAlike_47 : decode cX8_turnsToLookAlike 47 = .ok (.iload 5, 2) := by decide +kernel
theorem dX8_turnsToLookAlike_49 : decode cX8_turnsToLookAlike 49 = .ok (.i2l, 1) := by decide +kernel
theorem dX8_turnsToLookAlike_50 : decode cX8_turnsToLookAlike 50 = .ok (.lrem, 1) := by decide +kernel
theorem dX8_turnsToLookAlike_51 : decode cX8_turnsToLookAlike 51 = .ok (.lconst 0, 1) := by decide +kernel
theorem dX8_turnsToLookAlike_52 : decode cX8_turnsToLookAlike 52 = .ok (.lcmp, 1) := by decide +kernel
theorem dX8_turnsToLookAlike_53 : decode cX8_turnsToLookAlike 53 = .ok (.ifCond .ne 31, 3) := by decide +kernel
theorem dX8_turnsToLookAlike_56 : decode cX8_turnsToLookAlike 56 = .ok (.aload_n 1, 1) := by decide +kernel
theorem dX8_turnsToLookAlike_57 : decode cX8_turnsToLookAlike 57 = .ok (.aload_n 0, 1) := by decide +kernel
theorem dX8_turnsToLookAlike_58 : decode cX8_turnsToLookAlike 58 = .ok (.lload_n 2, 1) := by decide +kernel
theorem dX8_turnsToLookAlike_59 : decode cX8_turnsToLookAlike 59 = .ok (.iload 5, 2) := by decide +kernel
theorem dX8_turnsToLookAlike_61 : decode cX8_turnsToLookAlike 61 = .ok (.i2l, 1) := by decide +kernel
theorem dX8_turnsToLookAlike_62 : decode cX8_turnsToLookAlike 62 = .ok (.ldiv, 1) := by decide +kernel
theorem dX8_turnsToLookAlike_63 : decode cX8_turnsToLookAlike 63 = .ok (.invokevirtual 107, 3) := by decide +kernel
theorem dX8_turnsToLookAlike_66 : decode cX8_turnsToLookAlike 66 = .ok (.invokevirtual 111, 3) := by decide +kernel
theorem dX8_turnsToLookAlike_69 : decode cX8_turnsToLookAlike 69 = .ok (.ifCond .eq 15, 3) := by decide +kernel
theorem dX8_turnsToLookAlike_72 : decode cX8_turnsToLookAlike 72 = .ok (.lload_n 2, 1) := by decide +kernel
theorem dX8_turnsToLookAlike_73 : decode cX8_turnsToLookAlike 73 = .ok (.iload 5, 2) := by decide +kernel
theorem dX8_turnsToLookAlike_75 : decode cX8_turnsToLookAlike 75 = .ok (.i2l, 1) := by decide +kernel
theorem dX8_turnsToLookAlike_76 : decode cX8_turnsToLookAlike 76 = .ok (.ldiv, 1) := by decide +kernel
theorem dX8_turnsToLookAlike_77 : decode cX8_turnsToLookAlike 77 = .ok (.lstore_n 2, 1) := by decide +kernel
theorem dX8_turnsToLookAlike_78 : decode cX8_turnsToLookAlike 78 = .ok (.iinc 6 1, 3) := by decide +kernel
theorem dX8_turnsToLookAlike_81 : decode cX8_turnsToLookAlike 81 = .ok (.goto (-42), 3) := by decide +kernel
theorem dX8_turnsToLookAlike_84 : decode cX8_turnsToLookAlike 84 = .ok (.iinc 4 1, 3) := by decide +kernel
theorem dX8_turnsToLookAlike_87 : decode cX8_turnsToLookAlike 87 = .ok (.goto (-79), 3) := by decide +kernel
theorem dX8_turnsToLookAlike_90 : decode cX8_turnsToLookAlike 90 = .ok (.lload_n 2, 1) := by decide +kernel
theorem dX8_turnsToLookAlike_91 : decode cX8_turnsToLookAlike 91 = .ok (.lreturn, 1) := by decide +kernel
theorem dX8_platesFixed_0 : decode cX8_platesFixed 0 = .ok (.aload_n 0, 1) := by decide +kernel
theorem dX8_platesFixed_1 : decode cX8_platesFixed 1 = .ok (.lload_n 1, 1) := by decide +kernel
theorem dX8_platesFixed_2 : decode cX8_platesFixed 2 = .ok (.invokevirtual 107, 3) := by decide +kernel
theorem dX8_platesFixed_5 : decode cX8_platesFixed 5 = .ok (.astore_n 3, 1) := by decide +kernel
theorem dX8_platesFixed_6 : decode cX8_platesFixed 6 = .ok (.lconst 1, 1) := by decide +kernel
theorem dX8_platesFixed_7 : decode cX8_platesFixed 7 = .ok (.lstore 4, 2) := by decide +kernel
theorem dX8_platesFixed_9 : decode cX8_platesFixed 9 = .ok (.aload_n 0, 1) := by decide +kernel
theorem dX8_platesFixed_10 : decode cX8_platesFixed 10 = .ok (.getfield 44, 3) := by decide +kernel
theorem dX8_platesFixed_13 : decode cX8_platesFixed 13 = .ok (.astore 6, 2) := by decide +kernel
theorem dX8_platesFixed_15 : decode cX8_platesFixed 15 = .ok (.aload 6, 2) := by decide +kernel
theorem dX8_platesFixed_17 : decode cX8_platesFixed 17 = .ok (.arraylength, 1) := by decide +kernel
theorem dX8_platesFixed_18 : decode cX8_platesFixed 18 = .ok (.istore 7, 2) := by decide +kernel
theorem dX8_platesFixed_20 : decode cX8_platesFixed 20 = .ok (.iconst 0, 1) := by decide +kernel
theorem dX8_platesFixed_21 : decode cX8_platesFixed 21 = .ok (.istore 8, 2) := by decide +kernel
theorem dX8_platesFixed_23 : decode cX8_platesFixed 23 = .ok (.iload 8, 2) := by decide +kernel
theorem dX8_platesFixed_25 : decode cX8_platesFixed 25 = .ok (.iload 7, 2) := by decide +kernel
theorem dX8_platesFixed_27 : decode cX8_platesFixed 27 = .ok (.if_icmp .ge 50, 3) := by decide +kernel
theorem dX8_platesFixed_30 : decode cX8_platesFixed 30 = .ok (.aload 6, 2) := by decide +kernel
theorem dX8_platesFixed_32 : decode cX8_platesFixed 32 = .ok (.iload 8, 2) := by decide +kernel
theorem dX8_platesFixed_34 : decode cX8_platesFixed 34 = .ok (.aaload, 1) := by decide +kernel
theorem dX8_platesFixed_35 : decode cX8_platesFixed 35 = .ok (.astore 9, 2) := by decide +kernel
theorem dX8_platesFixed_37 : decode cX8_platesFixed 37 = .ok (.aload 9, 2) := by decide +kernel
theorem dX8_platesFixed_39 : decode cX8_platesFixed 39 = .ok (.getfield 55, 3) := by decide +kernel
theorem dX8_platesFixed_42 : decode cX8_platesFixed 42 = .ok (.iconst 1, 1) := by decide +kernel
theorem dX8_platesFixed_43 : decode cX8_platesFixed 43 = .ok (.if_icmp .le 28, 3) := by decide +kernel
theorem dX8_platesFixed_46 : decode cX8_platesFixed 46 = .ok (.lload 4, 2) := by decide +kernel
theorem dX8_platesFixed_48 : decode cX8_platesFixed 48 = .ok (.aload_n 0, 1) := by decide +kernel
theorem dX8_platesFixed_49 : decode cX8_platesFixed 49 = .ok (.getfield 24, 3) := by decide +kernel
theorem dX8_platesFixed_52 : decode cX8_platesFixed 52 = .ok (.aload_n 3, 1) := by decide +kernel
theorem dX8_platesFixed_53 : decode cX8_platesFixed 53 = .ok (.aload_n 0, 1) := by decide +kernel
theorem dX8_platesFixed_54 : decode cX8_platesFixed 54 = .ok (.getfield 40, 3) := by decide +kernel
theorem dX8_platesFixed_57 : decode cX8_platesFixed 57 = .ok (.getfield 117, 3) := by decide +kernel
theorem dX8_platesFixed_60 : decode cX8_platesFixed 60 = .ok (.aload 9, 2) := by decide +kernel
theorem dX8_platesFixed_62 : decode cX8_platesFixed 62 = .ok (.getfield 55, 3) := by decide +kernel
theorem dX8_platesFixed_65 : decode cX8_platesFixed 65 = .ok (.invokevirtual 120, 3) := by decide +kernel
theorem dX8_platesFixed_68 : decode cX8_platesFixed 68 = .ok (.lmul, 1) := by decide +kernel
theorem dX8_platesFixed_69 : decode cX8_platesFixed 69 = .ok (.lstore 4, 2) := by decide +kernel
theorem dX8_platesFixed_71 : decode cX8_platesFixed 71 = .ok (.iinc 8 1, 3) := by decide +kernel
theorem dX8_platesFixed_74 : decode cX8_platesFixed 74 = .ok (.goto (-51), 3) := by decide +kernel
theorem dX8_platesFixed_77 : decode cX8_platesFixed 77 = .ok (.lload 4, 2) := by decide +kernel
theorem dX8_platesFixed_79 : decode cX8_platesFixed 79 = .ok (.lreturn, 1) := by decide +kernel
theorem dX8_platesInRounds_0 : decode cX8_platesInRounds 0 = .ok (.lload_n 1, 1) := by decide +kernel
theorem dX8_platesInRounds_1 : decode cX8_platesInRounds 1 = .ok (.lconst 1, 1) := by decide +kernel
theorem dX8_platesInRounds_2 : decode cX8_platesInRounds 2 = .ok (.lcmp, 1) := by decide +kernel
theorem dX8_platesInRounds_3 : decode cX8_platesInRounds 3 = .ok (.ifCond .lt 14, 3) := by decide +kernel
theorem dX8_platesInRounds_6 : decode cX8_platesInRounds 6 = .ok (.aload_n 0, 1) := by decide +kernel
theorem dX8_platesInRounds_7 : decode cX8_platesInRounds 7 = .ok (.invokevirtual 76, 3) := by decide +kernel
theorem dX8_platesInRounds_10 : decode cX8_platesInRounds 10 = .ok (.lload_n 1, 1) := by decide +kernel
theorem dX8_platesInRounds_11 : decode cX8_platesInRounds 11 = .ok (.lrem, 1) := by decide +kernel
theorem dX8_platesInRounds_12 : decode cX8_platesInRounds 12 = .ok (.lconst 0, 1) := by decide +kernel
theorem dX8_platesInRounds_13 : decode cX8_platesInRounds 13 = .ok (.lcmp, 1) := by decide +kernel
theorem dX8_platesInRounds_14 : decode cX8_platesInRounds 14 = .ok (.ifCond .eq 5, 3) := by decide +kernel
theorem dX8_platesInRounds_17 : decode cX8_platesInRounds 17 = .ok (.lconst 0, 1) := by decide +kernel
theorem dX8_platesInRounds_18 : decode cX8_platesInRounds 18 = .ok (.lreturn, 1) := by decide +kernel
theorem dX8_platesInRounds_19 : decode cX8_platesInRounds 19 = .ok (.aload_n 0, 1) := by decide +kernel
theorem dX8_platesInRounds_20 : decode cX8_platesInRounds 20 = .ok (.getfield 18, 3) := by decide +kernel
theorem dX8_platesInRounds_23 : decode cX8_platesInRounds 23 = .ok (.invokevirtual 52, 3) := by decide +kernel
theorem dX8_platesInRounds_26 : decode cX8_platesInRounds 26 = .ok (.iconst 0, 1) := by decide +kernel
theorem dX8_platesInRounds_27 : decode cX8_platesInRounds 27 = .ok (.istore_n 3, 1) := by decide +kernel
theorem dX8_platesInRounds_28 : decode cX8_platesInRounds 28 = .ok (.iload_n 3, 1) := by decide +kernel
theorem dX8_platesInRounds_29 : decode cX8_platesInRounds 29 = .ok (.aload_n 0, 1) := by decide +kernel
theorem dX8_platesInRounds_30 : decode cX8_platesInRounds 30 = .ok (.getfield 12, 3) := by decide +kernel
theorem dX8_platesInRounds_33 : decode cX8_platesInRounds 33 = .ok (.getfield 94, 3) := by decide +kernel
theorem dX8_platesInRounds_36 : decode cX8_platesInRounds 36 = .ok (.if_icmp .ge 46, 3) := by decide +kernel
theorem dX8_platesInRounds_39 : decode cX8_platesInRounds 39 = .ok (.lload_n 1, 1) := by decide +kernel
theorem dX8_platesInRounds_40 : decode cX8_platesInRounds 40 = .ok (.aload_n 0, 1) := by decide +kernel
theorem dX8_platesInRounds_41 : decode cX8_platesInRounds 41 = .ok (.getfield 12, 3) := by decide +kernel
theorem dX8_platesInRounds_44 : decode cX8_platesInRounds 44 = .ok (.getfield 97, 3) := by decide +kernel
theorem dX8_platesInRounds_47 : decode cX8_platesInRounds 47 = .ok (.iload_n 3, 1) := by decide +kernel
theorem dX8_platesInRounds_48 : decode cX8_platesInRounds 48 = .ok (.iaload, 1) := by decide +kernel
theorem dX8_platesInRounds_49 : decode cX8_platesInRounds 49 = .ok (.iconst 2, 1) := by decide +kernel
theorem dX8_platesInRounds_50 : decode cX8_platesInRounds 50 = .ok (.invokestatic 100, 3) := by decide +kernel
theorem dX8_platesInRounds_53 : decode cX8_platesInRounds 53 = .ok (.i2l, 1) := by decide +kernel
theorem dX8_platesInRounds_54 : decode cX8_platesInRounds 54 = .ok (.lrem, 1) := by decide +kernel
theorem dX8_platesInRounds_55 : decode cX8_platesInRounds 55 = .ok (.lconst 0, 1) := by decide +kernel
theorem dX8_platesInRounds_56 : decode cX8_platesInRounds 56 = .ok (.lcmp, 1) := by decide +kernel
theorem dX8_platesInRounds_57 : decode cX8_platesInRounds 57 = .ok (.ifCond .ne 19, 3) := by decide +kernel
theorem dX8_platesInRounds_60 : decode cX8_platesInRounds 60 = .ok (.aload_n 0, 1) := by decide +kernel
theorem dX8_platesInRounds_61 : decode cX8_platesInRounds 61 = .ok (.getfield 18, 3) := by decide +kernel
theorem dX8_platesInRounds_64 : decode cX8_platesInRounds 64 = .ok (.aload_n 0, 1) := by decide +kernel
theorem dX8_platesInRounds_65 : decode cX8_platesInRounds 65 = .ok (.getfield 12, 3) := by decide +kernel
theorem dX8_platesInRounds_68 : decode cX8_platesInRounds 68 = .ok (.getfield 97, 3) := by decide +kernel
theorem dX8_platesInRounds_71 : decode cX8_platesInRounds 71 = .ok (.iload_n 3, 1) := by decide +kernel
theorem dX8_platesInRounds_72 : decode cX8_platesInRounds 72 = .ok (.iaload, 1) := by decide +kernel
theorem dX8_platesInRounds_73 : decode cX8_platesInRounds 73 = .ok (.invokevirtual 124, 3) := by decide +kernel
theorem dX8_platesInRounds_76 : decode cX8_platesInRounds 76 = .ok (.iinc 3 1, 3) := by decide +kernel
theorem dX8_platesInRounds_79 : decode cX8_platesInRounds 79 = .ok (.goto (-51), 3) := by decide +kernel
theorem dX8_platesInRounds_82 : decode cX8_platesInRounds 82 = .ok (.lconst 0, 1) := by decide +kernel
theorem dX8_platesInRounds_83 : decode cX8_platesInRounds 83 = .ok (.lstore_n 3, 1) := by decide +kernel
theorem dX8_platesInRounds_84 : decode cX8_platesInRounds 84 = .ok (.iconst 0, 1) := by decide +kernel
theorem dX8_platesInRounds_85 : decode cX8_platesInRounds 85 = .ok (.istore 5, 2) := by decide +kernel
theorem dX8_platesInRounds_87 : decode cX8_platesInRounds 87 = .ok (.iload 5, 2) := by decide +kernel
theorem dX8_platesInRounds_89 : decode cX8_platesInRounds 89 = .ok (.iconst 1, 1) := by decide +kernel
theorem dX8_platesInRounds_90 : decode cX8_platesInRounds 90 = .ok (.aload_n 0, 1) := by decide +kernel
theorem dX8_platesInRounds_91 : decode cX8_platesInRounds 91 = .ok (.getfield 18, 3) := by decide +kernel
theorem dX8_platesInRounds_94 : decode cX8_platesInRounds 94 = .ok (.getfield 94, 3) := by decide +kernel
theorem dX8_platesInRounds_97 : decode cX8_platesInRounds 97 = .ok (.ishl, 1) := by decide +kernel
theorem dX8_platesInRounds_98 : decode cX8_platesInRounds 98 = .ok (.if_icmp .ge 43, 3) := by decide +kernel
theorem dX8_platesInRounds_101 : decode cX8_platesInRounds 101 = .ok (.aload_n 0, 1) := by decide +kernel
theorem dX8_platesInRounds_102 : decode cX8_platesInRounds 102 = .ok (.aload_n 0, 1) := by decide +kernel
theorem dX8_platesInRounds_103 : decode cX8_platesInRounds 103 = .ok (.lload_n 1, 1) := by decide +kernel
theorem dX8_platesInRounds_104 : decode cX8_platesInRounds 104 = .ok (.iload 5, 2) := by decide +kernel
theorem dX8_platesInRounds_106 : decode cX8_platesInRounds 106 = .ok (.invokevirtual 128, 3) := by decide +kernel
theorem dX8_platesInRounds_109 : decode cX8_platesInRounds 109 = .ok (.invokevirtual 132, 3) := by decide +kernel
theorem dX8_platesInRounds_112 : decode cX8_platesInRounds 112 = .ok (.lstore 6, 2) := by decide +kernel
theorem dX8_platesInRounds_114 : decode cX8_platesInRounds 114 = .ok (.lload_n 3, 1) := by decide +kernel
theorem dX8_platesInRounds_115 : decode cX8_platesInRounds 115 = .ok (.iload 5, 2) := by decide +kernel
theorem dX8_platesInRounds_117 : decode cX8_platesInRounds 117 = .ok (.invokestatic 136, 3) := by decide +kernel
theorem dX8_platesInRounds_120 : decode cX8_platesInRounds 120 = .ok (.iconst 2, 1) := by decide +kernel
theorem dX8_platesInRounds_121 : decode cX8_platesInRounds 121 = .ok (.irem, 1) := by decide +kernel
theorem dX8_platesInRounds_122 : decode cX8_platesInRounds 122 = .ok (.ifCond .ne 8, 3) := by decide +kernel
theorem dX8_platesInRounds_125 : decode cX8_platesInRounds 125 = .ok (.lload 6, 2) := by decide +kernel
theorem dX8_platesInRounds_127 : decode cX8_platesInRounds 127 = .ok (.goto 6, 3) := by decide +kernel
theorem dX8_platesInRounds_130 : decode cX8_platesInRounds 130 = .ok (.lload 6, 2) := by decide +kernel
theorem dX8_platesInRounds_132 : decode cX8_platesInRounds 132 = .ok (.lneg, 1) := by decide +kernel
theorem dX8_platesInRounds_133 : decode cX8_platesInRounds 133 = .ok (.ladd, 1) := by decide +kernel
theorem dX8_platesInRounds_134 : decode cX8_platesInRounds 134 = .ok (.lstore_n 3, 1) := by decide +kernel
theorem dX8_platesInRounds_135 : decode cX8_platesInRounds 135 = .ok (.iinc 5 1, 3) := by decide +kernel
theorem dX8_platesInRounds_138 : decode cX8_platesInRounds 138 = .ok (.goto (-51), 3) := by decide +kernel
theorem dX8_platesInRounds_141 : decode cX8_platesInRounds 141 = .ok (.lload_n 3, 1) := by decide +kernel
theorem dX8_platesInRounds_142 : decode cX8_platesInRounds 142 = .ok (.lreturn, 1) := by decide +kernel
theorem dX8_stepOf_0 : decode cX8_stepOf 0 = .ok (.aload_n 0, 1) := by decide +kernel
theorem dX8_stepOf_1 : decode cX8_stepOf 1 = .ok (.getfield 40, 3) := by decide +kernel
theorem dX8_stepOf_4 : decode cX8_stepOf 4 = .ok (.aload_n 0, 1) := by decide +kernel
theorem dX8_stepOf_5 : decode cX8_stepOf 5 = .ok (.getfield 30, 3) := by decide +kernel
theorem dX8_stepOf_8 : decode cX8_stepOf 8 = .ok (.invokevirtual 142, 3) := by decide +kernel
theorem dX8_stepOf_11 : decode cX8_stepOf 11 = .ok (.aload_n 0, 1) := by decide +kernel
theorem dX8_stepOf_12 : decode cX8_stepOf 12 = .ok (.getfield 40, 3) := by decide +kernel
theorem dX8_stepOf_15 : decode cX8_stepOf 15 = .ok (.lload_n 1, 1) := by decide +kernel
theorem dX8_stepOf_16 : decode cX8_stepOf 16 = .ok (.aload_n 0, 1) := by decide +kernel
theorem dX8_stepOf_17 : decode cX8_stepOf 17 = .ok (.getfield 30, 3) := by decide +kernel
theorem dX8_stepOf_20 : decode cX8_stepOf 20 = .ok (.invokevirtual 146, 3) := by decide +kernel
theorem dX8_stepOf_23 : decode cX8_stepOf 23 = .ok (.aload_n 0, 1) := by decide +kernel
theorem dX8_stepOf_24 : decode cX8_stepOf 24 = .ok (.getfield 30, 3) := by decide +kernel
theorem dX8_stepOf_27 : decode cX8_stepOf 27 = .ok (.areturn, 1) := by decide +kernel
theorem dX8_dividedBy_0 : decode cX8_dividedBy 0 = .ok (.lload_n 1, 1) := by decide +kernel
theorem dX8_dividedBy_1 : decode cX8_dividedBy 1 = .ok (.lstore 4, 2) := by decide +kernel
theorem dX8_dividedBy_3 : decode cX8_dividedBy 3 = .ok (.iconst 0, 1) := by decide +kernel
theorem dX8_dividedBy_4 : decode cX8_dividedBy 4 = .ok (.istore 6, 2) := by decide +kernel
theorem dX8_dividedBy_6 : decode cX8_dividedBy 6 = .ok (.iload 6, 2) := by decide +kernel
theorem dX8_dividedBy_8 : decode cX8_dividedBy 8 = .ok (.aload_n 0, 1) := by decide +kernel
theorem dX8_dividedBy_9 : decode cX8_dividedBy 9 = .ok (.getfield 18, 3) := by decide +kernel
theorem dX8_dividedBy_12 : decode cX8_dividedBy 12 = .ok (.getfield 94, 3) := by decide +kernel
theorem dX8_dividedBy_15 : decode cX8_dividedBy 15 = .ok (.if_icmp .ge 39, 3) := by decide +kernel
theorem dX8_dividedBy_18 : decode cX8_dividedBy 18 = .ok (.iload_n 3, 1) := by decide +kernel
theorem dX8_dividedBy_19 : decode cX8_dividedBy 19 = .ok (.iload 6, 2) := by decide +kernel
theorem dX8_dividedBy_21 : decode cX8_dividedBy 21 = .ok (.iushr, 1) := by decide +kernel
theorem dX8_dividedBy_22 : decode cX8_dividedBy 22 = .ok (.iconst 1, 1) := by decide +kernel
theorem dX8_dividedBy_23 : decode cX8_dividedBy 23 = .ok (.iand, 1) := by decide +kernel
theorem dX8_dividedBy_24 : decode cX8_dividedBy 24 = .ok (.iconst 1, 1) := by decide +kernel
theorem dX8_dividedBy_25 : decode cX8_dividedBy 25 = .ok (.if_icmp .ne 23, 3) := by decide +kernel
theorem dX8_dividedBy_28 : decode cX8_dividedBy 28 = .ok (.lload 4, 2) := by decide +kernel
theorem dX8_dividedBy_30 : decode cX8_dividedBy 30 = .ok (.aload_n 0, 1) := by decide +kernel
theorem dX8_dividedBy_31 : decode cX8_dividedBy 31 = .ok (.getfield 18, 3) := by decide +kernel
theorem dX8_dividedBy_34 : decode cX8_dividedBy 34 = .ok (.getfield 97, 3) := by decide +kernel
theorem dX8_dividedBy_37 : decode cX8_dividedBy 37 = .ok (.iload 6, 2) := by decide +kernel
theorem dX8_dividedBy_39 : decode cX8_dividedBy 39 = .ok (.iaload, 1) := by decide +kernel
theorem dX8_dividedBy_40 : decode cX8_dividedBy 40 = .ok (.iconst 2, 1) := by decide +kernel
theorem dX8_dividedBy_41 : decode cX8_dividedBy 41 = .ok (.invokestatic 100, 3) := by decide +kernel
theorem dX8_dividedBy_44 : decode cX8_dividedBy 44 = .ok (.i2l, 1) := by decide +kernel
theorem dX8_dividedBy_45 : decode cX8_dividedBy 45 = .ok (.ldiv, 1) := by decide +kernel
theorem dX8_dividedBy_46 : decode cX8_dividedBy 46 = .ok (.lstore 4, 2) := by decide +kernel
theorem dX8_dividedBy_48 : decode cX8_dividedBy 48 = .ok (.iinc 6 1, 3) := by decide +kernel
theorem dX8_dividedBy_51 : decode cX8_dividedBy 51 = .ok (.goto (-45), 3) := by decide +kernel
theorem dX8_dividedBy_54 : decode cX8_dividedBy 54 = .ok (.lload 4, 2) := by decide +kernel
theorem dX8_dividedBy_56 : decode cX8_dividedBy 56 = .ok (.lreturn, 1) := by decide +kernel
theorem dX8_roundsModulo_0 : decode cX8_roundsModulo 0 = .ok (.aload_n 1, 1) := by decide +kernel
theorem dX8_roundsModulo_1 : decode cX8_roundsModulo 1 = .ok (.aload_n 0, 1) := by decide +kernel
theorem dX8_roundsModulo_2 : decode cX8_roundsModulo 2 = .ok (.getfield 40, 3) := by decide +kernel
theorem dX8_roundsModulo_5 : decode cX8_roundsModulo 5 = .ok (.getfield 117, 3) := by decide +kernel
theorem dX8_roundsModulo_8 : decode cX8_roundsModulo 8 = .ok (.invokevirtual 149, 3) := by decide +kernel
theorem dX8_roundsModulo_11 : decode cX8_roundsModulo 11 = .ok (.lstore_n 2, 1) := by decide +kernel
theorem dX8_roundsModulo_12 : decode cX8_roundsModulo 12 = .ok (.aload_n 1, 1) := by decide +kernel
theorem dX8_roundsModulo_13 : decode cX8_roundsModulo 13 = .ok (.aload_n 0, 1) := by decide +kernel
theorem dX8_roundsModulo_14 : decode cX8_roundsModulo 14 = .ok (.getfield 40, 3) := by decide +kernel
theorem dX8_roundsModulo_17 : decode cX8_roundsModulo 17 = .ok (.getfield 117, 3) := by decide +kernel
theorem dX8_roundsModulo_20 : decode cX8_roundsModulo 20 = .ok (.aload_n 0, 1) := by decide +kernel
theorem dX8_roundsModulo_21 : decode cX8_roundsModulo 21 = .ok (.getfield 18, 3) := by decide +kernel
theorem dX8_roundsModulo_24 : decode cX8_roundsModulo 24 = .ok (.invokevirtual 153, 3) := by decide +kernel
theorem dX8_roundsModulo_27 : decode cX8_roundsModulo 27 = .ok (.iconst 0, 1) := by decide +kernel
theorem dX8_roundsModulo_28 : decode cX8_roundsModulo 28 = .ok (.istore 4, 2) := by decide +kernel
theorem dX8_roundsModulo_30 : decode cX8_roundsModulo 30 = .ok (.iload 4, 2) := by decide +kernel
theorem dX8_roundsModulo_32 : decode cX8_roundsModulo 32 = .ok (.aload_n 0, 1) := by decide +kernel
theorem dX8_roundsModulo_33 : decode cX8_roundsModulo 33 = .ok (.getfield 18, 3) := by decide +kernel
theorem dX8_roundsModulo_36 : decode cX8_roundsModulo 36 = .ok (.getfield 94, 3) := by decide +kernel
theorem dX8_roundsModulo_39 : decode cX8_roundsModulo 39 = .ok (.if_icmp .ge 92, 3) := by decide +kernel
theorem dX8_roundsModulo_42 : decode cX8_roundsModulo 42 = .ok (.aload_n 0, 1) := by decide +kernel
theorem dX8_roundsModulo_43 : decode cX8_roundsModulo 43 = .ok (.getfield 18, 3) := by decide +kernel
theorem dX8_roundsModulo_46 : decode cX8_roundsModulo 46 = .ok (.getfield 97, 3) := by decide +kernel
theorem dX8_roundsModulo_49 : decode cX8_roundsModulo 49 = .ok (.iload 4, 2) := by decide +kernel
theorem dX8_roundsModulo_51 : decode cX8_roundsModulo 51 = .ok (.iaload, 1) := by decide +kernel
theorem dX8_roundsModulo_52 : decode cX8_roundsModulo 52 = .ok (.iconst 2, 1) := by decide +kernel
theorem dX8_roundsModulo_53 : decode cX8_roundsModulo 53 = .ok (.invokestatic 100, 3) := by decide +kernel
theorem dX8_roundsModulo_56 : decode cX8_roundsModulo 56 = .ok (.istore 5, 2) := by decide +kernel
theorem dX8_roundsModulo_58 : decode cX8_roundsModulo 58 = .ok (.iconst 0, 1) := by decide +kernel
theorem dX8_roundsModulo_59 : decode cX8_roundsModulo 59 = .ok (.istore 6, 2) := by decide +kernel
theorem dX8_roundsModulo_61 : decode cX8_roundsModulo 61 = .ok (.iload 6, 2) := by decide +kernel
theorem dX8_roundsModulo_63 : decode cX8_roundsModulo 63 = .ok (.bipush 64, 2) := by decide +kernel
theorem dX8_roundsModulo_65 : decode cX8_roundsModulo 65 = .ok (.if_icmp .ge 41, 3) := by decide +kernel
theorem dX8_roundsModulo_68 : decode cX8_roundsModulo 68 = .ok (.lload_n 2, 1) := by decide +kernel
theorem dX8_roundsModulo_69 : decode cX8_roundsModulo 69 = .ok (.iload 5, 2) := by decide +kernel
theorem dX8_roundsModulo_71 : decode cX8_roundsModulo 71 = .ok (.i2l, 1) := by decide +kernel
theorem dX8_roundsModulo_72 : decode cX8_roundsModulo 72 = .ok (.lrem, 1) := by decide +kernel
theorem dX8_roundsModulo_73 : decode cX8_roundsModulo 73 = .ok (.lconst 0, 1) := by decide +kernel
theorem dX8_roundsModulo_74 : decode cX8_roundsModulo 74 = .ok (.lcmp, 1) := by decide +kernel
theorem dX8_roundsModulo_75 : decode cX8_roundsModulo 75 = .ok (.ifCond .ne 31, 3) := by decide +kernel
theorem dX8_roundsModulo_78 : decode cX8_roundsModulo 78 = .ok (.aload_n 0, 1) := by decide +kernel
theorem dX8_roundsModulo_79 : decode cX8_roundsModulo 79 = .ok (.lload_n 2, 1) := by decide +kernel
theorem dX8_roundsModulo_80 : decode cX8_roundsModulo 80 = .ok (.iload 5, 2) := by decide +kernel
theorem dX8_roundsModulo_82 : decode cX8_roundsModulo 82 = .ok (.i2l, 1) := by decide +kernel
theorem dX8_roundsModulo_83 : decode cX8_roundsModulo 83 = .ok (.ldiv, 1) := by decide +kernel
theorem dX8_roundsModulo_84 : decode cX8_roundsModulo 84 = .ok (.aload_n 1, 1) := by decide +kernel
theorem dX8_roundsModulo_85 : decode cX8_roundsModulo 85 = .ok (.getfield 55, 3) := by decide +kernel
theorem dX8_roundsModulo_88 : decode cX8_roundsModulo 88 = .ok (.invokevirtual 157, 3) := by decide +kernel
theorem dX8_roundsModulo_91 : decode cX8_roundsModulo 91 = .ok (.ifCond .eq 15, 3) := by decide +kernel
theorem dX8_roundsModulo_94 : decode cX8_roundsModulo 94 = .ok (.lload_n 2, 1) := by decide +kernel
theorem dX8_roundsModulo_95 : decode cX8_roundsModulo 95 = .ok (.iload 5, 2) := by decide +kernel
theorem dX8_roundsModulo_97 : decode cX8_roundsModulo 97 = .ok (.i2l, 1) := by decide +kernel
theorem dX8_roundsModulo_98 : decode cX8_roundsModulo 98 = .ok (.ldiv, 1) := by decide +kernel
theorem dX8_roundsModulo_99 : decode cX8_roundsModulo 99 = .ok (.lstore_n 2, 1) := by decide +kernel
theorem dX8_roundsModulo_100 : decode cX8_roundsModulo 100 = .ok (.iinc 6 1, 3) := by decide +kernel
theorem dX8_roundsModulo_103 : decode cX8_roundsModulo 103 = .ok (.goto (-42), 3) := by decide +kernel
theorem dX8_roundsModulo_106 : decode cX8_roundsModulo 106 = .ok (.lload_n 2, 1) := by decide +kernel
theorem dX8_roundsModulo_107 : decode cX8_roundsModulo 107 = .ok (.iload 5, 2) := by decide +kernel
theorem dX8_roundsModulo_109 : decode cX8_roundsModulo 109 = .ok (.i2l, 1) := by decide +kernel
theorem dX8_roundsModulo_110 : decode cX8_roundsModulo 110 = .ok (.lrem, 1) := by decide +kernel
theorem dX8_roundsModulo_111 : decode cX8_roundsModulo 111 = .ok (.lconst 0, 1) := by decide +kernel
theorem dX8_roundsModulo_112 : decode cX8_roundsModulo 112 = .ok (.lcmp, 1) := by decide +kernel
theorem dX8_roundsModulo_113 : decode cX8_roundsModulo 113 = .ok (.ifCond .ne 12, 3) := by decide +kernel
theorem dX8_roundsModulo_116 : decode cX8_roundsModulo 116 = .ok (.aload_n 0, 1) := by decide +kernel
theorem dX8_roundsModulo_117 : decode cX8_roundsModulo 117 = .ok (.getfield 12, 3) := by decide +kernel
theorem dX8_roundsModulo_120 : decode cX8_roundsModulo 120 = .ok (.iload 5, 2) := by decide +kernel
theorem dX8_roundsModulo_122 : decode cX8_roundsModulo 122 = .ok (.invokevirtual 124, 3) := by decide +kernel
theorem dX8_roundsModulo_125 : decode cX8_roundsModulo 125 = .ok (.iinc 4 1, 3) := by decide +kernel
theorem dX8_roundsModulo_128 : decode cX8_roundsModulo 128 = .ok (.goto (-98), 3) := by decide +kernel
theorem dX8_roundsModulo_131 : decode cX8_roundsModulo 131 = .ok (.lload_n 2, 1) := by decide +kernel
theorem dX8_roundsModulo_132 : decode cX8_roundsModulo 132 = .ok (.lreturn, 1) := by decide +kernel
theorem dX8_settledComeBack_0 : decode cX8_settledComeBack 0 = .ok (.aload_n 0, 1) := by decide +kernel
theorem dX8_settledComeBack_1 : decode cX8_settledComeBack 1 = .ok (.getfield 40, 3) := by decide +kernel
theorem dX8_settledComeBack_4 : decode cX8_settledComeBack 4 = .ok (.invokevirtual 161, 3) := by decide +kernel
theorem dX8_settledComeBack_7 : decode cX8_settledComeBack 7 = .ok (.astore 4, 2) := by decide +kernel
theorem dX8_settledComeBack_9 : decode cX8_settledComeBack 9 = .ok (.aload 4, 2) := by decide +kernel
theorem dX8_settledComeBack_11 : decode cX8_settledComeBack 11 = .ok (.iconst 0, 1) := by decide +kernel
theorem dX8_settledComeBack_12 : decode cX8_settledComeBack 12 = .ok (.aload_n 0, 1) := by decide +kernel
theorem dX8_settledComeBack_13 : decode cX8_settledComeBack 13 = .ok (.getfield 30, 3) := by decide +kernel
theorem dX8_settledComeBack_16 : decode cX8_settledComeBack 16 = .ok (.iconst 0, 1) := by decide +kernel
theorem dX8_settledComeBack_17 : decode cX8_settledComeBack 17 = .ok (.bipush 20, 2) := by decide +kernel
theorem dX8_settledComeBack_19 : decode cX8_settledComeBack 19 = .ok (.invokestatic 165, 3) := by decide +kernel
theorem dX8_settledComeBack_22 : decode cX8_settledComeBack 22 = .ok (.aload_n 0, 1) := by decide +kernel
theorem dX8_settledComeBack_23 : decode cX8_settledComeBack 23 = .ok (.getfield 40, 3) := by decide +kernel
theorem dX8_settledComeBack_26 : decode cX8_settledComeBack 26 = .ok (.lload_n 1, 1) := by decide +kernel
theorem dX8_settledComeBack_27 : decode cX8_settledComeBack 27 = .ok (.aload_n 0, 1) := by decide +kernel
theorem dX8_settledComeBack_28 : decode cX8_settledComeBack 28 = .ok (.getfield 30, 3) := by decide +kernel
theorem dX8_settledComeBack_31 : decode cX8_settledComeBack 31 = .ok (.invokevirtual 146, 3) := by decide +kernel
theorem dX8_settledComeBack_34 : decode cX8_settledComeBack 34 = .ok (.aload_n 0, 1) := by decide +kernel
theorem dX8_settledComeBack_35 : decode cX8_settledComeBack 35 = .ok (.getfield 40, 3) := by decide +kernel
theorem dX8_settledComeBack_38 : decode cX8_settledComeBack 38 = .ok (.aload_n 0, 1) := by decide +kernel
theorem dX8_settledComeBack_39 : decode cX8_settledComeBack 39 = .ok (.getfield 30, 3) := by decide +kernel
theorem dX8_settledComeBack_42 : decode cX8_settledComeBack 42 = .ok (.aload 4, 2) := by decide +kernel
theorem dX8_settledComeBack_44 : decode cX8_settledComeBack 44 = .ok (.iload_n 3, 1) := by decide +kernel
theorem dX8_settledComeBack_45 : decode cX8_settledComeBack 45 = .ok (.invokevirtual 171, 3) := by decide +kernel
theorem dX8_settledComeBack_48 : decode cX8_settledComeBack 48 = .ok (.ireturn, 1) := by decide +kernel
theorem dX8_rowComesBack_0 : decode cX8_rowComesBack 0 = .ok (.aload_n 0, 1) := by decide +kernel
theorem dX8_rowComesBack_1 : decode cX8_rowComesBack 1 = .ok (.getfield 34, 3) := by decide +kernel
theorem dX8_rowComesBack_4 : decode cX8_rowComesBack 4 = .ok (.aload_n 0, 1) := by decide +kernel
theorem dX8_rowComesBack_5 : decode cX8_rowComesBack 5 = .ok (.getfield 37, 3) := by decide +kernel
theorem dX8_rowComesBack_8 : decode cX8_rowComesBack 8 = .ok (.invokestatic 80, 3) := by decide +kernel
theorem dX8_rowComesBack_11 : decode cX8_rowComesBack 11 = .ok (.aload_n 0, 1) := by decide +kernel
theorem dX8_rowComesBack_12 : decode cX8_rowComesBack 12 = .ok (.getfield 40, 3) := by decide +kernel
theorem dX8_rowComesBack_15 : decode cX8_rowComesBack 15 = .ok (.lload_n 1, 1) := by decide +kernel
theorem dX8_rowComesBack_16 : decode cX8_rowComesBack 16 = .ok (.aload_n 0, 1) := by decide +kernel
theorem dX8_rowComesBack_17 : decode cX8_rowComesBack 17 = .ok (.getfield 37, 3) := by decide +kernel
theorem dX8_rowComesBack_20 : decode cX8_rowComesBack 20 = .ok (.invokevirtual 84, 3) := by decide +kernel
theorem dX8_rowComesBack_23 : decode cX8_rowComesBack 23 = .ok (.aload_n 0, 1) := by decide +kernel
theorem dX8_rowComesBack_24 : decode cX8_rowComesBack 24 = .ok (.getfield 40, 3) := by decide +kernel
theorem dX8_rowComesBack_27 : decode cX8_rowComesBack 27 = .ok (.aload_n 0, 1) := by decide +kernel
theorem dX8_rowComesBack_28 : decode cX8_rowComesBack 28 = .ok (.getfield 34, 3) := by decide +kernel
theorem dX8_rowComesBack_31 : decode cX8_rowComesBack 31 = .ok (.aload_n 0, 1) := by decide +kernel
theorem dX8_rowComesBack_32 : decode cX8_rowComesBack 32 = .ok (.getfield 37, 3) := by decide +kernel
theorem dX8_rowComesBack_35 : decode cX8_rowComesBack 35 = .ok (.invokevirtual 88, 3) := by decide +kernel
theorem dX8_rowComesBack_38 : decode cX8_rowComesBack 38 = .ok (.ireturn, 1) := by decide +kernel
theorem dX8_copyRow_0 : decode cX8_copyRow 0 = .ok (.aload_n 0, 1) := by decide +kernel
theorem dX8_copyRow_1 : decode cX8_copyRow 1 = .ok (.iconst 0, 1) := by decide +kernel
theorem dX8_copyRow_2 : decode cX8_copyRow 2 = .ok (.aload_n 1, 1) := by decide +kernel
theorem dX8_copyRow_3 : decode cX8_copyRow 3 = .ok (.iconst 0, 1) := by decide +kernel
theorem dX8_copyRow_4 : decode cX8_copyRow 4 = .ok (.iconst 4, 1) := by decide +kernel
theorem dX8_copyRow_5 : decode cX8_copyRow 5 = .ok (.invokestatic 165, 3) := by decide +kernel
theorem dX8_copyRow_8 : decode cX8_copyRow 8 = .ok (.return_, 1) := by decide +kernel
theorem dX9_init_0 : decode cX9_init 0 = .ok (.aload_n 0, 1) := by decide +kernel
theorem dX9_init_1 : decode cX9_init 1 = .ok (.invokespecial 3, 3) := by decide +kernel
theorem dX9_init_4 : decode cX9_init 4 = .ok (.aload_n 0, 1) := by decide +kernel
theorem dX9_init_5 : decode cX9_init 5 = .ok (.bipush 65, 2) := by decide +kernel
theorem dX9_init_7 : decode cX9_init 7 = .ok (.newarray .int, 2) := by decide +kernel
theorem dX9_init_9 : decode cX9_init 9 = .ok (.putfield 9, 3) := by decide +kernel
theorem dX9_init_12 : decode cX9_init 12 = .ok (.aload_n 0, 1) := by decide +kernel
theorem dX9_init_13 : decode cX9_init 13 = .ok (.bipush 64, 2) := by decide +kernel
theorem dX9_init_15 : decode cX9_init 15 = .ok (.newarray .int, 2) := by decide +kernel
theorem dX9_init_17 : decode cX9_init 17 = .ok (.putfield 15, 3) := by decide +kernel
theorem dX9_init_20 : decode cX9_init 20 = .ok (.aload_n 0, 1) := by decide +kernel
theorem dX9_init_21 : decode cX9_init 21 = .ok (.bipush 65, 2) := by decide +kernel
theorem dX9_init_23 : decode cX9_init 23 = .ok (.newarray .int, 2) := by decide +kernel
theorem dX9_init_25 : decode cX9_init 25 = .ok (.putfield 18, 3) := by decide +kernel
theorem dX9_init_28 : decode cX9_init 28 = .ok (.aload_n 0, 1) := by decide +kernel
theorem dX9_init_29 : decode cX9_init 29 = .ok (.bipush 65, 2) := by decide +kernel
theorem dX9_init_31 : decode cX9_init 31 = .ok (.newarray .int, 2) := by decide +kernel
theorem dX9_init_33 : decode cX9_init 33 = .ok (.putfield 21, 3) := by decide +kernel
theorem dX9_init_36 : decode cX9_init 36 = .ok (.aload_n 0, 1) := by decide +kernel
theorem dX9_init_37 : decode cX9_init 37 = .ok (.bipush 65, 2) := by decide +kernel
theorem dX9_init_39 : decode cX9_init 39 = .ok (.newarray .int, 2) := by decide +kernel
theorem dX9_init_41 : decode cX9_init 41 = .ok (.putfield 24, 3) := by decide +kernel
theorem dX9_init_44 : decode cX9_init 44 = .ok (.aload_n 0, 1) := by decide +kernel
theorem dX9_init_45 : decode cX9_init 45 = .ok (.bipush 64, 2) := by decide +kernel
theorem dX9_init_47 : decode cX9_init 47 = .ok (.newarray .int, 2) := by decide +kernel
theorem dX9_init_49 : decode cX9_init 49 = .ok (.putfield 27, 3) := by decide +kernel
theorem dX9_init_52 : decode cX9_init 52 = .ok (.aload_n 0, 1) := by decide +kernel
theorem dX9_init_53 : decode cX9_init 53 = .ok (.bipush 64, 2) := by decide +kernel
theorem dX9_init_55 : decode cX9_init 55 = .ok (.bipush 65, 2) := by decide +kernel
theorem dX9_init_57 : decode cX9_init 57 = .ok (.multianewarray 30 2, 4) := by decide +kernel
theorem dX9_init_61 : decode cX9_init 61 = .ok (.putfield 32, 3) := by decide +kernel
theorem dX9_init_64 : decode cX9_init 64 = .ok (.aload_n 0, 1) := by decide +kernel
theorem dX9_init_65 : decode cX9_init 65 = .ok (.iconst 2, 1) := by decide +kernel
theorem dX9_init_66 : decode cX9_init 66 = .ok (.invokevirtual 35, 3) := by decide +kernel
theorem dX9_init_69 : decode cX9_init 69 = .ok (.return_, 1) := by decide +kernel
theorem dX9_clear_0 : decode cX9_clear 0 = .ok (.aload_n 0, 1) := by decide +kernel
theorem dX9_clear_1 : decode cX9_clear 1 = .ok (.iload_n 1, 1) := by decide +kernel
theorem dX9_clear_2 : decode cX9_clear 2 = .ok (.putfield 39, 3) := by decide +kernel
theorem dX9_clear_5 : decode cX9_clear 5 = .ok (.aload_n 0, 1) := by decide +kernel
theorem dX9_clear_6 : decode cX9_clear 6 = .ok (.iconst 0, 1) := by decide +kernel
theorem dX9_clear_7 : decode cX9_clear 7 = .ok (.putfield 43, 3) := by decide +kernel
theorem dX9_clear_10 : decode cX9_clear 10 = .ok (.aload_n 0, 1) := by decide +kernel
theorem dX9_clear_11 : decode cX9_clear 11 = .ok (.iconst 0, 1) := by decide +kernel
theorem dX9_clear_12 : decode cX9_clear 12 = .ok (.putfield 46, 3) := by decide +kernel
theorem dX9_clear_15 : decode cX9_clear 15 = .ok (.aload_n 0, 1) := by decide +kernel
theorem dX9_clear_16 : decode cX9_clear 16 = .ok (.iconst 1, 1) := by decide +kernel
theorem dX9_clear_17 : decode cX9_clear 17 = .ok (.putfield 49, 3) := by decide +kernel
theorem dX9_clear_20 : decode cX9_clear 20 = .ok (.aload_n 0, 1) := by decide +kernel
theorem dX9_clear_21 : decode cX9_clear 21 = .ok (.iconst 1, 1) := by decide +kernel
theorem dX9_clear_22 : decode cX9_clear 22 = .ok (.putfield 52, 3) := by decide +kernel
theorem dX9_clear_25 : decode cX9_clear 25 = .ok (.aload_n 0, 1) := by decide +kernel
theorem dX9_clear_26 : decode cX9_clear 26 = .ok (.iconst 0, 1) := by decide +kernel
theorem dX9_clear_27 : decode cX9_clear 27 = .ok (.putfield 55, 3) := by decide +kernel
theorem dX9_clear_30 : decode cX9_clear 30 = .ok (.aload_n 0, 1) := by decide +kernel
theorem dX9_clear_31 : decode cX9_clear 31 = .ok (.getfield 18, 3) := by decide +kernel
theorem dX9_clear_34 : decode cX9_clear 34 = .ok (.iconst 0, 1) := by decide +kernel
theorem dX9_clear_35 : decode cX9_clear 35 = .ok (.invokestatic 59, 3) := by decide +kernel
theorem dX9_clear_38 : decode cX9_clear 38 = .ok (.aload_n 0, 1) := by decide +kernel
theorem dX9_clear_39 : decode cX9_clear 39 = .ok (.getfield 21, 3) := by decide +kernel
theorem dX9_clear_42 : decode cX9_clear 42 = .ok (.iconst 0, 1) := by decide +kernel
theorem dX9_clear_43 : decode cX9_clear 43 = .ok (.invokestatic 59, 3) := by decide +kernel
theorem dX9_clear_46 : decode cX9_clear 46 = .ok (.aload_n 0, 1) := by decide +kernel
theorem dX9_clear_47 : decode cX9_clear 47 = .ok (.getfield 18, 3) := by decide +kernel
theorem dX9_clear_50 : decode cX9_clear 50 = .ok (.iconst 0, 1) := by decide +kernel
theorem dX9_clear_51 : decode cX9_clear 51 = .ok (.iconst 1, 1) := by decide +kernel
theorem dX9_clear_52 : decode cX9_clear 52 = .ok (.iastore, 1) := by decide +kernel
theorem dX9_clear_53 : decode cX9_clear 53 = .ok (.aload_n 0, 1) := by decide +kernel
theorem dX9_clear_54 : decode cX9_clear 54 = .ok (.getfield 21, 3) := by decide +kernel
theorem dX9_clear_57 : decode cX9_clear 57 = .ok (.iconst 0, 1) := by decide +kernel
theorem dX9_clear_58 : decode cX9_clear 58 = .ok (.iconst 1, 1) := by decide +kernel
theorem dX9_clear_59 : decode cX9_clear 59 = .ok (.iastore, 1) := by decide +kernel
theorem dX9_clear_60 : decode cX9_clear 60 = .ok (.return_, 1) := by decide +kernel
theorem dX9_add_0 : decode cX9_add 0 = .ok (.aload_n 0, 1) := by decide +kernel
theorem dX9_add_1 : decode cX9_add 1 = .ok (.getfield 43, 3) := by decide +kernel
theorem dX9_add_4 : decode cX9_add 4 = .ok (.aload_n 0, 1) := by decide +kernel
theorem dX9_add_5 : decode cX9_add 5 = .ok (.getfield 15, 3) := by decide +kernel
theorem dX9_add_8 : decode cX9_add 8 = .ok (.arraylength, 1) := by decide +kernel
theorem dX9_add_9 : decode cX9_add 9 = .ok (.if_icmp .lt 5, 3) := by decide +kernel
theorem dX9_add_12 : decode cX9_add 12 = .ok (.iconst 0, 1) := by decide +kernel
theorem dX9_add_13 : decode cX9_add 13 = .ok (.ireturn, 1) := by decide +kernel
theorem dX9_add_14 : decode cX9_add 14 = .ok (.aload_n 0, 1) := by decide +kernel
theorem dX9_add_15 : decode cX9_add 15 = .ok (.getfield 15, 3) := by decide +kernel
theorem dX9_add_18 : decode cX9_add 18 = .ok (.aload_n 0, 1) := by decide +kernel
theorem dX9_add_19 : decode cX9_add 19 = .ok (.getfield 43, 3) := by decide +kernel
theorem dX9_add_22 : decode cX9_add 22 = .ok (.iload_n 1, 1) := by decide +kernel
theorem dX9_add_23 : decode cX9_add 23 = .ok (.i2l, 1) := by decide +kernel
theorem dX9_add_24 : decode cX9_add 24 = .ok (.aload_n 0, 1) := by decide +kernel
theorem dX9_add_25 : decode cX9_add 25 = .ok (.getfield 39, 3) := by decide +kernel
theorem dX9_add_28 : decode cX9_add 28 = .ok (.invokestatic 65, 3) := by decide +kernel
theorem dX9_add_31 : decode cX9_add 31 = .ok (.iastore, 1) := by decide +kernel
theorem dX9_add_32 : decode cX9_add 32 = .ok (.aload_n 0, 1) := by decide +kernel
theorem dX9_add_33 : decode cX9_add 33 = .ok (.dup, 1) := by decide +kernel
theorem dX9_add_34 : decode cX9_add 34 = .ok (.getfield 43, 3) := by decide +kernel
theorem dX9_add_37 : decode cX9_add 37 = .ok (.iconst 1, 1) := by decide +kernel
theorem dX9_add_38 : decode cX9_add 38 = .ok (.iadd, 1) := by decide +kernel
theorem dX9_add_39 : decode cX9_add 39 = .ok (.putfield 43, 3) := by decide +kernel
theorem dX9_add_42 : decode cX9_add 42 = .ok (.aload_n 0, 1) := by decide +kernel
theorem dX9_add_43 : decode cX9_add 43 = .ok (.iconst 0, 1) := by decide +kernel
theorem dX9_add_44 : decode cX9_add 44 = .ok (.putfield 55, 3) := by decide +kernel
theorem dX9_add_47 : decode cX9_add 47 = .ok (.aload_n 0, 1) := by decide +kernel
theorem dX9_add_48 : decode cX9_add 48 = .ok (.invokevirtual 71, 3) := by decide +kernel
theorem dX9_add_51 : decode cX9_add 51 = .ok (.iconst 1, 1) := by decide +kernel
theorem dX9_add_52 : decode cX9_add 52 = .ok (.ireturn, 1) := by decide +kernel
theorem dX9_lengthen_0 : decode cX9_lengthen 0 = .ok (.aload_n 0, 1) := by decide +kernel
theorem dX9_lengthen_1 : decode cX9_lengthen 1 = .ok (.getfield 43, 3) := by decide +kernel
theorem dX9_lengthen_4 : decode cX9_lengthen 4 = .ok (.iconst 1, 1) := by decide +kernel
theorem dX9_lengthen_5 : decode cX9_lengthen 5 = .ok (.isub, 1) := by decide +kernel
theorem dX9_lengthen_6 : decode cX9_lengthen 6 = .ok (.istore_n 1, 1) := by decide +kernel
theorem dX9_lengthen_7 : decode cX9_lengthen 7 = .ok (.lconst 0, 1) := by decide +kernel
theorem dX9_lengthen_8 : decode cX9_lengthen 8 = .ok (.lstore_n 2, 1) := by decide +kernel
theorem dX9_lengthen_9 : decode cX9_lengthen 9 = .ok (.iconst 0, 1) := by decide +kernel
theorem dX9_lengthen_10 : decode cX9_lengthen 10 = .ok (.istore 4, 2) := by decide +kernel
theorem dX9_lengthen_12 : decode cX9_lengthen 12 = .ok (.iload 4, 2) := by decide +kernel
theorem dX9_lengthen_14 : decode cX9_lengthen 14 = .ok (.aload_n 0, 1) := by decide +kernel
theorem dX9_lengthen_15 : decode cX9_lengthen 15 = .ok (.getfield 46, 3) := by decide +kernel
theorem dX9_lengthen_18 : decode cX9_lengthen 18 = .ok (.if_icmp .gt 37, 3) := by decide +kernel
theorem dX9_lengthen_21 : decode cX9_lengthen 21 = .ok (.iload 4, 2) := by decide +kernel
theorem dX9_lengthen_23 : decode cX9_lengthen 23 = .ok (.iload_n 1, 1) := by decide +kernel
theorem dX9_lengthen_24 : decode cX9_lengthen 24 = .ok (.if_icmp .gt 31, 3) := by decide +kernel
theorem dX9_lengthen_27 : decode cX9_lengthen 27 = .ok (.lload_n 2, 1) := by decide +kernel
theorem dX9_lengthen_28 : decode cX9_lengthen 28 = .ok (.aload_n 0, 1) := by decide +kernel
theorem dX9_lengthen_29 : decode cX9_lengthen 29 = .ok (.getfield 18, 3) := by decide +kernel
theorem dX9_lengthen_32 : decode cX9_lengthen 32 = .ok (.iload 4, 2) := by decide +kernel
theorem dX9_lengthen_34 : decode cX9_lengthen 34 = .ok (.iaload, 1) := by decide +kernel
theorem dX9_lengthen_35 : decode cX9_lengthen 35 = .ok (.i2l, 1) := by decide +kernel
theorem dX9_lengthen_36 : decode cX9_lengthen 36 = .ok (.aload_n 0, 1) := by decide +kernel
theorem dX9_lengthen_37 : decode cX9_lengthen 37 = .ok (.getfield 15, 3) := by decide +kernel
theorem dX9_lengthen_40 : decode cX9_lengthen 40 = .ok (.iload_n 1, 1) := by decide +kernel
theorem dX9_lengthen_41 : decode cX9_lengthen 41 = .ok (.iload 4, 2) := by decide +kernel
theorem dX9_lengthen_43 : decode cX9_lengthen 43 = .ok (.isub, 1) := by decide +kernel
theorem dX9_lengthen_44 : decode cX9_lengthen 44 = .ok (.iaload, 1) := by decide +kernel
theorem dX9_lengthen_45 : decode cX9_lengthen 45 = .ok (.i2l, 1) := by decide +kernel
theorem dX9_lengthen_46 : decode cX9_lengthen 46 = .ok (.lmul, 1) := by decide +kernel
theorem dX9_lengthen_47 : decode cX9_lengthen 47 = .ok (.ladd, 1) := by decide +kernel
theorem dX9_lengthen_48 : decode cX9_lengthen 48 = .ok (.lstore_n 2, 1) := by decide +kernel
theorem dX9_lengthen_49 : decode cX9_lengthen 49 = .ok (.iinc 4 1, 3) := by decide +kernel
theorem dX9_lengthen_52 : decode cX9_lengthen 52 = .ok (.goto (-40), 3) := by decide +kernel
theorem dX9_lengthen_55 : decode cX9_lengthen 55 = .ok (.lload_n 2, 1) := by decide +kernel
theorem dX9_lengthen_56 : decode cX9_lengthen 56 = .ok (.aload_n 0, 1) := by decide +kernel
theorem dX9_lengthen_57 : decode cX9_lengthen 57 = .ok (.getfield 39, 3) := by decide +kernel
theorem dX9_lengthen_60 : decode cX9_lengthen 60 = .ok (.invokestatic 65, 3) := by decide +kernel
theorem dX9_lengthen_63 : decode cX9_lengthen 63 = .ok (.istore 4, 2) := by decide +kernel
theorem dX9_lengthen_65 : decode cX9_lengthen 65 = .ok (.iload 4, 2) := by decide +kernel
theorem dX9_lengthen_67 : decode cX9_lengthen 67 = .ok (.ifCond .ne 14, 3) := by decide +kernel
theorem dX9_lengthen_70 : decode cX9_lengthen 70 = .ok (.aload_n 0, 1) := by decide +kernel
theorem dX9_lengthen_71 : decode cX9_lengthen 71 = .ok (.dup, 1) := by decide +kernel
theorem dX9_lengthen_72 : decode cX9_lengthen 72 = .ok (.getfield 49, 3) := by decide +kernel
theorem dX9_lengthen_75 : decode cX9_lengthen 75 = .ok (.iconst 1, 1) := by decide +kernel
theorem dX9_lengthen_76 : decode cX9_lengthen 76 = .ok (.iadd, 1) := by decide +kernel
theorem dX9_lengthen_77 : decode cX9_lengthen 77 = .ok (.putfield 49, 3) := by decide +kernel
theorem dX9_lengthen_80 : decode cX9_lengthen 80 = .ok (.return_, 1) := by decide +kernel
theorem dX9_lengthen_81 : decode cX9_lengthen 81 = .ok (.aload_n 0, 1) := by decide +kernel
theorem dX9_lengthen_82 : decode cX9_lengthen 82 = .ok (.getfield 18, 3) := by decide +kernel
theorem dX9_lengthen_85 : decode cX9_lengthen 85 = .ok (.iconst 0, 1) := by decide +kernel
theorem dX9_lengthen_86 : decode cX9_lengthen 86 = .ok (.aload_n 0, 1) := by decide +kernel
theorem dX9_lengthen_87 : decode cX9_lengthen 87 = .ok (.getfield 24, 3) := by decide +kernel
theorem dX9_lengthen_90 : decode cX9_lengthen 90 = .ok (.iconst 0, 1) := by decide +kernel
theorem dX9_lengthen_91 : decode cX9_lengthen 91 = .ok (.aload_n 0, 1) := by decide +kernel
theorem dX9_lengthen_92 : decode cX9_lengthen 92 = .ok (.getfield 18, 3) := by decide +kernel
theorem dX9_lengthen_95 : decode cX9_lengthen 95 = .ok (.arraylength, 1) := by decide +kernel
theorem dX9_lengthen_96 : decode cX9_lengthen 96 = .ok (.invokestatic 74, 3) := by decide +kernel
theorem dX9_lengthen_99 : decode cX9_lengthen 99 = .ok (.iload 4, 2) := by decide +kernel
theorem dX9_lengthen_101 : decode cX9_lengthen 101 = .ok (.i2l, 1) := by decide +kernel
theorem dX9_lengthen_102 : decode cX9_lengthen 102 = .ok (.aload_n 0, 1) := by decide +kernel
theorem dX9_lengthen_103 : decode cX9_lengthen 103 = .ok (.getfield 52, 3) := by decide +kernel
theorem dX9_lengthen_106 : decode cX9_lengthen 106 = .ok (.aload_n 0, 1) := by decide +kernel
theorem dX9_lengthen_107 : decode cX9_lengthen 107 = .ok (.getfield 39, 3) := by decide +kernel
theorem dX9_lengthen_110 : decode cX9_lengthen 110 = .ok (.invokestatic 80, 3) := by decide +kernel
theorem dX9_lengthen_113 : decode cX9_lengthen 113 = .ok (.i2l, 1) := by decide +kernel
theorem dX9_lengthen_114 : decode cX9_lengthen 114 = .ok (.lmul, 1) := by decide +kernel
theorem dX9_lengthen_115 : decode cX9_lengthen 115 = .ok (.lstore 5, 2) := by decide +kernel
theorem dX9_lengthen_117 : decode cX9_lengthen 117 = .ok (.iconst 0, 1) := by decide +kernel
theorem dX9_lengthen_118 : decode cX9_lengthen 118 = .ok (.istore 7, 2) := by decide +kernel
theorem dX9_lengthen_120 : decode cX9_lengthen 120 = .ok (.iload 7, 2) := by decide +kernel
theorem dX9_lengthen_122 : decode cX9_lengthen 122 = .ok (.aload_n 0, 1) := by decide +kernel
theorem dX9_lengthen_123 : decode cX9_lengthen 123 = .ok (.getfield 49, 3) := by decide +kernel
theorem dX9_lengthen_126 : decode cX9_lengthen 126 = .ok (.iadd, 1) := by decide +kernel
theorem dX9_lengthen_127 : decode cX9_lengthen 127 = .ok (.aload_n 0, 1) := by decide +kernel
theorem dX9_lengthen_128 : decode cX9_lengthen 128 = .ok (.getfield 18, 3) := by decide +kernel
theorem dX9_lengthen_131 : decode cX9_lengthen 131 = .ok (.arraylength, 1) := by decide +kernel
theorem dX9_lengthen_132 : decode cX9_lengthen 132 = .ok (.if_icmp .ge 53, 3) := by decide +kernel
theorem dX9_lengthen_135 : decode cX9_lengthen 135 = .ok (.aload_n 0, 1) := by decide +kernel
theorem dX9_lengthen_136 : decode cX9_lengthen 136 = .ok (.getfield 18, 3) := by decide +kernel
theorem dX9_lengthen_139 : decode cX9_lengthen 139 = .ok (.iload 7, 2) := by decide +kernel
theorem dX9_lengthen_141 : decode cX9_lengthen 141 = .ok (.aload_n 0, 1) := by decide +kernel
theorem dX9_lengthen_142 : decode cX9_lengthen 142 = .ok (.getfield 49, 3) := by decide +kernel
theorem dX9_lengthen_145 : decode cX9_lengthen 145 = .ok (.iadd, 1) := by decide +kernel
theorem dX9_lengthen_146 : decode cX9_lengthen 146 = .ok (.aload_n 0, 1) := by decide +kernel
theorem dX9_lengthen_147 : decode cX9_lengthen 147 = .ok (.getfield 18, 3) := by decide +kernel
theorem dX9_lengthen_150 : decode cX9_lengthen 150 = .ok (.iload 7, 2) := by decide +kernel
theorem dX9_lengthen_152 : decode cX9_lengthen 152 = .ok (.aload_n 0, 1) := by decide +kernel
theorem dX9_lengthen_153 : decode cX9_lengthen 153 = .ok (.getfield 49, 3) := by decide +kernel
theorem dX9_lengthen_156 : decode cX9_lengthen 156 = .ok (.iadd, 1) := by decide +kernel
theorem dX9_lengthen_157 : decode cX9_lengthen 157 = .ok (.iaload, 1) := by decide +kernel
theorem dX9_lengthen_158 : decode cX9_lengthen 158 = .ok (.i2l, 1) := by decide +kernel
theorem dX9_lengthen_159 : decode cX9_lengthen 159 = .ok (.lload 5, 2) := by decide +kernel
theorem dX9_lengthen_161 : decode cX9_lengthen 161 = .ok (.aload_n 0, 1) := by decide +kernel
theorem dX9_lengthen_162 : decode cX9_lengthen 162 = .ok (.getfield 21, 3) := by decide +kernel
theorem dX9_lengthen_165 : decode cX9_lengthen 165 = .ok (.iload 7, 2) := by decide +kernel
theorem dX9_lengthen_167 : decode cX9_lengthen 167 = .ok (.iaload, 1) := by decide +kernel
theorem dX9_lengthen_168 : decode cX9_lengthen 168 = .ok (.i2l, 1) := by decide +kernel
theorem dX9_lengthen_169 : decode cX9_lengthen 169 = .ok (.lmul, 1) := by decide +kernel
theorem dX9_lengthen_170 : decode cX9_lengthen 170 = .ok (.lsub, 1) := by decide +kernel
theorem dX9_lengthen_171 : decode cX9_lengthen 171 = .ok (.aload_n 0, 1) := by decide +kernel
theorem dX9_lengthen_172 : decode cX9_lengthen 172 = .ok (.getfield 39, 3) := by decide +kernel
theorem dX9_lengthen_175 : decode cX9_lengthen 175 = .ok (.invokestatic 65, 3) := by decide +kernel
theorem dX9_lengthen_178 : decode cX9_lengthen 178 = .ok (.iastore, 1) := by decide +kernel
theorem dX9_lengthen_179 : decode cX9_lengthen 179 = .ok (.iinc 7 1, 3) := by decide +kernel
theorem dX9_lengthen_182 : decode cX9_lengthen 182 = .ok (.goto (-62), 3) := by decide +kernel
theorem dX9_lengthen_185 : decode cX9_lengthen 185 = .ok (.aload_n 0, 1) := by decide +kernel
theorem dX9_lengthen_186 : decode cX9_lengthen 186 = .ok (.dup, 1) := by decide +kernel
theorem dX9_lengthen_187 : decode cX9_lengthen 187 = .ok (.getfield 49, 3) := by decide +kernel
theorem dX9_lengthen_190 : decode cX9_lengthen 190 = .ok (.iconst 1, 1) := by decide +kernel
theorem dX9_lengthen_191 : decode cX9_lengthen 191 = .ok (.iadd, 1) := by decide +kernel
theorem dX9_lengthen_192 : decode cX9_lengthen 192 = .ok (.putfield 49, 3) := by decide +kernel
theorem dX9_lengthen_195 : decode cX9_lengthen 195 = .ok (.iconst 2, 1) := by decide +kernel
theorem dX9_lengthen_196 : decode cX9_lengthen 196 = .ok (.aload_n 0, 1) := by decide +kernel
theorem dX9_lengthen_197 : decode cX9_lengthen 197 = .ok (.getfield 46, 3) := by decide +kernel
theorem dX9_lengthen_200 : decode cX9_lengthen 200 = .ok (.imul, 1) := by decide +kernel
theorem dX9_lengthen_201 : decode cX9_lengthen 201 = .ok (.iload_n 1, 1) := by decide +kernel
theorem dX9_lengthen_202 : decode cX9_lengthen 202 = .ok (.if_icmp .gt 45, 3) := by decide +kernel
theorem dX9_lengthen_205 : decode cX9_lengthen 205 = .ok (.aload_n 0, 1) := by decide +kernel
theorem dX9_lengthen_206 : decode cX9_lengthen 206 = .ok (.aload_n 0, 1) := by decide +kernel
theorem dX9_lengthen_207 : decode cX9_lengthen 207 = .ok (.getfield 43, 3) := by decide +kernel
theorem dX9_lengthen_210 : decode cX9_lengthen 210 = .ok (.aload_n 0, 1) := by decide +kernel
theorem dX9_lengthen_211 : decode cX9_lengthen 211 = .ok (.getfield 46, 3) := by decide +kernel
theorem dX9_lengthen_214 : decode cX9_lengthen 214 = .ok (.isub, 1) := by decide +kernel
theorem dX9_lengthen_215 : decode cX9_lengthen 215 = .ok (.putfield 46, 3) := by decide +kernel
theorem dX9_lengthen_218 : decode cX9_lengthen 218 = .ok (.aload_n 0, 1) := by decide +kernel
theorem dX9_lengthen_219 : decode cX9_lengthen 219 = .ok (.getfield 24, 3) := by decide +kernel
theorem dX9_lengthen_222 : decode cX9_lengthen 222 = .ok (.iconst 0, 1) := by decide +kernel
theorem dX9_lengthen_223 : decode cX9_lengthen 223 = .ok (.aload_n 0, 1) := by decide +kernel
theorem dX9_lengthen_224 : decode cX9_lengthen 224 = .ok (.getfield 21, 3) := by decide +kernel
theorem dX9_lengthen_227 : decode cX9_lengthen 227 = .ok (.iconst 0, 1) := by decide +kernel
theorem dX9_lengthen_228 : decode cX9_lengthen 228 = .ok (.aload_n 0, 1) := by decide +kernel
theorem dX9_lengthen_229 : decode cX9_lengthen 229 = .ok (.getfield 18, 3) := by decide +kernel
theorem dX9_lengthen_232 : decode cX9_lengthen 232 = .ok (.arraylength, 1) := by decide +kernel
theorem dX9_lengthen_233 : decode cX9_lengthen 233 = .ok (.invokestatic 74, 3) := by decide +kernel
theorem dX9_lengthen_236 : decode cX9_lengthen 236 = .ok (.aload_n 0, 1) := by decide +kernel
theorem dX9_lengthen_237 : decode cX9_lengthen 237 = .ok (.iload 4, 2) := by decide +kernel
theorem dX9_lengthen_239 : decode cX9_lengthen 239 = .ok (.putfield 52, 3) := by decide +kernel
theorem dX9_lengthen_242 : decode cX9_lengthen 242 = .ok (.aload_n 0, 1) := by decide +kernel
theorem dX9_lengthen_243 : decode cX9_lengthen 243 = .ok (.iconst 1, 1) := by decide +kernel
theorem dX9_lengthen_244 : decode cX9_lengthen 244 = .ok (.putfield 49, 3) := by decide +kernel
theorem dX9_lengthen_247 : decode cX9_lengthen 247 = .ok (.return_, 1) := by decide +kernel
theorem dX9_findNumbers_0 : decode cX9_findNumbers 0 = .ok (.aload_n 0, 1) := by decide +kernel
theorem dX9_findNumbers_1 : decode cX9_findNumbers 1 = .ok (.getfield 55, 3) := by decide +kernel
theorem dX9_findNumbers_4 : decode cX9_findNumbers 4 = .ok (.ifCond .eq 4, 3) := by decide +kernel
theorem dX9_findNumbers_7 : decode cX9_findNumbers 7 = .ok (.return_, 1) := by decide +kernel
theorem dX9_findNumbers_8 : decode cX9_findNumbers 8 = .ok (.aload_n 0, 1) := by decide +kernel
theorem dX9_findNumbers_9 : decode cX9_findNumbers 9 = .ok (.iconst 1, 1) := by decide +kernel
theorem dX9_findNumbers_10 : decode cX9_findNumbers 10 = .ok (.putfield 55, 3) := by decide +kernel
theorem dX9_findNumbers_13 : decode cX9_findNumbers 13 = .ok (.iconst 0, 1) := by decide +kernel
theorem dX9_findNumbers_14 : decode cX9_findNumbers 14 = .ok (.istore_n 1, 1) := by decide +kernel
theorem dX9_findNumbers_15 : decode cX9_findNumbers 15 = .ok (.iload_n 1, 1) := by decide +kernel
theorem dX9_findNumbers_16 : decode cX9_findNumbers 16 = .ok (.aload_n 0, 1) := by decide +kernel
theorem dX9_findNumbers_17 : decode cX9_findNumbers 17 = .ok (.getfield 46, 3) := by decide +kernel
theorem dX9_findNumbers_20 : decode cX9_findNumbers 20 = .ok (.iadd, 1) := by decide +kernel
theorem dX9_findNumbers_21 : decode cX9_findNumbers 21 = .ok (.aload_n 0, 1) := by decide +kernel
theorem dX9_findNumbers_22 : decode cX9_findNumbers 22 = .ok (.getfield 43, 3) := by decide +kernel
theorem dX9_findNumbers_25 : decode cX9_findNumbers 25 = .ok (.if_icmp .ge 30, 3) := by decide +kernel
theorem dX9_findNumbers_28 : decode cX9_findNumbers 28 = .ok (.aload_n 0, 1) := by decide +kernel
theorem dX9_findNumbers_29 : decode cX9_findNumbers 29 = .ok (.getfield 15, 3) := by decide +kernel
theorem dX9_findNumbers_32 : decode cX9_findNumbers 32 = .ok (.iload_n 1, 1) := by decide +kernel
theorem dX9_findNumbers_33 : decode cX9_findNumbers 33 = .ok (.aload_n 0, 1) := by decide +kernel
theorem dX9_findNumbers_34 : decode cX9_findNumbers 34 = .ok (.getfield 32, 3) := by decide +kernel
theorem dX9_findNumbers_37 : decode cX9_findNumbers 37 = .ok (.iload_n 1, 1) := by decide +kernel
theorem dX9_findNumbers_38 : decode cX9_findNumbers 38 = .ok (.aaload, 1) := by decide +kernel
theorem dX9_findNumbers_39 : decode cX9_findNumbers 39 = .ok (.iconst 0, 1) := by decide +kernel
theorem dX9_findNumbers_40 : decode cX9_findNumbers 40 = .ok (.aload_n 0, 1) := by decide +kernel
theorem dX9_findNumbers_41 : decode cX9_findNumbers 41 = .ok (.getfield 46, 3) := by decide +kernel
theorem dX9_findNumbers_44 : decode cX9_findNumbers 44 = .ok (.iconst 1, 1) := by decide +kernel
theorem dX9_findNumbers_45 : decode cX9_findNumbers 45 = .ok (.iadd, 1) := by decide +kernel
theorem dX9_findNumbers_46 : decode cX9_findNumbers 46 = .ok (.invokestatic 74, 3) := by decide +kernel
theorem dX9_findNumbers_49 : decode cX9_findNumbers 49 = .ok (.iinc 1 1, 3) := by decide +kernel
theorem dX9_findNumbers_52 : decode cX9_findNumbers 52 = .ok (.goto (-37), 3) := by decide +kernel
theorem dX9_findNumbers_55 : decode cX9_findNumbers 55 = .ok (.iconst 0, 1) := by decide +kernel
theorem dX9_findNumbers_56 : decode cX9_findNumbers 56 = .ok (.istore_n 1, 1) := by decide +kernel
theorem dX9_findNumbers_57 : decode cX9_findNumbers 57 = .ok (.iconst 0, 1) := by decide +kernel
theorem dX9_findNumbers_58 : decode cX9_findNumbers 58 = .ok (.istore_n 2, 1) := by decide +kernel
theorem dX9_findNumbers_59 : decode cX9_findNumbers 59 = .ok (.iload_n 2, 1) := by decide +kernel
theorem dX9_findNumbers_60 : decode cX9_findNumbers 60 = .ok (.aload_n 0, 1) := by decide +kernel
theorem dX9_findNumbers_61 : decode cX9_findNumbers 61 = .ok (.getfield 46, 3) := by decide +kernel
theorem dX9_findNumbers_64 : decode cX9_findNumbers 64 = .ok (.if_icmp .ge 58, 3) := by decide +kernel
theorem dX9_findNumbers_67 : decode cX9_findNumbers 67 = .ok (.aload_n 0, 1) := by decide +kernel
theorem dX9_findNumbers_68 : decode cX9_findNumbers 68 = .ok (.getfield 27, 3) := by decide +kernel
theorem dX9_findNumbers_71 : decode cX9_findNumbers 71 = .ok (.iload_n 2, 1) := by decide +kernel
theorem dX9_findNumbers_72 : decode cX9_findNumbers 72 = .ok (.aload_n 0, 1) := by decide +kernel
theorem dX9_findNumbers_73 : decode cX9_findNumbers 73 = .ok (.iload_n 1, 1) := by decide +kernel
theorem dX9_findNumbers_74 : decode cX9_findNumbers 74 = .ok (.iload_n 2, 1) := by decide +kernel
theorem dX9_findNumbers_75 : decode cX9_findNumbers 75 = .ok (.invokevirtual 84, 3) := by decide +kernel
theorem dX9_findNumbers_78 : decode cX9_findNumbers 78 = .ok (.iastore, 1) := by decide +kernel
theorem dX9_findNumbers_79 : decode cX9_findNumbers 79 = .ok (.aload_n 0, 1) := by decide +kernel
theorem dX9_findNumbers_80 : decode cX9_findNumbers 80 = .ok (.getfield 27, 3) := by decide +kernel
theorem dX9_findNumbers_83 : decode cX9_findNumbers 83 = .ok (.iload_n 2, 1) := by decide +kernel
theorem dX9_findNumbers_84 : decode cX9_findNumbers 84 = .ok (.iaload, 1) := by decide +kernel
theorem dX9_findNumbers_85 : decode cX9_findNumbers 85 = .ok (.iconst (-1), 1) := by decide +kernel
theorem dX9_findNumbers_86 : decode cX9_findNumbers 86 = .ok (.if_icmp .eq 30, 3) := by decide +kernel
theorem dX9_findNumbers_89 : decode cX9_findNumbers 89 = .ok (.aload_n 0, 1) := by decide +kernel
theorem dX9_findNumbers_90 : decode cX9_findNumbers 90 = .ok (.iload_n 1, 1) := by decide +kernel
theorem dX9_findNumbers_91 : decode cX9_findNumbers 91 = .ok (.aload_n 0, 1) := by decide +kernel
theorem dX9_findNumbers_92 : decode cX9_findNumbers 92 = .ok (.getfield 27, 3) := by decide +kernel
theorem dX9_findNumbers_95 : decode cX9_findNumbers 95 = .ok (.iload_n 2, 1) := by decide +kernel
theorem dX9_findNumbers_96 : decode cX9_findNumbers 96 = .ok (.iaload, 1) := by decide +kernel
theorem dX9_findNumbers_97 : decode cX9_findNumbers 97 = .ok (.invokevirtual 87, 3) := by decide +kernel
theorem dX9_findNumbers_100 : decode cX9_findNumbers 100 = .ok (.aload_n 0, 1) := by decide +kernel
theorem dX9_findNumbers_101 : decode cX9_findNumbers 101 = .ok (.iload_n 1, 1) := by decide +kernel
theorem dX9_findNumbers_102 : decode cX9_findNumbers 102 = .ok (.iload_n 2, 1) := by decide +kernel
theorem dX9_findNumbers_103 : decode cX9_findNumbers 103 = .ok (.invokevirtual 91, 3) := by decide +kernel
theorem dX9_findNumbers_106 : decode cX9_findNumbers 106 = .ok (.aload_n 0, 1) := by decide +kernel
theorem dX9_findNumbers_107 : decode cX9_findNumbers 107 = .ok (.getfield 27, 3) := by decide +kernel
theorem dX9_findNumbers_110 : decode cX9_findNumbers 110 = .ok (.iload_n 2, 1) := by decide +kernel
theorem dX9_findNumbers_111 : decode cX9_findNumbers 111 = .ok (.iload_n 1, 1) := by decide +kernel
theorem dX9_findNumbers_112 : decode cX9_findNumbers 112 = .ok (.iastore, 1) := by decide +kernel
theorem dX9_findNumbers_113 : decode cX9_findNumbers 113 = .ok (.iinc 1 1, 3) := by decide +kernel
theorem dX9_findNumbers_116 : decode cX9_findNumbers 116 = .ok (.iinc 2 1, 3) := by decide +kernel
theorem dX9_findNumbers_119 : decode cX9_findNumbers 119 = .ok (.goto (-60), 3) := by decide +kernel
theorem dX9_findNumbers_122 : decode cX9_findNumbers 122 = .ok (.iconst 0, 1) := by decide +kernel
theorem dX9_findNumbers_123 : decode cX9_findNumbers 123 = .ok (.istore_n 2, 1) := by decide +kernel
theorem dX9_findNumbers_124 : decode cX9_findNumbers 124 = .ok (.iload_n 2, 1) := by decide +kernel
theorem dX9_findNumbers_125 : decode cX9_findNumbers 125 = .ok (.aload_n 0, 1) := by decide +kernel
theorem dX9_findNumbers_126 : decode cX9_findNumbers 126 = .ok (.getfield 46, 3) := by decide +kernel
theorem dX9_findNumbers_129 : decode cX9_findNumbers 129 = .ok (.if_icmp .ge 50, 3) := by decide +kernel
theorem dX9_findNumbers_132 : decode cX9_findNumbers 132 = .ok (.aload_n 0, 1) := by decide +kernel
theorem dX9_findNumbers_133 : decode cX9_findNumbers 133 = .ok (.getfield 9, 3) := by decide +kernel
theorem dX9_findNumbers_136 : decode cX9_findNumbers 136 = .ok (.aload_n 0, 1) := by decide +kernel
theorem dX9_findNumbers_137 : decode cX9_findNumbers 137 = .ok (.getfield 46, 3) := by decide +kernel
theorem dX9_findNumbers_140 : decode cX9_findNumbers 140 = .ok (.iload_n 2, 1) := by decide +kernel
theorem dX9_findNumbers_141 : decode cX9_findNumbers 141 = .ok (.isub, 1) := by decide +kernel
theorem dX9_findNumbers_142 : decode cX9_findNumbers 142 = .ok (.aload_n 0, 1) := by decide +kernel
theorem dX9_findNumbers_143 : decode cX9_findNumbers 143 = .ok (.getfield 27, 3) := by decide +kernel
theorem dX9_findNumbers_146 : decode cX9_findNumbers 146 = .ok (.iload_n 2, 1) := by decide +kernel
theorem dX9_findNumbers_147 : decode cX9_findNumbers 147 = .ok (.iaload, 1) := by decide +kernel
theorem dX9_findNumbers_148 : decode cX9_findNumbers 148 = .ok (.iconst (-1), 1) := by decide +kernel
theorem dX9_findNumbers_149 : decode cX9_findNumbers 149 = .ok (.if_icmp .ne 7, 3) := by decide +kernel
theorem dX9_findNumbers_152 : decode cX9_findNumbers 152 = .ok (.iconst 0, 1) := by decide +kernel
theorem dX9_findNumbers_153 : decode cX9_findNumbers 153 = .ok (.goto 19, 3) := by decide +kernel
theorem dX9_findNumbers_156 : decode cX9_findNumbers 156 = .ok (.aload_n 0, 1) := by decide +kernel
theorem dX9_findNumbers_157 : decode cX9_findNumbers 157 = .ok (.getfield 32, 3) := by decide +kernel
theorem dX9_findNumbers_160 : decode cX9_findNumbers 160 = .ok (.aload_n 0, 1) := by decide +kernel
theorem dX9_findNumbers_161 : decode cX9_findNumbers 161 = .ok (.getfield 27, 3) := by decide +kernel
theorem dX9_findNumbers_164 : decode cX9_findNumbers 164 = .ok (.iload_n 2, 1) := by decide +kernel
theorem dX9_findNumbers_165 : decode cX9_findNumbers 165 = .ok (.iaload, 1) := by decide +kernel
theorem dX9_findNumbers_166 : decode cX9_findNumbers 166 = .ok (.aaload, 1) := by decide +kernel
theorem dX9_findNumbers_167 : decode cX9_findNumbers 167 = .ok (.aload_n 0, 1) := by decide +kernel
theorem dX9_findNumbers_168 : decode cX9_findNumbers 168 = .ok (.getfield 46, 3) := by decide +kernel
theorem dX9_findNumbers_171 : decode cX9_findNumbers 171 = .ok (.iaload, 1) := by decide +kernel
theorem dX9_findNumbers_172 : decode cX9_findNumbers 172 = .ok (.iastore, 1) := by decide +kernel
theorem dX9_findNumbers_173 : decode cX9_findNumbers 173 = .ok (.iinc 2 1, 3) := by decide +kernel
theorem dX9_findNumbers_176 : decode cX9_findNumbers 176 = .ok (.goto (-52), 3) := by decide +kernel
theorem dX9_findNumbers_179 : decode cX9_findNumbers 179 = .ok (.return_, 1) := by decide +kernel
theorem dX9_findRow_0 : decode cX9_findRow 0 = .ok (.iload_n 1, 1) := by decide +kernel
theorem dX9_findRow_1 : decode cX9_findRow 1 = .ok (.istore_n 3, 1) := by decide +kernel
theorem dX9_findRow_2 : decode cX9_findRow 2 = .ok (.iload_n 3, 1) := by decide +kernel
theorem dX9_findRow_3 : decode cX9_findRow 3 = .ok (.aload_n 0, 1) := by decide +kernel
theorem dX9_findRow_4 : decode cX9_findRow 4 = .ok (.getfield 46, 3) := by decide +kernel
theorem dX9_findRow_7 : decode cX9_findRow 7 = .ok (.iadd, 1) := by decide +kernel
theorem dX9_findRow_8 : decode cX9_findRow 8 = .ok (.aload_n 0, 1) := by decide +kernel
theorem dX9_findRow_9 : decode cX9_findRow 9 = .ok (.getfield 43, 3) := by decide +kernel
theorem dX9_findRow_12 : decode cX9_findRow 12 = .ok (.if_icmp .ge 22, 3) := by decide +kernel
theorem dX9_findRow_15 : decode cX9_findRow 15 = .ok (.aload_n 0, 1) := by decide +kernel
theorem dX9_findRow_16 : decode cX9_findRow 16 = .ok (.getfield 32, 3) := by decide +kernel
theorem dX9_findRow_19 : decode cX9_findRow 19 = .ok (.iload_n 3, 1) := by decide +kernel
theorem dX9_findRow_20 : decode cX9_findRow 20 = .ok (.aaload, 1) := by decide +kernel
theorem dX9_findRow_21 : decode cX9_findRow 21 = .ok (.iload_n 2, 1) := by decide +kernel
theorem dX9_findRow_22 : decode cX9_findRow 22 = .ok (.iaload, 1) := by decide +kernel
theorem dX9_findRow_23 : decode cX9_findRow 23 = .ok (.ifCond .eq 5, 3) := by decide +kernel
theorem dX9_findRow_26 : decode cX9_findRow 26 = .ok (.iload_n 3, 1) := by decide +kernel
theorem dX9_findRow_27 : decode cX9_findRow 27 = .ok (.ireturn, 1) := by decide +kernel
theorem dX9_findRow_28 : decode cX9_findRow 28 = .ok (.iinc 3 1, 3) := by decide +kernel
theorem dX9_findRow_31 : decode cX9_findRow 31 = .ok (.goto (-29), 3) := by decide +kernel
theorem dX9_findRow_34 : decode cX9_findRow 34 = .ok (.iconst (-1), 1) := by decide +kernel
theorem dX9_findRow_35 : decode cX9_findRow 35 = .ok (.ireturn, 1) := by decide +kernel
theorem dX9_swap_0 : decode cX9_swap 0 = .ok (.aload_n 0, 1) := by decide +kernel
theorem dX9_swap_1 : decode cX9_swap 1 = .ok (.getfield 32, 3) := by decide +kernel
theorem dX9_swap_4 : decode cX9_swap 4 = .ok (.iload_n 1, 1) := by decide +kernel
theorem dX9_swap_5 : decode cX9_swap 5 = .ok (.aaload, 1) := by decide +kernel
theorem dX9_swap_6 : decode cX9_swap 6 = .ok (.astore_n 3, 1) := by decide +kernel
theorem dX9_swap_7 : decode cX9_swap 7 = .ok (.aload_n 0, 1) := by decide +kernel
theorem dX9_swap_8 : decode cX9_swap 8 = .ok (.getfield 32, 3) := by decide +kernel
theorem dX9_swap_11 : decode cX9_swap 11 = .ok (.iload_n 1, 1) := by decide +kernel
theorem dX9_swap_12 : decode cX9_swap 12 = .ok (.aload_n 0, 1) := by decide +kernel
theorem dX9_swap_13 : decode cX9_swap 13 = .ok (.getfield 32, 3) := by decide +kernel
theorem dX9_swap_16 : decode cX9_swap 16 = .ok (.iload_n 2, 1) := by decide +kernel
theorem dX9_swap_17 : decode cX9_swap 17 = .ok (.aaload, 1) := by decide +kernel
theorem dX9_swap_18 : decode cX9_swap 18 = .ok (.aastore, 1) := by decide +kernel
theorem dX9_swap_19 : decode cX9_swap 19 = .ok (.aload_n 0, 1) := by decide +kernel
theorem dX9_swap_20 : decode cX9_swap 20 = .ok (.getfield 32, 3) := by decide +kernel
theorem dX9_swap_23 : decode cX9_swap 23 = .ok (.iload_n 2, 1) := by decide +kernel
theorem dX9_swap_24 : decode cX9_swap 24 = .ok (.aload_n 3, 1) := by decide +kernel
theorem dX9_swap_25 : decode cX9_swap 25 = .ok (.aastore, 1) := by decide +kernel
theorem dX9_swap_26 : decode cX9_swap 26 = .ok (.return_, 1) := by decide +kernel
theorem dX9_clearColumn_0 : decode cX9_clearColumn 0 = .ok (.aload_n 0, 1) := by decide +kernel
theorem dX9_clearColumn_1 : decode cX9_clearColumn 1 = .ok (.getfield 32, 3) := by decide +kernel
theorem dX9_clearColumn_4 : decode cX9_clearColumn 4 = .ok (.iload_n 1, 1) := by decide +kernel
theorem dX9_clearColumn_5 : decode cX9_clearColumn 5 = .ok (.aaload, 1) := by decide +kernel
theorem dX9_clearColumn_6 : decode cX9_clearColumn 6 = .ok (.iload_n 2, 1) := by decide +kernel
theorem dX9_clearColumn_7 : decode cX9_clearColumn 7 = .ok (.iaload, 1) := by decide +kernel
theorem dX9_clearColumn_8 : decode cX9_clearColumn 8 = .ok (.aload_n 0, 1) := by decide +kernel
theorem dX9_clearColumn_9 : decode cX9_clearColumn 9 = .ok (.getfield 39, 3) := by decide +kernel
theorem dX9_clearColumn_12 : decode cX9_clearColumn 12 = .ok (.invokestatic 80, 3) := by decide +kernel
theorem dX9_clearColumn_15 : decode cX9_clearColumn 15 = .ok (.istore_n 3, 1) := by decide +kernel
theorem dX9_clearColumn_16 : decode cX9_clearColumn 16 = .ok (.iload_n 2, 1) := by decide +kernel
theorem dX9_clearColumn_17 : decode cX9_clearColumn 17 = .ok (.istore 4, 2) := by decide +kernel
theorem dX9_clearColumn_19 : decode cX9_clearColumn 19 = .ok (.iload 4, 2) := by decide +kernel
theorem dX9_clearColumn_21 : decode cX9_clearColumn 21 = .ok (.aload_n 0, 1) := by decide +kernel
theorem dX9_clearColumn_22 : decode cX9_clearColumn 22 = .ok (.getfield 46, 3) := by decide +kernel
theorem dX9_clearColumn_25 : decode cX9_clearColumn 25 = .ok (.if_icmp .gt 38, 3) := by decide +kernel
theorem dX9_clearColumn_28 : decode cX9_clearColumn 28 = .ok (.aload_n 0, 1) := by decide +kernel
theorem dX9_clearColumn_29 : decode cX9_clearColumn 29 = .ok (.getfield 32, 3) := by decide +kernel
theorem dX9_clearColumn_32 : decode cX9_clearColumn 32 = .ok (.iload_n 1, 1) := by decide +kernel
theorem dX9_clearColumn_33 : decode cX9_clearColumn 33 = .ok (.aaload, 1) := by decide +kernel
theorem dX9_clearColumn_34 : decode cX9_clearColumn 34 = .ok (.iload 4, 2) := by decide +kernel
theorem dX9_clearColumn_36 : decode cX9_clearColumn 36 = .ok (.aload_n 0, 1) := by decide +kernel
theorem dX9_clearColumn_37 : decode cX9_clearColumn 37 = .ok (.getfield 32, 3) := by decide +kernel
theorem dX9_clearColumn_40 : decode cX9_clearColumn 40 = .ok (.iload_n 1, 1) := by decide +kernel
theorem dX9_clearColumn_41 : decode cX9_clearColumn 41 = .ok (.aaload, 1) := by decide +kernel
theorem dX9_clearColumn_42 : decode cX9_clearColumn 42 = .ok (.iload 4, 2) := by decide +kernel
theorem dX9_clearColumn_44 : decode cX9_clearColumn 44 = .ok (.iaload, 1) := by decide +kernel
theorem dX9_clearColumn_45 : decode cX9_clearColumn 45 = .ok (.i2l, 1) := by decide +kernel
theorem dX9_clearColumn_46 : decode cX9_clearColumn 46 = .ok (.iload_n 3, 1) := by decide +kernel
theorem dX9_clearColumn_47 : decode cX9_clearColumn 47 = .ok (.i2l, 1) := by decide +kernel
theorem dX9_clearColumn_48 : decode cX9_clearColumn 48 = .ok (.lmul, 1) := by decide +kernel
theorem dX9_clearColumn_49 : decode cX9_clearColumn 49 = .ok (.aload_n 0, 1) := by decide +kernel
theorem dX9_clearColumn_50 : decode cX9_clearColumn 50 = .ok (.getfield 39, 3) := by decide +kernel
theorem dX9_clearColumn_53 : decode cX9_clearColumn 53 = .ok (.invokestatic 65, 3) := by decide +kernel
theorem dX9_clearColumn_56 : decode cX9_clearColumn 56 = .ok (.iastore, 1) := by decide +kernel
theorem dX9_clearColumn_57 : decode cX9_clearColumn 57 = .ok (.iinc 4 1, 3) := by decide +kernel
theorem dX9_clearColumn_60 : decode cX9_clearColumn 60 = .ok (.goto (-41), 3) := by decide +kernel
theorem dX9_clearColumn_63 : decode cX9_clearColumn 63 = .ok (.iconst 0, 1) := by decide +kernel
theorem dX9_clearColumn_64 : decode cX9_clearColumn 64 = .ok (.istore 4, 2) := by decide +kernel
theorem dX9_clearColumn_66 : decode cX9_clearColumn 66 = .ok (.iload 4, 2) := by decide +kernel
theorem dX9_clearColumn_68 : decode cX9_clearColumn 68 = .ok (.aload_n 0, 1) := by decide +kernel
theorem dX9_clearColumn_69 : decode cX9_clearColumn 69 = .ok (.getfield 46, 3) := by decide +kernel
theorem dX9_clearColumn_72 : decode cX9_clearColumn 72 = .ok (.iadd, 1) := by decide +kernel
theorem dX9_clearColumn_73 : decode cX9_clearColumn 73 = .ok (.aload_n 0, 1) := by decide +kernel
theorem dX9_clearColumn_74 : decode cX9_clearColumn 74 = .ok (.getfield 43, 3) := by decide +kernel
theorem dX9_clearColumn_77 : decode cX9_clearColumn 77 = .ok (.if_icmp .ge 98, 3) := by decide +kernel
theorem dX9_clearColumn_80 : decode cX9_clearColumn 80 = .ok (.iload 4, 2) := by decide +kernel
theorem dX9_clearColumn_82 : decode cX9_clearColumn 82 = .ok (.iload_n 1, 1) := by decide +kernel
theorem dX9_clearColumn_83 : decode cX9_clearColumn 83 = .ok (.if_icmp .ne 7, 3) := by decide +kernel
theorem dX9_clearColumn_86 : decode cX9_clearColumn 86 = .ok (.lconst 0, 1) := by decide +kernel
theorem dX9_clearColumn_87 : decode cX9_clearColumn 87 = .ok (.goto 13, 3) := by decide +kernel
theorem dX9_clearColumn_90 : decode cX9_clearColumn 90 = .ok (.aload_n 0, 1) := by decide +kernel
theorem dX9_clearColumn_91 : decode cX9_clearColumn 91 = .ok (.getfield 32, 3) := by decide +kernel
theorem dX9_clearColumn_94 : decode cX9_clearColumn 94 = .ok (.iload 4, 2) := by decide +kernel
theorem dX9_clearColumn_96 : decode cX9_clearColumn 96 = .ok (.aaload, 1) := by decide +kernel
theorem dX9_clearColumn_97 : decode cX9_clearColumn 97 = .ok (.iload_n 2, 1) := by decide +kernel
theorem dX9_clearColumn_98 : decode cX9_clearColumn 98 = .ok (.iaload, 1) := by decide +kernel
theorem dX9_clearColumn_99 : decode cX9_clearColumn 99 = .ok (.i2l, 1) := by decide +kernel
theorem dX9_clearColumn_100 : decode cX9_clearColumn 100 = .ok (.lstore 5, 2) := by decide +kernel
theorem dX9_clearColumn_102 : decode cX9_clearColumn 102 = .ok (.iload_n 2, 1) := by decide +kernel
theorem dX9_clearColumn_103 : decode cX9_clearColumn 103 = .ok (.istore 7, 2) := by decide +kernel
theorem dX9_clearColumn_105 : decode cX9_clearColumn 105 = .ok (.iload 7, 2) := by decide +kernel
theorem dX9_clearColumn_107 : decode cX9_clearColumn 107 = .ok (.aload_n 0, 1) := by decide +kernel
theorem dX9_clearColumn_108 : decode cX9_clearColumn 108 = .ok (.getfield 46, 3) := by decide +kernel
theorem dX9_clearColumn_111 : decode cX9_clearColumn 111 = .ok (.if_icmp .gt 58, 3) := by decide +kernel
theorem dX9_clearColumn_114 : decode cX9_clearColumn 114 = .ok (.lload 5, 2) := by decide +kernel
theorem dX9_clearColumn_116 : decode cX9_clearColumn 116 = .ok (.lconst 0, 1) := by decide +kernel
theorem dX9_clearColumn_117 : decode cX9_clearColumn 117 = .ok (.lcmp, 1) := by decide +kernel
theorem dX9_clearColumn_118 : decode cX9_clearColumn 118 = .ok (.ifCond .eq 51, 3) := by decide +kernel
theorem dX9_clearColumn_121 : decode cX9_clearColumn 121 = .ok (.aload_n 0, 1) := by decide +kernel
theorem dX9_clearColumn_122 : decode cX9_clearColumn 122 = .ok (.getfield 32, 3) := by decide +kernel
theorem dX9_clearColumn_125 : decode cX9_clearColumn 125 = .ok (.iload 4, 2) := by decide +kernel
theorem dX9_clearColumn_127 : decode cX9_clearColumn 127 = .ok (.aaload, 1) := by decide +kernel
theorem dX9_clearColumn_128 : decode cX9_clearColumn 128 = .ok (.iload 7, 2) := by decide +kernel
theorem dX9_clearColumn_130 : decode cX9_clearColumn 130 = .ok (.aload_n 0, 1) := by decide +kernel
theorem dX9_clearColumn_131 : decode cX9_clearColumn 131 = .ok (.getfield 32, 3) := by decide +kernel
theorem dX9_clearColumn_134 : decode cX9_clearColumn 134 = .ok (.iload 4, 2) := by decide +kernel
theorem dX9_clearColumn_136 : decode cX9_clearColumn 136 = .ok (.aaload, 1) := by decide +kernel
theorem dX9_clearColumn_137 : decode cX9_clearColumn 137 = .ok (.iload 7, 2) := by decide +kernel
theorem dX9_clearColumn_139 : decode cX9_clearColumn 139 = .ok (.iaload, 1) := by decide +kernel
theorem dX9_clearColumn_140 : decode cX9_clearColumn 140 = .ok (.i2l, 1) := by decide +kernel
theorem dX9_clearColumn_141 : decode cX9_clearColumn 141 = .ok (.lload 5, 2) := by decide +kernel
theorem dX9_clearColumn_143 : decode cX9_clearColumn 143 = .ok (.aload_n 0, 1) := by decide +kernel
theorem dX9_clearColumn_144 : decode cX9_clearColumn 144 = .ok (.getfield 32, 3) := by decide +kernel
theorem dX9_clearColumn_147 : decode cX9_clearColumn 147 = .ok (.iload_n 1, 1) := by decide +kernel
theorem dX9_clearColumn_148 : decode cX9_clearColumn 148 = .ok (.aaload, 1) := by decide +kernel
theorem dX9_clearColumn_149 : decode cX9_clearColumn 149 = .ok (.iload 7, 2) := by decide +kernel
theorem dX9_clearColumn_151 : decode cX9_clearColumn 151 = .ok (.iaload, 1) := by decide +kernel
theorem dX9_clearColumn_152 : decode cX9_clearColumn 152 = .ok (.i2l, 1) := by decide +kernel
theorem dX9_clearColumn_153 : decode cX9_clearColumn 153 = .ok (.lmul, 1) := by decide +kernel
theorem dX9_clearColumn_154 : decode cX9_clearColumn 154 = .ok (.lsub, 1) := by decide +kernel
theorem dX9_clearColumn_155 : decode cX9_clearColumn 155 = .ok (.aload_n 0, 1) := by decide +kernel
theorem dX9_clearColumn_156 : decode cX9_clearColumn 156 = .ok (.getfield 39, 3) := by decide +kernel
theorem dX9_clearColumn_159 : decode cX9_clearColumn 159 = .ok (.invokestatic 65, 3) := by decide +kernel
theorem dX9_clearColumn_162 : decode cX9_clearColumn 162 = .ok (.iastore, 1) := by decide +kernel
theorem dX9_clearColumn_163 : decode cX9_clearColumn 163 = .ok (.iinc 7 1, 3) := by decide +kernel
theorem dX9_clearColumn_166 : decode cX9_clearColumn 166 = .ok (.goto (-61), 3) := by decide +kernel
theorem dX9_clearColumn_169 : decode cX9_clearColumn 169 = .ok (.iinc 4 1, 3) := by decide +kernel
theorem dX9_clearColumn_172 : decode cX9_clearColumn 172 = .ok (.goto (-106), 3) := by decide +kernel
theorem dX9_clearColumn_175 : decode cX9_clearColumn 175 = .ok (.return_, 1) := by decide +kernel
