theorem dX1_init_0 : decode cX1_init 0 = .ok (.aload_n 0, 1) := by decide +kernel
theorem dX1_init_1 : decode cX1_init 1 = .ok (.invokespecial 3, 3) := by decide +kernel
theorem dX1_init_4 : decode cX1_init 4 = .ok (.aload_n 0, 1) := by decide +kernel
theorem dX1_init_5 : decode cX1_init 5 = .ok (.iconst 4, 1) := by decide +kernel
theorem dX1_init_6 : decode cX1_init 6 = .ok (.newarray .int, 2) := by decide +kernel
theorem dX1_init_8 : decode cX1_init 8 = .ok (.putfield 9, 3) := by decide +kernel
theorem dX1_init_11 : decode cX1_init 11 = .ok (.aload_n 0, 1) := by decide +kernel
theorem dX1_init_12 : decode cX1_init 12 = .ok (.new 15, 3) := by decide +kernel
theorem dX1_init_15 : decode cX1_init 15 = .ok (.dup, 1) := by decide +kernel
theorem dX1_init_16 : decode cX1_init 16 = .ok (.invokespecial 17, 3) := by decide +kernel
theorem dX1_init_19 : decode cX1_init 19 = .ok (.putfield 18, 3) := by decide +kernel
theorem dX1_init_22 : decode cX1_init 22 = .ok (.aload_n 0, 1) := by decide +kernel
theorem dX1_init_23 : decode cX1_init 23 = .ok (.new 22, 3) := by decide +kernel
theorem dX1_init_26 : decode cX1_init 26 = .ok (.dup, 1) := by decide +kernel
theorem dX1_init_27 : decode cX1_init 27 = .ok (.invokespecial 24, 3) := by decide +kernel
theorem dX1_init_30 : decode cX1_init 30 = .ok (.putfield 25, 3) := by decide +kernel
theorem dX1_init_33 : decode cX1_init 33 = .ok (.aload_n 0, 1) := by decide +kernel
theorem dX1_init_34 : decode cX1_init 34 = .ok (.iconst 4, 1) := by decide +kernel
theorem dX1_init_35 : decode cX1_init 35 = .ok (.anewarray 29, 3) := by decide +kernel
theorem dX1_init_38 : decode cX1_init 38 = .ok (.putfield 31, 3) := by decide +kernel
theorem dX1_init_41 : decode cX1_init 41 = .ok (.iconst 0, 1) := by decide +kernel
theorem dX1_init_42 : decode cX1_init 42 = .ok (.istore_n 1, 1) := by decide +kernel
theorem dX1_init_43 : decode cX1_init 43 = .ok (.iload_n 1, 1) := by decide +kernel
theorem dX1_init_44 : decode cX1_init 44 = .ok (.aload_n 0, 1) := by decide +kernel
theorem dX1_init_45 : decode cX1_init 45 = .ok (.getfield 31, 3) := by decide +kernel
theorem dX1_init_48 : decode cX1_init 48 = .ok (.arraylength, 1) := by decide +kernel
theorem dX1_init_49 : decode cX1_init 49 = .ok (.if_icmp .ge 22, 3) := by decide +kernel
theorem dX1_init_52 : decode cX1_init 52 = .ok (.aload_n 0, 1) := by decide +kernel
theorem dX1_init_53 : decode cX1_init 53 = .ok (.getfield 31, 3) := by decide +kernel
theorem dX1_init_56 : decode cX1_init 56 = .ok (.iload_n 1, 1) := by decide +kernel
theorem dX1_init_57 : decode cX1_init 57 = .ok (.new 29, 3) := by decide +kernel
theorem dX1_init_60 : decode cX1_init 60 = .ok (.dup, 1) := by decide +kernel
theorem dX1_init_61 : decode cX1_init 61 = .ok (.invokespecial 35, 3) := by decide +kernel
theorem dX1_init_64 : decode cX1_init 64 = .ok (.aastore, 1) := by decide +kernel
theorem dX1_init_65 : decode cX1_init 65 = .ok (.iinc 1 1, 3) := by decide +kernel
theorem dX1_init_68 : decode cX1_init 68 = .ok (.goto (-25), 3) := by decide +kernel
theorem dX1_init_71 : decode cX1_init 71 = .ok (.aload_n 0, 1) := by decide +kernel
theorem dX1_init_72 : decode cX1_init 72 = .ok (.new 36, 3) := by decide +kernel
theorem dX1_init_75 : decode cX1_init 75 = .ok (.dup, 1) := by decide +kernel
theorem dX1_init_76 : decode cX1_init 76 = .ok (.invokespecial 38, 3) := by decide +kernel
theorem dX1_init_79 : decode cX1_init 79 = .ok (.putfield 39, 3) := by decide +kernel
theorem dX1_init_82 : decode cX1_init 82 = .ok (.aload_n 0, 1) := by decide +kernel
theorem dX1_init_83 : decode cX1_init 83 = .ok (.new 43, 3) := by decide +kernel
theorem dX1_init_86 : decode cX1_init 86 = .ok (.dup, 1) := by decide +kernel
theorem dX1_init_87 : decode cX1_init 87 = .ok (.aload_n 0, 1) := by decide +kernel
theorem dX1_init_88 : decode cX1_init 88 = .ok (.getfield 39, 3) := by decide +kernel
theorem dX1_init_91 : decode cX1_init 91 = .ok (.aload_n 0, 1) := by decide +kernel
theorem dX1_init_92 : decode cX1_init 92 = .ok (.getfield 31, 3) := by decide +kernel
theorem dX1_init_95 : decode cX1_init 95 = .ok (.invokespecial 45, 3) := by decide +kernel
theorem dX1_init_98 : decode cX1_init 98 = .ok (.putfield 48, 3) := by decide +kernel
theorem dX1_init_101 : decode cX1_init 101 = .ok (.return_, 1) := by decide +kernel
theorem dX1_canBe_0 : decode cX1_canBe 0 = .ok (.iload_n 1, 1) := by decide +kernel
theorem dX1_canBe_1 : decode cX1_canBe 1 = .ok (.iconst 2, 1) := by decide +kernel
theorem dX1_canBe_2 : decode cX1_canBe 2 = .ok (.if_icmp .lt 20, 3) := by decide +kernel
theorem dX1_canBe_5 : decode cX1_canBe 5 = .ok (.iload_n 1, 1) := by decide +kernel
theorem dX1_canBe_6 : decode cX1_canBe 6 = .ok (.sipush 500, 3) := by decide +kernel
theorem dX1_canBe_9 : decode cX1_canBe 9 = .ok (.if_icmp .gt 13, 3) := by decide +kernel
theorem dX1_canBe_12 : decode cX1_canBe 12 = .ok (.iload_n 2, 1) := by decide +kernel
theorem dX1_canBe_13 : decode cX1_canBe 13 = .ok (.iconst 1, 1) := by decide +kernel
theorem dX1_canBe_14 : decode cX1_canBe 14 = .ok (.if_icmp .lt 8, 3) := by decide +kernel
theorem dX1_canBe_17 : decode cX1_canBe 17 = .ok (.iload_n 2, 1) := by decide +kernel
theorem dX1_canBe_18 : decode cX1_canBe 18 = .ok (.iconst 4, 1) := by decide +kernel
theorem dX1_canBe_19 : decode cX1_canBe 19 = .ok (.if_icmp .le 5, 3) := by decide +kernel
theorem dX1_canBe_22 : decode cX1_canBe 22 = .ok (.iconst 0, 1) := by decide +kernel
theorem dX1_canBe_23 : decode cX1_canBe 23 = .ok (.ireturn, 1) := by decide +kernel
theorem dX1_canBe_24 : decode cX1_canBe 24 = .ok (.iload_n 0, 1) := by decide +kernel
theorem dX1_canBe_25 : decode cX1_canBe 25 = .ok (.tableswitch 63 0 3 #[31, 33, 44, 46], 31) := by decide +kernel
theorem dX1_canBe_56 : decode cX1_canBe 56 = .ok (.iconst 1, 1) := by decide +kernel
theorem dX1_canBe_57 : decode cX1_canBe 57 = .ok (.ireturn, 1) := by decide +kernel
theorem dX1_canBe_58 : decode cX1_canBe 58 = .ok (.iload_n 2, 1) := by decide +kernel
theorem dX1_canBe_59 : decode cX1_canBe 59 = .ok (.iconst 1, 1) := by decide +kernel
theorem dX1_canBe_60 : decode cX1_canBe 60 = .ok (.if_icmp .ne 7, 3) := by decide +kernel
theorem dX1_canBe_63 : decode cX1_canBe 63 = .ok (.iconst 1, 1) := by decide +kernel
theorem dX1_canBe_64 : decode cX1_canBe 64 = .ok (.goto 4, 3) := by decide +kernel
theorem dX1_canBe_67 : decode cX1_canBe 67 = .ok (.iconst 0, 1) := by decide +kernel
theorem dX1_canBe_68 : decode cX1_canBe 68 = .ok (.ireturn, 1) := by decide +kernel
theorem dX1_canBe_69 : decode cX1_canBe 69 = .ok (.iconst 1, 1) := by decide +kernel
theorem dX1_canBe_70 : decode cX1_canBe 70 = .ok (.ireturn, 1) := by decide +kernel
theorem dX1_canBe_71 : decode cX1_canBe 71 = .ok (.iload_n 2, 1) := by decide +kernel
theorem dX1_canBe_72 : decode cX1_canBe 72 = .ok (.iconst 2, 1) := by decide +kernel
theorem dX1_canBe_73 : decode cX1_canBe 73 = .ok (.if_icmp .ne 13, 3) := by decide +kernel
theorem dX1_canBe_76 : decode cX1_canBe 76 = .ok (.iload_n 1, 1) := by decide +kernel
theorem dX1_canBe_77 : decode cX1_canBe 77 = .ok (.bipush 64, 2) := by decide +kernel
theorem dX1_canBe_79 : decode cX1_canBe 79 = .ok (.if_icmp .gt 7, 3) := by decide +kernel
theorem dX1_canBe_82 : decode cX1_canBe 82 = .ok (.iconst 1, 1) := by decide +kernel
theorem dX1_canBe_83 : decode cX1_canBe 83 = .ok (.goto 4, 3) := by decide +kernel
theorem dX1_canBe_86 : decode cX1_canBe 86 = .ok (.iconst 0, 1) := by decide +kernel
theorem dX1_canBe_87 : decode cX1_canBe 87 = .ok (.ireturn, 1) := by decide +kernel
theorem dX1_canBe_88 : decode cX1_canBe 88 = .ok (.iconst 0, 1) := by decide +kernel
theorem dX1_canBe_89 : decode cX1_canBe 89 = .ok (.ireturn, 1) := by decide +kernel
theorem dX1_open_0 : decode cX1_open 0 = .ok (.aload_n 0, 1) := by decide +kernel
theorem dX1_open_1 : decode cX1_open 1 = .ok (.iconst 1, 1) := by decide +kernel
theorem dX1_open_2 : decode cX1_open 2 = .ok (.putfield 52, 3) := by decide +kernel
theorem dX1_open_5 : decode cX1_open 5 = .ok (.aload_n 0, 1) := by decide +kernel
theorem dX1_open_6 : decode cX1_open 6 = .ok (.iload_n 1, 1) := by decide +kernel
theorem dX1_open_7 : decode cX1_open 7 = .ok (.putfield 56, 3) := by decide +kernel
theorem dX1_open_10 : decode cX1_open 10 = .ok (.aload_n 0, 1) := by decide +kernel
theorem dX1_open_11 : decode cX1_open 11 = .ok (.iload_n 2, 1) := by decide +kernel
theorem dX1_open_12 : decode cX1_open 12 = .ok (.putfield 60, 3) := by decide +kernel
theorem dX1_open_15 : decode cX1_open 15 = .ok (.aload_n 0, 1) := by decide +kernel
theorem dX1_open_16 : decode cX1_open 16 = .ok (.iload_n 3, 1) := by decide +kernel
theorem dX1_open_17 : decode cX1_open 17 = .ok (.putfield 63, 3) := by decide +kernel
theorem dX1_open_20 : decode cX1_open 20 = .ok (.aload_n 0, 1) := by decide +kernel
theorem dX1_open_21 : decode cX1_open 21 = .ok (.getfield 9, 3) := by decide +kernel
theorem dX1_open_24 : decode cX1_open 24 = .ok (.iconst 0, 1) := by decide +kernel
theorem dX1_open_25 : decode cX1_open 25 = .ok (.invokestatic 66, 3) := by decide +kernel
theorem dX1_open_28 : decode cX1_open 28 = .ok (.aload_n 0, 1) := by decide +kernel
theorem dX1_open_29 : decode cX1_open 29 = .ok (.invokevirtual 72, 3) := by decide +kernel
theorem dX1_open_32 : decode cX1_open 32 = .ok (.aload_n 0, 1) := by decide +kernel
theorem dX1_open_33 : decode cX1_open 33 = .ok (.getfield 39, 3) := by decide +kernel
theorem dX1_open_36 : decode cX1_open 36 = .ok (.aload_n 0, 1) := by decide +kernel
theorem dX1_open_37 : decode cX1_open 37 = .ok (.getfield 60, 3) := by decide +kernel
theorem dX1_open_40 : decode cX1_open 40 = .ok (.aload_n 0, 1) := by decide +kernel
theorem dX1_open_41 : decode cX1_open 41 = .ok (.getfield 63, 3) := by decide +kernel
theorem dX1_open_44 : decode cX1_open 44 = .ok (.invokevirtual 75, 3) := by decide +kernel
theorem dX1_open_47 : decode cX1_open 47 = .ok (.aload_n 0, 1) := by decide +kernel
theorem dX1_open_48 : decode cX1_open 48 = .ok (.getfield 56, 3) := by decide +kernel
theorem dX1_open_51 : decode cX1_open 51 = .ok (.iconst 2, 1) := by decide +kernel
theorem dX1_open_52 : decode cX1_open 52 = .ok (.if_icmp .ne 37, 3) := by decide +kernel
theorem dX1_open_55 : decode cX1_open 55 = .ok (.iconst 0, 1) := by decide +kernel
theorem dX1_open_56 : decode cX1_open 56 = .ok (.istore 4, 2) := by decide +kernel
theorem dX1_open_58 : decode cX1_open 58 = .ok (.iload 4, 2) := by decide +kernel
theorem dX1_open_60 : decode cX1_open 60 = .ok (.iconst 1, 1) := by decide +kernel
theorem dX1_open_61 : decode cX1_open 61 = .ok (.iadd, 1) := by decide +kernel
theorem dX1_open_62 : decode cX1_open 62 = .ok (.aload_n 0, 1) := by decide +kernel
theorem dX1_open_63 : decode cX1_open 63 = .ok (.getfield 63, 3) := by decide +kernel
theorem dX1_open_66 : decode cX1_open 66 = .ok (.if_icmp .ge 23, 3) := by decide +kernel
theorem dX1_open_69 : decode cX1_open 69 = .ok (.aload_n 0, 1) := by decide +kernel
theorem dX1_open_70 : decode cX1_open 70 = .ok (.getfield 39, 3) := by decide +kernel
theorem dX1_open_73 : decode cX1_open 73 = .ok (.iload 4, 2) := by decide +kernel
theorem dX1_open_75 : decode cX1_open 75 = .ok (.iload 4, 2) := by decide +kernel
theorem dX1_open_77 : decode cX1_open 77 = .ok (.iconst 1, 1) := by decide +kernel
theorem dX1_open_78 : decode cX1_open 78 = .ok (.iadd, 1) := by decide +kernel
theorem dX1_open_79 : decode cX1_open 79 = .ok (.iconst 1, 1) := by decide +kernel
theorem dX1_open_80 : decode cX1_open 80 = .ok (.invokevirtual 79, 3) := by decide +kernel
theorem dX1_open_83 : decode cX1_open 83 = .ok (.iinc 4 1, 3) := by decide +kernel
theorem dX1_open_86 : decode cX1_open 86 = .ok (.goto (-28), 3) := by decide +kernel
theorem dX1_open_89 : decode cX1_open 89 = .ok (.aload_n 0, 1) := by decide +kernel
theorem dX1_open_90 : decode cX1_open 90 = .ok (.getfield 56, 3) := by decide +kernel
theorem dX1_open_93 : decode cX1_open 93 = .ok (.iconst 3, 1) := by decide +kernel
theorem dX1_open_94 : decode cX1_open 94 = .ok (.if_icmp .ne 14, 3) := by decide +kernel
theorem dX1_open_97 : decode cX1_open 97 = .ok (.aload_n 0, 1) := by decide +kernel
theorem dX1_open_98 : decode cX1_open 98 = .ok (.getfield 25, 3) := by decide +kernel
theorem dX1_open_101 : decode cX1_open 101 = .ok (.aload_n 0, 1) := by decide +kernel
theorem dX1_open_102 : decode cX1_open 102 = .ok (.getfield 60, 3) := by decide +kernel
theorem dX1_open_105 : decode cX1_open 105 = .ok (.invokevirtual 83, 3) := by decide +kernel
theorem dX1_open_108 : decode cX1_open 108 = .ok (.aload_n 0, 1) := by decide +kernel
theorem dX1_open_109 : decode cX1_open 109 = .ok (.getfield 48, 3) := by decide +kernel
theorem dX1_open_112 : decode cX1_open 112 = .ok (.invokevirtual 86, 3) := by decide +kernel
theorem dX1_open_115 : decode cX1_open 115 = .ok (.aload_n 0, 1) := by decide +kernel
theorem dX1_open_116 : decode cX1_open 116 = .ok (.getfield 18, 3) := by decide +kernel
theorem dX1_open_119 : decode cX1_open 119 = .ok (.invokevirtual 89, 3) := by decide +kernel
theorem dX1_open_122 : decode cX1_open 122 = .ok (.return_, 1) := by decide +kernel
theorem dX1_hasRest_0 : decode cX1_hasRest 0 = .ok (.iload_n 1, 1) := by decide +kernel
theorem dX1_hasRest_1 : decode cX1_hasRest 1 = .ok (.ifCond .lt 15, 3) := by decide +kernel
theorem dX1_hasRest_4 : decode cX1_hasRest 4 = .ok (.iload_n 1, 1) := by decide +kernel
theorem dX1_hasRest_5 : decode cX1_hasRest 5 = .ok (.aload_n 0, 1) := by decide +kernel
theorem dX1_hasRest_6 : decode cX1_hasRest 6 = .ok (.getfield 63, 3) := by decide +kernel
theorem dX1_hasRest_9 : decode cX1_hasRest 9 = .ok (.if_icmp .ge 7, 3) := by decide +kernel
theorem dX1_hasRest_12 : decode cX1_hasRest 12 = .ok (.iconst 1, 1) := by decide +kernel
theorem dX1_hasRest_13 : decode cX1_hasRest 13 = .ok (.goto 4, 3) := by decide +kernel
theorem dX1_hasRest_16 : decode cX1_hasRest 16 = .ok (.iconst 0, 1) := by decide +kernel
theorem dX1_hasRest_17 : decode cX1_hasRest 17 = .ok (.ireturn, 1) := by decide +kernel
theorem dX1_canTell_0 : decode cX1_canTell 0 = .ok (.aload_n 0, 1) := by decide +kernel
theorem dX1_canTell_1 : decode cX1_canTell 1 = .ok (.iload_n 1, 1) := by decide +kernel
theorem dX1_canTell_2 : decode cX1_canTell 2 = .ok (.invokevirtual 90, 3) := by decide +kernel
theorem dX1_canTell_5 : decode cX1_canTell 5 = .ok (.ifCond .eq 25, 3) := by decide +kernel
theorem dX1_canTell_8 : decode cX1_canTell 8 = .ok (.aload_n 0, 1) := by decide +kernel
theorem dX1_canTell_9 : decode cX1_canTell 9 = .ok (.getfield 56, 3) := by decide +kernel
theorem dX1_canTell_12 : decode cX1_canTell 12 = .ok (.iconst 2, 1) := by decide +kernel
theorem dX1_canTell_13 : decode cX1_canTell 13 = .ok (.if_icmp .ne 13, 3) := by decide +kernel
theorem dX1_canTell_16 : decode cX1_canTell 16 = .ok (.iload_n 1, 1) := by decide +kernel
theorem dX1_canTell_17 : decode cX1_canTell 17 = .ok (.aload_n 0, 1) := by decide +kernel
theorem dX1_canTell_18 : decode cX1_canTell 18 = .ok (.getfield 63, 3) := by decide +kernel
theorem dX1_canTell_21 : decode cX1_canTell 21 = .ok (.iconst 1, 1) := by decide +kernel
theorem dX1_canTell_22 : decode cX1_canTell 22 = .ok (.isub, 1) := by decide +kernel
theorem dX1_canTell_23 : decode cX1_canTell 23 = .ok (.if_icmp .ne 7, 3) := by decide +kernel
theorem dX1_canTell_26 : decode cX1_canTell 26 = .ok (.iconst 1, 1) := by decide +kernel
theorem dX1_canTell_27 : decode cX1_canTell 27 = .ok (.goto 4, 3) := by decide +kernel
theorem dX1_canTell_30 : decode cX1_canTell 30 = .ok (.iconst 0, 1) := by decide +kernel
theorem dX1_canTell_31 : decode cX1_canTell 31 = .ok (.ireturn, 1) := by decide +kernel
theorem dX1_put_0 : decode cX1_put 0 = .ok (.aload_n 0, 1) := by decide +kernel
theorem dX1_put_1 : decode cX1_put 1 = .ok (.getfield 39, 3) := by decide +kernel
theorem dX1_put_4 : decode cX1_put 4 = .ok (.iload_n 1, 1) := by decide +kernel
theorem dX1_put_5 : decode cX1_put 5 = .ok (.iload_n 2, 1) := by decide +kernel
theorem dX1_put_6 : decode cX1_put 6 = .ok (.iload_n 3, 1) := by decide +kernel
theorem dX1_put_7 : decode cX1_put 7 = .ok (.i2l, 1) := by decide +kernel
theorem dX1_put_8 : decode cX1_put 8 = .ok (.aload_n 0, 1) := by decide +kernel
theorem dX1_put_9 : decode cX1_put 9 = .ok (.getfield 60, 3) := by decide +kernel
theorem dX1_put_12 : decode cX1_put 12 = .ok (.invokestatic 94, 3) := by decide +kernel
theorem dX1_put_15 : decode cX1_put 15 = .ok (.invokevirtual 79, 3) := by decide +kernel
theorem dX1_put_18 : decode cX1_put 18 = .ok (.aload_n 0, 1) := by decide +kernel
theorem dX1_put_19 : decode cX1_put 19 = .ok (.getfield 48, 3) := by decide +kernel
theorem dX1_put_22 : decode cX1_put 22 = .ok (.invokevirtual 86, 3) := by decide +kernel
theorem dX1_put_25 : decode cX1_put 25 = .ok (.aload_n 0, 1) := by decide +kernel
theorem dX1_put_26 : decode cX1_put 26 = .ok (.getfield 18, 3) := by decide +kernel
theorem dX1_put_29 : decode cX1_put 29 = .ok (.invokevirtual 89, 3) := by decide +kernel
theorem dX1_put_32 : decode cX1_put 32 = .ok (.return_, 1) := by decide +kernel
theorem dX1_worth_0 : decode cX1_worth 0 = .ok (.aload_n 0, 1) := by decide +kernel
theorem dX1_worth_1 : decode cX1_worth 1 = .ok (.iconst 0, 1) := by decide +kernel
theorem dX1_worth_2 : decode cX1_worth 2 = .ok (.iconst 1, 1) := by decide +kernel
theorem dX1_worth_3 : decode cX1_worth 3 = .ok (.invokevirtual 100, 3) := by decide +kernel
theorem dX1_worth_6 : decode cX1_worth 6 = .ok (.aload_n 0, 1) := by decide +kernel
theorem dX1_worth_7 : decode cX1_worth 7 = .ok (.iconst 2, 1) := by decide +kernel
theorem dX1_worth_8 : decode cX1_worth 8 = .ok (.iconst 3, 1) := by decide +kernel
theorem dX1_worth_9 : decode cX1_worth 9 = .ok (.invokevirtual 104, 3) := by decide +kernel
theorem dX1_worth_12 : decode cX1_worth 12 = .ok (.lmul, 1) := by decide +kernel
theorem dX1_worth_13 : decode cX1_worth 13 = .ok (.aload_n 0, 1) := by decide +kernel
theorem dX1_worth_14 : decode cX1_worth 14 = .ok (.iconst 0, 1) := by decide +kernel
theorem dX1_worth_15 : decode cX1_worth 15 = .ok (.iconst 2, 1) := by decide +kernel
theorem dX1_worth_16 : decode cX1_worth 16 = .ok (.invokevirtual 100, 3) := by decide +kernel
theorem dX1_worth_19 : decode cX1_worth 19 = .ok (.aload_n 0, 1) := by decide +kernel
theorem dX1_worth_20 : decode cX1_worth 20 = .ok (.iconst 1, 1) := by decide +kernel
theorem dX1_worth_21 : decode cX1_worth 21 = .ok (.iconst 3, 1) := by decide +kernel
theorem dX1_worth_22 : decode cX1_worth 22 = .ok (.invokevirtual 104, 3) := by decide +kernel
theorem dX1_worth_25 : decode cX1_worth 25 = .ok (.lmul, 1) := by decide +kernel
theorem dX1_worth_26 : decode cX1_worth 26 = .ok (.lsub, 1) := by decide +kernel
theorem dX1_worth_27 : decode cX1_worth 27 = .ok (.aload_n 0, 1) := by decide +kernel
theorem dX1_worth_28 : decode cX1_worth 28 = .ok (.iconst 0, 1) := by decide +kernel
theorem dX1_worth_29 : decode cX1_worth 29 = .ok (.iconst 3, 1) := by decide +kernel
theorem dX1_worth_30 : decode cX1_worth 30 = .ok (.invokevirtual 100, 3) := by decide +kernel
theorem dX1_worth_33 : decode cX1_worth 33 = .ok (.aload_n 0, 1) := by decide +kernel
theorem dX1_worth_34 : decode cX1_worth 34 = .ok (.iconst 1, 1) := by decide +kernel
theorem dX1_worth_35 : decode cX1_worth 35 = .ok (.iconst 2, 1) := by decide +kernel
theorem dX1_worth_36 : decode cX1_worth 36 = .ok (.invokevirtual 104, 3) := by decide +kernel
theorem dX1_worth_39 : decode cX1_worth 39 = .ok (.lmul, 1) := by decide +kernel
theorem dX1_worth_40 : decode cX1_worth 40 = .ok (.ladd, 1) := by decide +kernel
theorem dX1_worth_41 : decode cX1_worth 41 = .ok (.aload_n 0, 1) := by decide +kernel
theorem dX1_worth_42 : decode cX1_worth 42 = .ok (.iconst 1, 1) := by decide +kernel
theorem dX1_worth_43 : decode cX1_worth 43 = .ok (.iconst 2, 1) := by decide +kernel
theorem dX1_worth_44 : decode cX1_worth 44 = .ok (.invokevirtual 100, 3) := by decide +kernel
theorem dX1_worth_47 : decode cX1_worth 47 = .ok (.aload_n 0, 1) := by decide +kernel
theorem dX1_worth_48 : decode cX1_worth 48 = .ok (.iconst 0, 1) := by decide +kernel
theorem dX1_worth_49 : decode cX1_worth 49 = .ok (.iconst 3, 1) := by decide +kernel
theorem dX1_worth_50 : decode cX1_worth 50 = .ok (.invokevirtual 104, 3) := by decide +kernel
theorem dX1_worth_53 : decode cX1_worth 53 = .ok (.lmul, 1) := by decide +kernel
theorem dX1_worth_54 : decode cX1_worth 54 = .ok (.ladd, 1) := by decide +kernel
theorem dX1_worth_55 : decode cX1_worth 55 = .ok (.aload_n 0, 1) := by decide +kernel
theorem dX1_worth_56 : decode cX1_worth 56 = .ok (.iconst 1, 1) := by decide +kernel
theorem dX1_worth_57 : decode cX1_worth 57 = .ok (.iconst 3, 1) := by decide +kernel
theorem dX1_worth_58 : decode cX1_worth 58 = .ok (.invokevirtual 100, 3) := by decide +kernel
theorem dX1_worth_61 : decode cX1_worth 61 = .ok (.aload_n 0, 1) := by decide +kernel
theorem dX1_worth_62 : decode cX1_worth 62 = .ok (.iconst 0, 1) := by decide +kernel
theorem dX1_worth_63 : decode cX1_worth 63 = .ok (.iconst 2, 1) := by decide +kernel
theorem dX1_worth_64 : decode cX1_worth 64 = .ok (.invokevirtual 104, 3) := by decide +kernel
theorem dX1_worth_67 : decode cX1_worth 67 = .ok (.lmul, 1) := by decide +kernel
theorem dX1_worth_68 : decode cX1_worth 68 = .ok (.lsub, 1) := by decide +kernel
theorem dX1_worth_69 : decode cX1_worth 69 = .ok (.aload_n 0, 1) := by decide +kernel
theorem dX1_worth_70 : decode cX1_worth 70 = .ok (.iconst 2, 1) := by decide +kernel
theorem dX1_worth_71 : decode cX1_worth 71 = .ok (.iconst 3, 1) := by decide +kernel
theorem dX1_worth_72 : decode cX1_worth 72 = .ok (.invokevirtual 100, 3) := by decide +kernel
theorem dX1_worth_75 : decode cX1_worth 75 = .ok (.aload_n 0, 1) := by decide +kernel
theorem dX1_worth_76 : decode cX1_worth 76 = .ok (.iconst 0, 1) := by decide +kernel
theorem dX1_worth_77 : decode cX1_worth 77 = .ok (.iconst 1, 1) := by decide +kernel
theorem dX1_worth_78 : decode cX1_worth 78 = .ok (.invokevirtual 104, 3) := by decide +kernel
theorem dX1_worth_81 : decode cX1_worth 81 = .ok (.lmul, 1) := by decide +kernel
theorem dX1_worth_82 : decode cX1_worth 82 = .ok (.ladd, 1) := by decide +kernel
theorem dX1_worth_83 : decode cX1_worth 83 = .ok (.lstore_n 1, 1) := by decide +kernel
theorem dX1_worth_84 : decode cX1_worth 84 = .ok (.lload_n 1, 1) := by decide +kernel
theorem dX1_worth_85 : decode cX1_worth 85 = .ok (.aload_n 0, 1) := by decide +kernel
theorem dX1_worth_86 : decode cX1_worth 86 = .ok (.getfield 60, 3) := by decide +kernel
theorem dX1_worth_89 : decode cX1_worth 89 = .ok (.invokestatic 94, 3) := by decide +kernel
theorem dX1_worth_92 : decode cX1_worth 92 = .ok (.ireturn, 1) := by decide +kernel
theorem dX1_goesBack_0 : decode cX1_goesBack 0 = .ok (.aload_n 0, 1) := by decide +kernel
theorem dX1_goesBack_1 : decode cX1_goesBack 1 = .ok (.getfield 60, 3) := by decide +kernel
theorem dX1_goesBack_4 : decode cX1_goesBack 4 = .ok (.i2l, 1) := by decide +kernel
theorem dX1_goesBack_5 : decode cX1_goesBack 5 = .ok (.aload_n 0, 1) := by decide +kernel
theorem dX1_goesBack_6 : decode cX1_goesBack 6 = .ok (.invokevirtual 107, 3) := by decide +kernel
theorem dX1_goesBack_9 : decode cX1_goesBack 9 = .ok (.i2l, 1) := by decide +kernel
theorem dX1_goesBack_10 : decode cX1_goesBack 10 = .ok (.invokestatic 111, 3) := by decide +kernel
theorem dX1_goesBack_13 : decode cX1_goesBack 13 = .ok (.lconst 1, 1) := by decide +kernel
theorem dX1_goesBack_14 : decode cX1_goesBack 14 = .ok (.lcmp, 1) := by decide +kernel
theorem dX1_goesBack_15 : decode cX1_goesBack 15 = .ok (.ifCond .ne 7, 3) := by decide +kernel
theorem dX1_goesBack_18 : decode cX1_goesBack 18 = .ok (.iconst 1, 1) := by decide +kernel
theorem dX1_goesBack_19 : decode cX1_goesBack 19 = .ok (.goto 4, 3) := by decide +kernel
theorem dX1_goesBack_22 : decode cX1_goesBack 22 = .ok (.iconst 0, 1) := by decide +kernel
theorem dX1_goesBack_23 : decode cX1_goesBack 23 = .ok (.ireturn, 1) := by decide +kernel
theorem dX1_partCount_0 : decode cX1_partCount 0 = .ok (.iconst 0, 1) := by decide +kernel
theorem dX1_partCount_1 : decode cX1_partCount 1 = .ok (.istore_n 1, 1) := by decide +kernel
theorem dX1_partCount_2 : decode cX1_partCount 2 = .ok (.aload_n 0, 1) := by decide +kernel
theorem dX1_partCount_3 : decode cX1_partCount 3 = .ok (.getfield 31, 3) := by decide +kernel
theorem dX1_partCount_6 : decode cX1_partCount 6 = .ok (.astore_n 2, 1) := by decide +kernel
theorem dX1_partCount_7 : decode cX1_partCount 7 = .ok (.aload_n 2, 1) := by decide +kernel
theorem dX1_partCount_8 : decode cX1_partCount 8 = .ok (.arraylength, 1) := by decide +kernel
theorem dX1_partCount_9 : decode cX1_partCount 9 = .ok (.istore_n 3, 1) := by decide +kernel
theorem dX1_partCount_10 : decode cX1_partCount 10 = .ok (.iconst 0, 1) := by decide +kernel
theorem dX1_partCount_11 : decode cX1_partCount 11 = .ok (.istore 4, 2) := by decide +kernel
theorem dX1_partCount_13 : decode cX1_partCount 13 = .ok (.iload 4, 2) := by decide +kernel
theorem dX1_partCount_15 : decode cX1_partCount 15 = .ok (.iload_n 3, 1) := by decide +kernel
theorem dX1_partCount_16 : decode cX1_partCount 16 = .ok (.if_icmp .ge 32, 3) := by decide +kernel
theorem dX1_partCount_19 : decode cX1_partCount 19 = .ok (.aload_n 2, 1) := by decide +kernel
theorem dX1_partCount_20 : decode cX1_partCount 20 = .ok (.iload 4, 2) := by decide +kernel
theorem dX1_partCount_22 : decode cX1_partCount 22 = .ok (.aaload, 1) := by decide +kernel
theorem dX1_partCount_23 : decode cX1_partCount 23 = .ok (.astore 5, 2) := by decide +kernel
theorem dX1_partCount_25 : decode cX1_partCount 25 = .ok (.iload_n 1, 1) := by decide +kernel
theorem dX1_partCount_26 : decode cX1_partCount 26 = .ok (.aload 5, 2) := by decide +kernel
theorem dX1_partCount_28 : decode cX1_partCount 28 = .ok (.getfield 115, 3) := by decide +kernel
theorem dX1_partCount_31 : decode cX1_partCount 31 = .ok (.iconst 1, 1) := by decide +kernel
theorem dX1_partCount_32 : decode cX1_partCount 32 = .ok (.if_icmp .le 7, 3) := by decide +kernel
theorem dX1_partCount_35 : decode cX1_partCount 35 = .ok (.iconst 1, 1) := by decide +kernel
theorem dX1_partCount_36 : decode cX1_partCount 36 = .ok (.goto 4, 3) := by decide +kernel
theorem dX1_partCount_39 : decode cX1_partCount 39 = .ok (.iconst 0, 1) := by decide +kernel
theorem dX1_partCount_40 : decode cX1_partCount 40 = .ok (.iadd, 1) := by decide +kernel
theorem dX1_partCount_41 : decode cX1_partCount 41 = .ok (.istore_n 1, 1) := by decide +kernel
theorem dX1_partCount_42 : decode cX1_partCount 42 = .ok (.iinc 4 1, 3) := by decide +kernel
theorem dX1_partCount_45 : decode cX1_partCount 45 = .ok (.goto (-32), 3) := by decide +kernel
theorem dX1_partCount_48 : decode cX1_partCount 48 = .ok (.iload_n 1, 1) := by decide +kernel
theorem dX1_partCount_49 : decode cX1_partCount 49 = .ok (.ireturn, 1) := by decide +kernel
theorem dX1_partAt_0 : decode cX1_partAt 0 = .ok (.iload_n 1, 1) := by decide +kernel
theorem dX1_partAt_1 : decode cX1_partAt 1 = .ok (.ifCond .lt 11, 3) := by decide +kernel
theorem dX1_partAt_4 : decode cX1_partAt 4 = .ok (.iload_n 1, 1) := by decide +kernel
theorem dX1_partAt_5 : decode cX1_partAt 5 = .ok (.aload_n 0, 1) := by decide +kernel
theorem dX1_partAt_6 : decode cX1_partAt 6 = .ok (.invokevirtual 118, 3) := by decide +kernel
theorem dX1_partAt_9 : decode cX1_partAt 9 = .ok (.if_icmp .lt 7, 3) := by decide +kernel
theorem dX1_partAt_12 : decode cX1_partAt 12 = .ok (.aconst_null, 1) := by decide +kernel
theorem dX1_partAt_13 : decode cX1_partAt 13 = .ok (.goto 9, 3) := by decide +kernel
theorem dX1_partAt_16 : decode cX1_partAt 16 = .ok (.aload_n 0, 1) := by decide +kernel
theorem dX1_partAt_17 : decode cX1_partAt 17 = .ok (.getfield 31, 3) := by decide +kernel
theorem dX1_partAt_20 : decode cX1_partAt 20 = .ok (.iload_n 1, 1) := by decide +kernel
theorem dX1_partAt_21 : decode cX1_partAt 21 = .ok (.aaload, 1) := by decide +kernel
theorem dX1_partAt_22 : decode cX1_partAt 22 = .ok (.areturn, 1) := by decide +kernel
theorem dX1_oneRoundHoldsAll_0 : decode cX1_oneRoundHoldsAll 0 = .ok (.aload_n 0, 1) := by decide +kernel
theorem dX1_oneRoundHoldsAll_1 : decode cX1_oneRoundHoldsAll 1 = .ok (.getfield 39, 3) := by decide +kernel
theorem dX1_oneRoundHoldsAll_4 : decode cX1_oneRoundHoldsAll 4 = .ok (.iconst 0, 1) := by decide +kernel
theorem dX1_oneRoundHoldsAll_5 : decode cX1_oneRoundHoldsAll 5 = .ok (.iconst 0, 1) := by decide +kernel
theorem dX1_oneRoundHoldsAll_6 : decode cX1_oneRoundHoldsAll 6 = .ok (.invokevirtual 121, 3) := by decide +kernel
theorem dX1_oneRoundHoldsAll_9 : decode cX1_oneRoundHoldsAll 9 = .ok (.iconst 1, 1) := by decide +kernel
theorem dX1_oneRoundHoldsAll_10 : decode cX1_oneRoundHoldsAll 10 = .ok (.isub, 1) := by decide +kernel
theorem dX1_oneRoundHoldsAll_11 : decode cX1_oneRoundHoldsAll 11 = .ok (.istore_n 1, 1) := by decide +kernel
theorem dX1_oneRoundHoldsAll_12 : decode cX1_oneRoundHoldsAll 12 = .ok (.aload_n 0, 1) := by decide +kernel
theorem dX1_oneRoundHoldsAll_13 : decode cX1_oneRoundHoldsAll 13 = .ok (.getfield 60, 3) := by decide +kernel
theorem dX1_oneRoundHoldsAll_16 : decode cX1_oneRoundHoldsAll 16 = .ok (.i2l, 1) := by decide +kernel
theorem dX1_oneRoundHoldsAll_17 : decode cX1_oneRoundHoldsAll 17 = .ok (.aload_n 0, 1) := by decide +kernel
theorem dX1_oneRoundHoldsAll_18 : decode cX1_oneRoundHoldsAll 18 = .ok (.getfield 39, 3) := by decide +kernel
theorem dX1_oneRoundHoldsAll_21 : decode cX1_oneRoundHoldsAll 21 = .ok (.iconst 0, 1) := by decide +kernel
theorem dX1_oneRoundHoldsAll_22 : decode cX1_oneRoundHoldsAll 22 = .ok (.iconst 4, 1) := by decide +kernel
theorem dX1_oneRoundHoldsAll_23 : decode cX1_oneRoundHoldsAll 23 = .ok (.invokevirtual 121, 3) := by decide +kernel
theorem dX1_oneRoundHoldsAll_26 : decode cX1_oneRoundHoldsAll 26 = .ok (.i2l, 1) := by decide +kernel
theorem dX1_oneRoundHoldsAll_27 : decode cX1_oneRoundHoldsAll 27 = .ok (.invokestatic 111, 3) := by decide +kernel
theorem dX1_oneRoundHoldsAll_30 : decode cX1_oneRoundHoldsAll 30 = .ok (.lconst 1, 1) := by decide +kernel
theorem dX1_oneRoundHoldsAll_31 : decode cX1_oneRoundHoldsAll 31 = .ok (.lcmp, 1) := by decide +kernel
theorem dX1_oneRoundHoldsAll_32 : decode cX1_oneRoundHoldsAll 32 = .ok (.ifCond .eq 5, 3) := by decide +kernel
theorem dX1_oneRoundHoldsAll_35 : decode cX1_oneRoundHoldsAll 35 = .ok (.iconst 0, 1) := by decide +kernel
theorem dX1_oneRoundHoldsAll_36 : decode cX1_oneRoundHoldsAll 36 = .ok (.ireturn, 1) := by decide +kernel
theorem dX1_oneRoundHoldsAll_37 : decode cX1_oneRoundHoldsAll 37 = .ok (.aload_n 0, 1) := by decide +kernel
theorem dX1_oneRoundHoldsAll_38 : decode cX1_oneRoundHoldsAll 38 = .ok (.getfield 31, 3) := by decide +kernel
theorem dX1_oneRoundHoldsAll_41 : decode cX1_oneRoundHoldsAll 41 = .ok (.astore_n 2, 1) := by decide +kernel
theorem dX1_oneRoundHoldsAll_42 : decode cX1_oneRoundHoldsAll 42 = .ok (.aload_n 2, 1) := by decide +kernel
theorem dX1_oneRoundHoldsAll_43 : decode cX1_oneRoundHoldsAll 43 = .ok (.arraylength, 1) := by decide +kernel
theorem dX1_oneRoundHoldsAll_44 : decode cX1_oneRoundHoldsAll 44 = .ok (.istore_n 3, 1) := by decide +kernel
theorem dX1_oneRoundHoldsAll_45 : decode cX1_oneRoundHoldsAll 45 = .ok (.iconst 0, 1) := by decide +kernel
theorem dX1_oneRoundHoldsAll_46 : decode cX1_oneRoundHoldsAll 46 = .ok (.istore 4, 2) := by decide +kernel
theorem dX1_oneRoundHoldsAll_48 : decode cX1_oneRoundHoldsAll 48 = .ok (.iload 4, 2) := by decide +kernel
theorem dX1_oneRoundHoldsAll_50 : decode cX1_oneRoundHoldsAll 50 = .ok (.iload_n 3, 1) := by decide +kernel
theorem dX1_oneRoundHoldsAll_51 : decode cX1_oneRoundHoldsAll 51 = .ok (.if_icmp .ge 57, 3) := by decide +kernel
theorem dX1_oneRoundHoldsAll_54 : decode cX1_oneRoundHoldsAll 54 = .ok (.aload_n 2, 1) := by decide +kernel
theorem dX1_oneRoundHoldsAll_55 : decode cX1_oneRoundHoldsAll 55 = .ok (.iload 4, 2) := by decide +kernel
theorem dX1_oneRoundHoldsAll_57 : decode cX1_oneRoundHoldsAll 57 = .ok (.aaload, 1) := by decide +kernel
theorem dX1_oneRoundHoldsAll_58 : decode cX1_oneRoundHoldsAll 58 = .ok (.astore 5, 2) := by decide +kernel
theorem dX1_oneRoundHoldsAll_60 : decode cX1_oneRoundHoldsAll 60 = .ok (.aload 5, 2) := by decide +kernel
theorem dX1_oneRoundHoldsAll_62 : decode cX1_oneRoundHoldsAll 62 = .ok (.getfield 115, 3) := by decide +kernel
theorem dX1_oneRoundHoldsAll_65 : decode cX1_oneRoundHoldsAll 65 = .ok (.iconst 4, 1) := by decide +kernel
theorem dX1_oneRoundHoldsAll_66 : decode cX1_oneRoundHoldsAll 66 = .ok (.irem, 1) := by decide +kernel
theorem dX1_oneRoundHoldsAll_67 : decode cX1_oneRoundHoldsAll 67 = .ok (.ifCond .ne 7, 3) := by decide +kernel
theorem dX1_oneRoundHoldsAll_70 : decode cX1_oneRoundHoldsAll 70 = .ok (.iconst 4, 1) := by decide +kernel
theorem dX1_oneRoundHoldsAll_71 : decode cX1_oneRoundHoldsAll 71 = .ok (.goto 8, 3) := by decide +kernel
theorem dX1_oneRoundHoldsAll_74 : decode cX1_oneRoundHoldsAll 74 = .ok (.aload 5, 2) := by decide +kernel
theorem dX1_oneRoundHoldsAll_76 : decode cX1_oneRoundHoldsAll 76 = .ok (.getfield 125, 3) := by decide +kernel
theorem dX1_oneRoundHoldsAll_79 : decode cX1_oneRoundHoldsAll 79 = .ok (.istore 6, 2) := by decide +kernel
theorem dX1_oneRoundHoldsAll_81 : decode cX1_oneRoundHoldsAll 81 = .ok (.aload 5, 2) := by decide +kernel
theorem dX1_oneRoundHoldsAll_83 : decode cX1_oneRoundHoldsAll 83 = .ok (.getfield 115, 3) := by decide +kernel
theorem dX1_oneRoundHoldsAll_86 : decode cX1_oneRoundHoldsAll 86 = .ok (.iconst 1, 1) := by decide +kernel
theorem dX1_oneRoundHoldsAll_87 : decode cX1_oneRoundHoldsAll 87 = .ok (.if_icmp .le 15, 3) := by decide +kernel
theorem dX1_oneRoundHoldsAll_90 : decode cX1_oneRoundHoldsAll 90 = .ok (.iload_n 1, 1) := by decide +kernel
theorem dX1_oneRoundHoldsAll_91 : decode cX1_oneRoundHoldsAll 91 = .ok (.i2l, 1) := by decide +kernel
theorem dX1_oneRoundHoldsAll_92 : decode cX1_oneRoundHoldsAll 92 = .ok (.iload 6, 2) := by decide +kernel
theorem dX1_oneRoundHoldsAll_94 : decode cX1_oneRoundHoldsAll 94 = .ok (.invokestatic 94, 3) := by decide +kernel
theorem dX1_oneRoundHoldsAll_97 : decode cX1_oneRoundHoldsAll 97 = .ok (.ifCond .eq 5, 3) := by decide +kernel
theorem dX1_oneRoundHoldsAll_100 : decode cX1_oneRoundHoldsAll 100 = .ok (.iconst 0, 1) := by decide +kernel
theorem dX1_oneRoundHoldsAll_101 : decode cX1_oneRoundHoldsAll 101 = .ok (.ireturn, 1) := by decide +kernel
theorem dX1_oneRoundHoldsAll_102 : decode cX1_oneRoundHoldsAll 102 = .ok (.iinc 4 1, 3) := by decide +kernel
theorem dX1_oneRoundHoldsAll_105 : decode cX1_oneRoundHoldsAll 105 = .ok (.goto (-57), 3) := by decide +kernel
theorem dX1_oneRoundHoldsAll_108 : decode cX1_oneRoundHoldsAll 108 = .ok (.iconst 1, 1) := by decide +kernel
theorem dX1_oneRoundHoldsAll_109 : decode cX1_oneRoundHoldsAll 109 = .ok (.ireturn, 1) := by decide +kernel
theorem dX1_findParts_0 : decode cX1_findParts 0 = .ok (.aload_n 0, 1) := by decide +kernel
theorem dX1_findParts_1 : decode cX1_findParts 1 = .ok (.getfield 60, 3) := by decide +kernel
theorem dX1_findParts_4 : decode cX1_findParts 4 = .ok (.istore_n 1, 1) := by decide +kernel
theorem dX1_findParts_5 : decode cX1_findParts 5 = .ok (.iconst 2, 1) := by decide +kernel
theorem dX1_findParts_6 : decode cX1_findParts 6 = .ok (.istore_n 2, 1) := by decide +kernel
theorem dX1_findParts_7 : decode cX1_findParts 7 = .ok (.aload_n 0, 1) := by decide +kernel
theorem dX1_findParts_8 : decode cX1_findParts 8 = .ok (.getfield 31, 3) := by decide +kernel
theorem dX1_findParts_11 : decode cX1_findParts 11 = .ok (.astore_n 3, 1) := by decide +kernel
theorem dX1_findParts_12 : decode cX1_findParts 12 = .ok (.aload_n 3, 1) := by decide +kernel
theorem dX1_findParts_13 : decode cX1_findParts 13 = .ok (.arraylength, 1) := by decide +kernel
theorem dX1_findParts_14 : decode cX1_findParts 14 = .ok (.istore 4, 2) := by decide +kernel
theorem dX1_findParts_16 : decode cX1_findParts 16 = .ok (.iconst 0, 1) := by decide +kernel
theorem dX1_findParts_17 : decode cX1_findParts 17 = .ok (.istore 5, 2) := by decide +kernel
theorem dX1_findParts_19 : decode cX1_findParts 19 = .ok (.iload 5, 2) := by decide +kernel
theorem dX1_findParts_21 : decode cX1_findParts 21 = .ok (.iload 4, 2) := by decide +kernel
theorem dX1_findParts_23 : decode cX1_findParts 23 = .ok (.if_icmp .ge 50, 3) := by decide +kernel
theorem dX1_findParts_26 : decode cX1_findParts 26 = .ok (.aload_n 3, 1) := by decide +kernel
theorem dX1_findParts_27 : decode cX1_findParts 27 = .ok (.iload 5, 2) := by decide +kernel
theorem dX1_findParts_29 : decode cX1_findParts 29 = .ok (.aaload, 1) := by decide +kernel
theorem dX1_findParts_30 : decode cX1_findParts 30 = .ok (.astore 6, 2) := by decide +kernel
theorem dX1_findParts_32 : decode cX1_findParts 32 = .ok (.aload 6, 2) := by decide +kernel
theorem dX1_findParts_34 : decode cX1_findParts 34 = .ok (.invokevirtual 128, 3) := by decide +kernel
theorem dX1_findParts_37 : decode cX1_findParts 37 = .ok (.iload_n 2, 1) := by decide +kernel
theorem dX1_findParts_38 : decode cX1_findParts 38 = .ok (.iload_n 1, 1) := by decide +kernel
theorem dX1_findParts_39 : decode cX1_findParts 39 = .ok (.if_icmp .gt 15, 3) := by decide +kernel
theorem dX1_findParts_42 : decode cX1_findParts 42 = .ok (.iload_n 1, 1) := by decide +kernel
theorem dX1_findParts_43 : decode cX1_findParts 43 = .ok (.iload_n 2, 1) := by decide +kernel
theorem dX1_findParts_44 : decode cX1_findParts 44 = .ok (.irem, 1) := by decide +kernel
theorem dX1_findParts_45 : decode cX1_findParts 45 = .ok (.ifCond .eq 9, 3) := by decide +kernel
theorem dX1_findParts_48 : decode cX1_findParts 48 = .ok (.iinc 2 1, 3) := by decide +kernel
theorem dX1_findParts_51 : decode cX1_findParts 51 = .ok (.goto (-14), 3) := by decide +kernel
theorem dX1_findParts_54 : decode cX1_findParts 54 = .ok (.iload_n 2, 1) := by decide +kernel
theorem dX1_findParts_55 : decode cX1_findParts 55 = .ok (.iload_n 1, 1) := by decide +kernel
theorem dX1_findParts_56 : decode cX1_findParts 56 = .ok (.if_icmp .gt 11, 3) := by decide +kernel
theorem dX1_findParts_59 : decode cX1_findParts 59 = .ok (.aload 6, 2) := by decide +kernel
theorem dX1_findParts_61 : decode cX1_findParts 61 = .ok (.iload_n 2, 1) := by decide +kernel
theorem dX1_findParts_62 : decode cX1_findParts 62 = .ok (.iload_n 1, 1) := by decide +kernel
theorem dX1_findParts_63 : decode cX1_findParts 63 = .ok (.invokevirtual 131, 3) := by decide +kernel
theorem dX1_findParts_66 : decode cX1_findParts 66 = .ok (.istore_n 1, 1) := by decide +kernel
theorem dX1_findParts_67 : decode cX1_findParts 67 = .ok (.iinc 5 1, 3) := by decide +kernel
theorem dX1_findParts_70 : decode cX1_findParts 70 = .ok (.goto (-51), 3) := by decide +kernel
theorem dX1_findParts_73 : decode cX1_findParts 73 = .ok (.return_, 1) := by decide +kernel
theorem dX1_pairs_0 : decode cX1_pairs 0 = .ok (.aload_n 0, 1) := by decide +kernel
theorem dX1_pairs_1 : decode cX1_pairs 1 = .ok (.iconst 0, 1) := by decide +kernel
theorem dX1_pairs_2 : decode cX1_pairs 2 = .ok (.iload_n 1, 1) := by decide +kernel
theorem dX1_pairs_3 : decode cX1_pairs 3 = .ok (.invokevirtual 134, 3) := by decide +kernel
theorem dX1_pairs_6 : decode cX1_pairs 6 = .ok (.aload_n 0, 1) := by decide +kernel
theorem dX1_pairs_7 : decode cX1_pairs 7 = .ok (.iconst 1, 1) := by decide +kernel
theorem dX1_pairs_8 : decode cX1_pairs 8 = .ok (.iload_n 2, 1) := by decide +kernel
theorem dX1_pairs_9 : decode cX1_pairs 9 = .ok (.invokevirtual 134, 3) := by decide +kernel
theorem dX1_pairs_12 : decode cX1_pairs 12 = .ok (.lmul, 1) := by decide +kernel
theorem dX1_pairs_13 : decode cX1_pairs 13 = .ok (.aload_n 0, 1) := by decide +kernel
theorem dX1_pairs_14 : decode cX1_pairs 14 = .ok (.iconst 0, 1) := by decide +kernel
theorem dX1_pairs_15 : decode cX1_pairs 15 = .ok (.iload_n 2, 1) := by decide +kernel
theorem dX1_pairs_16 : decode cX1_pairs 16 = .ok (.invokevirtual 134, 3) := by decide +kernel
theorem dX1_pairs_19 : decode cX1_pairs 19 = .ok (.aload_n 0, 1) := by decide +kernel
theorem dX1_pairs_20 : decode cX1_pairs 20 = .ok (.iconst 1, 1) := by decide +kernel
theorem dX1_pairs_21 : decode cX1_pairs 21 = .ok (.iload_n 1, 1) := by decide +kernel
theorem dX1_pairs_22 : decode cX1_pairs 22 = .ok (.invokevirtual 134, 3) := by decide +kernel
theorem dX1_pairs_25 : decode cX1_pairs 25 = .ok (.lmul, 1) := by decide +kernel
theorem dX1_pairs_26 : decode cX1_pairs 26 = .ok (.lsub, 1) := by decide +kernel
theorem dX1_pairs_27 : decode cX1_pairs 27 = .ok (.lreturn, 1) := by decide +kernel
theorem dX1_lowPairs_0 : decode cX1_lowPairs 0 = .ok (.aload_n 0, 1) := by decide +kernel
theorem dX1_lowPairs_1 : decode cX1_lowPairs 1 = .ok (.iconst 2, 1) := by decide +kernel
theorem dX1_lowPairs_2 : decode cX1_lowPairs 2 = .ok (.iload_n 1, 1) := by decide +kernel
theorem dX1_lowPairs_3 : decode cX1_lowPairs 3 = .ok (.invokevirtual 134, 3) := by decide +kernel
theorem dX1_lowPairs_6 : decode cX1_lowPairs 6 = .ok (.aload_n 0, 1) := by decide +kernel
theorem dX1_lowPairs_7 : decode cX1_lowPairs 7 = .ok (.iconst 3, 1) := by decide +kernel
theorem dX1_lowPairs_8 : decode cX1_lowPairs 8 = .ok (.iload_n 2, 1) := by decide +kernel
theorem dX1_lowPairs_9 : decode cX1_lowPairs 9 = .ok (.invokevirtual 134, 3) := by decide +kernel
theorem dX1_lowPairs_12 : decode cX1_lowPairs 12 = .ok (.lmul, 1) := by decide +kernel
theorem dX1_lowPairs_13 : decode cX1_lowPairs 13 = .ok (.aload_n 0, 1) := by decide +kernel
theorem dX1_lowPairs_14 : decode cX1_lowPairs 14 = .ok (.iconst 2, 1) := by decide +kernel
theorem dX1_lowPairs_15 : decode cX1_lowPairs 15 = .ok (.iload_n 2, 1) := by decide +kernel
theorem dX1_lowPairs_16 : decode cX1_lowPairs 16 = .ok (.invokevirtual 134, 3) := by decide +kernel
theorem dX1_lowPairs_19 : decode cX1_lowPairs 19 = .ok (.aload_n 0, 1) := by decide +kernel
theorem dX1_lowPairs_20 : decode cX1_lowPairs 20 = .ok (.iconst 3, 1) := by decide +kernel
theorem dX1_lowPairs_21 : decode cX1_lowPairs 21 = .ok (.iload_n 1, 1) := by decide +kernel
theorem dX1_lowPairs_22 : decode cX1_lowPairs 22 = .ok (.invokevirtual 134, 3) := by decide +kernel
theorem dX1_lowPairs_25 : decode cX1_lowPairs 25 = .ok (.lmul, 1) := by decide +kernel
theorem dX1_lowPairs_26 : decode cX1_lowPairs 26 = .ok (.lsub, 1) := by decide +kernel
theorem dX1_lowPairs_27 : decode cX1_lowPairs 27 = .ok (.lreturn, 1) := by decide +kernel
theorem dX1_square_0 : decode cX1_square 0 = .ok (.iload_n 1, 1) := by decide +kernel
theorem dX1_square_1 : decode cX1_square 1 = .ok (.aload_n 0, 1) := by decide +kernel
theorem dX1_square_2 : decode cX1_square 2 = .ok (.getfield 63, 3) := by decide +kernel
theorem dX1_square_5 : decode cX1_square 5 = .ok (.if_icmp .ge 22, 3) := by decide +kernel
theorem dX1_square_8 : decode cX1_square 8 = .ok (.iload_n 2, 1) := by decide +kernel
theorem dX1_square_9 : decode cX1_square 9 = .ok (.aload_n 0, 1) := by decide +kernel
theorem dX1_square_10 : decode cX1_square 10 = .ok (.getfield 63, 3) := by decide +kernel
theorem dX1_square_13 : decode cX1_square 13 = .ok (.if_icmp .ge 14, 3) := by decide +kernel
theorem dX1_square_16 : decode cX1_square 16 = .ok (.aload_n 0, 1) := by decide +kernel
theorem dX1_square_17 : decode cX1_square 17 = .ok (.getfield 39, 3) := by decide +kernel
theorem dX1_square_20 : decode cX1_square 20 = .ok (.iload_n 1, 1) := by decide +kernel
theorem dX1_square_21 : decode cX1_square 21 = .ok (.iload_n 2, 1) := by decide +kernel
theorem dX1_square_22 : decode cX1_square 22 = .ok (.invokevirtual 121, 3) := by decide +kernel
theorem dX1_square_25 : decode cX1_square 25 = .ok (.i2l, 1) := by decide +kernel
theorem dX1_square_26 : decode cX1_square 26 = .ok (.lreturn, 1) := by decide +kernel
theorem dX1_square_27 : decode cX1_square 27 = .ok (.iload_n 1, 1) := by decide +kernel
theorem dX1_square_28 : decode cX1_square 28 = .ok (.iload_n 2, 1) := by decide +kernel
theorem dX1_square_29 : decode cX1_square 29 = .ok (.if_icmp .ne 7, 3) := by decide +kernel
theorem dX1_square_32 : decode cX1_square 32 = .ok (.lconst 1, 1) := by decide +kernel
theorem dX1_square_33 : decode cX1_square 33 = .ok (.goto 4, 3) := by decide +kernel
theorem dX1_square_36 : decode cX1_square 36 = .ok (.lconst 0, 1) := by decide +kernel
theorem dX1_square_37 : decode cX1_square 37 = .ok (.lreturn, 1) := by decide +kernel
theorem dX6_init_0 : decode cX6_init 0 = .ok (.aload_n 0, 1) := by decide +kernel
theorem dX6_init_1 : decode cX6_init 1 = .ok (.invokespecial 5, 3) := by decide +kernel
theorem dX6_init_4 : decode cX6_init 4 = .ok (.aload_n 0, 1) := by decide +kernel
theorem dX6_init_5 : decode cX6_init 5 = .ok (.bipush 63, 2) := by decide +kernel
theorem dX6_init_7 : decode cX6_init 7 = .ok (.bipush 20, 2) := by decide +kernel
theorem dX6_init_9 : decode cX6_init 9 = .ok (.multianewarray 11 2, 4) := by decide +kernel
theorem dX6_init_13 : decode cX6_init 13 = .ok (.putfield 13, 3) := by decide +kernel
theorem dX6_init_16 : decode cX6_init 16 = .ok (.aload_n 0, 1) := by decide +kernel
theorem dX6_init_17 : decode cX6_init 17 = .ok (.bipush 20, 2) := by decide +kernel
theorem dX6_init_19 : decode cX6_init 19 = .ok (.newarray .int, 2) := by decide +kernel
theorem dX6_init_21 : decode cX6_init 21 = .ok (.putfield 16, 3) := by decide +kernel
theorem dX6_init_24 : decode cX6_init 24 = .ok (.aload_n 0, 1) := by decide +kernel
theorem dX6_init_25 : decode cX6_init 25 = .ok (.iconst 4, 1) := by decide +kernel
theorem dX6_init_26 : decode cX6_init 26 = .ok (.newarray .int, 2) := by decide +kernel
theorem dX6_init_28 : decode cX6_init 28 = .ok (.putfield 20, 3) := by decide +kernel
theorem dX6_init_31 : decode cX6_init 31 = .ok (.aload_n 0, 1) := by decide +kernel
theorem dX6_init_32 : decode cX6_init 32 = .ok (.iconst 1, 1) := by decide +kernel
theorem dX6_init_33 : decode cX6_init 33 = .ok (.putfield 23, 3) := by decide +kernel
theorem dX6_init_36 : decode cX6_init 36 = .ok (.aload_n 0, 1) := by decide +kernel
theorem dX6_init_37 : decode cX6_init 37 = .ok (.iconst 1, 1) := by decide +kernel
theorem dX6_init_38 : decode cX6_init 38 = .ok (.putfield 27, 3) := by decide +kernel
theorem dX6_init_41 : decode cX6_init 41 = .ok (.aload_n 0, 1) := by decide +kernel
theorem dX6_init_42 : decode cX6_init 42 = .ok (.iconst 1, 1) := by decide +kernel
theorem dX6_init_43 : decode cX6_init 43 = .ok (.putfield 30, 3) := by decide +kernel
theorem dX6_init_46 : decode cX6_init 46 = .ok (.return_, 1) := by decide +kernel
theorem dX6_clear_0 : decode cX6_clear 0 = .ok (.aload_n 0, 1) := by decide +kernel
theorem dX6_clear_1 : decode cX6_clear 1 = .ok (.getfield 13, 3) := by decide +kernel
theorem dX6_clear_4 : decode cX6_clear 4 = .ok (.iconst 0, 1) := by decide +kernel
theorem dX6_clear_5 : decode cX6_clear 5 = .ok (.aaload, 1) := by decide +kernel
theorem dX6_clear_6 : decode cX6_clear 6 = .ok (.iconst 0, 1) := by decide +kernel
theorem dX6_clear_7 : decode cX6_clear 7 = .ok (.invokestatic 33, 3) := by decide +kernel
theorem dX6_clear_10 : decode cX6_clear 10 = .ok (.aload_n 0, 1) := by decide +kernel
theorem dX6_clear_11 : decode cX6_clear 11 = .ok (.iconst 1, 1) := by decide +kernel
theorem dX6_clear_12 : decode cX6_clear 12 = .ok (.putfield 23, 3) := by decide +kernel
theorem dX6_clear_15 : decode cX6_clear 15 = .ok (.aload_n 0, 1) := by decide +kernel
theorem dX6_clear_16 : decode cX6_clear 16 = .ok (.iload_n 1, 1) := by decide +kernel
theorem dX6_clear_17 : decode cX6_clear 17 = .ok (.putfield 27, 3) := by decide +kernel
theorem dX6_clear_20 : decode cX6_clear 20 = .ok (.aload_n 0, 1) := by decide +kernel
theorem dX6_clear_21 : decode cX6_clear 21 = .ok (.iload_n 2, 1) := by decide +kernel
theorem dX6_clear_22 : decode cX6_clear 22 = .ok (.putfield 30, 3) := by decide +kernel
theorem dX6_clear_25 : decode cX6_clear 25 = .ok (.return_, 1) := by decide +kernel
theorem dX6_put_0 : decode cX6_put 0 = .ok (.aload_n 0, 1) := by decide +kernel
theorem dX6_put_1 : decode cX6_put 1 = .ok (.getfield 13, 3) := by decide +kernel
theorem dX6_put_4 : decode cX6_put 4 = .ok (.iconst 0, 1) := by decide +kernel
theorem dX6_put_5 : decode cX6_put 5 = .ok (.aaload, 1) := by decide +kernel
theorem dX6_put_6 : decode cX6_put 6 = .ok (.iload_n 1, 1) := by decide +kernel
theorem dX6_put_7 : decode cX6_put 7 = .ok (.iconst 5, 1) := by decide +kernel
theorem dX6_put_8 : decode cX6_put 8 = .ok (.imul, 1) := by decide +kernel
theorem dX6_put_9 : decode cX6_put 9 = .ok (.iload_n 2, 1) := by decide +kernel
theorem dX6_put_10 : decode cX6_put 10 = .ok (.iadd, 1) := by decide +kernel
theorem dX6_put_11 : decode cX6_put 11 = .ok (.iload_n 3, 1) := by decide +kernel
theorem dX6_put_12 : decode cX6_put 12 = .ok (.iastore, 1) := by decide +kernel
theorem dX6_put_13 : decode cX6_put 13 = .ok (.aload_n 0, 1) := by decide +kernel
theorem dX6_put_14 : decode cX6_put 14 = .ok (.iconst 1, 1) := by decide +kernel
theorem dX6_put_15 : decode cX6_put 15 = .ok (.putfield 23, 3) := by decide +kernel
theorem dX6_put_18 : decode cX6_put 18 = .ok (.return_, 1) := by decide +kernel
theorem dX6_told_0 : decode cX6_told 0 = .ok (.aload_n 0, 1) := by decide +kernel
theorem dX6_told_1 : decode cX6_told 1 = .ok (.getfield 13, 3) := by decide +kernel
theorem dX6_told_4 : decode cX6_told 4 = .ok (.iconst 0, 1) := by decide +kernel
theorem dX6_told_5 : decode cX6_told 5 = .ok (.aaload, 1) := by decide +kernel
theorem dX6_told_6 : decode cX6_told 6 = .ok (.iload_n 1, 1) := by decide +kernel
theorem dX6_told_7 : decode cX6_told 7 = .ok (.iconst 5, 1) := by decide +kernel
theorem dX6_told_8 : decode cX6_told 8 = .ok (.imul, 1) := by decide +kernel
theorem dX6_told_9 : decode cX6_told 9 = .ok (.iload_n 2, 1) := by decide +kernel
theorem dX6_told_10 : decode cX6_told 10 = .ok (.iadd, 1) := by decide +kernel
theorem dX6_told_11 : decode cX6_told 11 = .ok (.iaload, 1) := by decide +kernel
theorem dX6_told_12 : decode cX6_told 12 = .ok (.ireturn, 1) := by decide +kernel
theorem dX6_settling_0 : decode cX6_settling 0 = .ok (.aload_n 0, 1) := by decide +kernel
theorem dX6_settling_1 : decode cX6_settling 1 = .ok (.ldc2_w 39, 3) := by decide +kernel
theorem dX6_settling_4 : decode cX6_settling 4 = .ok (.invokevirtual 41, 3) := by decide +kernel
theorem dX6_settling_7 : decode cX6_settling 7 = .ok (.aload_n 0, 1) := by decide +kernel
theorem dX6_settling_8 : decode cX6_settling 8 = .ok (.getfield 13, 3) := by decide +kernel
theorem dX6_settling_11 : decode cX6_settling 11 = .ok (.iconst 5, 1) := by decide +kernel
theorem dX6_settling_12 : decode cX6_settling 12 = .ok (.aaload, 1) := by decide +kernel
theorem dX6_settling_13 : decode cX6_settling 13 = .ok (.areturn, 1) := by decide +kernel
theorem dX6_carryRow_0 : decode cX6_carryRow 0 = .ok (.aload_n 0, 1) := by decide +kernel
theorem dX6_carryRow_1 : decode cX6_carryRow 1 = .ok (.lload_n 1, 1) := by decide +kernel
theorem dX6_carryRow_2 : decode cX6_carryRow 2 = .ok (.invokevirtual 41, 3) := by decide +kernel
theorem dX6_carryRow_5 : decode cX6_carryRow 5 = .ok (.iconst 0, 1) := by decide +kernel
theorem dX6_carryRow_6 : decode cX6_carryRow 6 = .ok (.istore 4, 2) := by decide +kernel
theorem dX6_carryRow_8 : decode cX6_carryRow 8 = .ok (.iload 4, 2) := by decide +kernel
theorem dX6_carryRow_10 : decode cX6_carryRow 10 = .ok (.aload_n 0, 1) := by decide +kernel
theorem dX6_carryRow_11 : decode cX6_carryRow 11 = .ok (.getfield 23, 3) := by decide +kernel
theorem dX6_carryRow_14 : decode cX6_carryRow 14 = .ok (.if_icmp .ge 59, 3) := by decide +kernel
theorem dX6_carryRow_17 : decode cX6_carryRow 17 = .ok (.lload_n 1, 1) := by decide +kernel
theorem dX6_carryRow_18 : decode cX6_carryRow 18 = .ok (.iload 4, 2) := by decide +kernel
theorem dX6_carryRow_20 : decode cX6_carryRow 20 = .ok (.lushr, 1) := by decide +kernel
theorem dX6_carryRow_21 : decode cX6_carryRow 21 = .ok (.lconst 0, 1) := by decide +kernel
theorem dX6_carryRow_22 : decode cX6_carryRow 22 = .ok (.lcmp, 1) := by decide +kernel
theorem dX6_carryRow_23 : decode cX6_carryRow 23 = .ok (.ifCond .eq 50, 3) := by decide +kernel
theorem dX6_carryRow_26 : decode cX6_carryRow 26 = .ok (.lload_n 1, 1) := by decide +kernel
theorem dX6_carryRow_27 : decode cX6_carryRow 27 = .ok (.iload 4, 2) := by decide +kernel
theorem dX6_carryRow_29 : decode cX6_carryRow 29 = .ok (.lushr, 1) := by decide +kernel
theorem dX6_carryRow_30 : decode cX6_carryRow 30 = .ok (.lconst 1, 1) := by decide +kernel
theorem dX6_carryRow_31 : decode cX6_carryRow 31 = .ok (.land, 1) := by decide +kernel
theorem dX6_carryRow_32 : decode cX6_carryRow 32 = .ok (.lconst 1, 1) := by decide +kernel
theorem dX6_carryRow_33 : decode cX6_carryRow 33 = .ok (.lcmp, 1) := by decide +kernel
theorem dX6_carryRow_34 : decode cX6_carryRow 34 = .ok (.ifCond .ne 33, 3) := by decide +kernel
theorem dX6_carryRow_37 : decode cX6_carryRow 37 = .ok (.aload_n 0, 1) := by decide +kernel
theorem dX6_carryRow_38 : decode cX6_carryRow 38 = .ok (.aload_n 0, 1) := by decide +kernel
theorem dX6_carryRow_39 : decode cX6_carryRow 39 = .ok (.getfield 13, 3) := by decide +kernel
theorem dX6_carryRow_42 : decode cX6_carryRow 42 = .ok (.iload 4, 2) := by decide +kernel
theorem dX6_carryRow_44 : decode cX6_carryRow 44 = .ok (.aaload, 1) := by decide +kernel
theorem dX6_carryRow_45 : decode cX6_carryRow 45 = .ok (.aload_n 3, 1) := by decide +kernel
theorem dX6_carryRow_46 : decode cX6_carryRow 46 = .ok (.aload_n 0, 1) := by decide +kernel
theorem dX6_carryRow_47 : decode cX6_carryRow 47 = .ok (.getfield 20, 3) := by decide +kernel
theorem dX6_carryRow_50 : decode cX6_carryRow 50 = .ok (.invokevirtual 45, 3) := by decide +kernel
theorem dX6_carryRow_53 : decode cX6_carryRow 53 = .ok (.aload_n 0, 1) := by decide +kernel
theorem dX6_carryRow_54 : decode cX6_carryRow 54 = .ok (.getfield 20, 3) := by decide +kernel
theorem dX6_carryRow_57 : decode cX6_carryRow 57 = .ok (.iconst 0, 1) := by decide +kernel
theorem dX6_carryRow_58 : decode cX6_carryRow 58 = .ok (.aload_n 3, 1) := by decide +kernel
theorem dX6_carryRow_59 : decode cX6_carryRow 59 = .ok (.iconst 0, 1) := by decide +kernel
theorem dX6_carryRow_60 : decode cX6_carryRow 60 = .ok (.aload_n 0, 1) := by decide +kernel
theorem dX6_carryRow_61 : decode cX6_carryRow 61 = .ok (.getfield 30, 3) := by decide +kernel
theorem dX6_carryRow_64 : decode cX6_carryRow 64 = .ok (.invokestatic 49, 3) := by decide +kernel
theorem dX6_carryRow_67 : decode cX6_carryRow 67 = .ok (.iinc 4 1, 3) := by decide +kernel
theorem dX6_carryRow_70 : decode cX6_carryRow 70 = .ok (.goto (-62), 3) := by decide +kernel
theorem dX6_carryRow_73 : decode cX6_carryRow 73 = .ok (.return_, 1) := by decide +kernel
theorem dX6_carryStep_0 : decode cX6_carryStep 0 = .ok (.aload_n 0, 1) := by decide +kernel
theorem dX6_carryStep_1 : decode cX6_carryStep 1 = .ok (.lload_n 1, 1) := by decide +kernel
theorem dX6_carryStep_2 : decode cX6_carryStep 2 = .ok (.invokevirtual 41, 3) := by decide +kernel
theorem dX6_carryStep_5 : decode cX6_carryStep 5 = .ok (.iconst 0, 1) := by decide +kernel
theorem dX6_carryStep_6 : decode cX6_carryStep 6 = .ok (.istore 4, 2) := by decide +kernel
theorem dX6_carryStep_8 : decode cX6_carryStep 8 = .ok (.iload 4, 2) := by decide +kernel
theorem dX6_carryStep_10 : decode cX6_carryStep 10 = .ok (.aload_n 0, 1) := by decide +kernel
theorem dX6_carryStep_11 : decode cX6_carryStep 11 = .ok (.getfield 23, 3) := by decide +kernel
theorem dX6_carryStep_14 : decode cX6_carryStep 14 = .ok (.if_icmp .ge 57, 3) := by decide +kernel
theorem dX6_carryStep_17 : decode cX6_carryStep 17 = .ok (.lload_n 1, 1) := by decide +kernel
theorem dX6_carryStep_18 : decode cX6_carryStep 18 = .ok (.iload 4, 2) := by decide +kernel
theorem dX6_carryStep_20 : decode cX6_carryStep 20 = .ok (.lushr, 1) := by decide +kernel
theorem dX6_carryStep_21 : decode cX6_carryStep 21 = .ok (.lconst 0, 1) := by decide +kernel
theorem dX6_carryStep_22 : decode cX6_carryStep 22 = .ok (.lcmp, 1) := by decide +kernel
theorem dX6_carryStep_23 : decode cX6_carryStep 23 = .ok (.ifCond .eq 48, 3) := by decide +kernel
theorem dX6_carryStep_26 : decode cX6_carryStep 26 = .ok (.lload_n 1, 1) := by decide +kernel
theorem dX6_carryStep_27 : decode cX6_carryStep 27 = .ok (.iload 4, 2) := by decide +kernel
theorem dX6_carryStep_29 : decode cX6_carryStep 29 = .ok (.lushr, 1) := by decide +kernel
theorem dX6_carryStep_30 : decode cX6_carryStep 30 = .ok (.lconst 1, 1) := by decide +kernel
theorem dX6_carryStep_31 : decode cX6_carryStep 31 = .ok (.land, 1) := by decide +kernel
theorem dX6_carryStep_32 : decode cX6_carryStep 32 = .ok (.lconst 1, 1) := by decide +kernel
theorem dX6_carryStep_33 : decode cX6_carryStep 33 = .ok (.lcmp, 1) := by decide +kernel
theorem dX6_carryStep_34 : decode cX6_carryStep 34 = .ok (.ifCond .ne 31, 3) := by decide +kernel
theorem dX6_carryStep_37 : decode cX6_carryStep 37 = .ok (.aload_n 0, 1) := by decide +kernel
theorem dX6_carryStep_38 : decode cX6_carryStep 38 = .ok (.aload_n 0, 1) := by decide +kernel
theorem dX6_carryStep_39 : decode cX6_carryStep 39 = .ok (.getfield 13, 3) := by decide +kernel
theorem dX6_carryStep_42 : decode cX6_carryStep 42 = .ok (.iload 4, 2) := by decide +kernel
theorem dX6_carryStep_44 : decode cX6_carryStep 44 = .ok (.aaload, 1) := by decide +kernel
theorem dX6_carryStep_45 : decode cX6_carryStep 45 = .ok (.aload_n 3, 1) := by decide +kernel
theorem dX6_carryStep_46 : decode cX6_carryStep 46 = .ok (.aload_n 0, 1) := by decide +kernel
theorem dX6_carryStep_47 : decode cX6_carryStep 47 = .ok (.getfield 16, 3) := by decide +kernel
theorem dX6_carryStep_50 : decode cX6_carryStep 50 = .ok (.invokevirtual 55, 3) := by decide +kernel
theorem dX6_carryStep_53 : decode cX6_carryStep 53 = .ok (.aload_n 0, 1) := by decide +kernel
theorem dX6_carryStep_54 : decode cX6_carryStep 54 = .ok (.getfield 16, 3) := by decide +kernel
theorem dX6_carryStep_57 : decode cX6_carryStep 57 = .ok (.iconst 0, 1) := by decide +kernel
theorem dX6_carryStep_58 : decode cX6_carryStep 58 = .ok (.aload_n 3, 1) := by decide +kernel
theorem dX6_carryStep_59 : decode cX6_carryStep 59 = .ok (.iconst 0, 1) := by decide +kernel
theorem dX6_carryStep_60 : decode cX6_carryStep 60 = .ok (.bipush 20, 2) := by decide +kernel
theorem dX6_carryStep_62 : decode cX6_carryStep 62 = .ok (.invokestatic 49, 3) := by decide +kernel
theorem dX6_carryStep_65 : decode cX6_carryStep 65 = .ok (.iinc 4 1, 3) := by decide +kernel
theorem dX6_carryStep_68 : decode cX6_carryStep 68 = .ok (.goto (-60), 3) := by decide +kernel
theorem dX6_carryStep_71 : decode cX6_carryStep 71 = .ok (.return_, 1) := by decide +kernel
theorem dX6_fillStill_0 : decode cX6_fillStill 0 = .ok (.aload_n 1, 1) := by decide +kernel
theorem dX6_fillStill_1 : decode cX6_fillStill 1 = .ok (.iconst 0, 1) := by decide +kernel
theorem dX6_fillStill_2 : decode cX6_fillStill 2 = .ok (.invokestatic 33, 3) := by decide +kernel
theorem dX6_fillStill_5 : decode cX6_fillStill 5 = .ok (.iconst 0, 1) := by decide +kernel
theorem dX6_fillStill_6 : decode cX6_fillStill 6 = .ok (.istore_n 2, 1) := by decide +kernel
theorem dX6_fillStill_7 : decode cX6_fillStill 7 = .ok (.iload_n 2, 1) := by decide +kernel
theorem dX6_fillStill_8 : decode cX6_fillStill 8 = .ok (.aload_n 0, 1) := by decide +kernel
theorem dX6_fillStill_9 : decode cX6_fillStill 9 = .ok (.getfield 30, 3) := by decide +kernel
theorem dX6_fillStill_12 : decode cX6_fillStill 12 = .ok (.if_icmp .ge 17, 3) := by decide +kernel
theorem dX6_fillStill_15 : decode cX6_fillStill 15 = .ok (.aload_n 1, 1) := by decide +kernel
theorem dX6_fillStill_16 : decode cX6_fillStill 16 = .ok (.iload_n 2, 1) := by decide +kernel
theorem dX6_fillStill_17 : decode cX6_fillStill 17 = .ok (.iconst 5, 1) := by decide +kernel
theorem dX6_fillStill_18 : decode cX6_fillStill 18 = .ok (.imul, 1) := by decide +kernel
theorem dX6_fillStill_19 : decode cX6_fillStill 19 = .ok (.iload_n 2, 1) := by decide +kernel
theorem dX6_fillStill_20 : decode cX6_fillStill 20 = .ok (.iadd, 1) := by decide +kernel
theorem dX6_fillStill_21 : decode cX6_fillStill 21 = .ok (.iconst 1, 1) := by decide +kernel
theorem dX6_fillStill_22 : decode cX6_fillStill 22 = .ok (.iastore, 1) := by decide +kernel
theorem dX6_fillStill_23 : decode cX6_fillStill 23 = .ok (.iinc 2 1, 3) := by decide +kernel
theorem dX6_fillStill_26 : decode cX6_fillStill 26 = .ok (.goto (-19), 3) := by decide +kernel
theorem dX6_fillStill_29 : decode cX6_fillStill 29 = .ok (.return_, 1) := by decide +kernel
theorem dX6_sameSteps_0 : decode cX6_sameSteps 0 = .ok (.iconst 0, 1) := by decide +kernel
theorem dX6_sameSteps_1 : decode cX6_sameSteps 1 = .ok (.istore 4, 2) := by decide +kernel
theorem dX6_sameSteps_3 : decode cX6_sameSteps 3 = .ok (.iload 4, 2) := by decide +kernel
theorem dX6_sameSteps_5 : decode cX6_sameSteps 5 = .ok (.aload_n 0, 1) := by decide +kernel
theorem dX6_sameSteps_6 : decode cX6_sameSteps 6 = .ok (.getfield 30, 3) := by decide +kernel
theorem dX6_sameSteps_9 : decode cX6_sameSteps 9 = .ok (.if_icmp .ge 81, 3) := by decide +kernel
theorem dX6_sameSteps_12 : decode cX6_sameSteps 12 = .ok (.iload 4, 2) := by decide +kernel
theorem dX6_sameSteps_14 : decode cX6_sameSteps 14 = .ok (.iconst 5, 1) := by decide +kernel
theorem dX6_sameSteps_15 : decode cX6_sameSteps 15 = .ok (.imul, 1) := by decide +kernel
theorem dX6_sameSteps_16 : decode cX6_sameSteps 16 = .ok (.istore 5, 2) := by decide +kernel
theorem dX6_sameSteps_18 : decode cX6_sameSteps 18 = .ok (.iconst 0, 1) := by decide +kernel
theorem dX6_sameSteps_19 : decode cX6_sameSteps 19 = .ok (.istore 6, 2) := by decide +kernel
theorem dX6_sameSteps_21 : decode cX6_sameSteps 21 = .ok (.iload 6, 2) := by decide +kernel
theorem dX6_sameSteps_23 : decode cX6_sameSteps 23 = .ok (.aload_n 0, 1) := by decide +kernel
theorem dX6_sameSteps_24 : decode cX6_sameSteps 24 = .ok (.getfield 30, 3) := by decide +kernel
theorem dX6_sameSteps_27 : decode cX6_sameSteps 27 = .ok (.if_icmp .ge 34, 3) := by decide +kernel
theorem dX6_sameSteps_30 : decode cX6_sameSteps 30 = .ok (.aload_n 1, 1) := by decide +kernel
theorem dX6_sameSteps_31 : decode cX6_sameSteps 31 = .ok (.iload 5, 2) := by decide +kernel
theorem dX6_sameSteps_33 : decode cX6_sameSteps 33 = .ok (.iload 6, 2) := by decide +kernel
theorem dX6_sameSteps_35 : decode cX6_sameSteps 35 = .ok (.iadd, 1) := by decide +kernel
theorem dX6_sameSteps_36 : decode cX6_sameSteps 36 = .ok (.iaload, 1) := by decide +kernel
theorem dX6_sameSteps_37 : decode cX6_sameSteps 37 = .ok (.aload_n 2, 1) := by decide +kernel
theorem dX6_sameSteps_38 : decode cX6_sameSteps 38 = .ok (.iload 5, 2) := by decide +kernel
theorem dX6_sameSteps_40 : decode cX6_sameSteps 40 = .ok (.iload 6, 2) := by decide +kernel
theorem dX6_sameSteps_42 : decode cX6_sameSteps 42 = .ok (.iadd, 1) := by decide +kernel
theorem dX6_sameSteps_43 : decode cX6_sameSteps 43 = .ok (.iaload, 1) := by decide +kernel
theorem dX6_sameSteps_44 : decode cX6_sameSteps 44 = .ok (.isub, 1) := by decide +kernel
theorem dX6_sameSteps_45 : decode cX6_sameSteps 45 = .ok (.i2l, 1) := by decide +kernel
theorem dX6_sameSteps_46 : decode cX6_sameSteps 46 = .ok (.iload_n 3, 1) := by decide +kernel
theorem dX6_sameSteps_47 : decode cX6_sameSteps 47 = .ok (.invokestatic 58, 3) := by decide +kernel
theorem dX6_sameSteps_50 : decode cX6_sameSteps 50 = .ok (.ifCond .eq 5, 3) := by decide +kernel
theorem dX6_sameSteps_53 : decode cX6_sameSteps 53 = .ok (.iconst 0, 1) := by decide +kernel
theorem dX6_sameSteps_54 : decode cX6_sameSteps 54 = .ok (.ireturn, 1) := by decide +kernel
theorem dX6_sameSteps_55 : decode cX6_sameSteps 55 = .ok (.iinc 6 1, 3) := by decide +kernel
theorem dX6_sameSteps_58 : decode cX6_sameSteps 58 = .ok (.goto (-37), 3) := by decide +kernel
theorem dX6_sameSteps_61 : decode cX6_sameSteps 61 = .ok (.aload_n 1, 1) := by decide +kernel
theorem dX6_sameSteps_62 : decode cX6_sameSteps 62 = .ok (.iload 5, 2) := by decide +kernel
theorem dX6_sameSteps_64 : decode cX6_sameSteps 64 = .ok (.iconst 4, 1) := by decide +kernel
theorem dX6_sameSteps_65 : decode cX6_sameSteps 65 = .ok (.iadd, 1) := by decide +kernel
theorem dX6_sameSteps_66 : decode cX6_sameSteps 66 = .ok (.iaload, 1) := by decide +kernel
theorem dX6_sameSteps_67 : decode cX6_sameSteps 67 = .ok (.aload_n 2, 1) := by decide +kernel
theorem dX6_sameSteps_68 : decode cX6_sameSteps 68 = .ok (.iload 5, 2) := by decide +kernel
theorem dX6_sameSteps_70 : decode cX6_sameSteps 70 = .ok (.iconst 4, 1) := by decide +kernel
theorem dX6_sameSteps_71 : decode cX6_sameSteps 71 = .ok (.iadd, 1) := by decide +kernel
theorem dX6_sameSteps_72 : decode cX6_sameSteps 72 = .ok (.iaload, 1) := by decide +kernel
theorem dX6_sameSteps_73 : decode cX6_sameSteps 73 = .ok (.isub, 1) := by decide +kernel
theorem dX6_sameSteps_74 : decode cX6_sameSteps 74 = .ok (.i2l, 1) := by decide +kernel
theorem dX6_sameSteps_75 : decode cX6_sameSteps 75 = .ok (.iload_n 3, 1) := by decide +kernel
theorem dX6_sameSteps_76 : decode cX6_sameSteps 76 = .ok (.invokestatic 58, 3) := by decide +kernel
theorem dX6_sameSteps_79 : decode cX6_sameSteps 79 = .ok (.ifCond .eq 5, 3) := by decide +kernel
theorem dX6_sameSteps_82 : decode cX6_sameSteps 82 = .ok (.iconst 0, 1) := by decide +kernel
theorem dX6_sameSteps_83 : decode cX6_sameSteps 83 = .ok (.ireturn, 1) := by decide +kernel
theorem dX6_sameSteps_84 : decode cX6_sameSteps 84 = .ok (.iinc 4 1, 3) := by decide +kernel
theorem dX6_sameSteps_87 : decode cX6_sameSteps 87 = .ok (.goto (-84), 3) := by decide +kernel
theorem dX6_sameSteps_90 : decode cX6_sameSteps 90 = .ok (.iconst 1, 1) := by decide +kernel
theorem dX6_sameSteps_91 : decode cX6_sameSteps 91 = .ok (.ireturn, 1) := by decide +kernel
theorem dX6_sameRows_0 : decode cX6_sameRows 0 = .ok (.iconst 0, 1) := by decide +kernel
theorem dX6_sameRows_1 : decode cX6_sameRows 1 = .ok (.istore_n 3, 1) := by decide +kernel
theorem dX6_sameRows_2 : decode cX6_sameRows 2 = .ok (.iload_n 3, 1) := by decide +kernel
theorem dX6_sameRows_3 : decode cX6_sameRows 3 = .ok (.aload_n 0, 1) := by decide +kernel
theorem dX6_sameRows_4 : decode cX6_sameRows 4 = .ok (.getfield 30, 3) := by decide +kernel
theorem dX6_sameRows_7 : decode cX6_sameRows 7 = .ok (.if_icmp .ge 20, 3) := by decide +kernel
theorem dX6_sameRows_10 : decode cX6_sameRows 10 = .ok (.aload_n 1, 1) := by decide +kernel
theorem dX6_sameRows_11 : decode cX6_sameRows 11 = .ok (.iload_n 3, 1) := by decide +kernel
theorem dX6_sameRows_12 : decode cX6_sameRows 12 = .ok (.iaload, 1) := by decide +kernel
theorem dX6_sameRows_13 : decode cX6_sameRows 13 = .ok (.aload_n 2, 1) := by decide +kernel
theorem dX6_sameRows_14 : decode cX6_sameRows 14 = .ok (.iload_n 3, 1) := by decide +kernel
theorem dX6_sameRows_15 : decode cX6_sameRows 15 = .ok (.iaload, 1) := by decide +kernel
theorem dX6_sameRows_16 : decode cX6_sameRows 16 = .ok (.if_icmp .eq 5, 3) := by decide +kernel
theorem dX6_sameRows_19 : decode cX6_sameRows 19 = .ok (.iconst 0, 1) := by decide +kernel
theorem dX6_sameRows_20 : decode cX6_sameRows 20 = .ok (.ireturn, 1) := by decide +kernel
theorem dX6_sameRows_21 : decode cX6_sameRows 21 = .ok (.iinc 3 1, 3) := by decide +kernel
theorem dX6_sameRows_24 : decode cX6_sameRows 24 = .ok (.goto (-22), 3) := by decide +kernel
theorem dX6_sameRows_27 : decode cX6_sameRows 27 = .ok (.iconst 1, 1) := by decide +kernel
theorem dX6_sameRows_28 : decode cX6_sameRows 28 = .ok (.ireturn, 1) := by decide +kernel
theorem dX6_reach_0 : decode cX6_reach 0 = .ok (.bipush 64, 2) := by decide +kernel
theorem dX6_reach_2 : decode cX6_reach 2 = .ok (.lload_n 1, 1) := by decide +kernel
theorem dX6_reach_3 : decode cX6_reach 3 = .ok (.invokestatic 64, 3) := by decide +kernel
theorem dX6_reach_6 : decode cX6_reach 6 = .ok (.isub, 1) := by decide +kernel
theorem dX6_reach_7 : decode cX6_reach 7 = .ok (.aload_n 0, 1) := by decide +kernel
theorem dX6_reach_8 : decode cX6_reach 8 = .ok (.getfield 13, 3) := by decide +kernel
theorem dX6_reach_11 : decode cX6_reach 11 = .ok (.arraylength, 1) := by decide +kernel
theorem dX6_reach_12 : decode cX6_reach 12 = .ok (.invokestatic 70, 3) := by decide +kernel
theorem dX6_reach_15 : decode cX6_reach 15 = .ok (.istore_n 3, 1) := by decide +kernel
theorem dX6_reach_16 : decode cX6_reach 16 = .ok (.aload_n 0, 1) := by decide +kernel
theorem dX6_reach_17 : decode cX6_reach 17 = .ok (.getfield 23, 3) := by decide +kernel
theorem dX6_reach_20 : decode cX6_reach 20 = .ok (.istore 4, 2) := by decide +kernel
theorem dX6_reach_22 : decode cX6_reach 22 = .ok (.iload 4, 2) := by decide +kernel
theorem dX6_reach_24 : decode cX6_reach 24 = .ok (.iload_n 3, 1) := by decide +kernel
theorem dX6_reach_25 : decode cX6_reach 25 = .ok (.if_icmp .ge 38, 3) := by decide +kernel
theorem dX6_reach_28 : decode cX6_reach 28 = .ok (.aload_n 0, 1) := by decide +kernel
theorem dX6_reach_29 : decode cX6_reach 29 = .ok (.aload_n 0, 1) := by decide +kernel
theorem dX6_reach_30 : decode cX6_reach 30 = .ok (.getfield 13, 3) := by decide +kernel
theorem dX6_reach_33 : decode cX6_reach 33 = .ok (.iload 4, 2) := by decide +kernel
theorem dX6_reach_35 : decode cX6_reach 35 = .ok (.iconst 1, 1) := by decide +kernel
theorem dX6_reach_36 : decode cX6_reach 36 = .ok (.isub, 1) := by decide +kernel
theorem dX6_reach_37 : decode cX6_reach 37 = .ok (.aaload, 1) := by decide +kernel
theorem dX6_reach_38 : decode cX6_reach 38 = .ok (.aload_n 0, 1) := by decide +kernel
theorem dX6_reach_39 : decode cX6_reach 39 = .ok (.getfield 13, 3) := by decide +kernel
theorem dX6_reach_42 : decode cX6_reach 42 = .ok (.iload 4, 2) := by decide +kernel
theorem dX6_reach_44 : decode cX6_reach 44 = .ok (.iconst 1, 1) := by decide +kernel
theorem dX6_reach_45 : decode cX6_reach 45 = .ok (.isub, 1) := by decide +kernel
theorem dX6_reach_46 : decode cX6_reach 46 = .ok (.aaload, 1) := by decide +kernel
theorem dX6_reach_47 : decode cX6_reach 47 = .ok (.aload_n 0, 1) := by decide +kernel
theorem dX6_reach_48 : decode cX6_reach 48 = .ok (.getfield 13, 3) := by decide +kernel
theorem dX6_reach_51 : decode cX6_reach 51 = .ok (.iload 4, 2) := by decide +kernel
theorem dX6_reach_53 : decode cX6_reach 53 = .ok (.aaload, 1) := by decide +kernel
theorem dX6_reach_54 : decode cX6_reach 54 = .ok (.invokevirtual 55, 3) := by decide +kernel
theorem dX6_reach_57 : decode cX6_reach 57 = .ok (.iinc 4 1, 3) := by decide +kernel
theorem dX6_reach_60 : decode cX6_reach 60 = .ok (.goto (-38), 3) := by decide +kernel
theorem dX6_reach_63 : decode cX6_reach 63 = .ok (.aload_n 0, 1) := by decide +kernel
theorem dX6_reach_64 : decode cX6_reach 64 = .ok (.aload_n 0, 1) := by decide +kernel
theorem dX6_reach_65 : decode cX6_reach 65 = .ok (.getfield 23, 3) := by decide +kernel
theorem dX6_reach_68 : decode cX6_reach 68 = .ok (.iload_n 3, 1) := by decide +kernel
theorem dX6_reach_69 : decode cX6_reach 69 = .ok (.invokestatic 76, 3) := by decide +kernel
theorem dX6_reach_72 : decode cX6_reach 72 = .ok (.putfield 23, 3) := by decide +kernel
theorem dX6_reach_75 : decode cX6_reach 75 = .ok (.return_, 1) := by decide +kernel
theorem dX6_apply_0 : decode cX6_apply 0 = .ok (.aload_n 0, 1) := by decide +kernel
theorem dX6_apply_1 : decode cX6_apply 1 = .ok (.getfield 27, 3) := by decide +kernel
theorem dX6_apply_4 : decode cX6_apply 4 = .ok (.ifCond .le 10, 3) := by decide +kernel
theorem dX6_apply_7 : decode cX6_apply 7 = .ok (.aload_n 0, 1) := by decide +kernel
theorem dX6_apply_8 : decode cX6_apply 8 = .ok (.getfield 27, 3) := by decide +kernel
theorem dX6_apply_11 : decode cX6_apply 11 = .ok (.goto 4, 3) := by decide +kernel
theorem dX6_apply_14 : decode cX6_apply 14 = .ok (.iconst 1, 1) := by decide +kernel
theorem dX6_apply_15 : decode cX6_apply 15 = .ok (.istore 4, 2) := by decide +kernel
theorem dX6_apply_17 : decode cX6_apply 17 = .ok (.iconst 0, 1) := by decide +kernel
theorem dX6_apply_18 : decode cX6_apply 18 = .ok (.istore 5, 2) := by decide +kernel
theorem dX6_apply_20 : decode cX6_apply 20 = .ok (.iload 5, 2) := by decide +kernel
theorem dX6_apply_22 : decode cX6_apply 22 = .ok (.aload_n 0, 1) := by decide +kernel
theorem dX6_apply_23 : decode cX6_apply 23 = .ok (.getfield 30, 3) := by decide +kernel
theorem dX6_apply_26 : decode cX6_apply 26 = .ok (.if_icmp .ge 65, 3) := by decide +kernel
theorem dX6_apply_29 : decode cX6_apply 29 = .ok (.aload_n 1, 1) := by decide +kernel
theorem dX6_apply_30 : decode cX6_apply 30 = .ok (.iload 5, 2) := by decide +kernel
theorem dX6_apply_32 : decode cX6_apply 32 = .ok (.iconst 5, 1) := by decide +kernel
theorem dX6_apply_33 : decode cX6_apply 33 = .ok (.imul, 1) := by decide +kernel
theorem dX6_apply_34 : decode cX6_apply 34 = .ok (.iconst 4, 1) := by decide +kernel
theorem dX6_apply_35 : decode cX6_apply 35 = .ok (.iadd, 1) := by decide +kernel
theorem dX6_apply_36 : decode cX6_apply 36 = .ok (.iaload, 1) := by decide +kernel
theorem dX6_apply_37 : decode cX6_apply 37 = .ok (.istore 6, 2) := by decide +kernel
theorem dX6_apply_39 : decode cX6_apply 39 = .ok (.iconst 0, 1) := by decide +kernel
theorem dX6_apply_40 : decode cX6_apply 40 = .ok (.istore 7, 2) := by decide +kernel
theorem dX6_apply_42 : decode cX6_apply 42 = .ok (.iload 7, 2) := by decide +kernel
theorem dX6_apply_44 : decode cX6_apply 44 = .ok (.aload_n 0, 1) := by decide +kernel
theorem dX6_apply_45 : decode cX6_apply 45 = .ok (.getfield 30, 3) := by decide +kernel
theorem dX6_apply_48 : decode cX6_apply 48 = .ok (.if_icmp .ge 28, 3) := by decide +kernel
theorem dX6_apply_51 : decode cX6_apply 51 = .ok (.iload 6, 2) := by decide +kernel
theorem dX6_apply_53 : decode cX6_apply 53 = .ok (.aload_n 1, 1) := by decide +kernel
theorem dX6_apply_54 : decode cX6_apply 54 = .ok (.iload 5, 2) := by decide +kernel
theorem dX6_apply_56 : decode cX6_apply 56 = .ok (.iconst 5, 1) := by decide +kernel
theorem dX6_apply_57 : decode cX6_apply 57 = .ok (.imul, 1) := by decide +kernel
theorem dX6_apply_58 : decode cX6_apply 58 = .ok (.iload 7, 2) := by decide +kernel
theorem dX6_apply_60 : decode cX6_apply 60 = .ok (.iadd, 1) := by decide +kernel
theorem dX6_apply_61 : decode cX6_apply 61 = .ok (.iaload, 1) := by decide +kernel
theorem dX6_apply_62 : decode cX6_apply 62 = .ok (.aload_n 2, 1) := by decide +kernel
theorem dX6_apply_63 : decode cX6_apply 63 = .ok (.iload 7, 2) := by decide +kernel
theorem dX6_apply_65 : decode cX6_apply 65 = .ok (.iaload, 1) := by decide +kernel
theorem dX6_apply_66 : decode cX6_apply 66 = .ok (.imul, 1) := by decide +kernel
theorem dX6_apply_67 : decode cX6_apply 67 = .ok (.iadd, 1) := by decide +kernel
theorem dX6_apply_68 : decode cX6_apply 68 = .ok (.istore 6, 2) := by decide +kernel
theorem dX6_apply_70 : decode cX6_apply 70 = .ok (.iinc 7 1, 3) := by decide +kernel
theorem dX6_apply_73 : decode cX6_apply 73 = .ok (.goto (-31), 3) := by decide +kernel
theorem dX6_apply_76 : decode cX6_apply 76 = .ok (.aload_n 3, 1) := by decide +kernel
theorem dX6_apply_77 : decode cX6_apply 77 = .ok (.iload 5, 2) := by decide +kernel
theorem dX6_apply_79 : decode cX6_apply 79 = .ok (.iload 6, 2) := by decide +kernel
theorem dX6_apply_81 : decode cX6_apply 81 = .ok (.iload 4, 2) := by decide +kernel
theorem dX6_apply_83 : decode cX6_apply 83 = .ok (.irem, 1) := by decide +kernel
theorem dX6_apply_84 : decode cX6_apply 84 = .ok (.iastore, 1) := by decide +kernel
theorem dX6_apply_85 : decode cX6_apply 85 = .ok (.iinc 5 1, 3) := by decide +kernel
theorem dX6_apply_88 : decode cX6_apply 88 = .ok (.goto (-68), 3) := by decide +kernel
theorem dX6_apply_91 : decode cX6_apply 91 = .ok (.return_, 1) := by decide +kernel
theorem dX6_compose_0 : decode cX6_compose 0 = .ok (.aload_n 0, 1) := by decide +kernel
theorem dX6_compose_1 : decode cX6_compose 1 = .ok (.getfield 27, 3) := by decide +kernel
theorem dX6_compose_4 : decode cX6_compose 4 = .ok (.ifCond .le 10, 3) := by decide +kernel
theorem dX6_compose_7 : decode cX6_compose 7 = .ok (.aload_n 0, 1) := by decide +kernel
theorem dX6_compose_8 : decode cX6_compose 8 = .ok (.getfield 27, 3) := by decide +kernel
theorem dX6_compose_11 : decode cX6_compose 11 = .ok (.goto 4, 3) := by decide +kernel
theorem dX6_compose_14 : decode cX6_compose 14 = .ok (.iconst 1, 1) := by decide +kernel
theorem dX6_compose_15 : decode cX6_compose 15 = .ok (.istore 4, 2) := by decide +kernel
theorem dX6_compose_17 : decode cX6_compose 17 = .ok (.iconst 0, 1) := by decide +kernel
theorem dX6_compose_18 : decode cX6_compose 18 = .ok (.istore 5, 2) := by decide +kernel
theorem dX6_compose_20 : decode cX6_compose 20 = .ok (.iload 5, 2) := by decide +kernel
theorem dX6_compose_22 : decode cX6_compose 22 = .ok (.aload_n 0, 1) := by decide +kernel
theorem dX6_compose_23 : decode cX6_compose 23 = .ok (.getfield 30, 3) := by decide +kernel
theorem dX6_compose_26 : decode cX6_compose 26 = .ok (.if_icmp .ge 146, 3) := by decide +kernel
theorem dX6_compose_29 : decode cX6_compose 29 = .ok (.iload 5, 2) := by decide +kernel
theorem dX6_compose_31 : decode cX6_compose 31 = .ok (.iconst 5, 1) := by decide +kernel
theorem dX6_compose_32 : decode cX6_compose 32 = .ok (.imul, 1) := by decide +kernel
theorem dX6_compose_33 : decode cX6_compose 33 = .ok (.istore 6, 2) := by decide +kernel
theorem dX6_compose_35 : decode cX6_compose 35 = .ok (.aload_n 1, 1) := by decide +kernel
theorem dX6_compose_36 : decode cX6_compose 36 = .ok (.iload 6, 2) := by decide +kernel
theorem dX6_compose_38 : decode cX6_compose 38 = .ok (.iconst 4, 1) := by decide +kernel
theorem dX6_compose_39 : decode cX6_compose 39 = .ok (.iadd, 1) := by decide +kernel
theorem dX6_compose_40 : decode cX6_compose 40 = .ok (.iaload, 1) := by decide +kernel
theorem dX6_compose_41 : decode cX6_compose 41 = .ok (.istore 7, 2) := by decide +kernel
theorem dX6_compose_43 : decode cX6_compose 43 = .ok (.iconst 0, 1) := by decide +kernel
theorem dX6_compose_44 : decode cX6_compose 44 = .ok (.istore 8, 2) := by decide +kernel
theorem dX6_compose_46 : decode cX6_compose 46 = .ok (.iload 8, 2) := by decide +kernel
theorem dX6_compose_48 : decode cX6_compose 48 = .ok (.aload_n 0, 1) := by decide +kernel
theorem dX6_compose_49 : decode cX6_compose 49 = .ok (.getfield 30, 3) := by decide +kernel
theorem dX6_compose_52 : decode cX6_compose 52 = .ok (.if_icmp .ge 30, 3) := by decide +kernel
theorem dX6_compose_55 : decode cX6_compose 55 = .ok (.iload 7, 2) := by decide +kernel
theorem dX6_compose_57 : decode cX6_compose 57 = .ok (.aload_n 1, 1) := by decide +kernel
theorem dX6_compose_58 : decode cX6_compose 58 = .ok (.iload 6, 2) := by decide +kernel
theorem dX6_compose_60 : decode cX6_compose 60 = .ok (.iload 8, 2) := by decide +kernel
theorem dX6_compose_62 : decode cX6_compose 62 = .ok (.iadd, 1) := by decide +kernel
theorem dX6_compose_63 : decode cX6_compose 63 = .ok (.iaload, 1) := by decide +kernel
theorem dX6_compose_64 : decode cX6_compose 64 = .ok (.aload_n 2, 1) := by decide +kernel
theorem dX6_compose_65 : decode cX6_compose 65 = .ok (.iload 8, 2) := by decide +kernel
theorem dX6_compose_67 : decode cX6_compose 67 = .ok (.iconst 5, 1) := by decide +kernel
theorem dX6_compose_68 : decode cX6_compose 68 = .ok (.imul, 1) := by decide +kernel
theorem dX6_compose_69 : decode cX6_compose 69 = .ok (.iconst 4, 1) := by decide +kernel
theorem dX6_compose_70 : decode cX6_compose 70 = .ok (.iadd, 1) := by decide +kernel
theorem dX6_compose_71 : decode cX6_compose 71 = .ok (.iaload, 1) := by decide +kernel
theorem dX6_compose_72 : decode cX6_compose 72 = .ok (.imul, 1) := by decide +kernel
theorem dX6_compose_73 : decode cX6_compose 73 = .ok (.iadd, 1) := by decide +kernel
theorem dX6_compose_74 : decode cX6_compose 74 = .ok (.istore 7, 2) := by decide +kernel
theorem dX6_compose_76 : decode cX6_compose 76 = .ok (.iinc 8 1, 3) := by decide +kernel
theorem dX6_compose_79 : decode cX6_compose 79 = .ok (.goto (-33), 3) := by decide +kernel
theorem dX6_compose_82 : decode cX6_compose 82 = .ok (.aload_n 3, 1) := by decide +kernel
theorem dX6_compose_83 : decode cX6_compose 83 = .ok (.iload 6, 2) := by decide +kernel
theorem dX6_compose_85 : decode cX6_compose 85 = .ok (.iconst 4, 1) := by decide +kernel
theorem dX6_compose_86 : decode cX6_compose 86 = .ok (.iadd, 1) := by decide +kernel
theorem dX6_compose_87 : decode cX6_compose 87 = .ok (.iload 7, 2) := by decide +kernel
theorem dX6_compose_89 : decode cX6_compose 89 = .ok (.iload 4, 2) := by decide +kernel
theorem dX6_compose_91 : decode cX6_compose 91 = .ok (.irem, 1) := by decide +kernel
theorem dX6_compose_92 : decode cX6_compose 92 = .ok (.iastore, 1) := by decide +kernel
theorem dX6_compose_93 : decode cX6_compose 93 = .ok (.iconst 0, 1) := by decide +kernel
theorem dX6_compose_94 : decode cX6_compose 94 = .ok (.istore 8, 2) := by decide +kernel
theorem dX6_compose_96 : decode cX6_compose 96 = .ok (.iload 8, 2) := by decide +kernel
theorem dX6_compose_98 : decode cX6_compose 98 = .ok (.aload_n 0, 1) := by decide +kernel
theorem dX6_compose_99 : decode cX6_compose 99 = .ok (.getfield 30, 3) := by decide +kernel
theorem dX6_compose_102 : decode cX6_compose 102 = .ok (.if_icmp .ge 64, 3) := by decide +kernel
theorem dX6_compose_105 : decode cX6_compose 105 = .ok (.iconst 0, 1) := by decide +kernel
theorem dX6_compose_106 : decode cX6_compose 106 = .ok (.istore 9, 2) := by decide +kernel
theorem dX6_compose_108 : decode cX6_compose 108 = .ok (.iconst 0, 1) := by decide +kernel
theorem dX6_compose_109 : decode cX6_compose 109 = .ok (.istore 10, 2) := by decide +kernel
theorem dX6_compose_111 : decode cX6_compose 111 = .ok (.iload 10, 2) := by decide +kernel
theorem dX6_compose_113 : decode cX6_compose 113 = .ok (.aload_n 0, 1) := by decide +kernel
theorem dX6_compose_114 : decode cX6_compose 114 = .ok (.getfield 30, 3) := by decide +kernel
theorem dX6_compose_117 : decode cX6_compose 117 = .ok (.if_icmp .ge 31, 3) := by decide +kernel
theorem dX6_compose_120 : decode cX6_compose 120 = .ok (.iload 9, 2) := by decide +kernel
theorem dX6_compose_122 : decode cX6_compose 122 = .ok (.aload_n 1, 1) := by decide +kernel
theorem dX6_compose_123 : decode cX6_compose 123 = .ok (.iload 6, 2) := by decide +kernel
theorem dX6_compose_125 : decode cX6_compose 125 = .ok (.iload 10, 2) := by decide +kernel
theorem dX6_compose_127 : decode cX6_compose 127 = .ok (.iadd, 1) := by decide +kernel
theorem dX6_compose_128 : decode cX6_compose 128 = .ok (.iaload, 1) := by decide +kernel
theorem dX6_compose_129 : decode cX6_compose 129 = .ok (.aload_n 2, 1) := by decide +kernel
theorem dX6_compose_130 : decode cX6_compose 130 = .ok (.iload 10, 2) := by decide +kernel
theorem dX6_compose_132 : decode cX6_compose 132 = .ok (.iconst 5, 1) := by decide +kernel
theorem dX6_compose_133 : decode cX6_compose 133 = .ok (.imul, 1) := by decide +kernel
theorem dX6_compose_134 : decode cX6_compose 134 = .ok (.iload 8, 2) := by decide +kernel
theorem dX6_compose_136 : decode cX6_compose 136 = .ok (.iadd, 1) := by decide +kernel
theorem dX6_compose_137 : decode cX6_compose 137 = .ok (.iaload, 1) := by decide +kernel
theorem dX6_compose_138 : decode cX6_compose 138 = .ok (.imul, 1) := by decide +kernel
theorem dX6_compose_139 : decode cX6_compose 139 = .ok (.iadd, 1) := by decide +kernel
theorem dX6_compose_140 : decode cX6_compose 140 = .ok (.istore 9, 2) := by decide +kernel
theorem dX6_compose_142 : decode cX6_compose 142 = .ok (.iinc 10 1, 3) := by decide +kernel
theorem dX6_compose_145 : decode cX6_compose 145 = .ok (.goto (-34), 3) := by decide +kernel
theorem dX6_compose_148 : decode cX6_compose 148 = .ok (.aload_n 3, 1) := by decide +kernel
theorem dX6_compose_149 : decode cX6_compose 149 = .ok (.iload 6, 2) := by decide +kernel
theorem dX6_compose_151 : decode cX6_compose 151 = .ok (.iload 8, 2) := by decide +kernel
theorem dX6_compose_153 : decode cX6_compose 153 = .ok (.iadd, 1) := by decide +kernel
theorem dX6_compose_154 : decode cX6_compose 154 = .ok (.iload 9, 2) := by decide +kernel
theorem dX6_compose_156 : decode cX6_compose 156 = .ok (.iload 4, 2) := by decide +kernel
theorem dX6_compose_158 : decode cX6_compose 158 = .ok (.irem, 1) := by decide +kernel
theorem dX6_compose_159 : decode cX6_compose 159 = .ok (.iastore, 1) := by decide +kernel
theorem dX6_compose_160 : decode cX6_compose 160 = .ok (.iinc 8 1, 3) := by decide +kernel
theorem dX6_compose_163 : decode cX6_compose 163 = .ok (.goto (-67), 3) := by decide +kernel
theorem dX6_compose_166 : decode cX6_compose 166 = .ok (.iinc 5 1, 3) := by decide +kernel
theorem dX6_compose_169 : decode cX6_compose 169 = .ok (.goto (-149), 3) := by decide +kernel
theorem dX6_compose_172 : decode cX6_compose 172 = .ok (.return_, 1) := by decide +kernel
