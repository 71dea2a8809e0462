theorem dX10_init_0 : decode cX10_init 0 = .ok (.aload_n 0, 1) := by decide +kernel
theorem dX10_init_1 : decode cX10_init 1 = .ok (.invokespecial 1, 3) := by decide +kernel
theorem dX10_init_4 : decode cX10_init 4 = .ok (.aload_n 0, 1) := by decide +kernel
theorem dX10_init_5 : decode cX10_init 5 = .ok (.bipush 6, 2) := by decide +kernel
theorem dX10_init_7 : decode cX10_init 7 = .ok (.anewarray 9, 3) := by decide +kernel
theorem dX10_init_10 : decode cX10_init 10 = .ok (.putfield 11, 3) := by decide +kernel
theorem dX10_init_13 : decode cX10_init 13 = .ok (.aload_n 0, 1) := by decide +kernel
theorem dX10_init_14 : decode cX10_init 14 = .ok (.new 15, 3) := by decide +kernel
theorem dX10_init_17 : decode cX10_init 17 = .ok (.dup, 1) := by decide +kernel
theorem dX10_init_18 : decode cX10_init 18 = .ok (.invokespecial 17, 3) := by decide +kernel
theorem dX10_init_21 : decode cX10_init 21 = .ok (.putfield 18, 3) := by decide +kernel
theorem dX10_init_24 : decode cX10_init 24 = .ok (.aload_n 0, 1) := by decide +kernel
theorem dX10_init_25 : decode cX10_init 25 = .ok (.sipush 4096, 3) := by decide +kernel
theorem dX10_init_28 : decode cX10_init 28 = .ok (.newarray .int, 2) := by decide +kernel
theorem dX10_init_30 : decode cX10_init 30 = .ok (.putfield 22, 3) := by decide +kernel
theorem dX10_init_33 : decode cX10_init 33 = .ok (.iconst 0, 1) := by decide +kernel
theorem dX10_init_34 : decode cX10_init 34 = .ok (.istore_n 1, 1) := by decide +kernel
theorem dX10_init_35 : decode cX10_init 35 = .ok (.iload_n 1, 1) := by decide +kernel
theorem dX10_init_36 : decode cX10_init 36 = .ok (.aload_n 0, 1) := by decide +kernel
theorem dX10_init_37 : decode cX10_init 37 = .ok (.getfield 11, 3) := by decide +kernel
theorem dX10_init_40 : decode cX10_init 40 = .ok (.arraylength, 1) := by decide +kernel
theorem dX10_init_41 : decode cX10_init 41 = .ok (.if_icmp .ge 22, 3) := by decide +kernel
theorem dX10_init_44 : decode cX10_init 44 = .ok (.aload_n 0, 1) := by decide +kernel
theorem dX10_init_45 : decode cX10_init 45 = .ok (.getfield 11, 3) := by decide +kernel
theorem dX10_init_48 : decode cX10_init 48 = .ok (.iload_n 1, 1) := by decide +kernel
theorem dX10_init_49 : decode cX10_init 49 = .ok (.new 9, 3) := by decide +kernel
theorem dX10_init_52 : decode cX10_init 52 = .ok (.dup, 1) := by decide +kernel
theorem dX10_init_53 : decode cX10_init 53 = .ok (.invokespecial 26, 3) := by decide +kernel
theorem dX10_init_56 : decode cX10_init 56 = .ok (.aastore, 1) := by decide +kernel
theorem dX10_init_57 : decode cX10_init 57 = .ok (.iinc 1 1, 3) := by decide +kernel
theorem dX10_init_60 : decode cX10_init 60 = .ok (.goto (-25), 3) := by decide +kernel
theorem dX10_init_63 : decode cX10_init 63 = .ok (.return_, 1) := by decide +kernel
theorem dX10_mill_0 : decode cX10_mill 0 = .ok (.iload_n 1, 1) := by decide +kernel
theorem dX10_mill_1 : decode cX10_mill 1 = .ok (.iload_n 2, 1) := by decide +kernel
theorem dX10_mill_2 : decode cX10_mill 2 = .ok (.iload_n 3, 1) := by decide +kernel
theorem dX10_mill_3 : decode cX10_mill 3 = .ok (.invokestatic 27, 3) := by decide +kernel
theorem dX10_mill_6 : decode cX10_mill 6 = .ok (.ifCond .ne 5, 3) := by decide +kernel
theorem dX10_mill_9 : decode cX10_mill 9 = .ok (.iconst (-1), 1) := by decide +kernel
theorem dX10_mill_10 : decode cX10_mill 10 = .ok (.ireturn, 1) := by decide +kernel
theorem dX10_mill_11 : decode cX10_mill 11 = .ok (.iconst 0, 1) := by decide +kernel
theorem dX10_mill_12 : decode cX10_mill 12 = .ok (.istore 4, 2) := by decide +kernel
theorem dX10_mill_14 : decode cX10_mill 14 = .ok (.iload 4, 2) := by decide +kernel
theorem dX10_mill_16 : decode cX10_mill 16 = .ok (.aload_n 0, 1) := by decide +kernel
theorem dX10_mill_17 : decode cX10_mill 17 = .ok (.getfield 11, 3) := by decide +kernel
theorem dX10_mill_20 : decode cX10_mill 20 = .ok (.arraylength, 1) := by decide +kernel
theorem dX10_mill_21 : decode cX10_mill 21 = .ok (.if_icmp .ge 38, 3) := by decide +kernel
theorem dX10_mill_24 : decode cX10_mill 24 = .ok (.aload_n 0, 1) := by decide +kernel
theorem dX10_mill_25 : decode cX10_mill 25 = .ok (.getfield 11, 3) := by decide +kernel
theorem dX10_mill_28 : decode cX10_mill 28 = .ok (.iload 4, 2) := by decide +kernel
theorem dX10_mill_30 : decode cX10_mill 30 = .ok (.aaload, 1) := by decide +kernel
theorem dX10_mill_31 : decode cX10_mill 31 = .ok (.getfield 31, 3) := by decide +kernel
theorem dX10_mill_34 : decode cX10_mill 34 = .ok (.ifCond .ne 19, 3) := by decide +kernel
theorem dX10_mill_37 : decode cX10_mill 37 = .ok (.aload_n 0, 1) := by decide +kernel
theorem dX10_mill_38 : decode cX10_mill 38 = .ok (.getfield 11, 3) := by decide +kernel
theorem dX10_mill_41 : decode cX10_mill 41 = .ok (.iload 4, 2) := by decide +kernel
theorem dX10_mill_43 : decode cX10_mill 43 = .ok (.aaload, 1) := by decide +kernel
theorem dX10_mill_44 : decode cX10_mill 44 = .ok (.iload_n 1, 1) := by decide +kernel
theorem dX10_mill_45 : decode cX10_mill 45 = .ok (.iload_n 2, 1) := by decide +kernel
theorem dX10_mill_46 : decode cX10_mill 46 = .ok (.iload_n 3, 1) := by decide +kernel
theorem dX10_mill_47 : decode cX10_mill 47 = .ok (.invokevirtual 35, 3) := by decide +kernel
theorem dX10_mill_50 : decode cX10_mill 50 = .ok (.iload 4, 2) := by decide +kernel
theorem dX10_mill_52 : decode cX10_mill 52 = .ok (.ireturn, 1) := by decide +kernel
theorem dX10_mill_53 : decode cX10_mill 53 = .ok (.iinc 4 1, 3) := by decide +kernel
theorem dX10_mill_56 : decode cX10_mill 56 = .ok (.goto (-42), 3) := by decide +kernel
theorem dX10_mill_59 : decode cX10_mill 59 = .ok (.iconst (-1), 1) := by decide +kernel
theorem dX10_mill_60 : decode cX10_mill 60 = .ok (.ireturn, 1) := by decide +kernel
theorem dX10_drop_0 : decode cX10_drop 0 = .ok (.aload_n 0, 1) := by decide +kernel
theorem dX10_drop_1 : decode cX10_drop 1 = .ok (.iload_n 1, 1) := by decide +kernel
theorem dX10_drop_2 : decode cX10_drop 2 = .ok (.invokevirtual 39, 3) := by decide +kernel
theorem dX10_drop_5 : decode cX10_drop 5 = .ok (.astore_n 2, 1) := by decide +kernel
theorem dX10_drop_6 : decode cX10_drop 6 = .ok (.aload_n 2, 1) := by decide +kernel
theorem dX10_drop_7 : decode cX10_drop 7 = .ok (.ifnonnull 5, 3) := by decide +kernel
theorem dX10_drop_10 : decode cX10_drop 10 = .ok (.iconst 0, 1) := by decide +kernel
theorem dX10_drop_11 : decode cX10_drop 11 = .ok (.ireturn, 1) := by decide +kernel
theorem dX10_drop_12 : decode cX10_drop 12 = .ok (.aload_n 2, 1) := by decide +kernel
theorem dX10_drop_13 : decode cX10_drop 13 = .ok (.iconst 0, 1) := by decide +kernel
theorem dX10_drop_14 : decode cX10_drop 14 = .ok (.putfield 31, 3) := by decide +kernel
theorem dX10_drop_17 : decode cX10_drop 17 = .ok (.iconst 1, 1) := by decide +kernel
theorem dX10_drop_18 : decode cX10_drop 18 = .ok (.ireturn, 1) := by decide +kernel
theorem dX10_table_0 : decode cX10_table 0 = .ok (.aload_n 0, 1) := by decide +kernel
theorem dX10_table_1 : decode cX10_table 1 = .ok (.iload_n 1, 1) := by decide +kernel
theorem dX10_table_2 : decode cX10_table 2 = .ok (.invokevirtual 39, 3) := by decide +kernel
theorem dX10_table_5 : decode cX10_table 5 = .ok (.astore 5, 2) := by decide +kernel
theorem dX10_table_7 : decode cX10_table 7 = .ok (.aload 5, 2) := by decide +kernel
theorem dX10_table_9 : decode cX10_table 9 = .ok (.ifnull 21, 3) := by decide +kernel
theorem dX10_table_12 : decode cX10_table 12 = .ok (.aload 5, 2) := by decide +kernel
theorem dX10_table_14 : decode cX10_table 14 = .ok (.iload_n 2, 1) := by decide +kernel
theorem dX10_table_15 : decode cX10_table 15 = .ok (.invokevirtual 43, 3) := by decide +kernel
theorem dX10_table_18 : decode cX10_table 18 = .ok (.ifCond .eq 12, 3) := by decide +kernel
theorem dX10_table_21 : decode cX10_table 21 = .ok (.aload 5, 2) := by decide +kernel
theorem dX10_table_23 : decode cX10_table 23 = .ok (.iload_n 3, 1) := by decide +kernel
theorem dX10_table_24 : decode cX10_table 24 = .ok (.invokevirtual 47, 3) := by decide +kernel
theorem dX10_table_27 : decode cX10_table 27 = .ok (.ifCond .ne 5, 3) := by decide +kernel
theorem dX10_table_30 : decode cX10_table 30 = .ok (.iconst 0, 1) := by decide +kernel
theorem dX10_table_31 : decode cX10_table 31 = .ok (.ireturn, 1) := by decide +kernel
theorem dX10_table_32 : decode cX10_table 32 = .ok (.aload 5, 2) := by decide +kernel
theorem dX10_table_34 : decode cX10_table 34 = .ok (.iload_n 2, 1) := by decide +kernel
theorem dX10_table_35 : decode cX10_table 35 = .ok (.iload_n 3, 1) := by decide +kernel
theorem dX10_table_36 : decode cX10_table 36 = .ok (.iload 4, 2) := by decide +kernel
theorem dX10_table_38 : decode cX10_table 38 = .ok (.invokevirtual 50, 3) := by decide +kernel
theorem dX10_table_41 : decode cX10_table 41 = .ok (.iconst 1, 1) := by decide +kernel
theorem dX10_table_42 : decode cX10_table 42 = .ok (.ireturn, 1) := by decide +kernel
theorem dX10_more_0 : decode cX10_more 0 = .ok (.aload_n 0, 1) := by decide +kernel
theorem dX10_more_1 : decode cX10_more 1 = .ok (.iload_n 1, 1) := by decide +kernel
theorem dX10_more_2 : decode cX10_more 2 = .ok (.invokevirtual 39, 3) := by decide +kernel
theorem dX10_more_5 : decode cX10_more 5 = .ok (.astore 4, 2) := by decide +kernel
theorem dX10_more_7 : decode cX10_more 7 = .ok (.aload 4, 2) := by decide +kernel
theorem dX10_more_9 : decode cX10_more 9 = .ok (.ifnull 12, 3) := by decide +kernel
theorem dX10_more_12 : decode cX10_more 12 = .ok (.aload 4, 2) := by decide +kernel
theorem dX10_more_14 : decode cX10_more 14 = .ok (.iload_n 2, 1) := by decide +kernel
theorem dX10_more_15 : decode cX10_more 15 = .ok (.invokevirtual 43, 3) := by decide +kernel
theorem dX10_more_18 : decode cX10_more 18 = .ok (.ifCond .ne 5, 3) := by decide +kernel
theorem dX10_more_21 : decode cX10_more 21 = .ok (.iconst 0, 1) := by decide +kernel
theorem dX10_more_22 : decode cX10_more 22 = .ok (.ireturn, 1) := by decide +kernel
theorem dX10_more_23 : decode cX10_more 23 = .ok (.aload 4, 2) := by decide +kernel
theorem dX10_more_25 : decode cX10_more 25 = .ok (.iload_n 2, 1) := by decide +kernel
theorem dX10_more_26 : decode cX10_more 26 = .ok (.iconst 4, 1) := by decide +kernel
theorem dX10_more_27 : decode cX10_more 27 = .ok (.iload_n 3, 1) := by decide +kernel
theorem dX10_more_28 : decode cX10_more 28 = .ok (.invokevirtual 50, 3) := by decide +kernel
theorem dX10_more_31 : decode cX10_more 31 = .ok (.iconst 1, 1) := by decide +kernel
theorem dX10_more_32 : decode cX10_more 32 = .ok (.ireturn, 1) := by decide +kernel
theorem dX10_plate_0 : decode cX10_plate 0 = .ok (.aload_n 0, 1) := by decide +kernel
theorem dX10_plate_1 : decode cX10_plate 1 = .ok (.iload_n 1, 1) := by decide +kernel
theorem dX10_plate_2 : decode cX10_plate 2 = .ok (.invokevirtual 39, 3) := by decide +kernel
theorem dX10_plate_5 : decode cX10_plate 5 = .ok (.astore 4, 2) := by decide +kernel
theorem dX10_plate_7 : decode cX10_plate 7 = .ok (.aload 4, 2) := by decide +kernel
theorem dX10_plate_9 : decode cX10_plate 9 = .ok (.ifnull 12, 3) := by decide +kernel
theorem dX10_plate_12 : decode cX10_plate 12 = .ok (.aload 4, 2) := by decide +kernel
theorem dX10_plate_14 : decode cX10_plate 14 = .ok (.iload_n 2, 1) := by decide +kernel
theorem dX10_plate_15 : decode cX10_plate 15 = .ok (.invokevirtual 47, 3) := by decide +kernel
theorem dX10_plate_18 : decode cX10_plate 18 = .ok (.ifCond .ne 5, 3) := by decide +kernel
theorem dX10_plate_21 : decode cX10_plate 21 = .ok (.iconst 0, 1) := by decide +kernel
theorem dX10_plate_22 : decode cX10_plate 22 = .ok (.ireturn, 1) := by decide +kernel
theorem dX10_plate_23 : decode cX10_plate 23 = .ok (.aload 4, 2) := by decide +kernel
theorem dX10_plate_25 : decode cX10_plate 25 = .ok (.getfield 55, 3) := by decide +kernel
theorem dX10_plate_28 : decode cX10_plate 28 = .ok (.iload_n 2, 1) := by decide +kernel
theorem dX10_plate_29 : decode cX10_plate 29 = .ok (.iload_n 3, 1) := by decide +kernel
theorem dX10_plate_30 : decode cX10_plate 30 = .ok (.i2l, 1) := by decide +kernel
theorem dX10_plate_31 : decode cX10_plate 31 = .ok (.aload 4, 2) := by decide +kernel
theorem dX10_plate_33 : decode cX10_plate 33 = .ok (.getfield 58, 3) := by decide +kernel
theorem dX10_plate_36 : decode cX10_plate 36 = .ok (.invokestatic 62, 3) := by decide +kernel
theorem dX10_plate_39 : decode cX10_plate 39 = .ok (.iastore, 1) := by decide +kernel
theorem dX10_plate_40 : decode cX10_plate 40 = .ok (.iconst 1, 1) := by decide +kernel
theorem dX10_plate_41 : decode cX10_plate 41 = .ok (.ireturn, 1) := by decide +kernel
theorem dX10_look_0 : decode cX10_look 0 = .ok (.aload_n 0, 1) := by decide +kernel
theorem dX10_look_1 : decode cX10_look 1 = .ok (.iload_n 1, 1) := by decide +kernel
theorem dX10_look_2 : decode cX10_look 2 = .ok (.invokevirtual 39, 3) := by decide +kernel
theorem dX10_look_5 : decode cX10_look 5 = .ok (.astore_n 3, 1) := by decide +kernel
theorem dX10_look_6 : decode cX10_look 6 = .ok (.aload_n 3, 1) := by decide +kernel
theorem dX10_look_7 : decode cX10_look 7 = .ok (.ifnonnull 5, 3) := by decide +kernel
theorem dX10_look_10 : decode cX10_look 10 = .ok (.iconst (-1), 1) := by decide +kernel
theorem dX10_look_11 : decode cX10_look 11 = .ok (.ireturn, 1) := by decide +kernel
theorem dX10_look_12 : decode cX10_look 12 = .ok (.iload_n 2, 1) := by decide +kernel
theorem dX10_look_13 : decode cX10_look 13 = .ok (.tableswitch 77 0 5 #[39, 44, 49, 54, 59, 72], 39) := by decide +kernel
theorem dX10_look_52 : decode cX10_look 52 = .ok (.aload_n 3, 1) := by decide +kernel
theorem dX10_look_53 : decode cX10_look 53 = .ok (.getfield 68, 3) := by decide +kernel
theorem dX10_look_56 : decode cX10_look 56 = .ok (.ireturn, 1) := by decide +kernel
theorem dX10_look_57 : decode cX10_look 57 = .ok (.aload_n 3, 1) := by decide +kernel
theorem dX10_look_58 : decode cX10_look 58 = .ok (.getfield 58, 3) := by decide +kernel
theorem dX10_look_61 : decode cX10_look 61 = .ok (.ireturn, 1) := by decide +kernel
theorem dX10_look_62 : decode cX10_look 62 = .ok (.aload_n 3, 1) := by decide +kernel
theorem dX10_look_63 : decode cX10_look 63 = .ok (.getfield 71, 3) := by decide +kernel
theorem dX10_look_66 : decode cX10_look 66 = .ok (.ireturn, 1) := by decide +kernel
theorem dX10_look_67 : decode cX10_look 67 = .ok (.aload_n 3, 1) := by decide +kernel
theorem dX10_look_68 : decode cX10_look 68 = .ok (.invokevirtual 74, 3) := by decide +kernel
theorem dX10_look_71 : decode cX10_look 71 = .ok (.ireturn, 1) := by decide +kernel
theorem dX10_look_72 : decode cX10_look 72 = .ok (.aload_n 3, 1) := by decide +kernel
theorem dX10_look_73 : decode cX10_look 73 = .ok (.invokevirtual 78, 3) := by decide +kernel
theorem dX10_look_76 : decode cX10_look 76 = .ok (.ifCond .eq 7, 3) := by decide +kernel
theorem dX10_look_79 : decode cX10_look 79 = .ok (.iconst 1, 1) := by decide +kernel
theorem dX10_look_80 : decode cX10_look 80 = .ok (.goto 4, 3) := by decide +kernel
theorem dX10_look_83 : decode cX10_look 83 = .ok (.iconst 0, 1) := by decide +kernel
theorem dX10_look_84 : decode cX10_look 84 = .ok (.ireturn, 1) := by decide +kernel
theorem dX10_look_85 : decode cX10_look 85 = .ok (.aload_n 3, 1) := by decide +kernel
theorem dX10_look_86 : decode cX10_look 86 = .ok (.invokevirtual 82, 3) := by decide +kernel
theorem dX10_look_89 : decode cX10_look 89 = .ok (.ireturn, 1) := by decide +kernel
theorem dX10_look_90 : decode cX10_look 90 = .ok (.iconst (-1), 1) := by decide +kernel
theorem dX10_look_91 : decode cX10_look 91 = .ok (.ireturn, 1) := by decide +kernel
theorem dX10_rest_0 : decode cX10_rest 0 = .ok (.aload_n 0, 1) := by decide +kernel
theorem dX10_rest_1 : decode cX10_rest 1 = .ok (.iload_n 1, 1) := by decide +kernel
theorem dX10_rest_2 : decode cX10_rest 2 = .ok (.invokevirtual 39, 3) := by decide +kernel
theorem dX10_rest_5 : decode cX10_rest 5 = .ok (.astore_n 3, 1) := by decide +kernel
theorem dX10_rest_6 : decode cX10_rest 6 = .ok (.aload_n 3, 1) := by decide +kernel
theorem dX10_rest_7 : decode cX10_rest 7 = .ok (.ifnull 11, 3) := by decide +kernel
theorem dX10_rest_10 : decode cX10_rest 10 = .ok (.aload_n 3, 1) := by decide +kernel
theorem dX10_rest_11 : decode cX10_rest 11 = .ok (.iload_n 2, 1) := by decide +kernel
theorem dX10_rest_12 : decode cX10_rest 12 = .ok (.invokevirtual 47, 3) := by decide +kernel
theorem dX10_rest_15 : decode cX10_rest 15 = .ok (.ifCond .ne 7, 3) := by decide +kernel
theorem dX10_rest_18 : decode cX10_rest 18 = .ok (.iconst (-1), 1) := by decide +kernel
theorem dX10_rest_19 : decode cX10_rest 19 = .ok (.goto 9, 3) := by decide +kernel
theorem dX10_rest_22 : decode cX10_rest 22 = .ok (.aload_n 3, 1) := by decide +kernel
theorem dX10_rest_23 : decode cX10_rest 23 = .ok (.getfield 55, 3) := by decide +kernel
theorem dX10_rest_26 : decode cX10_rest 26 = .ok (.iload_n 2, 1) := by decide +kernel
theorem dX10_rest_27 : decode cX10_rest 27 = .ok (.iaload, 1) := by decide +kernel
theorem dX10_rest_28 : decode cX10_rest 28 = .ok (.ireturn, 1) := by decide +kernel
theorem dX10_cell_0 : decode cX10_cell 0 = .ok (.aload_n 0, 1) := by decide +kernel
theorem dX10_cell_1 : decode cX10_cell 1 = .ok (.iload_n 1, 1) := by decide +kernel
theorem dX10_cell_2 : decode cX10_cell 2 = .ok (.invokevirtual 39, 3) := by decide +kernel
theorem dX10_cell_5 : decode cX10_cell 5 = .ok (.astore 4, 2) := by decide +kernel
theorem dX10_cell_7 : decode cX10_cell 7 = .ok (.aload 4, 2) := by decide +kernel
theorem dX10_cell_9 : decode cX10_cell 9 = .ok (.ifnull 25, 3) := by decide +kernel
theorem dX10_cell_12 : decode cX10_cell 12 = .ok (.aload 4, 2) := by decide +kernel
theorem dX10_cell_14 : decode cX10_cell 14 = .ok (.iload_n 2, 1) := by decide +kernel
theorem dX10_cell_15 : decode cX10_cell 15 = .ok (.invokevirtual 47, 3) := by decide +kernel
theorem dX10_cell_18 : decode cX10_cell 18 = .ok (.ifCond .eq 16, 3) := by decide +kernel
theorem dX10_cell_21 : decode cX10_cell 21 = .ok (.iload_n 3, 1) := by decide +kernel
theorem dX10_cell_22 : decode cX10_cell 22 = .ok (.ifCond .lt 12, 3) := by decide +kernel
theorem dX10_cell_25 : decode cX10_cell 25 = .ok (.iload_n 3, 1) := by decide +kernel
theorem dX10_cell_26 : decode cX10_cell 26 = .ok (.aload 4, 2) := by decide +kernel
theorem dX10_cell_28 : decode cX10_cell 28 = .ok (.getfield 71, 3) := by decide +kernel
theorem dX10_cell_31 : decode cX10_cell 31 = .ok (.if_icmp .le 5, 3) := by decide +kernel
theorem dX10_cell_34 : decode cX10_cell 34 = .ok (.iconst (-1), 1) := by decide +kernel
theorem dX10_cell_35 : decode cX10_cell 35 = .ok (.ireturn, 1) := by decide +kernel
theorem dX10_cell_36 : decode cX10_cell 36 = .ok (.aload 4, 2) := by decide +kernel
theorem dX10_cell_38 : decode cX10_cell 38 = .ok (.getfield 85, 3) := by decide +kernel
theorem dX10_cell_41 : decode cX10_cell 41 = .ok (.iload_n 2, 1) := by decide +kernel
theorem dX10_cell_42 : decode cX10_cell 42 = .ok (.iload_n 3, 1) := by decide +kernel
theorem dX10_cell_43 : decode cX10_cell 43 = .ok (.aload 4, 2) := by decide +kernel
theorem dX10_cell_45 : decode cX10_cell 45 = .ok (.getfield 71, 3) := by decide +kernel
theorem dX10_cell_48 : decode cX10_cell 48 = .ok (.if_icmp .ne 7, 3) := by decide +kernel
theorem dX10_cell_51 : decode cX10_cell 51 = .ok (.iconst 4, 1) := by decide +kernel
theorem dX10_cell_52 : decode cX10_cell 52 = .ok (.goto 4, 3) := by decide +kernel
theorem dX10_cell_55 : decode cX10_cell 55 = .ok (.iload_n 3, 1) := by decide +kernel
theorem dX10_cell_56 : decode cX10_cell 56 = .ok (.invokevirtual 89, 3) := by decide +kernel
theorem dX10_cell_59 : decode cX10_cell 59 = .ok (.ireturn, 1) := by decide +kernel
theorem dX10_turn_0 : decode cX10_turn 0 = .ok (.aload_n 0, 1) := by decide +kernel
theorem dX10_turn_1 : decode cX10_turn 1 = .ok (.iload_n 1, 1) := by decide +kernel
theorem dX10_turn_2 : decode cX10_turn 2 = .ok (.invokevirtual 39, 3) := by decide +kernel
theorem dX10_turn_5 : decode cX10_turn 5 = .ok (.astore_n 3, 1) := by decide +kernel
theorem dX10_turn_6 : decode cX10_turn 6 = .ok (.aload_n 3, 1) := by decide +kernel
theorem dX10_turn_7 : decode cX10_turn 7 = .ok (.ifnull 14, 3) := by decide +kernel
theorem dX10_turn_10 : decode cX10_turn 10 = .ok (.iload_n 2, 1) := by decide +kernel
theorem dX10_turn_11 : decode cX10_turn 11 = .ok (.ifCond .lt 10, 3) := by decide +kernel
theorem dX10_turn_14 : decode cX10_turn 14 = .ok (.iload_n 2, 1) := by decide +kernel
theorem dX10_turn_15 : decode cX10_turn 15 = .ok (.sipush 5000, 3) := by decide +kernel
theorem dX10_turn_18 : decode cX10_turn 18 = .ok (.if_icmp .le 5, 3) := by decide +kernel
theorem dX10_turn_21 : decode cX10_turn 21 = .ok (.iconst 0, 1) := by decide +kernel
theorem dX10_turn_22 : decode cX10_turn 22 = .ok (.ireturn, 1) := by decide +kernel
theorem dX10_turn_23 : decode cX10_turn 23 = .ok (.aload_n 3, 1) := by decide +kernel
theorem dX10_turn_24 : decode cX10_turn 24 = .ok (.getfield 85, 3) := by decide +kernel
theorem dX10_turn_27 : decode cX10_turn 27 = .ok (.iload_n 2, 1) := by decide +kernel
theorem dX10_turn_28 : decode cX10_turn 28 = .ok (.i2l, 1) := by decide +kernel
theorem dX10_turn_29 : decode cX10_turn 29 = .ok (.aload_n 3, 1) := by decide +kernel
theorem dX10_turn_30 : decode cX10_turn 30 = .ok (.getfield 55, 3) := by decide +kernel
theorem dX10_turn_33 : decode cX10_turn 33 = .ok (.invokevirtual 92, 3) := by decide +kernel
theorem dX10_turn_36 : decode cX10_turn 36 = .ok (.iconst 1, 1) := by decide +kernel
theorem dX10_turn_37 : decode cX10_turn 37 = .ok (.ireturn, 1) := by decide +kernel
theorem dX10_leap_0 : decode cX10_leap 0 = .ok (.aload_n 0, 1) := by decide +kernel
theorem dX10_leap_1 : decode cX10_leap 1 = .ok (.iload_n 1, 1) := by decide +kernel
theorem dX10_leap_2 : decode cX10_leap 2 = .ok (.invokevirtual 39, 3) := by decide +kernel
theorem dX10_leap_5 : decode cX10_leap 5 = .ok (.astore 4, 2) := by decide +kernel
theorem dX10_leap_7 : decode cX10_leap 7 = .ok (.aload 4, 2) := by decide +kernel
theorem dX10_leap_9 : decode cX10_leap 9 = .ok (.ifnull 9, 3) := by decide +kernel
theorem dX10_leap_12 : decode cX10_leap 12 = .ok (.lload_n 2, 1) := by decide +kernel
theorem dX10_leap_13 : decode cX10_leap 13 = .ok (.lconst 0, 1) := by decide +kernel
theorem dX10_leap_14 : decode cX10_leap 14 = .ok (.lcmp, 1) := by decide +kernel
theorem dX10_leap_15 : decode cX10_leap 15 = .ok (.ifCond .ge 5, 3) := by decide +kernel
theorem dX10_leap_18 : decode cX10_leap 18 = .ok (.iconst 0, 1) := by decide +kernel
theorem dX10_leap_19 : decode cX10_leap 19 = .ok (.ireturn, 1) := by decide +kernel
theorem dX10_leap_20 : decode cX10_leap 20 = .ok (.aload 4, 2) := by decide +kernel
theorem dX10_leap_22 : decode cX10_leap 22 = .ok (.getfield 85, 3) := by decide +kernel
theorem dX10_leap_25 : decode cX10_leap 25 = .ok (.lload_n 2, 1) := by decide +kernel
theorem dX10_leap_26 : decode cX10_leap 26 = .ok (.aload 4, 2) := by decide +kernel
theorem dX10_leap_28 : decode cX10_leap 28 = .ok (.getfield 55, 3) := by decide +kernel
theorem dX10_leap_31 : decode cX10_leap 31 = .ok (.invokevirtual 92, 3) := by decide +kernel
theorem dX10_leap_34 : decode cX10_leap 34 = .ok (.iconst 1, 1) := by decide +kernel
theorem dX10_leap_35 : decode cX10_leap 35 = .ok (.ireturn, 1) := by decide +kernel
theorem dX10_back_0 : decode cX10_back 0 = .ok (.aload_n 0, 1) := by decide +kernel
theorem dX10_back_1 : decode cX10_back 1 = .ok (.iload_n 1, 1) := by decide +kernel
theorem dX10_back_2 : decode cX10_back 2 = .ok (.invokevirtual 39, 3) := by decide +kernel
theorem dX10_back_5 : decode cX10_back 5 = .ok (.astore 4, 2) := by decide +kernel
theorem dX10_back_7 : decode cX10_back 7 = .ok (.aload 4, 2) := by decide +kernel
theorem dX10_back_9 : decode cX10_back 9 = .ok (.ifnull 17, 3) := by decide +kernel
theorem dX10_back_12 : decode cX10_back 12 = .ok (.lload_n 2, 1) := by decide +kernel
theorem dX10_back_13 : decode cX10_back 13 = .ok (.lconst 0, 1) := by decide +kernel
theorem dX10_back_14 : decode cX10_back 14 = .ok (.lcmp, 1) := by decide +kernel
theorem dX10_back_15 : decode cX10_back 15 = .ok (.ifCond .lt 11, 3) := by decide +kernel
theorem dX10_back_18 : decode cX10_back 18 = .ok (.aload 4, 2) := by decide +kernel
theorem dX10_back_20 : decode cX10_back 20 = .ok (.invokevirtual 78, 3) := by decide +kernel
theorem dX10_back_23 : decode cX10_back 23 = .ok (.ifCond .ne 5, 3) := by decide +kernel
theorem dX10_back_26 : decode cX10_back 26 = .ok (.iconst 0, 1) := by decide +kernel
theorem dX10_back_27 : decode cX10_back 27 = .ok (.ireturn, 1) := by decide +kernel
theorem dX10_back_28 : decode cX10_back 28 = .ok (.aload 4, 2) := by decide +kernel
theorem dX10_back_30 : decode cX10_back 30 = .ok (.getfield 85, 3) := by decide +kernel
theorem dX10_back_33 : decode cX10_back 33 = .ok (.aload 4, 2) := by decide +kernel
theorem dX10_back_35 : decode cX10_back 35 = .ok (.getfield 96, 3) := by decide +kernel
theorem dX10_back_38 : decode cX10_back 38 = .ok (.lload_n 2, 1) := by decide +kernel
theorem dX10_back_39 : decode cX10_back 39 = .ok (.invokevirtual 100, 3) := by decide +kernel
theorem dX10_back_42 : decode cX10_back 42 = .ok (.aload 4, 2) := by decide +kernel
theorem dX10_back_44 : decode cX10_back 44 = .ok (.getfield 55, 3) := by decide +kernel
theorem dX10_back_47 : decode cX10_back 47 = .ok (.invokevirtual 92, 3) := by decide +kernel
theorem dX10_back_50 : decode cX10_back 50 = .ok (.iconst 1, 1) := by decide +kernel
theorem dX10_back_51 : decode cX10_back 51 = .ok (.ireturn, 1) := by decide +kernel
theorem dX10_tail_0 : decode cX10_tail 0 = .ok (.aload_n 0, 1) := by decide +kernel
theorem dX10_tail_1 : decode cX10_tail 1 = .ok (.iload_n 1, 1) := by decide +kernel
theorem dX10_tail_2 : decode cX10_tail 2 = .ok (.invokevirtual 39, 3) := by decide +kernel
theorem dX10_tail_5 : decode cX10_tail 5 = .ok (.astore_n 2, 1) := by decide +kernel
theorem dX10_tail_6 : decode cX10_tail 6 = .ok (.aload_n 2, 1) := by decide +kernel
theorem dX10_tail_7 : decode cX10_tail 7 = .ok (.ifnonnull 7, 3) := by decide +kernel
theorem dX10_tail_10 : decode cX10_tail 10 = .ok (.iconst (-1), 1) := by decide +kernel
theorem dX10_tail_11 : decode cX10_tail 11 = .ok (.goto 14, 3) := by decide +kernel
theorem dX10_tail_14 : decode cX10_tail 14 = .ok (.aload_n 2, 1) := by decide +kernel
theorem dX10_tail_15 : decode cX10_tail 15 = .ok (.getfield 96, 3) := by decide +kernel
theorem dX10_tail_18 : decode cX10_tail 18 = .ok (.aload_n 2, 1) := by decide +kernel
theorem dX10_tail_19 : decode cX10_tail 19 = .ok (.getfield 55, 3) := by decide +kernel
theorem dX10_tail_22 : decode cX10_tail 22 = .ok (.invokevirtual 106, 3) := by decide +kernel
theorem dX10_tail_25 : decode cX10_tail 25 = .ok (.ireturn, 1) := by decide +kernel
theorem dX10_round_0 : decode cX10_round 0 = .ok (.aload_n 0, 1) := by decide +kernel
theorem dX10_round_1 : decode cX10_round 1 = .ok (.iload_n 1, 1) := by decide +kernel
theorem dX10_round_2 : decode cX10_round 2 = .ok (.invokevirtual 39, 3) := by decide +kernel
theorem dX10_round_5 : decode cX10_round 5 = .ok (.astore_n 2, 1) := by decide +kernel
theorem dX10_round_6 : decode cX10_round 6 = .ok (.aload_n 2, 1) := by decide +kernel
theorem dX10_round_7 : decode cX10_round 7 = .ok (.ifnonnull 9, 3) := by decide +kernel
theorem dX10_round_10 : decode cX10_round 10 = .ok (.ldc2_w 110, 3) := by decide +kernel
theorem dX10_round_13 : decode cX10_round 13 = .ok (.goto 14, 3) := by decide +kernel
theorem dX10_round_16 : decode cX10_round 16 = .ok (.aload_n 2, 1) := by decide +kernel
theorem dX10_round_17 : decode cX10_round 17 = .ok (.getfield 96, 3) := by decide +kernel
theorem dX10_round_20 : decode cX10_round 20 = .ok (.aload_n 2, 1) := by decide +kernel
theorem dX10_round_21 : decode cX10_round 21 = .ok (.getfield 55, 3) := by decide +kernel
theorem dX10_round_24 : decode cX10_round 24 = .ok (.invokevirtual 112, 3) := by decide +kernel
theorem dX10_round_27 : decode cX10_round 27 = .ok (.lreturn, 1) := by decide +kernel
theorem dX10_order_0 : decode cX10_order 0 = .ok (.aload_n 0, 1) := by decide +kernel
theorem dX10_order_1 : decode cX10_order 1 = .ok (.iload_n 1, 1) := by decide +kernel
theorem dX10_order_2 : decode cX10_order 2 = .ok (.invokevirtual 39, 3) := by decide +kernel
theorem dX10_order_5 : decode cX10_order 5 = .ok (.astore_n 2, 1) := by decide +kernel
theorem dX10_order_6 : decode cX10_order 6 = .ok (.aload_n 2, 1) := by decide +kernel
theorem dX10_order_7 : decode cX10_order 7 = .ok (.ifnull 10, 3) := by decide +kernel
theorem dX10_order_10 : decode cX10_order 10 = .ok (.aload_n 2, 1) := by decide +kernel
theorem dX10_order_11 : decode cX10_order 11 = .ok (.invokevirtual 78, 3) := by decide +kernel
theorem dX10_order_14 : decode cX10_order 14 = .ok (.ifCond .ne 9, 3) := by decide +kernel
theorem dX10_order_17 : decode cX10_order 17 = .ok (.ldc2_w 110, 3) := by decide +kernel
theorem dX10_order_20 : decode cX10_order 20 = .ok (.goto 10, 3) := by decide +kernel
theorem dX10_order_23 : decode cX10_order 23 = .ok (.aload_n 2, 1) := by decide +kernel
theorem dX10_order_24 : decode cX10_order 24 = .ok (.getfield 96, 3) := by decide +kernel
theorem dX10_order_27 : decode cX10_order 27 = .ok (.invokevirtual 116, 3) := by decide +kernel
theorem dX10_order_30 : decode cX10_order 30 = .ok (.lreturn, 1) := by decide +kernel
theorem dX10_fixed_0 : decode cX10_fixed 0 = .ok (.aload_n 0, 1) := by decide +kernel
theorem dX10_fixed_1 : decode cX10_fixed 1 = .ok (.iload_n 1, 1) := by decide +kernel
theorem dX10_fixed_2 : decode cX10_fixed 2 = .ok (.invokevirtual 39, 3) := by decide +kernel
theorem dX10_fixed_5 : decode cX10_fixed 5 = .ok (.astore 4, 2) := by decide +kernel
theorem dX10_fixed_7 : decode cX10_fixed 7 = .ok (.aload 4, 2) := by decide +kernel
theorem dX10_fixed_9 : decode cX10_fixed 9 = .ok (.ifnull 9, 3) := by decide +kernel
theorem dX10_fixed_12 : decode cX10_fixed 12 = .ok (.lload_n 2, 1) := by decide +kernel
theorem dX10_fixed_13 : decode cX10_fixed 13 = .ok (.lconst 0, 1) := by decide +kernel
theorem dX10_fixed_14 : decode cX10_fixed 14 = .ok (.lcmp, 1) := by decide +kernel
theorem dX10_fixed_15 : decode cX10_fixed 15 = .ok (.ifCond .ge 9, 3) := by decide +kernel
theorem dX10_fixed_18 : decode cX10_fixed 18 = .ok (.ldc2_w 110, 3) := by decide +kernel
theorem dX10_fixed_21 : decode cX10_fixed 21 = .ok (.goto 12, 3) := by decide +kernel
theorem dX10_fixed_24 : decode cX10_fixed 24 = .ok (.aload 4, 2) := by decide +kernel
theorem dX10_fixed_26 : decode cX10_fixed 26 = .ok (.getfield 96, 3) := by decide +kernel
theorem dX10_fixed_29 : decode cX10_fixed 29 = .ok (.lload_n 2, 1) := by decide +kernel
theorem dX10_fixed_30 : decode cX10_fixed 30 = .ok (.invokevirtual 120, 3) := by decide +kernel
theorem dX10_fixed_33 : decode cX10_fixed 33 = .ok (.lreturn, 1) := by decide +kernel
theorem dX10_rounds_0 : decode cX10_rounds 0 = .ok (.aload_n 0, 1) := by decide +kernel
theorem dX10_rounds_1 : decode cX10_rounds 1 = .ok (.iload_n 1, 1) := by decide +kernel
theorem dX10_rounds_2 : decode cX10_rounds 2 = .ok (.invokevirtual 39, 3) := by decide +kernel
theorem dX10_rounds_5 : decode cX10_rounds 5 = .ok (.astore 4, 2) := by decide +kernel
theorem dX10_rounds_7 : decode cX10_rounds 7 = .ok (.aload 4, 2) := by decide +kernel
theorem dX10_rounds_9 : decode cX10_rounds 9 = .ok (.ifnull 17, 3) := by decide +kernel
theorem dX10_rounds_12 : decode cX10_rounds 12 = .ok (.lload_n 2, 1) := by decide +kernel
theorem dX10_rounds_13 : decode cX10_rounds 13 = .ok (.lconst 1, 1) := by decide +kernel
theorem dX10_rounds_14 : decode cX10_rounds 14 = .ok (.lcmp, 1) := by decide +kernel
theorem dX10_rounds_15 : decode cX10_rounds 15 = .ok (.ifCond .lt 11, 3) := by decide +kernel
theorem dX10_rounds_18 : decode cX10_rounds 18 = .ok (.lload_n 2, 1) := by decide +kernel
theorem dX10_rounds_19 : decode cX10_rounds 19 = .ok (.ldc2_w 123, 3) := by decide +kernel
theorem dX10_rounds_22 : decode cX10_rounds 22 = .ok (.lcmp, 1) := by decide +kernel
theorem dX10_rounds_23 : decode cX10_rounds 23 = .ok (.ifCond .le 7, 3) := by decide +kernel
theorem dX10_rounds_26 : decode cX10_rounds 26 = .ok (.ldc2_w 110, 3) := by decide +kernel
theorem dX10_rounds_29 : decode cX10_rounds 29 = .ok (.lreturn, 1) := by decide +kernel
theorem dX10_rounds_30 : decode cX10_rounds 30 = .ok (.aload 4, 2) := by decide +kernel
theorem dX10_rounds_32 : decode cX10_rounds 32 = .ok (.getfield 96, 3) := by decide +kernel
theorem dX10_rounds_35 : decode cX10_rounds 35 = .ok (.lload_n 2, 1) := by decide +kernel
theorem dX10_rounds_36 : decode cX10_rounds 36 = .ok (.invokevirtual 125, 3) := by decide +kernel
theorem dX10_rounds_39 : decode cX10_rounds 39 = .ok (.lreturn, 1) := by decide +kernel
theorem dX10_part_0 : decode cX10_part 0 = .ok (.aload_n 0, 1) := by decide +kernel
theorem dX10_part_1 : decode cX10_part 1 = .ok (.iload_n 1, 1) := by decide +kernel
theorem dX10_part_2 : decode cX10_part 2 = .ok (.invokevirtual 39, 3) := by decide +kernel
theorem dX10_part_5 : decode cX10_part 5 = .ok (.astore 4, 2) := by decide +kernel
theorem dX10_part_7 : decode cX10_part 7 = .ok (.aload 4, 2) := by decide +kernel
theorem dX10_part_9 : decode cX10_part 9 = .ok (.ifnonnull 7, 3) := by decide +kernel
theorem dX10_part_12 : decode cX10_part 12 = .ok (.aconst_null, 1) := by decide +kernel
theorem dX10_part_13 : decode cX10_part 13 = .ok (.goto 9, 3) := by decide +kernel
theorem dX10_part_16 : decode cX10_part 16 = .ok (.aload 4, 2) := by decide +kernel
theorem dX10_part_18 : decode cX10_part 18 = .ok (.iload_n 2, 1) := by decide +kernel
theorem dX10_part_19 : decode cX10_part 19 = .ok (.invokevirtual 128, 3) := by decide +kernel
theorem dX10_part_22 : decode cX10_part 22 = .ok (.astore 5, 2) := by decide +kernel
theorem dX10_part_24 : decode cX10_part 24 = .ok (.aload 5, 2) := by decide +kernel
theorem dX10_part_26 : decode cX10_part 26 = .ok (.ifnonnull 5, 3) := by decide +kernel
theorem dX10_part_29 : decode cX10_part 29 = .ok (.iconst (-1), 1) := by decide +kernel
theorem dX10_part_30 : decode cX10_part 30 = .ok (.ireturn, 1) := by decide +kernel
theorem dX10_part_31 : decode cX10_part 31 = .ok (.iload_n 3, 1) := by decide +kernel
theorem dX10_part_32 : decode cX10_part 32 = .ok (.tableswitch 65 0 3 #[32, 38, 44, 50], 32) := by decide +kernel
theorem dX10_part_64 : decode cX10_part 64 = .ok (.aload 5, 2) := by decide +kernel
theorem dX10_part_66 : decode cX10_part 66 = .ok (.getfield 132, 3) := by decide +kernel
theorem dX10_part_69 : decode cX10_part 69 = .ok (.ireturn, 1) := by decide +kernel
theorem dX10_part_70 : decode cX10_part 70 = .ok (.aload 5, 2) := by decide +kernel
theorem dX10_part_72 : decode cX10_part 72 = .ok (.getfield 137, 3) := by decide +kernel
theorem dX10_part_75 : decode cX10_part 75 = .ok (.ireturn, 1) := by decide +kernel
theorem dX10_part_76 : decode cX10_part 76 = .ok (.aload 5, 2) := by decide +kernel
theorem dX10_part_78 : decode cX10_part 78 = .ok (.getfield 140, 3) := by decide +kernel
theorem dX10_part_81 : decode cX10_part 81 = .ok (.ireturn, 1) := by decide +kernel
theorem dX10_part_82 : decode cX10_part 82 = .ok (.aload 4, 2) := by decide +kernel
theorem dX10_part_84 : decode cX10_part 84 = .ok (.invokevirtual 74, 3) := by decide +kernel
theorem dX10_part_87 : decode cX10_part 87 = .ok (.i2l, 1) := by decide +kernel
theorem dX10_part_88 : decode cX10_part 88 = .ok (.aload 5, 2) := by decide +kernel
theorem dX10_part_90 : decode cX10_part 90 = .ok (.getfield 137, 3) := by decide +kernel
theorem dX10_part_93 : decode cX10_part 93 = .ok (.invokestatic 62, 3) := by decide +kernel
theorem dX10_part_96 : decode cX10_part 96 = .ok (.ireturn, 1) := by decide +kernel
theorem dX10_part_97 : decode cX10_part 97 = .ok (.iconst (-1), 1) := by decide +kernel
theorem dX10_part_98 : decode cX10_part 98 = .ok (.ireturn, 1) := by decide +kernel
theorem dX10_split_0 : decode cX10_split 0 = .ok (.aload_n 0, 1) := by decide +kernel
theorem dX10_split_1 : decode cX10_split 1 = .ok (.iload_n 1, 1) := by decide +kernel
theorem dX10_split_2 : decode cX10_split 2 = .ok (.invokevirtual 39, 3) := by decide +kernel
theorem dX10_split_5 : decode cX10_split 5 = .ok (.astore 4, 2) := by decide +kernel
theorem dX10_split_7 : decode cX10_split 7 = .ok (.aload 4, 2) := by decide +kernel
theorem dX10_split_9 : decode cX10_split 9 = .ok (.ifnonnull 7, 3) := by decide +kernel
theorem dX10_split_12 : decode cX10_split 12 = .ok (.aconst_null, 1) := by decide +kernel
theorem dX10_split_13 : decode cX10_split 13 = .ok (.goto 9, 3) := by decide +kernel
theorem dX10_split_16 : decode cX10_split 16 = .ok (.aload 4, 2) := by decide +kernel
theorem dX10_split_18 : decode cX10_split 18 = .ok (.iload_n 2, 1) := by decide +kernel
theorem dX10_split_19 : decode cX10_split 19 = .ok (.invokevirtual 128, 3) := by decide +kernel
theorem dX10_split_22 : decode cX10_split 22 = .ok (.astore 5, 2) := by decide +kernel
theorem dX10_split_24 : decode cX10_split 24 = .ok (.aload 5, 2) := by decide +kernel
theorem dX10_split_26 : decode cX10_split 26 = .ok (.ifnull 12, 3) := by decide +kernel
theorem dX10_split_29 : decode cX10_split 29 = .ok (.aload 4, 2) := by decide +kernel
theorem dX10_split_31 : decode cX10_split 31 = .ok (.iload_n 3, 1) := by decide +kernel
theorem dX10_split_32 : decode cX10_split 32 = .ok (.invokevirtual 47, 3) := by decide +kernel
theorem dX10_split_35 : decode cX10_split 35 = .ok (.ifCond .ne 7, 3) := by decide +kernel
theorem dX10_split_38 : decode cX10_split 38 = .ok (.iconst (-1), 1) := by decide +kernel
theorem dX10_split_39 : decode cX10_split 39 = .ok (.goto 19, 3) := by decide +kernel
theorem dX10_split_42 : decode cX10_split 42 = .ok (.aload 4, 2) := by decide +kernel
theorem dX10_split_44 : decode cX10_split 44 = .ok (.getfield 55, 3) := by decide +kernel
theorem dX10_split_47 : decode cX10_split 47 = .ok (.iload_n 3, 1) := by decide +kernel
theorem dX10_split_48 : decode cX10_split 48 = .ok (.iaload, 1) := by decide +kernel
theorem dX10_split_49 : decode cX10_split 49 = .ok (.i2l, 1) := by decide +kernel
theorem dX10_split_50 : decode cX10_split 50 = .ok (.aload 5, 2) := by decide +kernel
theorem dX10_split_52 : decode cX10_split 52 = .ok (.getfield 137, 3) := by decide +kernel
theorem dX10_split_55 : decode cX10_split 55 = .ok (.invokestatic 62, 3) := by decide +kernel
theorem dX10_split_58 : decode cX10_split 58 = .ok (.ireturn, 1) := by decide +kernel
theorem dX10_join_0 : decode cX10_join 0 = .ok (.aload_n 0, 1) := by decide +kernel
theorem dX10_join_1 : decode cX10_join 1 = .ok (.iload_n 1, 1) := by decide +kernel
theorem dX10_join_2 : decode cX10_join 2 = .ok (.invokevirtual 39, 3) := by decide +kernel
theorem dX10_join_5 : decode cX10_join 5 = .ok (.astore 5, 2) := by decide +kernel
theorem dX10_join_7 : decode cX10_join 7 = .ok (.aload 5, 2) := by decide +kernel
theorem dX10_join_9 : decode cX10_join 9 = .ok (.ifnonnull 7, 3) := by decide +kernel
theorem dX10_join_12 : decode cX10_join 12 = .ok (.aconst_null, 1) := by decide +kernel
theorem dX10_join_13 : decode cX10_join 13 = .ok (.goto 9, 3) := by decide +kernel
theorem dX10_join_16 : decode cX10_join 16 = .ok (.aload 5, 2) := by decide +kernel
theorem dX10_join_18 : decode cX10_join 18 = .ok (.iload_n 2, 1) := by decide +kernel
theorem dX10_join_19 : decode cX10_join 19 = .ok (.invokevirtual 128, 3) := by decide +kernel
theorem dX10_join_22 : decode cX10_join 22 = .ok (.astore 6, 2) := by decide +kernel
theorem dX10_join_24 : decode cX10_join 24 = .ok (.aload 6, 2) := by decide +kernel
theorem dX10_join_26 : decode cX10_join 26 = .ok (.ifnull 12, 3) := by decide +kernel
theorem dX10_join_29 : decode cX10_join 29 = .ok (.aload 5, 2) := by decide +kernel
theorem dX10_join_31 : decode cX10_join 31 = .ok (.iload_n 3, 1) := by decide +kernel
theorem dX10_join_32 : decode cX10_join 32 = .ok (.invokevirtual 47, 3) := by decide +kernel
theorem dX10_join_35 : decode cX10_join 35 = .ok (.ifCond .ne 5, 3) := by decide +kernel
theorem dX10_join_38 : decode cX10_join 38 = .ok (.iconst 0, 1) := by decide +kernel
theorem dX10_join_39 : decode cX10_join 39 = .ok (.ireturn, 1) := by decide +kernel
theorem dX10_join_40 : decode cX10_join 40 = .ok (.aload 5, 2) := by decide +kernel
theorem dX10_join_42 : decode cX10_join 42 = .ok (.getfield 55, 3) := by decide +kernel
theorem dX10_join_45 : decode cX10_join 45 = .ok (.iload_n 3, 1) := by decide +kernel
theorem dX10_join_46 : decode cX10_join 46 = .ok (.aload 6, 2) := by decide +kernel
theorem dX10_join_48 : decode cX10_join 48 = .ok (.aload 5, 2) := by decide +kernel
theorem dX10_join_50 : decode cX10_join 50 = .ok (.getfield 55, 3) := by decide +kernel
theorem dX10_join_53 : decode cX10_join 53 = .ok (.iload_n 3, 1) := by decide +kernel
theorem dX10_join_54 : decode cX10_join 54 = .ok (.iaload, 1) := by decide +kernel
theorem dX10_join_55 : decode cX10_join 55 = .ok (.iload 4, 2) := by decide +kernel
theorem dX10_join_57 : decode cX10_join 57 = .ok (.aload 5, 2) := by decide +kernel
theorem dX10_join_59 : decode cX10_join 59 = .ok (.getfield 58, 3) := by decide +kernel
theorem dX10_join_62 : decode cX10_join 62 = .ok (.invokevirtual 143, 3) := by decide +kernel
theorem dX10_join_65 : decode cX10_join 65 = .ok (.iastore, 1) := by decide +kernel
theorem dX10_join_66 : decode cX10_join 66 = .ok (.iconst 1, 1) := by decide +kernel
theorem dX10_join_67 : decode cX10_join 67 = .ok (.ireturn, 1) := by decide +kernel
theorem dX10_all_0 : decode cX10_all 0 = .ok (.aload_n 0, 1) := by decide +kernel
theorem dX10_all_1 : decode cX10_all 1 = .ok (.iload_n 1, 1) := by decide +kernel
theorem dX10_all_2 : decode cX10_all 2 = .ok (.iconst 1, 1) := by decide +kernel
theorem dX10_all_3 : decode cX10_all 3 = .ok (.invokevirtual 147, 3) := by decide +kernel
theorem dX10_all_6 : decode cX10_all 6 = .ok (.astore_n 2, 1) := by decide +kernel
theorem dX10_all_7 : decode cX10_all 7 = .ok (.aload_n 2, 1) := by decide +kernel
theorem dX10_all_8 : decode cX10_all 8 = .ok (.ifnonnull 5, 3) := by decide +kernel
theorem dX10_all_11 : decode cX10_all 11 = .ok (.iconst (-1), 1) := by decide +kernel
theorem dX10_all_12 : decode cX10_all 12 = .ok (.ireturn, 1) := by decide +kernel
theorem dX10_all_13 : decode cX10_all 13 = .ok (.aload_n 2, 1) := by decide +kernel
theorem dX10_all_14 : decode cX10_all 14 = .ok (.invokevirtual 151, 3) := by decide +kernel
theorem dX10_all_17 : decode cX10_all 17 = .ok (.ifCond .eq 7, 3) := by decide +kernel
theorem dX10_all_20 : decode cX10_all 20 = .ok (.iconst 1, 1) := by decide +kernel
theorem dX10_all_21 : decode cX10_all 21 = .ok (.goto 4, 3) := by decide +kernel
theorem dX10_all_24 : decode cX10_all 24 = .ok (.iconst 0, 1) := by decide +kernel
theorem dX10_all_25 : decode cX10_all 25 = .ok (.ireturn, 1) := by decide +kernel
theorem dX10_shortest_0 : decode cX10_shortest 0 = .ok (.aload_n 0, 1) := by decide +kernel
theorem dX10_shortest_1 : decode cX10_shortest 1 = .ok (.iload_n 1, 1) := by decide +kernel
theorem dX10_shortest_2 : decode cX10_shortest 2 = .ok (.iconst 1, 1) := by decide +kernel
theorem dX10_shortest_3 : decode cX10_shortest 3 = .ok (.invokevirtual 147, 3) := by decide +kernel
theorem dX10_shortest_6 : decode cX10_shortest 6 = .ok (.astore_n 3, 1) := by decide +kernel
theorem dX10_shortest_7 : decode cX10_shortest 7 = .ok (.aload_n 3, 1) := by decide +kernel
theorem dX10_shortest_8 : decode cX10_shortest 8 = .ok (.ifnull 13, 3) := by decide +kernel
theorem dX10_shortest_11 : decode cX10_shortest 11 = .ok (.iload_n 2, 1) := by decide +kernel
theorem dX10_shortest_12 : decode cX10_shortest 12 = .ok (.iconst 2, 1) := by decide +kernel
theorem dX10_shortest_13 : decode cX10_shortest 13 = .ok (.if_icmp .lt 8, 3) := by decide +kernel
theorem dX10_shortest_16 : decode cX10_shortest 16 = .ok (.iload_n 2, 1) := by decide +kernel
theorem dX10_shortest_17 : decode cX10_shortest 17 = .ok (.iconst 4, 1) := by decide +kernel
theorem dX10_shortest_18 : decode cX10_shortest 18 = .ok (.if_icmp .le 5, 3) := by decide +kernel
theorem dX10_shortest_21 : decode cX10_shortest 21 = .ok (.iconst (-1), 1) := by decide +kernel
theorem dX10_shortest_22 : decode cX10_shortest 22 = .ok (.ireturn, 1) := by decide +kernel
theorem dX10_shortest_23 : decode cX10_shortest 23 = .ok (.aload_n 3, 1) := by decide +kernel
theorem dX10_shortest_24 : decode cX10_shortest 24 = .ok (.getfield 154, 3) := by decide +kernel
theorem dX10_shortest_27 : decode cX10_shortest 27 = .ok (.aload_n 3, 1) := by decide +kernel
theorem dX10_shortest_28 : decode cX10_shortest 28 = .ok (.getfield 85, 3) := by decide +kernel
theorem dX10_shortest_31 : decode cX10_shortest 31 = .ok (.iconst 0, 1) := by decide +kernel
theorem dX10_shortest_32 : decode cX10_shortest 32 = .ok (.iconst 0, 1) := by decide +kernel
theorem dX10_shortest_33 : decode cX10_shortest 33 = .ok (.invokevirtual 89, 3) := by decide +kernel
theorem dX10_shortest_36 : decode cX10_shortest 36 = .ok (.aload_n 3, 1) := by decide +kernel
theorem dX10_shortest_37 : decode cX10_shortest 37 = .ok (.getfield 58, 3) := by decide +kernel
theorem dX10_shortest_40 : decode cX10_shortest 40 = .ok (.iload_n 2, 1) := by decide +kernel
theorem dX10_shortest_41 : decode cX10_shortest 41 = .ok (.invokevirtual 158, 3) := by decide +kernel
theorem dX10_shortest_44 : decode cX10_shortest 44 = .ok (.aload_n 3, 1) := by decide +kernel
theorem dX10_shortest_45 : decode cX10_shortest 45 = .ok (.getfield 154, 3) := by decide +kernel
theorem dX10_shortest_48 : decode cX10_shortest 48 = .ok (.getfield 163, 3) := by decide +kernel
theorem dX10_shortest_51 : decode cX10_shortest 51 = .ok (.ireturn, 1) := by decide +kernel
theorem dX10_line_0 : decode cX10_line 0 = .ok (.aload_n 0, 1) := by decide +kernel
theorem dX10_line_1 : decode cX10_line 1 = .ok (.iload_n 1, 1) := by decide +kernel
theorem dX10_line_2 : decode cX10_line 2 = .ok (.iconst 1, 1) := by decide +kernel
theorem dX10_line_3 : decode cX10_line 3 = .ok (.invokevirtual 147, 3) := by decide +kernel
theorem dX10_line_6 : decode cX10_line 6 = .ok (.astore 4, 2) := by decide +kernel
theorem dX10_line_8 : decode cX10_line 8 = .ok (.aload 4, 2) := by decide +kernel
theorem dX10_line_10 : decode cX10_line 10 = .ok (.ifnull 22, 3) := by decide +kernel
theorem dX10_line_13 : decode cX10_line 13 = .ok (.iload_n 2, 1) := by decide +kernel
theorem dX10_line_14 : decode cX10_line 14 = .ok (.iconst 2, 1) := by decide +kernel
theorem dX10_line_15 : decode cX10_line 15 = .ok (.if_icmp .lt 17, 3) := by decide +kernel
theorem dX10_line_18 : decode cX10_line 18 = .ok (.iload_n 2, 1) := by decide +kernel
theorem dX10_line_19 : decode cX10_line 19 = .ok (.iconst 4, 1) := by decide +kernel
theorem dX10_line_20 : decode cX10_line 20 = .ok (.if_icmp .gt 12, 3) := by decide +kernel
theorem dX10_line_23 : decode cX10_line 23 = .ok (.iload_n 3, 1) := by decide +kernel
theorem dX10_line_24 : decode cX10_line 24 = .ok (.ifCond .lt 8, 3) := by decide +kernel
theorem dX10_line_27 : decode cX10_line 27 = .ok (.iload_n 3, 1) := by decide +kernel
theorem dX10_line_28 : decode cX10_line 28 = .ok (.iload_n 2, 1) := by decide +kernel
theorem dX10_line_29 : decode cX10_line 29 = .ok (.if_icmp .lt 7, 3) := by decide +kernel
theorem dX10_line_32 : decode cX10_line 32 = .ok (.sipush 501, 3) := by decide +kernel
theorem dX10_line_35 : decode cX10_line 35 = .ok (.ireturn, 1) := by decide +kernel
theorem dX10_line_36 : decode cX10_line 36 = .ok (.aload 4, 2) := by decide +kernel
theorem dX10_line_38 : decode cX10_line 38 = .ok (.getfield 154, 3) := by decide +kernel
theorem dX10_line_41 : decode cX10_line 41 = .ok (.aload 4, 2) := by decide +kernel
theorem dX10_line_43 : decode cX10_line 43 = .ok (.getfield 85, 3) := by decide +kernel
theorem dX10_line_46 : decode cX10_line 46 = .ok (.iconst 0, 1) := by decide +kernel
theorem dX10_line_47 : decode cX10_line 47 = .ok (.iconst 0, 1) := by decide +kernel
theorem dX10_line_48 : decode cX10_line 48 = .ok (.invokevirtual 89, 3) := by decide +kernel
theorem dX10_line_51 : decode cX10_line 51 = .ok (.aload 4, 2) := by decide +kernel
theorem dX10_line_53 : decode cX10_line 53 = .ok (.getfield 58, 3) := by decide +kernel
theorem dX10_line_56 : decode cX10_line 56 = .ok (.iload_n 2, 1) := by decide +kernel
theorem dX10_line_57 : decode cX10_line 57 = .ok (.invokevirtual 158, 3) := by decide +kernel
theorem dX10_line_60 : decode cX10_line 60 = .ok (.aload 4, 2) := by decide +kernel
theorem dX10_line_62 : decode cX10_line 62 = .ok (.getfield 154, 3) := by decide +kernel
theorem dX10_line_65 : decode cX10_line 65 = .ok (.getfield 166, 3) := by decide +kernel
theorem dX10_line_68 : decode cX10_line 68 = .ok (.iload_n 3, 1) := by decide +kernel
theorem dX10_line_69 : decode cX10_line 69 = .ok (.iaload, 1) := by decide +kernel
theorem dX10_line_70 : decode cX10_line 70 = .ok (.ireturn, 1) := by decide +kernel
theorem dX10_paint_0 : decode cX10_paint 0 = .ok (.aload_n 0, 1) := by decide +kernel
theorem dX10_paint_1 : decode cX10_paint 1 = .ok (.iload_n 1, 1) := by decide +kernel
theorem dX10_paint_2 : decode cX10_paint 2 = .ok (.iconst 3, 1) := by decide +kernel
theorem dX10_paint_3 : decode cX10_paint 3 = .ok (.invokevirtual 147, 3) := by decide +kernel
theorem dX10_paint_6 : decode cX10_paint 6 = .ok (.astore 5, 2) := by decide +kernel
theorem dX10_paint_8 : decode cX10_paint 8 = .ok (.aload 5, 2) := by decide +kernel
theorem dX10_paint_10 : decode cX10_paint 10 = .ok (.ifnull 29, 3) := by decide +kernel
theorem dX10_paint_13 : decode cX10_paint 13 = .ok (.aload 5, 2) := by decide +kernel
theorem dX10_paint_15 : decode cX10_paint 15 = .ok (.getfield 169, 3) := by decide +kernel
theorem dX10_paint_18 : decode cX10_paint 18 = .ok (.iload_n 2, 1) := by decide +kernel
theorem dX10_paint_19 : decode cX10_paint 19 = .ok (.iload_n 3, 1) := by decide +kernel
theorem dX10_paint_20 : decode cX10_paint 20 = .ok (.invokevirtual 173, 3) := by decide +kernel
theorem dX10_paint_23 : decode cX10_paint 23 = .ok (.ifCond .eq 16, 3) := by decide +kernel
theorem dX10_paint_26 : decode cX10_paint 26 = .ok (.iload 4, 2) := by decide +kernel
theorem dX10_paint_28 : decode cX10_paint 28 = .ok (.ifCond .lt 11, 3) := by decide +kernel
theorem dX10_paint_31 : decode cX10_paint 31 = .ok (.iload 4, 2) := by decide +kernel
theorem dX10_paint_33 : decode cX10_paint 33 = .ok (.sipush 255, 3) := by decide +kernel
theorem dX10_paint_36 : decode cX10_paint 36 = .ok (.if_icmp .le 5, 3) := by decide +kernel
theorem dX10_paint_39 : decode cX10_paint 39 = .ok (.iconst 0, 1) := by decide +kernel
theorem dX10_paint_40 : decode cX10_paint 40 = .ok (.ireturn, 1) := by decide +kernel
theorem dX10_paint_41 : decode cX10_paint 41 = .ok (.aload 5, 2) := by decide +kernel
theorem dX10_paint_43 : decode cX10_paint 43 = .ok (.getfield 169, 3) := by decide +kernel
theorem dX10_paint_46 : decode cX10_paint 46 = .ok (.getfield 179, 3) := by decide +kernel
theorem dX10_paint_49 : decode cX10_paint 49 = .ok (.aload 5, 2) := by decide +kernel
theorem dX10_paint_51 : decode cX10_paint 51 = .ok (.getfield 169, 3) := by decide +kernel
theorem dX10_paint_54 : decode cX10_paint 54 = .ok (.iload_n 2, 1) := by decide +kernel
theorem dX10_paint_55 : decode cX10_paint 55 = .ok (.iload_n 3, 1) := by decide +kernel
theorem dX10_paint_56 : decode cX10_paint 56 = .ok (.invokevirtual 182, 3) := by decide +kernel
theorem dX10_paint_59 : decode cX10_paint 59 = .ok (.iload 4, 2) := by decide +kernel
theorem dX10_paint_61 : decode cX10_paint 61 = .ok (.iastore, 1) := by decide +kernel
theorem dX10_paint_62 : decode cX10_paint 62 = .ok (.iconst 1, 1) := by decide +kernel
theorem dX10_paint_63 : decode cX10_paint 63 = .ok (.ireturn, 1) := by decide +kernel
theorem dX10_picture_0 : decode cX10_picture 0 = .ok (.aload_n 0, 1) := by decide +kernel
theorem dX10_picture_1 : decode cX10_picture 1 = .ok (.iload_n 1, 1) := by decide +kernel
theorem dX10_picture_2 : decode cX10_picture 2 = .ok (.iconst 3, 1) := by decide +kernel
theorem dX10_picture_3 : decode cX10_picture 3 = .ok (.invokevirtual 147, 3) := by decide +kernel
theorem dX10_picture_6 : decode cX10_picture 6 = .ok (.astore 4, 2) := by decide +kernel
theorem dX10_picture_8 : decode cX10_picture 8 = .ok (.aload 4, 2) := by decide +kernel
theorem dX10_picture_10 : decode cX10_picture 10 = .ok (.ifnull 16, 3) := by decide +kernel
theorem dX10_picture_13 : decode cX10_picture 13 = .ok (.aload 4, 2) := by decide +kernel
theorem dX10_picture_15 : decode cX10_picture 15 = .ok (.getfield 169, 3) := by decide +kernel
theorem dX10_picture_18 : decode cX10_picture 18 = .ok (.iload_n 2, 1) := by decide +kernel
theorem dX10_picture_19 : decode cX10_picture 19 = .ok (.iload_n 3, 1) := by decide +kernel
theorem dX10_picture_20 : decode cX10_picture 20 = .ok (.invokevirtual 173, 3) := by decide +kernel
theorem dX10_picture_23 : decode cX10_picture 23 = .ok (.ifCond .ne 5, 3) := by decide +kernel
theorem dX10_picture_26 : decode cX10_picture 26 = .ok (.iconst (-1), 1) := by decide +kernel
theorem dX10_picture_27 : decode cX10_picture 27 = .ok (.ireturn, 1) := by decide +kernel
theorem dX10_picture_28 : decode cX10_picture 28 = .ok (.aload 4, 2) := by decide +kernel
theorem dX10_picture_30 : decode cX10_picture 30 = .ok (.getfield 169, 3) := by decide +kernel
theorem dX10_picture_33 : decode cX10_picture 33 = .ok (.getfield 179, 3) := by decide +kernel
theorem dX10_picture_36 : decode cX10_picture 36 = .ok (.aload 4, 2) := by decide +kernel
theorem dX10_picture_38 : decode cX10_picture 38 = .ok (.getfield 169, 3) := by decide +kernel
theorem dX10_picture_41 : decode cX10_picture 41 = .ok (.iload_n 2, 1) := by decide +kernel
theorem dX10_picture_42 : decode cX10_picture 42 = .ok (.iload_n 3, 1) := by decide +kernel
theorem dX10_picture_43 : decode cX10_picture 43 = .ok (.invokevirtual 182, 3) := by decide +kernel
theorem dX10_picture_46 : decode cX10_picture 46 = .ok (.iaload, 1) := by decide +kernel
theorem dX10_picture_47 : decode cX10_picture 47 = .ok (.ireturn, 1) := by decide +kernel
theorem dX10_move_0 : decode cX10_move 0 = .ok (.aload_n 0, 1) := by decide +kernel
theorem dX10_move_1 : decode cX10_move 1 = .ok (.iload_n 1, 1) := by decide +kernel
theorem dX10_move_2 : decode cX10_move 2 = .ok (.iconst 3, 1) := by decide +kernel
theorem dX10_move_3 : decode cX10_move 3 = .ok (.invokevirtual 147, 3) := by decide +kernel
theorem dX10_move_6 : decode cX10_move 6 = .ok (.astore 4, 2) := by decide +kernel
theorem dX10_move_8 : decode cX10_move 8 = .ok (.aload 4, 2) := by decide +kernel
theorem dX10_move_10 : decode cX10_move 10 = .ok (.ifnull 17, 3) := by decide +kernel
theorem dX10_move_13 : decode cX10_move 13 = .ok (.lload_n 2, 1) := by decide +kernel
theorem dX10_move_14 : decode cX10_move 14 = .ok (.lconst 0, 1) := by decide +kernel
theorem dX10_move_15 : decode cX10_move 15 = .ok (.lcmp, 1) := by decide +kernel
theorem dX10_move_16 : decode cX10_move 16 = .ok (.ifCond .lt 11, 3) := by decide +kernel
theorem dX10_move_19 : decode cX10_move 19 = .ok (.aload 4, 2) := by decide +kernel
theorem dX10_move_21 : decode cX10_move 21 = .ok (.invokevirtual 78, 3) := by decide +kernel
theorem dX10_move_24 : decode cX10_move 24 = .ok (.ifCond .ne 5, 3) := by decide +kernel
theorem dX10_move_27 : decode cX10_move 27 = .ok (.iconst 0, 1) := by decide +kernel
theorem dX10_move_28 : decode cX10_move 28 = .ok (.ireturn, 1) := by decide +kernel
theorem dX10_move_29 : decode cX10_move 29 = .ok (.aload 4, 2) := by decide +kernel
theorem dX10_move_31 : decode cX10_move 31 = .ok (.getfield 169, 3) := by decide +kernel
theorem dX10_move_34 : decode cX10_move 34 = .ok (.aload 4, 2) := by decide +kernel
theorem dX10_move_36 : decode cX10_move 36 = .ok (.getfield 96, 3) := by decide +kernel
theorem dX10_move_39 : decode cX10_move 39 = .ok (.lload_n 2, 1) := by decide +kernel
theorem dX10_move_40 : decode cX10_move 40 = .ok (.invokevirtual 185, 3) := by decide +kernel
theorem dX10_move_43 : decode cX10_move 43 = .ok (.aload_n 0, 1) := by decide +kernel
theorem dX10_move_44 : decode cX10_move 44 = .ok (.getfield 22, 3) := by decide +kernel
theorem dX10_move_47 : decode cX10_move 47 = .ok (.invokevirtual 189, 3) := by decide +kernel
theorem dX10_move_50 : decode cX10_move 50 = .ok (.iconst 1, 1) := by decide +kernel
theorem dX10_move_51 : decode cX10_move 51 = .ok (.ireturn, 1) := by decide +kernel
theorem dX10_seen_0 : decode cX10_seen 0 = .ok (.aload_n 0, 1) := by decide +kernel
theorem dX10_seen_1 : decode cX10_seen 1 = .ok (.iload_n 1, 1) := by decide +kernel
theorem dX10_seen_2 : decode cX10_seen 2 = .ok (.iconst 3, 1) := by decide +kernel
theorem dX10_seen_3 : decode cX10_seen 3 = .ok (.invokevirtual 147, 3) := by decide +kernel
theorem dX10_seen_6 : decode cX10_seen 6 = .ok (.astore_n 2, 1) := by decide +kernel
theorem dX10_seen_7 : decode cX10_seen 7 = .ok (.aload_n 2, 1) := by decide +kernel
theorem dX10_seen_8 : decode cX10_seen 8 = .ok (.ifnull 10, 3) := by decide +kernel
theorem dX10_seen_11 : decode cX10_seen 11 = .ok (.aload_n 2, 1) := by decide +kernel
theorem dX10_seen_12 : decode cX10_seen 12 = .ok (.invokevirtual 78, 3) := by decide +kernel
theorem dX10_seen_15 : decode cX10_seen 15 = .ok (.ifCond .ne 9, 3) := by decide +kernel
theorem dX10_seen_18 : decode cX10_seen 18 = .ok (.ldc2_w 110, 3) := by decide +kernel
theorem dX10_seen_21 : decode cX10_seen 21 = .ok (.goto 14, 3) := by decide +kernel
theorem dX10_seen_24 : decode cX10_seen 24 = .ok (.aload_n 2, 1) := by decide +kernel
theorem dX10_seen_25 : decode cX10_seen 25 = .ok (.getfield 96, 3) := by decide +kernel
theorem dX10_seen_28 : decode cX10_seen 28 = .ok (.aload_n 2, 1) := by decide +kernel
theorem dX10_seen_29 : decode cX10_seen 29 = .ok (.getfield 169, 3) := by decide +kernel
theorem dX10_seen_32 : decode cX10_seen 32 = .ok (.invokevirtual 193, 3) := by decide +kernel
theorem dX10_seen_35 : decode cX10_seen 35 = .ok (.lreturn, 1) := by decide +kernel
theorem dX10_begin_0 : decode cX10_begin 0 = .ok (.iload_n 1, 1) := by decide +kernel
theorem dX10_begin_1 : decode cX10_begin 1 = .ok (.invokestatic 197, 3) := by decide +kernel
theorem dX10_begin_4 : decode cX10_begin 4 = .ok (.ifCond .ne 5, 3) := by decide +kernel
theorem dX10_begin_7 : decode cX10_begin 7 = .ok (.iconst 0, 1) := by decide +kernel
theorem dX10_begin_8 : decode cX10_begin 8 = .ok (.ireturn, 1) := by decide +kernel
theorem dX10_begin_9 : decode cX10_begin 9 = .ok (.aload_n 0, 1) := by decide +kernel
theorem dX10_begin_10 : decode cX10_begin 10 = .ok (.getfield 18, 3) := by decide +kernel
theorem dX10_begin_13 : decode cX10_begin 13 = .ok (.iload_n 1, 1) := by decide +kernel
theorem dX10_begin_14 : decode cX10_begin 14 = .ok (.invokevirtual 200, 3) := by decide +kernel
theorem dX10_begin_17 : decode cX10_begin 17 = .ok (.iconst 1, 1) := by decide +kernel
theorem dX10_begin_18 : decode cX10_begin 18 = .ok (.ireturn, 1) := by decide +kernel
theorem dX10_tell_0 : decode cX10_tell 0 = .ok (.aload_n 0, 1) := by decide +kernel
theorem dX10_tell_1 : decode cX10_tell 1 = .ok (.getfield 18, 3) := by decide +kernel
theorem dX10_tell_4 : decode cX10_tell 4 = .ok (.iload_n 1, 1) := by decide +kernel
theorem dX10_tell_5 : decode cX10_tell 5 = .ok (.invokevirtual 204, 3) := by decide +kernel
theorem dX10_tell_8 : decode cX10_tell 8 = .ok (.ifCond .eq 13, 3) := by decide +kernel
theorem dX10_tell_11 : decode cX10_tell 11 = .ok (.aload_n 0, 1) := by decide +kernel
theorem dX10_tell_12 : decode cX10_tell 12 = .ok (.getfield 18, 3) := by decide +kernel
theorem dX10_tell_15 : decode cX10_tell 15 = .ok (.getfield 207, 3) := by decide +kernel
theorem dX10_tell_18 : decode cX10_tell 18 = .ok (.goto 4, 3) := by decide +kernel
theorem dX10_tell_21 : decode cX10_tell 21 = .ok (.iconst (-1), 1) := by decide +kernel
theorem dX10_tell_22 : decode cX10_tell 22 = .ok (.ireturn, 1) := by decide +kernel
theorem dX10_least_0 : decode cX10_least 0 = .ok (.aload_n 0, 1) := by decide +kernel
theorem dX10_least_1 : decode cX10_least 1 = .ok (.getfield 18, 3) := by decide +kernel
theorem dX10_least_4 : decode cX10_least 4 = .ok (.getfield 210, 3) := by decide +kernel
theorem dX10_least_7 : decode cX10_least 7 = .ok (.ireturn, 1) := by decide +kernel
theorem dX10_shown_0 : decode cX10_shown 0 = .ok (.iconst 2, 1) := by decide +kernel
theorem dX10_shown_1 : decode cX10_shown 1 = .ok (.aload_n 0, 1) := by decide +kernel
theorem dX10_shown_2 : decode cX10_shown 2 = .ok (.getfield 18, 3) := by decide +kernel
theorem dX10_shown_5 : decode cX10_shown 5 = .ok (.getfield 210, 3) := by decide +kernel
theorem dX10_shown_8 : decode cX10_shown 8 = .ok (.imul, 1) := by decide +kernel
theorem dX10_shown_9 : decode cX10_shown 9 = .ok (.aload_n 0, 1) := by decide +kernel
theorem dX10_shown_10 : decode cX10_shown 10 = .ok (.getfield 18, 3) := by decide +kernel
theorem dX10_shown_13 : decode cX10_shown 13 = .ok (.getfield 207, 3) := by decide +kernel
theorem dX10_shown_16 : decode cX10_shown 16 = .ok (.if_icmp .gt 7, 3) := by decide +kernel
theorem dX10_shown_19 : decode cX10_shown 19 = .ok (.iconst 1, 1) := by decide +kernel
theorem dX10_shown_20 : decode cX10_shown 20 = .ok (.goto 4, 3) := by decide +kernel
theorem dX10_shown_23 : decode cX10_shown 23 = .ok (.iconst 0, 1) := by decide +kernel
theorem dX10_shown_24 : decode cX10_shown 24 = .ok (.ireturn, 1) := by decide +kernel
theorem dX10_rule_0 : decode cX10_rule 0 = .ok (.iload_n 1, 1) := by decide +kernel
theorem dX10_rule_1 : decode cX10_rule 1 = .ok (.iconst 1, 1) := by decide +kernel
theorem dX10_rule_2 : decode cX10_rule 2 = .ok (.if_icmp .lt 14, 3) := by decide +kernel
theorem dX10_rule_5 : decode cX10_rule 5 = .ok (.iload_n 1, 1) := by decide +kernel
theorem dX10_rule_6 : decode cX10_rule 6 = .ok (.aload_n 0, 1) := by decide +kernel
theorem dX10_rule_7 : decode cX10_rule 7 = .ok (.getfield 18, 3) := by decide +kernel
theorem dX10_rule_10 : decode cX10_rule 10 = .ok (.getfield 210, 3) := by decide +kernel
theorem dX10_rule_13 : decode cX10_rule 13 = .ok (.if_icmp .le 5, 3) := by decide +kernel
theorem dX10_rule_16 : decode cX10_rule 16 = .ok (.iconst (-1), 1) := by decide +kernel
theorem dX10_rule_17 : decode cX10_rule 17 = .ok (.ireturn, 1) := by decide +kernel
theorem dX10_rule_18 : decode cX10_rule 18 = .ok (.aload_n 0, 1) := by decide +kernel
theorem dX10_rule_19 : decode cX10_rule 19 = .ok (.getfield 18, 3) := by decide +kernel
theorem dX10_rule_22 : decode cX10_rule 22 = .ok (.invokevirtual 213, 3) := by decide +kernel
theorem dX10_rule_25 : decode cX10_rule 25 = .ok (.aload_n 0, 1) := by decide +kernel
theorem dX10_rule_26 : decode cX10_rule 26 = .ok (.getfield 18, 3) := by decide +kernel
theorem dX10_rule_29 : decode cX10_rule 29 = .ok (.getfield 216, 3) := by decide +kernel
theorem dX10_rule_32 : decode cX10_rule 32 = .ok (.iload_n 1, 1) := by decide +kernel
theorem dX10_rule_33 : decode cX10_rule 33 = .ok (.iaload, 1) := by decide +kernel
theorem dX10_rule_34 : decode cX10_rule 34 = .ok (.ireturn, 1) := by decide +kernel
theorem dX10_check_0 : decode cX10_check 0 = .ok (.aload_n 0, 1) := by decide +kernel
theorem dX10_check_1 : decode cX10_check 1 = .ok (.iload_n 1, 1) := by decide +kernel
theorem dX10_check_2 : decode cX10_check 2 = .ok (.invokevirtual 39, 3) := by decide +kernel
theorem dX10_check_5 : decode cX10_check 5 = .ok (.astore 4, 2) := by decide +kernel
theorem dX10_check_7 : decode cX10_check 7 = .ok (.aload 4, 2) := by decide +kernel
theorem dX10_check_9 : decode cX10_check 9 = .ok (.ifnull 17, 3) := by decide +kernel
theorem dX10_check_12 : decode cX10_check 12 = .ok (.lload_n 2, 1) := by decide +kernel
theorem dX10_check_13 : decode cX10_check 13 = .ok (.lconst 1, 1) := by decide +kernel
theorem dX10_check_14 : decode cX10_check 14 = .ok (.lcmp, 1) := by decide +kernel
theorem dX10_check_15 : decode cX10_check 15 = .ok (.ifCond .lt 11, 3) := by decide +kernel
theorem dX10_check_18 : decode cX10_check 18 = .ok (.lload_n 2, 1) := by decide +kernel
theorem dX10_check_19 : decode cX10_check 19 = .ok (.ldc2_w 123, 3) := by decide +kernel
theorem dX10_check_22 : decode cX10_check 22 = .ok (.lcmp, 1) := by decide +kernel
theorem dX10_check_23 : decode cX10_check 23 = .ok (.ifCond .le 5, 3) := by decide +kernel
theorem dX10_check_26 : decode cX10_check 26 = .ok (.iconst (-1), 1) := by decide +kernel
theorem dX10_check_27 : decode cX10_check 27 = .ok (.ireturn, 1) := by decide +kernel
theorem dX10_check_28 : decode cX10_check 28 = .ok (.aload 4, 2) := by decide +kernel
theorem dX10_check_30 : decode cX10_check 30 = .ok (.getfield 96, 3) := by decide +kernel
theorem dX10_check_33 : decode cX10_check 33 = .ok (.aload 4, 2) := by decide +kernel
theorem dX10_check_35 : decode cX10_check 35 = .ok (.getfield 55, 3) := by decide +kernel
theorem dX10_check_38 : decode cX10_check 38 = .ok (.invokevirtual 112, 3) := by decide +kernel
theorem dX10_check_41 : decode cX10_check 41 = .ok (.lload_n 2, 1) := by decide +kernel
theorem dX10_check_42 : decode cX10_check 42 = .ok (.lcmp, 1) := by decide +kernel
theorem dX10_check_43 : decode cX10_check 43 = .ok (.ifCond .ne 7, 3) := by decide +kernel
theorem dX10_check_46 : decode cX10_check 46 = .ok (.iconst 1, 1) := by decide +kernel
theorem dX10_check_47 : decode cX10_check 47 = .ok (.goto 4, 3) := by decide +kernel
theorem dX10_check_50 : decode cX10_check 50 = .ok (.iconst 0, 1) := by decide +kernel
theorem dX10_check_51 : decode cX10_check 51 = .ok (.ireturn, 1) := by decide +kernel
theorem dX10_millAt_0 : decode cX10_millAt 0 = .ok (.iload_n 1, 1) := by decide +kernel
theorem dX10_millAt_1 : decode cX10_millAt 1 = .ok (.ifCond .lt 12, 3) := by decide +kernel
theorem dX10_millAt_4 : decode cX10_millAt 4 = .ok (.iload_n 1, 1) := by decide +kernel
theorem dX10_millAt_5 : decode cX10_millAt 5 = .ok (.aload_n 0, 1) := by decide +kernel
theorem dX10_millAt_6 : decode cX10_millAt 6 = .ok (.getfield 11, 3) := by decide +kernel
theorem dX10_millAt_9 : decode cX10_millAt 9 = .ok (.arraylength, 1) := by decide +kernel
theorem dX10_millAt_10 : decode cX10_millAt 10 = .ok (.if_icmp .lt 5, 3) := by decide +kernel
theorem dX10_millAt_13 : decode cX10_millAt 13 = .ok (.aconst_null, 1) := by decide +kernel
theorem dX10_millAt_14 : decode cX10_millAt 14 = .ok (.areturn, 1) := by decide +kernel
theorem dX10_millAt_15 : decode cX10_millAt 15 = .ok (.aload_n 0, 1) := by decide +kernel
theorem dX10_millAt_16 : decode cX10_millAt 16 = .ok (.getfield 11, 3) := by decide +kernel
theorem dX10_millAt_19 : decode cX10_millAt 19 = .ok (.iload_n 1, 1) := by decide +kernel
theorem dX10_millAt_20 : decode cX10_millAt 20 = .ok (.aaload, 1) := by decide +kernel
theorem dX10_millAt_21 : decode cX10_millAt 21 = .ok (.getfield 31, 3) := by decide +kernel
theorem dX10_millAt_24 : decode cX10_millAt 24 = .ok (.ifCond .eq 12, 3) := by decide +kernel
theorem dX10_millAt_27 : decode cX10_millAt 27 = .ok (.aload_n 0, 1) := by decide +kernel
theorem dX10_millAt_28 : decode cX10_millAt 28 = .ok (.getfield 11, 3) := by decide +kernel
theorem dX10_millAt_31 : decode cX10_millAt 31 = .ok (.iload_n 1, 1) := by decide +kernel
theorem dX10_millAt_32 : decode cX10_millAt 32 = .ok (.aaload, 1) := by decide +kernel
theorem dX10_millAt_33 : decode cX10_millAt 33 = .ok (.goto 4, 3) := by decide +kernel
theorem dX10_millAt_36 : decode cX10_millAt 36 = .ok (.aconst_null, 1) := by decide +kernel
theorem dX10_millAt_37 : decode cX10_millAt 37 = .ok (.areturn, 1) := by decide +kernel
theorem dX10_millOf_0 : decode cX10_millOf 0 = .ok (.aload_n 0, 1) := by decide +kernel
theorem dX10_millOf_1 : decode cX10_millOf 1 = .ok (.iload_n 1, 1) := by decide +kernel
theorem dX10_millOf_2 : decode cX10_millOf 2 = .ok (.invokevirtual 39, 3) := by decide +kernel
theorem dX10_millOf_5 : decode cX10_millOf 5 = .ok (.astore_n 3, 1) := by decide +kernel
theorem dX10_millOf_6 : decode cX10_millOf 6 = .ok (.aload_n 3, 1) := by decide +kernel
theorem dX10_millOf_7 : decode cX10_millOf 7 = .ok (.ifnull 15, 3) := by decide +kernel
theorem dX10_millOf_10 : decode cX10_millOf 10 = .ok (.aload_n 3, 1) := by decide +kernel
theorem dX10_millOf_11 : decode cX10_millOf 11 = .ok (.getfield 68, 3) := by decide +kernel
theorem dX10_millOf_14 : decode cX10_millOf 14 = .ok (.iload_n 2, 1) := by decide +kernel
theorem dX10_millOf_15 : decode cX10_millOf 15 = .ok (.if_icmp .ne 7, 3) := by decide +kernel
theorem dX10_millOf_18 : decode cX10_millOf 18 = .ok (.aload_n 3, 1) := by decide +kernel
theorem dX10_millOf_19 : decode cX10_millOf 19 = .ok (.goto 4, 3) := by decide +kernel
theorem dX10_millOf_22 : decode cX10_millOf 22 = .ok (.aconst_null, 1) := by decide +kernel
theorem dX10_millOf_23 : decode cX10_millOf 23 = .ok (.areturn, 1) := by decide +kernel
