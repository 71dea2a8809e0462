theorem dX11_isNet_0 : decode cX11_isNet 0 = .ok (.aload_n 0, 1) := by decide +kernel
theorem dX11_isNet_1 : decode cX11_isNet 1 = .ok (.iload_n 1, 1) := by decide +kernel
theorem dX11_isNet_2 : decode cX11_isNet 2 = .ok (.invokevirtual 108, 3) := by decide +kernel
theorem dX11_isNet_5 : decode cX11_isNet 5 = .ok (.ifCond .eq 27, 3) := by decide +kernel
theorem dX11_isNet_8 : decode cX11_isNet 8 = .ok (.aload_n 0, 1) := by decide +kernel
theorem dX11_isNet_9 : decode cX11_isNet 9 = .ok (.getfield 13, 3) := by decide +kernel
theorem dX11_isNet_12 : decode cX11_isNet 12 = .ok (.iload_n 1, 1) := by decide +kernel
theorem dX11_isNet_13 : decode cX11_isNet 13 = .ok (.iaload, 1) := by decide +kernel
theorem dX11_isNet_14 : decode cX11_isNet 14 = .ok (.iconst 1, 1) := by decide +kernel
theorem dX11_isNet_15 : decode cX11_isNet 15 = .ok (.if_icmp .ne 17, 3) := by decide +kernel
theorem dX11_isNet_18 : decode cX11_isNet 18 = .ok (.iload_n 2, 1) := by decide +kernel
theorem dX11_isNet_19 : decode cX11_isNet 19 = .ok (.iconst 2, 1) := by decide +kernel
theorem dX11_isNet_20 : decode cX11_isNet 20 = .ok (.if_icmp .lt 12, 3) := by decide +kernel
theorem dX11_isNet_23 : decode cX11_isNet 23 = .ok (.iload_n 2, 1) := by decide +kernel
theorem dX11_isNet_24 : decode cX11_isNet 24 = .ok (.iconst 4, 1) := by decide +kernel
theorem dX11_isNet_25 : decode cX11_isNet 25 = .ok (.if_icmp .gt 7, 3) := by decide +kernel
theorem dX11_isNet_28 : decode cX11_isNet 28 = .ok (.iconst 1, 1) := by decide +kernel
theorem dX11_isNet_29 : decode cX11_isNet 29 = .ok (.goto 4, 3) := by decide +kernel
theorem dX11_isNet_32 : decode cX11_isNet 32 = .ok (.iconst 0, 1) := by decide +kernel
theorem dX11_isNet_33 : decode cX11_isNet 33 = .ok (.ireturn, 1) := by decide +kernel
theorem dX11_shortest_0 : decode cX11_shortest 0 = .ok (.aload_n 0, 1) := by decide +kernel
theorem dX11_shortest_1 : decode cX11_shortest 1 = .ok (.iconst 0, 1) := by decide +kernel
theorem dX11_shortest_2 : decode cX11_shortest 2 = .ok (.putfield 104, 3) := by decide +kernel
theorem dX11_shortest_5 : decode cX11_shortest 5 = .ok (.aload_n 0, 1) := by decide +kernel
theorem dX11_shortest_6 : decode cX11_shortest 6 = .ok (.iload_n 1, 1) := by decide +kernel
theorem dX11_shortest_7 : decode cX11_shortest 7 = .ok (.iload_n 2, 1) := by decide +kernel
theorem dX11_shortest_8 : decode cX11_shortest 8 = .ok (.invokevirtual 242, 3) := by decide +kernel
theorem dX11_shortest_11 : decode cX11_shortest 11 = .ok (.ifCond .eq 12, 3) := by decide +kernel
theorem dX11_shortest_14 : decode cX11_shortest 14 = .ok (.aload_n 0, 1) := by decide +kernel
theorem dX11_shortest_15 : decode cX11_shortest 15 = .ok (.iload_n 1, 1) := by decide +kernel
theorem dX11_shortest_16 : decode cX11_shortest 16 = .ok (.iload_n 2, 1) := by decide +kernel
theorem dX11_shortest_17 : decode cX11_shortest 17 = .ok (.invokevirtual 245, 3) := by decide +kernel
theorem dX11_shortest_20 : decode cX11_shortest 20 = .ok (.goto 4, 3) := by decide +kernel
theorem dX11_shortest_23 : decode cX11_shortest 23 = .ok (.iconst (-1), 1) := by decide +kernel
theorem dX11_shortest_24 : decode cX11_shortest 24 = .ok (.ireturn, 1) := by decide +kernel
theorem dX11_line_0 : decode cX11_line 0 = .ok (.aload_n 0, 1) := by decide +kernel
theorem dX11_line_1 : decode cX11_line 1 = .ok (.iconst 0, 1) := by decide +kernel
theorem dX11_line_2 : decode cX11_line 2 = .ok (.putfield 104, 3) := by decide +kernel
theorem dX11_line_5 : decode cX11_line 5 = .ok (.aload_n 0, 1) := by decide +kernel
theorem dX11_line_6 : decode cX11_line 6 = .ok (.iload_n 1, 1) := by decide +kernel
theorem dX11_line_7 : decode cX11_line 7 = .ok (.iload_n 2, 1) := by decide +kernel
theorem dX11_line_8 : decode cX11_line 8 = .ok (.invokevirtual 242, 3) := by decide +kernel
theorem dX11_line_11 : decode cX11_line 11 = .ok (.ifCond .eq 12, 3) := by decide +kernel
theorem dX11_line_14 : decode cX11_line 14 = .ok (.iload_n 3, 1) := by decide +kernel
theorem dX11_line_15 : decode cX11_line 15 = .ok (.ifCond .lt 8, 3) := by decide +kernel
theorem dX11_line_18 : decode cX11_line 18 = .ok (.iload_n 3, 1) := by decide +kernel
theorem dX11_line_19 : decode cX11_line 19 = .ok (.iload_n 2, 1) := by decide +kernel
theorem dX11_line_20 : decode cX11_line 20 = .ok (.if_icmp .lt 7, 3) := by decide +kernel
theorem dX11_line_23 : decode cX11_line 23 = .ok (.sipush 501, 3) := by decide +kernel
theorem dX11_line_26 : decode cX11_line 26 = .ok (.ireturn, 1) := by decide +kernel
theorem dX11_line_27 : decode cX11_line 27 = .ok (.aload_n 0, 1) := by decide +kernel
theorem dX11_line_28 : decode cX11_line 28 = .ok (.iload_n 1, 1) := by decide +kernel
theorem dX11_line_29 : decode cX11_line 29 = .ok (.iload_n 2, 1) := by decide +kernel
theorem dX11_line_30 : decode cX11_line 30 = .ok (.invokevirtual 245, 3) := by decide +kernel
theorem dX11_line_33 : decode cX11_line 33 = .ok (.istore 4, 2) := by decide +kernel
theorem dX11_line_35 : decode cX11_line 35 = .ok (.iload 4, 2) := by decide +kernel
theorem dX11_line_37 : decode cX11_line 37 = .ok (.ifCond .le 12, 3) := by decide +kernel
theorem dX11_line_40 : decode cX11_line 40 = .ok (.aload_n 0, 1) := by decide +kernel
theorem dX11_line_41 : decode cX11_line 41 = .ok (.getfield 79, 3) := by decide +kernel
theorem dX11_line_44 : decode cX11_line 44 = .ok (.iload_n 3, 1) := by decide +kernel
theorem dX11_line_45 : decode cX11_line 45 = .ok (.iaload, 1) := by decide +kernel
theorem dX11_line_46 : decode cX11_line 46 = .ok (.goto 6, 3) := by decide +kernel
theorem dX11_line_49 : decode cX11_line 49 = .ok (.sipush 501, 3) := by decide +kernel
theorem dX11_line_52 : decode cX11_line 52 = .ok (.ireturn, 1) := by decide +kernel
theorem dX11_isPicture_0 : decode cX11_isPicture 0 = .ok (.aload_n 0, 1) := by decide +kernel
theorem dX11_isPicture_1 : decode cX11_isPicture 1 = .ok (.iload_n 1, 1) := by decide +kernel
theorem dX11_isPicture_2 : decode cX11_isPicture 2 = .ok (.invokevirtual 108, 3) := by decide +kernel
theorem dX11_isPicture_5 : decode cX11_isPicture 5 = .ok (.ifCond .eq 17, 3) := by decide +kernel
theorem dX11_isPicture_8 : decode cX11_isPicture 8 = .ok (.aload_n 0, 1) := by decide +kernel
theorem dX11_isPicture_9 : decode cX11_isPicture 9 = .ok (.getfield 13, 3) := by decide +kernel
theorem dX11_isPicture_12 : decode cX11_isPicture 12 = .ok (.iload_n 1, 1) := by decide +kernel
theorem dX11_isPicture_13 : decode cX11_isPicture 13 = .ok (.iaload, 1) := by decide +kernel
theorem dX11_isPicture_14 : decode cX11_isPicture 14 = .ok (.iconst 3, 1) := by decide +kernel
theorem dX11_isPicture_15 : decode cX11_isPicture 15 = .ok (.if_icmp .ne 7, 3) := by decide +kernel
theorem dX11_isPicture_18 : decode cX11_isPicture 18 = .ok (.iconst 1, 1) := by decide +kernel
theorem dX11_isPicture_19 : decode cX11_isPicture 19 = .ok (.goto 4, 3) := by decide +kernel
theorem dX11_isPicture_22 : decode cX11_isPicture 22 = .ok (.iconst 0, 1) := by decide +kernel
theorem dX11_isPicture_23 : decode cX11_isPicture 23 = .ok (.ireturn, 1) := by decide +kernel
theorem dX11_isCell_0 : decode cX11_isCell 0 = .ok (.aload_n 0, 1) := by decide +kernel
theorem dX11_isCell_1 : decode cX11_isCell 1 = .ok (.iload_n 1, 1) := by decide +kernel
theorem dX11_isCell_2 : decode cX11_isCell 2 = .ok (.invokevirtual 248, 3) := by decide +kernel
theorem dX11_isCell_5 : decode cX11_isCell 5 = .ok (.ifCond .eq 35, 3) := by decide +kernel
theorem dX11_isCell_8 : decode cX11_isCell 8 = .ok (.iload_n 2, 1) := by decide +kernel
theorem dX11_isCell_9 : decode cX11_isCell 9 = .ok (.ifCond .lt 31, 3) := by decide +kernel
theorem dX11_isCell_12 : decode cX11_isCell 12 = .ok (.iload_n 2, 1) := by decide +kernel
theorem dX11_isCell_13 : decode cX11_isCell 13 = .ok (.aload_n 0, 1) := by decide +kernel
theorem dX11_isCell_14 : decode cX11_isCell 14 = .ok (.getfield 17, 3) := by decide +kernel
theorem dX11_isCell_17 : decode cX11_isCell 17 = .ok (.iload_n 1, 1) := by decide +kernel
theorem dX11_isCell_18 : decode cX11_isCell 18 = .ok (.iaload, 1) := by decide +kernel
theorem dX11_isCell_19 : decode cX11_isCell 19 = .ok (.if_icmp .ge 21, 3) := by decide +kernel
theorem dX11_isCell_22 : decode cX11_isCell 22 = .ok (.iload_n 3, 1) := by decide +kernel
theorem dX11_isCell_23 : decode cX11_isCell 23 = .ok (.ifCond .lt 17, 3) := by decide +kernel
theorem dX11_isCell_26 : decode cX11_isCell 26 = .ok (.iload_n 3, 1) := by decide +kernel
theorem dX11_isCell_27 : decode cX11_isCell 27 = .ok (.aload_n 0, 1) := by decide +kernel
theorem dX11_isCell_28 : decode cX11_isCell 28 = .ok (.getfield 17, 3) := by decide +kernel
theorem dX11_isCell_31 : decode cX11_isCell 31 = .ok (.iload_n 1, 1) := by decide +kernel
theorem dX11_isCell_32 : decode cX11_isCell 32 = .ok (.iaload, 1) := by decide +kernel
theorem dX11_isCell_33 : decode cX11_isCell 33 = .ok (.if_icmp .ge 7, 3) := by decide +kernel
theorem dX11_isCell_36 : decode cX11_isCell 36 = .ok (.iconst 1, 1) := by decide +kernel
theorem dX11_isCell_37 : decode cX11_isCell 37 = .ok (.goto 4, 3) := by decide +kernel
theorem dX11_isCell_40 : decode cX11_isCell 40 = .ok (.iconst 0, 1) := by decide +kernel
theorem dX11_isCell_41 : decode cX11_isCell 41 = .ok (.ireturn, 1) := by decide +kernel
theorem dX11_paint_0 : decode cX11_paint 0 = .ok (.aload_n 0, 1) := by decide +kernel
theorem dX11_paint_1 : decode cX11_paint 1 = .ok (.iconst 0, 1) := by decide +kernel
theorem dX11_paint_2 : decode cX11_paint 2 = .ok (.putfield 104, 3) := by decide +kernel
theorem dX11_paint_5 : decode cX11_paint 5 = .ok (.aload_n 0, 1) := by decide +kernel
theorem dX11_paint_6 : decode cX11_paint 6 = .ok (.iload_n 1, 1) := by decide +kernel
theorem dX11_paint_7 : decode cX11_paint 7 = .ok (.iload_n 2, 1) := by decide +kernel
theorem dX11_paint_8 : decode cX11_paint 8 = .ok (.iload_n 3, 1) := by decide +kernel
theorem dX11_paint_9 : decode cX11_paint 9 = .ok (.invokevirtual 251, 3) := by decide +kernel
theorem dX11_paint_12 : decode cX11_paint 12 = .ok (.ifCond .eq 16, 3) := by decide +kernel
theorem dX11_paint_15 : decode cX11_paint 15 = .ok (.iload 4, 2) := by decide +kernel
theorem dX11_paint_17 : decode cX11_paint 17 = .ok (.ifCond .lt 11, 3) := by decide +kernel
theorem dX11_paint_20 : decode cX11_paint 20 = .ok (.iload 4, 2) := by decide +kernel
theorem dX11_paint_22 : decode cX11_paint 22 = .ok (.sipush 255, 3) := by decide +kernel
theorem dX11_paint_25 : decode cX11_paint 25 = .ok (.if_icmp .le 5, 3) := by decide +kernel
theorem dX11_paint_28 : decode cX11_paint 28 = .ok (.iconst 0, 1) := by decide +kernel
theorem dX11_paint_29 : decode cX11_paint 29 = .ok (.ireturn, 1) := by decide +kernel
theorem dX11_paint_30 : decode cX11_paint 30 = .ok (.aload_n 0, 1) := by decide +kernel
theorem dX11_paint_31 : decode cX11_paint 31 = .ok (.getfield 32, 3) := by decide +kernel
theorem dX11_paint_34 : decode cX11_paint 34 = .ok (.sipush 4096, 3) := by decide +kernel
theorem dX11_paint_37 : decode cX11_paint 37 = .ok (.iload_n 1, 1) := by decide +kernel
theorem dX11_paint_38 : decode cX11_paint 38 = .ok (.imul, 1) := by decide +kernel
theorem dX11_paint_39 : decode cX11_paint 39 = .ok (.bipush 64, 2) := by decide +kernel
theorem dX11_paint_41 : decode cX11_paint 41 = .ok (.iload_n 3, 1) := by decide +kernel
theorem dX11_paint_42 : decode cX11_paint 42 = .ok (.imul, 1) := by decide +kernel
theorem dX11_paint_43 : decode cX11_paint 43 = .ok (.iadd, 1) := by decide +kernel
theorem dX11_paint_44 : decode cX11_paint 44 = .ok (.iload_n 2, 1) := by decide +kernel
theorem dX11_paint_45 : decode cX11_paint 45 = .ok (.iadd, 1) := by decide +kernel
theorem dX11_paint_46 : decode cX11_paint 46 = .ok (.iload 4, 2) := by decide +kernel
theorem dX11_paint_48 : decode cX11_paint 48 = .ok (.i2b, 1) := by decide +kernel
theorem dX11_paint_49 : decode cX11_paint 49 = .ok (.bastore, 1) := by decide +kernel
theorem dX11_paint_50 : decode cX11_paint 50 = .ok (.iconst 1, 1) := by decide +kernel
theorem dX11_paint_51 : decode cX11_paint 51 = .ok (.ireturn, 1) := by decide +kernel
theorem dX11_picture_0 : decode cX11_picture 0 = .ok (.aload_n 0, 1) := by decide +kernel
theorem dX11_picture_1 : decode cX11_picture 1 = .ok (.iconst 0, 1) := by decide +kernel
theorem dX11_picture_2 : decode cX11_picture 2 = .ok (.putfield 104, 3) := by decide +kernel
theorem dX11_picture_5 : decode cX11_picture 5 = .ok (.aload_n 0, 1) := by decide +kernel
theorem dX11_picture_6 : decode cX11_picture 6 = .ok (.iload_n 1, 1) := by decide +kernel
theorem dX11_picture_7 : decode cX11_picture 7 = .ok (.iload_n 2, 1) := by decide +kernel
theorem dX11_picture_8 : decode cX11_picture 8 = .ok (.iload_n 3, 1) := by decide +kernel
theorem dX11_picture_9 : decode cX11_picture 9 = .ok (.invokevirtual 251, 3) := by decide +kernel
theorem dX11_picture_12 : decode cX11_picture 12 = .ok (.ifCond .eq 27, 3) := by decide +kernel
theorem dX11_picture_15 : decode cX11_picture 15 = .ok (.aload_n 0, 1) := by decide +kernel
theorem dX11_picture_16 : decode cX11_picture 16 = .ok (.getfield 32, 3) := by decide +kernel
theorem dX11_picture_19 : decode cX11_picture 19 = .ok (.sipush 4096, 3) := by decide +kernel
theorem dX11_picture_22 : decode cX11_picture 22 = .ok (.iload_n 1, 1) := by decide +kernel
theorem dX11_picture_23 : decode cX11_picture 23 = .ok (.imul, 1) := by decide +kernel
theorem dX11_picture_24 : decode cX11_picture 24 = .ok (.bipush 64, 2) := by decide +kernel
theorem dX11_picture_26 : decode cX11_picture 26 = .ok (.iload_n 3, 1) := by decide +kernel
theorem dX11_picture_27 : decode cX11_picture 27 = .ok (.imul, 1) := by decide +kernel
theorem dX11_picture_28 : decode cX11_picture 28 = .ok (.iadd, 1) := by decide +kernel
theorem dX11_picture_29 : decode cX11_picture 29 = .ok (.iload_n 2, 1) := by decide +kernel
theorem dX11_picture_30 : decode cX11_picture 30 = .ok (.iadd, 1) := by decide +kernel
theorem dX11_picture_31 : decode cX11_picture 31 = .ok (.baload, 1) := by decide +kernel
theorem dX11_picture_32 : decode cX11_picture 32 = .ok (.sipush 255, 3) := by decide +kernel
theorem dX11_picture_35 : decode cX11_picture 35 = .ok (.iand, 1) := by decide +kernel
theorem dX11_picture_36 : decode cX11_picture 36 = .ok (.goto 4, 3) := by decide +kernel
theorem dX11_picture_39 : decode cX11_picture 39 = .ok (.iconst (-1), 1) := by decide +kernel
theorem dX11_picture_40 : decode cX11_picture 40 = .ok (.ireturn, 1) := by decide +kernel
theorem dX11_cellBehind_0 : decode cX11_cellBehind 0 = .ok (.aload_n 0, 1) := by decide +kernel
theorem dX11_cellBehind_1 : decode cX11_cellBehind 1 = .ok (.getfield 48, 3) := by decide +kernel
theorem dX11_cellBehind_4 : decode cX11_cellBehind 4 = .ok (.iconst 0, 1) := by decide +kernel
theorem dX11_cellBehind_5 : decode cX11_cellBehind 5 = .ok (.iload_n 1, 1) := by decide +kernel
theorem dX11_cellBehind_6 : decode cX11_cellBehind 6 = .ok (.iastore, 1) := by decide +kernel
theorem dX11_cellBehind_7 : decode cX11_cellBehind 7 = .ok (.aload_n 0, 1) := by decide +kernel
theorem dX11_cellBehind_8 : decode cX11_cellBehind 8 = .ok (.getfield 48, 3) := by decide +kernel
theorem dX11_cellBehind_11 : decode cX11_cellBehind 11 = .ok (.iconst 1, 1) := by decide +kernel
theorem dX11_cellBehind_12 : decode cX11_cellBehind 12 = .ok (.iload_n 2, 1) := by decide +kernel
theorem dX11_cellBehind_13 : decode cX11_cellBehind 13 = .ok (.iastore, 1) := by decide +kernel
theorem dX11_cellBehind_14 : decode cX11_cellBehind 14 = .ok (.aload_n 0, 1) := by decide +kernel
theorem dX11_cellBehind_15 : decode cX11_cellBehind 15 = .ok (.iconst 2, 1) := by decide +kernel
theorem dX11_cellBehind_16 : decode cX11_cellBehind 16 = .ok (.iload_n 3, 1) := by decide +kernel
theorem dX11_cellBehind_17 : decode cX11_cellBehind 17 = .ok (.invokevirtual 140, 3) := by decide +kernel
theorem dX11_cellBehind_20 : decode cX11_cellBehind 20 = .ok (.bipush 64, 2) := by decide +kernel
theorem dX11_cellBehind_22 : decode cX11_cellBehind 22 = .ok (.aload_n 0, 1) := by decide +kernel
theorem dX11_cellBehind_23 : decode cX11_cellBehind 23 = .ok (.getfield 51, 3) := by decide +kernel
theorem dX11_cellBehind_26 : decode cX11_cellBehind 26 = .ok (.iconst 1, 1) := by decide +kernel
theorem dX11_cellBehind_27 : decode cX11_cellBehind 27 = .ok (.iaload, 1) := by decide +kernel
theorem dX11_cellBehind_28 : decode cX11_cellBehind 28 = .ok (.imul, 1) := by decide +kernel
theorem dX11_cellBehind_29 : decode cX11_cellBehind 29 = .ok (.aload_n 0, 1) := by decide +kernel
theorem dX11_cellBehind_30 : decode cX11_cellBehind 30 = .ok (.getfield 51, 3) := by decide +kernel
theorem dX11_cellBehind_33 : decode cX11_cellBehind 33 = .ok (.iconst 0, 1) := by decide +kernel
theorem dX11_cellBehind_34 : decode cX11_cellBehind 34 = .ok (.iaload, 1) := by decide +kernel
theorem dX11_cellBehind_35 : decode cX11_cellBehind 35 = .ok (.iadd, 1) := by decide +kernel
theorem dX11_cellBehind_36 : decode cX11_cellBehind 36 = .ok (.ireturn, 1) := by decide +kernel
theorem dX11_move_0 : decode cX11_move 0 = .ok (.aload_n 0, 1) := by decide +kernel
theorem dX11_move_1 : decode cX11_move 1 = .ok (.iconst 0, 1) := by decide +kernel
theorem dX11_move_2 : decode cX11_move 2 = .ok (.putfield 104, 3) := by decide +kernel
theorem dX11_move_5 : decode cX11_move 5 = .ok (.aload_n 0, 1) := by decide +kernel
theorem dX11_move_6 : decode cX11_move 6 = .ok (.iload_n 1, 1) := by decide +kernel
theorem dX11_move_7 : decode cX11_move 7 = .ok (.invokevirtual 248, 3) := by decide +kernel
theorem dX11_move_10 : decode cX11_move 10 = .ok (.ifCond .eq 17, 3) := by decide +kernel
theorem dX11_move_13 : decode cX11_move 13 = .ok (.lload_n 2, 1) := by decide +kernel
theorem dX11_move_14 : decode cX11_move 14 = .ok (.lconst 0, 1) := by decide +kernel
theorem dX11_move_15 : decode cX11_move 15 = .ok (.lcmp, 1) := by decide +kernel
theorem dX11_move_16 : decode cX11_move 16 = .ok (.ifCond .lt 11, 3) := by decide +kernel
theorem dX11_move_19 : decode cX11_move 19 = .ok (.aload_n 0, 1) := by decide +kernel
theorem dX11_move_20 : decode cX11_move 20 = .ok (.iload_n 1, 1) := by decide +kernel
theorem dX11_move_21 : decode cX11_move 21 = .ok (.invokevirtual 161, 3) := by decide +kernel
theorem dX11_move_24 : decode cX11_move 24 = .ok (.ifCond .ne 5, 3) := by decide +kernel
theorem dX11_move_27 : decode cX11_move 27 = .ok (.iconst 0, 1) := by decide +kernel
theorem dX11_move_28 : decode cX11_move 28 = .ok (.ireturn, 1) := by decide +kernel
theorem dX11_move_29 : decode cX11_move 29 = .ok (.aload_n 0, 1) := by decide +kernel
theorem dX11_move_30 : decode cX11_move 30 = .ok (.getfield 17, 3) := by decide +kernel
theorem dX11_move_33 : decode cX11_move 33 = .ok (.iload_n 1, 1) := by decide +kernel
theorem dX11_move_34 : decode cX11_move 34 = .ok (.iaload, 1) := by decide +kernel
theorem dX11_move_35 : decode cX11_move 35 = .ok (.istore 4, 2) := by decide +kernel
theorem dX11_move_37 : decode cX11_move 37 = .ok (.aload_n 0, 1) := by decide +kernel
theorem dX11_move_38 : decode cX11_move 38 = .ok (.iload_n 1, 1) := by decide +kernel
theorem dX11_move_39 : decode cX11_move 39 = .ok (.lload_n 2, 1) := by decide +kernel
theorem dX11_move_40 : decode cX11_move 40 = .ok (.iload 4, 2) := by decide +kernel
theorem dX11_move_42 : decode cX11_move 42 = .ok (.invokevirtual 133, 3) := by decide +kernel
theorem dX11_move_45 : decode cX11_move 45 = .ok (.iconst 0, 1) := by decide +kernel
theorem dX11_move_46 : decode cX11_move 46 = .ok (.istore 5, 2) := by decide +kernel
theorem dX11_move_48 : decode cX11_move 48 = .ok (.iload 5, 2) := by decide +kernel
theorem dX11_move_50 : decode cX11_move 50 = .ok (.iload 4, 2) := by decide +kernel
theorem dX11_move_52 : decode cX11_move 52 = .ok (.if_icmp .ge 59, 3) := by decide +kernel
theorem dX11_move_55 : decode cX11_move 55 = .ok (.iconst 0, 1) := by decide +kernel
theorem dX11_move_56 : decode cX11_move 56 = .ok (.istore 6, 2) := by decide +kernel
theorem dX11_move_58 : decode cX11_move 58 = .ok (.iload 6, 2) := by decide +kernel
theorem dX11_move_60 : decode cX11_move 60 = .ok (.iload 4, 2) := by decide +kernel
theorem dX11_move_62 : decode cX11_move 62 = .ok (.if_icmp .ge 43, 3) := by decide +kernel
theorem dX11_move_65 : decode cX11_move 65 = .ok (.aload_n 0, 1) := by decide +kernel
theorem dX11_move_66 : decode cX11_move 66 = .ok (.getfield 36, 3) := by decide +kernel
theorem dX11_move_69 : decode cX11_move 69 = .ok (.aload_n 0, 1) := by decide +kernel
theorem dX11_move_70 : decode cX11_move 70 = .ok (.iload 6, 2) := by decide +kernel
theorem dX11_move_72 : decode cX11_move 72 = .ok (.iload 5, 2) := by decide +kernel
theorem dX11_move_74 : decode cX11_move 74 = .ok (.iload 4, 2) := by decide +kernel
theorem dX11_move_76 : decode cX11_move 76 = .ok (.invokevirtual 254, 3) := by decide +kernel
theorem dX11_move_79 : decode cX11_move 79 = .ok (.aload_n 0, 1) := by decide +kernel
theorem dX11_move_80 : decode cX11_move 80 = .ok (.getfield 32, 3) := by decide +kernel
theorem dX11_move_83 : decode cX11_move 83 = .ok (.sipush 4096, 3) := by decide +kernel
theorem dX11_move_86 : decode cX11_move 86 = .ok (.iload_n 1, 1) := by decide +kernel
theorem dX11_move_87 : decode cX11_move 87 = .ok (.imul, 1) := by decide +kernel
theorem dX11_move_88 : decode cX11_move 88 = .ok (.bipush 64, 2) := by decide +kernel
theorem dX11_move_90 : decode cX11_move 90 = .ok (.iload 5, 2) := by decide +kernel
theorem dX11_move_92 : decode cX11_move 92 = .ok (.imul, 1) := by decide +kernel
theorem dX11_move_93 : decode cX11_move 93 = .ok (.iadd, 1) := by decide +kernel
theorem dX11_move_94 : decode cX11_move 94 = .ok (.iload 6, 2) := by decide +kernel
theorem dX11_move_96 : decode cX11_move 96 = .ok (.iadd, 1) := by decide +kernel
theorem dX11_move_97 : decode cX11_move 97 = .ok (.baload, 1) := by decide +kernel
theorem dX11_move_98 : decode cX11_move 98 = .ok (.bastore, 1) := by decide +kernel
theorem dX11_move_99 : decode cX11_move 99 = .ok (.iinc 6 1, 3) := by decide +kernel
theorem dX11_move_102 : decode cX11_move 102 = .ok (.goto (-44), 3) := by decide +kernel
theorem dX11_move_105 : decode cX11_move 105 = .ok (.iinc 5 1, 3) := by decide +kernel
theorem dX11_move_108 : decode cX11_move 108 = .ok (.goto (-60), 3) := by decide +kernel
theorem dX11_move_111 : decode cX11_move 111 = .ok (.iconst 0, 1) := by decide +kernel
theorem dX11_move_112 : decode cX11_move 112 = .ok (.istore 5, 2) := by decide +kernel
theorem dX11_move_114 : decode cX11_move 114 = .ok (.iload 5, 2) := by decide +kernel
theorem dX11_move_116 : decode cX11_move 116 = .ok (.iload 4, 2) := by decide +kernel
theorem dX11_move_118 : decode cX11_move 118 = .ok (.if_icmp .ge 57, 3) := by decide +kernel
theorem dX11_move_121 : decode cX11_move 121 = .ok (.iconst 0, 1) := by decide +kernel
theorem dX11_move_122 : decode cX11_move 122 = .ok (.istore 6, 2) := by decide +kernel
theorem dX11_move_124 : decode cX11_move 124 = .ok (.iload 6, 2) := by decide +kernel
theorem dX11_move_126 : decode cX11_move 126 = .ok (.iload 4, 2) := by decide +kernel
theorem dX11_move_128 : decode cX11_move 128 = .ok (.if_icmp .ge 41, 3) := by decide +kernel
theorem dX11_move_131 : decode cX11_move 131 = .ok (.aload_n 0, 1) := by decide +kernel
theorem dX11_move_132 : decode cX11_move 132 = .ok (.getfield 32, 3) := by decide +kernel
theorem dX11_move_135 : decode cX11_move 135 = .ok (.sipush 4096, 3) := by decide +kernel
theorem dX11_move_138 : decode cX11_move 138 = .ok (.iload_n 1, 1) := by decide +kernel
theorem dX11_move_139 : decode cX11_move 139 = .ok (.imul, 1) := by decide +kernel
theorem dX11_move_140 : decode cX11_move 140 = .ok (.bipush 64, 2) := by decide +kernel
theorem dX11_move_142 : decode cX11_move 142 = .ok (.iload 5, 2) := by decide +kernel
theorem dX11_move_144 : decode cX11_move 144 = .ok (.imul, 1) := by decide +kernel
theorem dX11_move_145 : decode cX11_move 145 = .ok (.iadd, 1) := by decide +kernel
theorem dX11_move_146 : decode cX11_move 146 = .ok (.iload 6, 2) := by decide +kernel
theorem dX11_move_148 : decode cX11_move 148 = .ok (.iadd, 1) := by decide +kernel
theorem dX11_move_149 : decode cX11_move 149 = .ok (.aload_n 0, 1) := by decide +kernel
theorem dX11_move_150 : decode cX11_move 150 = .ok (.getfield 36, 3) := by decide +kernel
theorem dX11_move_153 : decode cX11_move 153 = .ok (.bipush 64, 2) := by decide +kernel
theorem dX11_move_155 : decode cX11_move 155 = .ok (.iload 5, 2) := by decide +kernel
theorem dX11_move_157 : decode cX11_move 157 = .ok (.imul, 1) := by decide +kernel
theorem dX11_move_158 : decode cX11_move 158 = .ok (.iload 6, 2) := by decide +kernel
theorem dX11_move_160 : decode cX11_move 160 = .ok (.iadd, 1) := by decide +kernel
theorem dX11_move_161 : decode cX11_move 161 = .ok (.baload, 1) := by decide +kernel
theorem dX11_move_162 : decode cX11_move 162 = .ok (.bastore, 1) := by decide +kernel
theorem dX11_move_163 : decode cX11_move 163 = .ok (.iinc 6 1, 3) := by decide +kernel
theorem dX11_move_166 : decode cX11_move 166 = .ok (.goto (-42), 3) := by decide +kernel
theorem dX11_move_169 : decode cX11_move 169 = .ok (.iinc 5 1, 3) := by decide +kernel
theorem dX11_move_172 : decode cX11_move 172 = .ok (.goto (-58), 3) := by decide +kernel
theorem dX11_move_175 : decode cX11_move 175 = .ok (.iconst 1, 1) := by decide +kernel
theorem dX11_move_176 : decode cX11_move 176 = .ok (.ireturn, 1) := by decide +kernel
theorem dX11_seen_0 : decode cX11_seen 0 = .ok (.aload_n 0, 1) := by decide +kernel
theorem dX11_seen_1 : decode cX11_seen 1 = .ok (.iconst 0, 1) := by decide +kernel
theorem dX11_seen_2 : decode cX11_seen 2 = .ok (.putfield 104, 3) := by decide +kernel
theorem dX11_seen_5 : decode cX11_seen 5 = .ok (.aload_n 0, 1) := by decide +kernel
theorem dX11_seen_6 : decode cX11_seen 6 = .ok (.iload_n 1, 1) := by decide +kernel
theorem dX11_seen_7 : decode cX11_seen 7 = .ok (.invokevirtual 248, 3) := by decide +kernel
theorem dX11_seen_10 : decode cX11_seen 10 = .ok (.ifCond .eq 11, 3) := by decide +kernel
theorem dX11_seen_13 : decode cX11_seen 13 = .ok (.aload_n 0, 1) := by decide +kernel
theorem dX11_seen_14 : decode cX11_seen 14 = .ok (.iload_n 1, 1) := by decide +kernel
theorem dX11_seen_15 : decode cX11_seen 15 = .ok (.invokevirtual 161, 3) := by decide +kernel
theorem dX11_seen_18 : decode cX11_seen 18 = .ok (.ifCond .ne 7, 3) := by decide +kernel
theorem dX11_seen_21 : decode cX11_seen 21 = .ok (.ldc2_w 206, 3) := by decide +kernel
theorem dX11_seen_24 : decode cX11_seen 24 = .ok (.lreturn, 1) := by decide +kernel
theorem dX11_seen_25 : decode cX11_seen 25 = .ok (.aload_n 0, 1) := by decide +kernel
theorem dX11_seen_26 : decode cX11_seen 26 = .ok (.getfield 17, 3) := by decide +kernel
theorem dX11_seen_29 : decode cX11_seen 29 = .ok (.iload_n 1, 1) := by decide +kernel
theorem dX11_seen_30 : decode cX11_seen 30 = .ok (.iaload, 1) := by decide +kernel
theorem dX11_seen_31 : decode cX11_seen 31 = .ok (.istore_n 2, 1) := by decide +kernel
theorem dX11_seen_32 : decode cX11_seen 32 = .ok (.aload_n 0, 1) := by decide +kernel
theorem dX11_seen_33 : decode cX11_seen 33 = .ok (.iload_n 1, 1) := by decide +kernel
theorem dX11_seen_34 : decode cX11_seen 34 = .ok (.lconst 1, 1) := by decide +kernel
theorem dX11_seen_35 : decode cX11_seen 35 = .ok (.iload_n 2, 1) := by decide +kernel
theorem dX11_seen_36 : decode cX11_seen 36 = .ok (.invokevirtual 133, 3) := by decide +kernel
theorem dX11_seen_39 : decode cX11_seen 39 = .ok (.iconst 0, 1) := by decide +kernel
theorem dX11_seen_40 : decode cX11_seen 40 = .ok (.istore_n 3, 1) := by decide +kernel
theorem dX11_seen_41 : decode cX11_seen 41 = .ok (.iload_n 3, 1) := by decide +kernel
theorem dX11_seen_42 : decode cX11_seen 42 = .ok (.sipush 4096, 3) := by decide +kernel
theorem dX11_seen_45 : decode cX11_seen 45 = .ok (.if_icmp .ge 16, 3) := by decide +kernel
theorem dX11_seen_48 : decode cX11_seen 48 = .ok (.aload_n 0, 1) := by decide +kernel
theorem dX11_seen_49 : decode cX11_seen 49 = .ok (.getfield 85, 3) := by decide +kernel
theorem dX11_seen_52 : decode cX11_seen 52 = .ok (.iload_n 3, 1) := by decide +kernel
theorem dX11_seen_53 : decode cX11_seen 53 = .ok (.iconst 0, 1) := by decide +kernel
theorem dX11_seen_54 : decode cX11_seen 54 = .ok (.bastore, 1) := by decide +kernel
theorem dX11_seen_55 : decode cX11_seen 55 = .ok (.iinc 3 1, 3) := by decide +kernel
theorem dX11_seen_58 : decode cX11_seen 58 = .ok (.goto (-17), 3) := by decide +kernel
theorem dX11_seen_61 : decode cX11_seen 61 = .ok (.lconst 1, 1) := by decide +kernel
theorem dX11_seen_62 : decode cX11_seen 62 = .ok (.lstore_n 3, 1) := by decide +kernel
theorem dX11_seen_63 : decode cX11_seen 63 = .ok (.iconst 0, 1) := by decide +kernel
theorem dX11_seen_64 : decode cX11_seen 64 = .ok (.istore 5, 2) := by decide +kernel
theorem dX11_seen_66 : decode cX11_seen 66 = .ok (.iload 5, 2) := by decide +kernel
theorem dX11_seen_68 : decode cX11_seen 68 = .ok (.iload_n 2, 1) := by decide +kernel
theorem dX11_seen_69 : decode cX11_seen 69 = .ok (.if_icmp .ge 57, 3) := by decide +kernel
theorem dX11_seen_72 : decode cX11_seen 72 = .ok (.iconst 0, 1) := by decide +kernel
theorem dX11_seen_73 : decode cX11_seen 73 = .ok (.istore 6, 2) := by decide +kernel
theorem dX11_seen_75 : decode cX11_seen 75 = .ok (.iload 6, 2) := by decide +kernel
theorem dX11_seen_77 : decode cX11_seen 77 = .ok (.iload_n 2, 1) := by decide +kernel
theorem dX11_seen_78 : decode cX11_seen 78 = .ok (.if_icmp .ge 42, 3) := by decide +kernel
theorem dX11_seen_81 : decode cX11_seen 81 = .ok (.aload_n 0, 1) := by decide +kernel
theorem dX11_seen_82 : decode cX11_seen 82 = .ok (.bipush 64, 2) := by decide +kernel
theorem dX11_seen_84 : decode cX11_seen 84 = .ok (.iload 5, 2) := by decide +kernel
theorem dX11_seen_86 : decode cX11_seen 86 = .ok (.imul, 1) := by decide +kernel
theorem dX11_seen_87 : decode cX11_seen 87 = .ok (.iload 6, 2) := by decide +kernel
theorem dX11_seen_89 : decode cX11_seen 89 = .ok (.iadd, 1) := by decide +kernel
theorem dX11_seen_90 : decode cX11_seen 90 = .ok (.iload_n 2, 1) := by decide +kernel
theorem dX11_seen_91 : decode cX11_seen 91 = .ok (.invokevirtual 258, 3) := by decide +kernel
theorem dX11_seen_94 : decode cX11_seen 94 = .ok (.istore 7, 2) := by decide +kernel
theorem dX11_seen_96 : decode cX11_seen 96 = .ok (.iload 7, 2) := by decide +kernel
theorem dX11_seen_98 : decode cX11_seen 98 = .ok (.ifCond .le 16, 3) := by decide +kernel
theorem dX11_seen_101 : decode cX11_seen 101 = .ok (.lload_n 3, 1) := by decide +kernel
theorem dX11_seen_102 : decode cX11_seen 102 = .ok (.aload_n 0, 1) := by decide +kernel
theorem dX11_seen_103 : decode cX11_seen 103 = .ok (.iload_n 1, 1) := by decide +kernel
theorem dX11_seen_104 : decode cX11_seen 104 = .ok (.iload 7, 2) := by decide +kernel
theorem dX11_seen_106 : decode cX11_seen 106 = .ok (.invokevirtual 261, 3) := by decide +kernel
theorem dX11_seen_109 : decode cX11_seen 109 = .ok (.i2l, 1) := by decide +kernel
theorem dX11_seen_110 : decode cX11_seen 110 = .ok (.invokestatic 199, 3) := by decide +kernel
theorem dX11_seen_113 : decode cX11_seen 113 = .ok (.lstore_n 3, 1) := by decide +kernel
theorem dX11_seen_114 : decode cX11_seen 114 = .ok (.iinc 6 1, 3) := by decide +kernel
theorem dX11_seen_117 : decode cX11_seen 117 = .ok (.goto (-42), 3) := by decide +kernel
theorem dX11_seen_120 : decode cX11_seen 120 = .ok (.iinc 5 1, 3) := by decide +kernel
theorem dX11_seen_123 : decode cX11_seen 123 = .ok (.goto (-57), 3) := by decide +kernel
theorem dX11_seen_126 : decode cX11_seen 126 = .ok (.lload_n 3, 1) := by decide +kernel
theorem dX11_seen_127 : decode cX11_seen 127 = .ok (.lreturn, 1) := by decide +kernel
theorem dX11_cycleFrom_0 : decode cX11_cycleFrom 0 = .ok (.iconst 0, 1) := by decide +kernel
theorem dX11_cycleFrom_1 : decode cX11_cycleFrom 1 = .ok (.istore_n 3, 1) := by decide +kernel
theorem dX11_cycleFrom_2 : decode cX11_cycleFrom 2 = .ok (.iload_n 1, 1) := by decide +kernel
theorem dX11_cycleFrom_3 : decode cX11_cycleFrom 3 = .ok (.istore 4, 2) := by decide +kernel
theorem dX11_cycleFrom_5 : decode cX11_cycleFrom 5 = .ok (.aload_n 0, 1) := by decide +kernel
theorem dX11_cycleFrom_6 : decode cX11_cycleFrom 6 = .ok (.getfield 85, 3) := by decide +kernel
theorem dX11_cycleFrom_9 : decode cX11_cycleFrom 9 = .ok (.iload 4, 2) := by decide +kernel
theorem dX11_cycleFrom_11 : decode cX11_cycleFrom 11 = .ok (.baload, 1) := by decide +kernel
theorem dX11_cycleFrom_12 : decode cX11_cycleFrom 12 = .ok (.ifCond .ne 42, 3) := by decide +kernel
theorem dX11_cycleFrom_15 : decode cX11_cycleFrom 15 = .ok (.aload_n 0, 1) := by decide +kernel
theorem dX11_cycleFrom_16 : decode cX11_cycleFrom 16 = .ok (.getfield 85, 3) := by decide +kernel
theorem dX11_cycleFrom_19 : decode cX11_cycleFrom 19 = .ok (.iload 4, 2) := by decide +kernel
theorem dX11_cycleFrom_21 : decode cX11_cycleFrom 21 = .ok (.iconst 1, 1) := by decide +kernel
theorem dX11_cycleFrom_22 : decode cX11_cycleFrom 22 = .ok (.bastore, 1) := by decide +kernel
theorem dX11_cycleFrom_23 : decode cX11_cycleFrom 23 = .ok (.aload_n 0, 1) := by decide +kernel
theorem dX11_cycleFrom_24 : decode cX11_cycleFrom 24 = .ok (.getfield 82, 3) := by decide +kernel
theorem dX11_cycleFrom_27 : decode cX11_cycleFrom 27 = .ok (.iload_n 3, 1) := by decide +kernel
theorem dX11_cycleFrom_28 : decode cX11_cycleFrom 28 = .ok (.iload 4, 2) := by decide +kernel
theorem dX11_cycleFrom_30 : decode cX11_cycleFrom 30 = .ok (.iastore, 1) := by decide +kernel
theorem dX11_cycleFrom_31 : decode cX11_cycleFrom 31 = .ok (.iinc 3 1, 3) := by decide +kernel
theorem dX11_cycleFrom_34 : decode cX11_cycleFrom 34 = .ok (.aload_n 0, 1) := by decide +kernel
theorem dX11_cycleFrom_35 : decode cX11_cycleFrom 35 = .ok (.iload 4, 2) := by decide +kernel
theorem dX11_cycleFrom_37 : decode cX11_cycleFrom 37 = .ok (.bipush 64, 2) := by decide +kernel
theorem dX11_cycleFrom_39 : decode cX11_cycleFrom 39 = .ok (.irem, 1) := by decide +kernel
theorem dX11_cycleFrom_40 : decode cX11_cycleFrom 40 = .ok (.iload 4, 2) := by decide +kernel
theorem dX11_cycleFrom_42 : decode cX11_cycleFrom 42 = .ok (.bipush 64, 2) := by decide +kernel
theorem dX11_cycleFrom_44 : decode cX11_cycleFrom 44 = .ok (.idiv, 1) := by decide +kernel
theorem dX11_cycleFrom_45 : decode cX11_cycleFrom 45 = .ok (.iload_n 2, 1) := by decide +kernel
theorem dX11_cycleFrom_46 : decode cX11_cycleFrom 46 = .ok (.invokevirtual 254, 3) := by decide +kernel
theorem dX11_cycleFrom_49 : decode cX11_cycleFrom 49 = .ok (.istore 4, 2) := by decide +kernel
theorem dX11_cycleFrom_51 : decode cX11_cycleFrom 51 = .ok (.goto (-46), 3) := by decide +kernel
theorem dX11_cycleFrom_54 : decode cX11_cycleFrom 54 = .ok (.iload_n 3, 1) := by decide +kernel
theorem dX11_cycleFrom_55 : decode cX11_cycleFrom 55 = .ok (.ireturn, 1) := by decide +kernel
theorem dX11_periodOf_0 : decode cX11_periodOf 0 = .ok (.iconst 1, 1) := by decide +kernel
theorem dX11_periodOf_1 : decode cX11_periodOf 1 = .ok (.istore_n 3, 1) := by decide +kernel
theorem dX11_periodOf_2 : decode cX11_periodOf 2 = .ok (.iload_n 2, 1) := by decide +kernel
theorem dX11_periodOf_3 : decode cX11_periodOf 3 = .ok (.iload_n 3, 1) := by decide +kernel
theorem dX11_periodOf_4 : decode cX11_periodOf 4 = .ok (.irem, 1) := by decide +kernel
theorem dX11_periodOf_5 : decode cX11_periodOf 5 = .ok (.ifCond .ne 13, 3) := by decide +kernel
theorem dX11_periodOf_8 : decode cX11_periodOf 8 = .ok (.aload_n 0, 1) := by decide +kernel
theorem dX11_periodOf_9 : decode cX11_periodOf 9 = .ok (.iload_n 1, 1) := by decide +kernel
theorem dX11_periodOf_10 : decode cX11_periodOf 10 = .ok (.iload_n 2, 1) := by decide +kernel
theorem dX11_periodOf_11 : decode cX11_periodOf 11 = .ok (.iload_n 3, 1) := by decide +kernel
theorem dX11_periodOf_12 : decode cX11_periodOf 12 = .ok (.invokevirtual 264, 3) := by decide +kernel
theorem dX11_periodOf_15 : decode cX11_periodOf 15 = .ok (.ifCond .ne 9, 3) := by decide +kernel
theorem dX11_periodOf_18 : decode cX11_periodOf 18 = .ok (.iinc 3 1, 3) := by decide +kernel
theorem dX11_periodOf_21 : decode cX11_periodOf 21 = .ok (.goto (-19), 3) := by decide +kernel
theorem dX11_periodOf_24 : decode cX11_periodOf 24 = .ok (.iload_n 3, 1) := by decide +kernel
theorem dX11_periodOf_25 : decode cX11_periodOf 25 = .ok (.ireturn, 1) := by decide +kernel
theorem dX11_repeats_0 : decode cX11_repeats 0 = .ok (.iconst 0, 1) := by decide +kernel
theorem dX11_repeats_1 : decode cX11_repeats 1 = .ok (.istore 4, 2) := by decide +kernel
theorem dX11_repeats_3 : decode cX11_repeats 3 = .ok (.iload 4, 2) := by decide +kernel
theorem dX11_repeats_5 : decode cX11_repeats 5 = .ok (.iload_n 2, 1) := by decide +kernel
theorem dX11_repeats_6 : decode cX11_repeats 6 = .ok (.if_icmp .ge 54, 3) := by decide +kernel
theorem dX11_repeats_9 : decode cX11_repeats 9 = .ok (.aload_n 0, 1) := by decide +kernel
theorem dX11_repeats_10 : decode cX11_repeats 10 = .ok (.getfield 32, 3) := by decide +kernel
theorem dX11_repeats_13 : decode cX11_repeats 13 = .ok (.sipush 4096, 3) := by decide +kernel
theorem dX11_repeats_16 : decode cX11_repeats 16 = .ok (.iload_n 1, 1) := by decide +kernel
theorem dX11_repeats_17 : decode cX11_repeats 17 = .ok (.imul, 1) := by decide +kernel
theorem dX11_repeats_18 : decode cX11_repeats 18 = .ok (.aload_n 0, 1) := by decide +kernel
theorem dX11_repeats_19 : decode cX11_repeats 19 = .ok (.getfield 82, 3) := by decide +kernel
theorem dX11_repeats_22 : decode cX11_repeats 22 = .ok (.iload 4, 2) := by decide +kernel
theorem dX11_repeats_24 : decode cX11_repeats 24 = .ok (.iaload, 1) := by decide +kernel
theorem dX11_repeats_25 : decode cX11_repeats 25 = .ok (.iadd, 1) := by decide +kernel
theorem dX11_repeats_26 : decode cX11_repeats 26 = .ok (.baload, 1) := by decide +kernel
theorem dX11_repeats_27 : decode cX11_repeats 27 = .ok (.aload_n 0, 1) := by decide +kernel
theorem dX11_repeats_28 : decode cX11_repeats 28 = .ok (.getfield 32, 3) := by decide +kernel
theorem dX11_repeats_31 : decode cX11_repeats 31 = .ok (.sipush 4096, 3) := by decide +kernel
theorem dX11_repeats_34 : decode cX11_repeats 34 = .ok (.iload_n 1, 1) := by decide +kernel
theorem dX11_repeats_35 : decode cX11_repeats 35 = .ok (.imul, 1) := by decide +kernel
theorem dX11_repeats_36 : decode cX11_repeats 36 = .ok (.aload_n 0, 1) := by decide +kernel
theorem dX11_repeats_37 : decode cX11_repeats 37 = .ok (.getfield 82, 3) := by decide +kernel
theorem dX11_repeats_40 : decode cX11_repeats 40 = .ok (.iload 4, 2) := by decide +kernel
theorem dX11_repeats_42 : decode cX11_repeats 42 = .ok (.iload_n 3, 1) := by decide +kernel
theorem dX11_repeats_43 : decode cX11_repeats 43 = .ok (.iadd, 1) := by decide +kernel
theorem dX11_repeats_44 : decode cX11_repeats 44 = .ok (.iload_n 2, 1) := by decide +kernel
theorem dX11_repeats_45 : decode cX11_repeats 45 = .ok (.irem, 1) := by decide +kernel
theorem dX11_repeats_46 : decode cX11_repeats 46 = .ok (.iaload, 1) := by decide +kernel
theorem dX11_repeats_47 : decode cX11_repeats 47 = .ok (.iadd, 1) := by decide +kernel
theorem dX11_repeats_48 : decode cX11_repeats 48 = .ok (.baload, 1) := by decide +kernel
theorem dX11_repeats_49 : decode cX11_repeats 49 = .ok (.if_icmp .eq 5, 3) := by decide +kernel
theorem dX11_repeats_52 : decode cX11_repeats 52 = .ok (.iconst 0, 1) := by decide +kernel
theorem dX11_repeats_53 : decode cX11_repeats 53 = .ok (.ireturn, 1) := by decide +kernel
theorem dX11_repeats_54 : decode cX11_repeats 54 = .ok (.iinc 4 1, 3) := by decide +kernel
theorem dX11_repeats_57 : decode cX11_repeats 57 = .ok (.goto (-54), 3) := by decide +kernel
theorem dX11_repeats_60 : decode cX11_repeats 60 = .ok (.iconst 1, 1) := by decide +kernel
theorem dX11_repeats_61 : decode cX11_repeats 61 = .ok (.ireturn, 1) := by decide +kernel
theorem dX11_begins_0 : decode cX11_begins 0 = .ok (.aload_n 0, 1) := by decide +kernel
theorem dX11_begins_1 : decode cX11_begins 1 = .ok (.iload_n 1, 1) := by decide +kernel
theorem dX11_begins_2 : decode cX11_begins 2 = .ok (.putfield 267, 3) := by decide +kernel
theorem dX11_begins_5 : decode cX11_begins 5 = .ok (.aload_n 0, 1) := by decide +kernel
theorem dX11_begins_6 : decode cX11_begins 6 = .ok (.iconst 0, 1) := by decide +kernel
theorem dX11_begins_7 : decode cX11_begins 7 = .ok (.putfield 270, 3) := by decide +kernel
theorem dX11_begins_10 : decode cX11_begins 10 = .ok (.return_, 1) := by decide +kernel
theorem dX11_begin_0 : decode cX11_begin 0 = .ok (.aload_n 0, 1) := by decide +kernel
theorem dX11_begin_1 : decode cX11_begin 1 = .ok (.iconst 0, 1) := by decide +kernel
theorem dX11_begin_2 : decode cX11_begin 2 = .ok (.putfield 104, 3) := by decide +kernel
theorem dX11_begin_5 : decode cX11_begin 5 = .ok (.iload_n 1, 1) := by decide +kernel
theorem dX11_begin_6 : decode cX11_begin 6 = .ok (.iconst 2, 1) := by decide +kernel
theorem dX11_begin_7 : decode cX11_begin 7 = .ok (.if_icmp .lt 10, 3) := by decide +kernel
theorem dX11_begin_10 : decode cX11_begin 10 = .ok (.iload_n 1, 1) := by decide +kernel
theorem dX11_begin_11 : decode cX11_begin 11 = .ok (.sipush 499, 3) := by decide +kernel
theorem dX11_begin_14 : decode cX11_begin 14 = .ok (.if_icmp .le 5, 3) := by decide +kernel
theorem dX11_begin_17 : decode cX11_begin 17 = .ok (.iconst 0, 1) := by decide +kernel
theorem dX11_begin_18 : decode cX11_begin 18 = .ok (.ireturn, 1) := by decide +kernel
theorem dX11_begin_19 : decode cX11_begin 19 = .ok (.iconst 2, 1) := by decide +kernel
theorem dX11_begin_20 : decode cX11_begin 20 = .ok (.istore_n 2, 1) := by decide +kernel
theorem dX11_begin_21 : decode cX11_begin 21 = .ok (.iload_n 2, 1) := by decide +kernel
theorem dX11_begin_22 : decode cX11_begin 22 = .ok (.iload_n 1, 1) := by decide +kernel
theorem dX11_begin_23 : decode cX11_begin 23 = .ok (.if_icmp .ge 17, 3) := by decide +kernel
theorem dX11_begin_26 : decode cX11_begin 26 = .ok (.iload_n 1, 1) := by decide +kernel
theorem dX11_begin_27 : decode cX11_begin 27 = .ok (.iload_n 2, 1) := by decide +kernel
theorem dX11_begin_28 : decode cX11_begin 28 = .ok (.irem, 1) := by decide +kernel
theorem dX11_begin_29 : decode cX11_begin 29 = .ok (.ifCond .ne 5, 3) := by decide +kernel
theorem dX11_begin_32 : decode cX11_begin 32 = .ok (.iconst 0, 1) := by decide +kernel
theorem dX11_begin_33 : decode cX11_begin 33 = .ok (.ireturn, 1) := by decide +kernel
theorem dX11_begin_34 : decode cX11_begin 34 = .ok (.iinc 2 1, 3) := by decide +kernel
theorem dX11_begin_37 : decode cX11_begin 37 = .ok (.goto (-16), 3) := by decide +kernel
theorem dX11_begin_40 : decode cX11_begin 40 = .ok (.aload_n 0, 1) := by decide +kernel
theorem dX11_begin_41 : decode cX11_begin 41 = .ok (.iload_n 1, 1) := by decide +kernel
theorem dX11_begin_42 : decode cX11_begin 42 = .ok (.invokevirtual 100, 3) := by decide +kernel
theorem dX11_begin_45 : decode cX11_begin 45 = .ok (.iconst 1, 1) := by decide +kernel
theorem dX11_begin_46 : decode cX11_begin 46 = .ok (.ireturn, 1) := by decide +kernel
theorem dX11_tell_0 : decode cX11_tell 0 = .ok (.aload_n 0, 1) := by decide +kernel
theorem dX11_tell_1 : decode cX11_tell 1 = .ok (.iconst 0, 1) := by decide +kernel
theorem dX11_tell_2 : decode cX11_tell 2 = .ok (.putfield 104, 3) := by decide +kernel
theorem dX11_tell_5 : decode cX11_tell 5 = .ok (.aload_n 0, 1) := by decide +kernel
theorem dX11_tell_6 : decode cX11_tell 6 = .ok (.getfield 270, 3) := by decide +kernel
theorem dX11_tell_9 : decode cX11_tell 9 = .ok (.bipush 64, 2) := by decide +kernel
theorem dX11_tell_11 : decode cX11_tell 11 = .ok (.if_icmp .ne 5, 3) := by decide +kernel
theorem dX11_tell_14 : decode cX11_tell 14 = .ok (.iconst (-1), 1) := by decide +kernel
theorem dX11_tell_15 : decode cX11_tell 15 = .ok (.ireturn, 1) := by decide +kernel
theorem dX11_tell_16 : decode cX11_tell 16 = .ok (.aload_n 0, 1) := by decide +kernel
theorem dX11_tell_17 : decode cX11_tell 17 = .ok (.getfield 88, 3) := by decide +kernel
theorem dX11_tell_20 : decode cX11_tell 20 = .ok (.aload_n 0, 1) := by decide +kernel
theorem dX11_tell_21 : decode cX11_tell 21 = .ok (.getfield 270, 3) := by decide +kernel
theorem dX11_tell_24 : decode cX11_tell 24 = .ok (.iload_n 1, 1) := by decide +kernel
theorem dX11_tell_25 : decode cX11_tell 25 = .ok (.i2l, 1) := by decide +kernel
theorem dX11_tell_26 : decode cX11_tell 26 = .ok (.aload_n 0, 1) := by decide +kernel
theorem dX11_tell_27 : decode cX11_tell 27 = .ok (.getfield 267, 3) := by decide +kernel
theorem dX11_tell_30 : decode cX11_tell 30 = .ok (.invokestatic 116, 3) := by decide +kernel
theorem dX11_tell_33 : decode cX11_tell 33 = .ok (.iastore, 1) := by decide +kernel
theorem dX11_tell_34 : decode cX11_tell 34 = .ok (.aload_n 0, 1) := by decide +kernel
theorem dX11_tell_35 : decode cX11_tell 35 = .ok (.dup, 1) := by decide +kernel
theorem dX11_tell_36 : decode cX11_tell 36 = .ok (.getfield 270, 3) := by decide +kernel
theorem dX11_tell_39 : decode cX11_tell 39 = .ok (.iconst 1, 1) := by decide +kernel
theorem dX11_tell_40 : decode cX11_tell 40 = .ok (.iadd, 1) := by decide +kernel
theorem dX11_tell_41 : decode cX11_tell 41 = .ok (.putfield 270, 3) := by decide +kernel
theorem dX11_tell_44 : decode cX11_tell 44 = .ok (.aload_n 0, 1) := by decide +kernel
theorem dX11_tell_45 : decode cX11_tell 45 = .ok (.getfield 270, 3) := by decide +kernel
theorem dX11_tell_48 : decode cX11_tell 48 = .ok (.ireturn, 1) := by decide +kernel
theorem dX11_inverse_0 : decode cX11_inverse 0 = .ok (.iconst 1, 1) := by decide +kernel
theorem dX11_inverse_1 : decode cX11_inverse 1 = .ok (.istore_n 2, 1) := by decide +kernel
theorem dX11_inverse_2 : decode cX11_inverse 2 = .ok (.iload_n 1, 1) := by decide +kernel
theorem dX11_inverse_3 : decode cX11_inverse 3 = .ok (.iload_n 2, 1) := by decide +kernel
theorem dX11_inverse_4 : decode cX11_inverse 4 = .ok (.imul, 1) := by decide +kernel
theorem dX11_inverse_5 : decode cX11_inverse 5 = .ok (.aload_n 0, 1) := by decide +kernel
theorem dX11_inverse_6 : decode cX11_inverse 6 = .ok (.getfield 267, 3) := by decide +kernel
theorem dX11_inverse_9 : decode cX11_inverse 9 = .ok (.irem, 1) := by decide +kernel
theorem dX11_inverse_10 : decode cX11_inverse 10 = .ok (.iconst 1, 1) := by decide +kernel
theorem dX11_inverse_11 : decode cX11_inverse 11 = .ok (.aload_n 0, 1) := by decide +kernel
theorem dX11_inverse_12 : decode cX11_inverse 12 = .ok (.getfield 267, 3) := by decide +kernel
theorem dX11_inverse_15 : decode cX11_inverse 15 = .ok (.irem, 1) := by decide +kernel
theorem dX11_inverse_16 : decode cX11_inverse 16 = .ok (.if_icmp .eq 9, 3) := by decide +kernel
theorem dX11_inverse_19 : decode cX11_inverse 19 = .ok (.iinc 2 1, 3) := by decide +kernel
theorem dX11_inverse_22 : decode cX11_inverse 22 = .ok (.goto (-20), 3) := by decide +kernel
theorem dX11_inverse_25 : decode cX11_inverse 25 = .ok (.iload_n 2, 1) := by decide +kernel
theorem dX11_inverse_26 : decode cX11_inverse 26 = .ok (.ireturn, 1) := by decide +kernel
theorem dX11_hasRule_0 : decode cX11_hasRule 0 = .ok (.aload_n 0, 1) := by decide +kernel
theorem dX11_hasRule_1 : decode cX11_hasRule 1 = .ok (.getfield 270, 3) := by decide +kernel
theorem dX11_hasRule_4 : decode cX11_hasRule 4 = .ok (.iload_n 1, 1) := by decide +kernel
theorem dX11_hasRule_5 : decode cX11_hasRule 5 = .ok (.isub, 1) := by decide +kernel
theorem dX11_hasRule_6 : decode cX11_hasRule 6 = .ok (.istore_n 2, 1) := by decide +kernel
theorem dX11_hasRule_7 : decode cX11_hasRule 7 = .ok (.iconst 0, 1) := by decide +kernel
theorem dX11_hasRule_8 : decode cX11_hasRule 8 = .ok (.istore_n 3, 1) := by decide +kernel
theorem dX11_hasRule_9 : decode cX11_hasRule 9 = .ok (.iload_n 3, 1) := by decide +kernel
theorem dX11_hasRule_10 : decode cX11_hasRule 10 = .ok (.iload_n 2, 1) := by decide +kernel
theorem dX11_hasRule_11 : decode cX11_hasRule 11 = .ok (.if_icmp .ge 68, 3) := by decide +kernel
theorem dX11_hasRule_14 : decode cX11_hasRule 14 = .ok (.iconst 1, 1) := by decide +kernel
theorem dX11_hasRule_15 : decode cX11_hasRule 15 = .ok (.istore 4, 2) := by decide +kernel
theorem dX11_hasRule_17 : decode cX11_hasRule 17 = .ok (.iload 4, 2) := by decide +kernel
theorem dX11_hasRule_19 : decode cX11_hasRule 19 = .ok (.iload_n 1, 1) := by decide +kernel
theorem dX11_hasRule_20 : decode cX11_hasRule 20 = .ok (.if_icmp .gt 34, 3) := by decide +kernel
theorem dX11_hasRule_23 : decode cX11_hasRule 23 = .ok (.aload_n 0, 1) := by decide +kernel
theorem dX11_hasRule_24 : decode cX11_hasRule 24 = .ok (.getfield 91, 3) := by decide +kernel
theorem dX11_hasRule_27 : decode cX11_hasRule 27 = .ok (.bipush 65, 2) := by decide +kernel
theorem dX11_hasRule_29 : decode cX11_hasRule 29 = .ok (.iload_n 3, 1) := by decide +kernel
theorem dX11_hasRule_30 : decode cX11_hasRule 30 = .ok (.imul, 1) := by decide +kernel
theorem dX11_hasRule_31 : decode cX11_hasRule 31 = .ok (.iload 4, 2) := by decide +kernel
theorem dX11_hasRule_33 : decode cX11_hasRule 33 = .ok (.iadd, 1) := by decide +kernel
theorem dX11_hasRule_34 : decode cX11_hasRule 34 = .ok (.iconst 1, 1) := by decide +kernel
theorem dX11_hasRule_35 : decode cX11_hasRule 35 = .ok (.isub, 1) := by decide +kernel
theorem dX11_hasRule_36 : decode cX11_hasRule 36 = .ok (.aload_n 0, 1) := by decide +kernel
theorem dX11_hasRule_37 : decode cX11_hasRule 37 = .ok (.getfield 88, 3) := by decide +kernel
theorem dX11_hasRule_40 : decode cX11_hasRule 40 = .ok (.iload_n 1, 1) := by decide +kernel
theorem dX11_hasRule_41 : decode cX11_hasRule 41 = .ok (.iload_n 3, 1) := by decide +kernel
theorem dX11_hasRule_42 : decode cX11_hasRule 42 = .ok (.iadd, 1) := by decide +kernel
theorem dX11_hasRule_43 : decode cX11_hasRule 43 = .ok (.iload 4, 2) := by decide +kernel
theorem dX11_hasRule_45 : decode cX11_hasRule 45 = .ok (.isub, 1) := by decide +kernel
theorem dX11_hasRule_46 : decode cX11_hasRule 46 = .ok (.iaload, 1) := by decide +kernel
theorem dX11_hasRule_47 : decode cX11_hasRule 47 = .ok (.iastore, 1) := by decide +kernel
theorem dX11_hasRule_48 : decode cX11_hasRule 48 = .ok (.iinc 4 1, 3) := by decide +kernel
theorem dX11_hasRule_51 : decode cX11_hasRule 51 = .ok (.goto (-34), 3) := by decide +kernel
theorem dX11_hasRule_54 : decode cX11_hasRule 54 = .ok (.aload_n 0, 1) := by decide +kernel
theorem dX11_hasRule_55 : decode cX11_hasRule 55 = .ok (.getfield 91, 3) := by decide +kernel
theorem dX11_hasRule_58 : decode cX11_hasRule 58 = .ok (.bipush 65, 2) := by decide +kernel
theorem dX11_hasRule_60 : decode cX11_hasRule 60 = .ok (.iload_n 3, 1) := by decide +kernel
theorem dX11_hasRule_61 : decode cX11_hasRule 61 = .ok (.imul, 1) := by decide +kernel
theorem dX11_hasRule_62 : decode cX11_hasRule 62 = .ok (.iload_n 1, 1) := by decide +kernel
theorem dX11_hasRule_63 : decode cX11_hasRule 63 = .ok (.iadd, 1) := by decide +kernel
theorem dX11_hasRule_64 : decode cX11_hasRule 64 = .ok (.aload_n 0, 1) := by decide +kernel
theorem dX11_hasRule_65 : decode cX11_hasRule 65 = .ok (.getfield 88, 3) := by decide +kernel
theorem dX11_hasRule_68 : decode cX11_hasRule 68 = .ok (.iload_n 1, 1) := by decide +kernel
theorem dX11_hasRule_69 : decode cX11_hasRule 69 = .ok (.iload_n 3, 1) := by decide +kernel
theorem dX11_hasRule_70 : decode cX11_hasRule 70 = .ok (.iadd, 1) := by decide +kernel
theorem dX11_hasRule_71 : decode cX11_hasRule 71 = .ok (.iaload, 1) := by decide +kernel
theorem dX11_hasRule_72 : decode cX11_hasRule 72 = .ok (.iastore, 1) := by decide +kernel
theorem dX11_hasRule_73 : decode cX11_hasRule 73 = .ok (.iinc 3 1, 3) := by decide +kernel
theorem dX11_hasRule_76 : decode cX11_hasRule 76 = .ok (.goto (-67), 3) := by decide +kernel
theorem dX11_hasRule_79 : decode cX11_hasRule 79 = .ok (.iconst 0, 1) := by decide +kernel
theorem dX11_hasRule_80 : decode cX11_hasRule 80 = .ok (.istore_n 3, 1) := by decide +kernel
theorem dX11_hasRule_81 : decode cX11_hasRule 81 = .ok (.iload_n 1, 1) := by decide +kernel
theorem dX11_hasRule_82 : decode cX11_hasRule 82 = .ok (.iconst 1, 1) := by decide +kernel
theorem dX11_hasRule_83 : decode cX11_hasRule 83 = .ok (.isub, 1) := by decide +kernel
theorem dX11_hasRule_84 : decode cX11_hasRule 84 = .ok (.istore 4, 2) := by decide +kernel
theorem dX11_hasRule_86 : decode cX11_hasRule 86 = .ok (.iload 4, 2) := by decide +kernel
theorem dX11_hasRule_88 : decode cX11_hasRule 88 = .ok (.ifCond .lt 79, 3) := by decide +kernel
theorem dX11_hasRule_91 : decode cX11_hasRule 91 = .ok (.aload_n 0, 1) := by decide +kernel
theorem dX11_hasRule_92 : decode cX11_hasRule 92 = .ok (.getfield 97, 3) := by decide +kernel
theorem dX11_hasRule_95 : decode cX11_hasRule 95 = .ok (.iload 4, 2) := by decide +kernel
theorem dX11_hasRule_97 : decode cX11_hasRule 97 = .ok (.iconst (-1), 1) := by decide +kernel
theorem dX11_hasRule_98 : decode cX11_hasRule 98 = .ok (.iastore, 1) := by decide +kernel
theorem dX11_hasRule_99 : decode cX11_hasRule 99 = .ok (.iload_n 3, 1) := by decide +kernel
theorem dX11_hasRule_100 : decode cX11_hasRule 100 = .ok (.istore 5, 2) := by decide +kernel
theorem dX11_hasRule_102 : decode cX11_hasRule 102 = .ok (.iload 5, 2) := by decide +kernel
theorem dX11_hasRule_104 : decode cX11_hasRule 104 = .ok (.iload_n 2, 1) := by decide +kernel
theorem dX11_hasRule_105 : decode cX11_hasRule 105 = .ok (.if_icmp .ge 25, 3) := by decide +kernel
theorem dX11_hasRule_108 : decode cX11_hasRule 108 = .ok (.aload_n 0, 1) := by decide +kernel
theorem dX11_hasRule_109 : decode cX11_hasRule 109 = .ok (.getfield 91, 3) := by decide +kernel
theorem dX11_hasRule_112 : decode cX11_hasRule 112 = .ok (.bipush 65, 2) := by decide +kernel
theorem dX11_hasRule_114 : decode cX11_hasRule 114 = .ok (.iload 5, 2) := by decide +kernel
theorem dX11_hasRule_116 : decode cX11_hasRule 116 = .ok (.imul, 1) := by decide +kernel
theorem dX11_hasRule_117 : decode cX11_hasRule 117 = .ok (.iload 4, 2) := by decide +kernel
theorem dX11_hasRule_119 : decode cX11_hasRule 119 = .ok (.iadd, 1) := by decide +kernel
theorem dX11_hasRule_120 : decode cX11_hasRule 120 = .ok (.iaload, 1) := by decide +kernel
theorem dX11_hasRule_121 : decode cX11_hasRule 121 = .ok (.ifCond .ne 9, 3) := by decide +kernel
theorem dX11_hasRule_124 : decode cX11_hasRule 124 = .ok (.iinc 5 1, 3) := by decide +kernel
theorem dX11_hasRule_127 : decode cX11_hasRule 127 = .ok (.goto (-25), 3) := by decide +kernel
theorem dX11_hasRule_130 : decode cX11_hasRule 130 = .ok (.iload 5, 2) := by decide +kernel
theorem dX11_hasRule_132 : decode cX11_hasRule 132 = .ok (.iload_n 2, 1) := by decide +kernel
theorem dX11_hasRule_133 : decode cX11_hasRule 133 = .ok (.if_icmp .ne 6, 3) := by decide +kernel
theorem dX11_hasRule_136 : decode cX11_hasRule 136 = .ok (.goto 25, 3) := by decide +kernel
theorem dX11_hasRule_139 : decode cX11_hasRule 139 = .ok (.aload_n 0, 1) := by decide +kernel
theorem dX11_hasRule_140 : decode cX11_hasRule 140 = .ok (.iload 5, 2) := by decide +kernel
theorem dX11_hasRule_142 : decode cX11_hasRule 142 = .ok (.iload_n 3, 1) := by decide +kernel
theorem dX11_hasRule_143 : decode cX11_hasRule 143 = .ok (.iload 4, 2) := by decide +kernel
theorem dX11_hasRule_145 : decode cX11_hasRule 145 = .ok (.iload_n 1, 1) := by decide +kernel
theorem dX11_hasRule_146 : decode cX11_hasRule 146 = .ok (.iload_n 2, 1) := by decide +kernel
theorem dX11_hasRule_147 : decode cX11_hasRule 147 = .ok (.invokevirtual 273, 3) := by decide +kernel
theorem dX11_hasRule_150 : decode cX11_hasRule 150 = .ok (.aload_n 0, 1) := by decide +kernel
theorem dX11_hasRule_151 : decode cX11_hasRule 151 = .ok (.getfield 97, 3) := by decide +kernel
theorem dX11_hasRule_154 : decode cX11_hasRule 154 = .ok (.iload 4, 2) := by decide +kernel
theorem dX11_hasRule_156 : decode cX11_hasRule 156 = .ok (.iload_n 3, 1) := by decide +kernel
theorem dX11_hasRule_157 : decode cX11_hasRule 157 = .ok (.iastore, 1) := by decide +kernel
theorem dX11_hasRule_158 : decode cX11_hasRule 158 = .ok (.iinc 3 1, 3) := by decide +kernel
theorem dX11_hasRule_161 : decode cX11_hasRule 161 = .ok (.iinc 4 (-1), 3) := by decide +kernel
theorem dX11_hasRule_164 : decode cX11_hasRule 164 = .ok (.goto (-78), 3) := by decide +kernel
theorem dX11_hasRule_167 : decode cX11_hasRule 167 = .ok (.iload_n 3, 1) := by decide +kernel
theorem dX11_hasRule_168 : decode cX11_hasRule 168 = .ok (.istore 4, 2) := by decide +kernel
theorem dX11_hasRule_170 : decode cX11_hasRule 170 = .ok (.iload 4, 2) := by decide +kernel
theorem dX11_hasRule_172 : decode cX11_hasRule 172 = .ok (.iload_n 2, 1) := by decide +kernel
theorem dX11_hasRule_173 : decode cX11_hasRule 173 = .ok (.if_icmp .ge 26, 3) := by decide +kernel
theorem dX11_hasRule_176 : decode cX11_hasRule 176 = .ok (.aload_n 0, 1) := by decide +kernel
theorem dX11_hasRule_177 : decode cX11_hasRule 177 = .ok (.getfield 91, 3) := by decide +kernel
theorem dX11_hasRule_180 : decode cX11_hasRule 180 = .ok (.bipush 65, 2) := by decide +kernel
theorem dX11_hasRule_182 : decode cX11_hasRule 182 = .ok (.iload 4, 2) := by decide +kernel
theorem dX11_hasRule_184 : decode cX11_hasRule 184 = .ok (.imul, 1) := by decide +kernel
theorem dX11_hasRule_185 : decode cX11_hasRule 185 = .ok (.iload_n 1, 1) := by decide +kernel
theorem dX11_hasRule_186 : decode cX11_hasRule 186 = .ok (.iadd, 1) := by decide +kernel
theorem dX11_hasRule_187 : decode cX11_hasRule 187 = .ok (.iaload, 1) := by decide +kernel
theorem dX11_hasRule_188 : decode cX11_hasRule 188 = .ok (.ifCond .eq 5, 3) := by decide +kernel
theorem dX11_hasRule_191 : decode cX11_hasRule 191 = .ok (.iconst 0, 1) := by decide +kernel
theorem dX11_hasRule_192 : decode cX11_hasRule 192 = .ok (.ireturn, 1) := by decide +kernel
theorem dX11_hasRule_193 : decode cX11_hasRule 193 = .ok (.iinc 4 1, 3) := by decide +kernel
theorem dX11_hasRule_196 : decode cX11_hasRule 196 = .ok (.goto (-26), 3) := by decide +kernel
theorem dX11_hasRule_199 : decode cX11_hasRule 199 = .ok (.aload_n 0, 1) := by decide +kernel
theorem dX11_hasRule_200 : decode cX11_hasRule 200 = .ok (.iload_n 1, 1) := by decide +kernel
theorem dX11_hasRule_201 : decode cX11_hasRule 201 = .ok (.invokevirtual 276, 3) := by decide +kernel
theorem dX11_hasRule_204 : decode cX11_hasRule 204 = .ok (.iconst 1, 1) := by decide +kernel
theorem dX11_hasRule_205 : decode cX11_hasRule 205 = .ok (.ireturn, 1) := by decide +kernel
theorem dX11_clears_0 : decode cX11_clears 0 = .ok (.iconst 0, 1) := by decide +kernel
theorem dX11_clears_1 : decode cX11_clears 1 = .ok (.istore 6, 2) := by decide +kernel
theorem dX11_clears_3 : decode cX11_clears 3 = .ok (.iload 6, 2) := by decide +kernel
theorem dX11_clears_5 : decode cX11_clears 5 = .ok (.iload 4, 2) := by decide +kernel
theorem dX11_clears_7 : decode cX11_clears 7 = .ok (.if_icmp .gt 61, 3) := by decide +kernel
theorem dX11_clears_10 : decode cX11_clears 10 = .ok (.aload_n 0, 1) := by decide +kernel
theorem dX11_clears_11 : decode cX11_clears 11 = .ok (.getfield 91, 3) := by decide +kernel
theorem dX11_clears_14 : decode cX11_clears 14 = .ok (.bipush 65, 2) := by decide +kernel
theorem dX11_clears_16 : decode cX11_clears 16 = .ok (.iload_n 1, 1) := by decide +kernel
theorem dX11_clears_17 : decode cX11_clears 17 = .ok (.imul, 1) := by decide +kernel
theorem dX11_clears_18 : decode cX11_clears 18 = .ok (.iload 6, 2) := by decide +kernel
theorem dX11_clears_20 : decode cX11_clears 20 = .ok (.iadd, 1) := by decide +kernel
theorem dX11_clears_21 : decode cX11_clears 21 = .ok (.iaload, 1) := by decide +kernel
theorem dX11_clears_22 : decode cX11_clears 22 = .ok (.istore 7, 2) := by decide +kernel
theorem dX11_clears_24 : decode cX11_clears 24 = .ok (.aload_n 0, 1) := by decide +kernel
theorem dX11_clears_25 : decode cX11_clears 25 = .ok (.getfield 91, 3) := by decide +kernel
theorem dX11_clears_28 : decode cX11_clears 28 = .ok (.bipush 65, 2) := by decide +kernel
theorem dX11_clears_30 : decode cX11_clears 30 = .ok (.iload_n 1, 1) := by decide +kernel
theorem dX11_clears_31 : decode cX11_clears 31 = .ok (.imul, 1) := by decide +kernel
theorem dX11_clears_32 : decode cX11_clears 32 = .ok (.iload 6, 2) := by decide +kernel
theorem dX11_clears_34 : decode cX11_clears 34 = .ok (.iadd, 1) := by decide +kernel
theorem dX11_clears_35 : decode cX11_clears 35 = .ok (.aload_n 0, 1) := by decide +kernel
theorem dX11_clears_36 : decode cX11_clears 36 = .ok (.getfield 91, 3) := by decide +kernel
theorem dX11_clears_39 : decode cX11_clears 39 = .ok (.bipush 65, 2) := by decide +kernel
theorem dX11_clears_41 : decode cX11_clears 41 = .ok (.iload_n 2, 1) := by decide +kernel
theorem dX11_clears_42 : decode cX11_clears 42 = .ok (.imul, 1) := by decide +kernel
theorem dX11_clears_43 : decode cX11_clears 43 = .ok (.iload 6, 2) := by decide +kernel
theorem dX11_clears_45 : decode cX11_clears 45 = .ok (.iadd, 1) := by decide +kernel
theorem dX11_clears_46 : decode cX11_clears 46 = .ok (.iaload, 1) := by decide +kernel
theorem dX11_clears_47 : decode cX11_clears 47 = .ok (.iastore, 1) := by decide +kernel
theorem dX11_clears_48 : decode cX11_clears 48 = .ok (.aload_n 0, 1) := by decide +kernel
theorem dX11_clears_49 : decode cX11_clears 49 = .ok (.getfield 91, 3) := by decide +kernel
theorem dX11_clears_52 : decode cX11_clears 52 = .ok (.bipush 65, 2) := by decide +kernel
theorem dX11_clears_54 : decode cX11_clears 54 = .ok (.iload_n 2, 1) := by decide +kernel
theorem dX11_clears_55 : decode cX11_clears 55 = .ok (.imul, 1) := by decide +kernel
theorem dX11_clears_56 : decode cX11_clears 56 = .ok (.iload 6, 2) := by decide +kernel
theorem dX11_clears_58 : decode cX11_clears 58 = .ok (.iadd, 1) := by decide +kernel
theorem dX11_clears_59 : decode cX11_clears 59 = .ok (.iload 7, 2) := by decide +kernel
theorem dX11_clears_61 : decode cX11_clears 61 = .ok (.iastore, 1) := by decide +kernel
theorem dX11_clears_62 : decode cX11_clears 62 = .ok (.iinc 6 1, 3) := by decide +kernel
theorem dX11_clears_65 : decode cX11_clears 65 = .ok (.goto (-62), 3) := by decide +kernel
theorem dX11_clears_68 : decode cX11_clears 68 = .ok (.aload_n 0, 1) := by decide +kernel
theorem dX11_clears_69 : decode cX11_clears 69 = .ok (.aload_n 0, 1) := by decide +kernel
theorem dX11_clears_70 : decode cX11_clears 70 = .ok (.getfield 91, 3) := by decide +kernel
theorem dX11_clears_73 : decode cX11_clears 73 = .ok (.bipush 65, 2) := by decide +kernel
theorem dX11_clears_75 : decode cX11_clears 75 = .ok (.iload_n 2, 1) := by decide +kernel
theorem dX11_clears_76 : decode cX11_clears 76 = .ok (.imul, 1) := by decide +kernel
theorem dX11_clears_77 : decode cX11_clears 77 = .ok (.iload_n 3, 1) := by decide +kernel
theorem dX11_clears_78 : decode cX11_clears 78 = .ok (.iadd, 1) := by decide +kernel
theorem dX11_clears_79 : decode cX11_clears 79 = .ok (.iaload, 1) := by decide +kernel
theorem dX11_clears_80 : decode cX11_clears 80 = .ok (.invokevirtual 279, 3) := by decide +kernel
theorem dX11_clears_83 : decode cX11_clears 83 = .ok (.istore 6, 2) := by decide +kernel
theorem dX11_clears_85 : decode cX11_clears 85 = .ok (.iconst 0, 1) := by decide +kernel
theorem dX11_clears_86 : decode cX11_clears 86 = .ok (.istore 7, 2) := by decide +kernel
theorem dX11_clears_88 : decode cX11_clears 88 = .ok (.iload 7, 2) := by decide +kernel
theorem dX11_clears_90 : decode cX11_clears 90 = .ok (.iload 4, 2) := by decide +kernel
theorem dX11_clears_92 : decode cX11_clears 92 = .ok (.if_icmp .gt 41, 3) := by decide +kernel
theorem dX11_clears_95 : decode cX11_clears 95 = .ok (.aload_n 0, 1) := by decide +kernel
theorem dX11_clears_96 : decode cX11_clears 96 = .ok (.getfield 91, 3) := by decide +kernel
theorem dX11_clears_99 : decode cX11_clears 99 = .ok (.bipush 65, 2) := by decide +kernel
theorem dX11_clears_101 : decode cX11_clears 101 = .ok (.iload_n 2, 1) := by decide +kernel
theorem dX11_clears_102 : decode cX11_clears 102 = .ok (.imul, 1) := by decide +kernel
theorem dX11_clears_103 : decode cX11_clears 103 = .ok (.iload 7, 2) := by decide +kernel
theorem dX11_clears_105 : decode cX11_clears 105 = .ok (.iadd, 1) := by decide +kernel
theorem dX11_clears_106 : decode cX11_clears 106 = .ok (.aload_n 0, 1) := by decide +kernel
theorem dX11_clears_107 : decode cX11_clears 107 = .ok (.getfield 91, 3) := by decide +kernel
theorem dX11_clears_110 : decode cX11_clears 110 = .ok (.bipush 65, 2) := by decide +kernel
theorem dX11_clears_112 : decode cX11_clears 112 = .ok (.iload_n 2, 1) := by decide +kernel
theorem dX11_clears_113 : decode cX11_clears 113 = .ok (.imul, 1) := by decide +kernel
theorem dX11_clears_114 : decode cX11_clears 114 = .ok (.iload 7, 2) := by decide +kernel
theorem dX11_clears_116 : decode cX11_clears 116 = .ok (.iadd, 1) := by decide +kernel
theorem dX11_clears_117 : decode cX11_clears 117 = .ok (.iaload, 1) := by decide +kernel
theorem dX11_clears_118 : decode cX11_clears 118 = .ok (.iload 6, 2) := by decide +kernel
theorem dX11_clears_120 : decode cX11_clears 120 = .ok (.imul, 1) := by decide +kernel
theorem dX11_clears_121 : decode cX11_clears 121 = .ok (.aload_n 0, 1) := by decide +kernel
theorem dX11_clears_122 : decode cX11_clears 122 = .ok (.getfield 267, 3) := by decide +kernel
theorem dX11_clears_125 : decode cX11_clears 125 = .ok (.irem, 1) := by decide +kernel
theorem dX11_clears_126 : decode cX11_clears 126 = .ok (.iastore, 1) := by decide +kernel
theorem dX11_clears_127 : decode cX11_clears 127 = .ok (.iinc 7 1, 3) := by decide +kernel
theorem dX11_clears_130 : decode cX11_clears 130 = .ok (.goto (-42), 3) := by decide +kernel
theorem dX11_clears_133 : decode cX11_clears 133 = .ok (.iconst 0, 1) := by decide +kernel
theorem dX11_clears_134 : decode cX11_clears 134 = .ok (.istore 7, 2) := by decide +kernel
theorem dX11_clears_136 : decode cX11_clears 136 = .ok (.iload 7, 2) := by decide +kernel
theorem dX11_clears_138 : decode cX11_clears 138 = .ok (.iload 5, 2) := by decide +kernel
theorem dX11_clears_140 : decode cX11_clears 140 = .ok (.if_icmp .ge 103, 3) := by decide +kernel
theorem dX11_clears_143 : decode cX11_clears 143 = .ok (.aload_n 0, 1) := by decide +kernel
theorem dX11_clears_144 : decode cX11_clears 144 = .ok (.getfield 91, 3) := by decide +kernel
theorem dX11_clears_147 : decode cX11_clears 147 = .ok (.bipush 65, 2) := by decide +kernel
theorem dX11_clears_149 : decode cX11_clears 149 = .ok (.iload 7, 2) := by decide +kernel
theorem dX11_clears_151 : decode cX11_clears 151 = .ok (.imul, 1) := by decide +kernel
theorem dX11_clears_152 : decode cX11_clears 152 = .ok (.iload_n 3, 1) := by decide +kernel
theorem dX11_clears_153 : decode cX11_clears 153 = .ok (.iadd, 1) := by decide +kernel
theorem dX11_clears_154 : decode cX11_clears 154 = .ok (.iaload, 1) := by decide +kernel
theorem dX11_clears_155 : decode cX11_clears 155 = .ok (.istore 8, 2) := by decide +kernel
theorem dX11_clears_157 : decode cX11_clears 157 = .ok (.iload 7, 2) := by decide +kernel
theorem dX11_clears_159 : decode cX11_clears 159 = .ok (.iload_n 2, 1) := by decide +kernel
theorem dX11_clears_160 : decode cX11_clears 160 = .ok (.if_icmp .eq 77, 3) := by decide +kernel
theorem dX11_clears_163 : decode cX11_clears 163 = .ok (.iload 8, 2) := by decide +kernel
theorem dX11_clears_165 : decode cX11_clears 165 = .ok (.ifCond .ne 6, 3) := by decide +kernel
theorem dX11_clears_168 : decode cX11_clears 168 = .ok (.goto 69, 3) := by decide +kernel
theorem dX11_clears_171 : decode cX11_clears 171 = .ok (.iconst 0, 1) := by decide +kernel
theorem dX11_clears_172 : decode cX11_clears 172 = .ok (.istore 9, 2) := by decide +kernel
theorem dX11_clears_174 : decode cX11_clears 174 = .ok (.iload 9, 2) := by decide +kernel
theorem dX11_clears_176 : decode cX11_clears 176 = .ok (.iload 4, 2) := by decide +kernel
theorem dX11_clears_178 : decode cX11_clears 178 = .ok (.if_icmp .gt 59, 3) := by decide +kernel
theorem dX11_clears_181 : decode cX11_clears 181 = .ok (.aload_n 0, 1) := by decide +kernel
theorem dX11_clears_182 : decode cX11_clears 182 = .ok (.getfield 91, 3) := by decide +kernel
theorem dX11_clears_185 : decode cX11_clears 185 = .ok (.bipush 65, 2) := by decide +kernel
theorem dX11_clears_187 : decode cX11_clears 187 = .ok (.iload 7, 2) := by decide +kernel
theorem dX11_clears_189 : decode cX11_clears 189 = .ok (.imul, 1) := by decide +kernel
theorem dX11_clears_190 : decode cX11_clears 190 = .ok (.iload 9, 2) := by decide +kernel
theorem dX11_clears_192 : decode cX11_clears 192 = .ok (.iadd, 1) := by decide +kernel
theorem dX11_clears_193 : decode cX11_clears 193 = .ok (.aload_n 0, 1) := by decide +kernel
theorem dX11_clears_194 : decode cX11_clears 194 = .ok (.getfield 91, 3) := by decide +kernel
theorem dX11_clears_197 : decode cX11_clears 197 = .ok (.bipush 65, 2) := by decide +kernel
theorem dX11_clears_199 : decode cX11_clears 199 = .ok (.iload 7, 2) := by decide +kernel
theorem dX11_clears_201 : decode cX11_clears 201 = .ok (.imul, 1) := by decide +kernel
theorem dX11_clears_202 : decode cX11_clears 202 = .ok (.iload 9, 2) := by decide +kernel
theorem dX11_clears_204 : decode cX11_clears 204 = .ok (.iadd, 1) := by decide +kernel
theorem dX11_clears_205 : decode cX11_clears 205 = .ok (.iaload, 1) := by decide +kernel
theorem dX11_clears_206 : decode cX11_clears 206 = .ok (.iload 8, 2) := by decide +kernel
theorem dX11_clears_208 : decode cX11_clears 208 = .ok (.aload_n 0, 1) := by decide +kernel
theorem dX11_clears_209 : decode cX11_clears 209 = .ok (.getfield 91, 3) := by decide +kernel
theorem dX11_clears_212 : decode cX11_clears 212 = .ok (.bipush 65, 2) := by decide +kernel
theorem dX11_clears_214 : decode cX11_clears 214 = .ok (.iload_n 2, 1) := by decide +kernel
theorem dX11_clears_215 : decode cX11_clears 215 = .ok (.imul, 1) := by decide +kernel
theorem dX11_clears_216 : decode cX11_clears 216 = .ok (.iload 9, 2) := by decide +kernel
theorem dX11_clears_218 : decode cX11_clears 218 = .ok (.iadd, 1) := by decide +kernel
theorem dX11_clears_219 : decode cX11_clears 219 = .ok (.iaload, 1) := by decide +kernel
theorem dX11_clears_220 : decode cX11_clears 220 = .ok (.imul, 1) := by decide +kernel
theorem dX11_clears_221 : decode cX11_clears 221 = .ok (.isub, 1) := by decide +kernel
theorem dX11_clears_222 : decode cX11_clears 222 = .ok (.i2l, 1) := by decide +kernel
theorem dX11_clears_223 : decode cX11_clears 223 = .ok (.aload_n 0, 1) := by decide +kernel
theorem dX11_clears_224 : decode cX11_clears 224 = .ok (.getfield 267, 3) := by decide +kernel
theorem dX11_clears_227 : decode cX11_clears 227 = .ok (.invokestatic 116, 3) := by decide +kernel
theorem dX11_clears_230 : decode cX11_clears 230 = .ok (.iastore, 1) := by decide +kernel
theorem dX11_clears_231 : decode cX11_clears 231 = .ok (.iinc 9 1, 3) := by decide +kernel
theorem dX11_clears_234 : decode cX11_clears 234 = .ok (.goto (-60), 3) := by decide +kernel
theorem dX11_clears_237 : decode cX11_clears 237 = .ok (.iinc 7 1, 3) := by decide +kernel
theorem dX11_clears_240 : decode cX11_clears 240 = .ok (.goto (-104), 3) := by decide +kernel
theorem dX11_clears_243 : decode cX11_clears 243 = .ok (.return_, 1) := by decide +kernel
theorem dX11_settlesRule_0 : decode cX11_settlesRule 0 = .ok (.iconst 0, 1) := by decide +kernel
theorem dX11_settlesRule_1 : decode cX11_settlesRule 1 = .ok (.istore_n 2, 1) := by decide +kernel
theorem dX11_settlesRule_2 : decode cX11_settlesRule 2 = .ok (.iload_n 2, 1) := by decide +kernel
theorem dX11_settlesRule_3 : decode cX11_settlesRule 3 = .ok (.iload_n 1, 1) := by decide +kernel
theorem dX11_settlesRule_4 : decode cX11_settlesRule 4 = .ok (.if_icmp .ge 104, 3) := by decide +kernel
theorem dX11_settlesRule_7 : decode cX11_settlesRule 7 = .ok (.aload_n 0, 1) := by decide +kernel
theorem dX11_settlesRule_8 : decode cX11_settlesRule 8 = .ok (.getfield 94, 3) := by decide +kernel
theorem dX11_settlesRule_11 : decode cX11_settlesRule 11 = .ok (.iload_n 2, 1) := by decide +kernel
theorem dX11_settlesRule_12 : decode cX11_settlesRule 12 = .ok (.iconst 0, 1) := by decide +kernel
theorem dX11_settlesRule_13 : decode cX11_settlesRule 13 = .ok (.iastore, 1) := by decide +kernel
theorem dX11_settlesRule_14 : decode cX11_settlesRule 14 = .ok (.aload_n 0, 1) := by decide +kernel
theorem dX11_settlesRule_15 : decode cX11_settlesRule 15 = .ok (.getfield 97, 3) := by decide +kernel
theorem dX11_settlesRule_18 : decode cX11_settlesRule 18 = .ok (.iload_n 2, 1) := by decide +kernel
theorem dX11_settlesRule_19 : decode cX11_settlesRule 19 = .ok (.iaload, 1) := by decide +kernel
theorem dX11_settlesRule_20 : decode cX11_settlesRule 20 = .ok (.iconst (-1), 1) := by decide +kernel
theorem dX11_settlesRule_21 : decode cX11_settlesRule 21 = .ok (.if_icmp .ne 6, 3) := by decide +kernel
theorem dX11_settlesRule_24 : decode cX11_settlesRule 24 = .ok (.goto 78, 3) := by decide +kernel
theorem dX11_settlesRule_27 : decode cX11_settlesRule 27 = .ok (.aload_n 0, 1) := by decide +kernel
theorem dX11_settlesRule_28 : decode cX11_settlesRule 28 = .ok (.getfield 91, 3) := by decide +kernel
theorem dX11_settlesRule_31 : decode cX11_settlesRule 31 = .ok (.bipush 65, 2) := by decide +kernel
theorem dX11_settlesRule_33 : decode cX11_settlesRule 33 = .ok (.aload_n 0, 1) := by decide +kernel
theorem dX11_settlesRule_34 : decode cX11_settlesRule 34 = .ok (.getfield 97, 3) := by decide +kernel
theorem dX11_settlesRule_37 : decode cX11_settlesRule 37 = .ok (.iload_n 2, 1) := by decide +kernel
theorem dX11_settlesRule_38 : decode cX11_settlesRule 38 = .ok (.iaload, 1) := by decide +kernel
theorem dX11_settlesRule_39 : decode cX11_settlesRule 39 = .ok (.imul, 1) := by decide +kernel
theorem dX11_settlesRule_40 : decode cX11_settlesRule 40 = .ok (.iload_n 1, 1) := by decide +kernel
theorem dX11_settlesRule_41 : decode cX11_settlesRule 41 = .ok (.iadd, 1) := by decide +kernel
theorem dX11_settlesRule_42 : decode cX11_settlesRule 42 = .ok (.iaload, 1) := by decide +kernel
theorem dX11_settlesRule_43 : decode cX11_settlesRule 43 = .ok (.istore_n 3, 1) := by decide +kernel
theorem dX11_settlesRule_44 : decode cX11_settlesRule 44 = .ok (.iconst 0, 1) := by decide +kernel
theorem dX11_settlesRule_45 : decode cX11_settlesRule 45 = .ok (.istore 4, 2) := by decide +kernel
theorem dX11_settlesRule_47 : decode cX11_settlesRule 47 = .ok (.iload 4, 2) := by decide +kernel
theorem dX11_settlesRule_49 : decode cX11_settlesRule 49 = .ok (.iload_n 2, 1) := by decide +kernel
theorem dX11_settlesRule_50 : decode cX11_settlesRule 50 = .ok (.if_icmp .ge 37, 3) := by decide +kernel
theorem dX11_settlesRule_53 : decode cX11_settlesRule 53 = .ok (.iload_n 3, 1) := by decide +kernel
theorem dX11_settlesRule_54 : decode cX11_settlesRule 54 = .ok (.aload_n 0, 1) := by decide +kernel
theorem dX11_settlesRule_55 : decode cX11_settlesRule 55 = .ok (.getfield 91, 3) := by decide +kernel
theorem dX11_settlesRule_58 : decode cX11_settlesRule 58 = .ok (.bipush 65, 2) := by decide +kernel
theorem dX11_settlesRule_60 : decode cX11_settlesRule 60 = .ok (.aload_n 0, 1) := by decide +kernel
theorem dX11_settlesRule_61 : decode cX11_settlesRule 61 = .ok (.getfield 97, 3) := by decide +kernel
theorem dX11_settlesRule_64 : decode cX11_settlesRule 64 = .ok (.iload_n 2, 1) := by decide +kernel
theorem dX11_settlesRule_65 : decode cX11_settlesRule 65 = .ok (.iaload, 1) := by decide +kernel
theorem dX11_settlesRule_66 : decode cX11_settlesRule 66 = .ok (.imul, 1) := by decide +kernel
theorem dX11_settlesRule_67 : decode cX11_settlesRule 67 = .ok (.iload 4, 2) := by decide +kernel
theorem dX11_settlesRule_69 : decode cX11_settlesRule 69 = .ok (.iadd, 1) := by decide +kernel
theorem dX11_settlesRule_70 : decode cX11_settlesRule 70 = .ok (.iaload, 1) := by decide +kernel
theorem dX11_settlesRule_71 : decode cX11_settlesRule 71 = .ok (.aload_n 0, 1) := by decide +kernel
theorem dX11_settlesRule_72 : decode cX11_settlesRule 72 = .ok (.getfield 94, 3) := by decide +kernel
theorem dX11_settlesRule_75 : decode cX11_settlesRule 75 = .ok (.iload 4, 2) := by decide +kernel
theorem dX11_settlesRule_77 : decode cX11_settlesRule 77 = .ok (.iaload, 1) := by decide +kernel
theorem dX11_settlesRule_78 : decode cX11_settlesRule 78 = .ok (.imul, 1) := by decide +kernel
theorem dX11_settlesRule_79 : decode cX11_settlesRule 79 = .ok (.isub, 1) := by decide +kernel
theorem dX11_settlesRule_80 : decode cX11_settlesRule 80 = .ok (.istore_n 3, 1) := by decide +kernel
theorem dX11_settlesRule_81 : decode cX11_settlesRule 81 = .ok (.iinc 4 1, 3) := by decide +kernel
theorem dX11_settlesRule_84 : decode cX11_settlesRule 84 = .ok (.goto (-37), 3) := by decide +kernel
theorem dX11_settlesRule_87 : decode cX11_settlesRule 87 = .ok (.aload_n 0, 1) := by decide +kernel
theorem dX11_settlesRule_88 : decode cX11_settlesRule 88 = .ok (.getfield 94, 3) := by decide +kernel
theorem dX11_settlesRule_91 : decode cX11_settlesRule 91 = .ok (.iload_n 2, 1) := by decide +kernel
theorem dX11_settlesRule_92 : decode cX11_settlesRule 92 = .ok (.iload_n 3, 1) := by decide +kernel
theorem dX11_settlesRule_93 : decode cX11_settlesRule 93 = .ok (.i2l, 1) := by decide +kernel
theorem dX11_settlesRule_94 : decode cX11_settlesRule 94 = .ok (.aload_n 0, 1) := by decide +kernel
theorem dX11_settlesRule_95 : decode cX11_settlesRule 95 = .ok (.getfield 267, 3) := by decide +kernel
theorem dX11_settlesRule_98 : decode cX11_settlesRule 98 = .ok (.invokestatic 116, 3) := by decide +kernel
theorem dX11_settlesRule_101 : decode cX11_settlesRule 101 = .ok (.iastore, 1) := by decide +kernel
theorem dX11_settlesRule_102 : decode cX11_settlesRule 102 = .ok (.iinc 2 1, 3) := by decide +kernel
theorem dX11_settlesRule_105 : decode cX11_settlesRule 105 = .ok (.goto (-103), 3) := by decide +kernel
theorem dX11_settlesRule_108 : decode cX11_settlesRule 108 = .ok (.return_, 1) := by decide +kernel
theorem dX11_leastRule_0 : decode cX11_leastRule 0 = .ok (.iconst 0, 1) := by decide +kernel
theorem dX11_leastRule_1 : decode cX11_leastRule 1 = .ok (.istore_n 1, 1) := by decide +kernel
theorem dX11_leastRule_2 : decode cX11_leastRule 2 = .ok (.aload_n 0, 1) := by decide +kernel
theorem dX11_leastRule_3 : decode cX11_leastRule 3 = .ok (.iload_n 1, 1) := by decide +kernel
theorem dX11_leastRule_4 : decode cX11_leastRule 4 = .ok (.invokevirtual 282, 3) := by decide +kernel
theorem dX11_leastRule_7 : decode cX11_leastRule 7 = .ok (.ifCond .ne 9, 3) := by decide +kernel
theorem dX11_leastRule_10 : decode cX11_leastRule 10 = .ok (.iinc 1 1, 3) := by decide +kernel
theorem dX11_leastRule_13 : decode cX11_leastRule 13 = .ok (.goto (-11), 3) := by decide +kernel
theorem dX11_leastRule_16 : decode cX11_leastRule 16 = .ok (.iload_n 1, 1) := by decide +kernel
theorem dX11_leastRule_17 : decode cX11_leastRule 17 = .ok (.ireturn, 1) := by decide +kernel
theorem dX11_least_0 : decode cX11_least 0 = .ok (.aload_n 0, 1) := by decide +kernel
theorem dX11_least_1 : decode cX11_least 1 = .ok (.iconst 0, 1) := by decide +kernel
theorem dX11_least_2 : decode cX11_least 2 = .ok (.putfield 104, 3) := by decide +kernel
theorem dX11_least_5 : decode cX11_least 5 = .ok (.aload_n 0, 1) := by decide +kernel
theorem dX11_least_6 : decode cX11_least 6 = .ok (.invokevirtual 285, 3) := by decide +kernel
theorem dX11_least_9 : decode cX11_least 9 = .ok (.ireturn, 1) := by decide +kernel
theorem dX11_shown_0 : decode cX11_shown 0 = .ok (.aload_n 0, 1) := by decide +kernel
theorem dX11_shown_1 : decode cX11_shown 1 = .ok (.iconst 0, 1) := by decide +kernel
theorem dX11_shown_2 : decode cX11_shown 2 = .ok (.putfield 104, 3) := by decide +kernel
theorem dX11_shown_5 : decode cX11_shown 5 = .ok (.iconst 2, 1) := by decide +kernel
theorem dX11_shown_6 : decode cX11_shown 6 = .ok (.aload_n 0, 1) := by decide +kernel
theorem dX11_shown_7 : decode cX11_shown 7 = .ok (.invokevirtual 285, 3) := by decide +kernel
theorem dX11_shown_10 : decode cX11_shown 10 = .ok (.imul, 1) := by decide +kernel
theorem dX11_shown_11 : decode cX11_shown 11 = .ok (.aload_n 0, 1) := by decide +kernel
theorem dX11_shown_12 : decode cX11_shown 12 = .ok (.getfield 270, 3) := by decide +kernel
theorem dX11_shown_15 : decode cX11_shown 15 = .ok (.if_icmp .gt 7, 3) := by decide +kernel
theorem dX11_shown_18 : decode cX11_shown 18 = .ok (.iconst 1, 1) := by decide +kernel
theorem dX11_shown_19 : decode cX11_shown 19 = .ok (.goto 4, 3) := by decide +kernel
theorem dX11_shown_22 : decode cX11_shown 22 = .ok (.iconst 0, 1) := by decide +kernel
theorem dX11_shown_23 : decode cX11_shown 23 = .ok (.ireturn, 1) := by decide +kernel
theorem dX11_rule_0 : decode cX11_rule 0 = .ok (.aload_n 0, 1) := by decide +kernel
theorem dX11_rule_1 : decode cX11_rule 1 = .ok (.iconst 0, 1) := by decide +kernel
theorem dX11_rule_2 : decode cX11_rule 2 = .ok (.putfield 104, 3) := by decide +kernel
theorem dX11_rule_5 : decode cX11_rule 5 = .ok (.aload_n 0, 1) := by decide +kernel
theorem dX11_rule_6 : decode cX11_rule 6 = .ok (.invokevirtual 285, 3) := by decide +kernel
theorem dX11_rule_9 : decode cX11_rule 9 = .ok (.istore_n 2, 1) := by decide +kernel
theorem dX11_rule_10 : decode cX11_rule 10 = .ok (.iload_n 1, 1) := by decide +kernel
theorem dX11_rule_11 : decode cX11_rule 11 = .ok (.iconst 1, 1) := by decide +kernel
theorem dX11_rule_12 : decode cX11_rule 12 = .ok (.if_icmp .lt 8, 3) := by decide +kernel
theorem dX11_rule_15 : decode cX11_rule 15 = .ok (.iload_n 1, 1) := by decide +kernel
theorem dX11_rule_16 : decode cX11_rule 16 = .ok (.iload_n 2, 1) := by decide +kernel
theorem dX11_rule_17 : decode cX11_rule 17 = .ok (.if_icmp .le 7, 3) := by decide +kernel
theorem dX11_rule_20 : decode cX11_rule 20 = .ok (.iconst (-1), 1) := by decide +kernel
theorem dX11_rule_21 : decode cX11_rule 21 = .ok (.goto 11, 3) := by decide +kernel
theorem dX11_rule_24 : decode cX11_rule 24 = .ok (.aload_n 0, 1) := by decide +kernel
theorem dX11_rule_25 : decode cX11_rule 25 = .ok (.getfield 94, 3) := by decide +kernel
theorem dX11_rule_28 : decode cX11_rule 28 = .ok (.iload_n 1, 1) := by decide +kernel
