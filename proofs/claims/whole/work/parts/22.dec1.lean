theorem d_Disk_init_0 : decode prog_2_method_1_code 0 = .ok (.aload_n 0, 1) := by decide +kernel
theorem d_Disk_init_1 : decode prog_2_method_1_code 1 = .ok (.invokespecial 3, 3) := by decide +kernel
theorem d_Disk_init_4 : decode prog_2_method_1_code 4 = .ok (.aload_n 0, 1) := by decide +kernel
theorem d_Disk_init_5 : decode prog_2_method_1_code 5 = .ok (.sipush (520), 3) := by decide +kernel
theorem d_Disk_init_8 : decode prog_2_method_1_code 8 = .ok (.newarray .int, 2) := by decide +kernel
theorem d_Disk_init_10 : decode prog_2_method_1_code 10 = .ok (.putfield 9, 3) := by decide +kernel
theorem d_Disk_init_13 : decode prog_2_method_1_code 13 = .ok (.aload_n 0, 1) := by decide +kernel
theorem d_Disk_init_14 : decode prog_2_method_1_code 14 = .ok (.sipush (520), 3) := by decide +kernel
theorem d_Disk_init_17 : decode prog_2_method_1_code 17 = .ok (.newarray .int, 2) := by decide +kernel
theorem d_Disk_init_19 : decode prog_2_method_1_code 19 = .ok (.putfield 15, 3) := by decide +kernel
theorem d_Disk_init_22 : decode prog_2_method_1_code 22 = .ok (.aload_n 0, 1) := by decide +kernel
theorem d_Disk_init_23 : decode prog_2_method_1_code 23 = .ok (.bipush (40), 2) := by decide +kernel
theorem d_Disk_init_25 : decode prog_2_method_1_code 25 = .ok (.newarray .boolean, 2) := by decide +kernel
theorem d_Disk_init_27 : decode prog_2_method_1_code 27 = .ok (.putfield 18, 3) := by decide +kernel
theorem d_Disk_init_30 : decode prog_2_method_1_code 30 = .ok (.aload_n 0, 1) := by decide +kernel
theorem d_Disk_init_31 : decode prog_2_method_1_code 31 = .ok (.iconst 0, 1) := by decide +kernel
theorem d_Disk_init_32 : decode prog_2_method_1_code 32 = .ok (.putfield 22, 3) := by decide +kernel
theorem d_Disk_init_35 : decode prog_2_method_1_code 35 = .ok (.aload_n 0, 1) := by decide +kernel
theorem d_Disk_init_36 : decode prog_2_method_1_code 36 = .ok (.iconst 0, 1) := by decide +kernel
theorem d_Disk_init_37 : decode prog_2_method_1_code 37 = .ok (.putfield 26, 3) := by decide +kernel
theorem d_Disk_init_40 : decode prog_2_method_1_code 40 = .ok (.aload_n 0, 1) := by decide +kernel
theorem d_Disk_init_41 : decode prog_2_method_1_code 41 = .ok (.iconst (-1), 1) := by decide +kernel
theorem d_Disk_init_42 : decode prog_2_method_1_code 42 = .ok (.putfield 29, 3) := by decide +kernel
theorem d_Disk_init_45 : decode prog_2_method_1_code 45 = .ok (.aload_n 0, 1) := by decide +kernel
theorem d_Disk_init_46 : decode prog_2_method_1_code 46 = .ok (.iconst 1, 1) := by decide +kernel
theorem d_Disk_init_47 : decode prog_2_method_1_code 47 = .ok (.putfield 32, 3) := by decide +kernel
theorem d_Disk_init_50 : decode prog_2_method_1_code 50 = .ok (.return_, 1) := by decide +kernel
theorem d_Disk_format_0 : decode prog_2_method_2_code 0 = .ok (.iconst 0, 1) := by decide +kernel
theorem d_Disk_format_1 : decode prog_2_method_2_code 1 = .ok (.istore_n 1, 1) := by decide +kernel
theorem d_Disk_format_2 : decode prog_2_method_2_code 2 = .ok (.iload_n 1, 1) := by decide +kernel
theorem d_Disk_format_3 : decode prog_2_method_2_code 3 = .ok (.bipush (40), 2) := by decide +kernel
theorem d_Disk_format_5 : decode prog_2_method_2_code 5 = .ok (.if_icmp .ge (14), 3) := by decide +kernel
theorem d_Disk_format_8 : decode prog_2_method_2_code 8 = .ok (.aload_n 0, 1) := by decide +kernel
theorem d_Disk_format_9 : decode prog_2_method_2_code 9 = .ok (.iload_n 1, 1) := by decide +kernel
theorem d_Disk_format_10 : decode prog_2_method_2_code 10 = .ok (.invokevirtual 36, 3) := by decide +kernel
theorem d_Disk_format_13 : decode prog_2_method_2_code 13 = .ok (.iinc 1 (1), 3) := by decide +kernel
theorem d_Disk_format_16 : decode prog_2_method_2_code 16 = .ok (.goto (-14), 3) := by decide +kernel
theorem d_Disk_format_19 : decode prog_2_method_2_code 19 = .ok (.aload_n 0, 1) := by decide +kernel
theorem d_Disk_format_20 : decode prog_2_method_2_code 20 = .ok (.iconst 0, 1) := by decide +kernel
theorem d_Disk_format_21 : decode prog_2_method_2_code 21 = .ok (.iconst 1, 1) := by decide +kernel
theorem d_Disk_format_22 : decode prog_2_method_2_code 22 = .ok (.iconst 0, 1) := by decide +kernel
theorem d_Disk_format_23 : decode prog_2_method_2_code 23 = .ok (.iconst 1, 1) := by decide +kernel
theorem d_Disk_format_24 : decode prog_2_method_2_code 24 = .ok (.invokevirtual 40, 3) := by decide +kernel
theorem d_Disk_format_27 : decode prog_2_method_2_code 27 = .ok (.aload_n 0, 1) := by decide +kernel
theorem d_Disk_format_28 : decode prog_2_method_2_code 28 = .ok (.iconst 1, 1) := by decide +kernel
theorem d_Disk_format_29 : decode prog_2_method_2_code 29 = .ok (.iconst 2, 1) := by decide +kernel
theorem d_Disk_format_30 : decode prog_2_method_2_code 30 = .ok (.iconst 0, 1) := by decide +kernel
theorem d_Disk_format_31 : decode prog_2_method_2_code 31 = .ok (.iconst 0, 1) := by decide +kernel
theorem d_Disk_format_32 : decode prog_2_method_2_code 32 = .ok (.invokevirtual 40, 3) := by decide +kernel
theorem d_Disk_format_35 : decode prog_2_method_2_code 35 = .ok (.aload_n 0, 1) := by decide +kernel
theorem d_Disk_format_36 : decode prog_2_method_2_code 36 = .ok (.iconst 1, 1) := by decide +kernel
theorem d_Disk_format_37 : decode prog_2_method_2_code 37 = .ok (.iconst 2, 1) := by decide +kernel
theorem d_Disk_format_38 : decode prog_2_method_2_code 38 = .ok (.iconst 5, 1) := by decide +kernel
theorem d_Disk_format_39 : decode prog_2_method_2_code 39 = .ok (.invokevirtual 44, 3) := by decide +kernel
theorem d_Disk_format_42 : decode prog_2_method_2_code 42 = .ok (.aload_n 0, 1) := by decide +kernel
theorem d_Disk_format_43 : decode prog_2_method_2_code 43 = .ok (.iconst 1, 1) := by decide +kernel
theorem d_Disk_format_44 : decode prog_2_method_2_code 44 = .ok (.iconst 3, 1) := by decide +kernel
theorem d_Disk_format_45 : decode prog_2_method_2_code 45 = .ok (.iconst 2, 1) := by decide +kernel
theorem d_Disk_format_46 : decode prog_2_method_2_code 46 = .ok (.invokevirtual 48, 3) := by decide +kernel
theorem d_Disk_format_49 : decode prog_2_method_2_code 49 = .ok (.aload_n 0, 1) := by decide +kernel
theorem d_Disk_format_50 : decode prog_2_method_2_code 50 = .ok (.iconst 1, 1) := by decide +kernel
theorem d_Disk_format_51 : decode prog_2_method_2_code 51 = .ok (.iconst 3, 1) := by decide +kernel
theorem d_Disk_format_52 : decode prog_2_method_2_code 52 = .ok (.iconst 2, 1) := by decide +kernel
theorem d_Disk_format_53 : decode prog_2_method_2_code 53 = .ok (.invokevirtual 51, 3) := by decide +kernel
theorem d_Disk_format_56 : decode prog_2_method_2_code 56 = .ok (.aload_n 0, 1) := by decide +kernel
theorem d_Disk_format_57 : decode prog_2_method_2_code 57 = .ok (.iconst 2, 1) := by decide +kernel
theorem d_Disk_format_58 : decode prog_2_method_2_code 58 = .ok (.invokevirtual 54, 3) := by decide +kernel
theorem d_Disk_format_61 : decode prog_2_method_2_code 61 = .ok (.return_, 1) := by decide +kernel
theorem d_Disk_isReadable_0 : decode prog_2_method_3_code 0 = .ok (.iload_n 1, 1) := by decide +kernel
theorem d_Disk_isReadable_1 : decode prog_2_method_3_code 1 = .ok (.ifCond .lt (22), 3) := by decide +kernel
theorem d_Disk_isReadable_4 : decode prog_2_method_3_code 4 = .ok (.iload_n 1, 1) := by decide +kernel
theorem d_Disk_isReadable_5 : decode prog_2_method_3_code 5 = .ok (.bipush (40), 2) := by decide +kernel
theorem d_Disk_isReadable_7 : decode prog_2_method_3_code 7 = .ok (.if_icmp .ge (16), 3) := by decide +kernel
theorem d_Disk_isReadable_10 : decode prog_2_method_3_code 10 = .ok (.aload_n 0, 1) := by decide +kernel
theorem d_Disk_isReadable_11 : decode prog_2_method_3_code 11 = .ok (.getfield 18, 3) := by decide +kernel
theorem d_Disk_isReadable_14 : decode prog_2_method_3_code 14 = .ok (.iload_n 1, 1) := by decide +kernel
theorem d_Disk_isReadable_15 : decode prog_2_method_3_code 15 = .ok (.baload, 1) := by decide +kernel
theorem d_Disk_isReadable_16 : decode prog_2_method_3_code 16 = .ok (.ifCond .ne (7), 3) := by decide +kernel
theorem d_Disk_isReadable_19 : decode prog_2_method_3_code 19 = .ok (.iconst 1, 1) := by decide +kernel
theorem d_Disk_isReadable_20 : decode prog_2_method_3_code 20 = .ok (.goto (4), 3) := by decide +kernel
theorem d_Disk_isReadable_23 : decode prog_2_method_3_code 23 = .ok (.iconst 0, 1) := by decide +kernel
theorem d_Disk_isReadable_24 : decode prog_2_method_3_code 24 = .ok (.ireturn, 1) := by decide +kernel
theorem d_Disk_cell_0 : decode prog_2_method_4_code 0 = .ok (.iload_n 1, 1) := by decide +kernel
theorem d_Disk_cell_1 : decode prog_2_method_4_code 1 = .ok (.ifCond .lt (23), 3) := by decide +kernel
theorem d_Disk_cell_4 : decode prog_2_method_4_code 4 = .ok (.iload_n 1, 1) := by decide +kernel
theorem d_Disk_cell_5 : decode prog_2_method_4_code 5 = .ok (.bipush (40), 2) := by decide +kernel
theorem d_Disk_cell_7 : decode prog_2_method_4_code 7 = .ok (.if_icmp .ge (17), 3) := by decide +kernel
theorem d_Disk_cell_10 : decode prog_2_method_4_code 10 = .ok (.iload_n 2, 1) := by decide +kernel
theorem d_Disk_cell_11 : decode prog_2_method_4_code 11 = .ok (.ifCond .lt (13), 3) := by decide +kernel
theorem d_Disk_cell_14 : decode prog_2_method_4_code 14 = .ok (.iload_n 2, 1) := by decide +kernel
theorem d_Disk_cell_15 : decode prog_2_method_4_code 15 = .ok (.bipush (13), 2) := by decide +kernel
theorem d_Disk_cell_17 : decode prog_2_method_4_code 17 = .ok (.if_icmp .ge (7), 3) := by decide +kernel
theorem d_Disk_cell_20 : decode prog_2_method_4_code 20 = .ok (.iconst 1, 1) := by decide +kernel
theorem d_Disk_cell_21 : decode prog_2_method_4_code 21 = .ok (.goto (4), 3) := by decide +kernel
theorem d_Disk_cell_24 : decode prog_2_method_4_code 24 = .ok (.iconst 0, 1) := by decide +kernel
theorem d_Disk_cell_25 : decode prog_2_method_4_code 25 = .ok (.istore_n 3, 1) := by decide +kernel
theorem d_Disk_cell_26 : decode prog_2_method_4_code 26 = .ok (.iload_n 3, 1) := by decide +kernel
theorem d_Disk_cell_27 : decode prog_2_method_4_code 27 = .ok (.ifCond .eq (26), 3) := by decide +kernel
theorem d_Disk_cell_30 : decode prog_2_method_4_code 30 = .ok (.aload_n 0, 1) := by decide +kernel
theorem d_Disk_cell_31 : decode prog_2_method_4_code 31 = .ok (.getfield 18, 3) := by decide +kernel
theorem d_Disk_cell_34 : decode prog_2_method_4_code 34 = .ok (.iload_n 1, 1) := by decide +kernel
theorem d_Disk_cell_35 : decode prog_2_method_4_code 35 = .ok (.baload, 1) := by decide +kernel
theorem d_Disk_cell_36 : decode prog_2_method_4_code 36 = .ok (.ifCond .ne (17), 3) := by decide +kernel
theorem d_Disk_cell_39 : decode prog_2_method_4_code 39 = .ok (.aload_n 0, 1) := by decide +kernel
theorem d_Disk_cell_40 : decode prog_2_method_4_code 40 = .ok (.getfield 9, 3) := by decide +kernel
theorem d_Disk_cell_43 : decode prog_2_method_4_code 43 = .ok (.iload_n 1, 1) := by decide +kernel
theorem d_Disk_cell_44 : decode prog_2_method_4_code 44 = .ok (.bipush (13), 2) := by decide +kernel
theorem d_Disk_cell_46 : decode prog_2_method_4_code 46 = .ok (.imul, 1) := by decide +kernel
theorem d_Disk_cell_47 : decode prog_2_method_4_code 47 = .ok (.iload_n 2, 1) := by decide +kernel
theorem d_Disk_cell_48 : decode prog_2_method_4_code 48 = .ok (.iadd, 1) := by decide +kernel
theorem d_Disk_cell_49 : decode prog_2_method_4_code 49 = .ok (.iaload, 1) := by decide +kernel
theorem d_Disk_cell_50 : decode prog_2_method_4_code 50 = .ok (.goto (4), 3) := by decide +kernel
theorem d_Disk_cell_53 : decode prog_2_method_4_code 53 = .ok (.iconst (-1), 1) := by decide +kernel
theorem d_Disk_cell_54 : decode prog_2_method_4_code 54 = .ok (.ireturn, 1) := by decide +kernel
theorem d_Disk_setCell_0 : decode prog_2_method_5_code 0 = .ok (.iload_n 1, 1) := by decide +kernel
theorem d_Disk_setCell_1 : decode prog_2_method_5_code 1 = .ok (.ifCond .lt (23), 3) := by decide +kernel
theorem d_Disk_setCell_4 : decode prog_2_method_5_code 4 = .ok (.iload_n 1, 1) := by decide +kernel
theorem d_Disk_setCell_5 : decode prog_2_method_5_code 5 = .ok (.bipush (40), 2) := by decide +kernel
theorem d_Disk_setCell_7 : decode prog_2_method_5_code 7 = .ok (.if_icmp .ge (17), 3) := by decide +kernel
theorem d_Disk_setCell_10 : decode prog_2_method_5_code 10 = .ok (.iload_n 2, 1) := by decide +kernel
theorem d_Disk_setCell_11 : decode prog_2_method_5_code 11 = .ok (.ifCond .lt (13), 3) := by decide +kernel
theorem d_Disk_setCell_14 : decode prog_2_method_5_code 14 = .ok (.iload_n 2, 1) := by decide +kernel
theorem d_Disk_setCell_15 : decode prog_2_method_5_code 15 = .ok (.bipush (13), 2) := by decide +kernel
theorem d_Disk_setCell_17 : decode prog_2_method_5_code 17 = .ok (.if_icmp .ge (7), 3) := by decide +kernel
theorem d_Disk_setCell_20 : decode prog_2_method_5_code 20 = .ok (.iconst 1, 1) := by decide +kernel
theorem d_Disk_setCell_21 : decode prog_2_method_5_code 21 = .ok (.goto (4), 3) := by decide +kernel
theorem d_Disk_setCell_24 : decode prog_2_method_5_code 24 = .ok (.iconst 0, 1) := by decide +kernel
theorem d_Disk_setCell_25 : decode prog_2_method_5_code 25 = .ok (.istore 4, 2) := by decide +kernel
theorem d_Disk_setCell_27 : decode prog_2_method_5_code 27 = .ok (.iload 4, 2) := by decide +kernel
theorem d_Disk_setCell_29 : decode prog_2_method_5_code 29 = .ok (.ifCond .eq (24), 3) := by decide +kernel
theorem d_Disk_setCell_32 : decode prog_2_method_5_code 32 = .ok (.aload_n 0, 1) := by decide +kernel
theorem d_Disk_setCell_33 : decode prog_2_method_5_code 33 = .ok (.getfield 18, 3) := by decide +kernel
theorem d_Disk_setCell_36 : decode prog_2_method_5_code 36 = .ok (.iload_n 1, 1) := by decide +kernel
theorem d_Disk_setCell_37 : decode prog_2_method_5_code 37 = .ok (.baload, 1) := by decide +kernel
theorem d_Disk_setCell_38 : decode prog_2_method_5_code 38 = .ok (.ifCond .ne (15), 3) := by decide +kernel
theorem d_Disk_setCell_41 : decode prog_2_method_5_code 41 = .ok (.aload_n 0, 1) := by decide +kernel
theorem d_Disk_setCell_42 : decode prog_2_method_5_code 42 = .ok (.getfield 9, 3) := by decide +kernel
theorem d_Disk_setCell_45 : decode prog_2_method_5_code 45 = .ok (.iload_n 1, 1) := by decide +kernel
theorem d_Disk_setCell_46 : decode prog_2_method_5_code 46 = .ok (.bipush (13), 2) := by decide +kernel
theorem d_Disk_setCell_48 : decode prog_2_method_5_code 48 = .ok (.imul, 1) := by decide +kernel
theorem d_Disk_setCell_49 : decode prog_2_method_5_code 49 = .ok (.iload_n 2, 1) := by decide +kernel
theorem d_Disk_setCell_50 : decode prog_2_method_5_code 50 = .ok (.iadd, 1) := by decide +kernel
theorem d_Disk_setCell_51 : decode prog_2_method_5_code 51 = .ok (.iload_n 3, 1) := by decide +kernel
theorem d_Disk_setCell_52 : decode prog_2_method_5_code 52 = .ok (.iastore, 1) := by decide +kernel
theorem d_Disk_setCell_53 : decode prog_2_method_5_code 53 = .ok (.return_, 1) := by decide +kernel
theorem d_Disk_isFree_0 : decode prog_2_method_6_code 0 = .ok (.aload_n 0, 1) := by decide +kernel
theorem d_Disk_isFree_1 : decode prog_2_method_6_code 1 = .ok (.iload_n 1, 1) := by decide +kernel
theorem d_Disk_isFree_2 : decode prog_2_method_6_code 2 = .ok (.iconst 0, 1) := by decide +kernel
theorem d_Disk_isFree_3 : decode prog_2_method_6_code 3 = .ok (.invokevirtual 57, 3) := by decide +kernel
theorem d_Disk_isFree_6 : decode prog_2_method_6_code 6 = .ok (.ifCond .ne (7), 3) := by decide +kernel
theorem d_Disk_isFree_9 : decode prog_2_method_6_code 9 = .ok (.iconst 1, 1) := by decide +kernel
theorem d_Disk_isFree_10 : decode prog_2_method_6_code 10 = .ok (.goto (4), 3) := by decide +kernel
theorem d_Disk_isFree_13 : decode prog_2_method_6_code 13 = .ok (.iconst 0, 1) := by decide +kernel
theorem d_Disk_isFree_14 : decode prog_2_method_6_code 14 = .ok (.ireturn, 1) := by decide +kernel
theorem d_Disk_isInUse_0 : decode prog_2_method_7_code 0 = .ok (.aload_n 0, 1) := by decide +kernel
theorem d_Disk_isInUse_1 : decode prog_2_method_7_code 1 = .ok (.iload_n 1, 1) := by decide +kernel
theorem d_Disk_isInUse_2 : decode prog_2_method_7_code 2 = .ok (.iconst 0, 1) := by decide +kernel
theorem d_Disk_isInUse_3 : decode prog_2_method_7_code 3 = .ok (.invokevirtual 57, 3) := by decide +kernel
theorem d_Disk_isInUse_6 : decode prog_2_method_7_code 6 = .ok (.ifCond .le (7), 3) := by decide +kernel
theorem d_Disk_isInUse_9 : decode prog_2_method_7_code 9 = .ok (.iconst 1, 1) := by decide +kernel
theorem d_Disk_isInUse_10 : decode prog_2_method_7_code 10 = .ok (.goto (4), 3) := by decide +kernel
theorem d_Disk_isInUse_13 : decode prog_2_method_7_code 13 = .ok (.iconst 0, 1) := by decide +kernel
theorem d_Disk_isInUse_14 : decode prog_2_method_7_code 14 = .ok (.ireturn, 1) := by decide +kernel
theorem d_Disk_byteAt_0 : decode prog_2_method_8_code 0 = .ok (.aload_n 0, 1) := by decide +kernel
theorem d_Disk_byteAt_1 : decode prog_2_method_8_code 1 = .ok (.iload_n 1, 1) := by decide +kernel
theorem d_Disk_byteAt_2 : decode prog_2_method_8_code 2 = .ok (.iconst 5, 1) := by decide +kernel
theorem d_Disk_byteAt_3 : decode prog_2_method_8_code 3 = .ok (.iload_n 2, 1) := by decide +kernel
theorem d_Disk_byteAt_4 : decode prog_2_method_8_code 4 = .ok (.iadd, 1) := by decide +kernel
theorem d_Disk_byteAt_5 : decode prog_2_method_8_code 5 = .ok (.invokevirtual 57, 3) := by decide +kernel
theorem d_Disk_byteAt_8 : decode prog_2_method_8_code 8 = .ok (.ireturn, 1) := by decide +kernel
theorem d_Disk_setByte_0 : decode prog_2_method_9_code 0 = .ok (.aload_n 0, 1) := by decide +kernel
theorem d_Disk_setByte_1 : decode prog_2_method_9_code 1 = .ok (.iload_n 1, 1) := by decide +kernel
theorem d_Disk_setByte_2 : decode prog_2_method_9_code 2 = .ok (.iconst 5, 1) := by decide +kernel
theorem d_Disk_setByte_3 : decode prog_2_method_9_code 3 = .ok (.iload_n 2, 1) := by decide +kernel
theorem d_Disk_setByte_4 : decode prog_2_method_9_code 4 = .ok (.iadd, 1) := by decide +kernel
theorem d_Disk_setByte_5 : decode prog_2_method_9_code 5 = .ok (.iload_n 3, 1) := by decide +kernel
theorem d_Disk_setByte_6 : decode prog_2_method_9_code 6 = .ok (.sipush (255), 3) := by decide +kernel
theorem d_Disk_setByte_9 : decode prog_2_method_9_code 9 = .ok (.iand, 1) := by decide +kernel
theorem d_Disk_setByte_10 : decode prog_2_method_9_code 10 = .ok (.invokevirtual 48, 3) := by decide +kernel
theorem d_Disk_setByte_13 : decode prog_2_method_9_code 13 = .ok (.return_, 1) := by decide +kernel
theorem d_Disk_nameAt_0 : decode prog_2_method_10_code 0 = .ok (.aload_n 0, 1) := by decide +kernel
theorem d_Disk_nameAt_1 : decode prog_2_method_10_code 1 = .ok (.iload_n 1, 1) := by decide +kernel
theorem d_Disk_nameAt_2 : decode prog_2_method_10_code 2 = .ok (.iconst 5, 1) := by decide +kernel
theorem d_Disk_nameAt_3 : decode prog_2_method_10_code 3 = .ok (.iload_n 2, 1) := by decide +kernel
theorem d_Disk_nameAt_4 : decode prog_2_method_10_code 4 = .ok (.iadd, 1) := by decide +kernel
theorem d_Disk_nameAt_5 : decode prog_2_method_10_code 5 = .ok (.invokevirtual 57, 3) := by decide +kernel
theorem d_Disk_nameAt_8 : decode prog_2_method_10_code 8 = .ok (.sipush (256), 3) := by decide +kernel
theorem d_Disk_nameAt_11 : decode prog_2_method_10_code 11 = .ok (.imul, 1) := by decide +kernel
theorem d_Disk_nameAt_12 : decode prog_2_method_10_code 12 = .ok (.aload_n 0, 1) := by decide +kernel
theorem d_Disk_nameAt_13 : decode prog_2_method_10_code 13 = .ok (.iload_n 1, 1) := by decide +kernel
theorem d_Disk_nameAt_14 : decode prog_2_method_10_code 14 = .ok (.iconst 5, 1) := by decide +kernel
theorem d_Disk_nameAt_15 : decode prog_2_method_10_code 15 = .ok (.iload_n 2, 1) := by decide +kernel
theorem d_Disk_nameAt_16 : decode prog_2_method_10_code 16 = .ok (.iadd, 1) := by decide +kernel
theorem d_Disk_nameAt_17 : decode prog_2_method_10_code 17 = .ok (.iconst 1, 1) := by decide +kernel
theorem d_Disk_nameAt_18 : decode prog_2_method_10_code 18 = .ok (.iadd, 1) := by decide +kernel
theorem d_Disk_nameAt_19 : decode prog_2_method_10_code 19 = .ok (.invokevirtual 57, 3) := by decide +kernel
theorem d_Disk_nameAt_22 : decode prog_2_method_10_code 22 = .ok (.iadd, 1) := by decide +kernel
theorem d_Disk_nameAt_23 : decode prog_2_method_10_code 23 = .ok (.ireturn, 1) := by decide +kernel
theorem d_Disk_setName_0 : decode prog_2_method_11_code 0 = .ok (.aload_n 0, 1) := by decide +kernel
theorem d_Disk_setName_1 : decode prog_2_method_11_code 1 = .ok (.iload_n 1, 1) := by decide +kernel
theorem d_Disk_setName_2 : decode prog_2_method_11_code 2 = .ok (.iconst 5, 1) := by decide +kernel
theorem d_Disk_setName_3 : decode prog_2_method_11_code 3 = .ok (.iload_n 2, 1) := by decide +kernel
theorem d_Disk_setName_4 : decode prog_2_method_11_code 4 = .ok (.iadd, 1) := by decide +kernel
theorem d_Disk_setName_5 : decode prog_2_method_11_code 5 = .ok (.iload_n 3, 1) := by decide +kernel
theorem d_Disk_setName_6 : decode prog_2_method_11_code 6 = .ok (.bipush (8), 2) := by decide +kernel
theorem d_Disk_setName_8 : decode prog_2_method_11_code 8 = .ok (.ishr, 1) := by decide +kernel
theorem d_Disk_setName_9 : decode prog_2_method_11_code 9 = .ok (.sipush (255), 3) := by decide +kernel
theorem d_Disk_setName_12 : decode prog_2_method_11_code 12 = .ok (.iand, 1) := by decide +kernel
theorem d_Disk_setName_13 : decode prog_2_method_11_code 13 = .ok (.invokevirtual 48, 3) := by decide +kernel
theorem d_Disk_setName_16 : decode prog_2_method_11_code 16 = .ok (.aload_n 0, 1) := by decide +kernel
theorem d_Disk_setName_17 : decode prog_2_method_11_code 17 = .ok (.iload_n 1, 1) := by decide +kernel
theorem d_Disk_setName_18 : decode prog_2_method_11_code 18 = .ok (.iconst 5, 1) := by decide +kernel
theorem d_Disk_setName_19 : decode prog_2_method_11_code 19 = .ok (.iload_n 2, 1) := by decide +kernel
theorem d_Disk_setName_20 : decode prog_2_method_11_code 20 = .ok (.iadd, 1) := by decide +kernel
theorem d_Disk_setName_21 : decode prog_2_method_11_code 21 = .ok (.iconst 1, 1) := by decide +kernel
theorem d_Disk_setName_22 : decode prog_2_method_11_code 22 = .ok (.iadd, 1) := by decide +kernel
theorem d_Disk_setName_23 : decode prog_2_method_11_code 23 = .ok (.iload_n 3, 1) := by decide +kernel
theorem d_Disk_setName_24 : decode prog_2_method_11_code 24 = .ok (.sipush (255), 3) := by decide +kernel
theorem d_Disk_setName_27 : decode prog_2_method_11_code 27 = .ok (.iand, 1) := by decide +kernel
theorem d_Disk_setName_28 : decode prog_2_method_11_code 28 = .ok (.invokevirtual 48, 3) := by decide +kernel
theorem d_Disk_setName_31 : decode prog_2_method_11_code 31 = .ok (.return_, 1) := by decide +kernel
theorem d_Disk_looksLike_0 : decode prog_2_method_12_code 0 = .ok (.aload_n 0, 1) := by decide +kernel
theorem d_Disk_looksLike_1 : decode prog_2_method_12_code 1 = .ok (.iload_n 1, 1) := by decide +kernel
theorem d_Disk_looksLike_2 : decode prog_2_method_12_code 2 = .ok (.iconst 0, 1) := by decide +kernel
theorem d_Disk_looksLike_3 : decode prog_2_method_12_code 3 = .ok (.invokevirtual 57, 3) := by decide +kernel
theorem d_Disk_looksLike_6 : decode prog_2_method_12_code 6 = .ok (.iload_n 2, 1) := by decide +kernel
theorem d_Disk_looksLike_7 : decode prog_2_method_12_code 7 = .ok (.if_icmp .ne (17), 3) := by decide +kernel
theorem d_Disk_looksLike_10 : decode prog_2_method_12_code 10 = .ok (.aload_n 0, 1) := by decide +kernel
theorem d_Disk_looksLike_11 : decode prog_2_method_12_code 11 = .ok (.iload_n 1, 1) := by decide +kernel
theorem d_Disk_looksLike_12 : decode prog_2_method_12_code 12 = .ok (.iconst 1, 1) := by decide +kernel
theorem d_Disk_looksLike_13 : decode prog_2_method_12_code 13 = .ok (.invokevirtual 57, 3) := by decide +kernel
theorem d_Disk_looksLike_16 : decode prog_2_method_12_code 16 = .ok (.iload_n 3, 1) := by decide +kernel
theorem d_Disk_looksLike_17 : decode prog_2_method_12_code 17 = .ok (.if_icmp .ne (7), 3) := by decide +kernel
theorem d_Disk_looksLike_20 : decode prog_2_method_12_code 20 = .ok (.iconst 1, 1) := by decide +kernel
theorem d_Disk_looksLike_21 : decode prog_2_method_12_code 21 = .ok (.goto (4), 3) := by decide +kernel
theorem d_Disk_looksLike_24 : decode prog_2_method_12_code 24 = .ok (.iconst 0, 1) := by decide +kernel
theorem d_Disk_looksLike_25 : decode prog_2_method_12_code 25 = .ok (.istore 4, 2) := by decide +kernel
theorem d_Disk_looksLike_27 : decode prog_2_method_12_code 27 = .ok (.aload_n 0, 1) := by decide +kernel
theorem d_Disk_looksLike_28 : decode prog_2_method_12_code 28 = .ok (.dup, 1) := by decide +kernel
theorem d_Disk_looksLike_29 : decode prog_2_method_12_code 29 = .ok (.getfield 22, 3) := by decide +kernel
theorem d_Disk_looksLike_32 : decode prog_2_method_12_code 32 = .ok (.iload 4, 2) := by decide +kernel
theorem d_Disk_looksLike_34 : decode prog_2_method_12_code 34 = .ok (.ifCond .eq (7), 3) := by decide +kernel
theorem d_Disk_looksLike_37 : decode prog_2_method_12_code 37 = .ok (.iconst 0, 1) := by decide +kernel
theorem d_Disk_looksLike_38 : decode prog_2_method_12_code 38 = .ok (.goto (4), 3) := by decide +kernel
theorem d_Disk_looksLike_41 : decode prog_2_method_12_code 41 = .ok (.iconst 1, 1) := by decide +kernel
theorem d_Disk_looksLike_42 : decode prog_2_method_12_code 42 = .ok (.iadd, 1) := by decide +kernel
theorem d_Disk_looksLike_43 : decode prog_2_method_12_code 43 = .ok (.putfield 22, 3) := by decide +kernel
theorem d_Disk_looksLike_46 : decode prog_2_method_12_code 46 = .ok (.iload 4, 2) := by decide +kernel
theorem d_Disk_looksLike_48 : decode prog_2_method_12_code 48 = .ok (.ireturn, 1) := by decide +kernel
theorem d_Disk_search_0 : decode prog_2_method_13_code 0 = .ok (.iconst 0, 1) := by decide +kernel
theorem d_Disk_search_1 : decode prog_2_method_13_code 1 = .ok (.istore_n 3, 1) := by decide +kernel
theorem d_Disk_search_2 : decode prog_2_method_13_code 2 = .ok (.iload_n 3, 1) := by decide +kernel
theorem d_Disk_search_3 : decode prog_2_method_13_code 3 = .ok (.bipush (40), 2) := by decide +kernel
theorem d_Disk_search_5 : decode prog_2_method_13_code 5 = .ok (.if_icmp .ge (31), 3) := by decide +kernel
theorem d_Disk_search_8 : decode prog_2_method_13_code 8 = .ok (.aload_n 0, 1) := by decide +kernel
theorem d_Disk_search_9 : decode prog_2_method_13_code 9 = .ok (.iload_n 3, 1) := by decide +kernel
theorem d_Disk_search_10 : decode prog_2_method_13_code 10 = .ok (.iconst 0, 1) := by decide +kernel
theorem d_Disk_search_11 : decode prog_2_method_13_code 11 = .ok (.invokevirtual 57, 3) := by decide +kernel
theorem d_Disk_search_14 : decode prog_2_method_13_code 14 = .ok (.iload_n 1, 1) := by decide +kernel
theorem d_Disk_search_15 : decode prog_2_method_13_code 15 = .ok (.if_icmp .ne (15), 3) := by decide +kernel
theorem d_Disk_search_18 : decode prog_2_method_13_code 18 = .ok (.aload_n 0, 1) := by decide +kernel
theorem d_Disk_search_19 : decode prog_2_method_13_code 19 = .ok (.iload_n 3, 1) := by decide +kernel
theorem d_Disk_search_20 : decode prog_2_method_13_code 20 = .ok (.iconst 1, 1) := by decide +kernel
theorem d_Disk_search_21 : decode prog_2_method_13_code 21 = .ok (.invokevirtual 57, 3) := by decide +kernel
theorem d_Disk_search_24 : decode prog_2_method_13_code 24 = .ok (.iload_n 2, 1) := by decide +kernel
theorem d_Disk_search_25 : decode prog_2_method_13_code 25 = .ok (.if_icmp .ne (5), 3) := by decide +kernel
theorem d_Disk_search_28 : decode prog_2_method_13_code 28 = .ok (.iload_n 3, 1) := by decide +kernel
theorem d_Disk_search_29 : decode prog_2_method_13_code 29 = .ok (.ireturn, 1) := by decide +kernel
theorem d_Disk_search_30 : decode prog_2_method_13_code 30 = .ok (.iinc 3 (1), 3) := by decide +kernel
theorem d_Disk_search_33 : decode prog_2_method_13_code 33 = .ok (.goto (-31), 3) := by decide +kernel
theorem d_Disk_search_36 : decode prog_2_method_13_code 36 = .ok (.iconst (-1), 1) := by decide +kernel
theorem d_Disk_search_37 : decode prog_2_method_13_code 37 = .ok (.ireturn, 1) := by decide +kernel
theorem d_Disk_lowestFree_0 : decode prog_2_method_14_code 0 = .ok (.iconst 0, 1) := by decide +kernel
theorem d_Disk_lowestFree_1 : decode prog_2_method_14_code 1 = .ok (.istore_n 1, 1) := by decide +kernel
theorem d_Disk_lowestFree_2 : decode prog_2_method_14_code 2 = .ok (.iload_n 1, 1) := by decide +kernel
theorem d_Disk_lowestFree_3 : decode prog_2_method_14_code 3 = .ok (.bipush (40), 2) := by decide +kernel
theorem d_Disk_lowestFree_5 : decode prog_2_method_14_code 5 = .ok (.if_icmp .ge (19), 3) := by decide +kernel
theorem d_Disk_lowestFree_8 : decode prog_2_method_14_code 8 = .ok (.aload_n 0, 1) := by decide +kernel
theorem d_Disk_lowestFree_9 : decode prog_2_method_14_code 9 = .ok (.iload_n 1, 1) := by decide +kernel
theorem d_Disk_lowestFree_10 : decode prog_2_method_14_code 10 = .ok (.invokevirtual 61, 3) := by decide +kernel
theorem d_Disk_lowestFree_13 : decode prog_2_method_14_code 13 = .ok (.ifCond .eq (5), 3) := by decide +kernel
theorem d_Disk_lowestFree_16 : decode prog_2_method_14_code 16 = .ok (.iload_n 1, 1) := by decide +kernel
theorem d_Disk_lowestFree_17 : decode prog_2_method_14_code 17 = .ok (.ireturn, 1) := by decide +kernel
theorem d_Disk_lowestFree_18 : decode prog_2_method_14_code 18 = .ok (.iinc 1 (1), 3) := by decide +kernel
theorem d_Disk_lowestFree_21 : decode prog_2_method_14_code 21 = .ok (.goto (-19), 3) := by decide +kernel
theorem d_Disk_lowestFree_24 : decode prog_2_method_14_code 24 = .ok (.iconst (-1), 1) := by decide +kernel
theorem d_Disk_lowestFree_25 : decode prog_2_method_14_code 25 = .ok (.ireturn, 1) := by decide +kernel
theorem d_Disk_lowestUnsaidSerial_0 : decode prog_2_method_15_code 0 = .ok (.lconst 0, 1) := by decide +kernel
theorem d_Disk_lowestUnsaidSerial_1 : decode prog_2_method_15_code 1 = .ok (.lstore_n 1, 1) := by decide +kernel
theorem d_Disk_lowestUnsaidSerial_2 : decode prog_2_method_15_code 2 = .ok (.iconst 0, 1) := by decide +kernel
theorem d_Disk_lowestUnsaidSerial_3 : decode prog_2_method_15_code 3 = .ok (.istore_n 3, 1) := by decide +kernel
theorem d_Disk_lowestUnsaidSerial_4 : decode prog_2_method_15_code 4 = .ok (.iload_n 3, 1) := by decide +kernel
theorem d_Disk_lowestUnsaidSerial_5 : decode prog_2_method_15_code 5 = .ok (.bipush (40), 2) := by decide +kernel
theorem d_Disk_lowestUnsaidSerial_7 : decode prog_2_method_15_code 7 = .ok (.if_icmp .ge (28), 3) := by decide +kernel
theorem d_Disk_lowestUnsaidSerial_10 : decode prog_2_method_15_code 10 = .ok (.aload_n 0, 1) := by decide +kernel
theorem d_Disk_lowestUnsaidSerial_11 : decode prog_2_method_15_code 11 = .ok (.iload_n 3, 1) := by decide +kernel
theorem d_Disk_lowestUnsaidSerial_12 : decode prog_2_method_15_code 12 = .ok (.invokevirtual 65, 3) := by decide +kernel
theorem d_Disk_lowestUnsaidSerial_15 : decode prog_2_method_15_code 15 = .ok (.ifCond .eq (14), 3) := by decide +kernel
theorem d_Disk_lowestUnsaidSerial_18 : decode prog_2_method_15_code 18 = .ok (.lload_n 1, 1) := by decide +kernel
theorem d_Disk_lowestUnsaidSerial_19 : decode prog_2_method_15_code 19 = .ok (.lconst 1, 1) := by decide +kernel
theorem d_Disk_lowestUnsaidSerial_20 : decode prog_2_method_15_code 20 = .ok (.aload_n 0, 1) := by decide +kernel
theorem d_Disk_lowestUnsaidSerial_21 : decode prog_2_method_15_code 21 = .ok (.iload_n 3, 1) := by decide +kernel
theorem d_Disk_lowestUnsaidSerial_22 : decode prog_2_method_15_code 22 = .ok (.iconst 0, 1) := by decide +kernel
theorem d_Disk_lowestUnsaidSerial_23 : decode prog_2_method_15_code 23 = .ok (.invokevirtual 57, 3) := by decide +kernel
theorem d_Disk_lowestUnsaidSerial_26 : decode prog_2_method_15_code 26 = .ok (.lshl, 1) := by decide +kernel
theorem d_Disk_lowestUnsaidSerial_27 : decode prog_2_method_15_code 27 = .ok (.lor, 1) := by decide +kernel
theorem d_Disk_lowestUnsaidSerial_28 : decode prog_2_method_15_code 28 = .ok (.lstore_n 1, 1) := by decide +kernel
theorem d_Disk_lowestUnsaidSerial_29 : decode prog_2_method_15_code 29 = .ok (.iinc 3 (1), 3) := by decide +kernel
theorem d_Disk_lowestUnsaidSerial_32 : decode prog_2_method_15_code 32 = .ok (.goto (-28), 3) := by decide +kernel
theorem d_Disk_lowestUnsaidSerial_35 : decode prog_2_method_15_code 35 = .ok (.iconst 3, 1) := by decide +kernel
theorem d_Disk_lowestUnsaidSerial_36 : decode prog_2_method_15_code 36 = .ok (.istore_n 3, 1) := by decide +kernel
theorem d_Disk_lowestUnsaidSerial_37 : decode prog_2_method_15_code 37 = .ok (.iload_n 3, 1) := by decide +kernel
theorem d_Disk_lowestUnsaidSerial_38 : decode prog_2_method_15_code 38 = .ok (.bipush (60), 2) := by decide +kernel
theorem d_Disk_lowestUnsaidSerial_40 : decode prog_2_method_15_code 40 = .ok (.if_icmp .ge (19), 3) := by decide +kernel
theorem d_Disk_lowestUnsaidSerial_43 : decode prog_2_method_15_code 43 = .ok (.lload_n 1, 1) := by decide +kernel
theorem d_Disk_lowestUnsaidSerial_44 : decode prog_2_method_15_code 44 = .ok (.iload_n 3, 1) := by decide +kernel
theorem d_Disk_lowestUnsaidSerial_45 : decode prog_2_method_15_code 45 = .ok (.lshr, 1) := by decide +kernel
theorem d_Disk_lowestUnsaidSerial_46 : decode prog_2_method_15_code 46 = .ok (.lconst 1, 1) := by decide +kernel
theorem d_Disk_lowestUnsaidSerial_47 : decode prog_2_method_15_code 47 = .ok (.land, 1) := by decide +kernel
theorem d_Disk_lowestUnsaidSerial_48 : decode prog_2_method_15_code 48 = .ok (.lconst 1, 1) := by decide +kernel
theorem d_Disk_lowestUnsaidSerial_49 : decode prog_2_method_15_code 49 = .ok (.lcmp, 1) := by decide +kernel
theorem d_Disk_lowestUnsaidSerial_50 : decode prog_2_method_15_code 50 = .ok (.ifCond .ne (9), 3) := by decide +kernel
theorem d_Disk_lowestUnsaidSerial_53 : decode prog_2_method_15_code 53 = .ok (.iinc 3 (1), 3) := by decide +kernel
theorem d_Disk_lowestUnsaidSerial_56 : decode prog_2_method_15_code 56 = .ok (.goto (-19), 3) := by decide +kernel
theorem d_Disk_lowestUnsaidSerial_59 : decode prog_2_method_15_code 59 = .ok (.iload_n 3, 1) := by decide +kernel
theorem d_Disk_lowestUnsaidSerial_60 : decode prog_2_method_15_code 60 = .ok (.ireturn, 1) := by decide +kernel
theorem d_Disk_isDirectory_0 : decode prog_2_method_16_code 0 = .ok (.aload_n 0, 1) := by decide +kernel
theorem d_Disk_isDirectory_1 : decode prog_2_method_16_code 1 = .ok (.iload_n 1, 1) := by decide +kernel
theorem d_Disk_isDirectory_2 : decode prog_2_method_16_code 2 = .ok (.iconst 0, 1) := by decide +kernel
theorem d_Disk_isDirectory_3 : decode prog_2_method_16_code 3 = .ok (.invokevirtual 57, 3) := by decide +kernel
theorem d_Disk_isDirectory_6 : decode prog_2_method_16_code 6 = .ok (.istore_n 2, 1) := by decide +kernel
theorem d_Disk_isDirectory_7 : decode prog_2_method_16_code 7 = .ok (.iload_n 2, 1) := by decide +kernel
theorem d_Disk_isDirectory_8 : decode prog_2_method_16_code 8 = .ok (.iconst 1, 1) := by decide +kernel
theorem d_Disk_isDirectory_9 : decode prog_2_method_16_code 9 = .ok (.if_icmp .eq (18), 3) := by decide +kernel
theorem d_Disk_isDirectory_12 : decode prog_2_method_16_code 12 = .ok (.iload_n 2, 1) := by decide +kernel
theorem d_Disk_isDirectory_13 : decode prog_2_method_16_code 13 = .ok (.iconst 3, 1) := by decide +kernel
theorem d_Disk_isDirectory_14 : decode prog_2_method_16_code 14 = .ok (.if_icmp .lt (17), 3) := by decide +kernel
theorem d_Disk_isDirectory_17 : decode prog_2_method_16_code 17 = .ok (.aload_n 0, 1) := by decide +kernel
theorem d_Disk_isDirectory_18 : decode prog_2_method_16_code 18 = .ok (.iload_n 1, 1) := by decide +kernel
theorem d_Disk_isDirectory_19 : decode prog_2_method_16_code 19 = .ok (.iconst 2, 1) := by decide +kernel
theorem d_Disk_isDirectory_20 : decode prog_2_method_16_code 20 = .ok (.invokevirtual 68, 3) := by decide +kernel
theorem d_Disk_isDirectory_23 : decode prog_2_method_16_code 23 = .ok (.iconst 1, 1) := by decide +kernel
theorem d_Disk_isDirectory_24 : decode prog_2_method_16_code 24 = .ok (.if_icmp .ne (7), 3) := by decide +kernel
theorem d_Disk_isDirectory_27 : decode prog_2_method_16_code 27 = .ok (.iconst 1, 1) := by decide +kernel
theorem d_Disk_isDirectory_28 : decode prog_2_method_16_code 28 = .ok (.goto (4), 3) := by decide +kernel
theorem d_Disk_isDirectory_31 : decode prog_2_method_16_code 31 = .ok (.iconst 0, 1) := by decide +kernel
theorem d_Disk_isDirectory_32 : decode prog_2_method_16_code 32 = .ok (.ireturn, 1) := by decide +kernel
theorem d_Disk_lengthUpTo_0 : decode prog_2_method_17_code 0 = .ok (.aload_n 0, 1) := by decide +kernel
theorem d_Disk_lengthUpTo_1 : decode prog_2_method_17_code 1 = .ok (.iload_n 1, 1) := by decide +kernel
theorem d_Disk_lengthUpTo_2 : decode prog_2_method_17_code 2 = .ok (.iconst 1, 1) := by decide +kernel
theorem d_Disk_lengthUpTo_3 : decode prog_2_method_17_code 3 = .ok (.invokevirtual 57, 3) := by decide +kernel
theorem d_Disk_lengthUpTo_6 : decode prog_2_method_17_code 6 = .ok (.istore_n 2, 1) := by decide +kernel
theorem d_Disk_lengthUpTo_7 : decode prog_2_method_17_code 7 = .ok (.iload_n 2, 1) := by decide +kernel
theorem d_Disk_lengthUpTo_8 : decode prog_2_method_17_code 8 = .ok (.ifCond .ne (7), 3) := by decide +kernel
theorem d_Disk_lengthUpTo_11 : decode prog_2_method_17_code 11 = .ok (.iconst 0, 1) := by decide +kernel
theorem d_Disk_lengthUpTo_12 : decode prog_2_method_17_code 12 = .ok (.goto (16), 3) := by decide +kernel
theorem d_Disk_lengthUpTo_15 : decode prog_2_method_17_code 15 = .ok (.bipush (8), 2) := by decide +kernel
theorem d_Disk_lengthUpTo_17 : decode prog_2_method_17_code 17 = .ok (.iload_n 2, 1) := by decide +kernel
theorem d_Disk_lengthUpTo_18 : decode prog_2_method_17_code 18 = .ok (.iconst 1, 1) := by decide +kernel
theorem d_Disk_lengthUpTo_19 : decode prog_2_method_17_code 19 = .ok (.isub, 1) := by decide +kernel
theorem d_Disk_lengthUpTo_20 : decode prog_2_method_17_code 20 = .ok (.imul, 1) := by decide +kernel
theorem d_Disk_lengthUpTo_21 : decode prog_2_method_17_code 21 = .ok (.aload_n 0, 1) := by decide +kernel
theorem d_Disk_lengthUpTo_22 : decode prog_2_method_17_code 22 = .ok (.iload_n 1, 1) := by decide +kernel
theorem d_Disk_lengthUpTo_23 : decode prog_2_method_17_code 23 = .ok (.iconst 2, 1) := by decide +kernel
theorem d_Disk_lengthUpTo_24 : decode prog_2_method_17_code 24 = .ok (.invokevirtual 57, 3) := by decide +kernel
theorem d_Disk_lengthUpTo_27 : decode prog_2_method_17_code 27 = .ok (.iadd, 1) := by decide +kernel
theorem d_Disk_lengthUpTo_28 : decode prog_2_method_17_code 28 = .ok (.ireturn, 1) := by decide +kernel
theorem d_Disk_entriesIn_0 : decode prog_2_method_18_code 0 = .ok (.aload_n 0, 1) := by decide +kernel
theorem d_Disk_entriesIn_1 : decode prog_2_method_18_code 1 = .ok (.iload_n 1, 1) := by decide +kernel
theorem d_Disk_entriesIn_2 : decode prog_2_method_18_code 2 = .ok (.iconst 1, 1) := by decide +kernel
theorem d_Disk_entriesIn_3 : decode prog_2_method_18_code 3 = .ok (.invokevirtual 57, 3) := by decide +kernel
theorem d_Disk_entriesIn_6 : decode prog_2_method_18_code 6 = .ok (.ifCond .ne (7), 3) := by decide +kernel
theorem d_Disk_entriesIn_9 : decode prog_2_method_18_code 9 = .ok (.iconst 0, 1) := by decide +kernel
theorem d_Disk_entriesIn_10 : decode prog_2_method_18_code 10 = .ok (.goto (11), 3) := by decide +kernel
theorem d_Disk_entriesIn_13 : decode prog_2_method_18_code 13 = .ok (.aload_n 0, 1) := by decide +kernel
theorem d_Disk_entriesIn_14 : decode prog_2_method_18_code 14 = .ok (.iload_n 1, 1) := by decide +kernel
theorem d_Disk_entriesIn_15 : decode prog_2_method_18_code 15 = .ok (.iconst 2, 1) := by decide +kernel
theorem d_Disk_entriesIn_16 : decode prog_2_method_18_code 16 = .ok (.invokevirtual 57, 3) := by decide +kernel
theorem d_Disk_entriesIn_19 : decode prog_2_method_18_code 19 = .ok (.iconst 4, 1) := by decide +kernel
theorem d_Disk_entriesIn_20 : decode prog_2_method_18_code 20 = .ok (.idiv, 1) := by decide +kernel
theorem d_Disk_entriesIn_21 : decode prog_2_method_18_code 21 = .ok (.ireturn, 1) := by decide +kernel
theorem d_Disk_takesEntryBehind_0 : decode prog_2_method_19_code 0 = .ok (.aload_n 0, 1) := by decide +kernel
theorem d_Disk_takesEntryBehind_1 : decode prog_2_method_19_code 1 = .ok (.iload_n 1, 1) := by decide +kernel
theorem d_Disk_takesEntryBehind_2 : decode prog_2_method_19_code 2 = .ok (.iconst 1, 1) := by decide +kernel
theorem d_Disk_takesEntryBehind_3 : decode prog_2_method_19_code 3 = .ok (.invokevirtual 57, 3) := by decide +kernel
theorem d_Disk_takesEntryBehind_6 : decode prog_2_method_19_code 6 = .ok (.ifCond .le (17), 3) := by decide +kernel
theorem d_Disk_takesEntryBehind_9 : decode prog_2_method_19_code 9 = .ok (.aload_n 0, 1) := by decide +kernel
theorem d_Disk_takesEntryBehind_10 : decode prog_2_method_19_code 10 = .ok (.iload_n 1, 1) := by decide +kernel
theorem d_Disk_takesEntryBehind_11 : decode prog_2_method_19_code 11 = .ok (.iconst 2, 1) := by decide +kernel
theorem d_Disk_takesEntryBehind_12 : decode prog_2_method_19_code 12 = .ok (.invokevirtual 57, 3) := by decide +kernel
theorem d_Disk_takesEntryBehind_15 : decode prog_2_method_19_code 15 = .ok (.iconst 4, 1) := by decide +kernel
theorem d_Disk_takesEntryBehind_16 : decode prog_2_method_19_code 16 = .ok (.if_icmp .gt (7), 3) := by decide +kernel
theorem d_Disk_takesEntryBehind_19 : decode prog_2_method_19_code 19 = .ok (.iconst 1, 1) := by decide +kernel
theorem d_Disk_takesEntryBehind_20 : decode prog_2_method_19_code 20 = .ok (.goto (4), 3) := by decide +kernel
theorem d_Disk_takesEntryBehind_23 : decode prog_2_method_19_code 23 = .ok (.iconst 0, 1) := by decide +kernel
theorem d_Disk_takesEntryBehind_24 : decode prog_2_method_19_code 24 = .ok (.ireturn, 1) := by decide +kernel
theorem d_Disk_erase_0 : decode prog_2_method_20_code 0 = .ok (.iconst 0, 1) := by decide +kernel
theorem d_Disk_erase_1 : decode prog_2_method_20_code 1 = .ok (.istore_n 2, 1) := by decide +kernel
theorem d_Disk_erase_2 : decode prog_2_method_20_code 2 = .ok (.iload_n 2, 1) := by decide +kernel
theorem d_Disk_erase_3 : decode prog_2_method_20_code 3 = .ok (.bipush (13), 2) := by decide +kernel
theorem d_Disk_erase_5 : decode prog_2_method_20_code 5 = .ok (.if_icmp .ge (16), 3) := by decide +kernel
theorem d_Disk_erase_8 : decode prog_2_method_20_code 8 = .ok (.aload_n 0, 1) := by decide +kernel
theorem d_Disk_erase_9 : decode prog_2_method_20_code 9 = .ok (.iload_n 1, 1) := by decide +kernel
theorem d_Disk_erase_10 : decode prog_2_method_20_code 10 = .ok (.iload_n 2, 1) := by decide +kernel
theorem d_Disk_erase_11 : decode prog_2_method_20_code 11 = .ok (.iconst 0, 1) := by decide +kernel
theorem d_Disk_erase_12 : decode prog_2_method_20_code 12 = .ok (.invokevirtual 48, 3) := by decide +kernel
theorem d_Disk_erase_15 : decode prog_2_method_20_code 15 = .ok (.iinc 2 (1), 3) := by decide +kernel
theorem d_Disk_erase_18 : decode prog_2_method_20_code 18 = .ok (.goto (-16), 3) := by decide +kernel
theorem d_Disk_erase_21 : decode prog_2_method_20_code 21 = .ok (.aload_n 0, 1) := by decide +kernel
theorem d_Disk_erase_22 : decode prog_2_method_20_code 22 = .ok (.iload_n 1, 1) := by decide +kernel
theorem d_Disk_erase_23 : decode prog_2_method_20_code 23 = .ok (.iconst 3, 1) := by decide +kernel
theorem d_Disk_erase_24 : decode prog_2_method_20_code 24 = .ok (.iconst (-1), 1) := by decide +kernel
theorem d_Disk_erase_25 : decode prog_2_method_20_code 25 = .ok (.invokevirtual 48, 3) := by decide +kernel
theorem d_Disk_erase_28 : decode prog_2_method_20_code 28 = .ok (.aload_n 0, 1) := by decide +kernel
theorem d_Disk_erase_29 : decode prog_2_method_20_code 29 = .ok (.iload_n 1, 1) := by decide +kernel
theorem d_Disk_erase_30 : decode prog_2_method_20_code 30 = .ok (.iconst 4, 1) := by decide +kernel
theorem d_Disk_erase_31 : decode prog_2_method_20_code 31 = .ok (.iconst (-1), 1) := by decide +kernel
theorem d_Disk_erase_32 : decode prog_2_method_20_code 32 = .ok (.invokevirtual 48, 3) := by decide +kernel
theorem d_Disk_erase_35 : decode prog_2_method_20_code 35 = .ok (.return_, 1) := by decide +kernel
theorem d_Disk_makeLeader_0 : decode prog_2_method_21_code 0 = .ok (.aload_n 0, 1) := by decide +kernel
theorem d_Disk_makeLeader_1 : decode prog_2_method_21_code 1 = .ok (.iload_n 1, 1) := by decide +kernel
theorem d_Disk_makeLeader_2 : decode prog_2_method_21_code 2 = .ok (.invokevirtual 36, 3) := by decide +kernel
theorem d_Disk_makeLeader_5 : decode prog_2_method_21_code 5 = .ok (.aload_n 0, 1) := by decide +kernel
theorem d_Disk_makeLeader_6 : decode prog_2_method_21_code 6 = .ok (.iload_n 1, 1) := by decide +kernel
theorem d_Disk_makeLeader_7 : decode prog_2_method_21_code 7 = .ok (.iconst 0, 1) := by decide +kernel
theorem d_Disk_makeLeader_8 : decode prog_2_method_21_code 8 = .ok (.iload_n 2, 1) := by decide +kernel
theorem d_Disk_makeLeader_9 : decode prog_2_method_21_code 9 = .ok (.invokevirtual 48, 3) := by decide +kernel
theorem d_Disk_makeLeader_12 : decode prog_2_method_21_code 12 = .ok (.aload_n 0, 1) := by decide +kernel
theorem d_Disk_makeLeader_13 : decode prog_2_method_21_code 13 = .ok (.iload_n 1, 1) := by decide +kernel
theorem d_Disk_makeLeader_14 : decode prog_2_method_21_code 14 = .ok (.iconst 2, 1) := by decide +kernel
theorem d_Disk_makeLeader_15 : decode prog_2_method_21_code 15 = .ok (.bipush (8), 2) := by decide +kernel
theorem d_Disk_makeLeader_17 : decode prog_2_method_21_code 17 = .ok (.invokevirtual 48, 3) := by decide +kernel
theorem d_Disk_makeLeader_20 : decode prog_2_method_21_code 20 = .ok (.aload_n 0, 1) := by decide +kernel
theorem d_Disk_makeLeader_21 : decode prog_2_method_21_code 21 = .ok (.iload_n 1, 1) := by decide +kernel
theorem d_Disk_makeLeader_22 : decode prog_2_method_21_code 22 = .ok (.iconst 0, 1) := by decide +kernel
theorem d_Disk_makeLeader_23 : decode prog_2_method_21_code 23 = .ok (.iload_n 3, 1) := by decide +kernel
theorem d_Disk_makeLeader_24 : decode prog_2_method_21_code 24 = .ok (.invokevirtual 71, 3) := by decide +kernel
theorem d_Disk_makeLeader_27 : decode prog_2_method_21_code 27 = .ok (.aload_n 0, 1) := by decide +kernel
theorem d_Disk_makeLeader_28 : decode prog_2_method_21_code 28 = .ok (.iload_n 1, 1) := by decide +kernel
theorem d_Disk_makeLeader_29 : decode prog_2_method_21_code 29 = .ok (.iconst 2, 1) := by decide +kernel
theorem d_Disk_makeLeader_30 : decode prog_2_method_21_code 30 = .ok (.iload 4, 2) := by decide +kernel
theorem d_Disk_makeLeader_32 : decode prog_2_method_21_code 32 = .ok (.invokevirtual 51, 3) := by decide +kernel
theorem d_Disk_makeLeader_35 : decode prog_2_method_21_code 35 = .ok (.aload_n 0, 1) := by decide +kernel
theorem d_Disk_makeLeader_36 : decode prog_2_method_21_code 36 = .ok (.iload_n 1, 1) := by decide +kernel
theorem d_Disk_makeLeader_37 : decode prog_2_method_21_code 37 = .ok (.iconst 3, 1) := by decide +kernel
theorem d_Disk_makeLeader_38 : decode prog_2_method_21_code 38 = .ok (.iload_n 1, 1) := by decide +kernel
theorem d_Disk_makeLeader_39 : decode prog_2_method_21_code 39 = .ok (.invokevirtual 51, 3) := by decide +kernel
theorem d_Disk_makeLeader_42 : decode prog_2_method_21_code 42 = .ok (.return_, 1) := by decide +kernel
theorem d_Disk_makePageBehind_0 : decode prog_2_method_22_code 0 = .ok (.aload_n 0, 1) := by decide +kernel
theorem d_Disk_makePageBehind_1 : decode prog_2_method_22_code 1 = .ok (.iload_n 2, 1) := by decide +kernel
theorem d_Disk_makePageBehind_2 : decode prog_2_method_22_code 2 = .ok (.invokevirtual 36, 3) := by decide +kernel
theorem d_Disk_makePageBehind_5 : decode prog_2_method_22_code 5 = .ok (.aload_n 0, 1) := by decide +kernel
theorem d_Disk_makePageBehind_6 : decode prog_2_method_22_code 6 = .ok (.iload_n 2, 1) := by decide +kernel
theorem d_Disk_makePageBehind_7 : decode prog_2_method_22_code 7 = .ok (.iconst 0, 1) := by decide +kernel
theorem d_Disk_makePageBehind_8 : decode prog_2_method_22_code 8 = .ok (.aload_n 0, 1) := by decide +kernel
theorem d_Disk_makePageBehind_9 : decode prog_2_method_22_code 9 = .ok (.iload_n 1, 1) := by decide +kernel
theorem d_Disk_makePageBehind_10 : decode prog_2_method_22_code 10 = .ok (.iconst 0, 1) := by decide +kernel
theorem d_Disk_makePageBehind_11 : decode prog_2_method_22_code 11 = .ok (.invokevirtual 57, 3) := by decide +kernel
theorem d_Disk_makePageBehind_14 : decode prog_2_method_22_code 14 = .ok (.invokevirtual 48, 3) := by decide +kernel
theorem d_Disk_makePageBehind_17 : decode prog_2_method_22_code 17 = .ok (.aload_n 0, 1) := by decide +kernel
theorem d_Disk_makePageBehind_18 : decode prog_2_method_22_code 18 = .ok (.iload_n 2, 1) := by decide +kernel
theorem d_Disk_makePageBehind_19 : decode prog_2_method_22_code 19 = .ok (.iconst 1, 1) := by decide +kernel
theorem d_Disk_makePageBehind_20 : decode prog_2_method_22_code 20 = .ok (.aload_n 0, 1) := by decide +kernel
theorem d_Disk_makePageBehind_21 : decode prog_2_method_22_code 21 = .ok (.iload_n 1, 1) := by decide +kernel
theorem d_Disk_makePageBehind_22 : decode prog_2_method_22_code 22 = .ok (.iconst 1, 1) := by decide +kernel
theorem d_Disk_makePageBehind_23 : decode prog_2_method_22_code 23 = .ok (.invokevirtual 57, 3) := by decide +kernel
theorem d_Disk_makePageBehind_26 : decode prog_2_method_22_code 26 = .ok (.iconst 1, 1) := by decide +kernel
theorem d_Disk_makePageBehind_27 : decode prog_2_method_22_code 27 = .ok (.iadd, 1) := by decide +kernel
theorem d_Disk_makePageBehind_28 : decode prog_2_method_22_code 28 = .ok (.invokevirtual 48, 3) := by decide +kernel
theorem d_Disk_makePageBehind_31 : decode prog_2_method_22_code 31 = .ok (.aload_n 0, 1) := by decide +kernel
theorem d_Disk_makePageBehind_32 : decode prog_2_method_22_code 32 = .ok (.iload_n 2, 1) := by decide +kernel
theorem d_Disk_makePageBehind_33 : decode prog_2_method_22_code 33 = .ok (.iconst 2, 1) := by decide +kernel
theorem d_Disk_makePageBehind_34 : decode prog_2_method_22_code 34 = .ok (.iload_n 3, 1) := by decide +kernel
theorem d_Disk_makePageBehind_35 : decode prog_2_method_22_code 35 = .ok (.invokevirtual 48, 3) := by decide +kernel
theorem d_Disk_makePageBehind_38 : decode prog_2_method_22_code 38 = .ok (.aload_n 0, 1) := by decide +kernel
theorem d_Disk_makePageBehind_39 : decode prog_2_method_22_code 39 = .ok (.iload_n 2, 1) := by decide +kernel
theorem d_Disk_makePageBehind_40 : decode prog_2_method_22_code 40 = .ok (.iconst 4, 1) := by decide +kernel
theorem d_Disk_makePageBehind_41 : decode prog_2_method_22_code 41 = .ok (.iload_n 1, 1) := by decide +kernel
theorem d_Disk_makePageBehind_42 : decode prog_2_method_22_code 42 = .ok (.invokevirtual 48, 3) := by decide +kernel
theorem d_Disk_makePageBehind_45 : decode prog_2_method_22_code 45 = .ok (.return_, 1) := by decide +kernel
theorem d_Disk_endFileAt_0 : decode prog_2_method_23_code 0 = .ok (.aload_n 0, 1) := by decide +kernel
theorem d_Disk_endFileAt_1 : decode prog_2_method_23_code 1 = .ok (.iload_n 1, 1) := by decide +kernel
theorem d_Disk_endFileAt_2 : decode prog_2_method_23_code 2 = .ok (.iconst 3, 1) := by decide +kernel
theorem d_Disk_endFileAt_3 : decode prog_2_method_23_code 3 = .ok (.iconst (-1), 1) := by decide +kernel
theorem d_Disk_endFileAt_4 : decode prog_2_method_23_code 4 = .ok (.invokevirtual 48, 3) := by decide +kernel
theorem d_Disk_endFileAt_7 : decode prog_2_method_23_code 7 = .ok (.aload_n 0, 1) := by decide +kernel
theorem d_Disk_endFileAt_8 : decode prog_2_method_23_code 8 = .ok (.iload_n 1, 1) := by decide +kernel
theorem d_Disk_endFileAt_9 : decode prog_2_method_23_code 9 = .ok (.iconst 1, 1) := by decide +kernel
theorem d_Disk_endFileAt_10 : decode prog_2_method_23_code 10 = .ok (.invokevirtual 57, 3) := by decide +kernel
theorem d_Disk_endFileAt_13 : decode prog_2_method_23_code 13 = .ok (.istore_n 3, 1) := by decide +kernel
theorem d_Disk_endFileAt_14 : decode prog_2_method_23_code 14 = .ok (.iload_n 3, 1) := by decide +kernel
theorem d_Disk_endFileAt_15 : decode prog_2_method_23_code 15 = .ok (.ifCond .ne (4), 3) := by decide +kernel
theorem d_Disk_endFileAt_18 : decode prog_2_method_23_code 18 = .ok (.return_, 1) := by decide +kernel
theorem d_Disk_endFileAt_19 : decode prog_2_method_23_code 19 = .ok (.iload_n 2, 1) := by decide +kernel
theorem d_Disk_endFileAt_20 : decode prog_2_method_23_code 20 = .ok (.bipush (8), 2) := by decide +kernel
theorem d_Disk_endFileAt_22 : decode prog_2_method_23_code 22 = .ok (.iload_n 3, 1) := by decide +kernel
theorem d_Disk_endFileAt_23 : decode prog_2_method_23_code 23 = .ok (.iconst 1, 1) := by decide +kernel
theorem d_Disk_endFileAt_24 : decode prog_2_method_23_code 24 = .ok (.isub, 1) := by decide +kernel
theorem d_Disk_endFileAt_25 : decode prog_2_method_23_code 25 = .ok (.imul, 1) := by decide +kernel
theorem d_Disk_endFileAt_26 : decode prog_2_method_23_code 26 = .ok (.isub, 1) := by decide +kernel
theorem d_Disk_endFileAt_27 : decode prog_2_method_23_code 27 = .ok (.istore 4, 2) := by decide +kernel
theorem d_Disk_endFileAt_29 : decode prog_2_method_23_code 29 = .ok (.aload_n 0, 1) := by decide +kernel
theorem d_Disk_endFileAt_30 : decode prog_2_method_23_code 30 = .ok (.iload_n 1, 1) := by decide +kernel
theorem d_Disk_endFileAt_31 : decode prog_2_method_23_code 31 = .ok (.iconst 2, 1) := by decide +kernel
theorem d_Disk_endFileAt_32 : decode prog_2_method_23_code 32 = .ok (.iload 4, 2) := by decide +kernel
theorem d_Disk_endFileAt_34 : decode prog_2_method_23_code 34 = .ok (.invokevirtual 48, 3) := by decide +kernel
theorem d_Disk_endFileAt_37 : decode prog_2_method_23_code 37 = .ok (.iload 4, 2) := by decide +kernel
theorem d_Disk_endFileAt_39 : decode prog_2_method_23_code 39 = .ok (.istore 5, 2) := by decide +kernel
theorem d_Disk_endFileAt_41 : decode prog_2_method_23_code 41 = .ok (.iload 5, 2) := by decide +kernel
theorem d_Disk_endFileAt_43 : decode prog_2_method_23_code 43 = .ok (.bipush (8), 2) := by decide +kernel
theorem d_Disk_endFileAt_45 : decode prog_2_method_23_code 45 = .ok (.if_icmp .ge (17), 3) := by decide +kernel
theorem d_Disk_endFileAt_48 : decode prog_2_method_23_code 48 = .ok (.aload_n 0, 1) := by decide +kernel
theorem d_Disk_endFileAt_49 : decode prog_2_method_23_code 49 = .ok (.iload_n 1, 1) := by decide +kernel
theorem d_Disk_endFileAt_50 : decode prog_2_method_23_code 50 = .ok (.iload 5, 2) := by decide +kernel
theorem d_Disk_endFileAt_52 : decode prog_2_method_23_code 52 = .ok (.iconst 0, 1) := by decide +kernel
theorem d_Disk_endFileAt_53 : decode prog_2_method_23_code 53 = .ok (.invokevirtual 51, 3) := by decide +kernel
theorem d_Disk_endFileAt_56 : decode prog_2_method_23_code 56 = .ok (.iinc 5 (1), 3) := by decide +kernel
theorem d_Disk_endFileAt_59 : decode prog_2_method_23_code 59 = .ok (.goto (-18), 3) := by decide +kernel
theorem d_Disk_endFileAt_62 : decode prog_2_method_23_code 62 = .ok (.return_, 1) := by decide +kernel
theorem d_Disk_putEntry_0 : decode prog_2_method_24_code 0 = .ok (.aload_n 0, 1) := by decide +kernel
theorem d_Disk_putEntry_1 : decode prog_2_method_24_code 1 = .ok (.iload_n 1, 1) := by decide +kernel
theorem d_Disk_putEntry_2 : decode prog_2_method_24_code 2 = .ok (.iload_n 2, 1) := by decide +kernel
theorem d_Disk_putEntry_3 : decode prog_2_method_24_code 3 = .ok (.aload_n 0, 1) := by decide +kernel
theorem d_Disk_putEntry_4 : decode prog_2_method_24_code 4 = .ok (.iload_n 3, 1) := by decide +kernel
theorem d_Disk_putEntry_5 : decode prog_2_method_24_code 5 = .ok (.iconst 0, 1) := by decide +kernel
theorem d_Disk_putEntry_6 : decode prog_2_method_24_code 6 = .ok (.invokevirtual 74, 3) := by decide +kernel
theorem d_Disk_putEntry_9 : decode prog_2_method_24_code 9 = .ok (.invokevirtual 71, 3) := by decide +kernel
theorem d_Disk_putEntry_12 : decode prog_2_method_24_code 12 = .ok (.aload_n 0, 1) := by decide +kernel
theorem d_Disk_putEntry_13 : decode prog_2_method_24_code 13 = .ok (.iload_n 1, 1) := by decide +kernel
theorem d_Disk_putEntry_14 : decode prog_2_method_24_code 14 = .ok (.iload_n 2, 1) := by decide +kernel
theorem d_Disk_putEntry_15 : decode prog_2_method_24_code 15 = .ok (.iconst 2, 1) := by decide +kernel
theorem d_Disk_putEntry_16 : decode prog_2_method_24_code 16 = .ok (.iadd, 1) := by decide +kernel
theorem d_Disk_putEntry_17 : decode prog_2_method_24_code 17 = .ok (.aload_n 0, 1) := by decide +kernel
theorem d_Disk_putEntry_18 : decode prog_2_method_24_code 18 = .ok (.iload_n 3, 1) := by decide +kernel
theorem d_Disk_putEntry_19 : decode prog_2_method_24_code 19 = .ok (.iconst 0, 1) := by decide +kernel
theorem d_Disk_putEntry_20 : decode prog_2_method_24_code 20 = .ok (.invokevirtual 57, 3) := by decide +kernel
theorem d_Disk_putEntry_23 : decode prog_2_method_24_code 23 = .ok (.invokevirtual 51, 3) := by decide +kernel
theorem d_Disk_putEntry_26 : decode prog_2_method_24_code 26 = .ok (.aload_n 0, 1) := by decide +kernel
theorem d_Disk_putEntry_27 : decode prog_2_method_24_code 27 = .ok (.iload_n 1, 1) := by decide +kernel
theorem d_Disk_putEntry_28 : decode prog_2_method_24_code 28 = .ok (.iload_n 2, 1) := by decide +kernel
theorem d_Disk_putEntry_29 : decode prog_2_method_24_code 29 = .ok (.iconst 3, 1) := by decide +kernel
theorem d_Disk_putEntry_30 : decode prog_2_method_24_code 30 = .ok (.iadd, 1) := by decide +kernel
theorem d_Disk_putEntry_31 : decode prog_2_method_24_code 31 = .ok (.iload_n 3, 1) := by decide +kernel
theorem d_Disk_putEntry_32 : decode prog_2_method_24_code 32 = .ok (.invokevirtual 51, 3) := by decide +kernel
theorem d_Disk_putEntry_35 : decode prog_2_method_24_code 35 = .ok (.return_, 1) := by decide +kernel
theorem d_Disk_makeHole_0 : decode prog_2_method_25_code 0 = .ok (.iconst 0, 1) := by decide +kernel
theorem d_Disk_makeHole_1 : decode prog_2_method_25_code 1 = .ok (.istore_n 3, 1) := by decide +kernel
theorem d_Disk_makeHole_2 : decode prog_2_method_25_code 2 = .ok (.iload_n 3, 1) := by decide +kernel
theorem d_Disk_makeHole_3 : decode prog_2_method_25_code 3 = .ok (.iconst 4, 1) := by decide +kernel
theorem d_Disk_makeHole_4 : decode prog_2_method_25_code 4 = .ok (.if_icmp .ge (18), 3) := by decide +kernel
theorem d_Disk_makeHole_7 : decode prog_2_method_25_code 7 = .ok (.aload_n 0, 1) := by decide +kernel
theorem d_Disk_makeHole_8 : decode prog_2_method_25_code 8 = .ok (.iload_n 1, 1) := by decide +kernel
theorem d_Disk_makeHole_9 : decode prog_2_method_25_code 9 = .ok (.iload_n 2, 1) := by decide +kernel
theorem d_Disk_makeHole_10 : decode prog_2_method_25_code 10 = .ok (.iload_n 3, 1) := by decide +kernel
theorem d_Disk_makeHole_11 : decode prog_2_method_25_code 11 = .ok (.iadd, 1) := by decide +kernel
theorem d_Disk_makeHole_12 : decode prog_2_method_25_code 12 = .ok (.iconst 0, 1) := by decide +kernel
theorem d_Disk_makeHole_13 : decode prog_2_method_25_code 13 = .ok (.invokevirtual 51, 3) := by decide +kernel
theorem d_Disk_makeHole_16 : decode prog_2_method_25_code 16 = .ok (.iinc 3 (1), 3) := by decide +kernel
theorem d_Disk_makeHole_19 : decode prog_2_method_25_code 19 = .ok (.goto (-17), 3) := by decide +kernel
theorem d_Disk_makeHole_22 : decode prog_2_method_25_code 22 = .ok (.return_, 1) := by decide +kernel
theorem d_Disk_setMapBits_0 : decode prog_2_method_26_code 0 = .ok (.iconst 0, 1) := by decide +kernel
theorem d_Disk_setMapBits_1 : decode prog_2_method_26_code 1 = .ok (.istore_n 2, 1) := by decide +kernel
theorem d_Disk_setMapBits_2 : decode prog_2_method_26_code 2 = .ok (.iload_n 2, 1) := by decide +kernel
theorem d_Disk_setMapBits_3 : decode prog_2_method_26_code 3 = .ok (.iconst 5, 1) := by decide +kernel
theorem d_Disk_setMapBits_4 : decode prog_2_method_26_code 4 = .ok (.if_icmp .ge (59), 3) := by decide +kernel
theorem d_Disk_setMapBits_7 : decode prog_2_method_26_code 7 = .ok (.iconst 0, 1) := by decide +kernel
theorem d_Disk_setMapBits_8 : decode prog_2_method_26_code 8 = .ok (.istore_n 3, 1) := by decide +kernel
theorem d_Disk_setMapBits_9 : decode prog_2_method_26_code 9 = .ok (.iconst 0, 1) := by decide +kernel
theorem d_Disk_setMapBits_10 : decode prog_2_method_26_code 10 = .ok (.istore 4, 2) := by decide +kernel
theorem d_Disk_setMapBits_12 : decode prog_2_method_26_code 12 = .ok (.iload 4, 2) := by decide +kernel
theorem d_Disk_setMapBits_14 : decode prog_2_method_26_code 14 = .ok (.bipush (8), 2) := by decide +kernel
theorem d_Disk_setMapBits_16 : decode prog_2_method_26_code 16 = .ok (.if_icmp .ge (34), 3) := by decide +kernel
theorem d_Disk_setMapBits_19 : decode prog_2_method_26_code 19 = .ok (.iload_n 3, 1) := by decide +kernel
theorem d_Disk_setMapBits_20 : decode prog_2_method_26_code 20 = .ok (.aload_n 0, 1) := by decide +kernel
theorem d_Disk_setMapBits_21 : decode prog_2_method_26_code 21 = .ok (.bipush (8), 2) := by decide +kernel
theorem d_Disk_setMapBits_23 : decode prog_2_method_26_code 23 = .ok (.iload_n 2, 1) := by decide +kernel
theorem d_Disk_setMapBits_24 : decode prog_2_method_26_code 24 = .ok (.imul, 1) := by decide +kernel
theorem d_Disk_setMapBits_25 : decode prog_2_method_26_code 25 = .ok (.iload 4, 2) := by decide +kernel
theorem d_Disk_setMapBits_27 : decode prog_2_method_26_code 27 = .ok (.iadd, 1) := by decide +kernel
theorem d_Disk_setMapBits_28 : decode prog_2_method_26_code 28 = .ok (.invokevirtual 61, 3) := by decide +kernel
theorem d_Disk_setMapBits_31 : decode prog_2_method_26_code 31 = .ok (.ifCond .eq (10), 3) := by decide +kernel
theorem d_Disk_setMapBits_34 : decode prog_2_method_26_code 34 = .ok (.iconst 1, 1) := by decide +kernel
theorem d_Disk_setMapBits_35 : decode prog_2_method_26_code 35 = .ok (.iload 4, 2) := by decide +kernel
theorem d_Disk_setMapBits_37 : decode prog_2_method_26_code 37 = .ok (.ishl, 1) := by decide +kernel
theorem d_Disk_setMapBits_38 : decode prog_2_method_26_code 38 = .ok (.goto (4), 3) := by decide +kernel
theorem d_Disk_setMapBits_41 : decode prog_2_method_26_code 41 = .ok (.iconst 0, 1) := by decide +kernel
theorem d_Disk_setMapBits_42 : decode prog_2_method_26_code 42 = .ok (.ior, 1) := by decide +kernel
theorem d_Disk_setMapBits_43 : decode prog_2_method_26_code 43 = .ok (.istore_n 3, 1) := by decide +kernel
theorem d_Disk_setMapBits_44 : decode prog_2_method_26_code 44 = .ok (.iinc 4 (1), 3) := by decide +kernel
theorem d_Disk_setMapBits_47 : decode prog_2_method_26_code 47 = .ok (.goto (-35), 3) := by decide +kernel
theorem d_Disk_setMapBits_50 : decode prog_2_method_26_code 50 = .ok (.aload_n 0, 1) := by decide +kernel
theorem d_Disk_setMapBits_51 : decode prog_2_method_26_code 51 = .ok (.iload_n 1, 1) := by decide +kernel
theorem d_Disk_setMapBits_52 : decode prog_2_method_26_code 52 = .ok (.iload_n 2, 1) := by decide +kernel
theorem d_Disk_setMapBits_53 : decode prog_2_method_26_code 53 = .ok (.iload_n 3, 1) := by decide +kernel
theorem d_Disk_setMapBits_54 : decode prog_2_method_26_code 54 = .ok (.invokevirtual 51, 3) := by decide +kernel
theorem d_Disk_setMapBits_57 : decode prog_2_method_26_code 57 = .ok (.iinc 2 (1), 3) := by decide +kernel
theorem d_Disk_setMapBits_60 : decode prog_2_method_26_code 60 = .ok (.goto (-58), 3) := by decide +kernel
theorem d_Disk_setMapBits_63 : decode prog_2_method_26_code 63 = .ok (.return_, 1) := by decide +kernel
theorem d_Disk_makeUnreadable_0 : decode prog_2_method_27_code 0 = .ok (.aload_n 0, 1) := by decide +kernel
theorem d_Disk_makeUnreadable_1 : decode prog_2_method_27_code 1 = .ok (.iload_n 1, 1) := by decide +kernel
theorem d_Disk_makeUnreadable_2 : decode prog_2_method_27_code 2 = .ok (.invokevirtual 77, 3) := by decide +kernel
theorem d_Disk_makeUnreadable_5 : decode prog_2_method_27_code 5 = .ok (.ifCond .eq (10), 3) := by decide +kernel
theorem d_Disk_makeUnreadable_8 : decode prog_2_method_27_code 8 = .ok (.aload_n 0, 1) := by decide +kernel
theorem d_Disk_makeUnreadable_9 : decode prog_2_method_27_code 9 = .ok (.getfield 18, 3) := by decide +kernel
theorem d_Disk_makeUnreadable_12 : decode prog_2_method_27_code 12 = .ok (.iload_n 1, 1) := by decide +kernel
theorem d_Disk_makeUnreadable_13 : decode prog_2_method_27_code 13 = .ok (.iconst 1, 1) := by decide +kernel
theorem d_Disk_makeUnreadable_14 : decode prog_2_method_27_code 14 = .ok (.bastore, 1) := by decide +kernel
theorem d_Disk_makeUnreadable_15 : decode prog_2_method_27_code 15 = .ok (.return_, 1) := by decide +kernel
theorem d_Disk_copySector_0 : decode prog_2_method_28_code 0 = .ok (.iconst 0, 1) := by decide +kernel
theorem d_Disk_copySector_1 : decode prog_2_method_28_code 1 = .ok (.istore_n 3, 1) := by decide +kernel
theorem d_Disk_copySector_2 : decode prog_2_method_28_code 2 = .ok (.iload_n 3, 1) := by decide +kernel
theorem d_Disk_copySector_3 : decode prog_2_method_28_code 3 = .ok (.bipush (13), 2) := by decide +kernel
theorem d_Disk_copySector_5 : decode prog_2_method_28_code 5 = .ok (.if_icmp .ge (21), 3) := by decide +kernel
theorem d_Disk_copySector_8 : decode prog_2_method_28_code 8 = .ok (.aload_n 0, 1) := by decide +kernel
theorem d_Disk_copySector_9 : decode prog_2_method_28_code 9 = .ok (.iload_n 2, 1) := by decide +kernel
theorem d_Disk_copySector_10 : decode prog_2_method_28_code 10 = .ok (.iload_n 3, 1) := by decide +kernel
theorem d_Disk_copySector_11 : decode prog_2_method_28_code 11 = .ok (.aload_n 0, 1) := by decide +kernel
theorem d_Disk_copySector_12 : decode prog_2_method_28_code 12 = .ok (.iload_n 1, 1) := by decide +kernel
theorem d_Disk_copySector_13 : decode prog_2_method_28_code 13 = .ok (.iload_n 3, 1) := by decide +kernel
theorem d_Disk_copySector_14 : decode prog_2_method_28_code 14 = .ok (.invokevirtual 57, 3) := by decide +kernel
theorem d_Disk_copySector_17 : decode prog_2_method_28_code 17 = .ok (.invokevirtual 48, 3) := by decide +kernel
theorem d_Disk_copySector_20 : decode prog_2_method_28_code 20 = .ok (.iinc 3 (1), 3) := by decide +kernel
theorem d_Disk_copySector_23 : decode prog_2_method_28_code 23 = .ok (.goto (-21), 3) := by decide +kernel
theorem d_Disk_copySector_26 : decode prog_2_method_28_code 26 = .ok (.return_, 1) := by decide +kernel
theorem d_Disk_countMiss_0 : decode prog_2_method_29_code 0 = .ok (.aload_n 0, 1) := by decide +kernel
theorem d_Disk_countMiss_1 : decode prog_2_method_29_code 1 = .ok (.dup, 1) := by decide +kernel
theorem d_Disk_countMiss_2 : decode prog_2_method_29_code 2 = .ok (.getfield 22, 3) := by decide +kernel
theorem d_Disk_countMiss_5 : decode prog_2_method_29_code 5 = .ok (.iconst 1, 1) := by decide +kernel
theorem d_Disk_countMiss_6 : decode prog_2_method_29_code 6 = .ok (.iadd, 1) := by decide +kernel
theorem d_Disk_countMiss_7 : decode prog_2_method_29_code 7 = .ok (.putfield 22, 3) := by decide +kernel
theorem d_Disk_countMiss_10 : decode prog_2_method_29_code 10 = .ok (.return_, 1) := by decide +kernel
theorem d_Disk_missesCounted_0 : decode prog_2_method_30_code 0 = .ok (.aload_n 0, 1) := by decide +kernel
theorem d_Disk_missesCounted_1 : decode prog_2_method_30_code 1 = .ok (.getfield 22, 3) := by decide +kernel
theorem d_Disk_missesCounted_4 : decode prog_2_method_30_code 4 = .ok (.ireturn, 1) := by decide +kernel
theorem d_Disk_writesCounted_0 : decode prog_2_method_31_code 0 = .ok (.aload_n 0, 1) := by decide +kernel
theorem d_Disk_writesCounted_1 : decode prog_2_method_31_code 1 = .ok (.getfield 26, 3) := by decide +kernel
theorem d_Disk_writesCounted_4 : decode prog_2_method_31_code 4 = .ok (.ireturn, 1) := by decide +kernel
theorem d_Disk_countFree_0 : decode prog_2_method_32_code 0 = .ok (.iconst 0, 1) := by decide +kernel
theorem d_Disk_countFree_1 : decode prog_2_method_32_code 1 = .ok (.istore_n 1, 1) := by decide +kernel
theorem d_Disk_countFree_2 : decode prog_2_method_32_code 2 = .ok (.iconst 0, 1) := by decide +kernel
theorem d_Disk_countFree_3 : decode prog_2_method_32_code 3 = .ok (.istore_n 2, 1) := by decide +kernel
theorem d_Disk_countFree_4 : decode prog_2_method_32_code 4 = .ok (.iload_n 2, 1) := by decide +kernel
theorem d_Disk_countFree_5 : decode prog_2_method_32_code 5 = .ok (.bipush (40), 2) := by decide +kernel
theorem d_Disk_countFree_7 : decode prog_2_method_32_code 7 = .ok (.if_icmp .ge (25), 3) := by decide +kernel
theorem d_Disk_countFree_10 : decode prog_2_method_32_code 10 = .ok (.iload_n 1, 1) := by decide +kernel
theorem d_Disk_countFree_11 : decode prog_2_method_32_code 11 = .ok (.aload_n 0, 1) := by decide +kernel
theorem d_Disk_countFree_12 : decode prog_2_method_32_code 12 = .ok (.iload_n 2, 1) := by decide +kernel
theorem d_Disk_countFree_13 : decode prog_2_method_32_code 13 = .ok (.invokevirtual 61, 3) := by decide +kernel
theorem d_Disk_countFree_16 : decode prog_2_method_32_code 16 = .ok (.ifCond .eq (7), 3) := by decide +kernel
theorem d_Disk_countFree_19 : decode prog_2_method_32_code 19 = .ok (.iconst 1, 1) := by decide +kernel
theorem d_Disk_countFree_20 : decode prog_2_method_32_code 20 = .ok (.goto (4), 3) := by decide +kernel
theorem d_Disk_countFree_23 : decode prog_2_method_32_code 23 = .ok (.iconst 0, 1) := by decide +kernel
theorem d_Disk_countFree_24 : decode prog_2_method_32_code 24 = .ok (.iadd, 1) := by decide +kernel
theorem d_Disk_countFree_25 : decode prog_2_method_32_code 25 = .ok (.istore_n 1, 1) := by decide +kernel
theorem d_Disk_countFree_26 : decode prog_2_method_32_code 26 = .ok (.iinc 2 (1), 3) := by decide +kernel
theorem d_Disk_countFree_29 : decode prog_2_method_32_code 29 = .ok (.goto (-25), 3) := by decide +kernel
theorem d_Disk_countFree_32 : decode prog_2_method_32_code 32 = .ok (.iload_n 1, 1) := by decide +kernel
theorem d_Disk_countFree_33 : decode prog_2_method_32_code 33 = .ok (.ireturn, 1) := by decide +kernel
theorem d_Disk_countUnreadable_0 : decode prog_2_method_33_code 0 = .ok (.iconst 0, 1) := by decide +kernel
theorem d_Disk_countUnreadable_1 : decode prog_2_method_33_code 1 = .ok (.istore_n 1, 1) := by decide +kernel
theorem d_Disk_countUnreadable_2 : decode prog_2_method_33_code 2 = .ok (.iconst 0, 1) := by decide +kernel
theorem d_Disk_countUnreadable_3 : decode prog_2_method_33_code 3 = .ok (.istore_n 2, 1) := by decide +kernel
theorem d_Disk_countUnreadable_4 : decode prog_2_method_33_code 4 = .ok (.iload_n 2, 1) := by decide +kernel
theorem d_Disk_countUnreadable_5 : decode prog_2_method_33_code 5 = .ok (.bipush (40), 2) := by decide +kernel
theorem d_Disk_countUnreadable_7 : decode prog_2_method_33_code 7 = .ok (.if_icmp .ge (26), 3) := by decide +kernel
theorem d_Disk_countUnreadable_10 : decode prog_2_method_33_code 10 = .ok (.iload_n 1, 1) := by decide +kernel
theorem d_Disk_countUnreadable_11 : decode prog_2_method_33_code 11 = .ok (.aload_n 0, 1) := by decide +kernel
theorem d_Disk_countUnreadable_12 : decode prog_2_method_33_code 12 = .ok (.getfield 18, 3) := by decide +kernel
theorem d_Disk_countUnreadable_15 : decode prog_2_method_33_code 15 = .ok (.iload_n 2, 1) := by decide +kernel
theorem d_Disk_countUnreadable_16 : decode prog_2_method_33_code 16 = .ok (.baload, 1) := by decide +kernel
theorem d_Disk_countUnreadable_17 : decode prog_2_method_33_code 17 = .ok (.ifCond .eq (7), 3) := by decide +kernel
theorem d_Disk_countUnreadable_20 : decode prog_2_method_33_code 20 = .ok (.iconst 1, 1) := by decide +kernel
theorem d_Disk_countUnreadable_21 : decode prog_2_method_33_code 21 = .ok (.goto (4), 3) := by decide +kernel
theorem d_Disk_countUnreadable_24 : decode prog_2_method_33_code 24 = .ok (.iconst 0, 1) := by decide +kernel
theorem d_Disk_countUnreadable_25 : decode prog_2_method_33_code 25 = .ok (.iadd, 1) := by decide +kernel
theorem d_Disk_countUnreadable_26 : decode prog_2_method_33_code 26 = .ok (.istore_n 1, 1) := by decide +kernel
theorem d_Disk_countUnreadable_27 : decode prog_2_method_33_code 27 = .ok (.iinc 2 (1), 3) := by decide +kernel
theorem d_Disk_countUnreadable_30 : decode prog_2_method_33_code 30 = .ok (.goto (-26), 3) := by decide +kernel
theorem d_Disk_countUnreadable_33 : decode prog_2_method_33_code 33 = .ok (.iload_n 1, 1) := by decide +kernel
theorem d_Disk_countUnreadable_34 : decode prog_2_method_33_code 34 = .ok (.ireturn, 1) := by decide +kernel
theorem d_Disk_hasPower_0 : decode prog_2_method_34_code 0 = .ok (.aload_n 0, 1) := by decide +kernel
theorem d_Disk_hasPower_1 : decode prog_2_method_34_code 1 = .ok (.getfield 32, 3) := by decide +kernel
theorem d_Disk_hasPower_4 : decode prog_2_method_34_code 4 = .ok (.ireturn, 1) := by decide +kernel
theorem d_Disk_limitWrites_0 : decode prog_2_method_35_code 0 = .ok (.aload_n 0, 1) := by decide +kernel
theorem d_Disk_limitWrites_1 : decode prog_2_method_35_code 1 = .ok (.iload_n 1, 1) := by decide +kernel
theorem d_Disk_limitWrites_2 : decode prog_2_method_35_code 2 = .ok (.putfield 29, 3) := by decide +kernel
theorem d_Disk_limitWrites_5 : decode prog_2_method_35_code 5 = .ok (.return_, 1) := by decide +kernel
theorem d_Disk_restorePower_0 : decode prog_2_method_36_code 0 = .ok (.aload_n 0, 1) := by decide +kernel
theorem d_Disk_restorePower_1 : decode prog_2_method_36_code 1 = .ok (.iconst 1, 1) := by decide +kernel
theorem d_Disk_restorePower_2 : decode prog_2_method_36_code 2 = .ok (.putfield 32, 3) := by decide +kernel
theorem d_Disk_restorePower_5 : decode prog_2_method_36_code 5 = .ok (.aload_n 0, 1) := by decide +kernel
theorem d_Disk_restorePower_6 : decode prog_2_method_36_code 6 = .ok (.iconst (-1), 1) := by decide +kernel
theorem d_Disk_restorePower_7 : decode prog_2_method_36_code 7 = .ok (.putfield 29, 3) := by decide +kernel
theorem d_Disk_restorePower_10 : decode prog_2_method_36_code 10 = .ok (.return_, 1) := by decide +kernel
theorem d_Disk_spendWrite_0 : decode prog_2_method_37_code 0 = .ok (.aload_n 0, 1) := by decide +kernel
theorem d_Disk_spendWrite_1 : decode prog_2_method_37_code 1 = .ok (.getfield 29, 3) := by decide +kernel
theorem d_Disk_spendWrite_4 : decode prog_2_method_37_code 4 = .ok (.ifCond .ne (16), 3) := by decide +kernel
theorem d_Disk_spendWrite_7 : decode prog_2_method_37_code 7 = .ok (.aload_n 0, 1) := by decide +kernel
theorem d_Disk_spendWrite_8 : decode prog_2_method_37_code 8 = .ok (.iconst 0, 1) := by decide +kernel
theorem d_Disk_spendWrite_9 : decode prog_2_method_37_code 9 = .ok (.putfield 32, 3) := by decide +kernel
theorem d_Disk_spendWrite_12 : decode prog_2_method_37_code 12 = .ok (.new 80, 3) := by decide +kernel
theorem d_Disk_spendWrite_15 : decode prog_2_method_37_code 15 = .ok (.dup, 1) := by decide +kernel
theorem d_Disk_spendWrite_16 : decode prog_2_method_37_code 16 = .ok (.invokespecial 82, 3) := by decide +kernel
theorem d_Disk_spendWrite_19 : decode prog_2_method_37_code 19 = .ok (.athrow, 1) := by decide +kernel
theorem d_Disk_spendWrite_20 : decode prog_2_method_37_code 20 = .ok (.aload_n 0, 1) := by decide +kernel
theorem d_Disk_spendWrite_21 : decode prog_2_method_37_code 21 = .ok (.getfield 29, 3) := by decide +kernel
theorem d_Disk_spendWrite_24 : decode prog_2_method_37_code 24 = .ok (.ifCond .le (13), 3) := by decide +kernel
theorem d_Disk_spendWrite_27 : decode prog_2_method_37_code 27 = .ok (.aload_n 0, 1) := by decide +kernel
theorem d_Disk_spendWrite_28 : decode prog_2_method_37_code 28 = .ok (.dup, 1) := by decide +kernel
theorem d_Disk_spendWrite_29 : decode prog_2_method_37_code 29 = .ok (.getfield 29, 3) := by decide +kernel
theorem d_Disk_spendWrite_32 : decode prog_2_method_37_code 32 = .ok (.iconst 1, 1) := by decide +kernel
theorem d_Disk_spendWrite_33 : decode prog_2_method_37_code 33 = .ok (.isub, 1) := by decide +kernel
theorem d_Disk_spendWrite_34 : decode prog_2_method_37_code 34 = .ok (.putfield 29, 3) := by decide +kernel
theorem d_Disk_spendWrite_37 : decode prog_2_method_37_code 37 = .ok (.aload_n 0, 1) := by decide +kernel
theorem d_Disk_spendWrite_38 : decode prog_2_method_37_code 38 = .ok (.dup, 1) := by decide +kernel
theorem d_Disk_spendWrite_39 : decode prog_2_method_37_code 39 = .ok (.getfield 26, 3) := by decide +kernel
theorem d_Disk_spendWrite_42 : decode prog_2_method_37_code 42 = .ok (.iconst 1, 1) := by decide +kernel
theorem d_Disk_spendWrite_43 : decode prog_2_method_37_code 43 = .ok (.iadd, 1) := by decide +kernel
theorem d_Disk_spendWrite_44 : decode prog_2_method_37_code 44 = .ok (.putfield 26, 3) := by decide +kernel
theorem d_Disk_spendWrite_47 : decode prog_2_method_37_code 47 = .ok (.return_, 1) := by decide +kernel
theorem d_Disk_keepEarlier_0 : decode prog_2_method_38_code 0 = .ok (.aload_n 0, 1) := by decide +kernel
theorem d_Disk_keepEarlier_1 : decode prog_2_method_38_code 1 = .ok (.getfield 9, 3) := by decide +kernel
theorem d_Disk_keepEarlier_4 : decode prog_2_method_38_code 4 = .ok (.iconst 0, 1) := by decide +kernel
theorem d_Disk_keepEarlier_5 : decode prog_2_method_38_code 5 = .ok (.aload_n 0, 1) := by decide +kernel
theorem d_Disk_keepEarlier_6 : decode prog_2_method_38_code 6 = .ok (.getfield 15, 3) := by decide +kernel
theorem d_Disk_keepEarlier_9 : decode prog_2_method_38_code 9 = .ok (.iconst 0, 1) := by decide +kernel
theorem d_Disk_keepEarlier_10 : decode prog_2_method_38_code 10 = .ok (.sipush (520), 3) := by decide +kernel
theorem d_Disk_keepEarlier_13 : decode prog_2_method_38_code 13 = .ok (.invokestatic 83, 3) := by decide +kernel
theorem d_Disk_keepEarlier_16 : decode prog_2_method_38_code 16 = .ok (.return_, 1) := by decide +kernel
theorem d_Disk_countChanged_0 : decode prog_2_method_39_code 0 = .ok (.iconst 0, 1) := by decide +kernel
theorem d_Disk_countChanged_1 : decode prog_2_method_39_code 1 = .ok (.istore_n 1, 1) := by decide +kernel
theorem d_Disk_countChanged_2 : decode prog_2_method_39_code 2 = .ok (.iconst 0, 1) := by decide +kernel
theorem d_Disk_countChanged_3 : decode prog_2_method_39_code 3 = .ok (.istore_n 2, 1) := by decide +kernel
theorem d_Disk_countChanged_4 : decode prog_2_method_39_code 4 = .ok (.iload_n 2, 1) := by decide +kernel
theorem d_Disk_countChanged_5 : decode prog_2_method_39_code 5 = .ok (.bipush (40), 2) := by decide +kernel
theorem d_Disk_countChanged_7 : decode prog_2_method_39_code 7 = .ok (.if_icmp .ge (25), 3) := by decide +kernel
theorem d_Disk_countChanged_10 : decode prog_2_method_39_code 10 = .ok (.iload_n 1, 1) := by decide +kernel
theorem d_Disk_countChanged_11 : decode prog_2_method_39_code 11 = .ok (.aload_n 0, 1) := by decide +kernel
theorem d_Disk_countChanged_12 : decode prog_2_method_39_code 12 = .ok (.iload_n 2, 1) := by decide +kernel
theorem d_Disk_countChanged_13 : decode prog_2_method_39_code 13 = .ok (.invokevirtual 89, 3) := by decide +kernel
theorem d_Disk_countChanged_16 : decode prog_2_method_39_code 16 = .ok (.ifCond .eq (7), 3) := by decide +kernel
theorem d_Disk_countChanged_19 : decode prog_2_method_39_code 19 = .ok (.iconst 1, 1) := by decide +kernel
theorem d_Disk_countChanged_20 : decode prog_2_method_39_code 20 = .ok (.goto (4), 3) := by decide +kernel
theorem d_Disk_countChanged_23 : decode prog_2_method_39_code 23 = .ok (.iconst 0, 1) := by decide +kernel
theorem d_Disk_countChanged_24 : decode prog_2_method_39_code 24 = .ok (.iadd, 1) := by decide +kernel
theorem d_Disk_countChanged_25 : decode prog_2_method_39_code 25 = .ok (.istore_n 1, 1) := by decide +kernel
theorem d_Disk_countChanged_26 : decode prog_2_method_39_code 26 = .ok (.iinc 2 (1), 3) := by decide +kernel
theorem d_Disk_countChanged_29 : decode prog_2_method_39_code 29 = .ok (.goto (-25), 3) := by decide +kernel
theorem d_Disk_countChanged_32 : decode prog_2_method_39_code 32 = .ok (.aload_n 0, 1) := by decide +kernel
theorem d_Disk_countChanged_33 : decode prog_2_method_39_code 33 = .ok (.dup, 1) := by decide +kernel
theorem d_Disk_countChanged_34 : decode prog_2_method_39_code 34 = .ok (.getfield 26, 3) := by decide +kernel
theorem d_Disk_countChanged_37 : decode prog_2_method_39_code 37 = .ok (.iload_n 1, 1) := by decide +kernel
theorem d_Disk_countChanged_38 : decode prog_2_method_39_code 38 = .ok (.iadd, 1) := by decide +kernel
theorem d_Disk_countChanged_39 : decode prog_2_method_39_code 39 = .ok (.putfield 26, 3) := by decide +kernel
theorem d_Disk_countChanged_42 : decode prog_2_method_39_code 42 = .ok (.iload_n 1, 1) := by decide +kernel
theorem d_Disk_countChanged_43 : decode prog_2_method_39_code 43 = .ok (.ireturn, 1) := by decide +kernel
theorem d_Disk_hasChanged_0 : decode prog_2_method_40_code 0 = .ok (.iconst 0, 1) := by decide +kernel
theorem d_Disk_hasChanged_1 : decode prog_2_method_40_code 1 = .ok (.istore_n 2, 1) := by decide +kernel
theorem d_Disk_hasChanged_2 : decode prog_2_method_40_code 2 = .ok (.iload_n 2, 1) := by decide +kernel
theorem d_Disk_hasChanged_3 : decode prog_2_method_40_code 3 = .ok (.bipush (13), 2) := by decide +kernel
theorem d_Disk_hasChanged_5 : decode prog_2_method_40_code 5 = .ok (.if_icmp .ge (36), 3) := by decide +kernel
theorem d_Disk_hasChanged_8 : decode prog_2_method_40_code 8 = .ok (.aload_n 0, 1) := by decide +kernel
theorem d_Disk_hasChanged_9 : decode prog_2_method_40_code 9 = .ok (.getfield 9, 3) := by decide +kernel
theorem d_Disk_hasChanged_12 : decode prog_2_method_40_code 12 = .ok (.iload_n 1, 1) := by decide +kernel
theorem d_Disk_hasChanged_13 : decode prog_2_method_40_code 13 = .ok (.bipush (13), 2) := by decide +kernel
theorem d_Disk_hasChanged_15 : decode prog_2_method_40_code 15 = .ok (.imul, 1) := by decide +kernel
theorem d_Disk_hasChanged_16 : decode prog_2_method_40_code 16 = .ok (.iload_n 2, 1) := by decide +kernel
theorem d_Disk_hasChanged_17 : decode prog_2_method_40_code 17 = .ok (.iadd, 1) := by decide +kernel
theorem d_Disk_hasChanged_18 : decode prog_2_method_40_code 18 = .ok (.iaload, 1) := by decide +kernel
theorem d_Disk_hasChanged_19 : decode prog_2_method_40_code 19 = .ok (.aload_n 0, 1) := by decide +kernel
theorem d_Disk_hasChanged_20 : decode prog_2_method_40_code 20 = .ok (.getfield 15, 3) := by decide +kernel
theorem d_Disk_hasChanged_23 : decode prog_2_method_40_code 23 = .ok (.iload_n 1, 1) := by decide +kernel
theorem d_Disk_hasChanged_24 : decode prog_2_method_40_code 24 = .ok (.bipush (13), 2) := by decide +kernel
theorem d_Disk_hasChanged_26 : decode prog_2_method_40_code 26 = .ok (.imul, 1) := by decide +kernel
theorem d_Disk_hasChanged_27 : decode prog_2_method_40_code 27 = .ok (.iload_n 2, 1) := by decide +kernel
theorem d_Disk_hasChanged_28 : decode prog_2_method_40_code 28 = .ok (.iadd, 1) := by decide +kernel
theorem d_Disk_hasChanged_29 : decode prog_2_method_40_code 29 = .ok (.iaload, 1) := by decide +kernel
theorem d_Disk_hasChanged_30 : decode prog_2_method_40_code 30 = .ok (.if_icmp .eq (5), 3) := by decide +kernel
theorem d_Disk_hasChanged_33 : decode prog_2_method_40_code 33 = .ok (.iconst 1, 1) := by decide +kernel
theorem d_Disk_hasChanged_34 : decode prog_2_method_40_code 34 = .ok (.ireturn, 1) := by decide +kernel
theorem d_Disk_hasChanged_35 : decode prog_2_method_40_code 35 = .ok (.iinc 2 (1), 3) := by decide +kernel
theorem d_Disk_hasChanged_38 : decode prog_2_method_40_code 38 = .ok (.goto (-36), 3) := by decide +kernel
theorem d_Disk_hasChanged_41 : decode prog_2_method_40_code 41 = .ok (.iconst 0, 1) := by decide +kernel
theorem d_Disk_hasChanged_42 : decode prog_2_method_40_code 42 = .ok (.ireturn, 1) := by decide +kernel
theorem d_Finder_init_0 : decode prog_4_method_1_code 0 = .ok (.aload_n 0, 1) := by decide +kernel
theorem d_Finder_init_1 : decode prog_4_method_1_code 1 = .ok (.invokespecial 3, 3) := by decide +kernel
theorem d_Finder_init_4 : decode prog_4_method_1_code 4 = .ok (.aload_n 0, 1) := by decide +kernel
theorem d_Finder_init_5 : decode prog_4_method_1_code 5 = .ok (.bipush (61), 2) := by decide +kernel
theorem d_Finder_init_7 : decode prog_4_method_1_code 7 = .ok (.newarray .int, 2) := by decide +kernel
theorem d_Finder_init_9 : decode prog_4_method_1_code 9 = .ok (.putfield 9, 3) := by decide +kernel
theorem d_Finder_init_12 : decode prog_4_method_1_code 12 = .ok (.aload_n 0, 1) := by decide +kernel
theorem d_Finder_init_13 : decode prog_4_method_1_code 13 = .ok (.aload_n 1, 1) := by decide +kernel
theorem d_Finder_init_14 : decode prog_4_method_1_code 14 = .ok (.putfield 15, 3) := by decide +kernel
theorem d_Finder_init_17 : decode prog_4_method_1_code 17 = .ok (.iconst 0, 1) := by decide +kernel
theorem d_Finder_init_18 : decode prog_4_method_1_code 18 = .ok (.istore_n 2, 1) := by decide +kernel
theorem d_Finder_init_19 : decode prog_4_method_1_code 19 = .ok (.iload_n 2, 1) := by decide +kernel
theorem d_Finder_init_20 : decode prog_4_method_1_code 20 = .ok (.bipush (60), 2) := by decide +kernel
theorem d_Finder_init_22 : decode prog_4_method_1_code 22 = .ok (.if_icmp .gt (16), 3) := by decide +kernel
theorem d_Finder_init_25 : decode prog_4_method_1_code 25 = .ok (.aload_n 0, 1) := by decide +kernel
theorem d_Finder_init_26 : decode prog_4_method_1_code 26 = .ok (.getfield 9, 3) := by decide +kernel
theorem d_Finder_init_29 : decode prog_4_method_1_code 29 = .ok (.iload_n 2, 1) := by decide +kernel
theorem d_Finder_init_30 : decode prog_4_method_1_code 30 = .ok (.iconst (-1), 1) := by decide +kernel
theorem d_Finder_init_31 : decode prog_4_method_1_code 31 = .ok (.iastore, 1) := by decide +kernel
theorem d_Finder_init_32 : decode prog_4_method_1_code 32 = .ok (.iinc 2 (1), 3) := by decide +kernel
theorem d_Finder_init_35 : decode prog_4_method_1_code 35 = .ok (.goto (-16), 3) := by decide +kernel
theorem d_Finder_init_38 : decode prog_4_method_1_code 38 = .ok (.return_, 1) := by decide +kernel
theorem d_Finder_remember_0 : decode prog_4_method_2_code 0 = .ok (.iload_n 1, 1) := by decide +kernel
theorem d_Finder_remember_1 : decode prog_4_method_2_code 1 = .ok (.iconst 1, 1) := by decide +kernel
theorem d_Finder_remember_2 : decode prog_4_method_2_code 2 = .ok (.if_icmp .lt (16), 3) := by decide +kernel
theorem d_Finder_remember_5 : decode prog_4_method_2_code 5 = .ok (.iload_n 1, 1) := by decide +kernel
theorem d_Finder_remember_6 : decode prog_4_method_2_code 6 = .ok (.bipush (60), 2) := by decide +kernel
theorem d_Finder_remember_8 : decode prog_4_method_2_code 8 = .ok (.if_icmp .gt (10), 3) := by decide +kernel
theorem d_Finder_remember_11 : decode prog_4_method_2_code 11 = .ok (.aload_n 0, 1) := by decide +kernel
theorem d_Finder_remember_12 : decode prog_4_method_2_code 12 = .ok (.getfield 9, 3) := by decide +kernel
theorem d_Finder_remember_15 : decode prog_4_method_2_code 15 = .ok (.iload_n 1, 1) := by decide +kernel
theorem d_Finder_remember_16 : decode prog_4_method_2_code 16 = .ok (.iload_n 2, 1) := by decide +kernel
theorem d_Finder_remember_17 : decode prog_4_method_2_code 17 = .ok (.iastore, 1) := by decide +kernel
theorem d_Finder_remember_18 : decode prog_4_method_2_code 18 = .ok (.return_, 1) := by decide +kernel
theorem d_Finder_forget_0 : decode prog_4_method_3_code 0 = .ok (.aload_n 0, 1) := by decide +kernel
theorem d_Finder_forget_1 : decode prog_4_method_3_code 1 = .ok (.iload_n 1, 1) := by decide +kernel
theorem d_Finder_forget_2 : decode prog_4_method_3_code 2 = .ok (.iconst (-1), 1) := by decide +kernel
theorem d_Finder_forget_3 : decode prog_4_method_3_code 3 = .ok (.invokevirtual 19, 3) := by decide +kernel
theorem d_Finder_forget_6 : decode prog_4_method_3_code 6 = .ok (.return_, 1) := by decide +kernel
theorem d_Finder_forgetAll_0 : decode prog_4_method_4_code 0 = .ok (.iconst 1, 1) := by decide +kernel
theorem d_Finder_forgetAll_1 : decode prog_4_method_4_code 1 = .ok (.istore_n 1, 1) := by decide +kernel
theorem d_Finder_forgetAll_2 : decode prog_4_method_4_code 2 = .ok (.iload_n 1, 1) := by decide +kernel
theorem d_Finder_forgetAll_3 : decode prog_4_method_4_code 3 = .ok (.bipush (60), 2) := by decide +kernel
theorem d_Finder_forgetAll_5 : decode prog_4_method_4_code 5 = .ok (.if_icmp .gt (14), 3) := by decide +kernel
theorem d_Finder_forgetAll_8 : decode prog_4_method_4_code 8 = .ok (.aload_n 0, 1) := by decide +kernel
theorem d_Finder_forgetAll_9 : decode prog_4_method_4_code 9 = .ok (.iload_n 1, 1) := by decide +kernel
theorem d_Finder_forgetAll_10 : decode prog_4_method_4_code 10 = .ok (.invokevirtual 23, 3) := by decide +kernel
theorem d_Finder_forgetAll_13 : decode prog_4_method_4_code 13 = .ok (.iinc 1 (1), 3) := by decide +kernel
theorem d_Finder_forgetAll_16 : decode prog_4_method_4_code 16 = .ok (.goto (-14), 3) := by decide +kernel
theorem d_Finder_forgetAll_19 : decode prog_4_method_4_code 19 = .ok (.return_, 1) := by decide +kernel
theorem d_Finder_leaderOf_0 : decode prog_4_method_5_code 0 = .ok (.iload_n 1, 1) := by decide +kernel
theorem d_Finder_leaderOf_1 : decode prog_4_method_5_code 1 = .ok (.iconst 1, 1) := by decide +kernel
theorem d_Finder_leaderOf_2 : decode prog_4_method_5_code 2 = .ok (.if_icmp .lt (9), 3) := by decide +kernel
theorem d_Finder_leaderOf_5 : decode prog_4_method_5_code 5 = .ok (.iload_n 1, 1) := by decide +kernel
theorem d_Finder_leaderOf_6 : decode prog_4_method_5_code 6 = .ok (.bipush (60), 2) := by decide +kernel
theorem d_Finder_leaderOf_8 : decode prog_4_method_5_code 8 = .ok (.if_icmp .le (5), 3) := by decide +kernel
theorem d_Finder_leaderOf_11 : decode prog_4_method_5_code 11 = .ok (.iconst (-1), 1) := by decide +kernel
theorem d_Finder_leaderOf_12 : decode prog_4_method_5_code 12 = .ok (.ireturn, 1) := by decide +kernel
theorem d_Finder_leaderOf_13 : decode prog_4_method_5_code 13 = .ok (.aload_n 0, 1) := by decide +kernel
theorem d_Finder_leaderOf_14 : decode prog_4_method_5_code 14 = .ok (.getfield 9, 3) := by decide +kernel
theorem d_Finder_leaderOf_17 : decode prog_4_method_5_code 17 = .ok (.iload_n 1, 1) := by decide +kernel
theorem d_Finder_leaderOf_18 : decode prog_4_method_5_code 18 = .ok (.iaload, 1) := by decide +kernel
theorem d_Finder_leaderOf_19 : decode prog_4_method_5_code 19 = .ok (.istore_n 2, 1) := by decide +kernel
theorem d_Finder_leaderOf_20 : decode prog_4_method_5_code 20 = .ok (.iload_n 2, 1) := by decide +kernel
theorem d_Finder_leaderOf_21 : decode prog_4_method_5_code 21 = .ok (.iconst (-1), 1) := by decide +kernel
theorem d_Finder_leaderOf_22 : decode prog_4_method_5_code 22 = .ok (.if_icmp .eq (18), 3) := by decide +kernel
theorem d_Finder_leaderOf_25 : decode prog_4_method_5_code 25 = .ok (.aload_n 0, 1) := by decide +kernel
theorem d_Finder_leaderOf_26 : decode prog_4_method_5_code 26 = .ok (.getfield 15, 3) := by decide +kernel
theorem d_Finder_leaderOf_29 : decode prog_4_method_5_code 29 = .ok (.iload_n 2, 1) := by decide +kernel
theorem d_Finder_leaderOf_30 : decode prog_4_method_5_code 30 = .ok (.iload_n 1, 1) := by decide +kernel
theorem d_Finder_leaderOf_31 : decode prog_4_method_5_code 31 = .ok (.iconst 0, 1) := by decide +kernel
theorem d_Finder_leaderOf_32 : decode prog_4_method_5_code 32 = .ok (.invokevirtual 27, 3) := by decide +kernel
theorem d_Finder_leaderOf_35 : decode prog_4_method_5_code 35 = .ok (.ifCond .eq (5), 3) := by decide +kernel
theorem d_Finder_leaderOf_38 : decode prog_4_method_5_code 38 = .ok (.iload_n 2, 1) := by decide +kernel
theorem d_Finder_leaderOf_39 : decode prog_4_method_5_code 39 = .ok (.ireturn, 1) := by decide +kernel
theorem d_Finder_leaderOf_40 : decode prog_4_method_5_code 40 = .ok (.aload_n 0, 1) := by decide +kernel
theorem d_Finder_leaderOf_41 : decode prog_4_method_5_code 41 = .ok (.getfield 9, 3) := by decide +kernel
theorem d_Finder_leaderOf_44 : decode prog_4_method_5_code 44 = .ok (.iload_n 1, 1) := by decide +kernel
theorem d_Finder_leaderOf_45 : decode prog_4_method_5_code 45 = .ok (.aload_n 0, 1) := by decide +kernel
theorem d_Finder_leaderOf_46 : decode prog_4_method_5_code 46 = .ok (.getfield 15, 3) := by decide +kernel
theorem d_Finder_leaderOf_49 : decode prog_4_method_5_code 49 = .ok (.iload_n 1, 1) := by decide +kernel
theorem d_Finder_leaderOf_50 : decode prog_4_method_5_code 50 = .ok (.iconst 0, 1) := by decide +kernel
theorem d_Finder_leaderOf_51 : decode prog_4_method_5_code 51 = .ok (.invokevirtual 33, 3) := by decide +kernel
theorem d_Finder_leaderOf_54 : decode prog_4_method_5_code 54 = .ok (.iastore, 1) := by decide +kernel
theorem d_Finder_leaderOf_55 : decode prog_4_method_5_code 55 = .ok (.aload_n 0, 1) := by decide +kernel
theorem d_Finder_leaderOf_56 : decode prog_4_method_5_code 56 = .ok (.getfield 9, 3) := by decide +kernel
theorem d_Finder_leaderOf_59 : decode prog_4_method_5_code 59 = .ok (.iload_n 1, 1) := by decide +kernel
theorem d_Finder_leaderOf_60 : decode prog_4_method_5_code 60 = .ok (.iaload, 1) := by decide +kernel
theorem d_Finder_leaderOf_61 : decode prog_4_method_5_code 61 = .ok (.ireturn, 1) := by decide +kernel
theorem d_Finder_follow_0 : decode prog_4_method_6_code 0 = .ok (.aload_n 0, 1) := by decide +kernel
theorem d_Finder_follow_1 : decode prog_4_method_6_code 1 = .ok (.getfield 15, 3) := by decide +kernel
theorem d_Finder_follow_4 : decode prog_4_method_6_code 4 = .ok (.iload_n 1, 1) := by decide +kernel
theorem d_Finder_follow_5 : decode prog_4_method_6_code 5 = .ok (.iconst 0, 1) := by decide +kernel
theorem d_Finder_follow_6 : decode prog_4_method_6_code 6 = .ok (.invokevirtual 37, 3) := by decide +kernel
theorem d_Finder_follow_9 : decode prog_4_method_6_code 9 = .ok (.istore_n 3, 1) := by decide +kernel
theorem d_Finder_follow_10 : decode prog_4_method_6_code 10 = .ok (.aload_n 0, 1) := by decide +kernel
theorem d_Finder_follow_11 : decode prog_4_method_6_code 11 = .ok (.getfield 15, 3) := by decide +kernel
theorem d_Finder_follow_14 : decode prog_4_method_6_code 14 = .ok (.iload_n 1, 1) := by decide +kernel
theorem d_Finder_follow_15 : decode prog_4_method_6_code 15 = .ok (.iconst 1, 1) := by decide +kernel
theorem d_Finder_follow_16 : decode prog_4_method_6_code 16 = .ok (.invokevirtual 37, 3) := by decide +kernel
theorem d_Finder_follow_19 : decode prog_4_method_6_code 19 = .ok (.iload_n 2, 1) := by decide +kernel
theorem d_Finder_follow_20 : decode prog_4_method_6_code 20 = .ok (.iconst 3, 1) := by decide +kernel
theorem d_Finder_follow_21 : decode prog_4_method_6_code 21 = .ok (.if_icmp .ne (7), 3) := by decide +kernel
theorem d_Finder_follow_24 : decode prog_4_method_6_code 24 = .ok (.iconst 1, 1) := by decide +kernel
theorem d_Finder_follow_25 : decode prog_4_method_6_code 25 = .ok (.goto (4), 3) := by decide +kernel
theorem d_Finder_follow_28 : decode prog_4_method_6_code 28 = .ok (.iconst (-1), 1) := by decide +kernel
theorem d_Finder_follow_29 : decode prog_4_method_6_code 29 = .ok (.iadd, 1) := by decide +kernel
theorem d_Finder_follow_30 : decode prog_4_method_6_code 30 = .ok (.istore 4, 2) := by decide +kernel
theorem d_Finder_follow_32 : decode prog_4_method_6_code 32 = .ok (.aload_n 0, 1) := by decide +kernel
theorem d_Finder_follow_33 : decode prog_4_method_6_code 33 = .ok (.getfield 15, 3) := by decide +kernel
theorem d_Finder_follow_36 : decode prog_4_method_6_code 36 = .ok (.iload_n 1, 1) := by decide +kernel
theorem d_Finder_follow_37 : decode prog_4_method_6_code 37 = .ok (.iload_n 2, 1) := by decide +kernel
theorem d_Finder_follow_38 : decode prog_4_method_6_code 38 = .ok (.invokevirtual 37, 3) := by decide +kernel
theorem d_Finder_follow_41 : decode prog_4_method_6_code 41 = .ok (.istore 5, 2) := by decide +kernel
theorem d_Finder_follow_43 : decode prog_4_method_6_code 43 = .ok (.iload 5, 2) := by decide +kernel
theorem d_Finder_follow_45 : decode prog_4_method_6_code 45 = .ok (.iconst (-1), 1) := by decide +kernel
theorem d_Finder_follow_46 : decode prog_4_method_6_code 46 = .ok (.if_icmp .eq (23), 3) := by decide +kernel
theorem d_Finder_follow_49 : decode prog_4_method_6_code 49 = .ok (.aload_n 0, 1) := by decide +kernel
theorem d_Finder_follow_50 : decode prog_4_method_6_code 50 = .ok (.getfield 15, 3) := by decide +kernel
theorem d_Finder_follow_53 : decode prog_4_method_6_code 53 = .ok (.iload 5, 2) := by decide +kernel
theorem d_Finder_follow_55 : decode prog_4_method_6_code 55 = .ok (.iload_n 3, 1) := by decide +kernel
theorem d_Finder_follow_56 : decode prog_4_method_6_code 56 = .ok (.iload 4, 2) := by decide +kernel
theorem d_Finder_follow_58 : decode prog_4_method_6_code 58 = .ok (.invokevirtual 27, 3) := by decide +kernel
theorem d_Finder_follow_61 : decode prog_4_method_6_code 61 = .ok (.ifCond .eq (8), 3) := by decide +kernel
theorem d_Finder_follow_64 : decode prog_4_method_6_code 64 = .ok (.iload 5, 2) := by decide +kernel
theorem d_Finder_follow_66 : decode prog_4_method_6_code 66 = .ok (.goto (13), 3) := by decide +kernel
theorem d_Finder_follow_69 : decode prog_4_method_6_code 69 = .ok (.aload_n 0, 1) := by decide +kernel
theorem d_Finder_follow_70 : decode prog_4_method_6_code 70 = .ok (.getfield 15, 3) := by decide +kernel
theorem d_Finder_follow_73 : decode prog_4_method_6_code 73 = .ok (.iload_n 3, 1) := by decide +kernel
theorem d_Finder_follow_74 : decode prog_4_method_6_code 74 = .ok (.iload 4, 2) := by decide +kernel
theorem d_Finder_follow_76 : decode prog_4_method_6_code 76 = .ok (.invokevirtual 33, 3) := by decide +kernel
theorem d_Finder_follow_79 : decode prog_4_method_6_code 79 = .ok (.ireturn, 1) := by decide +kernel
theorem d_Finder_lastOf_0 : decode prog_4_method_7_code 0 = .ok (.aload_n 0, 1) := by decide +kernel
theorem d_Finder_lastOf_1 : decode prog_4_method_7_code 1 = .ok (.getfield 15, 3) := by decide +kernel
theorem d_Finder_lastOf_4 : decode prog_4_method_7_code 4 = .ok (.iload_n 1, 1) := by decide +kernel
theorem d_Finder_lastOf_5 : decode prog_4_method_7_code 5 = .ok (.iconst 3, 1) := by decide +kernel
theorem d_Finder_lastOf_6 : decode prog_4_method_7_code 6 = .ok (.invokevirtual 40, 3) := by decide +kernel
theorem d_Finder_lastOf_9 : decode prog_4_method_7_code 9 = .ok (.istore_n 2, 1) := by decide +kernel
theorem d_Finder_lastOf_10 : decode prog_4_method_7_code 10 = .ok (.aload_n 0, 1) := by decide +kernel
theorem d_Finder_lastOf_11 : decode prog_4_method_7_code 11 = .ok (.getfield 15, 3) := by decide +kernel
theorem d_Finder_lastOf_14 : decode prog_4_method_7_code 14 = .ok (.iload_n 2, 1) := by decide +kernel
theorem d_Finder_lastOf_15 : decode prog_4_method_7_code 15 = .ok (.iconst 0, 1) := by decide +kernel
theorem d_Finder_lastOf_16 : decode prog_4_method_7_code 16 = .ok (.invokevirtual 37, 3) := by decide +kernel
theorem d_Finder_lastOf_19 : decode prog_4_method_7_code 19 = .ok (.aload_n 0, 1) := by decide +kernel
theorem d_Finder_lastOf_20 : decode prog_4_method_7_code 20 = .ok (.getfield 15, 3) := by decide +kernel
theorem d_Finder_lastOf_23 : decode prog_4_method_7_code 23 = .ok (.iload_n 1, 1) := by decide +kernel
theorem d_Finder_lastOf_24 : decode prog_4_method_7_code 24 = .ok (.iconst 0, 1) := by decide +kernel
theorem d_Finder_lastOf_25 : decode prog_4_method_7_code 25 = .ok (.invokevirtual 37, 3) := by decide +kernel
theorem d_Finder_lastOf_28 : decode prog_4_method_7_code 28 = .ok (.if_icmp .ne (18), 3) := by decide +kernel
theorem d_Finder_lastOf_31 : decode prog_4_method_7_code 31 = .ok (.aload_n 0, 1) := by decide +kernel
theorem d_Finder_lastOf_32 : decode prog_4_method_7_code 32 = .ok (.getfield 15, 3) := by decide +kernel
theorem d_Finder_lastOf_35 : decode prog_4_method_7_code 35 = .ok (.iload_n 2, 1) := by decide +kernel
theorem d_Finder_lastOf_36 : decode prog_4_method_7_code 36 = .ok (.iconst 3, 1) := by decide +kernel
theorem d_Finder_lastOf_37 : decode prog_4_method_7_code 37 = .ok (.invokevirtual 37, 3) := by decide +kernel
theorem d_Finder_lastOf_40 : decode prog_4_method_7_code 40 = .ok (.iconst (-1), 1) := by decide +kernel
theorem d_Finder_lastOf_41 : decode prog_4_method_7_code 41 = .ok (.if_icmp .ne (5), 3) := by decide +kernel
theorem d_Finder_lastOf_44 : decode prog_4_method_7_code 44 = .ok (.iload_n 2, 1) := by decide +kernel
theorem d_Finder_lastOf_45 : decode prog_4_method_7_code 45 = .ok (.ireturn, 1) := by decide +kernel
theorem d_Finder_lastOf_46 : decode prog_4_method_7_code 46 = .ok (.aload_n 0, 1) := by decide +kernel
theorem d_Finder_lastOf_47 : decode prog_4_method_7_code 47 = .ok (.getfield 15, 3) := by decide +kernel
theorem d_Finder_lastOf_50 : decode prog_4_method_7_code 50 = .ok (.invokevirtual 43, 3) := by decide +kernel
theorem d_Finder_lastOf_53 : decode prog_4_method_7_code 53 = .ok (.iload_n 1, 1) := by decide +kernel
theorem d_Finder_lastOf_54 : decode prog_4_method_7_code 54 = .ok (.istore_n 3, 1) := by decide +kernel
theorem d_Finder_lastOf_55 : decode prog_4_method_7_code 55 = .ok (.iconst 0, 1) := by decide +kernel
theorem d_Finder_lastOf_56 : decode prog_4_method_7_code 56 = .ok (.istore 4, 2) := by decide +kernel
theorem d_Finder_lastOf_58 : decode prog_4_method_7_code 58 = .ok (.iload 4, 2) := by decide +kernel
theorem d_Finder_lastOf_60 : decode prog_4_method_7_code 60 = .ok (.bipush (40), 2) := by decide +kernel
theorem d_Finder_lastOf_62 : decode prog_4_method_7_code 62 = .ok (.if_icmp .ge (34), 3) := by decide +kernel
theorem d_Finder_lastOf_65 : decode prog_4_method_7_code 65 = .ok (.iload_n 3, 1) := by decide +kernel
theorem d_Finder_lastOf_66 : decode prog_4_method_7_code 66 = .ok (.iconst (-1), 1) := by decide +kernel
theorem d_Finder_lastOf_67 : decode prog_4_method_7_code 67 = .ok (.if_icmp .eq (29), 3) := by decide +kernel
theorem d_Finder_lastOf_70 : decode prog_4_method_7_code 70 = .ok (.aload_n 0, 1) := by decide +kernel
theorem d_Finder_lastOf_71 : decode prog_4_method_7_code 71 = .ok (.getfield 15, 3) := by decide +kernel
theorem d_Finder_lastOf_74 : decode prog_4_method_7_code 74 = .ok (.iload_n 3, 1) := by decide +kernel
theorem d_Finder_lastOf_75 : decode prog_4_method_7_code 75 = .ok (.iconst 3, 1) := by decide +kernel
theorem d_Finder_lastOf_76 : decode prog_4_method_7_code 76 = .ok (.invokevirtual 37, 3) := by decide +kernel
theorem d_Finder_lastOf_79 : decode prog_4_method_7_code 79 = .ok (.iconst (-1), 1) := by decide +kernel
theorem d_Finder_lastOf_80 : decode prog_4_method_7_code 80 = .ok (.if_icmp .eq (16), 3) := by decide +kernel
theorem d_Finder_lastOf_83 : decode prog_4_method_7_code 83 = .ok (.aload_n 0, 1) := by decide +kernel
theorem d_Finder_lastOf_84 : decode prog_4_method_7_code 84 = .ok (.iload_n 3, 1) := by decide +kernel
theorem d_Finder_lastOf_85 : decode prog_4_method_7_code 85 = .ok (.iconst 3, 1) := by decide +kernel
theorem d_Finder_lastOf_86 : decode prog_4_method_7_code 86 = .ok (.invokevirtual 46, 3) := by decide +kernel
theorem d_Finder_lastOf_89 : decode prog_4_method_7_code 89 = .ok (.istore_n 3, 1) := by decide +kernel
theorem d_Finder_lastOf_90 : decode prog_4_method_7_code 90 = .ok (.iinc 4 (1), 3) := by decide +kernel
theorem d_Finder_lastOf_93 : decode prog_4_method_7_code 93 = .ok (.goto (-35), 3) := by decide +kernel
theorem d_Finder_lastOf_96 : decode prog_4_method_7_code 96 = .ok (.iload_n 3, 1) := by decide +kernel
theorem d_Finder_lastOf_97 : decode prog_4_method_7_code 97 = .ok (.ireturn, 1) := by decide +kernel
theorem d_Finder_pageOf_0 : decode prog_4_method_8_code 0 = .ok (.aload_n 0, 1) := by decide +kernel
theorem d_Finder_pageOf_1 : decode prog_4_method_8_code 1 = .ok (.getfield 15, 3) := by decide +kernel
theorem d_Finder_pageOf_4 : decode prog_4_method_8_code 4 = .ok (.iload_n 2, 1) := by decide +kernel
theorem d_Finder_pageOf_5 : decode prog_4_method_8_code 5 = .ok (.iconst 1, 1) := by decide +kernel
theorem d_Finder_pageOf_6 : decode prog_4_method_8_code 6 = .ok (.invokevirtual 37, 3) := by decide +kernel
theorem d_Finder_pageOf_9 : decode prog_4_method_8_code 9 = .ok (.iload_n 3, 1) := by decide +kernel
theorem d_Finder_pageOf_10 : decode prog_4_method_8_code 10 = .ok (.if_icmp .ne (5), 3) := by decide +kernel
theorem d_Finder_pageOf_13 : decode prog_4_method_8_code 13 = .ok (.iload_n 2, 1) := by decide +kernel
theorem d_Finder_pageOf_14 : decode prog_4_method_8_code 14 = .ok (.ireturn, 1) := by decide +kernel
theorem d_Finder_pageOf_15 : decode prog_4_method_8_code 15 = .ok (.iload_n 1, 1) := by decide +kernel
theorem d_Finder_pageOf_16 : decode prog_4_method_8_code 16 = .ok (.istore 4, 2) := by decide +kernel
theorem d_Finder_pageOf_18 : decode prog_4_method_8_code 18 = .ok (.iconst 0, 1) := by decide +kernel
theorem d_Finder_pageOf_19 : decode prog_4_method_8_code 19 = .ok (.istore 5, 2) := by decide +kernel
theorem d_Finder_pageOf_21 : decode prog_4_method_8_code 21 = .ok (.iload 5, 2) := by decide +kernel
theorem d_Finder_pageOf_23 : decode prog_4_method_8_code 23 = .ok (.iload_n 3, 1) := by decide +kernel
theorem d_Finder_pageOf_24 : decode prog_4_method_8_code 24 = .ok (.if_icmp .ge (31), 3) := by decide +kernel
theorem d_Finder_pageOf_27 : decode prog_4_method_8_code 27 = .ok (.iload 5, 2) := by decide +kernel
theorem d_Finder_pageOf_29 : decode prog_4_method_8_code 29 = .ok (.bipush (40), 2) := by decide +kernel
theorem d_Finder_pageOf_31 : decode prog_4_method_8_code 31 = .ok (.if_icmp .ge (24), 3) := by decide +kernel
theorem d_Finder_pageOf_34 : decode prog_4_method_8_code 34 = .ok (.iload 4, 2) := by decide +kernel
theorem d_Finder_pageOf_36 : decode prog_4_method_8_code 36 = .ok (.iconst (-1), 1) := by decide +kernel
theorem d_Finder_pageOf_37 : decode prog_4_method_8_code 37 = .ok (.if_icmp .eq (18), 3) := by decide +kernel
theorem d_Finder_pageOf_40 : decode prog_4_method_8_code 40 = .ok (.aload_n 0, 1) := by decide +kernel
theorem d_Finder_pageOf_41 : decode prog_4_method_8_code 41 = .ok (.iload 4, 2) := by decide +kernel
theorem d_Finder_pageOf_43 : decode prog_4_method_8_code 43 = .ok (.iconst 3, 1) := by decide +kernel
theorem d_Finder_pageOf_44 : decode prog_4_method_8_code 44 = .ok (.invokevirtual 46, 3) := by decide +kernel
theorem d_Finder_pageOf_47 : decode prog_4_method_8_code 47 = .ok (.istore 4, 2) := by decide +kernel
theorem d_Finder_pageOf_49 : decode prog_4_method_8_code 49 = .ok (.iinc 5 (1), 3) := by decide +kernel
theorem d_Finder_pageOf_52 : decode prog_4_method_8_code 52 = .ok (.goto (-31), 3) := by decide +kernel
theorem d_Finder_pageOf_55 : decode prog_4_method_8_code 55 = .ok (.iload 4, 2) := by decide +kernel
theorem d_Finder_pageOf_57 : decode prog_4_method_8_code 57 = .ok (.ireturn, 1) := by decide +kernel
theorem d_Walk_init_0 : decode prog_3_method_1_code 0 = .ok (.aload_n 0, 1) := by decide +kernel
theorem d_Walk_init_1 : decode prog_3_method_1_code 1 = .ok (.invokespecial 3, 3) := by decide +kernel
theorem d_Walk_init_4 : decode prog_3_method_1_code 4 = .ok (.aload_n 0, 1) := by decide +kernel
theorem d_Walk_init_5 : decode prog_3_method_1_code 5 = .ok (.iconst (-1), 1) := by decide +kernel
theorem d_Walk_init_6 : decode prog_3_method_1_code 6 = .ok (.putfield 9, 3) := by decide +kernel
theorem d_Walk_init_9 : decode prog_3_method_1_code 9 = .ok (.aload_n 0, 1) := by decide +kernel
theorem d_Walk_init_10 : decode prog_3_method_1_code 10 = .ok (.iconst (-1), 1) := by decide +kernel
theorem d_Walk_init_11 : decode prog_3_method_1_code 11 = .ok (.putfield 15, 3) := by decide +kernel
theorem d_Walk_init_14 : decode prog_3_method_1_code 14 = .ok (.aload_n 0, 1) := by decide +kernel
theorem d_Walk_init_15 : decode prog_3_method_1_code 15 = .ok (.iconst (-1), 1) := by decide +kernel
theorem d_Walk_init_16 : decode prog_3_method_1_code 16 = .ok (.putfield 18, 3) := by decide +kernel
theorem d_Walk_init_19 : decode prog_3_method_1_code 19 = .ok (.aload_n 0, 1) := by decide +kernel
theorem d_Walk_init_20 : decode prog_3_method_1_code 20 = .ok (.iconst (-1), 1) := by decide +kernel
theorem d_Walk_init_21 : decode prog_3_method_1_code 21 = .ok (.putfield 21, 3) := by decide +kernel
theorem d_Walk_init_24 : decode prog_3_method_1_code 24 = .ok (.aload_n 0, 1) := by decide +kernel
theorem d_Walk_init_25 : decode prog_3_method_1_code 25 = .ok (.aload_n 1, 1) := by decide +kernel
theorem d_Walk_init_26 : decode prog_3_method_1_code 26 = .ok (.putfield 24, 3) := by decide +kernel
theorem d_Walk_init_29 : decode prog_3_method_1_code 29 = .ok (.aload_n 0, 1) := by decide +kernel
theorem d_Walk_init_30 : decode prog_3_method_1_code 30 = .ok (.aload_n 2, 1) := by decide +kernel
theorem d_Walk_init_31 : decode prog_3_method_1_code 31 = .ok (.putfield 28, 3) := by decide +kernel
theorem d_Walk_init_34 : decode prog_3_method_1_code 34 = .ok (.return_, 1) := by decide +kernel
theorem d_Walk_start_0 : decode prog_3_method_2_code 0 = .ok (.aload_n 0, 1) := by decide +kernel
theorem d_Walk_start_1 : decode prog_3_method_2_code 1 = .ok (.iload_n 1, 1) := by decide +kernel
theorem d_Walk_start_2 : decode prog_3_method_2_code 2 = .ok (.putfield 9, 3) := by decide +kernel
theorem d_Walk_start_5 : decode prog_3_method_2_code 5 = .ok (.aload_n 0, 1) := by decide +kernel
theorem d_Walk_start_6 : decode prog_3_method_2_code 6 = .ok (.iconst (-1), 1) := by decide +kernel
theorem d_Walk_start_7 : decode prog_3_method_2_code 7 = .ok (.putfield 15, 3) := by decide +kernel
theorem d_Walk_start_10 : decode prog_3_method_2_code 10 = .ok (.aload_n 0, 1) := by decide +kernel
theorem d_Walk_start_11 : decode prog_3_method_2_code 11 = .ok (.iconst (-1), 1) := by decide +kernel
theorem d_Walk_start_12 : decode prog_3_method_2_code 12 = .ok (.putfield 18, 3) := by decide +kernel
theorem d_Walk_start_15 : decode prog_3_method_2_code 15 = .ok (.aload_n 0, 1) := by decide +kernel
theorem d_Walk_start_16 : decode prog_3_method_2_code 16 = .ok (.iconst (-1), 1) := by decide +kernel
theorem d_Walk_start_17 : decode prog_3_method_2_code 17 = .ok (.putfield 21, 3) := by decide +kernel
theorem d_Walk_start_20 : decode prog_3_method_2_code 20 = .ok (.return_, 1) := by decide +kernel
theorem d_Walk_step_0 : decode prog_3_method_3_code 0 = .ok (.aload_n 0, 1) := by decide +kernel
theorem d_Walk_step_1 : decode prog_3_method_3_code 1 = .ok (.dup, 1) := by decide +kernel
theorem d_Walk_step_2 : decode prog_3_method_3_code 2 = .ok (.getfield 15, 3) := by decide +kernel
theorem d_Walk_step_5 : decode prog_3_method_3_code 5 = .ok (.iconst 1, 1) := by decide +kernel
theorem d_Walk_step_6 : decode prog_3_method_3_code 6 = .ok (.iadd, 1) := by decide +kernel
theorem d_Walk_step_7 : decode prog_3_method_3_code 7 = .ok (.putfield 15, 3) := by decide +kernel
theorem d_Walk_step_10 : decode prog_3_method_3_code 10 = .ok (.iconst 0, 1) := by decide +kernel
theorem d_Walk_step_11 : decode prog_3_method_3_code 11 = .ok (.istore_n 1, 1) := by decide +kernel
theorem d_Walk_step_12 : decode prog_3_method_3_code 12 = .ok (.iload_n 1, 1) := by decide +kernel
theorem d_Walk_step_13 : decode prog_3_method_3_code 13 = .ok (.bipush (40), 2) := by decide +kernel
theorem d_Walk_step_15 : decode prog_3_method_3_code 15 = .ok (.if_icmp .ge (69), 3) := by decide +kernel
theorem d_Walk_step_18 : decode prog_3_method_3_code 18 = .ok (.aload_n 0, 1) := by decide +kernel
theorem d_Walk_step_19 : decode prog_3_method_3_code 19 = .ok (.getfield 15, 3) := by decide +kernel
theorem d_Walk_step_22 : decode prog_3_method_3_code 22 = .ok (.aload_n 0, 1) := by decide +kernel
theorem d_Walk_step_23 : decode prog_3_method_3_code 23 = .ok (.getfield 24, 3) := by decide +kernel
theorem d_Walk_step_26 : decode prog_3_method_3_code 26 = .ok (.aload_n 0, 1) := by decide +kernel
theorem d_Walk_step_27 : decode prog_3_method_3_code 27 = .ok (.getfield 9, 3) := by decide +kernel
theorem d_Walk_step_30 : decode prog_3_method_3_code 30 = .ok (.invokevirtual 32, 3) := by decide +kernel
theorem d_Walk_step_33 : decode prog_3_method_3_code 33 = .ok (.if_icmp .lt (51), 3) := by decide +kernel
theorem d_Walk_step_36 : decode prog_3_method_3_code 36 = .ok (.aload_n 0, 1) := by decide +kernel
theorem d_Walk_step_37 : decode prog_3_method_3_code 37 = .ok (.getfield 24, 3) := by decide +kernel
theorem d_Walk_step_40 : decode prog_3_method_3_code 40 = .ok (.aload_n 0, 1) := by decide +kernel
theorem d_Walk_step_41 : decode prog_3_method_3_code 41 = .ok (.getfield 9, 3) := by decide +kernel
theorem d_Walk_step_44 : decode prog_3_method_3_code 44 = .ok (.iconst 3, 1) := by decide +kernel
theorem d_Walk_step_45 : decode prog_3_method_3_code 45 = .ok (.invokevirtual 38, 3) := by decide +kernel
theorem d_Walk_step_48 : decode prog_3_method_3_code 48 = .ok (.iconst (-1), 1) := by decide +kernel
theorem d_Walk_step_49 : decode prog_3_method_3_code 49 = .ok (.if_icmp .ne (5), 3) := by decide +kernel
theorem d_Walk_step_52 : decode prog_3_method_3_code 52 = .ok (.iconst 0, 1) := by decide +kernel
theorem d_Walk_step_53 : decode prog_3_method_3_code 53 = .ok (.ireturn, 1) := by decide +kernel
theorem d_Walk_step_54 : decode prog_3_method_3_code 54 = .ok (.aload_n 0, 1) := by decide +kernel
theorem d_Walk_step_55 : decode prog_3_method_3_code 55 = .ok (.aload_n 0, 1) := by decide +kernel
theorem d_Walk_step_56 : decode prog_3_method_3_code 56 = .ok (.getfield 28, 3) := by decide +kernel
theorem d_Walk_step_59 : decode prog_3_method_3_code 59 = .ok (.aload_n 0, 1) := by decide +kernel
theorem d_Walk_step_60 : decode prog_3_method_3_code 60 = .ok (.getfield 9, 3) := by decide +kernel
theorem d_Walk_step_63 : decode prog_3_method_3_code 63 = .ok (.iconst 3, 1) := by decide +kernel
theorem d_Walk_step_64 : decode prog_3_method_3_code 64 = .ok (.invokevirtual 42, 3) := by decide +kernel
theorem d_Walk_step_67 : decode prog_3_method_3_code 67 = .ok (.invokestatic 47, 3) := by decide +kernel
theorem d_Walk_step_70 : decode prog_3_method_3_code 70 = .ok (.putfield 9, 3) := by decide +kernel
theorem d_Walk_step_73 : decode prog_3_method_3_code 73 = .ok (.aload_n 0, 1) := by decide +kernel
theorem d_Walk_step_74 : decode prog_3_method_3_code 74 = .ok (.iconst 0, 1) := by decide +kernel
theorem d_Walk_step_75 : decode prog_3_method_3_code 75 = .ok (.putfield 15, 3) := by decide +kernel
theorem d_Walk_step_78 : decode prog_3_method_3_code 78 = .ok (.iinc 1 (1), 3) := by decide +kernel
theorem d_Walk_step_81 : decode prog_3_method_3_code 81 = .ok (.goto (-69), 3) := by decide +kernel
theorem d_Walk_step_84 : decode prog_3_method_3_code 84 = .ok (.iconst 1, 1) := by decide +kernel
theorem d_Walk_step_85 : decode prog_3_method_3_code 85 = .ok (.ireturn, 1) := by decide +kernel
theorem d_Walk_seekName_0 : decode prog_3_method_4_code 0 = .ok (.aload_n 0, 1) := by decide +kernel
theorem d_Walk_seekName_1 : decode prog_3_method_4_code 1 = .ok (.iload_n 1, 1) := by decide +kernel
theorem d_Walk_seekName_2 : decode prog_3_method_4_code 2 = .ok (.invokevirtual 50, 3) := by decide +kernel
theorem d_Walk_seekName_5 : decode prog_3_method_4_code 5 = .ok (.iconst 0, 1) := by decide +kernel
theorem d_Walk_seekName_6 : decode prog_3_method_4_code 6 = .ok (.istore_n 3, 1) := by decide +kernel
theorem d_Walk_seekName_7 : decode prog_3_method_4_code 7 = .ok (.iload_n 3, 1) := by decide +kernel
theorem d_Walk_seekName_8 : decode prog_3_method_4_code 8 = .ok (.bipush (80), 2) := by decide +kernel
theorem d_Walk_seekName_10 : decode prog_3_method_4_code 10 = .ok (.if_icmp .ge (51), 3) := by decide +kernel
theorem d_Walk_seekName_13 : decode prog_3_method_4_code 13 = .ok (.aload_n 0, 1) := by decide +kernel
theorem d_Walk_seekName_14 : decode prog_3_method_4_code 14 = .ok (.invokevirtual 54, 3) := by decide +kernel
theorem d_Walk_seekName_17 : decode prog_3_method_4_code 17 = .ok (.ifCond .eq (44), 3) := by decide +kernel
theorem d_Walk_seekName_20 : decode prog_3_method_4_code 20 = .ok (.aload_n 0, 1) := by decide +kernel
theorem d_Walk_seekName_21 : decode prog_3_method_4_code 21 = .ok (.invokevirtual 58, 3) := by decide +kernel
theorem d_Walk_seekName_24 : decode prog_3_method_4_code 24 = .ok (.ifCond .ne (10), 3) := by decide +kernel
theorem d_Walk_seekName_27 : decode prog_3_method_4_code 27 = .ok (.aload_n 0, 1) := by decide +kernel
theorem d_Walk_seekName_28 : decode prog_3_method_4_code 28 = .ok (.invokevirtual 62, 3) := by decide +kernel
theorem d_Walk_seekName_31 : decode prog_3_method_4_code 31 = .ok (.goto (24), 3) := by decide +kernel
theorem d_Walk_seekName_34 : decode prog_3_method_4_code 34 = .ok (.aload_n 0, 1) := by decide +kernel
theorem d_Walk_seekName_35 : decode prog_3_method_4_code 35 = .ok (.getfield 24, 3) := by decide +kernel
theorem d_Walk_seekName_38 : decode prog_3_method_4_code 38 = .ok (.aload_n 0, 1) := by decide +kernel
theorem d_Walk_seekName_39 : decode prog_3_method_4_code 39 = .ok (.getfield 9, 3) := by decide +kernel
theorem d_Walk_seekName_42 : decode prog_3_method_4_code 42 = .ok (.aload_n 0, 1) := by decide +kernel
theorem d_Walk_seekName_43 : decode prog_3_method_4_code 43 = .ok (.invokevirtual 65, 3) := by decide +kernel
theorem d_Walk_seekName_46 : decode prog_3_method_4_code 46 = .ok (.invokevirtual 68, 3) := by decide +kernel
theorem d_Walk_seekName_49 : decode prog_3_method_4_code 49 = .ok (.iload_n 2, 1) := by decide +kernel
theorem d_Walk_seekName_50 : decode prog_3_method_4_code 50 = .ok (.if_icmp .ne (5), 3) := by decide +kernel
theorem d_Walk_seekName_53 : decode prog_3_method_4_code 53 = .ok (.iconst 1, 1) := by decide +kernel
theorem d_Walk_seekName_54 : decode prog_3_method_4_code 54 = .ok (.ireturn, 1) := by decide +kernel
theorem d_Walk_seekName_55 : decode prog_3_method_4_code 55 = .ok (.iinc 3 (1), 3) := by decide +kernel
theorem d_Walk_seekName_58 : decode prog_3_method_4_code 58 = .ok (.goto (-51), 3) := by decide +kernel
theorem d_Walk_seekName_61 : decode prog_3_method_4_code 61 = .ok (.iconst 0, 1) := by decide +kernel
theorem d_Walk_seekName_62 : decode prog_3_method_4_code 62 = .ok (.ireturn, 1) := by decide +kernel
theorem d_Walk_seekUsed_0 : decode prog_3_method_5_code 0 = .ok (.aload_n 0, 1) := by decide +kernel
theorem d_Walk_seekUsed_1 : decode prog_3_method_5_code 1 = .ok (.iload_n 1, 1) := by decide +kernel
theorem d_Walk_seekUsed_2 : decode prog_3_method_5_code 2 = .ok (.invokevirtual 50, 3) := by decide +kernel
theorem d_Walk_seekUsed_5 : decode prog_3_method_5_code 5 = .ok (.iconst 0, 1) := by decide +kernel
theorem d_Walk_seekUsed_6 : decode prog_3_method_5_code 6 = .ok (.istore_n 2, 1) := by decide +kernel
theorem d_Walk_seekUsed_7 : decode prog_3_method_5_code 7 = .ok (.iload_n 2, 1) := by decide +kernel
theorem d_Walk_seekUsed_8 : decode prog_3_method_5_code 8 = .ok (.bipush (80), 2) := by decide +kernel
theorem d_Walk_seekUsed_10 : decode prog_3_method_5_code 10 = .ok (.if_icmp .ge (25), 3) := by decide +kernel
theorem d_Walk_seekUsed_13 : decode prog_3_method_5_code 13 = .ok (.aload_n 0, 1) := by decide +kernel
theorem d_Walk_seekUsed_14 : decode prog_3_method_5_code 14 = .ok (.invokevirtual 54, 3) := by decide +kernel
theorem d_Walk_seekUsed_17 : decode prog_3_method_5_code 17 = .ok (.ifCond .eq (18), 3) := by decide +kernel
theorem d_Walk_seekUsed_20 : decode prog_3_method_5_code 20 = .ok (.aload_n 0, 1) := by decide +kernel
theorem d_Walk_seekUsed_21 : decode prog_3_method_5_code 21 = .ok (.invokevirtual 58, 3) := by decide +kernel
theorem d_Walk_seekUsed_24 : decode prog_3_method_5_code 24 = .ok (.ifCond .eq (5), 3) := by decide +kernel
theorem d_Walk_seekUsed_27 : decode prog_3_method_5_code 27 = .ok (.iconst 1, 1) := by decide +kernel
theorem d_Walk_seekUsed_28 : decode prog_3_method_5_code 28 = .ok (.ireturn, 1) := by decide +kernel
theorem d_Walk_seekUsed_29 : decode prog_3_method_5_code 29 = .ok (.iinc 2 (1), 3) := by decide +kernel
theorem d_Walk_seekUsed_32 : decode prog_3_method_5_code 32 = .ok (.goto (-25), 3) := by decide +kernel
theorem d_Walk_seekUsed_35 : decode prog_3_method_5_code 35 = .ok (.iconst 0, 1) := by decide +kernel
theorem d_Walk_seekUsed_36 : decode prog_3_method_5_code 36 = .ok (.ireturn, 1) := by decide +kernel
theorem d_Walk_seekIndex_0 : decode prog_3_method_6_code 0 = .ok (.aload_n 0, 1) := by decide +kernel
theorem d_Walk_seekIndex_1 : decode prog_3_method_6_code 1 = .ok (.iload_n 1, 1) := by decide +kernel
theorem d_Walk_seekIndex_2 : decode prog_3_method_6_code 2 = .ok (.invokevirtual 50, 3) := by decide +kernel
theorem d_Walk_seekIndex_5 : decode prog_3_method_6_code 5 = .ok (.iconst 0, 1) := by decide +kernel
theorem d_Walk_seekIndex_6 : decode prog_3_method_6_code 6 = .ok (.istore_n 3, 1) := by decide +kernel
theorem d_Walk_seekIndex_7 : decode prog_3_method_6_code 7 = .ok (.iload_n 3, 1) := by decide +kernel
theorem d_Walk_seekIndex_8 : decode prog_3_method_6_code 8 = .ok (.bipush (80), 2) := by decide +kernel
theorem d_Walk_seekIndex_10 : decode prog_3_method_6_code 10 = .ok (.if_icmp .ge (23), 3) := by decide +kernel
theorem d_Walk_seekIndex_13 : decode prog_3_method_6_code 13 = .ok (.aload_n 0, 1) := by decide +kernel
theorem d_Walk_seekIndex_14 : decode prog_3_method_6_code 14 = .ok (.invokevirtual 54, 3) := by decide +kernel
theorem d_Walk_seekIndex_17 : decode prog_3_method_6_code 17 = .ok (.ifCond .eq (16), 3) := by decide +kernel
theorem d_Walk_seekIndex_20 : decode prog_3_method_6_code 20 = .ok (.iload_n 3, 1) := by decide +kernel
theorem d_Walk_seekIndex_21 : decode prog_3_method_6_code 21 = .ok (.iload_n 2, 1) := by decide +kernel
theorem d_Walk_seekIndex_22 : decode prog_3_method_6_code 22 = .ok (.if_icmp .ne (5), 3) := by decide +kernel
theorem d_Walk_seekIndex_25 : decode prog_3_method_6_code 25 = .ok (.iconst 1, 1) := by decide +kernel
theorem d_Walk_seekIndex_26 : decode prog_3_method_6_code 26 = .ok (.ireturn, 1) := by decide +kernel
theorem d_Walk_seekIndex_27 : decode prog_3_method_6_code 27 = .ok (.iinc 3 (1), 3) := by decide +kernel
theorem d_Walk_seekIndex_30 : decode prog_3_method_6_code 30 = .ok (.goto (-23), 3) := by decide +kernel
theorem d_Walk_seekIndex_33 : decode prog_3_method_6_code 33 = .ok (.iconst 0, 1) := by decide +kernel
theorem d_Walk_seekIndex_34 : decode prog_3_method_6_code 34 = .ok (.ireturn, 1) := by decide +kernel
theorem d_Walk_keepFirstHole_0 : decode prog_3_method_7_code 0 = .ok (.aload_n 0, 1) := by decide +kernel
theorem d_Walk_keepFirstHole_1 : decode prog_3_method_7_code 1 = .ok (.getfield 18, 3) := by decide +kernel
theorem d_Walk_keepFirstHole_4 : decode prog_3_method_7_code 4 = .ok (.iconst (-1), 1) := by decide +kernel
theorem d_Walk_keepFirstHole_5 : decode prog_3_method_7_code 5 = .ok (.if_icmp .ne (19), 3) := by decide +kernel
theorem d_Walk_keepFirstHole_8 : decode prog_3_method_7_code 8 = .ok (.aload_n 0, 1) := by decide +kernel
theorem d_Walk_keepFirstHole_9 : decode prog_3_method_7_code 9 = .ok (.aload_n 0, 1) := by decide +kernel
theorem d_Walk_keepFirstHole_10 : decode prog_3_method_7_code 10 = .ok (.getfield 9, 3) := by decide +kernel
theorem d_Walk_keepFirstHole_13 : decode prog_3_method_7_code 13 = .ok (.putfield 18, 3) := by decide +kernel
theorem d_Walk_keepFirstHole_16 : decode prog_3_method_7_code 16 = .ok (.aload_n 0, 1) := by decide +kernel
theorem d_Walk_keepFirstHole_17 : decode prog_3_method_7_code 17 = .ok (.aload_n 0, 1) := by decide +kernel
theorem d_Walk_keepFirstHole_18 : decode prog_3_method_7_code 18 = .ok (.getfield 15, 3) := by decide +kernel
theorem d_Walk_keepFirstHole_21 : decode prog_3_method_7_code 21 = .ok (.putfield 21, 3) := by decide +kernel
theorem d_Walk_keepFirstHole_24 : decode prog_3_method_7_code 24 = .ok (.return_, 1) := by decide +kernel
theorem d_Walk_sectorHere_0 : decode prog_3_method_8_code 0 = .ok (.aload_n 0, 1) := by decide +kernel
theorem d_Walk_sectorHere_1 : decode prog_3_method_8_code 1 = .ok (.getfield 9, 3) := by decide +kernel
theorem d_Walk_sectorHere_4 : decode prog_3_method_8_code 4 = .ok (.ireturn, 1) := by decide +kernel
theorem d_Walk_offsetHere_0 : decode prog_3_method_9_code 0 = .ok (.aload_n 0, 1) := by decide +kernel
theorem d_Walk_offsetHere_1 : decode prog_3_method_9_code 1 = .ok (.getfield 15, 3) := by decide +kernel
theorem d_Walk_offsetHere_4 : decode prog_3_method_9_code 4 = .ok (.iconst 4, 1) := by decide +kernel
theorem d_Walk_offsetHere_5 : decode prog_3_method_9_code 5 = .ok (.imul, 1) := by decide +kernel
theorem d_Walk_offsetHere_6 : decode prog_3_method_9_code 6 = .ok (.ireturn, 1) := by decide +kernel
theorem d_Walk_serialHere_0 : decode prog_3_method_10_code 0 = .ok (.aload_n 0, 1) := by decide +kernel
theorem d_Walk_serialHere_1 : decode prog_3_method_10_code 1 = .ok (.getfield 24, 3) := by decide +kernel
theorem d_Walk_serialHere_4 : decode prog_3_method_10_code 4 = .ok (.aload_n 0, 1) := by decide +kernel
theorem d_Walk_serialHere_5 : decode prog_3_method_10_code 5 = .ok (.getfield 9, 3) := by decide +kernel
theorem d_Walk_serialHere_8 : decode prog_3_method_10_code 8 = .ok (.aload_n 0, 1) := by decide +kernel
theorem d_Walk_serialHere_9 : decode prog_3_method_10_code 9 = .ok (.invokevirtual 65, 3) := by decide +kernel
theorem d_Walk_serialHere_12 : decode prog_3_method_10_code 12 = .ok (.iconst 2, 1) := by decide +kernel
theorem d_Walk_serialHere_13 : decode prog_3_method_10_code 13 = .ok (.iadd, 1) := by decide +kernel
theorem d_Walk_serialHere_14 : decode prog_3_method_10_code 14 = .ok (.invokevirtual 71, 3) := by decide +kernel
theorem d_Walk_serialHere_17 : decode prog_3_method_10_code 17 = .ok (.ireturn, 1) := by decide +kernel
theorem d_Walk_foundHole_0 : decode prog_3_method_11_code 0 = .ok (.aload_n 0, 1) := by decide +kernel
theorem d_Walk_foundHole_1 : decode prog_3_method_11_code 1 = .ok (.getfield 18, 3) := by decide +kernel
theorem d_Walk_foundHole_4 : decode prog_3_method_11_code 4 = .ok (.iconst (-1), 1) := by decide +kernel
theorem d_Walk_foundHole_5 : decode prog_3_method_11_code 5 = .ok (.if_icmp .eq (7), 3) := by decide +kernel
theorem d_Walk_foundHole_8 : decode prog_3_method_11_code 8 = .ok (.iconst 1, 1) := by decide +kernel
theorem d_Walk_foundHole_9 : decode prog_3_method_11_code 9 = .ok (.goto (4), 3) := by decide +kernel
theorem d_Walk_foundHole_12 : decode prog_3_method_11_code 12 = .ok (.iconst 0, 1) := by decide +kernel
theorem d_Walk_foundHole_13 : decode prog_3_method_11_code 13 = .ok (.ireturn, 1) := by decide +kernel
theorem d_Walk_holeSector_0 : decode prog_3_method_12_code 0 = .ok (.aload_n 0, 1) := by decide +kernel
theorem d_Walk_holeSector_1 : decode prog_3_method_12_code 1 = .ok (.getfield 18, 3) := by decide +kernel
theorem d_Walk_holeSector_4 : decode prog_3_method_12_code 4 = .ok (.ireturn, 1) := by decide +kernel
theorem d_Walk_holeOffset_0 : decode prog_3_method_13_code 0 = .ok (.aload_n 0, 1) := by decide +kernel
theorem d_Walk_holeOffset_1 : decode prog_3_method_13_code 1 = .ok (.getfield 21, 3) := by decide +kernel
theorem d_Walk_holeOffset_4 : decode prog_3_method_13_code 4 = .ok (.iconst 4, 1) := by decide +kernel
theorem d_Walk_holeOffset_5 : decode prog_3_method_13_code 5 = .ok (.imul, 1) := by decide +kernel
theorem d_Walk_holeOffset_6 : decode prog_3_method_13_code 6 = .ok (.ireturn, 1) := by decide +kernel
theorem d_Walk_needsPage_0 : decode prog_3_method_14_code 0 = .ok (.aload_n 0, 1) := by decide +kernel
theorem d_Walk_needsPage_1 : decode prog_3_method_14_code 1 = .ok (.invokevirtual 74, 3) := by decide +kernel
theorem d_Walk_needsPage_4 : decode prog_3_method_14_code 4 = .ok (.ifCond .ne (21), 3) := by decide +kernel
theorem d_Walk_needsPage_7 : decode prog_3_method_14_code 7 = .ok (.aload_n 0, 1) := by decide +kernel
theorem d_Walk_needsPage_8 : decode prog_3_method_14_code 8 = .ok (.getfield 24, 3) := by decide +kernel
theorem d_Walk_needsPage_11 : decode prog_3_method_14_code 11 = .ok (.aload_n 0, 1) := by decide +kernel
theorem d_Walk_needsPage_12 : decode prog_3_method_14_code 12 = .ok (.getfield 9, 3) := by decide +kernel
theorem d_Walk_needsPage_15 : decode prog_3_method_14_code 15 = .ok (.invokevirtual 77, 3) := by decide +kernel
theorem d_Walk_needsPage_18 : decode prog_3_method_14_code 18 = .ok (.ifCond .ne (7), 3) := by decide +kernel
theorem d_Walk_needsPage_21 : decode prog_3_method_14_code 21 = .ok (.iconst 1, 1) := by decide +kernel
theorem d_Walk_needsPage_22 : decode prog_3_method_14_code 22 = .ok (.goto (4), 3) := by decide +kernel
theorem d_Walk_needsPage_25 : decode prog_3_method_14_code 25 = .ok (.iconst 0, 1) := by decide +kernel
theorem d_Walk_needsPage_26 : decode prog_3_method_14_code 26 = .ok (.ireturn, 1) := by decide +kernel
