theorem d_LV_init_0 : decode prog_1_method_1_code 0 = .ok (.aload_n 0, 1) := by decide +kernel
theorem d_LV_init_1 : decode prog_1_method_1_code 1 = .ok (.invokespecial 3, 3) := by decide +kernel
theorem d_LV_init_4 : decode prog_1_method_1_code 4 = .ok (.new 9, 3) := by decide +kernel
theorem d_LV_init_7 : decode prog_1_method_1_code 7 = .ok (.dup, 1) := by decide +kernel
theorem d_LV_init_8 : decode prog_1_method_1_code 8 = .ok (.invokespecial 11, 3) := by decide +kernel
theorem d_LV_init_11 : decode prog_1_method_1_code 11 = .ok (.astore_n 1, 1) := by decide +kernel
theorem d_LV_init_12 : decode prog_1_method_1_code 12 = .ok (.new 12, 3) := by decide +kernel
theorem d_LV_init_15 : decode prog_1_method_1_code 15 = .ok (.dup, 1) := by decide +kernel
theorem d_LV_init_16 : decode prog_1_method_1_code 16 = .ok (.aload_n 1, 1) := by decide +kernel
theorem d_LV_init_17 : decode prog_1_method_1_code 17 = .ok (.invokespecial 14, 3) := by decide +kernel
theorem d_LV_init_20 : decode prog_1_method_1_code 20 = .ok (.astore_n 2, 1) := by decide +kernel
theorem d_LV_init_21 : decode prog_1_method_1_code 21 = .ok (.aload_n 1, 1) := by decide +kernel
theorem d_LV_init_22 : decode prog_1_method_1_code 22 = .ok (.invokevirtual 17, 3) := by decide +kernel
theorem d_LV_init_25 : decode prog_1_method_1_code 25 = .ok (.aload_n 0, 1) := by decide +kernel
theorem d_LV_init_26 : decode prog_1_method_1_code 26 = .ok (.aload_n 1, 1) := by decide +kernel
theorem d_LV_init_27 : decode prog_1_method_1_code 27 = .ok (.putfield 20, 3) := by decide +kernel
theorem d_LV_init_30 : decode prog_1_method_1_code 30 = .ok (.aload_n 0, 1) := by decide +kernel
theorem d_LV_init_31 : decode prog_1_method_1_code 31 = .ok (.aload_n 2, 1) := by decide +kernel
theorem d_LV_init_32 : decode prog_1_method_1_code 32 = .ok (.putfield 24, 3) := by decide +kernel
theorem d_LV_init_35 : decode prog_1_method_1_code 35 = .ok (.aload_n 0, 1) := by decide +kernel
theorem d_LV_init_36 : decode prog_1_method_1_code 36 = .ok (.new 28, 3) := by decide +kernel
theorem d_LV_init_39 : decode prog_1_method_1_code 39 = .ok (.dup, 1) := by decide +kernel
theorem d_LV_init_40 : decode prog_1_method_1_code 40 = .ok (.aload_n 1, 1) := by decide +kernel
theorem d_LV_init_41 : decode prog_1_method_1_code 41 = .ok (.aload_n 2, 1) := by decide +kernel
theorem d_LV_init_42 : decode prog_1_method_1_code 42 = .ok (.invokespecial 30, 3) := by decide +kernel
theorem d_LV_init_45 : decode prog_1_method_1_code 45 = .ok (.putfield 33, 3) := by decide +kernel
theorem d_LV_init_48 : decode prog_1_method_1_code 48 = .ok (.aload_n 0, 1) := by decide +kernel
theorem d_LV_init_49 : decode prog_1_method_1_code 49 = .ok (.new 37, 3) := by decide +kernel
theorem d_LV_init_52 : decode prog_1_method_1_code 52 = .ok (.dup, 1) := by decide +kernel
theorem d_LV_init_53 : decode prog_1_method_1_code 53 = .ok (.aload_n 1, 1) := by decide +kernel
theorem d_LV_init_54 : decode prog_1_method_1_code 54 = .ok (.aload_n 2, 1) := by decide +kernel
theorem d_LV_init_55 : decode prog_1_method_1_code 55 = .ok (.invokespecial 39, 3) := by decide +kernel
theorem d_LV_init_58 : decode prog_1_method_1_code 58 = .ok (.putfield 40, 3) := by decide +kernel
theorem d_LV_init_61 : decode prog_1_method_1_code 61 = .ok (.aload_n 0, 1) := by decide +kernel
theorem d_LV_init_62 : decode prog_1_method_1_code 62 = .ok (.new 44, 3) := by decide +kernel
theorem d_LV_init_65 : decode prog_1_method_1_code 65 = .ok (.dup, 1) := by decide +kernel
theorem d_LV_init_66 : decode prog_1_method_1_code 66 = .ok (.aload_n 1, 1) := by decide +kernel
theorem d_LV_init_67 : decode prog_1_method_1_code 67 = .ok (.invokespecial 46, 3) := by decide +kernel
theorem d_LV_init_70 : decode prog_1_method_1_code 70 = .ok (.putfield 47, 3) := by decide +kernel
theorem d_LV_init_73 : decode prog_1_method_1_code 73 = .ok (.aload_n 0, 1) := by decide +kernel
theorem d_LV_init_74 : decode prog_1_method_1_code 74 = .ok (.bipush (40), 2) := by decide +kernel
theorem d_LV_init_76 : decode prog_1_method_1_code 76 = .ok (.newarray .int, 2) := by decide +kernel
theorem d_LV_init_78 : decode prog_1_method_1_code 78 = .ok (.putfield 51, 3) := by decide +kernel
theorem d_LV_init_81 : decode prog_1_method_1_code 81 = .ok (.return_, 1) := by decide +kernel
theorem d_LV_create_0 : decode prog_1_method_2_code 0 = .ok (.aload_n 0, 1) := by decide +kernel
theorem d_LV_create_1 : decode prog_1_method_2_code 1 = .ok (.invokevirtual 55, 3) := by decide +kernel
theorem d_LV_create_4 : decode prog_1_method_2_code 4 = .ok (.aload_n 0, 1) := by decide +kernel
theorem d_LV_create_5 : decode prog_1_method_2_code 5 = .ok (.iload_n 1, 1) := by decide +kernel
theorem d_LV_create_6 : decode prog_1_method_2_code 6 = .ok (.invokevirtual 58, 3) := by decide +kernel
theorem d_LV_create_9 : decode prog_1_method_2_code 9 = .ok (.istore 4, 2) := by decide +kernel
theorem d_LV_create_11 : decode prog_1_method_2_code 11 = .ok (.iload_n 2, 1) := by decide +kernel
theorem d_LV_create_12 : decode prog_1_method_2_code 12 = .ok (.iconst 1, 1) := by decide +kernel
theorem d_LV_create_13 : decode prog_1_method_2_code 13 = .ok (.if_icmp .lt (10), 3) := by decide +kernel
theorem d_LV_create_16 : decode prog_1_method_2_code 16 = .ok (.iload_n 2, 1) := by decide +kernel
theorem d_LV_create_17 : decode prog_1_method_2_code 17 = .ok (.sipush (9999), 3) := by decide +kernel
theorem d_LV_create_20 : decode prog_1_method_2_code 20 = .ok (.if_icmp .le (11), 3) := by decide +kernel
theorem d_LV_create_23 : decode prog_1_method_2_code 23 = .ok (.new 62, 3) := by decide +kernel
theorem d_LV_create_26 : decode prog_1_method_2_code 26 = .ok (.dup, 1) := by decide +kernel
theorem d_LV_create_27 : decode prog_1_method_2_code 27 = .ok (.invokespecial 64, 3) := by decide +kernel
theorem d_LV_create_30 : decode prog_1_method_2_code 30 = .ok (.athrow, 1) := by decide +kernel
theorem d_LV_create_31 : decode prog_1_method_2_code 31 = .ok (.aload_n 0, 1) := by decide +kernel
theorem d_LV_create_32 : decode prog_1_method_2_code 32 = .ok (.getfield 33, 3) := by decide +kernel
theorem d_LV_create_35 : decode prog_1_method_2_code 35 = .ok (.iload 4, 2) := by decide +kernel
theorem d_LV_create_37 : decode prog_1_method_2_code 37 = .ok (.iload_n 2, 1) := by decide +kernel
theorem d_LV_create_38 : decode prog_1_method_2_code 38 = .ok (.invokevirtual 65, 3) := by decide +kernel
theorem d_LV_create_41 : decode prog_1_method_2_code 41 = .ok (.ifCond .eq (11), 3) := by decide +kernel
theorem d_LV_create_44 : decode prog_1_method_2_code 44 = .ok (.new 69, 3) := by decide +kernel
theorem d_LV_create_47 : decode prog_1_method_2_code 47 = .ok (.dup, 1) := by decide +kernel
theorem d_LV_create_48 : decode prog_1_method_2_code 48 = .ok (.invokespecial 71, 3) := by decide +kernel
theorem d_LV_create_51 : decode prog_1_method_2_code 51 = .ok (.athrow, 1) := by decide +kernel
theorem d_LV_create_52 : decode prog_1_method_2_code 52 = .ok (.aload_n 0, 1) := by decide +kernel
theorem d_LV_create_53 : decode prog_1_method_2_code 53 = .ok (.getfield 40, 3) := by decide +kernel
theorem d_LV_create_56 : decode prog_1_method_2_code 56 = .ok (.aload_n 0, 1) := by decide +kernel
theorem d_LV_create_57 : decode prog_1_method_2_code 57 = .ok (.getfield 33, 3) := by decide +kernel
theorem d_LV_create_60 : decode prog_1_method_2_code 60 = .ok (.invokevirtual 72, 3) := by decide +kernel
theorem d_LV_create_63 : decode prog_1_method_2_code 63 = .ok (.ifCond .eq (7), 3) := by decide +kernel
theorem d_LV_create_66 : decode prog_1_method_2_code 66 = .ok (.iconst 2, 1) := by decide +kernel
theorem d_LV_create_67 : decode prog_1_method_2_code 67 = .ok (.goto (4), 3) := by decide +kernel
theorem d_LV_create_70 : decode prog_1_method_2_code 70 = .ok (.iconst 1, 1) := by decide +kernel
theorem d_LV_create_71 : decode prog_1_method_2_code 71 = .ok (.invokevirtual 76, 3) := by decide +kernel
theorem d_LV_create_74 : decode prog_1_method_2_code 74 = .ok (.ifCond .ne (11), 3) := by decide +kernel
theorem d_LV_create_77 : decode prog_1_method_2_code 77 = .ok (.new 69, 3) := by decide +kernel
theorem d_LV_create_80 : decode prog_1_method_2_code 80 = .ok (.dup, 1) := by decide +kernel
theorem d_LV_create_81 : decode prog_1_method_2_code 81 = .ok (.invokespecial 71, 3) := by decide +kernel
theorem d_LV_create_84 : decode prog_1_method_2_code 84 = .ok (.athrow, 1) := by decide +kernel
theorem d_LV_create_85 : decode prog_1_method_2_code 85 = .ok (.aload_n 0, 1) := by decide +kernel
theorem d_LV_create_86 : decode prog_1_method_2_code 86 = .ok (.getfield 20, 3) := by decide +kernel
theorem d_LV_create_89 : decode prog_1_method_2_code 89 = .ok (.invokevirtual 80, 3) := by decide +kernel
theorem d_LV_create_92 : decode prog_1_method_2_code 92 = .ok (.istore 5, 2) := by decide +kernel
theorem d_LV_create_94 : decode prog_1_method_2_code 94 = .ok (.aload_n 0, 1) := by decide +kernel
theorem d_LV_create_95 : decode prog_1_method_2_code 95 = .ok (.getfield 40, 3) := by decide +kernel
theorem d_LV_create_98 : decode prog_1_method_2_code 98 = .ok (.invokevirtual 84, 3) := by decide +kernel
theorem d_LV_create_101 : decode prog_1_method_2_code 101 = .ok (.istore 6, 2) := by decide +kernel
theorem d_LV_create_103 : decode prog_1_method_2_code 103 = .ok (.aload_n 0, 1) := by decide +kernel
theorem d_LV_create_104 : decode prog_1_method_2_code 104 = .ok (.getfield 20, 3) := by decide +kernel
theorem d_LV_create_107 : decode prog_1_method_2_code 107 = .ok (.invokevirtual 87, 3) := by decide +kernel
theorem d_LV_create_110 : decode prog_1_method_2_code 110 = .ok (.aload_n 0, 1) := by decide +kernel
theorem d_LV_create_111 : decode prog_1_method_2_code 111 = .ok (.getfield 20, 3) := by decide +kernel
theorem d_LV_create_114 : decode prog_1_method_2_code 114 = .ok (.iload 6, 2) := by decide +kernel
theorem d_LV_create_116 : decode prog_1_method_2_code 116 = .ok (.iload 5, 2) := by decide +kernel
theorem d_LV_create_118 : decode prog_1_method_2_code 118 = .ok (.iload_n 2, 1) := by decide +kernel
theorem d_LV_create_119 : decode prog_1_method_2_code 119 = .ok (.iload_n 3, 1) := by decide +kernel
theorem d_LV_create_120 : decode prog_1_method_2_code 120 = .ok (.ifCond .eq (7), 3) := by decide +kernel
theorem d_LV_create_123 : decode prog_1_method_2_code 123 = .ok (.iconst 1, 1) := by decide +kernel
theorem d_LV_create_124 : decode prog_1_method_2_code 124 = .ok (.goto (4), 3) := by decide +kernel
theorem d_LV_create_127 : decode prog_1_method_2_code 127 = .ok (.iconst 0, 1) := by decide +kernel
theorem d_LV_create_128 : decode prog_1_method_2_code 128 = .ok (.invokevirtual 90, 3) := by decide +kernel
theorem d_LV_create_131 : decode prog_1_method_2_code 131 = .ok (.aload_n 0, 1) := by decide +kernel
theorem d_LV_create_132 : decode prog_1_method_2_code 132 = .ok (.iload 4, 2) := by decide +kernel
theorem d_LV_create_134 : decode prog_1_method_2_code 134 = .ok (.iload 6, 2) := by decide +kernel
theorem d_LV_create_136 : decode prog_1_method_2_code 136 = .ok (.invokevirtual 94, 3) := by decide +kernel
theorem d_LV_create_139 : decode prog_1_method_2_code 139 = .ok (.aload_n 0, 1) := by decide +kernel
theorem d_LV_create_140 : decode prog_1_method_2_code 140 = .ok (.getfield 40, 3) := by decide +kernel
theorem d_LV_create_143 : decode prog_1_method_2_code 143 = .ok (.invokevirtual 98, 3) := by decide +kernel
theorem d_LV_create_146 : decode prog_1_method_2_code 146 = .ok (.aload_n 0, 1) := by decide +kernel
theorem d_LV_create_147 : decode prog_1_method_2_code 147 = .ok (.getfield 24, 3) := by decide +kernel
theorem d_LV_create_150 : decode prog_1_method_2_code 150 = .ok (.iload 5, 2) := by decide +kernel
theorem d_LV_create_152 : decode prog_1_method_2_code 152 = .ok (.iload 6, 2) := by decide +kernel
theorem d_LV_create_154 : decode prog_1_method_2_code 154 = .ok (.invokevirtual 101, 3) := by decide +kernel
theorem d_LV_create_157 : decode prog_1_method_2_code 157 = .ok (.iload 5, 2) := by decide +kernel
theorem d_LV_create_159 : decode prog_1_method_2_code 159 = .ok (.ireturn, 1) := by decide +kernel
theorem d_LV_open_0 : decode prog_1_method_3_code 0 = .ok (.aload_n 0, 1) := by decide +kernel
theorem d_LV_open_1 : decode prog_1_method_3_code 1 = .ok (.invokevirtual 55, 3) := by decide +kernel
theorem d_LV_open_4 : decode prog_1_method_3_code 4 = .ok (.aload_n 0, 1) := by decide +kernel
theorem d_LV_open_5 : decode prog_1_method_3_code 5 = .ok (.getfield 20, 3) := by decide +kernel
theorem d_LV_open_8 : decode prog_1_method_3_code 8 = .ok (.aload_n 0, 1) := by decide +kernel
theorem d_LV_open_9 : decode prog_1_method_3_code 9 = .ok (.iload_n 1, 1) := by decide +kernel
theorem d_LV_open_10 : decode prog_1_method_3_code 10 = .ok (.iload_n 2, 1) := by decide +kernel
theorem d_LV_open_11 : decode prog_1_method_3_code 11 = .ok (.invokevirtual 104, 3) := by decide +kernel
theorem d_LV_open_14 : decode prog_1_method_3_code 14 = .ok (.iconst 0, 1) := by decide +kernel
theorem d_LV_open_15 : decode prog_1_method_3_code 15 = .ok (.invokevirtual 108, 3) := by decide +kernel
theorem d_LV_open_18 : decode prog_1_method_3_code 18 = .ok (.ireturn, 1) := by decide +kernel
theorem d_LV_read_0 : decode prog_1_method_4_code 0 = .ok (.aload_n 0, 1) := by decide +kernel
theorem d_LV_read_1 : decode prog_1_method_4_code 1 = .ok (.invokevirtual 55, 3) := by decide +kernel
theorem d_LV_read_4 : decode prog_1_method_4_code 4 = .ok (.aload_n 0, 1) := by decide +kernel
theorem d_LV_read_5 : decode prog_1_method_4_code 5 = .ok (.iload_n 1, 1) := by decide +kernel
theorem d_LV_read_6 : decode prog_1_method_4_code 6 = .ok (.invokevirtual 111, 3) := by decide +kernel
theorem d_LV_read_9 : decode prog_1_method_4_code 9 = .ok (.istore_n 3, 1) := by decide +kernel
theorem d_LV_read_10 : decode prog_1_method_4_code 10 = .ok (.aload_n 0, 1) := by decide +kernel
theorem d_LV_read_11 : decode prog_1_method_4_code 11 = .ok (.getfield 24, 3) := by decide +kernel
theorem d_LV_read_14 : decode prog_1_method_4_code 14 = .ok (.iload_n 3, 1) := by decide +kernel
theorem d_LV_read_15 : decode prog_1_method_4_code 15 = .ok (.invokevirtual 114, 3) := by decide +kernel
theorem d_LV_read_18 : decode prog_1_method_4_code 18 = .ok (.invokestatic 117, 3) := by decide +kernel
theorem d_LV_read_21 : decode prog_1_method_4_code 21 = .ok (.istore 4, 2) := by decide +kernel
theorem d_LV_read_23 : decode prog_1_method_4_code 23 = .ok (.iload_n 2, 1) := by decide +kernel
theorem d_LV_read_24 : decode prog_1_method_4_code 24 = .ok (.ifCond .lt (16), 3) := by decide +kernel
theorem d_LV_read_27 : decode prog_1_method_4_code 27 = .ok (.iload_n 2, 1) := by decide +kernel
theorem d_LV_read_28 : decode prog_1_method_4_code 28 = .ok (.aload_n 0, 1) := by decide +kernel
theorem d_LV_read_29 : decode prog_1_method_4_code 29 = .ok (.getfield 20, 3) := by decide +kernel
theorem d_LV_read_32 : decode prog_1_method_4_code 32 = .ok (.iload 4, 2) := by decide +kernel
theorem d_LV_read_34 : decode prog_1_method_4_code 34 = .ok (.invokevirtual 120, 3) := by decide +kernel
theorem d_LV_read_37 : decode prog_1_method_4_code 37 = .ok (.if_icmp .lt (11), 3) := by decide +kernel
theorem d_LV_read_40 : decode prog_1_method_4_code 40 = .ok (.new 123, 3) := by decide +kernel
theorem d_LV_read_43 : decode prog_1_method_4_code 43 = .ok (.dup, 1) := by decide +kernel
theorem d_LV_read_44 : decode prog_1_method_4_code 44 = .ok (.invokespecial 125, 3) := by decide +kernel
theorem d_LV_read_47 : decode prog_1_method_4_code 47 = .ok (.athrow, 1) := by decide +kernel
theorem d_LV_read_48 : decode prog_1_method_4_code 48 = .ok (.aload_n 0, 1) := by decide +kernel
theorem d_LV_read_49 : decode prog_1_method_4_code 49 = .ok (.getfield 20, 3) := by decide +kernel
theorem d_LV_read_52 : decode prog_1_method_4_code 52 = .ok (.aload_n 0, 1) := by decide +kernel
theorem d_LV_read_53 : decode prog_1_method_4_code 53 = .ok (.getfield 24, 3) := by decide +kernel
theorem d_LV_read_56 : decode prog_1_method_4_code 56 = .ok (.iload_n 3, 1) := by decide +kernel
theorem d_LV_read_57 : decode prog_1_method_4_code 57 = .ok (.iload 4, 2) := by decide +kernel
theorem d_LV_read_59 : decode prog_1_method_4_code 59 = .ok (.iload_n 2, 1) := by decide +kernel
theorem d_LV_read_60 : decode prog_1_method_4_code 60 = .ok (.bipush (8), 2) := by decide +kernel
theorem d_LV_read_62 : decode prog_1_method_4_code 62 = .ok (.idiv, 1) := by decide +kernel
theorem d_LV_read_63 : decode prog_1_method_4_code 63 = .ok (.iconst 1, 1) := by decide +kernel
theorem d_LV_read_64 : decode prog_1_method_4_code 64 = .ok (.iadd, 1) := by decide +kernel
theorem d_LV_read_65 : decode prog_1_method_4_code 65 = .ok (.invokevirtual 126, 3) := by decide +kernel
theorem d_LV_read_68 : decode prog_1_method_4_code 68 = .ok (.invokestatic 117, 3) := by decide +kernel
theorem d_LV_read_71 : decode prog_1_method_4_code 71 = .ok (.iload_n 2, 1) := by decide +kernel
theorem d_LV_read_72 : decode prog_1_method_4_code 72 = .ok (.bipush (8), 2) := by decide +kernel
theorem d_LV_read_74 : decode prog_1_method_4_code 74 = .ok (.irem, 1) := by decide +kernel
theorem d_LV_read_75 : decode prog_1_method_4_code 75 = .ok (.invokevirtual 130, 3) := by decide +kernel
theorem d_LV_read_78 : decode prog_1_method_4_code 78 = .ok (.ireturn, 1) := by decide +kernel
theorem d_LV_write_0 : decode prog_1_method_5_code 0 = .ok (.aload_n 0, 1) := by decide +kernel
theorem d_LV_write_1 : decode prog_1_method_5_code 1 = .ok (.invokevirtual 55, 3) := by decide +kernel
theorem d_LV_write_4 : decode prog_1_method_5_code 4 = .ok (.aload_n 0, 1) := by decide +kernel
theorem d_LV_write_5 : decode prog_1_method_5_code 5 = .ok (.iload_n 1, 1) := by decide +kernel
theorem d_LV_write_6 : decode prog_1_method_5_code 6 = .ok (.invokevirtual 133, 3) := by decide +kernel
theorem d_LV_write_9 : decode prog_1_method_5_code 9 = .ok (.istore 4, 2) := by decide +kernel
theorem d_LV_write_11 : decode prog_1_method_5_code 11 = .ok (.aload_n 0, 1) := by decide +kernel
theorem d_LV_write_12 : decode prog_1_method_5_code 12 = .ok (.getfield 24, 3) := by decide +kernel
theorem d_LV_write_15 : decode prog_1_method_5_code 15 = .ok (.iload 4, 2) := by decide +kernel
theorem d_LV_write_17 : decode prog_1_method_5_code 17 = .ok (.invokevirtual 114, 3) := by decide +kernel
theorem d_LV_write_20 : decode prog_1_method_5_code 20 = .ok (.invokestatic 117, 3) := by decide +kernel
theorem d_LV_write_23 : decode prog_1_method_5_code 23 = .ok (.istore 5, 2) := by decide +kernel
theorem d_LV_write_25 : decode prog_1_method_5_code 25 = .ok (.aload_n 0, 1) := by decide +kernel
theorem d_LV_write_26 : decode prog_1_method_5_code 26 = .ok (.getfield 20, 3) := by decide +kernel
theorem d_LV_write_29 : decode prog_1_method_5_code 29 = .ok (.iload 5, 2) := by decide +kernel
theorem d_LV_write_31 : decode prog_1_method_5_code 31 = .ok (.invokevirtual 120, 3) := by decide +kernel
theorem d_LV_write_34 : decode prog_1_method_5_code 34 = .ok (.istore 6, 2) := by decide +kernel
theorem d_LV_write_36 : decode prog_1_method_5_code 36 = .ok (.iload_n 2, 1) := by decide +kernel
theorem d_LV_write_37 : decode prog_1_method_5_code 37 = .ok (.ifCond .lt (9), 3) := by decide +kernel
theorem d_LV_write_40 : decode prog_1_method_5_code 40 = .ok (.iload_n 2, 1) := by decide +kernel
theorem d_LV_write_41 : decode prog_1_method_5_code 41 = .ok (.iload 6, 2) := by decide +kernel
theorem d_LV_write_43 : decode prog_1_method_5_code 43 = .ok (.if_icmp .le (11), 3) := by decide +kernel
theorem d_LV_write_46 : decode prog_1_method_5_code 46 = .ok (.new 123, 3) := by decide +kernel
theorem d_LV_write_49 : decode prog_1_method_5_code 49 = .ok (.dup, 1) := by decide +kernel
theorem d_LV_write_50 : decode prog_1_method_5_code 50 = .ok (.invokespecial 125, 3) := by decide +kernel
theorem d_LV_write_53 : decode prog_1_method_5_code 53 = .ok (.athrow, 1) := by decide +kernel
theorem d_LV_write_54 : decode prog_1_method_5_code 54 = .ok (.iload_n 2, 1) := by decide +kernel
theorem d_LV_write_55 : decode prog_1_method_5_code 55 = .ok (.iload 6, 2) := by decide +kernel
theorem d_LV_write_57 : decode prog_1_method_5_code 57 = .ok (.if_icmp .ne (13), 3) := by decide +kernel
theorem d_LV_write_60 : decode prog_1_method_5_code 60 = .ok (.aload_n 0, 1) := by decide +kernel
theorem d_LV_write_61 : decode prog_1_method_5_code 61 = .ok (.iload 4, 2) := by decide +kernel
theorem d_LV_write_63 : decode prog_1_method_5_code 63 = .ok (.iload 5, 2) := by decide +kernel
theorem d_LV_write_65 : decode prog_1_method_5_code 65 = .ok (.iload_n 3, 1) := by decide +kernel
theorem d_LV_write_66 : decode prog_1_method_5_code 66 = .ok (.invokevirtual 136, 3) := by decide +kernel
theorem d_LV_write_69 : decode prog_1_method_5_code 69 = .ok (.return_, 1) := by decide +kernel
theorem d_LV_write_70 : decode prog_1_method_5_code 70 = .ok (.aload_n 0, 1) := by decide +kernel
theorem d_LV_write_71 : decode prog_1_method_5_code 71 = .ok (.getfield 24, 3) := by decide +kernel
theorem d_LV_write_74 : decode prog_1_method_5_code 74 = .ok (.iload 4, 2) := by decide +kernel
theorem d_LV_write_76 : decode prog_1_method_5_code 76 = .ok (.iload 5, 2) := by decide +kernel
theorem d_LV_write_78 : decode prog_1_method_5_code 78 = .ok (.iload_n 2, 1) := by decide +kernel
theorem d_LV_write_79 : decode prog_1_method_5_code 79 = .ok (.bipush (8), 2) := by decide +kernel
theorem d_LV_write_81 : decode prog_1_method_5_code 81 = .ok (.idiv, 1) := by decide +kernel
theorem d_LV_write_82 : decode prog_1_method_5_code 82 = .ok (.iconst 1, 1) := by decide +kernel
theorem d_LV_write_83 : decode prog_1_method_5_code 83 = .ok (.iadd, 1) := by decide +kernel
theorem d_LV_write_84 : decode prog_1_method_5_code 84 = .ok (.invokevirtual 126, 3) := by decide +kernel
theorem d_LV_write_87 : decode prog_1_method_5_code 87 = .ok (.invokestatic 117, 3) := by decide +kernel
theorem d_LV_write_90 : decode prog_1_method_5_code 90 = .ok (.istore 7, 2) := by decide +kernel
theorem d_LV_write_92 : decode prog_1_method_5_code 92 = .ok (.aload_n 0, 1) := by decide +kernel
theorem d_LV_write_93 : decode prog_1_method_5_code 93 = .ok (.getfield 20, 3) := by decide +kernel
theorem d_LV_write_96 : decode prog_1_method_5_code 96 = .ok (.invokevirtual 87, 3) := by decide +kernel
theorem d_LV_write_99 : decode prog_1_method_5_code 99 = .ok (.aload_n 0, 1) := by decide +kernel
theorem d_LV_write_100 : decode prog_1_method_5_code 100 = .ok (.getfield 20, 3) := by decide +kernel
theorem d_LV_write_103 : decode prog_1_method_5_code 103 = .ok (.iload 7, 2) := by decide +kernel
theorem d_LV_write_105 : decode prog_1_method_5_code 105 = .ok (.iload_n 2, 1) := by decide +kernel
theorem d_LV_write_106 : decode prog_1_method_5_code 106 = .ok (.bipush (8), 2) := by decide +kernel
theorem d_LV_write_108 : decode prog_1_method_5_code 108 = .ok (.irem, 1) := by decide +kernel
theorem d_LV_write_109 : decode prog_1_method_5_code 109 = .ok (.iload_n 3, 1) := by decide +kernel
theorem d_LV_write_110 : decode prog_1_method_5_code 110 = .ok (.invokevirtual 140, 3) := by decide +kernel
theorem d_LV_write_113 : decode prog_1_method_5_code 113 = .ok (.return_, 1) := by decide +kernel
theorem d_LV_shorten_0 : decode prog_1_method_6_code 0 = .ok (.aload_n 0, 1) := by decide +kernel
theorem d_LV_shorten_1 : decode prog_1_method_6_code 1 = .ok (.invokevirtual 55, 3) := by decide +kernel
theorem d_LV_shorten_4 : decode prog_1_method_6_code 4 = .ok (.aload_n 0, 1) := by decide +kernel
theorem d_LV_shorten_5 : decode prog_1_method_6_code 5 = .ok (.iload_n 1, 1) := by decide +kernel
theorem d_LV_shorten_6 : decode prog_1_method_6_code 6 = .ok (.invokevirtual 133, 3) := by decide +kernel
theorem d_LV_shorten_9 : decode prog_1_method_6_code 9 = .ok (.istore_n 3, 1) := by decide +kernel
theorem d_LV_shorten_10 : decode prog_1_method_6_code 10 = .ok (.aload_n 0, 1) := by decide +kernel
theorem d_LV_shorten_11 : decode prog_1_method_6_code 11 = .ok (.getfield 24, 3) := by decide +kernel
theorem d_LV_shorten_14 : decode prog_1_method_6_code 14 = .ok (.iload_n 3, 1) := by decide +kernel
theorem d_LV_shorten_15 : decode prog_1_method_6_code 15 = .ok (.invokevirtual 114, 3) := by decide +kernel
theorem d_LV_shorten_18 : decode prog_1_method_6_code 18 = .ok (.invokestatic 117, 3) := by decide +kernel
theorem d_LV_shorten_21 : decode prog_1_method_6_code 21 = .ok (.istore 4, 2) := by decide +kernel
theorem d_LV_shorten_23 : decode prog_1_method_6_code 23 = .ok (.aload_n 0, 1) := by decide +kernel
theorem d_LV_shorten_24 : decode prog_1_method_6_code 24 = .ok (.getfield 20, 3) := by decide +kernel
theorem d_LV_shorten_27 : decode prog_1_method_6_code 27 = .ok (.iload 4, 2) := by decide +kernel
theorem d_LV_shorten_29 : decode prog_1_method_6_code 29 = .ok (.invokevirtual 120, 3) := by decide +kernel
theorem d_LV_shorten_32 : decode prog_1_method_6_code 32 = .ok (.istore 5, 2) := by decide +kernel
theorem d_LV_shorten_34 : decode prog_1_method_6_code 34 = .ok (.iload_n 2, 1) := by decide +kernel
theorem d_LV_shorten_35 : decode prog_1_method_6_code 35 = .ok (.ifCond .lt (9), 3) := by decide +kernel
theorem d_LV_shorten_38 : decode prog_1_method_6_code 38 = .ok (.iload_n 2, 1) := by decide +kernel
theorem d_LV_shorten_39 : decode prog_1_method_6_code 39 = .ok (.iload 5, 2) := by decide +kernel
theorem d_LV_shorten_41 : decode prog_1_method_6_code 41 = .ok (.if_icmp .le (11), 3) := by decide +kernel
theorem d_LV_shorten_44 : decode prog_1_method_6_code 44 = .ok (.new 123, 3) := by decide +kernel
theorem d_LV_shorten_47 : decode prog_1_method_6_code 47 = .ok (.dup, 1) := by decide +kernel
theorem d_LV_shorten_48 : decode prog_1_method_6_code 48 = .ok (.invokespecial 125, 3) := by decide +kernel
theorem d_LV_shorten_51 : decode prog_1_method_6_code 51 = .ok (.athrow, 1) := by decide +kernel
theorem d_LV_shorten_52 : decode prog_1_method_6_code 52 = .ok (.iload_n 2, 1) := by decide +kernel
theorem d_LV_shorten_53 : decode prog_1_method_6_code 53 = .ok (.iload 5, 2) := by decide +kernel
theorem d_LV_shorten_55 : decode prog_1_method_6_code 55 = .ok (.if_icmp .ne (4), 3) := by decide +kernel
theorem d_LV_shorten_58 : decode prog_1_method_6_code 58 = .ok (.return_, 1) := by decide +kernel
theorem d_LV_shorten_59 : decode prog_1_method_6_code 59 = .ok (.iload_n 2, 1) := by decide +kernel
theorem d_LV_shorten_60 : decode prog_1_method_6_code 60 = .ok (.bipush (8), 2) := by decide +kernel
theorem d_LV_shorten_62 : decode prog_1_method_6_code 62 = .ok (.iadd, 1) := by decide +kernel
theorem d_LV_shorten_63 : decode prog_1_method_6_code 63 = .ok (.iconst 1, 1) := by decide +kernel
theorem d_LV_shorten_64 : decode prog_1_method_6_code 64 = .ok (.isub, 1) := by decide +kernel
theorem d_LV_shorten_65 : decode prog_1_method_6_code 65 = .ok (.bipush (8), 2) := by decide +kernel
theorem d_LV_shorten_67 : decode prog_1_method_6_code 67 = .ok (.idiv, 1) := by decide +kernel
theorem d_LV_shorten_68 : decode prog_1_method_6_code 68 = .ok (.istore 6, 2) := by decide +kernel
theorem d_LV_shorten_70 : decode prog_1_method_6_code 70 = .ok (.aload_n 0, 1) := by decide +kernel
theorem d_LV_shorten_71 : decode prog_1_method_6_code 71 = .ok (.getfield 20, 3) := by decide +kernel
theorem d_LV_shorten_74 : decode prog_1_method_6_code 74 = .ok (.iload 4, 2) := by decide +kernel
theorem d_LV_shorten_76 : decode prog_1_method_6_code 76 = .ok (.iconst 1, 1) := by decide +kernel
theorem d_LV_shorten_77 : decode prog_1_method_6_code 77 = .ok (.invokevirtual 108, 3) := by decide +kernel
theorem d_LV_shorten_80 : decode prog_1_method_6_code 80 = .ok (.iload 6, 2) := by decide +kernel
theorem d_LV_shorten_82 : decode prog_1_method_6_code 82 = .ok (.if_icmp .le (14), 3) := by decide +kernel
theorem d_LV_shorten_85 : decode prog_1_method_6_code 85 = .ok (.aload_n 0, 1) := by decide +kernel
theorem d_LV_shorten_86 : decode prog_1_method_6_code 86 = .ok (.iload_n 3, 1) := by decide +kernel
theorem d_LV_shorten_87 : decode prog_1_method_6_code 87 = .ok (.iload 4, 2) := by decide +kernel
theorem d_LV_shorten_89 : decode prog_1_method_6_code 89 = .ok (.iload_n 2, 1) := by decide +kernel
theorem d_LV_shorten_90 : decode prog_1_method_6_code 90 = .ok (.iload 6, 2) := by decide +kernel
theorem d_LV_shorten_92 : decode prog_1_method_6_code 92 = .ok (.invokevirtual 143, 3) := by decide +kernel
theorem d_LV_shorten_95 : decode prog_1_method_6_code 95 = .ok (.return_, 1) := by decide +kernel
theorem d_LV_shorten_96 : decode prog_1_method_6_code 96 = .ok (.aload_n 0, 1) := by decide +kernel
theorem d_LV_shorten_97 : decode prog_1_method_6_code 97 = .ok (.getfield 20, 3) := by decide +kernel
theorem d_LV_shorten_100 : decode prog_1_method_6_code 100 = .ok (.invokevirtual 87, 3) := by decide +kernel
theorem d_LV_shorten_103 : decode prog_1_method_6_code 103 = .ok (.aload_n 0, 1) := by decide +kernel
theorem d_LV_shorten_104 : decode prog_1_method_6_code 104 = .ok (.getfield 20, 3) := by decide +kernel
theorem d_LV_shorten_107 : decode prog_1_method_6_code 107 = .ok (.iload 4, 2) := by decide +kernel
theorem d_LV_shorten_109 : decode prog_1_method_6_code 109 = .ok (.iload_n 2, 1) := by decide +kernel
theorem d_LV_shorten_110 : decode prog_1_method_6_code 110 = .ok (.invokevirtual 146, 3) := by decide +kernel
theorem d_LV_shorten_113 : decode prog_1_method_6_code 113 = .ok (.return_, 1) := by decide +kernel
theorem d_LV_remove_0 : decode prog_1_method_7_code 0 = .ok (.aload_n 0, 1) := by decide +kernel
theorem d_LV_remove_1 : decode prog_1_method_7_code 1 = .ok (.invokevirtual 55, 3) := by decide +kernel
theorem d_LV_remove_4 : decode prog_1_method_7_code 4 = .ok (.aload_n 0, 1) := by decide +kernel
theorem d_LV_remove_5 : decode prog_1_method_7_code 5 = .ok (.iload_n 1, 1) := by decide +kernel
theorem d_LV_remove_6 : decode prog_1_method_7_code 6 = .ok (.iload_n 2, 1) := by decide +kernel
theorem d_LV_remove_7 : decode prog_1_method_7_code 7 = .ok (.invokevirtual 104, 3) := by decide +kernel
theorem d_LV_remove_10 : decode prog_1_method_7_code 10 = .ok (.istore_n 3, 1) := by decide +kernel
theorem d_LV_remove_11 : decode prog_1_method_7_code 11 = .ok (.aload_n 0, 1) := by decide +kernel
theorem d_LV_remove_12 : decode prog_1_method_7_code 12 = .ok (.getfield 33, 3) := by decide +kernel
theorem d_LV_remove_15 : decode prog_1_method_7_code 15 = .ok (.invokevirtual 149, 3) := by decide +kernel
theorem d_LV_remove_18 : decode prog_1_method_7_code 18 = .ok (.istore 4, 2) := by decide +kernel
theorem d_LV_remove_20 : decode prog_1_method_7_code 20 = .ok (.aload_n 0, 1) := by decide +kernel
theorem d_LV_remove_21 : decode prog_1_method_7_code 21 = .ok (.getfield 33, 3) := by decide +kernel
theorem d_LV_remove_24 : decode prog_1_method_7_code 24 = .ok (.invokevirtual 152, 3) := by decide +kernel
theorem d_LV_remove_27 : decode prog_1_method_7_code 27 = .ok (.istore 5, 2) := by decide +kernel
theorem d_LV_remove_29 : decode prog_1_method_7_code 29 = .ok (.aload_n 0, 1) := by decide +kernel
theorem d_LV_remove_30 : decode prog_1_method_7_code 30 = .ok (.getfield 20, 3) := by decide +kernel
theorem d_LV_remove_33 : decode prog_1_method_7_code 33 = .ok (.iload_n 3, 1) := by decide +kernel
theorem d_LV_remove_34 : decode prog_1_method_7_code 34 = .ok (.invokevirtual 155, 3) := by decide +kernel
theorem d_LV_remove_37 : decode prog_1_method_7_code 37 = .ok (.ifCond .eq (22), 3) := by decide +kernel
theorem d_LV_remove_40 : decode prog_1_method_7_code 40 = .ok (.aload_n 0, 1) := by decide +kernel
theorem d_LV_remove_41 : decode prog_1_method_7_code 41 = .ok (.getfield 33, 3) := by decide +kernel
theorem d_LV_remove_44 : decode prog_1_method_7_code 44 = .ok (.iload_n 3, 1) := by decide +kernel
theorem d_LV_remove_45 : decode prog_1_method_7_code 45 = .ok (.invokevirtual 158, 3) := by decide +kernel
theorem d_LV_remove_48 : decode prog_1_method_7_code 48 = .ok (.ifCond .eq (11), 3) := by decide +kernel
theorem d_LV_remove_51 : decode prog_1_method_7_code 51 = .ok (.new 69, 3) := by decide +kernel
theorem d_LV_remove_54 : decode prog_1_method_7_code 54 = .ok (.dup, 1) := by decide +kernel
theorem d_LV_remove_55 : decode prog_1_method_7_code 55 = .ok (.invokespecial 71, 3) := by decide +kernel
theorem d_LV_remove_58 : decode prog_1_method_7_code 58 = .ok (.athrow, 1) := by decide +kernel
theorem d_LV_remove_59 : decode prog_1_method_7_code 59 = .ok (.aload_n 0, 1) := by decide +kernel
theorem d_LV_remove_60 : decode prog_1_method_7_code 60 = .ok (.aload_n 0, 1) := by decide +kernel
theorem d_LV_remove_61 : decode prog_1_method_7_code 61 = .ok (.getfield 24, 3) := by decide +kernel
theorem d_LV_remove_64 : decode prog_1_method_7_code 64 = .ok (.iload_n 3, 1) := by decide +kernel
theorem d_LV_remove_65 : decode prog_1_method_7_code 65 = .ok (.invokevirtual 114, 3) := by decide +kernel
theorem d_LV_remove_68 : decode prog_1_method_7_code 68 = .ok (.invokestatic 117, 3) := by decide +kernel
theorem d_LV_remove_71 : decode prog_1_method_7_code 71 = .ok (.iconst 1, 1) := by decide +kernel
theorem d_LV_remove_72 : decode prog_1_method_7_code 72 = .ok (.invokevirtual 161, 3) := by decide +kernel
theorem d_LV_remove_75 : decode prog_1_method_7_code 75 = .ok (.istore 6, 2) := by decide +kernel
theorem d_LV_remove_77 : decode prog_1_method_7_code 77 = .ok (.aload_n 0, 1) := by decide +kernel
theorem d_LV_remove_78 : decode prog_1_method_7_code 78 = .ok (.getfield 40, 3) := by decide +kernel
theorem d_LV_remove_81 : decode prog_1_method_7_code 81 = .ok (.invokevirtual 164, 3) := by decide +kernel
theorem d_LV_remove_84 : decode prog_1_method_7_code 84 = .ok (.aload_n 0, 1) := by decide +kernel
theorem d_LV_remove_85 : decode prog_1_method_7_code 85 = .ok (.getfield 20, 3) := by decide +kernel
theorem d_LV_remove_88 : decode prog_1_method_7_code 88 = .ok (.invokevirtual 87, 3) := by decide +kernel
theorem d_LV_remove_91 : decode prog_1_method_7_code 91 = .ok (.aload_n 0, 1) := by decide +kernel
theorem d_LV_remove_92 : decode prog_1_method_7_code 92 = .ok (.getfield 20, 3) := by decide +kernel
theorem d_LV_remove_95 : decode prog_1_method_7_code 95 = .ok (.iload 4, 2) := by decide +kernel
theorem d_LV_remove_97 : decode prog_1_method_7_code 97 = .ok (.iload 5, 2) := by decide +kernel
theorem d_LV_remove_99 : decode prog_1_method_7_code 99 = .ok (.invokevirtual 167, 3) := by decide +kernel
theorem d_LV_remove_102 : decode prog_1_method_7_code 102 = .ok (.aload_n 0, 1) := by decide +kernel
theorem d_LV_remove_103 : decode prog_1_method_7_code 103 = .ok (.getfield 20, 3) := by decide +kernel
theorem d_LV_remove_106 : decode prog_1_method_7_code 106 = .ok (.iload_n 3, 1) := by decide +kernel
theorem d_LV_remove_107 : decode prog_1_method_7_code 107 = .ok (.iconst 0, 1) := by decide +kernel
theorem d_LV_remove_108 : decode prog_1_method_7_code 108 = .ok (.invokevirtual 108, 3) := by decide +kernel
theorem d_LV_remove_111 : decode prog_1_method_7_code 111 = .ok (.istore 7, 2) := by decide +kernel
theorem d_LV_remove_113 : decode prog_1_method_7_code 113 = .ok (.aload_n 0, 1) := by decide +kernel
theorem d_LV_remove_114 : decode prog_1_method_7_code 114 = .ok (.iload 6, 2) := by decide +kernel
theorem d_LV_remove_116 : decode prog_1_method_7_code 116 = .ok (.invokevirtual 170, 3) := by decide +kernel
theorem d_LV_remove_119 : decode prog_1_method_7_code 119 = .ok (.aload_n 0, 1) := by decide +kernel
theorem d_LV_remove_120 : decode prog_1_method_7_code 120 = .ok (.getfield 40, 3) := by decide +kernel
theorem d_LV_remove_123 : decode prog_1_method_7_code 123 = .ok (.iload_n 3, 1) := by decide +kernel
theorem d_LV_remove_124 : decode prog_1_method_7_code 124 = .ok (.invokevirtual 174, 3) := by decide +kernel
theorem d_LV_remove_127 : decode prog_1_method_7_code 127 = .ok (.aload_n 0, 1) := by decide +kernel
theorem d_LV_remove_128 : decode prog_1_method_7_code 128 = .ok (.getfield 40, 3) := by decide +kernel
theorem d_LV_remove_131 : decode prog_1_method_7_code 131 = .ok (.invokevirtual 98, 3) := by decide +kernel
theorem d_LV_remove_134 : decode prog_1_method_7_code 134 = .ok (.aload_n 0, 1) := by decide +kernel
theorem d_LV_remove_135 : decode prog_1_method_7_code 135 = .ok (.getfield 24, 3) := by decide +kernel
theorem d_LV_remove_138 : decode prog_1_method_7_code 138 = .ok (.iload 7, 2) := by decide +kernel
theorem d_LV_remove_140 : decode prog_1_method_7_code 140 = .ok (.invokevirtual 177, 3) := by decide +kernel
theorem d_LV_remove_143 : decode prog_1_method_7_code 143 = .ok (.iload 6, 2) := by decide +kernel
theorem d_LV_remove_145 : decode prog_1_method_7_code 145 = .ok (.iconst 1, 1) := by decide +kernel
theorem d_LV_remove_146 : decode prog_1_method_7_code 146 = .ok (.iadd, 1) := by decide +kernel
theorem d_LV_remove_147 : decode prog_1_method_7_code 147 = .ok (.ireturn, 1) := by decide +kernel
theorem d_LV_length_0 : decode prog_1_method_8_code 0 = .ok (.aload_n 0, 1) := by decide +kernel
theorem d_LV_length_1 : decode prog_1_method_8_code 1 = .ok (.invokevirtual 55, 3) := by decide +kernel
theorem d_LV_length_4 : decode prog_1_method_8_code 4 = .ok (.aload_n 0, 1) := by decide +kernel
theorem d_LV_length_5 : decode prog_1_method_8_code 5 = .ok (.iload_n 1, 1) := by decide +kernel
theorem d_LV_length_6 : decode prog_1_method_8_code 6 = .ok (.invokevirtual 111, 3) := by decide +kernel
theorem d_LV_length_9 : decode prog_1_method_8_code 9 = .ok (.istore_n 2, 1) := by decide +kernel
theorem d_LV_length_10 : decode prog_1_method_8_code 10 = .ok (.aload_n 0, 1) := by decide +kernel
theorem d_LV_length_11 : decode prog_1_method_8_code 11 = .ok (.getfield 20, 3) := by decide +kernel
theorem d_LV_length_14 : decode prog_1_method_8_code 14 = .ok (.aload_n 0, 1) := by decide +kernel
theorem d_LV_length_15 : decode prog_1_method_8_code 15 = .ok (.getfield 24, 3) := by decide +kernel
theorem d_LV_length_18 : decode prog_1_method_8_code 18 = .ok (.iload_n 2, 1) := by decide +kernel
theorem d_LV_length_19 : decode prog_1_method_8_code 19 = .ok (.invokevirtual 114, 3) := by decide +kernel
theorem d_LV_length_22 : decode prog_1_method_8_code 22 = .ok (.invokestatic 117, 3) := by decide +kernel
theorem d_LV_length_25 : decode prog_1_method_8_code 25 = .ok (.invokevirtual 120, 3) := by decide +kernel
theorem d_LV_length_28 : decode prog_1_method_8_code 28 = .ok (.ireturn, 1) := by decide +kernel
theorem d_LV_entry_0 : decode prog_1_method_9_code 0 = .ok (.aload_n 0, 1) := by decide +kernel
theorem d_LV_entry_1 : decode prog_1_method_9_code 1 = .ok (.invokevirtual 55, 3) := by decide +kernel
theorem d_LV_entry_4 : decode prog_1_method_9_code 4 = .ok (.aload_n 0, 1) := by decide +kernel
theorem d_LV_entry_5 : decode prog_1_method_9_code 5 = .ok (.iload_n 1, 1) := by decide +kernel
theorem d_LV_entry_6 : decode prog_1_method_9_code 6 = .ok (.invokevirtual 58, 3) := by decide +kernel
theorem d_LV_entry_9 : decode prog_1_method_9_code 9 = .ok (.istore 4, 2) := by decide +kernel
theorem d_LV_entry_11 : decode prog_1_method_9_code 11 = .ok (.iload_n 3, 1) := by decide +kernel
theorem d_LV_entry_12 : decode prog_1_method_9_code 12 = .ok (.ifCond .lt (8), 3) := by decide +kernel
theorem d_LV_entry_15 : decode prog_1_method_9_code 15 = .ok (.iload_n 3, 1) := by decide +kernel
theorem d_LV_entry_16 : decode prog_1_method_9_code 16 = .ok (.iconst 2, 1) := by decide +kernel
theorem d_LV_entry_17 : decode prog_1_method_9_code 17 = .ok (.if_icmp .le (11), 3) := by decide +kernel
theorem d_LV_entry_20 : decode prog_1_method_9_code 20 = .ok (.new 62, 3) := by decide +kernel
theorem d_LV_entry_23 : decode prog_1_method_9_code 23 = .ok (.dup, 1) := by decide +kernel
theorem d_LV_entry_24 : decode prog_1_method_9_code 24 = .ok (.invokespecial 64, 3) := by decide +kernel
theorem d_LV_entry_27 : decode prog_1_method_9_code 27 = .ok (.athrow, 1) := by decide +kernel
theorem d_LV_entry_28 : decode prog_1_method_9_code 28 = .ok (.iload_n 2, 1) := by decide +kernel
theorem d_LV_entry_29 : decode prog_1_method_9_code 29 = .ok (.ifCond .lt (16), 3) := by decide +kernel
theorem d_LV_entry_32 : decode prog_1_method_9_code 32 = .ok (.aload_n 0, 1) := by decide +kernel
theorem d_LV_entry_33 : decode prog_1_method_9_code 33 = .ok (.getfield 33, 3) := by decide +kernel
theorem d_LV_entry_36 : decode prog_1_method_9_code 36 = .ok (.iload 4, 2) := by decide +kernel
theorem d_LV_entry_38 : decode prog_1_method_9_code 38 = .ok (.iload_n 2, 1) := by decide +kernel
theorem d_LV_entry_39 : decode prog_1_method_9_code 39 = .ok (.invokevirtual 180, 3) := by decide +kernel
theorem d_LV_entry_42 : decode prog_1_method_9_code 42 = .ok (.ifCond .ne (11), 3) := by decide +kernel
theorem d_LV_entry_45 : decode prog_1_method_9_code 45 = .ok (.new 183, 3) := by decide +kernel
theorem d_LV_entry_48 : decode prog_1_method_9_code 48 = .ok (.dup, 1) := by decide +kernel
theorem d_LV_entry_49 : decode prog_1_method_9_code 49 = .ok (.invokespecial 185, 3) := by decide +kernel
theorem d_LV_entry_52 : decode prog_1_method_9_code 52 = .ok (.athrow, 1) := by decide +kernel
theorem d_LV_entry_53 : decode prog_1_method_9_code 53 = .ok (.aload_n 0, 1) := by decide +kernel
theorem d_LV_entry_54 : decode prog_1_method_9_code 54 = .ok (.getfield 33, 3) := by decide +kernel
theorem d_LV_entry_57 : decode prog_1_method_9_code 57 = .ok (.invokevirtual 152, 3) := by decide +kernel
theorem d_LV_entry_60 : decode prog_1_method_9_code 60 = .ok (.istore 5, 2) := by decide +kernel
theorem d_LV_entry_62 : decode prog_1_method_9_code 62 = .ok (.iload_n 3, 1) := by decide +kernel
theorem d_LV_entry_63 : decode prog_1_method_9_code 63 = .ok (.ifCond .ne (20), 3) := by decide +kernel
theorem d_LV_entry_66 : decode prog_1_method_9_code 66 = .ok (.aload_n 0, 1) := by decide +kernel
theorem d_LV_entry_67 : decode prog_1_method_9_code 67 = .ok (.getfield 20, 3) := by decide +kernel
theorem d_LV_entry_70 : decode prog_1_method_9_code 70 = .ok (.aload_n 0, 1) := by decide +kernel
theorem d_LV_entry_71 : decode prog_1_method_9_code 71 = .ok (.getfield 33, 3) := by decide +kernel
theorem d_LV_entry_74 : decode prog_1_method_9_code 74 = .ok (.invokevirtual 149, 3) := by decide +kernel
theorem d_LV_entry_77 : decode prog_1_method_9_code 77 = .ok (.iload 5, 2) := by decide +kernel
theorem d_LV_entry_79 : decode prog_1_method_9_code 79 = .ok (.invokevirtual 186, 3) := by decide +kernel
theorem d_LV_entry_82 : decode prog_1_method_9_code 82 = .ok (.ireturn, 1) := by decide +kernel
theorem d_LV_entry_83 : decode prog_1_method_9_code 83 = .ok (.aload_n 0, 1) := by decide +kernel
theorem d_LV_entry_84 : decode prog_1_method_9_code 84 = .ok (.getfield 20, 3) := by decide +kernel
theorem d_LV_entry_87 : decode prog_1_method_9_code 87 = .ok (.aload_n 0, 1) := by decide +kernel
theorem d_LV_entry_88 : decode prog_1_method_9_code 88 = .ok (.getfield 33, 3) := by decide +kernel
theorem d_LV_entry_91 : decode prog_1_method_9_code 91 = .ok (.invokevirtual 149, 3) := by decide +kernel
theorem d_LV_entry_94 : decode prog_1_method_9_code 94 = .ok (.iload 5, 2) := by decide +kernel
theorem d_LV_entry_96 : decode prog_1_method_9_code 96 = .ok (.iload_n 3, 1) := by decide +kernel
theorem d_LV_entry_97 : decode prog_1_method_9_code 97 = .ok (.iconst 1, 1) := by decide +kernel
theorem d_LV_entry_98 : decode prog_1_method_9_code 98 = .ok (.if_icmp .ne (7), 3) := by decide +kernel
theorem d_LV_entry_101 : decode prog_1_method_9_code 101 = .ok (.iconst 2, 1) := by decide +kernel
theorem d_LV_entry_102 : decode prog_1_method_9_code 102 = .ok (.goto (4), 3) := by decide +kernel
theorem d_LV_entry_105 : decode prog_1_method_9_code 105 = .ok (.iconst 3, 1) := by decide +kernel
theorem d_LV_entry_106 : decode prog_1_method_9_code 106 = .ok (.iadd, 1) := by decide +kernel
theorem d_LV_entry_107 : decode prog_1_method_9_code 107 = .ok (.invokevirtual 130, 3) := by decide +kernel
theorem d_LV_entry_110 : decode prog_1_method_9_code 110 = .ok (.ireturn, 1) := by decide +kernel
theorem d_LV_scavenge_0 : decode prog_1_method_10_code 0 = .ok (.aload_n 0, 1) := by decide +kernel
theorem d_LV_scavenge_1 : decode prog_1_method_10_code 1 = .ok (.getfield 20, 3) := by decide +kernel
theorem d_LV_scavenge_4 : decode prog_1_method_10_code 4 = .ok (.invokevirtual 189, 3) := by decide +kernel
theorem d_LV_scavenge_7 : decode prog_1_method_10_code 7 = .ok (.aload_n 0, 1) := by decide +kernel
theorem d_LV_scavenge_8 : decode prog_1_method_10_code 8 = .ok (.getfield 24, 3) := by decide +kernel
theorem d_LV_scavenge_11 : decode prog_1_method_10_code 11 = .ok (.invokevirtual 192, 3) := by decide +kernel
theorem d_LV_scavenge_14 : decode prog_1_method_10_code 14 = .ok (.aload_n 0, 1) := by decide +kernel
theorem d_LV_scavenge_15 : decode prog_1_method_10_code 15 = .ok (.getfield 47, 3) := by decide +kernel
theorem d_LV_scavenge_18 : decode prog_1_method_10_code 18 = .ok (.invokevirtual 195, 3) := by decide +kernel
theorem d_LV_scavenge_21 : decode prog_1_method_10_code 21 = .ok (.aload_n 0, 1) := by decide +kernel
theorem d_LV_scavenge_22 : decode prog_1_method_10_code 22 = .ok (.getfield 47, 3) := by decide +kernel
theorem d_LV_scavenge_25 : decode prog_1_method_10_code 25 = .ok (.iconst 0, 1) := by decide +kernel
theorem d_LV_scavenge_26 : decode prog_1_method_10_code 26 = .ok (.invokevirtual 198, 3) := by decide +kernel
theorem d_LV_scavenge_29 : decode prog_1_method_10_code 29 = .ok (.ireturn, 1) := by decide +kernel
theorem d_LV_charge_0 : decode prog_1_method_11_code 0 = .ok (.iload_n 1, 1) := by decide +kernel
theorem d_LV_charge_1 : decode prog_1_method_11_code 1 = .ok (.ifCond .lt (9), 3) := by decide +kernel
theorem d_LV_charge_4 : decode prog_1_method_11_code 4 = .ok (.iload_n 1, 1) := by decide +kernel
theorem d_LV_charge_5 : decode prog_1_method_11_code 5 = .ok (.bipush (99), 2) := by decide +kernel
theorem d_LV_charge_7 : decode prog_1_method_11_code 7 = .ok (.if_icmp .le (11), 3) := by decide +kernel
theorem d_LV_charge_10 : decode prog_1_method_11_code 10 = .ok (.new 62, 3) := by decide +kernel
theorem d_LV_charge_13 : decode prog_1_method_11_code 13 = .ok (.dup, 1) := by decide +kernel
theorem d_LV_charge_14 : decode prog_1_method_11_code 14 = .ok (.invokespecial 64, 3) := by decide +kernel
theorem d_LV_charge_17 : decode prog_1_method_11_code 17 = .ok (.athrow, 1) := by decide +kernel
theorem d_LV_charge_18 : decode prog_1_method_11_code 18 = .ok (.aload_n 0, 1) := by decide +kernel
theorem d_LV_charge_19 : decode prog_1_method_11_code 19 = .ok (.invokevirtual 55, 3) := by decide +kernel
theorem d_LV_charge_22 : decode prog_1_method_11_code 22 = .ok (.aload_n 0, 1) := by decide +kernel
theorem d_LV_charge_23 : decode prog_1_method_11_code 23 = .ok (.getfield 20, 3) := by decide +kernel
theorem d_LV_charge_26 : decode prog_1_method_11_code 26 = .ok (.iload_n 1, 1) := by decide +kernel
theorem d_LV_charge_27 : decode prog_1_method_11_code 27 = .ok (.invokevirtual 201, 3) := by decide +kernel
theorem d_LV_charge_30 : decode prog_1_method_11_code 30 = .ok (.return_, 1) := by decide +kernel
theorem d_LV_spoil_0 : decode prog_1_method_12_code 0 = .ok (.iload_n 2, 1) := by decide +kernel
theorem d_LV_spoil_1 : decode prog_1_method_12_code 1 = .ok (.ifCond .lt (20), 3) := by decide +kernel
theorem d_LV_spoil_4 : decode prog_1_method_12_code 4 = .ok (.iload_n 2, 1) := by decide +kernel
theorem d_LV_spoil_5 : decode prog_1_method_12_code 5 = .ok (.bipush (8), 2) := by decide +kernel
theorem d_LV_spoil_7 : decode prog_1_method_12_code 7 = .ok (.if_icmp .ge (14), 3) := by decide +kernel
theorem d_LV_spoil_10 : decode prog_1_method_12_code 10 = .ok (.aload_n 0, 1) := by decide +kernel
theorem d_LV_spoil_11 : decode prog_1_method_12_code 11 = .ok (.getfield 20, 3) := by decide +kernel
theorem d_LV_spoil_14 : decode prog_1_method_12_code 14 = .ok (.iload_n 1, 1) := by decide +kernel
theorem d_LV_spoil_15 : decode prog_1_method_12_code 15 = .ok (.invokevirtual 204, 3) := by decide +kernel
theorem d_LV_spoil_18 : decode prog_1_method_12_code 18 = .ok (.ifCond .ne (5), 3) := by decide +kernel
theorem d_LV_spoil_21 : decode prog_1_method_12_code 21 = .ok (.iconst 0, 1) := by decide +kernel
theorem d_LV_spoil_22 : decode prog_1_method_12_code 22 = .ok (.ireturn, 1) := by decide +kernel
theorem d_LV_spoil_23 : decode prog_1_method_12_code 23 = .ok (.aload_n 0, 1) := by decide +kernel
theorem d_LV_spoil_24 : decode prog_1_method_12_code 24 = .ok (.getfield 20, 3) := by decide +kernel
theorem d_LV_spoil_27 : decode prog_1_method_12_code 27 = .ok (.iload_n 1, 1) := by decide +kernel
theorem d_LV_spoil_28 : decode prog_1_method_12_code 28 = .ok (.iload_n 2, 1) := by decide +kernel
theorem d_LV_spoil_29 : decode prog_1_method_12_code 29 = .ok (.iload_n 3, 1) := by decide +kernel
theorem d_LV_spoil_30 : decode prog_1_method_12_code 30 = .ok (.invokevirtual 140, 3) := by decide +kernel
theorem d_LV_spoil_33 : decode prog_1_method_12_code 33 = .ok (.iconst 1, 1) := by decide +kernel
theorem d_LV_spoil_34 : decode prog_1_method_12_code 34 = .ok (.ireturn, 1) := by decide +kernel
theorem d_LV_scratch_0 : decode prog_1_method_13_code 0 = .ok (.aload_n 0, 1) := by decide +kernel
theorem d_LV_scratch_1 : decode prog_1_method_13_code 1 = .ok (.getfield 20, 3) := by decide +kernel
theorem d_LV_scratch_4 : decode prog_1_method_13_code 4 = .ok (.iload_n 1, 1) := by decide +kernel
theorem d_LV_scratch_5 : decode prog_1_method_13_code 5 = .ok (.invokevirtual 207, 3) := by decide +kernel
theorem d_LV_scratch_8 : decode prog_1_method_13_code 8 = .ok (.ifCond .ne (5), 3) := by decide +kernel
theorem d_LV_scratch_11 : decode prog_1_method_13_code 11 = .ok (.iconst 0, 1) := by decide +kernel
theorem d_LV_scratch_12 : decode prog_1_method_13_code 12 = .ok (.ireturn, 1) := by decide +kernel
theorem d_LV_scratch_13 : decode prog_1_method_13_code 13 = .ok (.aload_n 0, 1) := by decide +kernel
theorem d_LV_scratch_14 : decode prog_1_method_13_code 14 = .ok (.getfield 20, 3) := by decide +kernel
theorem d_LV_scratch_17 : decode prog_1_method_13_code 17 = .ok (.iload_n 1, 1) := by decide +kernel
theorem d_LV_scratch_18 : decode prog_1_method_13_code 18 = .ok (.invokevirtual 210, 3) := by decide +kernel
theorem d_LV_scratch_21 : decode prog_1_method_13_code 21 = .ok (.iconst 1, 1) := by decide +kernel
theorem d_LV_scratch_22 : decode prog_1_method_13_code 22 = .ok (.ireturn, 1) := by decide +kernel
theorem d_LV_ghost_0 : decode prog_1_method_14_code 0 = .ok (.aload_n 0, 1) := by decide +kernel
theorem d_LV_ghost_1 : decode prog_1_method_14_code 1 = .ok (.getfield 20, 3) := by decide +kernel
theorem d_LV_ghost_4 : decode prog_1_method_14_code 4 = .ok (.iload_n 1, 1) := by decide +kernel
theorem d_LV_ghost_5 : decode prog_1_method_14_code 5 = .ok (.invokevirtual 204, 3) := by decide +kernel
theorem d_LV_ghost_8 : decode prog_1_method_14_code 8 = .ok (.ifCond .eq (14), 3) := by decide +kernel
theorem d_LV_ghost_11 : decode prog_1_method_14_code 11 = .ok (.aload_n 0, 1) := by decide +kernel
theorem d_LV_ghost_12 : decode prog_1_method_14_code 12 = .ok (.getfield 20, 3) := by decide +kernel
theorem d_LV_ghost_15 : decode prog_1_method_14_code 15 = .ok (.iload_n 2, 1) := by decide +kernel
theorem d_LV_ghost_16 : decode prog_1_method_14_code 16 = .ok (.invokevirtual 213, 3) := by decide +kernel
theorem d_LV_ghost_19 : decode prog_1_method_14_code 19 = .ok (.ifCond .ne (5), 3) := by decide +kernel
theorem d_LV_ghost_22 : decode prog_1_method_14_code 22 = .ok (.iconst 0, 1) := by decide +kernel
theorem d_LV_ghost_23 : decode prog_1_method_14_code 23 = .ok (.ireturn, 1) := by decide +kernel
theorem d_LV_ghost_24 : decode prog_1_method_14_code 24 = .ok (.aload_n 0, 1) := by decide +kernel
theorem d_LV_ghost_25 : decode prog_1_method_14_code 25 = .ok (.getfield 20, 3) := by decide +kernel
theorem d_LV_ghost_28 : decode prog_1_method_14_code 28 = .ok (.iload_n 1, 1) := by decide +kernel
theorem d_LV_ghost_29 : decode prog_1_method_14_code 29 = .ok (.iload_n 2, 1) := by decide +kernel
theorem d_LV_ghost_30 : decode prog_1_method_14_code 30 = .ok (.invokevirtual 216, 3) := by decide +kernel
theorem d_LV_ghost_33 : decode prog_1_method_14_code 33 = .ok (.iconst 1, 1) := by decide +kernel
theorem d_LV_ghost_34 : decode prog_1_method_14_code 34 = .ok (.ireturn, 1) := by decide +kernel
theorem d_LV_label_0 : decode prog_1_method_15_code 0 = .ok (.iload_n 2, 1) := by decide +kernel
theorem d_LV_label_1 : decode prog_1_method_15_code 1 = .ok (.ifCond .lt (8), 3) := by decide +kernel
theorem d_LV_label_4 : decode prog_1_method_15_code 4 = .ok (.iload_n 2, 1) := by decide +kernel
theorem d_LV_label_5 : decode prog_1_method_15_code 5 = .ok (.iconst 5, 1) := by decide +kernel
theorem d_LV_label_6 : decode prog_1_method_15_code 6 = .ok (.if_icmp .lt (7), 3) := by decide +kernel
theorem d_LV_label_9 : decode prog_1_method_15_code 9 = .ok (.iconst (-1), 1) := by decide +kernel
theorem d_LV_label_10 : decode prog_1_method_15_code 10 = .ok (.goto (12), 3) := by decide +kernel
theorem d_LV_label_13 : decode prog_1_method_15_code 13 = .ok (.aload_n 0, 1) := by decide +kernel
theorem d_LV_label_14 : decode prog_1_method_15_code 14 = .ok (.getfield 20, 3) := by decide +kernel
theorem d_LV_label_17 : decode prog_1_method_15_code 17 = .ok (.iload_n 1, 1) := by decide +kernel
theorem d_LV_label_18 : decode prog_1_method_15_code 18 = .ok (.iload_n 2, 1) := by decide +kernel
theorem d_LV_label_19 : decode prog_1_method_15_code 19 = .ok (.invokevirtual 108, 3) := by decide +kernel
theorem d_LV_label_22 : decode prog_1_method_15_code 22 = .ok (.ireturn, 1) := by decide +kernel
theorem d_LV_data_0 : decode prog_1_method_16_code 0 = .ok (.iload_n 2, 1) := by decide +kernel
theorem d_LV_data_1 : decode prog_1_method_16_code 1 = .ok (.ifCond .lt (9), 3) := by decide +kernel
theorem d_LV_data_4 : decode prog_1_method_16_code 4 = .ok (.iload_n 2, 1) := by decide +kernel
theorem d_LV_data_5 : decode prog_1_method_16_code 5 = .ok (.bipush (8), 2) := by decide +kernel
theorem d_LV_data_7 : decode prog_1_method_16_code 7 = .ok (.if_icmp .lt (7), 3) := by decide +kernel
theorem d_LV_data_10 : decode prog_1_method_16_code 10 = .ok (.iconst (-1), 1) := by decide +kernel
theorem d_LV_data_11 : decode prog_1_method_16_code 11 = .ok (.goto (12), 3) := by decide +kernel
theorem d_LV_data_14 : decode prog_1_method_16_code 14 = .ok (.aload_n 0, 1) := by decide +kernel
theorem d_LV_data_15 : decode prog_1_method_16_code 15 = .ok (.getfield 20, 3) := by decide +kernel
theorem d_LV_data_18 : decode prog_1_method_16_code 18 = .ok (.iload_n 1, 1) := by decide +kernel
theorem d_LV_data_19 : decode prog_1_method_16_code 19 = .ok (.iload_n 2, 1) := by decide +kernel
theorem d_LV_data_20 : decode prog_1_method_16_code 20 = .ok (.invokevirtual 130, 3) := by decide +kernel
theorem d_LV_data_23 : decode prog_1_method_16_code 23 = .ok (.ireturn, 1) := by decide +kernel
theorem d_LV_state_0 : decode prog_1_method_17_code 0 = .ok (.iload_n 1, 1) := by decide +kernel
theorem d_LV_state_1 : decode prog_1_method_17_code 1 = .ok (.tableswitch (83) 0 4 #[(35), (43), (51), (59), (67)], 35) := by decide +kernel
theorem d_LV_state_36 : decode prog_1_method_17_code 36 = .ok (.aload_n 0, 1) := by decide +kernel
theorem d_LV_state_37 : decode prog_1_method_17_code 37 = .ok (.getfield 20, 3) := by decide +kernel
theorem d_LV_state_40 : decode prog_1_method_17_code 40 = .ok (.invokevirtual 219, 3) := by decide +kernel
theorem d_LV_state_43 : decode prog_1_method_17_code 43 = .ok (.ireturn, 1) := by decide +kernel
theorem d_LV_state_44 : decode prog_1_method_17_code 44 = .ok (.aload_n 0, 1) := by decide +kernel
theorem d_LV_state_45 : decode prog_1_method_17_code 45 = .ok (.getfield 20, 3) := by decide +kernel
theorem d_LV_state_48 : decode prog_1_method_17_code 48 = .ok (.invokevirtual 222, 3) := by decide +kernel
theorem d_LV_state_51 : decode prog_1_method_17_code 51 = .ok (.ireturn, 1) := by decide +kernel
theorem d_LV_state_52 : decode prog_1_method_17_code 52 = .ok (.aload_n 0, 1) := by decide +kernel
theorem d_LV_state_53 : decode prog_1_method_17_code 53 = .ok (.getfield 20, 3) := by decide +kernel
theorem d_LV_state_56 : decode prog_1_method_17_code 56 = .ok (.invokevirtual 225, 3) := by decide +kernel
theorem d_LV_state_59 : decode prog_1_method_17_code 59 = .ok (.ireturn, 1) := by decide +kernel
theorem d_LV_state_60 : decode prog_1_method_17_code 60 = .ok (.aload_n 0, 1) := by decide +kernel
theorem d_LV_state_61 : decode prog_1_method_17_code 61 = .ok (.getfield 20, 3) := by decide +kernel
theorem d_LV_state_64 : decode prog_1_method_17_code 64 = .ok (.invokevirtual 228, 3) := by decide +kernel
theorem d_LV_state_67 : decode prog_1_method_17_code 67 = .ok (.ireturn, 1) := by decide +kernel
theorem d_LV_state_68 : decode prog_1_method_17_code 68 = .ok (.aload_n 0, 1) := by decide +kernel
theorem d_LV_state_69 : decode prog_1_method_17_code 69 = .ok (.getfield 20, 3) := by decide +kernel
theorem d_LV_state_72 : decode prog_1_method_17_code 72 = .ok (.invokevirtual 231, 3) := by decide +kernel
theorem d_LV_state_75 : decode prog_1_method_17_code 75 = .ok (.ifCond .eq (7), 3) := by decide +kernel
theorem d_LV_state_78 : decode prog_1_method_17_code 78 = .ok (.iconst 1, 1) := by decide +kernel
theorem d_LV_state_79 : decode prog_1_method_17_code 79 = .ok (.goto (4), 3) := by decide +kernel
theorem d_LV_state_82 : decode prog_1_method_17_code 82 = .ok (.iconst 0, 1) := by decide +kernel
theorem d_LV_state_83 : decode prog_1_method_17_code 83 = .ok (.ireturn, 1) := by decide +kernel
theorem d_LV_state_84 : decode prog_1_method_17_code 84 = .ok (.iconst (-1), 1) := by decide +kernel
theorem d_LV_state_85 : decode prog_1_method_17_code 85 = .ok (.ireturn, 1) := by decide +kernel
theorem d_LV_report_0 : decode prog_1_method_18_code 0 = .ok (.aload_n 0, 1) := by decide +kernel
theorem d_LV_report_1 : decode prog_1_method_18_code 1 = .ok (.getfield 47, 3) := by decide +kernel
theorem d_LV_report_4 : decode prog_1_method_18_code 4 = .ok (.iload_n 1, 1) := by decide +kernel
theorem d_LV_report_5 : decode prog_1_method_18_code 5 = .ok (.invokevirtual 198, 3) := by decide +kernel
theorem d_LV_report_8 : decode prog_1_method_18_code 8 = .ok (.ireturn, 1) := by decide +kernel
theorem d_LV_requirePower_0 : decode prog_1_method_19_code 0 = .ok (.aload_n 0, 1) := by decide +kernel
theorem d_LV_requirePower_1 : decode prog_1_method_19_code 1 = .ok (.getfield 20, 3) := by decide +kernel
theorem d_LV_requirePower_4 : decode prog_1_method_19_code 4 = .ok (.invokevirtual 231, 3) := by decide +kernel
theorem d_LV_requirePower_7 : decode prog_1_method_19_code 7 = .ok (.ifCond .ne (11), 3) := by decide +kernel
theorem d_LV_requirePower_10 : decode prog_1_method_19_code 10 = .ok (.new 234, 3) := by decide +kernel
theorem d_LV_requirePower_13 : decode prog_1_method_19_code 13 = .ok (.dup, 1) := by decide +kernel
theorem d_LV_requirePower_14 : decode prog_1_method_19_code 14 = .ok (.invokespecial 236, 3) := by decide +kernel
theorem d_LV_requirePower_17 : decode prog_1_method_19_code 17 = .ok (.athrow, 1) := by decide +kernel
theorem d_LV_requirePower_18 : decode prog_1_method_19_code 18 = .ok (.return_, 1) := by decide +kernel
theorem d_LV_requireLeader_0 : decode prog_1_method_20_code 0 = .ok (.aload_n 0, 1) := by decide +kernel
theorem d_LV_requireLeader_1 : decode prog_1_method_20_code 1 = .ok (.getfield 24, 3) := by decide +kernel
theorem d_LV_requireLeader_4 : decode prog_1_method_20_code 4 = .ok (.iload_n 1, 1) := by decide +kernel
theorem d_LV_requireLeader_5 : decode prog_1_method_20_code 5 = .ok (.invokevirtual 237, 3) := by decide +kernel
theorem d_LV_requireLeader_8 : decode prog_1_method_20_code 8 = .ok (.istore_n 2, 1) := by decide +kernel
theorem d_LV_requireLeader_9 : decode prog_1_method_20_code 9 = .ok (.iload_n 2, 1) := by decide +kernel
theorem d_LV_requireLeader_10 : decode prog_1_method_20_code 10 = .ok (.iconst (-1), 1) := by decide +kernel
theorem d_LV_requireLeader_11 : decode prog_1_method_20_code 11 = .ok (.if_icmp .ne (11), 3) := by decide +kernel
theorem d_LV_requireLeader_14 : decode prog_1_method_20_code 14 = .ok (.new 183, 3) := by decide +kernel
theorem d_LV_requireLeader_17 : decode prog_1_method_20_code 17 = .ok (.dup, 1) := by decide +kernel
theorem d_LV_requireLeader_18 : decode prog_1_method_20_code 18 = .ok (.invokespecial 185, 3) := by decide +kernel
theorem d_LV_requireLeader_21 : decode prog_1_method_20_code 21 = .ok (.athrow, 1) := by decide +kernel
theorem d_LV_requireLeader_22 : decode prog_1_method_20_code 22 = .ok (.iload_n 2, 1) := by decide +kernel
theorem d_LV_requireLeader_23 : decode prog_1_method_20_code 23 = .ok (.ireturn, 1) := by decide +kernel
theorem d_LV_requireDirectory_0 : decode prog_1_method_21_code 0 = .ok (.aload_n 0, 1) := by decide +kernel
theorem d_LV_requireDirectory_1 : decode prog_1_method_21_code 1 = .ok (.iload_n 1, 1) := by decide +kernel
theorem d_LV_requireDirectory_2 : decode prog_1_method_21_code 2 = .ok (.invokevirtual 111, 3) := by decide +kernel
theorem d_LV_requireDirectory_5 : decode prog_1_method_21_code 5 = .ok (.istore_n 2, 1) := by decide +kernel
theorem d_LV_requireDirectory_6 : decode prog_1_method_21_code 6 = .ok (.aload_n 0, 1) := by decide +kernel
theorem d_LV_requireDirectory_7 : decode prog_1_method_21_code 7 = .ok (.getfield 20, 3) := by decide +kernel
theorem d_LV_requireDirectory_10 : decode prog_1_method_21_code 10 = .ok (.iload_n 2, 1) := by decide +kernel
theorem d_LV_requireDirectory_11 : decode prog_1_method_21_code 11 = .ok (.invokevirtual 155, 3) := by decide +kernel
theorem d_LV_requireDirectory_14 : decode prog_1_method_21_code 14 = .ok (.ifCond .ne (11), 3) := by decide +kernel
theorem d_LV_requireDirectory_17 : decode prog_1_method_21_code 17 = .ok (.new 62, 3) := by decide +kernel
theorem d_LV_requireDirectory_20 : decode prog_1_method_21_code 20 = .ok (.dup, 1) := by decide +kernel
theorem d_LV_requireDirectory_21 : decode prog_1_method_21_code 21 = .ok (.invokespecial 64, 3) := by decide +kernel
theorem d_LV_requireDirectory_24 : decode prog_1_method_21_code 24 = .ok (.athrow, 1) := by decide +kernel
theorem d_LV_requireDirectory_25 : decode prog_1_method_21_code 25 = .ok (.iload_n 2, 1) := by decide +kernel
theorem d_LV_requireDirectory_26 : decode prog_1_method_21_code 26 = .ok (.ireturn, 1) := by decide +kernel
theorem d_LV_requirePlainFile_0 : decode prog_1_method_22_code 0 = .ok (.aload_n 0, 1) := by decide +kernel
theorem d_LV_requirePlainFile_1 : decode prog_1_method_22_code 1 = .ok (.iload_n 1, 1) := by decide +kernel
theorem d_LV_requirePlainFile_2 : decode prog_1_method_22_code 2 = .ok (.invokevirtual 111, 3) := by decide +kernel
theorem d_LV_requirePlainFile_5 : decode prog_1_method_22_code 5 = .ok (.istore_n 2, 1) := by decide +kernel
theorem d_LV_requirePlainFile_6 : decode prog_1_method_22_code 6 = .ok (.iload_n 1, 1) := by decide +kernel
theorem d_LV_requirePlainFile_7 : decode prog_1_method_22_code 7 = .ok (.iconst 2, 1) := by decide +kernel
theorem d_LV_requirePlainFile_8 : decode prog_1_method_22_code 8 = .ok (.if_icmp .eq (14), 3) := by decide +kernel
theorem d_LV_requirePlainFile_11 : decode prog_1_method_22_code 11 = .ok (.aload_n 0, 1) := by decide +kernel
theorem d_LV_requirePlainFile_12 : decode prog_1_method_22_code 12 = .ok (.getfield 20, 3) := by decide +kernel
theorem d_LV_requirePlainFile_15 : decode prog_1_method_22_code 15 = .ok (.iload_n 2, 1) := by decide +kernel
theorem d_LV_requirePlainFile_16 : decode prog_1_method_22_code 16 = .ok (.invokevirtual 155, 3) := by decide +kernel
theorem d_LV_requirePlainFile_19 : decode prog_1_method_22_code 19 = .ok (.ifCond .eq (11), 3) := by decide +kernel
theorem d_LV_requirePlainFile_22 : decode prog_1_method_22_code 22 = .ok (.new 62, 3) := by decide +kernel
theorem d_LV_requirePlainFile_25 : decode prog_1_method_22_code 25 = .ok (.dup, 1) := by decide +kernel
theorem d_LV_requirePlainFile_26 : decode prog_1_method_22_code 26 = .ok (.invokespecial 64, 3) := by decide +kernel
theorem d_LV_requirePlainFile_29 : decode prog_1_method_22_code 29 = .ok (.athrow, 1) := by decide +kernel
theorem d_LV_requirePlainFile_30 : decode prog_1_method_22_code 30 = .ok (.iload_n 2, 1) := by decide +kernel
theorem d_LV_requirePlainFile_31 : decode prog_1_method_22_code 31 = .ok (.ireturn, 1) := by decide +kernel
theorem d_LV_unbroken_0 : decode prog_1_method_23_code 0 = .ok (.iload_n 0, 1) := by decide +kernel
theorem d_LV_unbroken_1 : decode prog_1_method_23_code 1 = .ok (.iconst (-1), 1) := by decide +kernel
theorem d_LV_unbroken_2 : decode prog_1_method_23_code 2 = .ok (.if_icmp .ne (11), 3) := by decide +kernel
theorem d_LV_unbroken_5 : decode prog_1_method_23_code 5 = .ok (.new 69, 3) := by decide +kernel
theorem d_LV_unbroken_8 : decode prog_1_method_23_code 8 = .ok (.dup, 1) := by decide +kernel
theorem d_LV_unbroken_9 : decode prog_1_method_23_code 9 = .ok (.invokespecial 71, 3) := by decide +kernel
theorem d_LV_unbroken_12 : decode prog_1_method_23_code 12 = .ok (.athrow, 1) := by decide +kernel
theorem d_LV_unbroken_13 : decode prog_1_method_23_code 13 = .ok (.iload_n 0, 1) := by decide +kernel
theorem d_LV_unbroken_14 : decode prog_1_method_23_code 14 = .ok (.ireturn, 1) := by decide +kernel
theorem d_LV_leaderOfEntry_0 : decode prog_1_method_24_code 0 = .ok (.aload_n 0, 1) := by decide +kernel
theorem d_LV_leaderOfEntry_1 : decode prog_1_method_24_code 1 = .ok (.iload_n 1, 1) := by decide +kernel
theorem d_LV_leaderOfEntry_2 : decode prog_1_method_24_code 2 = .ok (.invokevirtual 58, 3) := by decide +kernel
theorem d_LV_leaderOfEntry_5 : decode prog_1_method_24_code 5 = .ok (.istore_n 3, 1) := by decide +kernel
theorem d_LV_leaderOfEntry_6 : decode prog_1_method_24_code 6 = .ok (.aload_n 0, 1) := by decide +kernel
theorem d_LV_leaderOfEntry_7 : decode prog_1_method_24_code 7 = .ok (.getfield 33, 3) := by decide +kernel
theorem d_LV_leaderOfEntry_10 : decode prog_1_method_24_code 10 = .ok (.iload_n 3, 1) := by decide +kernel
theorem d_LV_leaderOfEntry_11 : decode prog_1_method_24_code 11 = .ok (.iload_n 2, 1) := by decide +kernel
theorem d_LV_leaderOfEntry_12 : decode prog_1_method_24_code 12 = .ok (.invokevirtual 65, 3) := by decide +kernel
theorem d_LV_leaderOfEntry_15 : decode prog_1_method_24_code 15 = .ok (.ifCond .ne (11), 3) := by decide +kernel
theorem d_LV_leaderOfEntry_18 : decode prog_1_method_24_code 18 = .ok (.new 183, 3) := by decide +kernel
theorem d_LV_leaderOfEntry_21 : decode prog_1_method_24_code 21 = .ok (.dup, 1) := by decide +kernel
theorem d_LV_leaderOfEntry_22 : decode prog_1_method_24_code 22 = .ok (.invokespecial 185, 3) := by decide +kernel
theorem d_LV_leaderOfEntry_25 : decode prog_1_method_24_code 25 = .ok (.athrow, 1) := by decide +kernel
theorem d_LV_leaderOfEntry_26 : decode prog_1_method_24_code 26 = .ok (.aload_n 0, 1) := by decide +kernel
theorem d_LV_leaderOfEntry_27 : decode prog_1_method_24_code 27 = .ok (.getfield 33, 3) := by decide +kernel
theorem d_LV_leaderOfEntry_30 : decode prog_1_method_24_code 30 = .ok (.invokevirtual 240, 3) := by decide +kernel
theorem d_LV_leaderOfEntry_33 : decode prog_1_method_24_code 33 = .ok (.istore 4, 2) := by decide +kernel
theorem d_LV_leaderOfEntry_35 : decode prog_1_method_24_code 35 = .ok (.iload 4, 2) := by decide +kernel
theorem d_LV_leaderOfEntry_37 : decode prog_1_method_24_code 37 = .ok (.iconst 3, 1) := by decide +kernel
theorem d_LV_leaderOfEntry_38 : decode prog_1_method_24_code 38 = .ok (.if_icmp .lt (10), 3) := by decide +kernel
theorem d_LV_leaderOfEntry_41 : decode prog_1_method_24_code 41 = .ok (.iload 4, 2) := by decide +kernel
theorem d_LV_leaderOfEntry_43 : decode prog_1_method_24_code 43 = .ok (.bipush (60), 2) := by decide +kernel
theorem d_LV_leaderOfEntry_45 : decode prog_1_method_24_code 45 = .ok (.if_icmp .le (11), 3) := by decide +kernel
theorem d_LV_leaderOfEntry_48 : decode prog_1_method_24_code 48 = .ok (.new 183, 3) := by decide +kernel
theorem d_LV_leaderOfEntry_51 : decode prog_1_method_24_code 51 = .ok (.dup, 1) := by decide +kernel
theorem d_LV_leaderOfEntry_52 : decode prog_1_method_24_code 52 = .ok (.invokespecial 185, 3) := by decide +kernel
theorem d_LV_leaderOfEntry_55 : decode prog_1_method_24_code 55 = .ok (.athrow, 1) := by decide +kernel
theorem d_LV_leaderOfEntry_56 : decode prog_1_method_24_code 56 = .ok (.aload_n 0, 1) := by decide +kernel
theorem d_LV_leaderOfEntry_57 : decode prog_1_method_24_code 57 = .ok (.getfield 20, 3) := by decide +kernel
theorem d_LV_leaderOfEntry_60 : decode prog_1_method_24_code 60 = .ok (.aload_n 0, 1) := by decide +kernel
theorem d_LV_leaderOfEntry_61 : decode prog_1_method_24_code 61 = .ok (.getfield 33, 3) := by decide +kernel
theorem d_LV_leaderOfEntry_64 : decode prog_1_method_24_code 64 = .ok (.invokevirtual 149, 3) := by decide +kernel
theorem d_LV_leaderOfEntry_67 : decode prog_1_method_24_code 67 = .ok (.aload_n 0, 1) := by decide +kernel
theorem d_LV_leaderOfEntry_68 : decode prog_1_method_24_code 68 = .ok (.getfield 33, 3) := by decide +kernel
theorem d_LV_leaderOfEntry_71 : decode prog_1_method_24_code 71 = .ok (.invokevirtual 152, 3) := by decide +kernel
theorem d_LV_leaderOfEntry_74 : decode prog_1_method_24_code 74 = .ok (.iconst 3, 1) := by decide +kernel
theorem d_LV_leaderOfEntry_75 : decode prog_1_method_24_code 75 = .ok (.iadd, 1) := by decide +kernel
theorem d_LV_leaderOfEntry_76 : decode prog_1_method_24_code 76 = .ok (.invokevirtual 130, 3) := by decide +kernel
theorem d_LV_leaderOfEntry_79 : decode prog_1_method_24_code 79 = .ok (.istore 5, 2) := by decide +kernel
theorem d_LV_leaderOfEntry_81 : decode prog_1_method_24_code 81 = .ok (.aload_n 0, 1) := by decide +kernel
theorem d_LV_leaderOfEntry_82 : decode prog_1_method_24_code 82 = .ok (.getfield 20, 3) := by decide +kernel
theorem d_LV_leaderOfEntry_85 : decode prog_1_method_24_code 85 = .ok (.iload 5, 2) := by decide +kernel
theorem d_LV_leaderOfEntry_87 : decode prog_1_method_24_code 87 = .ok (.iload 4, 2) := by decide +kernel
theorem d_LV_leaderOfEntry_89 : decode prog_1_method_24_code 89 = .ok (.iconst 0, 1) := by decide +kernel
theorem d_LV_leaderOfEntry_90 : decode prog_1_method_24_code 90 = .ok (.invokevirtual 243, 3) := by decide +kernel
theorem d_LV_leaderOfEntry_93 : decode prog_1_method_24_code 93 = .ok (.ifCond .eq (17), 3) := by decide +kernel
theorem d_LV_leaderOfEntry_96 : decode prog_1_method_24_code 96 = .ok (.aload_n 0, 1) := by decide +kernel
theorem d_LV_leaderOfEntry_97 : decode prog_1_method_24_code 97 = .ok (.getfield 24, 3) := by decide +kernel
theorem d_LV_leaderOfEntry_100 : decode prog_1_method_24_code 100 = .ok (.iload 4, 2) := by decide +kernel
theorem d_LV_leaderOfEntry_102 : decode prog_1_method_24_code 102 = .ok (.iload 5, 2) := by decide +kernel
theorem d_LV_leaderOfEntry_104 : decode prog_1_method_24_code 104 = .ok (.invokevirtual 101, 3) := by decide +kernel
theorem d_LV_leaderOfEntry_107 : decode prog_1_method_24_code 107 = .ok (.iload 5, 2) := by decide +kernel
theorem d_LV_leaderOfEntry_109 : decode prog_1_method_24_code 109 = .ok (.ireturn, 1) := by decide +kernel
theorem d_LV_leaderOfEntry_110 : decode prog_1_method_24_code 110 = .ok (.aload_n 0, 1) := by decide +kernel
theorem d_LV_leaderOfEntry_111 : decode prog_1_method_24_code 111 = .ok (.iload 4, 2) := by decide +kernel
theorem d_LV_leaderOfEntry_113 : decode prog_1_method_24_code 113 = .ok (.invokevirtual 111, 3) := by decide +kernel
theorem d_LV_leaderOfEntry_116 : decode prog_1_method_24_code 116 = .ok (.ireturn, 1) := by decide +kernel
theorem d_LV_appendByte_0 : decode prog_1_method_25_code 0 = .ok (.aload_n 0, 1) := by decide +kernel
theorem d_LV_appendByte_1 : decode prog_1_method_25_code 1 = .ok (.getfield 20, 3) := by decide +kernel
theorem d_LV_appendByte_4 : decode prog_1_method_25_code 4 = .ok (.iload_n 2, 1) := by decide +kernel
theorem d_LV_appendByte_5 : decode prog_1_method_25_code 5 = .ok (.iconst 2, 1) := by decide +kernel
theorem d_LV_appendByte_6 : decode prog_1_method_25_code 6 = .ok (.invokevirtual 108, 3) := by decide +kernel
theorem d_LV_appendByte_9 : decode prog_1_method_25_code 9 = .ok (.istore 4, 2) := by decide +kernel
theorem d_LV_appendByte_11 : decode prog_1_method_25_code 11 = .ok (.aload_n 0, 1) := by decide +kernel
theorem d_LV_appendByte_12 : decode prog_1_method_25_code 12 = .ok (.getfield 20, 3) := by decide +kernel
theorem d_LV_appendByte_15 : decode prog_1_method_25_code 15 = .ok (.iload_n 2, 1) := by decide +kernel
theorem d_LV_appendByte_16 : decode prog_1_method_25_code 16 = .ok (.iconst 1, 1) := by decide +kernel
theorem d_LV_appendByte_17 : decode prog_1_method_25_code 17 = .ok (.invokevirtual 108, 3) := by decide +kernel
theorem d_LV_appendByte_20 : decode prog_1_method_25_code 20 = .ok (.ifCond .le (42), 3) := by decide +kernel
theorem d_LV_appendByte_23 : decode prog_1_method_25_code 23 = .ok (.iload 4, 2) := by decide +kernel
theorem d_LV_appendByte_25 : decode prog_1_method_25_code 25 = .ok (.bipush (8), 2) := by decide +kernel
theorem d_LV_appendByte_27 : decode prog_1_method_25_code 27 = .ok (.if_icmp .ge (35), 3) := by decide +kernel
theorem d_LV_appendByte_30 : decode prog_1_method_25_code 30 = .ok (.aload_n 0, 1) := by decide +kernel
theorem d_LV_appendByte_31 : decode prog_1_method_25_code 31 = .ok (.getfield 20, 3) := by decide +kernel
theorem d_LV_appendByte_34 : decode prog_1_method_25_code 34 = .ok (.invokevirtual 87, 3) := by decide +kernel
theorem d_LV_appendByte_37 : decode prog_1_method_25_code 37 = .ok (.aload_n 0, 1) := by decide +kernel
theorem d_LV_appendByte_38 : decode prog_1_method_25_code 38 = .ok (.getfield 20, 3) := by decide +kernel
theorem d_LV_appendByte_41 : decode prog_1_method_25_code 41 = .ok (.iload_n 2, 1) := by decide +kernel
theorem d_LV_appendByte_42 : decode prog_1_method_25_code 42 = .ok (.iload 4, 2) := by decide +kernel
theorem d_LV_appendByte_44 : decode prog_1_method_25_code 44 = .ok (.iload_n 3, 1) := by decide +kernel
theorem d_LV_appendByte_45 : decode prog_1_method_25_code 45 = .ok (.invokevirtual 140, 3) := by decide +kernel
theorem d_LV_appendByte_48 : decode prog_1_method_25_code 48 = .ok (.aload_n 0, 1) := by decide +kernel
theorem d_LV_appendByte_49 : decode prog_1_method_25_code 49 = .ok (.getfield 20, 3) := by decide +kernel
theorem d_LV_appendByte_52 : decode prog_1_method_25_code 52 = .ok (.iload_n 2, 1) := by decide +kernel
theorem d_LV_appendByte_53 : decode prog_1_method_25_code 53 = .ok (.iconst 2, 1) := by decide +kernel
theorem d_LV_appendByte_54 : decode prog_1_method_25_code 54 = .ok (.iload 4, 2) := by decide +kernel
theorem d_LV_appendByte_56 : decode prog_1_method_25_code 56 = .ok (.iconst 1, 1) := by decide +kernel
theorem d_LV_appendByte_57 : decode prog_1_method_25_code 57 = .ok (.iadd, 1) := by decide +kernel
theorem d_LV_appendByte_58 : decode prog_1_method_25_code 58 = .ok (.invokevirtual 247, 3) := by decide +kernel
theorem d_LV_appendByte_61 : decode prog_1_method_25_code 61 = .ok (.return_, 1) := by decide +kernel
theorem d_LV_appendByte_62 : decode prog_1_method_25_code 62 = .ok (.aload_n 0, 1) := by decide +kernel
theorem d_LV_appendByte_63 : decode prog_1_method_25_code 63 = .ok (.getfield 40, 3) := by decide +kernel
theorem d_LV_appendByte_66 : decode prog_1_method_25_code 66 = .ok (.iconst 1, 1) := by decide +kernel
theorem d_LV_appendByte_67 : decode prog_1_method_25_code 67 = .ok (.invokevirtual 76, 3) := by decide +kernel
theorem d_LV_appendByte_70 : decode prog_1_method_25_code 70 = .ok (.ifCond .ne (11), 3) := by decide +kernel
theorem d_LV_appendByte_73 : decode prog_1_method_25_code 73 = .ok (.new 69, 3) := by decide +kernel
theorem d_LV_appendByte_76 : decode prog_1_method_25_code 76 = .ok (.dup, 1) := by decide +kernel
theorem d_LV_appendByte_77 : decode prog_1_method_25_code 77 = .ok (.invokespecial 71, 3) := by decide +kernel
theorem d_LV_appendByte_80 : decode prog_1_method_25_code 80 = .ok (.athrow, 1) := by decide +kernel
theorem d_LV_appendByte_81 : decode prog_1_method_25_code 81 = .ok (.aload_n 0, 1) := by decide +kernel
theorem d_LV_appendByte_82 : decode prog_1_method_25_code 82 = .ok (.getfield 40, 3) := by decide +kernel
theorem d_LV_appendByte_85 : decode prog_1_method_25_code 85 = .ok (.invokevirtual 84, 3) := by decide +kernel
theorem d_LV_appendByte_88 : decode prog_1_method_25_code 88 = .ok (.istore 5, 2) := by decide +kernel
theorem d_LV_appendByte_90 : decode prog_1_method_25_code 90 = .ok (.aload_n 0, 1) := by decide +kernel
theorem d_LV_appendByte_91 : decode prog_1_method_25_code 91 = .ok (.getfield 20, 3) := by decide +kernel
theorem d_LV_appendByte_94 : decode prog_1_method_25_code 94 = .ok (.invokevirtual 87, 3) := by decide +kernel
theorem d_LV_appendByte_97 : decode prog_1_method_25_code 97 = .ok (.aload_n 0, 1) := by decide +kernel
theorem d_LV_appendByte_98 : decode prog_1_method_25_code 98 = .ok (.getfield 20, 3) := by decide +kernel
theorem d_LV_appendByte_101 : decode prog_1_method_25_code 101 = .ok (.iload_n 2, 1) := by decide +kernel
theorem d_LV_appendByte_102 : decode prog_1_method_25_code 102 = .ok (.iload 5, 2) := by decide +kernel
theorem d_LV_appendByte_104 : decode prog_1_method_25_code 104 = .ok (.iconst 1, 1) := by decide +kernel
theorem d_LV_appendByte_105 : decode prog_1_method_25_code 105 = .ok (.invokevirtual 250, 3) := by decide +kernel
theorem d_LV_appendByte_108 : decode prog_1_method_25_code 108 = .ok (.aload_n 0, 1) := by decide +kernel
theorem d_LV_appendByte_109 : decode prog_1_method_25_code 109 = .ok (.getfield 20, 3) := by decide +kernel
theorem d_LV_appendByte_112 : decode prog_1_method_25_code 112 = .ok (.iload 5, 2) := by decide +kernel
theorem d_LV_appendByte_114 : decode prog_1_method_25_code 114 = .ok (.iconst 0, 1) := by decide +kernel
theorem d_LV_appendByte_115 : decode prog_1_method_25_code 115 = .ok (.iload_n 3, 1) := by decide +kernel
theorem d_LV_appendByte_116 : decode prog_1_method_25_code 116 = .ok (.invokevirtual 140, 3) := by decide +kernel
theorem d_LV_appendByte_119 : decode prog_1_method_25_code 119 = .ok (.aload_n 0, 1) := by decide +kernel
theorem d_LV_appendByte_120 : decode prog_1_method_25_code 120 = .ok (.iload_n 1, 1) := by decide +kernel
theorem d_LV_appendByte_121 : decode prog_1_method_25_code 121 = .ok (.iload_n 2, 1) := by decide +kernel
theorem d_LV_appendByte_122 : decode prog_1_method_25_code 122 = .ok (.iload 5, 2) := by decide +kernel
theorem d_LV_appendByte_124 : decode prog_1_method_25_code 124 = .ok (.invokevirtual 253, 3) := by decide +kernel
theorem d_LV_appendByte_127 : decode prog_1_method_25_code 127 = .ok (.aload_n 0, 1) := by decide +kernel
theorem d_LV_appendByte_128 : decode prog_1_method_25_code 128 = .ok (.getfield 40, 3) := by decide +kernel
theorem d_LV_appendByte_131 : decode prog_1_method_25_code 131 = .ok (.invokevirtual 98, 3) := by decide +kernel
theorem d_LV_appendByte_134 : decode prog_1_method_25_code 134 = .ok (.return_, 1) := by decide +kernel
theorem d_LV_enterEntry_0 : decode prog_1_method_26_code 0 = .ok (.aload_n 0, 1) := by decide +kernel
theorem d_LV_enterEntry_1 : decode prog_1_method_26_code 1 = .ok (.getfield 33, 3) := by decide +kernel
theorem d_LV_enterEntry_4 : decode prog_1_method_26_code 4 = .ok (.invokevirtual 149, 3) := by decide +kernel
theorem d_LV_enterEntry_7 : decode prog_1_method_26_code 7 = .ok (.istore_n 3, 1) := by decide +kernel
theorem d_LV_enterEntry_8 : decode prog_1_method_26_code 8 = .ok (.aload_n 0, 1) := by decide +kernel
theorem d_LV_enterEntry_9 : decode prog_1_method_26_code 9 = .ok (.getfield 20, 3) := by decide +kernel
theorem d_LV_enterEntry_12 : decode prog_1_method_26_code 12 = .ok (.invokevirtual 87, 3) := by decide +kernel
theorem d_LV_enterEntry_15 : decode prog_1_method_26_code 15 = .ok (.aload_n 0, 1) := by decide +kernel
theorem d_LV_enterEntry_16 : decode prog_1_method_26_code 16 = .ok (.getfield 33, 3) := by decide +kernel
theorem d_LV_enterEntry_19 : decode prog_1_method_26_code 19 = .ok (.invokevirtual 256, 3) := by decide +kernel
theorem d_LV_enterEntry_22 : decode prog_1_method_26_code 22 = .ok (.ifCond .eq (28), 3) := by decide +kernel
theorem d_LV_enterEntry_25 : decode prog_1_method_26_code 25 = .ok (.aload_n 0, 1) := by decide +kernel
theorem d_LV_enterEntry_26 : decode prog_1_method_26_code 26 = .ok (.getfield 20, 3) := by decide +kernel
theorem d_LV_enterEntry_29 : decode prog_1_method_26_code 29 = .ok (.aload_n 0, 1) := by decide +kernel
theorem d_LV_enterEntry_30 : decode prog_1_method_26_code 30 = .ok (.getfield 33, 3) := by decide +kernel
theorem d_LV_enterEntry_33 : decode prog_1_method_26_code 33 = .ok (.invokevirtual 259, 3) := by decide +kernel
theorem d_LV_enterEntry_36 : decode prog_1_method_26_code 36 = .ok (.aload_n 0, 1) := by decide +kernel
theorem d_LV_enterEntry_37 : decode prog_1_method_26_code 37 = .ok (.getfield 33, 3) := by decide +kernel
theorem d_LV_enterEntry_40 : decode prog_1_method_26_code 40 = .ok (.invokevirtual 262, 3) := by decide +kernel
theorem d_LV_enterEntry_43 : decode prog_1_method_26_code 43 = .ok (.iload_n 2, 1) := by decide +kernel
theorem d_LV_enterEntry_44 : decode prog_1_method_26_code 44 = .ok (.invokevirtual 265, 3) := by decide +kernel
theorem d_LV_enterEntry_47 : decode prog_1_method_26_code 47 = .ok (.goto (76), 3) := by decide +kernel
theorem d_LV_enterEntry_50 : decode prog_1_method_26_code 50 = .ok (.aload_n 0, 1) := by decide +kernel
theorem d_LV_enterEntry_51 : decode prog_1_method_26_code 51 = .ok (.getfield 33, 3) := by decide +kernel
theorem d_LV_enterEntry_54 : decode prog_1_method_26_code 54 = .ok (.invokevirtual 72, 3) := by decide +kernel
theorem d_LV_enterEntry_57 : decode prog_1_method_26_code 57 = .ok (.ifCond .ne (27), 3) := by decide +kernel
theorem d_LV_enterEntry_60 : decode prog_1_method_26_code 60 = .ok (.aload_n 0, 1) := by decide +kernel
theorem d_LV_enterEntry_61 : decode prog_1_method_26_code 61 = .ok (.getfield 20, 3) := by decide +kernel
theorem d_LV_enterEntry_64 : decode prog_1_method_26_code 64 = .ok (.iload_n 3, 1) := by decide +kernel
theorem d_LV_enterEntry_65 : decode prog_1_method_26_code 65 = .ok (.iconst 4, 1) := by decide +kernel
theorem d_LV_enterEntry_66 : decode prog_1_method_26_code 66 = .ok (.iload_n 2, 1) := by decide +kernel
theorem d_LV_enterEntry_67 : decode prog_1_method_26_code 67 = .ok (.invokevirtual 265, 3) := by decide +kernel
theorem d_LV_enterEntry_70 : decode prog_1_method_26_code 70 = .ok (.aload_n 0, 1) := by decide +kernel
theorem d_LV_enterEntry_71 : decode prog_1_method_26_code 71 = .ok (.getfield 20, 3) := by decide +kernel
theorem d_LV_enterEntry_74 : decode prog_1_method_26_code 74 = .ok (.iload_n 3, 1) := by decide +kernel
theorem d_LV_enterEntry_75 : decode prog_1_method_26_code 75 = .ok (.iconst 2, 1) := by decide +kernel
theorem d_LV_enterEntry_76 : decode prog_1_method_26_code 76 = .ok (.bipush (8), 2) := by decide +kernel
theorem d_LV_enterEntry_78 : decode prog_1_method_26_code 78 = .ok (.invokevirtual 247, 3) := by decide +kernel
theorem d_LV_enterEntry_81 : decode prog_1_method_26_code 81 = .ok (.goto (42), 3) := by decide +kernel
theorem d_LV_enterEntry_84 : decode prog_1_method_26_code 84 = .ok (.aload_n 0, 1) := by decide +kernel
theorem d_LV_enterEntry_85 : decode prog_1_method_26_code 85 = .ok (.getfield 40, 3) := by decide +kernel
theorem d_LV_enterEntry_88 : decode prog_1_method_26_code 88 = .ok (.invokevirtual 268, 3) := by decide +kernel
theorem d_LV_enterEntry_91 : decode prog_1_method_26_code 91 = .ok (.istore 4, 2) := by decide +kernel
theorem d_LV_enterEntry_93 : decode prog_1_method_26_code 93 = .ok (.aload_n 0, 1) := by decide +kernel
theorem d_LV_enterEntry_94 : decode prog_1_method_26_code 94 = .ok (.getfield 20, 3) := by decide +kernel
theorem d_LV_enterEntry_97 : decode prog_1_method_26_code 97 = .ok (.iload_n 3, 1) := by decide +kernel
theorem d_LV_enterEntry_98 : decode prog_1_method_26_code 98 = .ok (.iload 4, 2) := by decide +kernel
theorem d_LV_enterEntry_100 : decode prog_1_method_26_code 100 = .ok (.iconst 4, 1) := by decide +kernel
theorem d_LV_enterEntry_101 : decode prog_1_method_26_code 101 = .ok (.invokevirtual 250, 3) := by decide +kernel
theorem d_LV_enterEntry_104 : decode prog_1_method_26_code 104 = .ok (.aload_n 0, 1) := by decide +kernel
theorem d_LV_enterEntry_105 : decode prog_1_method_26_code 105 = .ok (.getfield 20, 3) := by decide +kernel
theorem d_LV_enterEntry_108 : decode prog_1_method_26_code 108 = .ok (.iload 4, 2) := by decide +kernel
theorem d_LV_enterEntry_110 : decode prog_1_method_26_code 110 = .ok (.iconst 0, 1) := by decide +kernel
theorem d_LV_enterEntry_111 : decode prog_1_method_26_code 111 = .ok (.iload_n 2, 1) := by decide +kernel
theorem d_LV_enterEntry_112 : decode prog_1_method_26_code 112 = .ok (.invokevirtual 265, 3) := by decide +kernel
theorem d_LV_enterEntry_115 : decode prog_1_method_26_code 115 = .ok (.aload_n 0, 1) := by decide +kernel
theorem d_LV_enterEntry_116 : decode prog_1_method_26_code 116 = .ok (.iload_n 1, 1) := by decide +kernel
theorem d_LV_enterEntry_117 : decode prog_1_method_26_code 117 = .ok (.iload_n 3, 1) := by decide +kernel
theorem d_LV_enterEntry_118 : decode prog_1_method_26_code 118 = .ok (.iload 4, 2) := by decide +kernel
theorem d_LV_enterEntry_120 : decode prog_1_method_26_code 120 = .ok (.invokevirtual 253, 3) := by decide +kernel
theorem d_LV_enterEntry_123 : decode prog_1_method_26_code 123 = .ok (.return_, 1) := by decide +kernel
theorem d_LV_linkBehind_0 : decode prog_1_method_27_code 0 = .ok (.aload_n 0, 1) := by decide +kernel
theorem d_LV_linkBehind_1 : decode prog_1_method_27_code 1 = .ok (.getfield 20, 3) := by decide +kernel
theorem d_LV_linkBehind_4 : decode prog_1_method_27_code 4 = .ok (.invokevirtual 87, 3) := by decide +kernel
theorem d_LV_linkBehind_7 : decode prog_1_method_27_code 7 = .ok (.aload_n 0, 1) := by decide +kernel
theorem d_LV_linkBehind_8 : decode prog_1_method_27_code 8 = .ok (.getfield 20, 3) := by decide +kernel
theorem d_LV_linkBehind_11 : decode prog_1_method_27_code 11 = .ok (.iload_n 2, 1) := by decide +kernel
theorem d_LV_linkBehind_12 : decode prog_1_method_27_code 12 = .ok (.iconst 3, 1) := by decide +kernel
theorem d_LV_linkBehind_13 : decode prog_1_method_27_code 13 = .ok (.iload_n 3, 1) := by decide +kernel
theorem d_LV_linkBehind_14 : decode prog_1_method_27_code 14 = .ok (.invokevirtual 247, 3) := by decide +kernel
theorem d_LV_linkBehind_17 : decode prog_1_method_27_code 17 = .ok (.aload_n 0, 1) := by decide +kernel
theorem d_LV_linkBehind_18 : decode prog_1_method_27_code 18 = .ok (.iload_n 1, 1) := by decide +kernel
theorem d_LV_linkBehind_19 : decode prog_1_method_27_code 19 = .ok (.iload_n 2, 1) := by decide +kernel
theorem d_LV_linkBehind_20 : decode prog_1_method_27_code 20 = .ok (.iload_n 3, 1) := by decide +kernel
theorem d_LV_linkBehind_21 : decode prog_1_method_27_code 21 = .ok (.invokevirtual 271, 3) := by decide +kernel
theorem d_LV_linkBehind_24 : decode prog_1_method_27_code 24 = .ok (.return_, 1) := by decide +kernel
theorem d_LV_dropPages_0 : decode prog_1_method_28_code 0 = .ok (.aload_n 0, 1) := by decide +kernel
theorem d_LV_dropPages_1 : decode prog_1_method_28_code 1 = .ok (.iload_n 2, 1) := by decide +kernel
theorem d_LV_dropPages_2 : decode prog_1_method_28_code 2 = .ok (.iload 4, 2) := by decide +kernel
theorem d_LV_dropPages_4 : decode prog_1_method_28_code 4 = .ok (.invokevirtual 161, 3) := by decide +kernel
theorem d_LV_dropPages_7 : decode prog_1_method_28_code 7 = .ok (.iconst 1, 1) := by decide +kernel
theorem d_LV_dropPages_8 : decode prog_1_method_28_code 8 = .ok (.isub, 1) := by decide +kernel
theorem d_LV_dropPages_9 : decode prog_1_method_28_code 9 = .ok (.istore 5, 2) := by decide +kernel
theorem d_LV_dropPages_11 : decode prog_1_method_28_code 11 = .ok (.aload_n 0, 1) := by decide +kernel
theorem d_LV_dropPages_12 : decode prog_1_method_28_code 12 = .ok (.iload 5, 2) := by decide +kernel
theorem d_LV_dropPages_14 : decode prog_1_method_28_code 14 = .ok (.invokevirtual 274, 3) := by decide +kernel
theorem d_LV_dropPages_17 : decode prog_1_method_28_code 17 = .ok (.istore 6, 2) := by decide +kernel
theorem d_LV_dropPages_19 : decode prog_1_method_28_code 19 = .ok (.aload_n 0, 1) := by decide +kernel
theorem d_LV_dropPages_20 : decode prog_1_method_28_code 20 = .ok (.getfield 40, 3) := by decide +kernel
theorem d_LV_dropPages_23 : decode prog_1_method_28_code 23 = .ok (.invokevirtual 164, 3) := by decide +kernel
theorem d_LV_dropPages_26 : decode prog_1_method_28_code 26 = .ok (.aload_n 0, 1) := by decide +kernel
theorem d_LV_dropPages_27 : decode prog_1_method_28_code 27 = .ok (.iload 5, 2) := by decide +kernel
theorem d_LV_dropPages_29 : decode prog_1_method_28_code 29 = .ok (.invokevirtual 170, 3) := by decide +kernel
theorem d_LV_dropPages_32 : decode prog_1_method_28_code 32 = .ok (.aload_n 0, 1) := by decide +kernel
theorem d_LV_dropPages_33 : decode prog_1_method_28_code 33 = .ok (.getfield 20, 3) := by decide +kernel
theorem d_LV_dropPages_36 : decode prog_1_method_28_code 36 = .ok (.invokevirtual 87, 3) := by decide +kernel
theorem d_LV_dropPages_39 : decode prog_1_method_28_code 39 = .ok (.aload_n 0, 1) := by decide +kernel
theorem d_LV_dropPages_40 : decode prog_1_method_28_code 40 = .ok (.getfield 20, 3) := by decide +kernel
theorem d_LV_dropPages_43 : decode prog_1_method_28_code 43 = .ok (.iload 6, 2) := by decide +kernel
theorem d_LV_dropPages_45 : decode prog_1_method_28_code 45 = .ok (.iload_n 3, 1) := by decide +kernel
theorem d_LV_dropPages_46 : decode prog_1_method_28_code 46 = .ok (.invokevirtual 146, 3) := by decide +kernel
theorem d_LV_dropPages_49 : decode prog_1_method_28_code 49 = .ok (.aload_n 0, 1) := by decide +kernel
theorem d_LV_dropPages_50 : decode prog_1_method_28_code 50 = .ok (.iload_n 1, 1) := by decide +kernel
theorem d_LV_dropPages_51 : decode prog_1_method_28_code 51 = .ok (.iload 6, 2) := by decide +kernel
theorem d_LV_dropPages_53 : decode prog_1_method_28_code 53 = .ok (.iload 6, 2) := by decide +kernel
theorem d_LV_dropPages_55 : decode prog_1_method_28_code 55 = .ok (.invokevirtual 271, 3) := by decide +kernel
theorem d_LV_dropPages_58 : decode prog_1_method_28_code 58 = .ok (.aload_n 0, 1) := by decide +kernel
theorem d_LV_dropPages_59 : decode prog_1_method_28_code 59 = .ok (.getfield 40, 3) := by decide +kernel
theorem d_LV_dropPages_62 : decode prog_1_method_28_code 62 = .ok (.invokevirtual 98, 3) := by decide +kernel
theorem d_LV_dropPages_65 : decode prog_1_method_28_code 65 = .ok (.return_, 1) := by decide +kernel
theorem d_LV_writeHint_0 : decode prog_1_method_29_code 0 = .ok (.iload_n 2, 1) := by decide +kernel
theorem d_LV_writeHint_1 : decode prog_1_method_29_code 1 = .ok (.iload_n 1, 1) := by decide +kernel
theorem d_LV_writeHint_2 : decode prog_1_method_29_code 2 = .ok (.if_icmp .eq (10), 3) := by decide +kernel
theorem d_LV_writeHint_5 : decode prog_1_method_29_code 5 = .ok (.aload_n 0, 1) := by decide +kernel
theorem d_LV_writeHint_6 : decode prog_1_method_29_code 6 = .ok (.getfield 20, 3) := by decide +kernel
theorem d_LV_writeHint_9 : decode prog_1_method_29_code 9 = .ok (.invokevirtual 87, 3) := by decide +kernel
theorem d_LV_writeHint_12 : decode prog_1_method_29_code 12 = .ok (.aload_n 0, 1) := by decide +kernel
theorem d_LV_writeHint_13 : decode prog_1_method_29_code 13 = .ok (.getfield 20, 3) := by decide +kernel
theorem d_LV_writeHint_16 : decode prog_1_method_29_code 16 = .ok (.iload_n 1, 1) := by decide +kernel
theorem d_LV_writeHint_17 : decode prog_1_method_29_code 17 = .ok (.iconst 3, 1) := by decide +kernel
theorem d_LV_writeHint_18 : decode prog_1_method_29_code 18 = .ok (.iload_n 3, 1) := by decide +kernel
theorem d_LV_writeHint_19 : decode prog_1_method_29_code 19 = .ok (.invokevirtual 140, 3) := by decide +kernel
theorem d_LV_writeHint_22 : decode prog_1_method_29_code 22 = .ok (.return_, 1) := by decide +kernel
theorem d_LV_gatherPages_0 : decode prog_1_method_30_code 0 = .ok (.iconst 0, 1) := by decide +kernel
theorem d_LV_gatherPages_1 : decode prog_1_method_30_code 1 = .ok (.istore_n 3, 1) := by decide +kernel
theorem d_LV_gatherPages_2 : decode prog_1_method_30_code 2 = .ok (.iload_n 1, 1) := by decide +kernel
theorem d_LV_gatherPages_3 : decode prog_1_method_30_code 3 = .ok (.istore 4, 2) := by decide +kernel
theorem d_LV_gatherPages_5 : decode prog_1_method_30_code 5 = .ok (.aload_n 0, 1) := by decide +kernel
theorem d_LV_gatherPages_6 : decode prog_1_method_30_code 6 = .ok (.getfield 20, 3) := by decide +kernel
theorem d_LV_gatherPages_9 : decode prog_1_method_30_code 9 = .ok (.iload_n 1, 1) := by decide +kernel
theorem d_LV_gatherPages_10 : decode prog_1_method_30_code 10 = .ok (.iconst 1, 1) := by decide +kernel
theorem d_LV_gatherPages_11 : decode prog_1_method_30_code 11 = .ok (.invokevirtual 108, 3) := by decide +kernel
theorem d_LV_gatherPages_14 : decode prog_1_method_30_code 14 = .ok (.istore 5, 2) := by decide +kernel
theorem d_LV_gatherPages_16 : decode prog_1_method_30_code 16 = .ok (.iload 5, 2) := by decide +kernel
theorem d_LV_gatherPages_18 : decode prog_1_method_30_code 18 = .ok (.iload_n 2, 1) := by decide +kernel
theorem d_LV_gatherPages_19 : decode prog_1_method_30_code 19 = .ok (.if_icmp .lt (47), 3) := by decide +kernel
theorem d_LV_gatherPages_22 : decode prog_1_method_30_code 22 = .ok (.iload_n 3, 1) := by decide +kernel
theorem d_LV_gatherPages_23 : decode prog_1_method_30_code 23 = .ok (.bipush (40), 2) := by decide +kernel
theorem d_LV_gatherPages_25 : decode prog_1_method_30_code 25 = .ok (.if_icmp .ge (41), 3) := by decide +kernel
theorem d_LV_gatherPages_28 : decode prog_1_method_30_code 28 = .ok (.aload_n 0, 1) := by decide +kernel
theorem d_LV_gatherPages_29 : decode prog_1_method_30_code 29 = .ok (.getfield 51, 3) := by decide +kernel
theorem d_LV_gatherPages_32 : decode prog_1_method_30_code 32 = .ok (.iload_n 3, 1) := by decide +kernel
theorem d_LV_gatherPages_33 : decode prog_1_method_30_code 33 = .ok (.iload 4, 2) := by decide +kernel
theorem d_LV_gatherPages_35 : decode prog_1_method_30_code 35 = .ok (.iastore, 1) := by decide +kernel
theorem d_LV_gatherPages_36 : decode prog_1_method_30_code 36 = .ok (.iinc 3 (1), 3) := by decide +kernel
theorem d_LV_gatherPages_39 : decode prog_1_method_30_code 39 = .ok (.iload 5, 2) := by decide +kernel
theorem d_LV_gatherPages_41 : decode prog_1_method_30_code 41 = .ok (.iload_n 2, 1) := by decide +kernel
theorem d_LV_gatherPages_42 : decode prog_1_method_30_code 42 = .ok (.if_icmp .le (18), 3) := by decide +kernel
theorem d_LV_gatherPages_45 : decode prog_1_method_30_code 45 = .ok (.aload_n 0, 1) := by decide +kernel
theorem d_LV_gatherPages_46 : decode prog_1_method_30_code 46 = .ok (.getfield 24, 3) := by decide +kernel
theorem d_LV_gatherPages_49 : decode prog_1_method_30_code 49 = .ok (.iload 4, 2) := by decide +kernel
theorem d_LV_gatherPages_51 : decode prog_1_method_30_code 51 = .ok (.iconst 4, 1) := by decide +kernel
theorem d_LV_gatherPages_52 : decode prog_1_method_30_code 52 = .ok (.invokevirtual 277, 3) := by decide +kernel
theorem d_LV_gatherPages_55 : decode prog_1_method_30_code 55 = .ok (.invokestatic 117, 3) := by decide +kernel
theorem d_LV_gatherPages_58 : decode prog_1_method_30_code 58 = .ok (.istore 4, 2) := by decide +kernel
theorem d_LV_gatherPages_60 : decode prog_1_method_30_code 60 = .ok (.iinc 5 (-1), 3) := by decide +kernel
theorem d_LV_gatherPages_63 : decode prog_1_method_30_code 63 = .ok (.goto (-47), 3) := by decide +kernel
theorem d_LV_gatherPages_66 : decode prog_1_method_30_code 66 = .ok (.iload_n 3, 1) := by decide +kernel
theorem d_LV_gatherPages_67 : decode prog_1_method_30_code 67 = .ok (.ireturn, 1) := by decide +kernel
theorem d_LV_gatheredPage_0 : decode prog_1_method_31_code 0 = .ok (.iload_n 1, 1) := by decide +kernel
theorem d_LV_gatheredPage_1 : decode prog_1_method_31_code 1 = .ok (.ifCond .lt (18), 3) := by decide +kernel
theorem d_LV_gatheredPage_4 : decode prog_1_method_31_code 4 = .ok (.iload_n 1, 1) := by decide +kernel
theorem d_LV_gatheredPage_5 : decode prog_1_method_31_code 5 = .ok (.bipush (40), 2) := by decide +kernel
theorem d_LV_gatheredPage_7 : decode prog_1_method_31_code 7 = .ok (.if_icmp .ge (12), 3) := by decide +kernel
theorem d_LV_gatheredPage_10 : decode prog_1_method_31_code 10 = .ok (.aload_n 0, 1) := by decide +kernel
theorem d_LV_gatheredPage_11 : decode prog_1_method_31_code 11 = .ok (.getfield 51, 3) := by decide +kernel
theorem d_LV_gatheredPage_14 : decode prog_1_method_31_code 14 = .ok (.iload_n 1, 1) := by decide +kernel
theorem d_LV_gatheredPage_15 : decode prog_1_method_31_code 15 = .ok (.iaload, 1) := by decide +kernel
theorem d_LV_gatheredPage_16 : decode prog_1_method_31_code 16 = .ok (.goto (4), 3) := by decide +kernel
theorem d_LV_gatheredPage_19 : decode prog_1_method_31_code 19 = .ok (.iconst (-1), 1) := by decide +kernel
theorem d_LV_gatheredPage_20 : decode prog_1_method_31_code 20 = .ok (.ireturn, 1) := by decide +kernel
theorem d_LV_freeGathered_0 : decode prog_1_method_32_code 0 = .ok (.iconst 0, 1) := by decide +kernel
theorem d_LV_freeGathered_1 : decode prog_1_method_32_code 1 = .ok (.istore_n 2, 1) := by decide +kernel
theorem d_LV_freeGathered_2 : decode prog_1_method_32_code 2 = .ok (.iload_n 2, 1) := by decide +kernel
theorem d_LV_freeGathered_3 : decode prog_1_method_32_code 3 = .ok (.iload_n 1, 1) := by decide +kernel
theorem d_LV_freeGathered_4 : decode prog_1_method_32_code 4 = .ok (.if_icmp .ge (21), 3) := by decide +kernel
theorem d_LV_freeGathered_7 : decode prog_1_method_32_code 7 = .ok (.aload_n 0, 1) := by decide +kernel
theorem d_LV_freeGathered_8 : decode prog_1_method_32_code 8 = .ok (.getfield 40, 3) := by decide +kernel
theorem d_LV_freeGathered_11 : decode prog_1_method_32_code 11 = .ok (.aload_n 0, 1) := by decide +kernel
theorem d_LV_freeGathered_12 : decode prog_1_method_32_code 12 = .ok (.iload_n 2, 1) := by decide +kernel
theorem d_LV_freeGathered_13 : decode prog_1_method_32_code 13 = .ok (.invokevirtual 274, 3) := by decide +kernel
theorem d_LV_freeGathered_16 : decode prog_1_method_32_code 16 = .ok (.invokevirtual 174, 3) := by decide +kernel
theorem d_LV_freeGathered_19 : decode prog_1_method_32_code 19 = .ok (.iinc 2 (1), 3) := by decide +kernel
theorem d_LV_freeGathered_22 : decode prog_1_method_32_code 22 = .ok (.goto (-20), 3) := by decide +kernel
theorem d_LV_freeGathered_25 : decode prog_1_method_32_code 25 = .ok (.return_, 1) := by decide +kernel
theorem d_Law_create_0 : decode method_3_code 0 = .ok (.aload 4, 2) := by decide +kernel
theorem d_Law_create_2 : decode method_3_code 2 = .ok (.iconst 0, 1) := by decide +kernel
theorem d_Law_create_3 : decode method_3_code 3 = .ok (.aload_n 0, 1) := by decide +kernel
theorem d_Law_create_4 : decode method_3_code 4 = .ok (.iload_n 1, 1) := by decide +kernel
theorem d_Law_create_5 : decode method_3_code 5 = .ok (.iload_n 2, 1) := by decide +kernel
theorem d_Law_create_6 : decode method_3_code 6 = .ok (.iload_n 3, 1) := by decide +kernel
theorem d_Law_create_7 : decode method_3_code 7 = .ok (.invokevirtual 7, 3) := by decide +kernel
theorem d_Law_create_10 : decode method_3_code 10 = .ok (.i2l, 1) := by decide +kernel
theorem d_Law_create_11 : decode method_3_code 11 = .ok (.lastore, 1) := by decide +kernel
theorem d_Law_create_12 : decode method_3_code 12 = .ok (.goto (19), 3) := by decide +kernel
theorem d_Law_create_15 : decode method_3_code 15 = .ok (.astore 5, 2) := by decide +kernel
theorem d_Law_create_17 : decode method_3_code 17 = .ok (.iconst 1, 1) := by decide +kernel
theorem d_Law_create_18 : decode method_3_code 18 = .ok (.ireturn, 1) := by decide +kernel
theorem d_Law_create_19 : decode method_3_code 19 = .ok (.astore 5, 2) := by decide +kernel
theorem d_Law_create_21 : decode method_3_code 21 = .ok (.iconst 2, 1) := by decide +kernel
theorem d_Law_create_22 : decode method_3_code 22 = .ok (.ireturn, 1) := by decide +kernel
theorem d_Law_create_23 : decode method_3_code 23 = .ok (.astore 5, 2) := by decide +kernel
theorem d_Law_create_25 : decode method_3_code 25 = .ok (.iconst 3, 1) := by decide +kernel
theorem d_Law_create_26 : decode method_3_code 26 = .ok (.ireturn, 1) := by decide +kernel
theorem d_Law_create_27 : decode method_3_code 27 = .ok (.astore 5, 2) := by decide +kernel
theorem d_Law_create_29 : decode method_3_code 29 = .ok (.iconst 4, 1) := by decide +kernel
theorem d_Law_create_30 : decode method_3_code 30 = .ok (.ireturn, 1) := by decide +kernel
theorem d_Law_create_31 : decode method_3_code 31 = .ok (.iconst 0, 1) := by decide +kernel
theorem d_Law_create_32 : decode method_3_code 32 = .ok (.ireturn, 1) := by decide +kernel
theorem d_Law_open_0 : decode method_4_code 0 = .ok (.aload_n 3, 1) := by decide +kernel
theorem d_Law_open_1 : decode method_4_code 1 = .ok (.iconst 0, 1) := by decide +kernel
theorem d_Law_open_2 : decode method_4_code 2 = .ok (.aload_n 0, 1) := by decide +kernel
theorem d_Law_open_3 : decode method_4_code 3 = .ok (.iload_n 1, 1) := by decide +kernel
theorem d_Law_open_4 : decode method_4_code 4 = .ok (.iload_n 2, 1) := by decide +kernel
theorem d_Law_open_5 : decode method_4_code 5 = .ok (.invokevirtual 21, 3) := by decide +kernel
theorem d_Law_open_8 : decode method_4_code 8 = .ok (.i2l, 1) := by decide +kernel
theorem d_Law_open_9 : decode method_4_code 9 = .ok (.lastore, 1) := by decide +kernel
theorem d_Law_open_10 : decode method_4_code 10 = .ok (.goto (19), 3) := by decide +kernel
theorem d_Law_open_13 : decode method_4_code 13 = .ok (.astore 4, 2) := by decide +kernel
theorem d_Law_open_15 : decode method_4_code 15 = .ok (.iconst 1, 1) := by decide +kernel
theorem d_Law_open_16 : decode method_4_code 16 = .ok (.ireturn, 1) := by decide +kernel
theorem d_Law_open_17 : decode method_4_code 17 = .ok (.astore 4, 2) := by decide +kernel
theorem d_Law_open_19 : decode method_4_code 19 = .ok (.iconst 2, 1) := by decide +kernel
theorem d_Law_open_20 : decode method_4_code 20 = .ok (.ireturn, 1) := by decide +kernel
theorem d_Law_open_21 : decode method_4_code 21 = .ok (.astore 4, 2) := by decide +kernel
theorem d_Law_open_23 : decode method_4_code 23 = .ok (.iconst 3, 1) := by decide +kernel
theorem d_Law_open_24 : decode method_4_code 24 = .ok (.ireturn, 1) := by decide +kernel
theorem d_Law_open_25 : decode method_4_code 25 = .ok (.astore 4, 2) := by decide +kernel
theorem d_Law_open_27 : decode method_4_code 27 = .ok (.iconst 4, 1) := by decide +kernel
theorem d_Law_open_28 : decode method_4_code 28 = .ok (.ireturn, 1) := by decide +kernel
theorem d_Law_open_29 : decode method_4_code 29 = .ok (.iconst 0, 1) := by decide +kernel
theorem d_Law_open_30 : decode method_4_code 30 = .ok (.ireturn, 1) := by decide +kernel
theorem d_Law_read_0 : decode method_5_code 0 = .ok (.aload_n 3, 1) := by decide +kernel
theorem d_Law_read_1 : decode method_5_code 1 = .ok (.iconst 0, 1) := by decide +kernel
theorem d_Law_read_2 : decode method_5_code 2 = .ok (.aload_n 0, 1) := by decide +kernel
theorem d_Law_read_3 : decode method_5_code 3 = .ok (.iload_n 1, 1) := by decide +kernel
theorem d_Law_read_4 : decode method_5_code 4 = .ok (.iload_n 2, 1) := by decide +kernel
theorem d_Law_read_5 : decode method_5_code 5 = .ok (.invokevirtual 25, 3) := by decide +kernel
theorem d_Law_read_8 : decode method_5_code 8 = .ok (.i2l, 1) := by decide +kernel
theorem d_Law_read_9 : decode method_5_code 9 = .ok (.lastore, 1) := by decide +kernel
theorem d_Law_read_10 : decode method_5_code 10 = .ok (.goto (19), 3) := by decide +kernel
theorem d_Law_read_13 : decode method_5_code 13 = .ok (.astore 4, 2) := by decide +kernel
theorem d_Law_read_15 : decode method_5_code 15 = .ok (.iconst 1, 1) := by decide +kernel
theorem d_Law_read_16 : decode method_5_code 16 = .ok (.ireturn, 1) := by decide +kernel
theorem d_Law_read_17 : decode method_5_code 17 = .ok (.astore 4, 2) := by decide +kernel
theorem d_Law_read_19 : decode method_5_code 19 = .ok (.iconst 2, 1) := by decide +kernel
theorem d_Law_read_20 : decode method_5_code 20 = .ok (.ireturn, 1) := by decide +kernel
theorem d_Law_read_21 : decode method_5_code 21 = .ok (.astore 4, 2) := by decide +kernel
theorem d_Law_read_23 : decode method_5_code 23 = .ok (.iconst 3, 1) := by decide +kernel
theorem d_Law_read_24 : decode method_5_code 24 = .ok (.ireturn, 1) := by decide +kernel
theorem d_Law_read_25 : decode method_5_code 25 = .ok (.astore 4, 2) := by decide +kernel
theorem d_Law_read_27 : decode method_5_code 27 = .ok (.iconst 4, 1) := by decide +kernel
theorem d_Law_read_28 : decode method_5_code 28 = .ok (.ireturn, 1) := by decide +kernel
theorem d_Law_read_29 : decode method_5_code 29 = .ok (.iconst 0, 1) := by decide +kernel
theorem d_Law_read_30 : decode method_5_code 30 = .ok (.ireturn, 1) := by decide +kernel
theorem d_Law_write_0 : decode method_6_code 0 = .ok (.aload_n 0, 1) := by decide +kernel
theorem d_Law_write_1 : decode method_6_code 1 = .ok (.iload_n 1, 1) := by decide +kernel
theorem d_Law_write_2 : decode method_6_code 2 = .ok (.iload_n 2, 1) := by decide +kernel
theorem d_Law_write_3 : decode method_6_code 3 = .ok (.iload_n 3, 1) := by decide +kernel
theorem d_Law_write_4 : decode method_6_code 4 = .ok (.invokevirtual 30, 3) := by decide +kernel
theorem d_Law_write_7 : decode method_6_code 7 = .ok (.goto (23), 3) := by decide +kernel
theorem d_Law_write_10 : decode method_6_code 10 = .ok (.astore 4, 2) := by decide +kernel
theorem d_Law_write_12 : decode method_6_code 12 = .ok (.iconst 1, 1) := by decide +kernel
theorem d_Law_write_13 : decode method_6_code 13 = .ok (.ireturn, 1) := by decide +kernel
theorem d_Law_write_14 : decode method_6_code 14 = .ok (.astore 4, 2) := by decide +kernel
theorem d_Law_write_16 : decode method_6_code 16 = .ok (.iconst 2, 1) := by decide +kernel
theorem d_Law_write_17 : decode method_6_code 17 = .ok (.ireturn, 1) := by decide +kernel
theorem d_Law_write_18 : decode method_6_code 18 = .ok (.astore 4, 2) := by decide +kernel
theorem d_Law_write_20 : decode method_6_code 20 = .ok (.iconst 3, 1) := by decide +kernel
theorem d_Law_write_21 : decode method_6_code 21 = .ok (.ireturn, 1) := by decide +kernel
theorem d_Law_write_22 : decode method_6_code 22 = .ok (.astore 4, 2) := by decide +kernel
theorem d_Law_write_24 : decode method_6_code 24 = .ok (.iconst 4, 1) := by decide +kernel
theorem d_Law_write_25 : decode method_6_code 25 = .ok (.ireturn, 1) := by decide +kernel
theorem d_Law_write_26 : decode method_6_code 26 = .ok (.astore 4, 2) := by decide +kernel
theorem d_Law_write_28 : decode method_6_code 28 = .ok (.iconst 5, 1) := by decide +kernel
theorem d_Law_write_29 : decode method_6_code 29 = .ok (.ireturn, 1) := by decide +kernel
theorem d_Law_write_30 : decode method_6_code 30 = .ok (.iconst 0, 1) := by decide +kernel
theorem d_Law_write_31 : decode method_6_code 31 = .ok (.ireturn, 1) := by decide +kernel
theorem d_Law_shorten_0 : decode method_7_code 0 = .ok (.aload_n 0, 1) := by decide +kernel
theorem d_Law_shorten_1 : decode method_7_code 1 = .ok (.iload_n 1, 1) := by decide +kernel
theorem d_Law_shorten_2 : decode method_7_code 2 = .ok (.iload_n 2, 1) := by decide +kernel
theorem d_Law_shorten_3 : decode method_7_code 3 = .ok (.invokevirtual 34, 3) := by decide +kernel
theorem d_Law_shorten_6 : decode method_7_code 6 = .ok (.goto (18), 3) := by decide +kernel
theorem d_Law_shorten_9 : decode method_7_code 9 = .ok (.astore_n 3, 1) := by decide +kernel
theorem d_Law_shorten_10 : decode method_7_code 10 = .ok (.iconst 1, 1) := by decide +kernel
theorem d_Law_shorten_11 : decode method_7_code 11 = .ok (.ireturn, 1) := by decide +kernel
theorem d_Law_shorten_12 : decode method_7_code 12 = .ok (.astore_n 3, 1) := by decide +kernel
theorem d_Law_shorten_13 : decode method_7_code 13 = .ok (.iconst 2, 1) := by decide +kernel
theorem d_Law_shorten_14 : decode method_7_code 14 = .ok (.ireturn, 1) := by decide +kernel
theorem d_Law_shorten_15 : decode method_7_code 15 = .ok (.astore_n 3, 1) := by decide +kernel
theorem d_Law_shorten_16 : decode method_7_code 16 = .ok (.iconst 3, 1) := by decide +kernel
theorem d_Law_shorten_17 : decode method_7_code 17 = .ok (.ireturn, 1) := by decide +kernel
theorem d_Law_shorten_18 : decode method_7_code 18 = .ok (.astore_n 3, 1) := by decide +kernel
theorem d_Law_shorten_19 : decode method_7_code 19 = .ok (.iconst 4, 1) := by decide +kernel
theorem d_Law_shorten_20 : decode method_7_code 20 = .ok (.ireturn, 1) := by decide +kernel
theorem d_Law_shorten_21 : decode method_7_code 21 = .ok (.astore_n 3, 1) := by decide +kernel
theorem d_Law_shorten_22 : decode method_7_code 22 = .ok (.iconst 5, 1) := by decide +kernel
theorem d_Law_shorten_23 : decode method_7_code 23 = .ok (.ireturn, 1) := by decide +kernel
theorem d_Law_shorten_24 : decode method_7_code 24 = .ok (.iconst 0, 1) := by decide +kernel
theorem d_Law_shorten_25 : decode method_7_code 25 = .ok (.ireturn, 1) := by decide +kernel
theorem d_Law_remove_0 : decode method_8_code 0 = .ok (.aload_n 3, 1) := by decide +kernel
theorem d_Law_remove_1 : decode method_8_code 1 = .ok (.iconst 0, 1) := by decide +kernel
theorem d_Law_remove_2 : decode method_8_code 2 = .ok (.aload_n 0, 1) := by decide +kernel
theorem d_Law_remove_3 : decode method_8_code 3 = .ok (.iload_n 1, 1) := by decide +kernel
theorem d_Law_remove_4 : decode method_8_code 4 = .ok (.iload_n 2, 1) := by decide +kernel
theorem d_Law_remove_5 : decode method_8_code 5 = .ok (.invokevirtual 38, 3) := by decide +kernel
theorem d_Law_remove_8 : decode method_8_code 8 = .ok (.i2l, 1) := by decide +kernel
theorem d_Law_remove_9 : decode method_8_code 9 = .ok (.lastore, 1) := by decide +kernel
theorem d_Law_remove_10 : decode method_8_code 10 = .ok (.goto (19), 3) := by decide +kernel
theorem d_Law_remove_13 : decode method_8_code 13 = .ok (.astore 4, 2) := by decide +kernel
theorem d_Law_remove_15 : decode method_8_code 15 = .ok (.iconst 1, 1) := by decide +kernel
theorem d_Law_remove_16 : decode method_8_code 16 = .ok (.ireturn, 1) := by decide +kernel
theorem d_Law_remove_17 : decode method_8_code 17 = .ok (.astore 4, 2) := by decide +kernel
theorem d_Law_remove_19 : decode method_8_code 19 = .ok (.iconst 2, 1) := by decide +kernel
theorem d_Law_remove_20 : decode method_8_code 20 = .ok (.ireturn, 1) := by decide +kernel
theorem d_Law_remove_21 : decode method_8_code 21 = .ok (.astore 4, 2) := by decide +kernel
theorem d_Law_remove_23 : decode method_8_code 23 = .ok (.iconst 3, 1) := by decide +kernel
theorem d_Law_remove_24 : decode method_8_code 24 = .ok (.ireturn, 1) := by decide +kernel
theorem d_Law_remove_25 : decode method_8_code 25 = .ok (.astore 4, 2) := by decide +kernel
theorem d_Law_remove_27 : decode method_8_code 27 = .ok (.iconst 4, 1) := by decide +kernel
theorem d_Law_remove_28 : decode method_8_code 28 = .ok (.ireturn, 1) := by decide +kernel
theorem d_Law_remove_29 : decode method_8_code 29 = .ok (.iconst 0, 1) := by decide +kernel
theorem d_Law_remove_30 : decode method_8_code 30 = .ok (.ireturn, 1) := by decide +kernel
theorem d_Law_length_0 : decode method_9_code 0 = .ok (.aload_n 2, 1) := by decide +kernel
theorem d_Law_length_1 : decode method_9_code 1 = .ok (.iconst 0, 1) := by decide +kernel
theorem d_Law_length_2 : decode method_9_code 2 = .ok (.aload_n 0, 1) := by decide +kernel
theorem d_Law_length_3 : decode method_9_code 3 = .ok (.iload_n 1, 1) := by decide +kernel
theorem d_Law_length_4 : decode method_9_code 4 = .ok (.invokevirtual 41, 3) := by decide +kernel
theorem d_Law_length_7 : decode method_9_code 7 = .ok (.i2l, 1) := by decide +kernel
theorem d_Law_length_8 : decode method_9_code 8 = .ok (.lastore, 1) := by decide +kernel
theorem d_Law_length_9 : decode method_9_code 9 = .ok (.goto (12), 3) := by decide +kernel
theorem d_Law_length_12 : decode method_9_code 12 = .ok (.astore_n 3, 1) := by decide +kernel
theorem d_Law_length_13 : decode method_9_code 13 = .ok (.iconst 1, 1) := by decide +kernel
theorem d_Law_length_14 : decode method_9_code 14 = .ok (.ireturn, 1) := by decide +kernel
theorem d_Law_length_15 : decode method_9_code 15 = .ok (.astore_n 3, 1) := by decide +kernel
theorem d_Law_length_16 : decode method_9_code 16 = .ok (.iconst 2, 1) := by decide +kernel
theorem d_Law_length_17 : decode method_9_code 17 = .ok (.ireturn, 1) := by decide +kernel
theorem d_Law_length_18 : decode method_9_code 18 = .ok (.astore_n 3, 1) := by decide +kernel
theorem d_Law_length_19 : decode method_9_code 19 = .ok (.iconst 3, 1) := by decide +kernel
theorem d_Law_length_20 : decode method_9_code 20 = .ok (.ireturn, 1) := by decide +kernel
theorem d_Law_length_21 : decode method_9_code 21 = .ok (.iconst 0, 1) := by decide +kernel
theorem d_Law_length_22 : decode method_9_code 22 = .ok (.ireturn, 1) := by decide +kernel
theorem d_Law_entry_0 : decode method_10_code 0 = .ok (.aload 4, 2) := by decide +kernel
theorem d_Law_entry_2 : decode method_10_code 2 = .ok (.iconst 0, 1) := by decide +kernel
theorem d_Law_entry_3 : decode method_10_code 3 = .ok (.aload_n 0, 1) := by decide +kernel
theorem d_Law_entry_4 : decode method_10_code 4 = .ok (.iload_n 1, 1) := by decide +kernel
theorem d_Law_entry_5 : decode method_10_code 5 = .ok (.iload_n 2, 1) := by decide +kernel
theorem d_Law_entry_6 : decode method_10_code 6 = .ok (.iload_n 3, 1) := by decide +kernel
theorem d_Law_entry_7 : decode method_10_code 7 = .ok (.invokevirtual 45, 3) := by decide +kernel
theorem d_Law_entry_10 : decode method_10_code 10 = .ok (.i2l, 1) := by decide +kernel
theorem d_Law_entry_11 : decode method_10_code 11 = .ok (.lastore, 1) := by decide +kernel
theorem d_Law_entry_12 : decode method_10_code 12 = .ok (.goto (19), 3) := by decide +kernel
theorem d_Law_entry_15 : decode method_10_code 15 = .ok (.astore 5, 2) := by decide +kernel
theorem d_Law_entry_17 : decode method_10_code 17 = .ok (.iconst 1, 1) := by decide +kernel
theorem d_Law_entry_18 : decode method_10_code 18 = .ok (.ireturn, 1) := by decide +kernel
theorem d_Law_entry_19 : decode method_10_code 19 = .ok (.astore 5, 2) := by decide +kernel
theorem d_Law_entry_21 : decode method_10_code 21 = .ok (.iconst 2, 1) := by decide +kernel
theorem d_Law_entry_22 : decode method_10_code 22 = .ok (.ireturn, 1) := by decide +kernel
theorem d_Law_entry_23 : decode method_10_code 23 = .ok (.astore 5, 2) := by decide +kernel
theorem d_Law_entry_25 : decode method_10_code 25 = .ok (.iconst 3, 1) := by decide +kernel
theorem d_Law_entry_26 : decode method_10_code 26 = .ok (.ireturn, 1) := by decide +kernel
theorem d_Law_entry_27 : decode method_10_code 27 = .ok (.astore 5, 2) := by decide +kernel
theorem d_Law_entry_29 : decode method_10_code 29 = .ok (.iconst 4, 1) := by decide +kernel
theorem d_Law_entry_30 : decode method_10_code 30 = .ok (.ireturn, 1) := by decide +kernel
theorem d_Law_entry_31 : decode method_10_code 31 = .ok (.iconst 0, 1) := by decide +kernel
theorem d_Law_entry_32 : decode method_10_code 32 = .ok (.ireturn, 1) := by decide +kernel
theorem d_Law_charge_0 : decode method_11_code 0 = .ok (.aload_n 0, 1) := by decide +kernel
theorem d_Law_charge_1 : decode method_11_code 1 = .ok (.iload_n 1, 1) := by decide +kernel
theorem d_Law_charge_2 : decode method_11_code 2 = .ok (.invokevirtual 49, 3) := by decide +kernel
theorem d_Law_charge_5 : decode method_11_code 5 = .ok (.goto (9), 3) := by decide +kernel
theorem d_Law_charge_8 : decode method_11_code 8 = .ok (.astore_n 2, 1) := by decide +kernel
theorem d_Law_charge_9 : decode method_11_code 9 = .ok (.iconst 1, 1) := by decide +kernel
theorem d_Law_charge_10 : decode method_11_code 10 = .ok (.ireturn, 1) := by decide +kernel
theorem d_Law_charge_11 : decode method_11_code 11 = .ok (.astore_n 2, 1) := by decide +kernel
theorem d_Law_charge_12 : decode method_11_code 12 = .ok (.iconst 2, 1) := by decide +kernel
theorem d_Law_charge_13 : decode method_11_code 13 = .ok (.ireturn, 1) := by decide +kernel
theorem d_Law_charge_14 : decode method_11_code 14 = .ok (.iconst 0, 1) := by decide +kernel
theorem d_Law_charge_15 : decode method_11_code 15 = .ok (.ireturn, 1) := by decide +kernel
