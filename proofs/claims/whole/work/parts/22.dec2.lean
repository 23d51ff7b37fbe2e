theorem d_Map_init_0 : decode prog_5_method_1_code 0 = .ok (.aload_n 0, 1) := by decide +kernel
theorem d_Map_init_1 : decode prog_5_method_1_code 1 = .ok (.invokespecial 3, 3) := by decide +kernel
theorem d_Map_init_4 : decode prog_5_method_1_code 4 = .ok (.aload_n 0, 1) := by decide +kernel
theorem d_Map_init_5 : decode prog_5_method_1_code 5 = .ok (.iconst (-1), 1) := by decide +kernel
theorem d_Map_init_6 : decode prog_5_method_1_code 6 = .ok (.putfield 9, 3) := by decide +kernel
theorem d_Map_init_9 : decode prog_5_method_1_code 9 = .ok (.aload_n 0, 1) := by decide +kernel
theorem d_Map_init_10 : decode prog_5_method_1_code 10 = .ok (.iconst (-1), 1) := by decide +kernel
theorem d_Map_init_11 : decode prog_5_method_1_code 11 = .ok (.putfield 15, 3) := by decide +kernel
theorem d_Map_init_14 : decode prog_5_method_1_code 14 = .ok (.aload_n 0, 1) := by decide +kernel
theorem d_Map_init_15 : decode prog_5_method_1_code 15 = .ok (.iconst (-1), 1) := by decide +kernel
theorem d_Map_init_16 : decode prog_5_method_1_code 16 = .ok (.putfield 18, 3) := by decide +kernel
theorem d_Map_init_19 : decode prog_5_method_1_code 19 = .ok (.aload_n 0, 1) := by decide +kernel
theorem d_Map_init_20 : decode prog_5_method_1_code 20 = .ok (.lconst 0, 1) := by decide +kernel
theorem d_Map_init_21 : decode prog_5_method_1_code 21 = .ok (.putfield 21, 3) := by decide +kernel
theorem d_Map_init_24 : decode prog_5_method_1_code 24 = .ok (.aload_n 0, 1) := by decide +kernel
theorem d_Map_init_25 : decode prog_5_method_1_code 25 = .ok (.lconst 0, 1) := by decide +kernel
theorem d_Map_init_26 : decode prog_5_method_1_code 26 = .ok (.putfield 25, 3) := by decide +kernel
theorem d_Map_init_29 : decode prog_5_method_1_code 29 = .ok (.aload_n 0, 1) := by decide +kernel
theorem d_Map_init_30 : decode prog_5_method_1_code 30 = .ok (.aload_n 1, 1) := by decide +kernel
theorem d_Map_init_31 : decode prog_5_method_1_code 31 = .ok (.putfield 28, 3) := by decide +kernel
theorem d_Map_init_34 : decode prog_5_method_1_code 34 = .ok (.aload_n 0, 1) := by decide +kernel
theorem d_Map_init_35 : decode prog_5_method_1_code 35 = .ok (.aload_n 2, 1) := by decide +kernel
theorem d_Map_init_36 : decode prog_5_method_1_code 36 = .ok (.putfield 32, 3) := by decide +kernel
theorem d_Map_init_39 : decode prog_5_method_1_code 39 = .ok (.return_, 1) := by decide +kernel
theorem d_Map_find_0 : decode prog_5_method_2_code 0 = .ok (.aload_n 0, 1) := by decide +kernel
theorem d_Map_find_1 : decode prog_5_method_2_code 1 = .ok (.getfield 32, 3) := by decide +kernel
theorem d_Map_find_4 : decode prog_5_method_2_code 4 = .ok (.iconst 2, 1) := by decide +kernel
theorem d_Map_find_5 : decode prog_5_method_2_code 5 = .ok (.invokevirtual 36, 3) := by decide +kernel
theorem d_Map_find_8 : decode prog_5_method_2_code 8 = .ok (.istore_n 1, 1) := by decide +kernel
theorem d_Map_find_9 : decode prog_5_method_2_code 9 = .ok (.aload_n 0, 1) := by decide +kernel
theorem d_Map_find_10 : decode prog_5_method_2_code 10 = .ok (.iload_n 1, 1) := by decide +kernel
theorem d_Map_find_11 : decode prog_5_method_2_code 11 = .ok (.iconst (-1), 1) := by decide +kernel
theorem d_Map_find_12 : decode prog_5_method_2_code 12 = .ok (.if_icmp .ne (7), 3) := by decide +kernel
theorem d_Map_find_15 : decode prog_5_method_2_code 15 = .ok (.iconst (-1), 1) := by decide +kernel
theorem d_Map_find_16 : decode prog_5_method_2_code 16 = .ok (.goto (12), 3) := by decide +kernel
theorem d_Map_find_19 : decode prog_5_method_2_code 19 = .ok (.aload_n 0, 1) := by decide +kernel
theorem d_Map_find_20 : decode prog_5_method_2_code 20 = .ok (.getfield 32, 3) := by decide +kernel
theorem d_Map_find_23 : decode prog_5_method_2_code 23 = .ok (.iload_n 1, 1) := by decide +kernel
theorem d_Map_find_24 : decode prog_5_method_2_code 24 = .ok (.iconst 3, 1) := by decide +kernel
theorem d_Map_find_25 : decode prog_5_method_2_code 25 = .ok (.invokevirtual 42, 3) := by decide +kernel
theorem d_Map_find_28 : decode prog_5_method_2_code 28 = .ok (.putfield 9, 3) := by decide +kernel
theorem d_Map_find_31 : decode prog_5_method_2_code 31 = .ok (.aload_n 0, 1) := by decide +kernel
theorem d_Map_find_32 : decode prog_5_method_2_code 32 = .ok (.iconst (-1), 1) := by decide +kernel
theorem d_Map_find_33 : decode prog_5_method_2_code 33 = .ok (.putfield 15, 3) := by decide +kernel
theorem d_Map_find_36 : decode prog_5_method_2_code 36 = .ok (.aload_n 0, 1) := by decide +kernel
theorem d_Map_find_37 : decode prog_5_method_2_code 37 = .ok (.iconst (-1), 1) := by decide +kernel
theorem d_Map_find_38 : decode prog_5_method_2_code 38 = .ok (.putfield 18, 3) := by decide +kernel
theorem d_Map_find_41 : decode prog_5_method_2_code 41 = .ok (.aload_n 0, 1) := by decide +kernel
theorem d_Map_find_42 : decode prog_5_method_2_code 42 = .ok (.lconst 0, 1) := by decide +kernel
theorem d_Map_find_43 : decode prog_5_method_2_code 43 = .ok (.putfield 21, 3) := by decide +kernel
theorem d_Map_find_46 : decode prog_5_method_2_code 46 = .ok (.aload_n 0, 1) := by decide +kernel
theorem d_Map_find_47 : decode prog_5_method_2_code 47 = .ok (.lconst 0, 1) := by decide +kernel
theorem d_Map_find_48 : decode prog_5_method_2_code 48 = .ok (.putfield 25, 3) := by decide +kernel
theorem d_Map_find_51 : decode prog_5_method_2_code 51 = .ok (.return_, 1) := by decide +kernel
theorem d_Map_take_0 : decode prog_5_method_3_code 0 = .ok (.aload_n 0, 1) := by decide +kernel
theorem d_Map_take_1 : decode prog_5_method_3_code 1 = .ok (.invokevirtual 46, 3) := by decide +kernel
theorem d_Map_take_4 : decode prog_5_method_3_code 4 = .ok (.iconst 0, 1) := by decide +kernel
theorem d_Map_take_5 : decode prog_5_method_3_code 5 = .ok (.istore_n 2, 1) := by decide +kernel
theorem d_Map_take_6 : decode prog_5_method_3_code 6 = .ok (.iload_n 2, 1) := by decide +kernel
theorem d_Map_take_7 : decode prog_5_method_3_code 7 = .ok (.bipush (40), 2) := by decide +kernel
theorem d_Map_take_9 : decode prog_5_method_3_code 9 = .ok (.if_icmp .ge (30), 3) := by decide +kernel
theorem d_Map_take_12 : decode prog_5_method_3_code 12 = .ok (.aload_n 0, 1) := by decide +kernel
theorem d_Map_take_13 : decode prog_5_method_3_code 13 = .ok (.invokevirtual 49, 3) := by decide +kernel
theorem d_Map_take_16 : decode prog_5_method_3_code 16 = .ok (.iload_n 1, 1) := by decide +kernel
theorem d_Map_take_17 : decode prog_5_method_3_code 17 = .ok (.if_icmp .ge (22), 3) := by decide +kernel
theorem d_Map_take_20 : decode prog_5_method_3_code 20 = .ok (.aload_n 0, 1) := by decide +kernel
theorem d_Map_take_21 : decode prog_5_method_3_code 21 = .ok (.iload_n 2, 1) := by decide +kernel
theorem d_Map_take_22 : decode prog_5_method_3_code 22 = .ok (.invokevirtual 53, 3) := by decide +kernel
theorem d_Map_take_25 : decode prog_5_method_3_code 25 = .ok (.ifCond .eq (8), 3) := by decide +kernel
theorem d_Map_take_28 : decode prog_5_method_3_code 28 = .ok (.aload_n 0, 1) := by decide +kernel
theorem d_Map_take_29 : decode prog_5_method_3_code 29 = .ok (.iload_n 2, 1) := by decide +kernel
theorem d_Map_take_30 : decode prog_5_method_3_code 30 = .ok (.invokevirtual 57, 3) := by decide +kernel
theorem d_Map_take_33 : decode prog_5_method_3_code 33 = .ok (.iinc 2 (1), 3) := by decide +kernel
theorem d_Map_take_36 : decode prog_5_method_3_code 36 = .ok (.goto (-30), 3) := by decide +kernel
theorem d_Map_take_39 : decode prog_5_method_3_code 39 = .ok (.iconst 0, 1) := by decide +kernel
theorem d_Map_take_40 : decode prog_5_method_3_code 40 = .ok (.istore_n 2, 1) := by decide +kernel
theorem d_Map_take_41 : decode prog_5_method_3_code 41 = .ok (.iload_n 2, 1) := by decide +kernel
theorem d_Map_take_42 : decode prog_5_method_3_code 42 = .ok (.bipush (40), 2) := by decide +kernel
theorem d_Map_take_44 : decode prog_5_method_3_code 44 = .ok (.if_icmp .ge (41), 3) := by decide +kernel
theorem d_Map_take_47 : decode prog_5_method_3_code 47 = .ok (.aload_n 0, 1) := by decide +kernel
theorem d_Map_take_48 : decode prog_5_method_3_code 48 = .ok (.invokevirtual 49, 3) := by decide +kernel
theorem d_Map_take_51 : decode prog_5_method_3_code 51 = .ok (.iload_n 1, 1) := by decide +kernel
theorem d_Map_take_52 : decode prog_5_method_3_code 52 = .ok (.if_icmp .ge (33), 3) := by decide +kernel
theorem d_Map_take_55 : decode prog_5_method_3_code 55 = .ok (.aload_n 0, 1) := by decide +kernel
theorem d_Map_take_56 : decode prog_5_method_3_code 56 = .ok (.getfield 28, 3) := by decide +kernel
theorem d_Map_take_59 : decode prog_5_method_3_code 59 = .ok (.iload_n 2, 1) := by decide +kernel
theorem d_Map_take_60 : decode prog_5_method_3_code 60 = .ok (.invokevirtual 61, 3) := by decide +kernel
theorem d_Map_take_63 : decode prog_5_method_3_code 63 = .ok (.ifCond .eq (16), 3) := by decide +kernel
theorem d_Map_take_66 : decode prog_5_method_3_code 66 = .ok (.iload_n 2, 1) := by decide +kernel
theorem d_Map_take_67 : decode prog_5_method_3_code 67 = .ok (.aload_n 0, 1) := by decide +kernel
theorem d_Map_take_68 : decode prog_5_method_3_code 68 = .ok (.getfield 15, 3) := by decide +kernel
theorem d_Map_take_71 : decode prog_5_method_3_code 71 = .ok (.if_icmp .eq (8), 3) := by decide +kernel
theorem d_Map_take_74 : decode prog_5_method_3_code 74 = .ok (.aload_n 0, 1) := by decide +kernel
theorem d_Map_take_75 : decode prog_5_method_3_code 75 = .ok (.iload_n 2, 1) := by decide +kernel
theorem d_Map_take_76 : decode prog_5_method_3_code 76 = .ok (.invokevirtual 57, 3) := by decide +kernel
theorem d_Map_take_79 : decode prog_5_method_3_code 79 = .ok (.iinc 2 (1), 3) := by decide +kernel
theorem d_Map_take_82 : decode prog_5_method_3_code 82 = .ok (.goto (-41), 3) := by decide +kernel
theorem d_Map_take_85 : decode prog_5_method_3_code 85 = .ok (.aload_n 0, 1) := by decide +kernel
theorem d_Map_take_86 : decode prog_5_method_3_code 86 = .ok (.invokevirtual 49, 3) := by decide +kernel
theorem d_Map_take_89 : decode prog_5_method_3_code 89 = .ok (.iload_n 1, 1) := by decide +kernel
theorem d_Map_take_90 : decode prog_5_method_3_code 90 = .ok (.if_icmp .ne (7), 3) := by decide +kernel
theorem d_Map_take_93 : decode prog_5_method_3_code 93 = .ok (.iconst 1, 1) := by decide +kernel
theorem d_Map_take_94 : decode prog_5_method_3_code 94 = .ok (.goto (4), 3) := by decide +kernel
theorem d_Map_take_97 : decode prog_5_method_3_code 97 = .ok (.iconst 0, 1) := by decide +kernel
theorem d_Map_take_98 : decode prog_5_method_3_code 98 = .ok (.ireturn, 1) := by decide +kernel
theorem d_Map_hintsFree_0 : decode prog_5_method_4_code 0 = .ok (.aload_n 0, 1) := by decide +kernel
theorem d_Map_hintsFree_1 : decode prog_5_method_4_code 1 = .ok (.getfield 9, 3) := by decide +kernel
theorem d_Map_hintsFree_4 : decode prog_5_method_4_code 4 = .ok (.iconst (-1), 1) := by decide +kernel
theorem d_Map_hintsFree_5 : decode prog_5_method_4_code 5 = .ok (.if_icmp .eq (33), 3) := by decide +kernel
theorem d_Map_hintsFree_8 : decode prog_5_method_4_code 8 = .ok (.aload_n 0, 1) := by decide +kernel
theorem d_Map_hintsFree_9 : decode prog_5_method_4_code 9 = .ok (.getfield 28, 3) := by decide +kernel
theorem d_Map_hintsFree_12 : decode prog_5_method_4_code 12 = .ok (.aload_n 0, 1) := by decide +kernel
theorem d_Map_hintsFree_13 : decode prog_5_method_4_code 13 = .ok (.getfield 9, 3) := by decide +kernel
theorem d_Map_hintsFree_16 : decode prog_5_method_4_code 16 = .ok (.iload_n 1, 1) := by decide +kernel
theorem d_Map_hintsFree_17 : decode prog_5_method_4_code 17 = .ok (.bipush (8), 2) := by decide +kernel
theorem d_Map_hintsFree_19 : decode prog_5_method_4_code 19 = .ok (.idiv, 1) := by decide +kernel
theorem d_Map_hintsFree_20 : decode prog_5_method_4_code 20 = .ok (.invokevirtual 66, 3) := by decide +kernel
theorem d_Map_hintsFree_23 : decode prog_5_method_4_code 23 = .ok (.iload_n 1, 1) := by decide +kernel
theorem d_Map_hintsFree_24 : decode prog_5_method_4_code 24 = .ok (.bipush (8), 2) := by decide +kernel
theorem d_Map_hintsFree_26 : decode prog_5_method_4_code 26 = .ok (.irem, 1) := by decide +kernel
theorem d_Map_hintsFree_27 : decode prog_5_method_4_code 27 = .ok (.ishr, 1) := by decide +kernel
theorem d_Map_hintsFree_28 : decode prog_5_method_4_code 28 = .ok (.iconst 1, 1) := by decide +kernel
theorem d_Map_hintsFree_29 : decode prog_5_method_4_code 29 = .ok (.iand, 1) := by decide +kernel
theorem d_Map_hintsFree_30 : decode prog_5_method_4_code 30 = .ok (.iconst 1, 1) := by decide +kernel
theorem d_Map_hintsFree_31 : decode prog_5_method_4_code 31 = .ok (.if_icmp .ne (7), 3) := by decide +kernel
theorem d_Map_hintsFree_34 : decode prog_5_method_4_code 34 = .ok (.iconst 1, 1) := by decide +kernel
theorem d_Map_hintsFree_35 : decode prog_5_method_4_code 35 = .ok (.goto (4), 3) := by decide +kernel
theorem d_Map_hintsFree_38 : decode prog_5_method_4_code 38 = .ok (.iconst 0, 1) := by decide +kernel
theorem d_Map_hintsFree_39 : decode prog_5_method_4_code 39 = .ok (.ireturn, 1) := by decide +kernel
theorem d_Map_takeOrMiss_0 : decode prog_5_method_5_code 0 = .ok (.aload_n 0, 1) := by decide +kernel
theorem d_Map_takeOrMiss_1 : decode prog_5_method_5_code 1 = .ok (.dup, 1) := by decide +kernel
theorem d_Map_takeOrMiss_2 : decode prog_5_method_5_code 2 = .ok (.getfield 21, 3) := by decide +kernel
theorem d_Map_takeOrMiss_5 : decode prog_5_method_5_code 5 = .ok (.lconst 1, 1) := by decide +kernel
theorem d_Map_takeOrMiss_6 : decode prog_5_method_5_code 6 = .ok (.iload_n 1, 1) := by decide +kernel
theorem d_Map_takeOrMiss_7 : decode prog_5_method_5_code 7 = .ok (.lshl, 1) := by decide +kernel
theorem d_Map_takeOrMiss_8 : decode prog_5_method_5_code 8 = .ok (.lor, 1) := by decide +kernel
theorem d_Map_takeOrMiss_9 : decode prog_5_method_5_code 9 = .ok (.putfield 21, 3) := by decide +kernel
theorem d_Map_takeOrMiss_12 : decode prog_5_method_5_code 12 = .ok (.aload_n 0, 1) := by decide +kernel
theorem d_Map_takeOrMiss_13 : decode prog_5_method_5_code 13 = .ok (.getfield 28, 3) := by decide +kernel
theorem d_Map_takeOrMiss_16 : decode prog_5_method_5_code 16 = .ok (.iload_n 1, 1) := by decide +kernel
theorem d_Map_takeOrMiss_17 : decode prog_5_method_5_code 17 = .ok (.invokevirtual 61, 3) := by decide +kernel
theorem d_Map_takeOrMiss_20 : decode prog_5_method_5_code 20 = .ok (.ifCond .ne (13), 3) := by decide +kernel
theorem d_Map_takeOrMiss_23 : decode prog_5_method_5_code 23 = .ok (.aload_n 0, 1) := by decide +kernel
theorem d_Map_takeOrMiss_24 : decode prog_5_method_5_code 24 = .ok (.getfield 28, 3) := by decide +kernel
theorem d_Map_takeOrMiss_27 : decode prog_5_method_5_code 27 = .ok (.invokevirtual 69, 3) := by decide +kernel
theorem d_Map_takeOrMiss_30 : decode prog_5_method_5_code 30 = .ok (.goto (24), 3) := by decide +kernel
theorem d_Map_takeOrMiss_33 : decode prog_5_method_5_code 33 = .ok (.aload_n 0, 1) := by decide +kernel
theorem d_Map_takeOrMiss_34 : decode prog_5_method_5_code 34 = .ok (.getfield 15, 3) := by decide +kernel
theorem d_Map_takeOrMiss_37 : decode prog_5_method_5_code 37 = .ok (.iconst (-1), 1) := by decide +kernel
theorem d_Map_takeOrMiss_38 : decode prog_5_method_5_code 38 = .ok (.if_icmp .ne (11), 3) := by decide +kernel
theorem d_Map_takeOrMiss_41 : decode prog_5_method_5_code 41 = .ok (.aload_n 0, 1) := by decide +kernel
theorem d_Map_takeOrMiss_42 : decode prog_5_method_5_code 42 = .ok (.iload_n 1, 1) := by decide +kernel
theorem d_Map_takeOrMiss_43 : decode prog_5_method_5_code 43 = .ok (.putfield 15, 3) := by decide +kernel
theorem d_Map_takeOrMiss_46 : decode prog_5_method_5_code 46 = .ok (.goto (8), 3) := by decide +kernel
theorem d_Map_takeOrMiss_49 : decode prog_5_method_5_code 49 = .ok (.aload_n 0, 1) := by decide +kernel
theorem d_Map_takeOrMiss_50 : decode prog_5_method_5_code 50 = .ok (.iload_n 1, 1) := by decide +kernel
theorem d_Map_takeOrMiss_51 : decode prog_5_method_5_code 51 = .ok (.putfield 18, 3) := by decide +kernel
theorem d_Map_takeOrMiss_54 : decode prog_5_method_5_code 54 = .ok (.return_, 1) := by decide +kernel
theorem d_Map_countTaken_0 : decode prog_5_method_6_code 0 = .ok (.aload_n 0, 1) := by decide +kernel
theorem d_Map_countTaken_1 : decode prog_5_method_6_code 1 = .ok (.getfield 15, 3) := by decide +kernel
theorem d_Map_countTaken_4 : decode prog_5_method_6_code 4 = .ok (.iconst (-1), 1) := by decide +kernel
theorem d_Map_countTaken_5 : decode prog_5_method_6_code 5 = .ok (.if_icmp .ne (7), 3) := by decide +kernel
theorem d_Map_countTaken_8 : decode prog_5_method_6_code 8 = .ok (.iconst 0, 1) := by decide +kernel
theorem d_Map_countTaken_9 : decode prog_5_method_6_code 9 = .ok (.goto (16), 3) := by decide +kernel
theorem d_Map_countTaken_12 : decode prog_5_method_6_code 12 = .ok (.aload_n 0, 1) := by decide +kernel
theorem d_Map_countTaken_13 : decode prog_5_method_6_code 13 = .ok (.getfield 18, 3) := by decide +kernel
theorem d_Map_countTaken_16 : decode prog_5_method_6_code 16 = .ok (.iconst (-1), 1) := by decide +kernel
theorem d_Map_countTaken_17 : decode prog_5_method_6_code 17 = .ok (.if_icmp .ne (7), 3) := by decide +kernel
theorem d_Map_countTaken_20 : decode prog_5_method_6_code 20 = .ok (.iconst 1, 1) := by decide +kernel
theorem d_Map_countTaken_21 : decode prog_5_method_6_code 21 = .ok (.goto (4), 3) := by decide +kernel
theorem d_Map_countTaken_24 : decode prog_5_method_6_code 24 = .ok (.iconst 2, 1) := by decide +kernel
theorem d_Map_countTaken_25 : decode prog_5_method_6_code 25 = .ok (.ireturn, 1) := by decide +kernel
theorem d_Map_firstTaken_0 : decode prog_5_method_7_code 0 = .ok (.aload_n 0, 1) := by decide +kernel
theorem d_Map_firstTaken_1 : decode prog_5_method_7_code 1 = .ok (.getfield 15, 3) := by decide +kernel
theorem d_Map_firstTaken_4 : decode prog_5_method_7_code 4 = .ok (.ireturn, 1) := by decide +kernel
theorem d_Map_secondTaken_0 : decode prog_5_method_8_code 0 = .ok (.aload_n 0, 1) := by decide +kernel
theorem d_Map_secondTaken_1 : decode prog_5_method_8_code 1 = .ok (.getfield 18, 3) := by decide +kernel
theorem d_Map_secondTaken_4 : decode prog_5_method_8_code 4 = .ok (.ireturn, 1) := by decide +kernel
theorem d_Map_release_0 : decode prog_5_method_9_code 0 = .ok (.aload_n 0, 1) := by decide +kernel
theorem d_Map_release_1 : decode prog_5_method_9_code 1 = .ok (.getfield 28, 3) := by decide +kernel
theorem d_Map_release_4 : decode prog_5_method_9_code 4 = .ok (.invokevirtual 72, 3) := by decide +kernel
theorem d_Map_release_7 : decode prog_5_method_9_code 7 = .ok (.aload_n 0, 1) := by decide +kernel
theorem d_Map_release_8 : decode prog_5_method_9_code 8 = .ok (.getfield 28, 3) := by decide +kernel
theorem d_Map_release_11 : decode prog_5_method_9_code 11 = .ok (.iload_n 1, 1) := by decide +kernel
theorem d_Map_release_12 : decode prog_5_method_9_code 12 = .ok (.invokevirtual 75, 3) := by decide +kernel
theorem d_Map_release_15 : decode prog_5_method_9_code 15 = .ok (.aload_n 0, 1) := by decide +kernel
theorem d_Map_release_16 : decode prog_5_method_9_code 16 = .ok (.dup, 1) := by decide +kernel
theorem d_Map_release_17 : decode prog_5_method_9_code 17 = .ok (.getfield 25, 3) := by decide +kernel
theorem d_Map_release_20 : decode prog_5_method_9_code 20 = .ok (.lconst 1, 1) := by decide +kernel
theorem d_Map_release_21 : decode prog_5_method_9_code 21 = .ok (.iload_n 1, 1) := by decide +kernel
theorem d_Map_release_22 : decode prog_5_method_9_code 22 = .ok (.lshl, 1) := by decide +kernel
theorem d_Map_release_23 : decode prog_5_method_9_code 23 = .ok (.lor, 1) := by decide +kernel
theorem d_Map_release_24 : decode prog_5_method_9_code 24 = .ok (.putfield 25, 3) := by decide +kernel
theorem d_Map_release_27 : decode prog_5_method_9_code 27 = .ok (.return_, 1) := by decide +kernel
theorem d_Map_update_0 : decode prog_5_method_10_code 0 = .ok (.aload_n 0, 1) := by decide +kernel
theorem d_Map_update_1 : decode prog_5_method_10_code 1 = .ok (.getfield 9, 3) := by decide +kernel
theorem d_Map_update_4 : decode prog_5_method_10_code 4 = .ok (.iconst (-1), 1) := by decide +kernel
theorem d_Map_update_5 : decode prog_5_method_10_code 5 = .ok (.if_icmp .eq (10), 3) := by decide +kernel
theorem d_Map_update_8 : decode prog_5_method_10_code 8 = .ok (.aload_n 0, 1) := by decide +kernel
theorem d_Map_update_9 : decode prog_5_method_10_code 9 = .ok (.invokevirtual 78, 3) := by decide +kernel
theorem d_Map_update_12 : decode prog_5_method_10_code 12 = .ok (.ifCond .ne (4), 3) := by decide +kernel
theorem d_Map_update_15 : decode prog_5_method_10_code 15 = .ok (.return_, 1) := by decide +kernel
theorem d_Map_update_16 : decode prog_5_method_10_code 16 = .ok (.aload_n 0, 1) := by decide +kernel
theorem d_Map_update_17 : decode prog_5_method_10_code 17 = .ok (.getfield 28, 3) := by decide +kernel
theorem d_Map_update_20 : decode prog_5_method_10_code 20 = .ok (.invokevirtual 72, 3) := by decide +kernel
theorem d_Map_update_23 : decode prog_5_method_10_code 23 = .ok (.iconst 0, 1) := by decide +kernel
theorem d_Map_update_24 : decode prog_5_method_10_code 24 = .ok (.istore_n 1, 1) := by decide +kernel
theorem d_Map_update_25 : decode prog_5_method_10_code 25 = .ok (.iload_n 1, 1) := by decide +kernel
theorem d_Map_update_26 : decode prog_5_method_10_code 26 = .ok (.iconst 5, 1) := by decide +kernel
theorem d_Map_update_27 : decode prog_5_method_10_code 27 = .ok (.if_icmp .ge (26), 3) := by decide +kernel
theorem d_Map_update_30 : decode prog_5_method_10_code 30 = .ok (.aload_n 0, 1) := by decide +kernel
theorem d_Map_update_31 : decode prog_5_method_10_code 31 = .ok (.getfield 28, 3) := by decide +kernel
theorem d_Map_update_34 : decode prog_5_method_10_code 34 = .ok (.aload_n 0, 1) := by decide +kernel
theorem d_Map_update_35 : decode prog_5_method_10_code 35 = .ok (.getfield 9, 3) := by decide +kernel
theorem d_Map_update_38 : decode prog_5_method_10_code 38 = .ok (.iload_n 1, 1) := by decide +kernel
theorem d_Map_update_39 : decode prog_5_method_10_code 39 = .ok (.aload_n 0, 1) := by decide +kernel
theorem d_Map_update_40 : decode prog_5_method_10_code 40 = .ok (.iload_n 1, 1) := by decide +kernel
theorem d_Map_update_41 : decode prog_5_method_10_code 41 = .ok (.invokevirtual 82, 3) := by decide +kernel
theorem d_Map_update_44 : decode prog_5_method_10_code 44 = .ok (.invokevirtual 85, 3) := by decide +kernel
theorem d_Map_update_47 : decode prog_5_method_10_code 47 = .ok (.iinc 1 (1), 3) := by decide +kernel
theorem d_Map_update_50 : decode prog_5_method_10_code 50 = .ok (.goto (-25), 3) := by decide +kernel
theorem d_Map_update_53 : decode prog_5_method_10_code 53 = .ok (.return_, 1) := by decide +kernel
theorem d_Map_wouldChange_0 : decode prog_5_method_11_code 0 = .ok (.iconst 0, 1) := by decide +kernel
theorem d_Map_wouldChange_1 : decode prog_5_method_11_code 1 = .ok (.istore_n 1, 1) := by decide +kernel
theorem d_Map_wouldChange_2 : decode prog_5_method_11_code 2 = .ok (.iload_n 1, 1) := by decide +kernel
theorem d_Map_wouldChange_3 : decode prog_5_method_11_code 3 = .ok (.iconst 5, 1) := by decide +kernel
theorem d_Map_wouldChange_4 : decode prog_5_method_11_code 4 = .ok (.if_icmp .ge (31), 3) := by decide +kernel
theorem d_Map_wouldChange_7 : decode prog_5_method_11_code 7 = .ok (.aload_n 0, 1) := by decide +kernel
theorem d_Map_wouldChange_8 : decode prog_5_method_11_code 8 = .ok (.iload_n 1, 1) := by decide +kernel
theorem d_Map_wouldChange_9 : decode prog_5_method_11_code 9 = .ok (.invokevirtual 82, 3) := by decide +kernel
theorem d_Map_wouldChange_12 : decode prog_5_method_11_code 12 = .ok (.aload_n 0, 1) := by decide +kernel
theorem d_Map_wouldChange_13 : decode prog_5_method_11_code 13 = .ok (.getfield 28, 3) := by decide +kernel
theorem d_Map_wouldChange_16 : decode prog_5_method_11_code 16 = .ok (.aload_n 0, 1) := by decide +kernel
theorem d_Map_wouldChange_17 : decode prog_5_method_11_code 17 = .ok (.getfield 9, 3) := by decide +kernel
theorem d_Map_wouldChange_20 : decode prog_5_method_11_code 20 = .ok (.iload_n 1, 1) := by decide +kernel
theorem d_Map_wouldChange_21 : decode prog_5_method_11_code 21 = .ok (.invokevirtual 66, 3) := by decide +kernel
theorem d_Map_wouldChange_24 : decode prog_5_method_11_code 24 = .ok (.if_icmp .eq (5), 3) := by decide +kernel
theorem d_Map_wouldChange_27 : decode prog_5_method_11_code 27 = .ok (.iconst 1, 1) := by decide +kernel
theorem d_Map_wouldChange_28 : decode prog_5_method_11_code 28 = .ok (.ireturn, 1) := by decide +kernel
theorem d_Map_wouldChange_29 : decode prog_5_method_11_code 29 = .ok (.iinc 1 (1), 3) := by decide +kernel
theorem d_Map_wouldChange_32 : decode prog_5_method_11_code 32 = .ok (.goto (-30), 3) := by decide +kernel
theorem d_Map_wouldChange_35 : decode prog_5_method_11_code 35 = .ok (.iconst 0, 1) := by decide +kernel
theorem d_Map_wouldChange_36 : decode prog_5_method_11_code 36 = .ok (.ireturn, 1) := by decide +kernel
theorem d_Map_updatedByte_0 : decode prog_5_method_12_code 0 = .ok (.aload_n 0, 1) := by decide +kernel
theorem d_Map_updatedByte_1 : decode prog_5_method_12_code 1 = .ok (.getfield 25, 3) := by decide +kernel
theorem d_Map_updatedByte_4 : decode prog_5_method_12_code 4 = .ok (.bipush (8), 2) := by decide +kernel
theorem d_Map_updatedByte_6 : decode prog_5_method_12_code 6 = .ok (.iload_n 1, 1) := by decide +kernel
theorem d_Map_updatedByte_7 : decode prog_5_method_12_code 7 = .ok (.imul, 1) := by decide +kernel
theorem d_Map_updatedByte_8 : decode prog_5_method_12_code 8 = .ok (.lshr, 1) := by decide +kernel
theorem d_Map_updatedByte_9 : decode prog_5_method_12_code 9 = .ok (.ldc2_w 89, 3) := by decide +kernel
theorem d_Map_updatedByte_12 : decode prog_5_method_12_code 12 = .ok (.land, 1) := by decide +kernel
theorem d_Map_updatedByte_13 : decode prog_5_method_12_code 13 = .ok (.lstore_n 2, 1) := by decide +kernel
theorem d_Map_updatedByte_14 : decode prog_5_method_12_code 14 = .ok (.aload_n 0, 1) := by decide +kernel
theorem d_Map_updatedByte_15 : decode prog_5_method_12_code 15 = .ok (.getfield 21, 3) := by decide +kernel
theorem d_Map_updatedByte_18 : decode prog_5_method_12_code 18 = .ok (.bipush (8), 2) := by decide +kernel
theorem d_Map_updatedByte_20 : decode prog_5_method_12_code 20 = .ok (.iload_n 1, 1) := by decide +kernel
theorem d_Map_updatedByte_21 : decode prog_5_method_12_code 21 = .ok (.imul, 1) := by decide +kernel
theorem d_Map_updatedByte_22 : decode prog_5_method_12_code 22 = .ok (.lshr, 1) := by decide +kernel
theorem d_Map_updatedByte_23 : decode prog_5_method_12_code 23 = .ok (.ldc2_w 89, 3) := by decide +kernel
theorem d_Map_updatedByte_26 : decode prog_5_method_12_code 26 = .ok (.land, 1) := by decide +kernel
theorem d_Map_updatedByte_27 : decode prog_5_method_12_code 27 = .ok (.lstore 4, 2) := by decide +kernel
theorem d_Map_updatedByte_29 : decode prog_5_method_12_code 29 = .ok (.aload_n 0, 1) := by decide +kernel
theorem d_Map_updatedByte_30 : decode prog_5_method_12_code 30 = .ok (.getfield 28, 3) := by decide +kernel
theorem d_Map_updatedByte_33 : decode prog_5_method_12_code 33 = .ok (.aload_n 0, 1) := by decide +kernel
theorem d_Map_updatedByte_34 : decode prog_5_method_12_code 34 = .ok (.getfield 9, 3) := by decide +kernel
theorem d_Map_updatedByte_37 : decode prog_5_method_12_code 37 = .ok (.iload_n 1, 1) := by decide +kernel
theorem d_Map_updatedByte_38 : decode prog_5_method_12_code 38 = .ok (.invokevirtual 66, 3) := by decide +kernel
theorem d_Map_updatedByte_41 : decode prog_5_method_12_code 41 = .ok (.i2l, 1) := by decide +kernel
theorem d_Map_updatedByte_42 : decode prog_5_method_12_code 42 = .ok (.lload_n 2, 1) := by decide +kernel
theorem d_Map_updatedByte_43 : decode prog_5_method_12_code 43 = .ok (.lor, 1) := by decide +kernel
theorem d_Map_updatedByte_44 : decode prog_5_method_12_code 44 = .ok (.lload 4, 2) := by decide +kernel
theorem d_Map_updatedByte_46 : decode prog_5_method_12_code 46 = .ok (.ldc2_w 91, 3) := by decide +kernel
theorem d_Map_updatedByte_49 : decode prog_5_method_12_code 49 = .ok (.lxor, 1) := by decide +kernel
theorem d_Map_updatedByte_50 : decode prog_5_method_12_code 50 = .ok (.land, 1) := by decide +kernel
theorem d_Map_updatedByte_51 : decode prog_5_method_12_code 51 = .ok (.l2i, 1) := by decide +kernel
theorem d_Map_updatedByte_52 : decode prog_5_method_12_code 52 = .ok (.ireturn, 1) := by decide +kernel
theorem d_Scav_init_0 : decode prog_6_method_1_code 0 = .ok (.aload_n 0, 1) := by decide +kernel
theorem d_Scav_init_1 : decode prog_6_method_1_code 1 = .ok (.invokespecial 3, 3) := by decide +kernel
theorem d_Scav_init_4 : decode prog_6_method_1_code 4 = .ok (.aload_n 0, 1) := by decide +kernel
theorem d_Scav_init_5 : decode prog_6_method_1_code 5 = .ok (.iconst 5, 1) := by decide +kernel
theorem d_Scav_init_6 : decode prog_6_method_1_code 6 = .ok (.newarray .int, 2) := by decide +kernel
theorem d_Scav_init_8 : decode prog_6_method_1_code 8 = .ok (.putfield 11, 3) := by decide +kernel
theorem d_Scav_init_11 : decode prog_6_method_1_code 11 = .ok (.aload_n 0, 1) := by decide +kernel
theorem d_Scav_init_12 : decode prog_6_method_1_code 12 = .ok (.iconst 0, 1) := by decide +kernel
theorem d_Scav_init_13 : decode prog_6_method_1_code 13 = .ok (.putfield 15, 3) := by decide +kernel
theorem d_Scav_init_16 : decode prog_6_method_1_code 16 = .ok (.aload_n 0, 1) := by decide +kernel
theorem d_Scav_init_17 : decode prog_6_method_1_code 17 = .ok (.iconst 0, 1) := by decide +kernel
theorem d_Scav_init_18 : decode prog_6_method_1_code 18 = .ok (.putfield 19, 3) := by decide +kernel
theorem d_Scav_init_21 : decode prog_6_method_1_code 21 = .ok (.aload_n 0, 1) := by decide +kernel
theorem d_Scav_init_22 : decode prog_6_method_1_code 22 = .ok (.iconst 0, 1) := by decide +kernel
theorem d_Scav_init_23 : decode prog_6_method_1_code 23 = .ok (.putfield 22, 3) := by decide +kernel
theorem d_Scav_init_26 : decode prog_6_method_1_code 26 = .ok (.aload_n 0, 1) := by decide +kernel
theorem d_Scav_init_27 : decode prog_6_method_1_code 27 = .ok (.lconst 0, 1) := by decide +kernel
theorem d_Scav_init_28 : decode prog_6_method_1_code 28 = .ok (.putfield 25, 3) := by decide +kernel
theorem d_Scav_init_31 : decode prog_6_method_1_code 31 = .ok (.aload_n 0, 1) := by decide +kernel
theorem d_Scav_init_32 : decode prog_6_method_1_code 32 = .ok (.aload_n 1, 1) := by decide +kernel
theorem d_Scav_init_33 : decode prog_6_method_1_code 33 = .ok (.putfield 29, 3) := by decide +kernel
theorem d_Scav_init_36 : decode prog_6_method_1_code 36 = .ok (.return_, 1) := by decide +kernel
theorem d_Scav_result_0 : decode prog_6_method_2_code 0 = .ok (.iload_n 1, 1) := by decide +kernel
theorem d_Scav_result_1 : decode prog_6_method_2_code 1 = .ok (.ifCond .lt (17), 3) := by decide +kernel
theorem d_Scav_result_4 : decode prog_6_method_2_code 4 = .ok (.iload_n 1, 1) := by decide +kernel
theorem d_Scav_result_5 : decode prog_6_method_2_code 5 = .ok (.iconst 5, 1) := by decide +kernel
theorem d_Scav_result_6 : decode prog_6_method_2_code 6 = .ok (.if_icmp .ge (12), 3) := by decide +kernel
theorem d_Scav_result_9 : decode prog_6_method_2_code 9 = .ok (.aload_n 0, 1) := by decide +kernel
theorem d_Scav_result_10 : decode prog_6_method_2_code 10 = .ok (.getfield 11, 3) := by decide +kernel
theorem d_Scav_result_13 : decode prog_6_method_2_code 13 = .ok (.iload_n 1, 1) := by decide +kernel
theorem d_Scav_result_14 : decode prog_6_method_2_code 14 = .ok (.iaload, 1) := by decide +kernel
theorem d_Scav_result_15 : decode prog_6_method_2_code 15 = .ok (.goto (4), 3) := by decide +kernel
theorem d_Scav_result_18 : decode prog_6_method_2_code 18 = .ok (.iconst (-1), 1) := by decide +kernel
theorem d_Scav_result_19 : decode prog_6_method_2_code 19 = .ok (.ireturn, 1) := by decide +kernel
theorem d_Scav_run_0 : decode prog_6_method_3_code 0 = .ok (.aload_n 0, 1) := by decide +kernel
theorem d_Scav_run_1 : decode prog_6_method_3_code 1 = .ok (.iconst 0, 1) := by decide +kernel
theorem d_Scav_run_2 : decode prog_6_method_3_code 2 = .ok (.putfield 15, 3) := by decide +kernel
theorem d_Scav_run_5 : decode prog_6_method_3_code 5 = .ok (.aload_n 0, 1) := by decide +kernel
theorem d_Scav_run_6 : decode prog_6_method_3_code 6 = .ok (.iconst 0, 1) := by decide +kernel
theorem d_Scav_run_7 : decode prog_6_method_3_code 7 = .ok (.putfield 19, 3) := by decide +kernel
theorem d_Scav_run_10 : decode prog_6_method_3_code 10 = .ok (.aload_n 0, 1) := by decide +kernel
theorem d_Scav_run_11 : decode prog_6_method_3_code 11 = .ok (.iconst 0, 1) := by decide +kernel
theorem d_Scav_run_12 : decode prog_6_method_3_code 12 = .ok (.putfield 22, 3) := by decide +kernel
theorem d_Scav_run_15 : decode prog_6_method_3_code 15 = .ok (.aload_n 0, 1) := by decide +kernel
theorem d_Scav_run_16 : decode prog_6_method_3_code 16 = .ok (.lconst 0, 1) := by decide +kernel
theorem d_Scav_run_17 : decode prog_6_method_3_code 17 = .ok (.putfield 25, 3) := by decide +kernel
theorem d_Scav_run_20 : decode prog_6_method_3_code 20 = .ok (.aload_n 0, 1) := by decide +kernel
theorem d_Scav_run_21 : decode prog_6_method_3_code 21 = .ok (.getfield 29, 3) := by decide +kernel
theorem d_Scav_run_24 : decode prog_6_method_3_code 24 = .ok (.invokevirtual 33, 3) := by decide +kernel
theorem d_Scav_run_27 : decode prog_6_method_3_code 27 = .ok (.aload_n 0, 1) := by decide +kernel
theorem d_Scav_run_28 : decode prog_6_method_3_code 28 = .ok (.invokevirtual 38, 3) := by decide +kernel
theorem d_Scav_run_31 : decode prog_6_method_3_code 31 = .ok (.aload_n 0, 1) := by decide +kernel
theorem d_Scav_run_32 : decode prog_6_method_3_code 32 = .ok (.invokevirtual 41, 3) := by decide +kernel
theorem d_Scav_run_35 : decode prog_6_method_3_code 35 = .ok (.aload_n 0, 1) := by decide +kernel
theorem d_Scav_run_36 : decode prog_6_method_3_code 36 = .ok (.iconst 1, 1) := by decide +kernel
theorem d_Scav_run_37 : decode prog_6_method_3_code 37 = .ok (.invokevirtual 44, 3) := by decide +kernel
theorem d_Scav_run_40 : decode prog_6_method_3_code 40 = .ok (.ifCond .eq (9), 3) := by decide +kernel
theorem d_Scav_run_43 : decode prog_6_method_3_code 43 = .ok (.aload_n 0, 1) := by decide +kernel
theorem d_Scav_run_44 : decode prog_6_method_3_code 44 = .ok (.iconst 1, 1) := by decide +kernel
theorem d_Scav_run_45 : decode prog_6_method_3_code 45 = .ok (.iconst 0, 1) := by decide +kernel
theorem d_Scav_run_46 : decode prog_6_method_3_code 46 = .ok (.invokevirtual 48, 3) := by decide +kernel
theorem d_Scav_run_49 : decode prog_6_method_3_code 49 = .ok (.aload_n 0, 1) := by decide +kernel
theorem d_Scav_run_50 : decode prog_6_method_3_code 50 = .ok (.iconst 1, 1) := by decide +kernel
theorem d_Scav_run_51 : decode prog_6_method_3_code 51 = .ok (.invokevirtual 44, 3) := by decide +kernel
theorem d_Scav_run_54 : decode prog_6_method_3_code 54 = .ok (.ifCond .eq (10), 3) := by decide +kernel
theorem d_Scav_run_57 : decode prog_6_method_3_code 57 = .ok (.aload_n 0, 1) := by decide +kernel
theorem d_Scav_run_58 : decode prog_6_method_3_code 58 = .ok (.invokevirtual 52, 3) := by decide +kernel
theorem d_Scav_run_61 : decode prog_6_method_3_code 61 = .ok (.goto (4), 3) := by decide +kernel
theorem d_Scav_run_64 : decode prog_6_method_3_code 64 = .ok (.iconst (-1), 1) := by decide +kernel
theorem d_Scav_run_65 : decode prog_6_method_3_code 65 = .ok (.istore_n 1, 1) := by decide +kernel
theorem d_Scav_run_66 : decode prog_6_method_3_code 66 = .ok (.iconst 0, 1) := by decide +kernel
theorem d_Scav_run_67 : decode prog_6_method_3_code 67 = .ok (.istore_n 2, 1) := by decide +kernel
theorem d_Scav_run_68 : decode prog_6_method_3_code 68 = .ok (.iload_n 2, 1) := by decide +kernel
theorem d_Scav_run_69 : decode prog_6_method_3_code 69 = .ok (.bipush (60), 2) := by decide +kernel
theorem d_Scav_run_71 : decode prog_6_method_3_code 71 = .ok (.if_icmp .ge (31), 3) := by decide +kernel
theorem d_Scav_run_74 : decode prog_6_method_3_code 74 = .ok (.iload_n 1, 1) := by decide +kernel
theorem d_Scav_run_75 : decode prog_6_method_3_code 75 = .ok (.iconst (-1), 1) := by decide +kernel
theorem d_Scav_run_76 : decode prog_6_method_3_code 76 = .ok (.if_icmp .eq (26), 3) := by decide +kernel
theorem d_Scav_run_79 : decode prog_6_method_3_code 79 = .ok (.aload_n 0, 1) := by decide +kernel
theorem d_Scav_run_80 : decode prog_6_method_3_code 80 = .ok (.iload_n 1, 1) := by decide +kernel
theorem d_Scav_run_81 : decode prog_6_method_3_code 81 = .ok (.invokevirtual 56, 3) := by decide +kernel
theorem d_Scav_run_84 : decode prog_6_method_3_code 84 = .ok (.ifCond .eq (10), 3) := by decide +kernel
theorem d_Scav_run_87 : decode prog_6_method_3_code 87 = .ok (.aload_n 0, 1) := by decide +kernel
theorem d_Scav_run_88 : decode prog_6_method_3_code 88 = .ok (.invokevirtual 52, 3) := by decide +kernel
theorem d_Scav_run_91 : decode prog_6_method_3_code 91 = .ok (.goto (4), 3) := by decide +kernel
theorem d_Scav_run_94 : decode prog_6_method_3_code 94 = .ok (.iconst (-1), 1) := by decide +kernel
theorem d_Scav_run_95 : decode prog_6_method_3_code 95 = .ok (.istore_n 1, 1) := by decide +kernel
theorem d_Scav_run_96 : decode prog_6_method_3_code 96 = .ok (.iinc 2 (1), 3) := by decide +kernel
theorem d_Scav_run_99 : decode prog_6_method_3_code 99 = .ok (.goto (-31), 3) := by decide +kernel
theorem d_Scav_run_102 : decode prog_6_method_3_code 102 = .ok (.aload_n 0, 1) := by decide +kernel
theorem d_Scav_run_103 : decode prog_6_method_3_code 103 = .ok (.invokevirtual 59, 3) := by decide +kernel
theorem d_Scav_run_106 : decode prog_6_method_3_code 106 = .ok (.aload_n 0, 1) := by decide +kernel
theorem d_Scav_run_107 : decode prog_6_method_3_code 107 = .ok (.getfield 11, 3) := by decide +kernel
theorem d_Scav_run_110 : decode prog_6_method_3_code 110 = .ok (.iconst 0, 1) := by decide +kernel
theorem d_Scav_run_111 : decode prog_6_method_3_code 111 = .ok (.aload_n 0, 1) := by decide +kernel
theorem d_Scav_run_112 : decode prog_6_method_3_code 112 = .ok (.invokevirtual 62, 3) := by decide +kernel
theorem d_Scav_run_115 : decode prog_6_method_3_code 115 = .ok (.iastore, 1) := by decide +kernel
theorem d_Scav_run_116 : decode prog_6_method_3_code 116 = .ok (.aload_n 0, 1) := by decide +kernel
theorem d_Scav_run_117 : decode prog_6_method_3_code 117 = .ok (.getfield 11, 3) := by decide +kernel
theorem d_Scav_run_120 : decode prog_6_method_3_code 120 = .ok (.iconst 1, 1) := by decide +kernel
theorem d_Scav_run_121 : decode prog_6_method_3_code 121 = .ok (.aload_n 0, 1) := by decide +kernel
theorem d_Scav_run_122 : decode prog_6_method_3_code 122 = .ok (.getfield 15, 3) := by decide +kernel
theorem d_Scav_run_125 : decode prog_6_method_3_code 125 = .ok (.iastore, 1) := by decide +kernel
theorem d_Scav_run_126 : decode prog_6_method_3_code 126 = .ok (.aload_n 0, 1) := by decide +kernel
theorem d_Scav_run_127 : decode prog_6_method_3_code 127 = .ok (.getfield 11, 3) := by decide +kernel
theorem d_Scav_run_130 : decode prog_6_method_3_code 130 = .ok (.iconst 2, 1) := by decide +kernel
theorem d_Scav_run_131 : decode prog_6_method_3_code 131 = .ok (.aload_n 0, 1) := by decide +kernel
theorem d_Scav_run_132 : decode prog_6_method_3_code 132 = .ok (.getfield 19, 3) := by decide +kernel
theorem d_Scav_run_135 : decode prog_6_method_3_code 135 = .ok (.iastore, 1) := by decide +kernel
theorem d_Scav_run_136 : decode prog_6_method_3_code 136 = .ok (.aload_n 0, 1) := by decide +kernel
theorem d_Scav_run_137 : decode prog_6_method_3_code 137 = .ok (.getfield 11, 3) := by decide +kernel
theorem d_Scav_run_140 : decode prog_6_method_3_code 140 = .ok (.iconst 3, 1) := by decide +kernel
theorem d_Scav_run_141 : decode prog_6_method_3_code 141 = .ok (.aload_n 0, 1) := by decide +kernel
theorem d_Scav_run_142 : decode prog_6_method_3_code 142 = .ok (.getfield 22, 3) := by decide +kernel
theorem d_Scav_run_145 : decode prog_6_method_3_code 145 = .ok (.iastore, 1) := by decide +kernel
theorem d_Scav_run_146 : decode prog_6_method_3_code 146 = .ok (.aload_n 0, 1) := by decide +kernel
theorem d_Scav_run_147 : decode prog_6_method_3_code 147 = .ok (.getfield 11, 3) := by decide +kernel
theorem d_Scav_run_150 : decode prog_6_method_3_code 150 = .ok (.iconst 4, 1) := by decide +kernel
theorem d_Scav_run_151 : decode prog_6_method_3_code 151 = .ok (.aload_n 0, 1) := by decide +kernel
theorem d_Scav_run_152 : decode prog_6_method_3_code 152 = .ok (.getfield 29, 3) := by decide +kernel
theorem d_Scav_run_155 : decode prog_6_method_3_code 155 = .ok (.invokevirtual 65, 3) := by decide +kernel
theorem d_Scav_run_158 : decode prog_6_method_3_code 158 = .ok (.iastore, 1) := by decide +kernel
theorem d_Scav_run_159 : decode prog_6_method_3_code 159 = .ok (.return_, 1) := by decide +kernel
theorem d_Scav_isThere_0 : decode prog_6_method_4_code 0 = .ok (.iload_n 1, 1) := by decide +kernel
theorem d_Scav_isThere_1 : decode prog_6_method_4_code 1 = .ok (.iconst 1, 1) := by decide +kernel
theorem d_Scav_isThere_2 : decode prog_6_method_4_code 2 = .ok (.if_icmp .lt (26), 3) := by decide +kernel
theorem d_Scav_isThere_5 : decode prog_6_method_4_code 5 = .ok (.iload_n 1, 1) := by decide +kernel
theorem d_Scav_isThere_6 : decode prog_6_method_4_code 6 = .ok (.bipush (60), 2) := by decide +kernel
theorem d_Scav_isThere_8 : decode prog_6_method_4_code 8 = .ok (.if_icmp .gt (20), 3) := by decide +kernel
theorem d_Scav_isThere_11 : decode prog_6_method_4_code 11 = .ok (.aload_n 0, 1) := by decide +kernel
theorem d_Scav_isThere_12 : decode prog_6_method_4_code 12 = .ok (.getfield 29, 3) := by decide +kernel
theorem d_Scav_isThere_15 : decode prog_6_method_4_code 15 = .ok (.iload_n 1, 1) := by decide +kernel
theorem d_Scav_isThere_16 : decode prog_6_method_4_code 16 = .ok (.iconst 0, 1) := by decide +kernel
theorem d_Scav_isThere_17 : decode prog_6_method_4_code 17 = .ok (.invokevirtual 68, 3) := by decide +kernel
theorem d_Scav_isThere_20 : decode prog_6_method_4_code 20 = .ok (.iconst (-1), 1) := by decide +kernel
theorem d_Scav_isThere_21 : decode prog_6_method_4_code 21 = .ok (.if_icmp .eq (7), 3) := by decide +kernel
theorem d_Scav_isThere_24 : decode prog_6_method_4_code 24 = .ok (.iconst 1, 1) := by decide +kernel
theorem d_Scav_isThere_25 : decode prog_6_method_4_code 25 = .ok (.goto (4), 3) := by decide +kernel
theorem d_Scav_isThere_28 : decode prog_6_method_4_code 28 = .ok (.iconst 0, 1) := by decide +kernel
theorem d_Scav_isThere_29 : decode prog_6_method_4_code 29 = .ok (.ireturn, 1) := by decide +kernel
theorem d_Scav_isReached_0 : decode prog_6_method_5_code 0 = .ok (.aload_n 0, 1) := by decide +kernel
theorem d_Scav_isReached_1 : decode prog_6_method_5_code 1 = .ok (.getfield 25, 3) := by decide +kernel
theorem d_Scav_isReached_4 : decode prog_6_method_5_code 4 = .ok (.iload_n 1, 1) := by decide +kernel
theorem d_Scav_isReached_5 : decode prog_6_method_5_code 5 = .ok (.lshr, 1) := by decide +kernel
theorem d_Scav_isReached_6 : decode prog_6_method_5_code 6 = .ok (.lconst 1, 1) := by decide +kernel
theorem d_Scav_isReached_7 : decode prog_6_method_5_code 7 = .ok (.land, 1) := by decide +kernel
theorem d_Scav_isReached_8 : decode prog_6_method_5_code 8 = .ok (.lconst 1, 1) := by decide +kernel
theorem d_Scav_isReached_9 : decode prog_6_method_5_code 9 = .ok (.lcmp, 1) := by decide +kernel
theorem d_Scav_isReached_10 : decode prog_6_method_5_code 10 = .ok (.ifCond .ne (7), 3) := by decide +kernel
theorem d_Scav_isReached_13 : decode prog_6_method_5_code 13 = .ok (.iconst 1, 1) := by decide +kernel
theorem d_Scav_isReached_14 : decode prog_6_method_5_code 14 = .ok (.goto (4), 3) := by decide +kernel
theorem d_Scav_isReached_17 : decode prog_6_method_5_code 17 = .ok (.iconst 0, 1) := by decide +kernel
theorem d_Scav_isReached_18 : decode prog_6_method_5_code 18 = .ok (.ireturn, 1) := by decide +kernel
theorem d_Scav_countFiles_0 : decode prog_6_method_6_code 0 = .ok (.iconst 0, 1) := by decide +kernel
theorem d_Scav_countFiles_1 : decode prog_6_method_6_code 1 = .ok (.istore_n 1, 1) := by decide +kernel
theorem d_Scav_countFiles_2 : decode prog_6_method_6_code 2 = .ok (.iconst 1, 1) := by decide +kernel
theorem d_Scav_countFiles_3 : decode prog_6_method_6_code 3 = .ok (.istore_n 2, 1) := by decide +kernel
theorem d_Scav_countFiles_4 : decode prog_6_method_6_code 4 = .ok (.iload_n 2, 1) := by decide +kernel
theorem d_Scav_countFiles_5 : decode prog_6_method_6_code 5 = .ok (.bipush (60), 2) := by decide +kernel
theorem d_Scav_countFiles_7 : decode prog_6_method_6_code 7 = .ok (.if_icmp .gt (25), 3) := by decide +kernel
theorem d_Scav_countFiles_10 : decode prog_6_method_6_code 10 = .ok (.iload_n 1, 1) := by decide +kernel
theorem d_Scav_countFiles_11 : decode prog_6_method_6_code 11 = .ok (.aload_n 0, 1) := by decide +kernel
theorem d_Scav_countFiles_12 : decode prog_6_method_6_code 12 = .ok (.iload_n 2, 1) := by decide +kernel
theorem d_Scav_countFiles_13 : decode prog_6_method_6_code 13 = .ok (.invokevirtual 44, 3) := by decide +kernel
theorem d_Scav_countFiles_16 : decode prog_6_method_6_code 16 = .ok (.ifCond .eq (7), 3) := by decide +kernel
theorem d_Scav_countFiles_19 : decode prog_6_method_6_code 19 = .ok (.iconst 1, 1) := by decide +kernel
theorem d_Scav_countFiles_20 : decode prog_6_method_6_code 20 = .ok (.goto (4), 3) := by decide +kernel
theorem d_Scav_countFiles_23 : decode prog_6_method_6_code 23 = .ok (.iconst 0, 1) := by decide +kernel
theorem d_Scav_countFiles_24 : decode prog_6_method_6_code 24 = .ok (.iadd, 1) := by decide +kernel
theorem d_Scav_countFiles_25 : decode prog_6_method_6_code 25 = .ok (.istore_n 1, 1) := by decide +kernel
theorem d_Scav_countFiles_26 : decode prog_6_method_6_code 26 = .ok (.iinc 2 (1), 3) := by decide +kernel
theorem d_Scav_countFiles_29 : decode prog_6_method_6_code 29 = .ok (.goto (-25), 3) := by decide +kernel
theorem d_Scav_countFiles_32 : decode prog_6_method_6_code 32 = .ok (.iload_n 1, 1) := by decide +kernel
theorem d_Scav_countFiles_33 : decode prog_6_method_6_code 33 = .ok (.ireturn, 1) := by decide +kernel
theorem d_Scav_loseUnkept_0 : decode prog_6_method_7_code 0 = .ok (.lconst 0, 1) := by decide +kernel
theorem d_Scav_loseUnkept_1 : decode prog_6_method_7_code 1 = .ok (.lstore_n 1, 1) := by decide +kernel
theorem d_Scav_loseUnkept_2 : decode prog_6_method_7_code 2 = .ok (.iconst 1, 1) := by decide +kernel
theorem d_Scav_loseUnkept_3 : decode prog_6_method_7_code 3 = .ok (.istore_n 3, 1) := by decide +kernel
theorem d_Scav_loseUnkept_4 : decode prog_6_method_7_code 4 = .ok (.iload_n 3, 1) := by decide +kernel
theorem d_Scav_loseUnkept_5 : decode prog_6_method_7_code 5 = .ok (.bipush (60), 2) := by decide +kernel
theorem d_Scav_loseUnkept_7 : decode prog_6_method_7_code 7 = .ok (.if_icmp .gt (17), 3) := by decide +kernel
theorem d_Scav_loseUnkept_10 : decode prog_6_method_7_code 10 = .ok (.lload_n 1, 1) := by decide +kernel
theorem d_Scav_loseUnkept_11 : decode prog_6_method_7_code 11 = .ok (.aload_n 0, 1) := by decide +kernel
theorem d_Scav_loseUnkept_12 : decode prog_6_method_7_code 12 = .ok (.iload_n 3, 1) := by decide +kernel
theorem d_Scav_loseUnkept_13 : decode prog_6_method_7_code 13 = .ok (.invokevirtual 72, 3) := by decide +kernel
theorem d_Scav_loseUnkept_16 : decode prog_6_method_7_code 16 = .ok (.lor, 1) := by decide +kernel
theorem d_Scav_loseUnkept_17 : decode prog_6_method_7_code 17 = .ok (.lstore_n 1, 1) := by decide +kernel
theorem d_Scav_loseUnkept_18 : decode prog_6_method_7_code 18 = .ok (.iinc 3 (1), 3) := by decide +kernel
theorem d_Scav_loseUnkept_21 : decode prog_6_method_7_code 21 = .ok (.goto (-17), 3) := by decide +kernel
theorem d_Scav_loseUnkept_24 : decode prog_6_method_7_code 24 = .ok (.iconst 0, 1) := by decide +kernel
theorem d_Scav_loseUnkept_25 : decode prog_6_method_7_code 25 = .ok (.istore_n 3, 1) := by decide +kernel
theorem d_Scav_loseUnkept_26 : decode prog_6_method_7_code 26 = .ok (.iload_n 3, 1) := by decide +kernel
theorem d_Scav_loseUnkept_27 : decode prog_6_method_7_code 27 = .ok (.bipush (40), 2) := by decide +kernel
theorem d_Scav_loseUnkept_29 : decode prog_6_method_7_code 29 = .ok (.if_icmp .ge (35), 3) := by decide +kernel
theorem d_Scav_loseUnkept_32 : decode prog_6_method_7_code 32 = .ok (.aload_n 0, 1) := by decide +kernel
theorem d_Scav_loseUnkept_33 : decode prog_6_method_7_code 33 = .ok (.getfield 29, 3) := by decide +kernel
theorem d_Scav_loseUnkept_36 : decode prog_6_method_7_code 36 = .ok (.iload_n 3, 1) := by decide +kernel
theorem d_Scav_loseUnkept_37 : decode prog_6_method_7_code 37 = .ok (.invokevirtual 76, 3) := by decide +kernel
theorem d_Scav_loseUnkept_40 : decode prog_6_method_7_code 40 = .ok (.ifCond .eq (18), 3) := by decide +kernel
theorem d_Scav_loseUnkept_43 : decode prog_6_method_7_code 43 = .ok (.lload_n 1, 1) := by decide +kernel
theorem d_Scav_loseUnkept_44 : decode prog_6_method_7_code 44 = .ok (.iload_n 3, 1) := by decide +kernel
theorem d_Scav_loseUnkept_45 : decode prog_6_method_7_code 45 = .ok (.lshr, 1) := by decide +kernel
theorem d_Scav_loseUnkept_46 : decode prog_6_method_7_code 46 = .ok (.lconst 1, 1) := by decide +kernel
theorem d_Scav_loseUnkept_47 : decode prog_6_method_7_code 47 = .ok (.land, 1) := by decide +kernel
theorem d_Scav_loseUnkept_48 : decode prog_6_method_7_code 48 = .ok (.lconst 0, 1) := by decide +kernel
theorem d_Scav_loseUnkept_49 : decode prog_6_method_7_code 49 = .ok (.lcmp, 1) := by decide +kernel
theorem d_Scav_loseUnkept_50 : decode prog_6_method_7_code 50 = .ok (.ifCond .ne (8), 3) := by decide +kernel
theorem d_Scav_loseUnkept_53 : decode prog_6_method_7_code 53 = .ok (.aload_n 0, 1) := by decide +kernel
theorem d_Scav_loseUnkept_54 : decode prog_6_method_7_code 54 = .ok (.iload_n 3, 1) := by decide +kernel
theorem d_Scav_loseUnkept_55 : decode prog_6_method_7_code 55 = .ok (.invokevirtual 79, 3) := by decide +kernel
theorem d_Scav_loseUnkept_58 : decode prog_6_method_7_code 58 = .ok (.iinc 3 (1), 3) := by decide +kernel
theorem d_Scav_loseUnkept_61 : decode prog_6_method_7_code 61 = .ok (.goto (-35), 3) := by decide +kernel
theorem d_Scav_loseUnkept_64 : decode prog_6_method_7_code 64 = .ok (.return_, 1) := by decide +kernel
theorem d_Scav_keptOf_0 : decode prog_6_method_8_code 0 = .ok (.lconst 0, 1) := by decide +kernel
theorem d_Scav_keptOf_1 : decode prog_6_method_8_code 1 = .ok (.lstore_n 2, 1) := by decide +kernel
theorem d_Scav_keptOf_2 : decode prog_6_method_8_code 2 = .ok (.iload_n 1, 1) := by decide +kernel
theorem d_Scav_keptOf_3 : decode prog_6_method_8_code 3 = .ok (.iconst 2, 1) := by decide +kernel
theorem d_Scav_keptOf_4 : decode prog_6_method_8_code 4 = .ok (.if_icmp .ne (7), 3) := by decide +kernel
theorem d_Scav_keptOf_7 : decode prog_6_method_8_code 7 = .ok (.iconst 1, 1) := by decide +kernel
theorem d_Scav_keptOf_8 : decode prog_6_method_8_code 8 = .ok (.goto (5), 3) := by decide +kernel
theorem d_Scav_keptOf_11 : decode prog_6_method_8_code 11 = .ok (.bipush (40), 2) := by decide +kernel
theorem d_Scav_keptOf_13 : decode prog_6_method_8_code 13 = .ok (.istore 4, 2) := by decide +kernel
theorem d_Scav_keptOf_15 : decode prog_6_method_8_code 15 = .ok (.aload_n 0, 1) := by decide +kernel
theorem d_Scav_keptOf_16 : decode prog_6_method_8_code 16 = .ok (.iload_n 1, 1) := by decide +kernel
theorem d_Scav_keptOf_17 : decode prog_6_method_8_code 17 = .ok (.invokevirtual 44, 3) := by decide +kernel
theorem d_Scav_keptOf_20 : decode prog_6_method_8_code 20 = .ok (.ifCond .eq (7), 3) := by decide +kernel
theorem d_Scav_keptOf_23 : decode prog_6_method_8_code 23 = .ok (.iconst 0, 1) := by decide +kernel
theorem d_Scav_keptOf_24 : decode prog_6_method_8_code 24 = .ok (.goto (4), 3) := by decide +kernel
theorem d_Scav_keptOf_27 : decode prog_6_method_8_code 27 = .ok (.iconst 1, 1) := by decide +kernel
theorem d_Scav_keptOf_28 : decode prog_6_method_8_code 28 = .ok (.istore 5, 2) := by decide +kernel
theorem d_Scav_keptOf_30 : decode prog_6_method_8_code 30 = .ok (.iload 5, 2) := by decide +kernel
theorem d_Scav_keptOf_32 : decode prog_6_method_8_code 32 = .ok (.iload 4, 2) := by decide +kernel
theorem d_Scav_keptOf_34 : decode prog_6_method_8_code 34 = .ok (.if_icmp .gt (58), 3) := by decide +kernel
theorem d_Scav_keptOf_37 : decode prog_6_method_8_code 37 = .ok (.aload_n 0, 1) := by decide +kernel
theorem d_Scav_keptOf_38 : decode prog_6_method_8_code 38 = .ok (.getfield 29, 3) := by decide +kernel
theorem d_Scav_keptOf_41 : decode prog_6_method_8_code 41 = .ok (.iload_n 1, 1) := by decide +kernel
theorem d_Scav_keptOf_42 : decode prog_6_method_8_code 42 = .ok (.iload 5, 2) := by decide +kernel
theorem d_Scav_keptOf_44 : decode prog_6_method_8_code 44 = .ok (.invokevirtual 68, 3) := by decide +kernel
theorem d_Scav_keptOf_47 : decode prog_6_method_8_code 47 = .ok (.istore 6, 2) := by decide +kernel
theorem d_Scav_keptOf_49 : decode prog_6_method_8_code 49 = .ok (.iload 6, 2) := by decide +kernel
theorem d_Scav_keptOf_51 : decode prog_6_method_8_code 51 = .ok (.iconst (-1), 1) := by decide +kernel
theorem d_Scav_keptOf_52 : decode prog_6_method_8_code 52 = .ok (.if_icmp .ne (5), 3) := by decide +kernel
theorem d_Scav_keptOf_55 : decode prog_6_method_8_code 55 = .ok (.lload_n 2, 1) := by decide +kernel
theorem d_Scav_keptOf_56 : decode prog_6_method_8_code 56 = .ok (.lreturn, 1) := by decide +kernel
theorem d_Scav_keptOf_57 : decode prog_6_method_8_code 57 = .ok (.lload_n 2, 1) := by decide +kernel
theorem d_Scav_keptOf_58 : decode prog_6_method_8_code 58 = .ok (.lconst 1, 1) := by decide +kernel
theorem d_Scav_keptOf_59 : decode prog_6_method_8_code 59 = .ok (.iload 6, 2) := by decide +kernel
theorem d_Scav_keptOf_61 : decode prog_6_method_8_code 61 = .ok (.lshl, 1) := by decide +kernel
theorem d_Scav_keptOf_62 : decode prog_6_method_8_code 62 = .ok (.lor, 1) := by decide +kernel
theorem d_Scav_keptOf_63 : decode prog_6_method_8_code 63 = .ok (.lstore_n 2, 1) := by decide +kernel
theorem d_Scav_keptOf_64 : decode prog_6_method_8_code 64 = .ok (.iload 5, 2) := by decide +kernel
theorem d_Scav_keptOf_66 : decode prog_6_method_8_code 66 = .ok (.ifCond .le (20), 3) := by decide +kernel
theorem d_Scav_keptOf_69 : decode prog_6_method_8_code 69 = .ok (.aload_n 0, 1) := by decide +kernel
theorem d_Scav_keptOf_70 : decode prog_6_method_8_code 70 = .ok (.getfield 29, 3) := by decide +kernel
theorem d_Scav_keptOf_73 : decode prog_6_method_8_code 73 = .ok (.iload 6, 2) := by decide +kernel
theorem d_Scav_keptOf_75 : decode prog_6_method_8_code 75 = .ok (.iconst 2, 1) := by decide +kernel
theorem d_Scav_keptOf_76 : decode prog_6_method_8_code 76 = .ok (.invokevirtual 83, 3) := by decide +kernel
theorem d_Scav_keptOf_79 : decode prog_6_method_8_code 79 = .ok (.bipush (8), 2) := by decide +kernel
theorem d_Scav_keptOf_81 : decode prog_6_method_8_code 81 = .ok (.if_icmp .ge (5), 3) := by decide +kernel
theorem d_Scav_keptOf_84 : decode prog_6_method_8_code 84 = .ok (.lload_n 2, 1) := by decide +kernel
theorem d_Scav_keptOf_85 : decode prog_6_method_8_code 85 = .ok (.lreturn, 1) := by decide +kernel
theorem d_Scav_keptOf_86 : decode prog_6_method_8_code 86 = .ok (.iinc 5 (1), 3) := by decide +kernel
theorem d_Scav_keptOf_89 : decode prog_6_method_8_code 89 = .ok (.goto (-59), 3) := by decide +kernel
theorem d_Scav_keptOf_92 : decode prog_6_method_8_code 92 = .ok (.lload_n 2, 1) := by decide +kernel
theorem d_Scav_keptOf_93 : decode prog_6_method_8_code 93 = .ok (.lreturn, 1) := by decide +kernel
theorem d_Scav_lose_0 : decode prog_6_method_9_code 0 = .ok (.aload_n 0, 1) := by decide +kernel
theorem d_Scav_lose_1 : decode prog_6_method_9_code 1 = .ok (.getfield 29, 3) := by decide +kernel
theorem d_Scav_lose_4 : decode prog_6_method_9_code 4 = .ok (.iload_n 1, 1) := by decide +kernel
theorem d_Scav_lose_5 : decode prog_6_method_9_code 5 = .ok (.invokevirtual 86, 3) := by decide +kernel
theorem d_Scav_lose_8 : decode prog_6_method_9_code 8 = .ok (.aload_n 0, 1) := by decide +kernel
theorem d_Scav_lose_9 : decode prog_6_method_9_code 9 = .ok (.dup, 1) := by decide +kernel
theorem d_Scav_lose_10 : decode prog_6_method_9_code 10 = .ok (.getfield 15, 3) := by decide +kernel
theorem d_Scav_lose_13 : decode prog_6_method_9_code 13 = .ok (.iconst 1, 1) := by decide +kernel
theorem d_Scav_lose_14 : decode prog_6_method_9_code 14 = .ok (.iadd, 1) := by decide +kernel
theorem d_Scav_lose_15 : decode prog_6_method_9_code 15 = .ok (.putfield 15, 3) := by decide +kernel
theorem d_Scav_lose_18 : decode prog_6_method_9_code 18 = .ok (.return_, 1) := by decide +kernel
theorem d_Scav_losePages_0 : decode prog_6_method_10_code 0 = .ok (.iconst 0, 1) := by decide +kernel
theorem d_Scav_losePages_1 : decode prog_6_method_10_code 1 = .ok (.istore_n 2, 1) := by decide +kernel
theorem d_Scav_losePages_2 : decode prog_6_method_10_code 2 = .ok (.iload_n 2, 1) := by decide +kernel
theorem d_Scav_losePages_3 : decode prog_6_method_10_code 3 = .ok (.bipush (40), 2) := by decide +kernel
theorem d_Scav_losePages_5 : decode prog_6_method_10_code 5 = .ok (.if_icmp .ge (27), 3) := by decide +kernel
theorem d_Scav_losePages_8 : decode prog_6_method_10_code 8 = .ok (.aload_n 0, 1) := by decide +kernel
theorem d_Scav_losePages_9 : decode prog_6_method_10_code 9 = .ok (.getfield 29, 3) := by decide +kernel
theorem d_Scav_losePages_12 : decode prog_6_method_10_code 12 = .ok (.iload_n 2, 1) := by decide +kernel
theorem d_Scav_losePages_13 : decode prog_6_method_10_code 13 = .ok (.iconst 0, 1) := by decide +kernel
theorem d_Scav_losePages_14 : decode prog_6_method_10_code 14 = .ok (.invokevirtual 83, 3) := by decide +kernel
theorem d_Scav_losePages_17 : decode prog_6_method_10_code 17 = .ok (.iload_n 1, 1) := by decide +kernel
theorem d_Scav_losePages_18 : decode prog_6_method_10_code 18 = .ok (.if_icmp .ne (8), 3) := by decide +kernel
theorem d_Scav_losePages_21 : decode prog_6_method_10_code 21 = .ok (.aload_n 0, 1) := by decide +kernel
theorem d_Scav_losePages_22 : decode prog_6_method_10_code 22 = .ok (.iload_n 2, 1) := by decide +kernel
theorem d_Scav_losePages_23 : decode prog_6_method_10_code 23 = .ok (.invokevirtual 79, 3) := by decide +kernel
theorem d_Scav_losePages_26 : decode prog_6_method_10_code 26 = .ok (.iinc 2 (1), 3) := by decide +kernel
theorem d_Scav_losePages_29 : decode prog_6_method_10_code 29 = .ok (.goto (-27), 3) := by decide +kernel
theorem d_Scav_losePages_32 : decode prog_6_method_10_code 32 = .ok (.return_, 1) := by decide +kernel
theorem d_Scav_makeLeaders_0 : decode prog_6_method_11_code 0 = .ok (.iconst 3, 1) := by decide +kernel
theorem d_Scav_makeLeaders_1 : decode prog_6_method_11_code 1 = .ok (.istore_n 1, 1) := by decide +kernel
theorem d_Scav_makeLeaders_2 : decode prog_6_method_11_code 2 = .ok (.iload_n 1, 1) := by decide +kernel
theorem d_Scav_makeLeaders_3 : decode prog_6_method_11_code 3 = .ok (.bipush (60), 2) := by decide +kernel
theorem d_Scav_makeLeaders_5 : decode prog_6_method_11_code 5 = .ok (.if_icmp .gt (59), 3) := by decide +kernel
theorem d_Scav_makeLeaders_8 : decode prog_6_method_11_code 8 = .ok (.aload_n 0, 1) := by decide +kernel
theorem d_Scav_makeLeaders_9 : decode prog_6_method_11_code 9 = .ok (.iload_n 1, 1) := by decide +kernel
theorem d_Scav_makeLeaders_10 : decode prog_6_method_11_code 10 = .ok (.invokevirtual 44, 3) := by decide +kernel
theorem d_Scav_makeLeaders_13 : decode prog_6_method_11_code 13 = .ok (.ifCond .ne (20), 3) := by decide +kernel
theorem d_Scav_makeLeaders_16 : decode prog_6_method_11_code 16 = .ok (.aload_n 0, 1) := by decide +kernel
theorem d_Scav_makeLeaders_17 : decode prog_6_method_11_code 17 = .ok (.getfield 29, 3) := by decide +kernel
theorem d_Scav_makeLeaders_20 : decode prog_6_method_11_code 20 = .ok (.iload_n 1, 1) := by decide +kernel
theorem d_Scav_makeLeaders_21 : decode prog_6_method_11_code 21 = .ok (.iconst 1, 1) := by decide +kernel
theorem d_Scav_makeLeaders_22 : decode prog_6_method_11_code 22 = .ok (.invokevirtual 68, 3) := by decide +kernel
theorem d_Scav_makeLeaders_25 : decode prog_6_method_11_code 25 = .ok (.iconst (-1), 1) := by decide +kernel
theorem d_Scav_makeLeaders_26 : decode prog_6_method_11_code 26 = .ok (.if_icmp .eq (7), 3) := by decide +kernel
theorem d_Scav_makeLeaders_29 : decode prog_6_method_11_code 29 = .ok (.iconst 1, 1) := by decide +kernel
theorem d_Scav_makeLeaders_30 : decode prog_6_method_11_code 30 = .ok (.goto (4), 3) := by decide +kernel
theorem d_Scav_makeLeaders_33 : decode prog_6_method_11_code 33 = .ok (.iconst 0, 1) := by decide +kernel
theorem d_Scav_makeLeaders_34 : decode prog_6_method_11_code 34 = .ok (.istore_n 2, 1) := by decide +kernel
theorem d_Scav_makeLeaders_35 : decode prog_6_method_11_code 35 = .ok (.iload_n 2, 1) := by decide +kernel
theorem d_Scav_makeLeaders_36 : decode prog_6_method_11_code 36 = .ok (.ifCond .eq (22), 3) := by decide +kernel
theorem d_Scav_makeLeaders_39 : decode prog_6_method_11_code 39 = .ok (.aload_n 0, 1) := by decide +kernel
theorem d_Scav_makeLeaders_40 : decode prog_6_method_11_code 40 = .ok (.iload_n 1, 1) := by decide +kernel
theorem d_Scav_makeLeaders_41 : decode prog_6_method_11_code 41 = .ok (.sipush (10000), 3) := by decide +kernel
theorem d_Scav_makeLeaders_44 : decode prog_6_method_11_code 44 = .ok (.iload_n 1, 1) := by decide +kernel
theorem d_Scav_makeLeaders_45 : decode prog_6_method_11_code 45 = .ok (.iadd, 1) := by decide +kernel
theorem d_Scav_makeLeaders_46 : decode prog_6_method_11_code 46 = .ok (.iconst 0, 1) := by decide +kernel
theorem d_Scav_makeLeaders_47 : decode prog_6_method_11_code 47 = .ok (.invokevirtual 89, 3) := by decide +kernel
theorem d_Scav_makeLeaders_50 : decode prog_6_method_11_code 50 = .ok (.ifCond .ne (8), 3) := by decide +kernel
theorem d_Scav_makeLeaders_53 : decode prog_6_method_11_code 53 = .ok (.aload_n 0, 1) := by decide +kernel
theorem d_Scav_makeLeaders_54 : decode prog_6_method_11_code 54 = .ok (.iload_n 1, 1) := by decide +kernel
theorem d_Scav_makeLeaders_55 : decode prog_6_method_11_code 55 = .ok (.invokevirtual 93, 3) := by decide +kernel
theorem d_Scav_makeLeaders_58 : decode prog_6_method_11_code 58 = .ok (.iinc 1 (1), 3) := by decide +kernel
theorem d_Scav_makeLeaders_61 : decode prog_6_method_11_code 61 = .ok (.goto (-59), 3) := by decide +kernel
theorem d_Scav_makeLeaders_64 : decode prog_6_method_11_code 64 = .ok (.aload_n 0, 1) := by decide +kernel
theorem d_Scav_makeLeaders_65 : decode prog_6_method_11_code 65 = .ok (.iconst 1, 1) := by decide +kernel
theorem d_Scav_makeLeaders_66 : decode prog_6_method_11_code 66 = .ok (.iconst 1, 1) := by decide +kernel
theorem d_Scav_makeLeaders_67 : decode prog_6_method_11_code 67 = .ok (.invokevirtual 96, 3) := by decide +kernel
theorem d_Scav_makeLeaders_70 : decode prog_6_method_11_code 70 = .ok (.aload_n 0, 1) := by decide +kernel
theorem d_Scav_makeLeaders_71 : decode prog_6_method_11_code 71 = .ok (.iconst 2, 1) := by decide +kernel
theorem d_Scav_makeLeaders_72 : decode prog_6_method_11_code 72 = .ok (.iconst 0, 1) := by decide +kernel
theorem d_Scav_makeLeaders_73 : decode prog_6_method_11_code 73 = .ok (.invokevirtual 96, 3) := by decide +kernel
theorem d_Scav_makeLeaders_76 : decode prog_6_method_11_code 76 = .ok (.aload_n 0, 1) := by decide +kernel
theorem d_Scav_makeLeaders_77 : decode prog_6_method_11_code 77 = .ok (.invokevirtual 99, 3) := by decide +kernel
theorem d_Scav_makeLeaders_80 : decode prog_6_method_11_code 80 = .ok (.return_, 1) := by decide +kernel
theorem d_Scav_makeLeader_0 : decode prog_6_method_12_code 0 = .ok (.aload_n 0, 1) := by decide +kernel
theorem d_Scav_makeLeader_1 : decode prog_6_method_12_code 1 = .ok (.getfield 29, 3) := by decide +kernel
theorem d_Scav_makeLeader_4 : decode prog_6_method_12_code 4 = .ok (.invokevirtual 102, 3) := by decide +kernel
theorem d_Scav_makeLeader_7 : decode prog_6_method_12_code 7 = .ok (.istore 4, 2) := by decide +kernel
theorem d_Scav_makeLeader_9 : decode prog_6_method_12_code 9 = .ok (.iload 4, 2) := by decide +kernel
theorem d_Scav_makeLeader_11 : decode prog_6_method_12_code 11 = .ok (.iconst (-1), 1) := by decide +kernel
theorem d_Scav_makeLeader_12 : decode prog_6_method_12_code 12 = .ok (.if_icmp .ne (5), 3) := by decide +kernel
theorem d_Scav_makeLeader_15 : decode prog_6_method_12_code 15 = .ok (.iconst 0, 1) := by decide +kernel
theorem d_Scav_makeLeader_16 : decode prog_6_method_12_code 16 = .ok (.ireturn, 1) := by decide +kernel
theorem d_Scav_makeLeader_17 : decode prog_6_method_12_code 17 = .ok (.aload_n 0, 1) := by decide +kernel
theorem d_Scav_makeLeader_18 : decode prog_6_method_12_code 18 = .ok (.getfield 29, 3) := by decide +kernel
theorem d_Scav_makeLeader_21 : decode prog_6_method_12_code 21 = .ok (.iload 4, 2) := by decide +kernel
theorem d_Scav_makeLeader_23 : decode prog_6_method_12_code 23 = .ok (.iload_n 1, 1) := by decide +kernel
theorem d_Scav_makeLeader_24 : decode prog_6_method_12_code 24 = .ok (.iload_n 2, 1) := by decide +kernel
theorem d_Scav_makeLeader_25 : decode prog_6_method_12_code 25 = .ok (.iload_n 3, 1) := by decide +kernel
theorem d_Scav_makeLeader_26 : decode prog_6_method_12_code 26 = .ok (.invokevirtual 105, 3) := by decide +kernel
theorem d_Scav_makeLeader_29 : decode prog_6_method_12_code 29 = .ok (.aload_n 0, 1) := by decide +kernel
theorem d_Scav_makeLeader_30 : decode prog_6_method_12_code 30 = .ok (.dup, 1) := by decide +kernel
theorem d_Scav_makeLeader_31 : decode prog_6_method_12_code 31 = .ok (.getfield 19, 3) := by decide +kernel
theorem d_Scav_makeLeader_34 : decode prog_6_method_12_code 34 = .ok (.iconst 1, 1) := by decide +kernel
theorem d_Scav_makeLeader_35 : decode prog_6_method_12_code 35 = .ok (.iadd, 1) := by decide +kernel
theorem d_Scav_makeLeader_36 : decode prog_6_method_12_code 36 = .ok (.putfield 19, 3) := by decide +kernel
theorem d_Scav_makeLeader_39 : decode prog_6_method_12_code 39 = .ok (.iconst 1, 1) := by decide +kernel
theorem d_Scav_makeLeader_40 : decode prog_6_method_12_code 40 = .ok (.ireturn, 1) := by decide +kernel
theorem d_Scav_provideLeader_0 : decode prog_6_method_13_code 0 = .ok (.aload_n 0, 1) := by decide +kernel
theorem d_Scav_provideLeader_1 : decode prog_6_method_13_code 1 = .ok (.iload_n 1, 1) := by decide +kernel
theorem d_Scav_provideLeader_2 : decode prog_6_method_13_code 2 = .ok (.invokevirtual 44, 3) := by decide +kernel
theorem d_Scav_provideLeader_5 : decode prog_6_method_13_code 5 = .ok (.ifCond .ne (26), 3) := by decide +kernel
theorem d_Scav_provideLeader_8 : decode prog_6_method_13_code 8 = .ok (.aload_n 0, 1) := by decide +kernel
theorem d_Scav_provideLeader_9 : decode prog_6_method_13_code 9 = .ok (.iload_n 1, 1) := by decide +kernel
theorem d_Scav_provideLeader_10 : decode prog_6_method_13_code 10 = .ok (.iconst 0, 1) := by decide +kernel
theorem d_Scav_provideLeader_11 : decode prog_6_method_13_code 11 = .ok (.iload_n 2, 1) := by decide +kernel
theorem d_Scav_provideLeader_12 : decode prog_6_method_13_code 12 = .ok (.invokevirtual 89, 3) := by decide +kernel
theorem d_Scav_provideLeader_15 : decode prog_6_method_13_code 15 = .ok (.ifCond .ne (16), 3) := by decide +kernel
theorem d_Scav_provideLeader_18 : decode prog_6_method_13_code 18 = .ok (.aload_n 0, 1) := by decide +kernel
theorem d_Scav_provideLeader_19 : decode prog_6_method_13_code 19 = .ok (.iload_n 1, 1) := by decide +kernel
theorem d_Scav_provideLeader_20 : decode prog_6_method_13_code 20 = .ok (.invokevirtual 93, 3) := by decide +kernel
theorem d_Scav_provideLeader_23 : decode prog_6_method_13_code 23 = .ok (.aload_n 0, 1) := by decide +kernel
theorem d_Scav_provideLeader_24 : decode prog_6_method_13_code 24 = .ok (.iload_n 1, 1) := by decide +kernel
theorem d_Scav_provideLeader_25 : decode prog_6_method_13_code 25 = .ok (.iconst 0, 1) := by decide +kernel
theorem d_Scav_provideLeader_26 : decode prog_6_method_13_code 26 = .ok (.iload_n 2, 1) := by decide +kernel
theorem d_Scav_provideLeader_27 : decode prog_6_method_13_code 27 = .ok (.invokevirtual 89, 3) := by decide +kernel
theorem d_Scav_provideLeader_30 : decode prog_6_method_13_code 30 = .ok (.pop, 1) := by decide +kernel
theorem d_Scav_provideLeader_31 : decode prog_6_method_13_code 31 = .ok (.aload_n 0, 1) := by decide +kernel
theorem d_Scav_provideLeader_32 : decode prog_6_method_13_code 32 = .ok (.getfield 29, 3) := by decide +kernel
theorem d_Scav_provideLeader_35 : decode prog_6_method_13_code 35 = .ok (.iload_n 1, 1) := by decide +kernel
theorem d_Scav_provideLeader_36 : decode prog_6_method_13_code 36 = .ok (.iconst 0, 1) := by decide +kernel
theorem d_Scav_provideLeader_37 : decode prog_6_method_13_code 37 = .ok (.invokevirtual 68, 3) := by decide +kernel
theorem d_Scav_provideLeader_40 : decode prog_6_method_13_code 40 = .ok (.istore_n 3, 1) := by decide +kernel
theorem d_Scav_provideLeader_41 : decode prog_6_method_13_code 41 = .ok (.aload_n 0, 1) := by decide +kernel
theorem d_Scav_provideLeader_42 : decode prog_6_method_13_code 42 = .ok (.getfield 29, 3) := by decide +kernel
theorem d_Scav_provideLeader_45 : decode prog_6_method_13_code 45 = .ok (.iload_n 3, 1) := by decide +kernel
theorem d_Scav_provideLeader_46 : decode prog_6_method_13_code 46 = .ok (.iconst 0, 1) := by decide +kernel
theorem d_Scav_provideLeader_47 : decode prog_6_method_13_code 47 = .ok (.iconst 0, 1) := by decide +kernel
theorem d_Scav_provideLeader_48 : decode prog_6_method_13_code 48 = .ok (.invokevirtual 108, 3) := by decide +kernel
theorem d_Scav_provideLeader_51 : decode prog_6_method_13_code 51 = .ok (.aload_n 0, 1) := by decide +kernel
theorem d_Scav_provideLeader_52 : decode prog_6_method_13_code 52 = .ok (.getfield 29, 3) := by decide +kernel
theorem d_Scav_provideLeader_55 : decode prog_6_method_13_code 55 = .ok (.iload_n 3, 1) := by decide +kernel
theorem d_Scav_provideLeader_56 : decode prog_6_method_13_code 56 = .ok (.iconst 2, 1) := by decide +kernel
theorem d_Scav_provideLeader_57 : decode prog_6_method_13_code 57 = .ok (.iload_n 2, 1) := by decide +kernel
theorem d_Scav_provideLeader_58 : decode prog_6_method_13_code 58 = .ok (.invokevirtual 112, 3) := by decide +kernel
theorem d_Scav_provideLeader_61 : decode prog_6_method_13_code 61 = .ok (.return_, 1) := by decide +kernel
theorem d_Scav_makeMapPage_0 : decode prog_6_method_14_code 0 = .ok (.aload_n 0, 1) := by decide +kernel
theorem d_Scav_makeMapPage_1 : decode prog_6_method_14_code 1 = .ok (.getfield 29, 3) := by decide +kernel
theorem d_Scav_makeMapPage_4 : decode prog_6_method_14_code 4 = .ok (.iconst 2, 1) := by decide +kernel
theorem d_Scav_makeMapPage_5 : decode prog_6_method_14_code 5 = .ok (.iconst 0, 1) := by decide +kernel
theorem d_Scav_makeMapPage_6 : decode prog_6_method_14_code 6 = .ok (.invokevirtual 68, 3) := by decide +kernel
theorem d_Scav_makeMapPage_9 : decode prog_6_method_14_code 9 = .ok (.istore_n 1, 1) := by decide +kernel
theorem d_Scav_makeMapPage_10 : decode prog_6_method_14_code 10 = .ok (.aload_n 0, 1) := by decide +kernel
theorem d_Scav_makeMapPage_11 : decode prog_6_method_14_code 11 = .ok (.getfield 29, 3) := by decide +kernel
theorem d_Scav_makeMapPage_14 : decode prog_6_method_14_code 14 = .ok (.invokevirtual 102, 3) := by decide +kernel
theorem d_Scav_makeMapPage_17 : decode prog_6_method_14_code 17 = .ok (.istore_n 2, 1) := by decide +kernel
theorem d_Scav_makeMapPage_18 : decode prog_6_method_14_code 18 = .ok (.iload_n 1, 1) := by decide +kernel
theorem d_Scav_makeMapPage_19 : decode prog_6_method_14_code 19 = .ok (.iconst (-1), 1) := by decide +kernel
theorem d_Scav_makeMapPage_20 : decode prog_6_method_14_code 20 = .ok (.if_icmp .eq (31), 3) := by decide +kernel
theorem d_Scav_makeMapPage_23 : decode prog_6_method_14_code 23 = .ok (.iload_n 2, 1) := by decide +kernel
theorem d_Scav_makeMapPage_24 : decode prog_6_method_14_code 24 = .ok (.iconst (-1), 1) := by decide +kernel
theorem d_Scav_makeMapPage_25 : decode prog_6_method_14_code 25 = .ok (.if_icmp .eq (26), 3) := by decide +kernel
theorem d_Scav_makeMapPage_28 : decode prog_6_method_14_code 28 = .ok (.aload_n 0, 1) := by decide +kernel
theorem d_Scav_makeMapPage_29 : decode prog_6_method_14_code 29 = .ok (.getfield 29, 3) := by decide +kernel
theorem d_Scav_makeMapPage_32 : decode prog_6_method_14_code 32 = .ok (.iconst 2, 1) := by decide +kernel
theorem d_Scav_makeMapPage_33 : decode prog_6_method_14_code 33 = .ok (.iconst 1, 1) := by decide +kernel
theorem d_Scav_makeMapPage_34 : decode prog_6_method_14_code 34 = .ok (.invokevirtual 68, 3) := by decide +kernel
theorem d_Scav_makeMapPage_37 : decode prog_6_method_14_code 37 = .ok (.iconst (-1), 1) := by decide +kernel
theorem d_Scav_makeMapPage_38 : decode prog_6_method_14_code 38 = .ok (.if_icmp .ne (13), 3) := by decide +kernel
theorem d_Scav_makeMapPage_41 : decode prog_6_method_14_code 41 = .ok (.aload_n 0, 1) := by decide +kernel
theorem d_Scav_makeMapPage_42 : decode prog_6_method_14_code 42 = .ok (.getfield 29, 3) := by decide +kernel
theorem d_Scav_makeMapPage_45 : decode prog_6_method_14_code 45 = .ok (.iload_n 1, 1) := by decide +kernel
theorem d_Scav_makeMapPage_46 : decode prog_6_method_14_code 46 = .ok (.iload_n 2, 1) := by decide +kernel
theorem d_Scav_makeMapPage_47 : decode prog_6_method_14_code 47 = .ok (.iconst 5, 1) := by decide +kernel
theorem d_Scav_makeMapPage_48 : decode prog_6_method_14_code 48 = .ok (.invokevirtual 115, 3) := by decide +kernel
theorem d_Scav_makeMapPage_51 : decode prog_6_method_14_code 51 = .ok (.return_, 1) := by decide +kernel
theorem d_Scav_entryPlace_0 : decode prog_6_method_15_code 0 = .ok (.aload_n 0, 1) := by decide +kernel
theorem d_Scav_entryPlace_1 : decode prog_6_method_15_code 1 = .ok (.getfield 29, 3) := by decide +kernel
theorem d_Scav_entryPlace_4 : decode prog_6_method_15_code 4 = .ok (.iload_n 1, 1) := by decide +kernel
theorem d_Scav_entryPlace_5 : decode prog_6_method_15_code 5 = .ok (.iload_n 2, 1) := by decide +kernel
theorem d_Scav_entryPlace_6 : decode prog_6_method_15_code 6 = .ok (.iconst 2, 1) := by decide +kernel
theorem d_Scav_entryPlace_7 : decode prog_6_method_15_code 7 = .ok (.idiv, 1) := by decide +kernel
theorem d_Scav_entryPlace_8 : decode prog_6_method_15_code 8 = .ok (.iconst 1, 1) := by decide +kernel
theorem d_Scav_entryPlace_9 : decode prog_6_method_15_code 9 = .ok (.iadd, 1) := by decide +kernel
theorem d_Scav_entryPlace_10 : decode prog_6_method_15_code 10 = .ok (.invokevirtual 68, 3) := by decide +kernel
theorem d_Scav_entryPlace_13 : decode prog_6_method_15_code 13 = .ok (.istore_n 3, 1) := by decide +kernel
theorem d_Scav_entryPlace_14 : decode prog_6_method_15_code 14 = .ok (.iload_n 3, 1) := by decide +kernel
theorem d_Scav_entryPlace_15 : decode prog_6_method_15_code 15 = .ok (.iconst (-1), 1) := by decide +kernel
theorem d_Scav_entryPlace_16 : decode prog_6_method_15_code 16 = .ok (.if_icmp .eq (30), 3) := by decide +kernel
theorem d_Scav_entryPlace_19 : decode prog_6_method_15_code 19 = .ok (.iload_n 2, 1) := by decide +kernel
theorem d_Scav_entryPlace_20 : decode prog_6_method_15_code 20 = .ok (.iconst 2, 1) := by decide +kernel
theorem d_Scav_entryPlace_21 : decode prog_6_method_15_code 21 = .ok (.irem, 1) := by decide +kernel
theorem d_Scav_entryPlace_22 : decode prog_6_method_15_code 22 = .ok (.aload_n 0, 1) := by decide +kernel
theorem d_Scav_entryPlace_23 : decode prog_6_method_15_code 23 = .ok (.getfield 29, 3) := by decide +kernel
theorem d_Scav_entryPlace_26 : decode prog_6_method_15_code 26 = .ok (.iload_n 3, 1) := by decide +kernel
theorem d_Scav_entryPlace_27 : decode prog_6_method_15_code 27 = .ok (.invokevirtual 118, 3) := by decide +kernel
theorem d_Scav_entryPlace_30 : decode prog_6_method_15_code 30 = .ok (.if_icmp .ge (16), 3) := by decide +kernel
theorem d_Scav_entryPlace_33 : decode prog_6_method_15_code 33 = .ok (.iload_n 3, 1) := by decide +kernel
theorem d_Scav_entryPlace_34 : decode prog_6_method_15_code 34 = .ok (.bipush (8), 2) := by decide +kernel
theorem d_Scav_entryPlace_36 : decode prog_6_method_15_code 36 = .ok (.imul, 1) := by decide +kernel
theorem d_Scav_entryPlace_37 : decode prog_6_method_15_code 37 = .ok (.iload_n 2, 1) := by decide +kernel
theorem d_Scav_entryPlace_38 : decode prog_6_method_15_code 38 = .ok (.iconst 2, 1) := by decide +kernel
theorem d_Scav_entryPlace_39 : decode prog_6_method_15_code 39 = .ok (.irem, 1) := by decide +kernel
theorem d_Scav_entryPlace_40 : decode prog_6_method_15_code 40 = .ok (.iconst 4, 1) := by decide +kernel
theorem d_Scav_entryPlace_41 : decode prog_6_method_15_code 41 = .ok (.imul, 1) := by decide +kernel
theorem d_Scav_entryPlace_42 : decode prog_6_method_15_code 42 = .ok (.iadd, 1) := by decide +kernel
theorem d_Scav_entryPlace_43 : decode prog_6_method_15_code 43 = .ok (.goto (4), 3) := by decide +kernel
theorem d_Scav_entryPlace_46 : decode prog_6_method_15_code 46 = .ok (.iconst (-1), 1) := by decide +kernel
theorem d_Scav_entryPlace_47 : decode prog_6_method_15_code 47 = .ok (.ireturn, 1) := by decide +kernel
theorem d_Scav_serialAt_0 : decode prog_6_method_16_code 0 = .ok (.aload_n 0, 1) := by decide +kernel
theorem d_Scav_serialAt_1 : decode prog_6_method_16_code 1 = .ok (.getfield 29, 3) := by decide +kernel
theorem d_Scav_serialAt_4 : decode prog_6_method_16_code 4 = .ok (.iload_n 1, 1) := by decide +kernel
theorem d_Scav_serialAt_5 : decode prog_6_method_16_code 5 = .ok (.bipush (8), 2) := by decide +kernel
theorem d_Scav_serialAt_7 : decode prog_6_method_16_code 7 = .ok (.idiv, 1) := by decide +kernel
theorem d_Scav_serialAt_8 : decode prog_6_method_16_code 8 = .ok (.iload_n 1, 1) := by decide +kernel
theorem d_Scav_serialAt_9 : decode prog_6_method_16_code 9 = .ok (.bipush (8), 2) := by decide +kernel
theorem d_Scav_serialAt_11 : decode prog_6_method_16_code 11 = .ok (.irem, 1) := by decide +kernel
theorem d_Scav_serialAt_12 : decode prog_6_method_16_code 12 = .ok (.iconst 2, 1) := by decide +kernel
theorem d_Scav_serialAt_13 : decode prog_6_method_16_code 13 = .ok (.iadd, 1) := by decide +kernel
theorem d_Scav_serialAt_14 : decode prog_6_method_16_code 14 = .ok (.invokevirtual 122, 3) := by decide +kernel
theorem d_Scav_serialAt_17 : decode prog_6_method_16_code 17 = .ok (.ireturn, 1) := by decide +kernel
theorem d_Scav_nameAt_0 : decode prog_6_method_17_code 0 = .ok (.aload_n 0, 1) := by decide +kernel
theorem d_Scav_nameAt_1 : decode prog_6_method_17_code 1 = .ok (.getfield 29, 3) := by decide +kernel
theorem d_Scav_nameAt_4 : decode prog_6_method_17_code 4 = .ok (.iload_n 1, 1) := by decide +kernel
theorem d_Scav_nameAt_5 : decode prog_6_method_17_code 5 = .ok (.bipush (8), 2) := by decide +kernel
theorem d_Scav_nameAt_7 : decode prog_6_method_17_code 7 = .ok (.idiv, 1) := by decide +kernel
theorem d_Scav_nameAt_8 : decode prog_6_method_17_code 8 = .ok (.iload_n 1, 1) := by decide +kernel
theorem d_Scav_nameAt_9 : decode prog_6_method_17_code 9 = .ok (.bipush (8), 2) := by decide +kernel
theorem d_Scav_nameAt_11 : decode prog_6_method_17_code 11 = .ok (.irem, 1) := by decide +kernel
theorem d_Scav_nameAt_12 : decode prog_6_method_17_code 12 = .ok (.invokevirtual 125, 3) := by decide +kernel
theorem d_Scav_nameAt_15 : decode prog_6_method_17_code 15 = .ok (.ireturn, 1) := by decide +kernel
theorem d_Scav_walkDirectory_0 : decode prog_6_method_18_code 0 = .ok (.iload_n 2, 1) := by decide +kernel
theorem d_Scav_walkDirectory_1 : decode prog_6_method_18_code 1 = .ok (.bipush (20), 2) := by decide +kernel
theorem d_Scav_walkDirectory_3 : decode prog_6_method_18_code 3 = .ok (.if_icmp .le (4), 3) := by decide +kernel
theorem d_Scav_walkDirectory_6 : decode prog_6_method_18_code 6 = .ok (.return_, 1) := by decide +kernel
theorem d_Scav_walkDirectory_7 : decode prog_6_method_18_code 7 = .ok (.iconst 0, 1) := by decide +kernel
theorem d_Scav_walkDirectory_8 : decode prog_6_method_18_code 8 = .ok (.istore_n 3, 1) := by decide +kernel
theorem d_Scav_walkDirectory_9 : decode prog_6_method_18_code 9 = .ok (.iload_n 3, 1) := by decide +kernel
theorem d_Scav_walkDirectory_10 : decode prog_6_method_18_code 10 = .ok (.bipush (80), 2) := by decide +kernel
theorem d_Scav_walkDirectory_12 : decode prog_6_method_18_code 12 = .ok (.if_icmp .ge (31), 3) := by decide +kernel
theorem d_Scav_walkDirectory_15 : decode prog_6_method_18_code 15 = .ok (.aload_n 0, 1) := by decide +kernel
theorem d_Scav_walkDirectory_16 : decode prog_6_method_18_code 16 = .ok (.iload_n 1, 1) := by decide +kernel
theorem d_Scav_walkDirectory_17 : decode prog_6_method_18_code 17 = .ok (.iload_n 3, 1) := by decide +kernel
theorem d_Scav_walkDirectory_18 : decode prog_6_method_18_code 18 = .ok (.invokevirtual 128, 3) := by decide +kernel
theorem d_Scav_walkDirectory_21 : decode prog_6_method_18_code 21 = .ok (.istore 4, 2) := by decide +kernel
theorem d_Scav_walkDirectory_23 : decode prog_6_method_18_code 23 = .ok (.iload 4, 2) := by decide +kernel
theorem d_Scav_walkDirectory_25 : decode prog_6_method_18_code 25 = .ok (.iconst (-1), 1) := by decide +kernel
theorem d_Scav_walkDirectory_26 : decode prog_6_method_18_code 26 = .ok (.if_icmp .ne (4), 3) := by decide +kernel
theorem d_Scav_walkDirectory_29 : decode prog_6_method_18_code 29 = .ok (.return_, 1) := by decide +kernel
theorem d_Scav_walkDirectory_30 : decode prog_6_method_18_code 30 = .ok (.aload_n 0, 1) := by decide +kernel
theorem d_Scav_walkDirectory_31 : decode prog_6_method_18_code 31 = .ok (.iload 4, 2) := by decide +kernel
theorem d_Scav_walkDirectory_33 : decode prog_6_method_18_code 33 = .ok (.iload_n 2, 1) := by decide +kernel
theorem d_Scav_walkDirectory_34 : decode prog_6_method_18_code 34 = .ok (.invokevirtual 131, 3) := by decide +kernel
theorem d_Scav_walkDirectory_37 : decode prog_6_method_18_code 37 = .ok (.iinc 3 (1), 3) := by decide +kernel
theorem d_Scav_walkDirectory_40 : decode prog_6_method_18_code 40 = .ok (.goto (-31), 3) := by decide +kernel
theorem d_Scav_walkDirectory_43 : decode prog_6_method_18_code 43 = .ok (.return_, 1) := by decide +kernel
theorem d_Scav_settleEntry_0 : decode prog_6_method_19_code 0 = .ok (.aload_n 0, 1) := by decide +kernel
theorem d_Scav_settleEntry_1 : decode prog_6_method_19_code 1 = .ok (.iload_n 1, 1) := by decide +kernel
theorem d_Scav_settleEntry_2 : decode prog_6_method_19_code 2 = .ok (.invokevirtual 134, 3) := by decide +kernel
theorem d_Scav_settleEntry_5 : decode prog_6_method_19_code 5 = .ok (.istore_n 3, 1) := by decide +kernel
theorem d_Scav_settleEntry_6 : decode prog_6_method_19_code 6 = .ok (.iload_n 3, 1) := by decide +kernel
theorem d_Scav_settleEntry_7 : decode prog_6_method_19_code 7 = .ok (.iconst 3, 1) := by decide +kernel
theorem d_Scav_settleEntry_8 : decode prog_6_method_19_code 8 = .ok (.if_icmp .lt (9), 3) := by decide +kernel
theorem d_Scav_settleEntry_11 : decode prog_6_method_19_code 11 = .ok (.iload_n 3, 1) := by decide +kernel
theorem d_Scav_settleEntry_12 : decode prog_6_method_19_code 12 = .ok (.bipush (60), 2) := by decide +kernel
theorem d_Scav_settleEntry_14 : decode prog_6_method_19_code 14 = .ok (.if_icmp .le (7), 3) := by decide +kernel
theorem d_Scav_settleEntry_17 : decode prog_6_method_19_code 17 = .ok (.iconst (-1), 1) := by decide +kernel
theorem d_Scav_settleEntry_18 : decode prog_6_method_19_code 18 = .ok (.goto (12), 3) := by decide +kernel
theorem d_Scav_settleEntry_21 : decode prog_6_method_19_code 21 = .ok (.aload_n 0, 1) := by decide +kernel
theorem d_Scav_settleEntry_22 : decode prog_6_method_19_code 22 = .ok (.getfield 29, 3) := by decide +kernel
theorem d_Scav_settleEntry_25 : decode prog_6_method_19_code 25 = .ok (.iload_n 3, 1) := by decide +kernel
theorem d_Scav_settleEntry_26 : decode prog_6_method_19_code 26 = .ok (.iconst 0, 1) := by decide +kernel
theorem d_Scav_settleEntry_27 : decode prog_6_method_19_code 27 = .ok (.invokevirtual 68, 3) := by decide +kernel
theorem d_Scav_settleEntry_30 : decode prog_6_method_19_code 30 = .ok (.istore 4, 2) := by decide +kernel
theorem d_Scav_settleEntry_32 : decode prog_6_method_19_code 32 = .ok (.iload 4, 2) := by decide +kernel
theorem d_Scav_settleEntry_34 : decode prog_6_method_19_code 34 = .ok (.iconst (-1), 1) := by decide +kernel
theorem d_Scav_settleEntry_35 : decode prog_6_method_19_code 35 = .ok (.if_icmp .eq (29), 3) := by decide +kernel
theorem d_Scav_settleEntry_38 : decode prog_6_method_19_code 38 = .ok (.aload_n 0, 1) := by decide +kernel
theorem d_Scav_settleEntry_39 : decode prog_6_method_19_code 39 = .ok (.iload_n 3, 1) := by decide +kernel
theorem d_Scav_settleEntry_40 : decode prog_6_method_19_code 40 = .ok (.invokevirtual 137, 3) := by decide +kernel
theorem d_Scav_settleEntry_43 : decode prog_6_method_19_code 43 = .ok (.ifCond .ne (21), 3) := by decide +kernel
theorem d_Scav_settleEntry_46 : decode prog_6_method_19_code 46 = .ok (.aload_n 0, 1) := by decide +kernel
theorem d_Scav_settleEntry_47 : decode prog_6_method_19_code 47 = .ok (.getfield 29, 3) := by decide +kernel
theorem d_Scav_settleEntry_50 : decode prog_6_method_19_code 50 = .ok (.iload 4, 2) := by decide +kernel
theorem d_Scav_settleEntry_52 : decode prog_6_method_19_code 52 = .ok (.iconst 0, 1) := by decide +kernel
theorem d_Scav_settleEntry_53 : decode prog_6_method_19_code 53 = .ok (.invokevirtual 125, 3) := by decide +kernel
theorem d_Scav_settleEntry_56 : decode prog_6_method_19_code 56 = .ok (.aload_n 0, 1) := by decide +kernel
theorem d_Scav_settleEntry_57 : decode prog_6_method_19_code 57 = .ok (.iload_n 1, 1) := by decide +kernel
theorem d_Scav_settleEntry_58 : decode prog_6_method_19_code 58 = .ok (.invokevirtual 140, 3) := by decide +kernel
theorem d_Scav_settleEntry_61 : decode prog_6_method_19_code 61 = .ok (.if_icmp .eq (19), 3) := by decide +kernel
theorem d_Scav_settleEntry_64 : decode prog_6_method_19_code 64 = .ok (.aload_n 0, 1) := by decide +kernel
theorem d_Scav_settleEntry_65 : decode prog_6_method_19_code 65 = .ok (.getfield 29, 3) := by decide +kernel
theorem d_Scav_settleEntry_68 : decode prog_6_method_19_code 68 = .ok (.iload_n 1, 1) := by decide +kernel
theorem d_Scav_settleEntry_69 : decode prog_6_method_19_code 69 = .ok (.bipush (8), 2) := by decide +kernel
theorem d_Scav_settleEntry_71 : decode prog_6_method_19_code 71 = .ok (.idiv, 1) := by decide +kernel
theorem d_Scav_settleEntry_72 : decode prog_6_method_19_code 72 = .ok (.iload_n 1, 1) := by decide +kernel
theorem d_Scav_settleEntry_73 : decode prog_6_method_19_code 73 = .ok (.bipush (8), 2) := by decide +kernel
theorem d_Scav_settleEntry_75 : decode prog_6_method_19_code 75 = .ok (.irem, 1) := by decide +kernel
theorem d_Scav_settleEntry_76 : decode prog_6_method_19_code 76 = .ok (.invokevirtual 142, 3) := by decide +kernel
theorem d_Scav_settleEntry_79 : decode prog_6_method_19_code 79 = .ok (.return_, 1) := by decide +kernel
theorem d_Scav_settleEntry_80 : decode prog_6_method_19_code 80 = .ok (.aload_n 0, 1) := by decide +kernel
theorem d_Scav_settleEntry_81 : decode prog_6_method_19_code 81 = .ok (.getfield 29, 3) := by decide +kernel
theorem d_Scav_settleEntry_84 : decode prog_6_method_19_code 84 = .ok (.iload_n 1, 1) := by decide +kernel
theorem d_Scav_settleEntry_85 : decode prog_6_method_19_code 85 = .ok (.bipush (8), 2) := by decide +kernel
theorem d_Scav_settleEntry_87 : decode prog_6_method_19_code 87 = .ok (.idiv, 1) := by decide +kernel
theorem d_Scav_settleEntry_88 : decode prog_6_method_19_code 88 = .ok (.iload_n 1, 1) := by decide +kernel
theorem d_Scav_settleEntry_89 : decode prog_6_method_19_code 89 = .ok (.bipush (8), 2) := by decide +kernel
theorem d_Scav_settleEntry_91 : decode prog_6_method_19_code 91 = .ok (.irem, 1) := by decide +kernel
theorem d_Scav_settleEntry_92 : decode prog_6_method_19_code 92 = .ok (.iconst 3, 1) := by decide +kernel
theorem d_Scav_settleEntry_93 : decode prog_6_method_19_code 93 = .ok (.iadd, 1) := by decide +kernel
theorem d_Scav_settleEntry_94 : decode prog_6_method_19_code 94 = .ok (.iload 4, 2) := by decide +kernel
theorem d_Scav_settleEntry_96 : decode prog_6_method_19_code 96 = .ok (.invokevirtual 112, 3) := by decide +kernel
theorem d_Scav_settleEntry_99 : decode prog_6_method_19_code 99 = .ok (.aload_n 0, 1) := by decide +kernel
theorem d_Scav_settleEntry_100 : decode prog_6_method_19_code 100 = .ok (.dup, 1) := by decide +kernel
theorem d_Scav_settleEntry_101 : decode prog_6_method_19_code 101 = .ok (.getfield 25, 3) := by decide +kernel
theorem d_Scav_settleEntry_104 : decode prog_6_method_19_code 104 = .ok (.lconst 1, 1) := by decide +kernel
theorem d_Scav_settleEntry_105 : decode prog_6_method_19_code 105 = .ok (.iload_n 3, 1) := by decide +kernel
theorem d_Scav_settleEntry_106 : decode prog_6_method_19_code 106 = .ok (.lshl, 1) := by decide +kernel
theorem d_Scav_settleEntry_107 : decode prog_6_method_19_code 107 = .ok (.lor, 1) := by decide +kernel
theorem d_Scav_settleEntry_108 : decode prog_6_method_19_code 108 = .ok (.putfield 25, 3) := by decide +kernel
theorem d_Scav_settleEntry_111 : decode prog_6_method_19_code 111 = .ok (.aload_n 0, 1) := by decide +kernel
theorem d_Scav_settleEntry_112 : decode prog_6_method_19_code 112 = .ok (.getfield 29, 3) := by decide +kernel
theorem d_Scav_settleEntry_115 : decode prog_6_method_19_code 115 = .ok (.iload 4, 2) := by decide +kernel
theorem d_Scav_settleEntry_117 : decode prog_6_method_19_code 117 = .ok (.invokevirtual 145, 3) := by decide +kernel
theorem d_Scav_settleEntry_120 : decode prog_6_method_19_code 120 = .ok (.ifCond .eq (11), 3) := by decide +kernel
theorem d_Scav_settleEntry_123 : decode prog_6_method_19_code 123 = .ok (.aload_n 0, 1) := by decide +kernel
theorem d_Scav_settleEntry_124 : decode prog_6_method_19_code 124 = .ok (.iload_n 3, 1) := by decide +kernel
theorem d_Scav_settleEntry_125 : decode prog_6_method_19_code 125 = .ok (.iload_n 2, 1) := by decide +kernel
theorem d_Scav_settleEntry_126 : decode prog_6_method_19_code 126 = .ok (.iconst 1, 1) := by decide +kernel
theorem d_Scav_settleEntry_127 : decode prog_6_method_19_code 127 = .ok (.iadd, 1) := by decide +kernel
theorem d_Scav_settleEntry_128 : decode prog_6_method_19_code 128 = .ok (.invokevirtual 48, 3) := by decide +kernel
theorem d_Scav_settleEntry_131 : decode prog_6_method_19_code 131 = .ok (.return_, 1) := by decide +kernel
theorem d_Scav_nextToAdopt_0 : decode prog_6_method_20_code 0 = .ok (.iconst (-1), 1) := by decide +kernel
theorem d_Scav_nextToAdopt_1 : decode prog_6_method_20_code 1 = .ok (.istore_n 1, 1) := by decide +kernel
theorem d_Scav_nextToAdopt_2 : decode prog_6_method_20_code 2 = .ok (.iconst 3, 1) := by decide +kernel
theorem d_Scav_nextToAdopt_3 : decode prog_6_method_20_code 3 = .ok (.istore_n 2, 1) := by decide +kernel
theorem d_Scav_nextToAdopt_4 : decode prog_6_method_20_code 4 = .ok (.iload_n 2, 1) := by decide +kernel
theorem d_Scav_nextToAdopt_5 : decode prog_6_method_20_code 5 = .ok (.bipush (60), 2) := by decide +kernel
theorem d_Scav_nextToAdopt_7 : decode prog_6_method_20_code 7 = .ok (.if_icmp .gt (49), 3) := by decide +kernel
theorem d_Scav_nextToAdopt_10 : decode prog_6_method_20_code 10 = .ok (.aload_n 0, 1) := by decide +kernel
theorem d_Scav_nextToAdopt_11 : decode prog_6_method_20_code 11 = .ok (.iload_n 2, 1) := by decide +kernel
theorem d_Scav_nextToAdopt_12 : decode prog_6_method_20_code 12 = .ok (.invokevirtual 137, 3) := by decide +kernel
theorem d_Scav_nextToAdopt_15 : decode prog_6_method_20_code 15 = .ok (.ifCond .ne (35), 3) := by decide +kernel
theorem d_Scav_nextToAdopt_18 : decode prog_6_method_20_code 18 = .ok (.aload_n 0, 1) := by decide +kernel
theorem d_Scav_nextToAdopt_19 : decode prog_6_method_20_code 19 = .ok (.iload_n 2, 1) := by decide +kernel
theorem d_Scav_nextToAdopt_20 : decode prog_6_method_20_code 20 = .ok (.invokevirtual 44, 3) := by decide +kernel
theorem d_Scav_nextToAdopt_23 : decode prog_6_method_20_code 23 = .ok (.ifCond .ne (6), 3) := by decide +kernel
theorem d_Scav_nextToAdopt_26 : decode prog_6_method_20_code 26 = .ok (.goto (24), 3) := by decide +kernel
theorem d_Scav_nextToAdopt_29 : decode prog_6_method_20_code 29 = .ok (.aload_n 0, 1) := by decide +kernel
theorem d_Scav_nextToAdopt_30 : decode prog_6_method_20_code 30 = .ok (.iload_n 2, 1) := by decide +kernel
theorem d_Scav_nextToAdopt_31 : decode prog_6_method_20_code 31 = .ok (.invokevirtual 148, 3) := by decide +kernel
theorem d_Scav_nextToAdopt_34 : decode prog_6_method_20_code 34 = .ok (.ifCond .ne (5), 3) := by decide +kernel
theorem d_Scav_nextToAdopt_37 : decode prog_6_method_20_code 37 = .ok (.iload_n 2, 1) := by decide +kernel
theorem d_Scav_nextToAdopt_38 : decode prog_6_method_20_code 38 = .ok (.ireturn, 1) := by decide +kernel
theorem d_Scav_nextToAdopt_39 : decode prog_6_method_20_code 39 = .ok (.iload_n 1, 1) := by decide +kernel
theorem d_Scav_nextToAdopt_40 : decode prog_6_method_20_code 40 = .ok (.iconst (-1), 1) := by decide +kernel
theorem d_Scav_nextToAdopt_41 : decode prog_6_method_20_code 41 = .ok (.if_icmp .ne (7), 3) := by decide +kernel
theorem d_Scav_nextToAdopt_44 : decode prog_6_method_20_code 44 = .ok (.iload_n 2, 1) := by decide +kernel
theorem d_Scav_nextToAdopt_45 : decode prog_6_method_20_code 45 = .ok (.goto (4), 3) := by decide +kernel
theorem d_Scav_nextToAdopt_48 : decode prog_6_method_20_code 48 = .ok (.iload_n 1, 1) := by decide +kernel
theorem d_Scav_nextToAdopt_49 : decode prog_6_method_20_code 49 = .ok (.istore_n 1, 1) := by decide +kernel
theorem d_Scav_nextToAdopt_50 : decode prog_6_method_20_code 50 = .ok (.iinc 2 (1), 3) := by decide +kernel
theorem d_Scav_nextToAdopt_53 : decode prog_6_method_20_code 53 = .ok (.goto (-49), 3) := by decide +kernel
theorem d_Scav_nextToAdopt_56 : decode prog_6_method_20_code 56 = .ok (.iload_n 1, 1) := by decide +kernel
theorem d_Scav_nextToAdopt_57 : decode prog_6_method_20_code 57 = .ok (.ireturn, 1) := by decide +kernel
theorem d_Scav_isListed_0 : decode prog_6_method_21_code 0 = .ok (.aload_n 0, 1) := by decide +kernel
theorem d_Scav_isListed_1 : decode prog_6_method_21_code 1 = .ok (.getfield 29, 3) := by decide +kernel
theorem d_Scav_isListed_4 : decode prog_6_method_21_code 4 = .ok (.aload_n 0, 1) := by decide +kernel
theorem d_Scav_isListed_5 : decode prog_6_method_21_code 5 = .ok (.getfield 29, 3) := by decide +kernel
theorem d_Scav_isListed_8 : decode prog_6_method_21_code 8 = .ok (.iload_n 1, 1) := by decide +kernel
theorem d_Scav_isListed_9 : decode prog_6_method_21_code 9 = .ok (.iconst 0, 1) := by decide +kernel
theorem d_Scav_isListed_10 : decode prog_6_method_21_code 10 = .ok (.invokevirtual 68, 3) := by decide +kernel
theorem d_Scav_isListed_13 : decode prog_6_method_21_code 13 = .ok (.iconst 0, 1) := by decide +kernel
theorem d_Scav_isListed_14 : decode prog_6_method_21_code 14 = .ok (.invokevirtual 125, 3) := by decide +kernel
theorem d_Scav_isListed_17 : decode prog_6_method_21_code 17 = .ok (.istore_n 2, 1) := by decide +kernel
theorem d_Scav_isListed_18 : decode prog_6_method_21_code 18 = .ok (.iconst 3, 1) := by decide +kernel
theorem d_Scav_isListed_19 : decode prog_6_method_21_code 19 = .ok (.istore_n 3, 1) := by decide +kernel
theorem d_Scav_isListed_20 : decode prog_6_method_21_code 20 = .ok (.iload_n 3, 1) := by decide +kernel
theorem d_Scav_isListed_21 : decode prog_6_method_21_code 21 = .ok (.bipush (60), 2) := by decide +kernel
theorem d_Scav_isListed_23 : decode prog_6_method_21_code 23 = .ok (.if_icmp .gt (65), 3) := by decide +kernel
theorem d_Scav_isListed_26 : decode prog_6_method_21_code 26 = .ok (.iload_n 3, 1) := by decide +kernel
theorem d_Scav_isListed_27 : decode prog_6_method_21_code 27 = .ok (.iload_n 1, 1) := by decide +kernel
theorem d_Scav_isListed_28 : decode prog_6_method_21_code 28 = .ok (.if_icmp .eq (34), 3) := by decide +kernel
theorem d_Scav_isListed_31 : decode prog_6_method_21_code 31 = .ok (.aload_n 0, 1) := by decide +kernel
theorem d_Scav_isListed_32 : decode prog_6_method_21_code 32 = .ok (.iload_n 3, 1) := by decide +kernel
theorem d_Scav_isListed_33 : decode prog_6_method_21_code 33 = .ok (.invokevirtual 137, 3) := by decide +kernel
theorem d_Scav_isListed_36 : decode prog_6_method_21_code 36 = .ok (.ifCond .ne (26), 3) := by decide +kernel
theorem d_Scav_isListed_39 : decode prog_6_method_21_code 39 = .ok (.aload_n 0, 1) := by decide +kernel
theorem d_Scav_isListed_40 : decode prog_6_method_21_code 40 = .ok (.getfield 29, 3) := by decide +kernel
theorem d_Scav_isListed_43 : decode prog_6_method_21_code 43 = .ok (.aload_n 0, 1) := by decide +kernel
theorem d_Scav_isListed_44 : decode prog_6_method_21_code 44 = .ok (.getfield 29, 3) := by decide +kernel
theorem d_Scav_isListed_47 : decode prog_6_method_21_code 47 = .ok (.iload_n 3, 1) := by decide +kernel
theorem d_Scav_isListed_48 : decode prog_6_method_21_code 48 = .ok (.iconst 0, 1) := by decide +kernel
theorem d_Scav_isListed_49 : decode prog_6_method_21_code 49 = .ok (.invokevirtual 68, 3) := by decide +kernel
theorem d_Scav_isListed_52 : decode prog_6_method_21_code 52 = .ok (.invokevirtual 145, 3) := by decide +kernel
theorem d_Scav_isListed_55 : decode prog_6_method_21_code 55 = .ok (.ifCond .eq (7), 3) := by decide +kernel
theorem d_Scav_isListed_58 : decode prog_6_method_21_code 58 = .ok (.iconst 1, 1) := by decide +kernel
theorem d_Scav_isListed_59 : decode prog_6_method_21_code 59 = .ok (.goto (4), 3) := by decide +kernel
theorem d_Scav_isListed_62 : decode prog_6_method_21_code 62 = .ok (.iconst 0, 1) := by decide +kernel
theorem d_Scav_isListed_63 : decode prog_6_method_21_code 63 = .ok (.istore 4, 2) := by decide +kernel
theorem d_Scav_isListed_65 : decode prog_6_method_21_code 65 = .ok (.iload 4, 2) := by decide +kernel
theorem d_Scav_isListed_67 : decode prog_6_method_21_code 67 = .ok (.ifCond .eq (15), 3) := by decide +kernel
theorem d_Scav_isListed_70 : decode prog_6_method_21_code 70 = .ok (.aload_n 0, 1) := by decide +kernel
theorem d_Scav_isListed_71 : decode prog_6_method_21_code 71 = .ok (.iload_n 3, 1) := by decide +kernel
theorem d_Scav_isListed_72 : decode prog_6_method_21_code 72 = .ok (.iload_n 1, 1) := by decide +kernel
theorem d_Scav_isListed_73 : decode prog_6_method_21_code 73 = .ok (.iload_n 2, 1) := by decide +kernel
theorem d_Scav_isListed_74 : decode prog_6_method_21_code 74 = .ok (.invokevirtual 151, 3) := by decide +kernel
theorem d_Scav_isListed_77 : decode prog_6_method_21_code 77 = .ok (.ifCond .eq (5), 3) := by decide +kernel
theorem d_Scav_isListed_80 : decode prog_6_method_21_code 80 = .ok (.iconst 1, 1) := by decide +kernel
theorem d_Scav_isListed_81 : decode prog_6_method_21_code 81 = .ok (.ireturn, 1) := by decide +kernel
theorem d_Scav_isListed_82 : decode prog_6_method_21_code 82 = .ok (.iinc 3 (1), 3) := by decide +kernel
theorem d_Scav_isListed_85 : decode prog_6_method_21_code 85 = .ok (.goto (-65), 3) := by decide +kernel
theorem d_Scav_isListed_88 : decode prog_6_method_21_code 88 = .ok (.iconst 0, 1) := by decide +kernel
theorem d_Scav_isListed_89 : decode prog_6_method_21_code 89 = .ok (.ireturn, 1) := by decide +kernel
theorem d_Scav_hasEntry_0 : decode prog_6_method_22_code 0 = .ok (.iconst 0, 1) := by decide +kernel
theorem d_Scav_hasEntry_1 : decode prog_6_method_22_code 1 = .ok (.istore 4, 2) := by decide +kernel
theorem d_Scav_hasEntry_3 : decode prog_6_method_22_code 3 = .ok (.iload 4, 2) := by decide +kernel
theorem d_Scav_hasEntry_5 : decode prog_6_method_22_code 5 = .ok (.bipush (80), 2) := by decide +kernel
theorem d_Scav_hasEntry_7 : decode prog_6_method_22_code 7 = .ok (.if_icmp .ge (48), 3) := by decide +kernel
theorem d_Scav_hasEntry_10 : decode prog_6_method_22_code 10 = .ok (.aload_n 0, 1) := by decide +kernel
theorem d_Scav_hasEntry_11 : decode prog_6_method_22_code 11 = .ok (.iload_n 1, 1) := by decide +kernel
theorem d_Scav_hasEntry_12 : decode prog_6_method_22_code 12 = .ok (.iload 4, 2) := by decide +kernel
theorem d_Scav_hasEntry_14 : decode prog_6_method_22_code 14 = .ok (.invokevirtual 128, 3) := by decide +kernel
theorem d_Scav_hasEntry_17 : decode prog_6_method_22_code 17 = .ok (.istore 5, 2) := by decide +kernel
theorem d_Scav_hasEntry_19 : decode prog_6_method_22_code 19 = .ok (.iload 5, 2) := by decide +kernel
theorem d_Scav_hasEntry_21 : decode prog_6_method_22_code 21 = .ok (.iconst (-1), 1) := by decide +kernel
theorem d_Scav_hasEntry_22 : decode prog_6_method_22_code 22 = .ok (.if_icmp .ne (5), 3) := by decide +kernel
theorem d_Scav_hasEntry_25 : decode prog_6_method_22_code 25 = .ok (.iconst 0, 1) := by decide +kernel
theorem d_Scav_hasEntry_26 : decode prog_6_method_22_code 26 = .ok (.ireturn, 1) := by decide +kernel
theorem d_Scav_hasEntry_27 : decode prog_6_method_22_code 27 = .ok (.aload_n 0, 1) := by decide +kernel
theorem d_Scav_hasEntry_28 : decode prog_6_method_22_code 28 = .ok (.iload 5, 2) := by decide +kernel
theorem d_Scav_hasEntry_30 : decode prog_6_method_22_code 30 = .ok (.invokevirtual 134, 3) := by decide +kernel
theorem d_Scav_hasEntry_33 : decode prog_6_method_22_code 33 = .ok (.iload_n 2, 1) := by decide +kernel
theorem d_Scav_hasEntry_34 : decode prog_6_method_22_code 34 = .ok (.if_icmp .ne (15), 3) := by decide +kernel
theorem d_Scav_hasEntry_37 : decode prog_6_method_22_code 37 = .ok (.aload_n 0, 1) := by decide +kernel
theorem d_Scav_hasEntry_38 : decode prog_6_method_22_code 38 = .ok (.iload 5, 2) := by decide +kernel
theorem d_Scav_hasEntry_40 : decode prog_6_method_22_code 40 = .ok (.invokevirtual 140, 3) := by decide +kernel
theorem d_Scav_hasEntry_43 : decode prog_6_method_22_code 43 = .ok (.iload_n 3, 1) := by decide +kernel
theorem d_Scav_hasEntry_44 : decode prog_6_method_22_code 44 = .ok (.if_icmp .ne (5), 3) := by decide +kernel
theorem d_Scav_hasEntry_47 : decode prog_6_method_22_code 47 = .ok (.iconst 1, 1) := by decide +kernel
theorem d_Scav_hasEntry_48 : decode prog_6_method_22_code 48 = .ok (.ireturn, 1) := by decide +kernel
theorem d_Scav_hasEntry_49 : decode prog_6_method_22_code 49 = .ok (.iinc 4 (1), 3) := by decide +kernel
theorem d_Scav_hasEntry_52 : decode prog_6_method_22_code 52 = .ok (.goto (-49), 3) := by decide +kernel
theorem d_Scav_hasEntry_55 : decode prog_6_method_22_code 55 = .ok (.iconst 0, 1) := by decide +kernel
theorem d_Scav_hasEntry_56 : decode prog_6_method_22_code 56 = .ok (.ireturn, 1) := by decide +kernel
theorem d_Scav_adopt_0 : decode prog_6_method_23_code 0 = .ok (.aload_n 0, 1) := by decide +kernel
theorem d_Scav_adopt_1 : decode prog_6_method_23_code 1 = .ok (.getfield 29, 3) := by decide +kernel
theorem d_Scav_adopt_4 : decode prog_6_method_23_code 4 = .ok (.iload_n 1, 1) := by decide +kernel
theorem d_Scav_adopt_5 : decode prog_6_method_23_code 5 = .ok (.iconst 0, 1) := by decide +kernel
theorem d_Scav_adopt_6 : decode prog_6_method_23_code 6 = .ok (.invokevirtual 68, 3) := by decide +kernel
theorem d_Scav_adopt_9 : decode prog_6_method_23_code 9 = .ok (.istore_n 2, 1) := by decide +kernel
theorem d_Scav_adopt_10 : decode prog_6_method_23_code 10 = .ok (.aload_n 0, 1) := by decide +kernel
theorem d_Scav_adopt_11 : decode prog_6_method_23_code 11 = .ok (.getfield 29, 3) := by decide +kernel
theorem d_Scav_adopt_14 : decode prog_6_method_23_code 14 = .ok (.iload_n 2, 1) := by decide +kernel
theorem d_Scav_adopt_15 : decode prog_6_method_23_code 15 = .ok (.iconst 0, 1) := by decide +kernel
theorem d_Scav_adopt_16 : decode prog_6_method_23_code 16 = .ok (.invokevirtual 125, 3) := by decide +kernel
theorem d_Scav_adopt_19 : decode prog_6_method_23_code 19 = .ok (.istore_n 3, 1) := by decide +kernel
theorem d_Scav_adopt_20 : decode prog_6_method_23_code 20 = .ok (.iload_n 3, 1) := by decide +kernel
theorem d_Scav_adopt_21 : decode prog_6_method_23_code 21 = .ok (.iconst 1, 1) := by decide +kernel
theorem d_Scav_adopt_22 : decode prog_6_method_23_code 22 = .ok (.if_icmp .lt (22), 3) := by decide +kernel
theorem d_Scav_adopt_25 : decode prog_6_method_23_code 25 = .ok (.iload_n 3, 1) := by decide +kernel
theorem d_Scav_adopt_26 : decode prog_6_method_23_code 26 = .ok (.sipush (9999), 3) := by decide +kernel
theorem d_Scav_adopt_29 : decode prog_6_method_23_code 29 = .ok (.if_icmp .gt (15), 3) := by decide +kernel
theorem d_Scav_adopt_32 : decode prog_6_method_23_code 32 = .ok (.aload_n 0, 1) := by decide +kernel
theorem d_Scav_adopt_33 : decode prog_6_method_23_code 33 = .ok (.iload_n 3, 1) := by decide +kernel
theorem d_Scav_adopt_34 : decode prog_6_method_23_code 34 = .ok (.invokevirtual 154, 3) := by decide +kernel
theorem d_Scav_adopt_37 : decode prog_6_method_23_code 37 = .ok (.ifCond .ne (7), 3) := by decide +kernel
theorem d_Scav_adopt_40 : decode prog_6_method_23_code 40 = .ok (.iconst 1, 1) := by decide +kernel
theorem d_Scav_adopt_41 : decode prog_6_method_23_code 41 = .ok (.goto (4), 3) := by decide +kernel
theorem d_Scav_adopt_44 : decode prog_6_method_23_code 44 = .ok (.iconst 0, 1) := by decide +kernel
theorem d_Scav_adopt_45 : decode prog_6_method_23_code 45 = .ok (.istore 4, 2) := by decide +kernel
theorem d_Scav_adopt_47 : decode prog_6_method_23_code 47 = .ok (.aload_n 0, 1) := by decide +kernel
theorem d_Scav_adopt_48 : decode prog_6_method_23_code 48 = .ok (.invokevirtual 157, 3) := by decide +kernel
theorem d_Scav_adopt_51 : decode prog_6_method_23_code 51 = .ok (.istore 5, 2) := by decide +kernel
theorem d_Scav_adopt_53 : decode prog_6_method_23_code 53 = .ok (.iload 5, 2) := by decide +kernel
theorem d_Scav_adopt_55 : decode prog_6_method_23_code 55 = .ok (.iconst (-1), 1) := by decide +kernel
theorem d_Scav_adopt_56 : decode prog_6_method_23_code 56 = .ok (.if_icmp .ne (5), 3) := by decide +kernel
theorem d_Scav_adopt_59 : decode prog_6_method_23_code 59 = .ok (.iconst 0, 1) := by decide +kernel
theorem d_Scav_adopt_60 : decode prog_6_method_23_code 60 = .ok (.ireturn, 1) := by decide +kernel
theorem d_Scav_adopt_61 : decode prog_6_method_23_code 61 = .ok (.iload 4, 2) := by decide +kernel
theorem d_Scav_adopt_63 : decode prog_6_method_23_code 63 = .ok (.ifCond .ne (17), 3) := by decide +kernel
theorem d_Scav_adopt_66 : decode prog_6_method_23_code 66 = .ok (.aload_n 0, 1) := by decide +kernel
theorem d_Scav_adopt_67 : decode prog_6_method_23_code 67 = .ok (.getfield 29, 3) := by decide +kernel
theorem d_Scav_adopt_70 : decode prog_6_method_23_code 70 = .ok (.iload_n 2, 1) := by decide +kernel
theorem d_Scav_adopt_71 : decode prog_6_method_23_code 71 = .ok (.iconst 0, 1) := by decide +kernel
theorem d_Scav_adopt_72 : decode prog_6_method_23_code 72 = .ok (.sipush (10000), 3) := by decide +kernel
theorem d_Scav_adopt_75 : decode prog_6_method_23_code 75 = .ok (.iload_n 1, 1) := by decide +kernel
theorem d_Scav_adopt_76 : decode prog_6_method_23_code 76 = .ok (.iadd, 1) := by decide +kernel
theorem d_Scav_adopt_77 : decode prog_6_method_23_code 77 = .ok (.invokevirtual 108, 3) := by decide +kernel
theorem d_Scav_adopt_80 : decode prog_6_method_23_code 80 = .ok (.aload_n 0, 1) := by decide +kernel
theorem d_Scav_adopt_81 : decode prog_6_method_23_code 81 = .ok (.getfield 29, 3) := by decide +kernel
theorem d_Scav_adopt_84 : decode prog_6_method_23_code 84 = .ok (.iload 5, 2) := by decide +kernel
theorem d_Scav_adopt_86 : decode prog_6_method_23_code 86 = .ok (.bipush (8), 2) := by decide +kernel
theorem d_Scav_adopt_88 : decode prog_6_method_23_code 88 = .ok (.idiv, 1) := by decide +kernel
theorem d_Scav_adopt_89 : decode prog_6_method_23_code 89 = .ok (.iload 5, 2) := by decide +kernel
theorem d_Scav_adopt_91 : decode prog_6_method_23_code 91 = .ok (.bipush (8), 2) := by decide +kernel
theorem d_Scav_adopt_93 : decode prog_6_method_23_code 93 = .ok (.irem, 1) := by decide +kernel
theorem d_Scav_adopt_94 : decode prog_6_method_23_code 94 = .ok (.iload_n 2, 1) := by decide +kernel
theorem d_Scav_adopt_95 : decode prog_6_method_23_code 95 = .ok (.invokevirtual 160, 3) := by decide +kernel
theorem d_Scav_adopt_98 : decode prog_6_method_23_code 98 = .ok (.aload_n 0, 1) := by decide +kernel
theorem d_Scav_adopt_99 : decode prog_6_method_23_code 99 = .ok (.dup, 1) := by decide +kernel
theorem d_Scav_adopt_100 : decode prog_6_method_23_code 100 = .ok (.getfield 22, 3) := by decide +kernel
theorem d_Scav_adopt_103 : decode prog_6_method_23_code 103 = .ok (.iconst 1, 1) := by decide +kernel
theorem d_Scav_adopt_104 : decode prog_6_method_23_code 104 = .ok (.iadd, 1) := by decide +kernel
theorem d_Scav_adopt_105 : decode prog_6_method_23_code 105 = .ok (.putfield 22, 3) := by decide +kernel
theorem d_Scav_adopt_108 : decode prog_6_method_23_code 108 = .ok (.aload_n 0, 1) := by decide +kernel
theorem d_Scav_adopt_109 : decode prog_6_method_23_code 109 = .ok (.dup, 1) := by decide +kernel
theorem d_Scav_adopt_110 : decode prog_6_method_23_code 110 = .ok (.getfield 25, 3) := by decide +kernel
theorem d_Scav_adopt_113 : decode prog_6_method_23_code 113 = .ok (.lconst 1, 1) := by decide +kernel
theorem d_Scav_adopt_114 : decode prog_6_method_23_code 114 = .ok (.iload_n 1, 1) := by decide +kernel
theorem d_Scav_adopt_115 : decode prog_6_method_23_code 115 = .ok (.lshl, 1) := by decide +kernel
theorem d_Scav_adopt_116 : decode prog_6_method_23_code 116 = .ok (.lor, 1) := by decide +kernel
theorem d_Scav_adopt_117 : decode prog_6_method_23_code 117 = .ok (.putfield 25, 3) := by decide +kernel
theorem d_Scav_adopt_120 : decode prog_6_method_23_code 120 = .ok (.aload_n 0, 1) := by decide +kernel
theorem d_Scav_adopt_121 : decode prog_6_method_23_code 121 = .ok (.getfield 29, 3) := by decide +kernel
theorem d_Scav_adopt_124 : decode prog_6_method_23_code 124 = .ok (.iload_n 2, 1) := by decide +kernel
theorem d_Scav_adopt_125 : decode prog_6_method_23_code 125 = .ok (.invokevirtual 145, 3) := by decide +kernel
theorem d_Scav_adopt_128 : decode prog_6_method_23_code 128 = .ok (.ifCond .eq (9), 3) := by decide +kernel
theorem d_Scav_adopt_131 : decode prog_6_method_23_code 131 = .ok (.aload_n 0, 1) := by decide +kernel
theorem d_Scav_adopt_132 : decode prog_6_method_23_code 132 = .ok (.iload_n 1, 1) := by decide +kernel
theorem d_Scav_adopt_133 : decode prog_6_method_23_code 133 = .ok (.iconst 1, 1) := by decide +kernel
theorem d_Scav_adopt_134 : decode prog_6_method_23_code 134 = .ok (.invokevirtual 48, 3) := by decide +kernel
theorem d_Scav_adopt_137 : decode prog_6_method_23_code 137 = .ok (.iconst 1, 1) := by decide +kernel
theorem d_Scav_adopt_138 : decode prog_6_method_23_code 138 = .ok (.ireturn, 1) := by decide +kernel
theorem d_Scav_rootHasName_0 : decode prog_6_method_24_code 0 = .ok (.iconst 0, 1) := by decide +kernel
theorem d_Scav_rootHasName_1 : decode prog_6_method_24_code 1 = .ok (.istore_n 2, 1) := by decide +kernel
theorem d_Scav_rootHasName_2 : decode prog_6_method_24_code 2 = .ok (.iload_n 2, 1) := by decide +kernel
theorem d_Scav_rootHasName_3 : decode prog_6_method_24_code 3 = .ok (.bipush (80), 2) := by decide +kernel
theorem d_Scav_rootHasName_5 : decode prog_6_method_24_code 5 = .ok (.if_icmp .ge (34), 3) := by decide +kernel
theorem d_Scav_rootHasName_8 : decode prog_6_method_24_code 8 = .ok (.aload_n 0, 1) := by decide +kernel
theorem d_Scav_rootHasName_9 : decode prog_6_method_24_code 9 = .ok (.iconst 1, 1) := by decide +kernel
theorem d_Scav_rootHasName_10 : decode prog_6_method_24_code 10 = .ok (.iload_n 2, 1) := by decide +kernel
theorem d_Scav_rootHasName_11 : decode prog_6_method_24_code 11 = .ok (.invokevirtual 128, 3) := by decide +kernel
theorem d_Scav_rootHasName_14 : decode prog_6_method_24_code 14 = .ok (.istore_n 3, 1) := by decide +kernel
theorem d_Scav_rootHasName_15 : decode prog_6_method_24_code 15 = .ok (.iload_n 3, 1) := by decide +kernel
theorem d_Scav_rootHasName_16 : decode prog_6_method_24_code 16 = .ok (.iconst (-1), 1) := by decide +kernel
theorem d_Scav_rootHasName_17 : decode prog_6_method_24_code 17 = .ok (.if_icmp .ne (5), 3) := by decide +kernel
theorem d_Scav_rootHasName_20 : decode prog_6_method_24_code 20 = .ok (.iconst 0, 1) := by decide +kernel
theorem d_Scav_rootHasName_21 : decode prog_6_method_24_code 21 = .ok (.ireturn, 1) := by decide +kernel
theorem d_Scav_rootHasName_22 : decode prog_6_method_24_code 22 = .ok (.aload_n 0, 1) := by decide +kernel
theorem d_Scav_rootHasName_23 : decode prog_6_method_24_code 23 = .ok (.iload_n 3, 1) := by decide +kernel
theorem d_Scav_rootHasName_24 : decode prog_6_method_24_code 24 = .ok (.invokevirtual 140, 3) := by decide +kernel
theorem d_Scav_rootHasName_27 : decode prog_6_method_24_code 27 = .ok (.iload_n 1, 1) := by decide +kernel
theorem d_Scav_rootHasName_28 : decode prog_6_method_24_code 28 = .ok (.if_icmp .ne (5), 3) := by decide +kernel
theorem d_Scav_rootHasName_31 : decode prog_6_method_24_code 31 = .ok (.iconst 1, 1) := by decide +kernel
theorem d_Scav_rootHasName_32 : decode prog_6_method_24_code 32 = .ok (.ireturn, 1) := by decide +kernel
theorem d_Scav_rootHasName_33 : decode prog_6_method_24_code 33 = .ok (.iinc 2 (1), 3) := by decide +kernel
theorem d_Scav_rootHasName_36 : decode prog_6_method_24_code 36 = .ok (.goto (-34), 3) := by decide +kernel
theorem d_Scav_rootHasName_39 : decode prog_6_method_24_code 39 = .ok (.iconst 0, 1) := by decide +kernel
theorem d_Scav_rootHasName_40 : decode prog_6_method_24_code 40 = .ok (.ireturn, 1) := by decide +kernel
theorem d_Scav_placeInRoot_0 : decode prog_6_method_25_code 0 = .ok (.iconst 0, 1) := by decide +kernel
theorem d_Scav_placeInRoot_1 : decode prog_6_method_25_code 1 = .ok (.istore_n 1, 1) := by decide +kernel
theorem d_Scav_placeInRoot_2 : decode prog_6_method_25_code 2 = .ok (.iload_n 1, 1) := by decide +kernel
theorem d_Scav_placeInRoot_3 : decode prog_6_method_25_code 3 = .ok (.bipush (80), 2) := by decide +kernel
theorem d_Scav_placeInRoot_5 : decode prog_6_method_25_code 5 = .ok (.if_icmp .ge (36), 3) := by decide +kernel
theorem d_Scav_placeInRoot_8 : decode prog_6_method_25_code 8 = .ok (.aload_n 0, 1) := by decide +kernel
theorem d_Scav_placeInRoot_9 : decode prog_6_method_25_code 9 = .ok (.iconst 1, 1) := by decide +kernel
theorem d_Scav_placeInRoot_10 : decode prog_6_method_25_code 10 = .ok (.iload_n 1, 1) := by decide +kernel
theorem d_Scav_placeInRoot_11 : decode prog_6_method_25_code 11 = .ok (.invokevirtual 128, 3) := by decide +kernel
theorem d_Scav_placeInRoot_14 : decode prog_6_method_25_code 14 = .ok (.iconst (-1), 1) := by decide +kernel
theorem d_Scav_placeInRoot_15 : decode prog_6_method_25_code 15 = .ok (.if_icmp .eq (26), 3) := by decide +kernel
theorem d_Scav_placeInRoot_18 : decode prog_6_method_25_code 18 = .ok (.aload_n 0, 1) := by decide +kernel
theorem d_Scav_placeInRoot_19 : decode prog_6_method_25_code 19 = .ok (.iconst 1, 1) := by decide +kernel
theorem d_Scav_placeInRoot_20 : decode prog_6_method_25_code 20 = .ok (.iload_n 1, 1) := by decide +kernel
theorem d_Scav_placeInRoot_21 : decode prog_6_method_25_code 21 = .ok (.invokevirtual 128, 3) := by decide +kernel
theorem d_Scav_placeInRoot_24 : decode prog_6_method_25_code 24 = .ok (.istore_n 2, 1) := by decide +kernel
theorem d_Scav_placeInRoot_25 : decode prog_6_method_25_code 25 = .ok (.aload_n 0, 1) := by decide +kernel
theorem d_Scav_placeInRoot_26 : decode prog_6_method_25_code 26 = .ok (.iload_n 2, 1) := by decide +kernel
theorem d_Scav_placeInRoot_27 : decode prog_6_method_25_code 27 = .ok (.invokevirtual 134, 3) := by decide +kernel
theorem d_Scav_placeInRoot_30 : decode prog_6_method_25_code 30 = .ok (.ifCond .ne (5), 3) := by decide +kernel
theorem d_Scav_placeInRoot_33 : decode prog_6_method_25_code 33 = .ok (.iload_n 2, 1) := by decide +kernel
theorem d_Scav_placeInRoot_34 : decode prog_6_method_25_code 34 = .ok (.ireturn, 1) := by decide +kernel
theorem d_Scav_placeInRoot_35 : decode prog_6_method_25_code 35 = .ok (.iinc 1 (1), 3) := by decide +kernel
theorem d_Scav_placeInRoot_38 : decode prog_6_method_25_code 38 = .ok (.goto (-36), 3) := by decide +kernel
theorem d_Scav_placeInRoot_41 : decode prog_6_method_25_code 41 = .ok (.aload_n 0, 1) := by decide +kernel
theorem d_Scav_placeInRoot_42 : decode prog_6_method_25_code 42 = .ok (.iconst 1, 1) := by decide +kernel
theorem d_Scav_placeInRoot_43 : decode prog_6_method_25_code 43 = .ok (.invokevirtual 163, 3) := by decide +kernel
theorem d_Scav_placeInRoot_46 : decode prog_6_method_25_code 46 = .ok (.istore_n 1, 1) := by decide +kernel
theorem d_Scav_placeInRoot_47 : decode prog_6_method_25_code 47 = .ok (.aload_n 0, 1) := by decide +kernel
theorem d_Scav_placeInRoot_48 : decode prog_6_method_25_code 48 = .ok (.getfield 29, 3) := by decide +kernel
theorem d_Scav_placeInRoot_51 : decode prog_6_method_25_code 51 = .ok (.iload_n 1, 1) := by decide +kernel
theorem d_Scav_placeInRoot_52 : decode prog_6_method_25_code 52 = .ok (.invokevirtual 166, 3) := by decide +kernel
theorem d_Scav_placeInRoot_55 : decode prog_6_method_25_code 55 = .ok (.ifCond .eq (21), 3) := by decide +kernel
theorem d_Scav_placeInRoot_58 : decode prog_6_method_25_code 58 = .ok (.aload_n 0, 1) := by decide +kernel
theorem d_Scav_placeInRoot_59 : decode prog_6_method_25_code 59 = .ok (.getfield 29, 3) := by decide +kernel
theorem d_Scav_placeInRoot_62 : decode prog_6_method_25_code 62 = .ok (.iload_n 1, 1) := by decide +kernel
theorem d_Scav_placeInRoot_63 : decode prog_6_method_25_code 63 = .ok (.iconst 2, 1) := by decide +kernel
theorem d_Scav_placeInRoot_64 : decode prog_6_method_25_code 64 = .ok (.bipush (8), 2) := by decide +kernel
theorem d_Scav_placeInRoot_66 : decode prog_6_method_25_code 66 = .ok (.invokevirtual 169, 3) := by decide +kernel
theorem d_Scav_placeInRoot_69 : decode prog_6_method_25_code 69 = .ok (.iload_n 1, 1) := by decide +kernel
theorem d_Scav_placeInRoot_70 : decode prog_6_method_25_code 70 = .ok (.bipush (8), 2) := by decide +kernel
theorem d_Scav_placeInRoot_72 : decode prog_6_method_25_code 72 = .ok (.imul, 1) := by decide +kernel
theorem d_Scav_placeInRoot_73 : decode prog_6_method_25_code 73 = .ok (.iconst 4, 1) := by decide +kernel
theorem d_Scav_placeInRoot_74 : decode prog_6_method_25_code 74 = .ok (.iadd, 1) := by decide +kernel
theorem d_Scav_placeInRoot_75 : decode prog_6_method_25_code 75 = .ok (.ireturn, 1) := by decide +kernel
theorem d_Scav_placeInRoot_76 : decode prog_6_method_25_code 76 = .ok (.aload_n 0, 1) := by decide +kernel
theorem d_Scav_placeInRoot_77 : decode prog_6_method_25_code 77 = .ok (.getfield 29, 3) := by decide +kernel
theorem d_Scav_placeInRoot_80 : decode prog_6_method_25_code 80 = .ok (.invokevirtual 102, 3) := by decide +kernel
theorem d_Scav_placeInRoot_83 : decode prog_6_method_25_code 83 = .ok (.istore_n 2, 1) := by decide +kernel
theorem d_Scav_placeInRoot_84 : decode prog_6_method_25_code 84 = .ok (.iload_n 2, 1) := by decide +kernel
theorem d_Scav_placeInRoot_85 : decode prog_6_method_25_code 85 = .ok (.iconst (-1), 1) := by decide +kernel
theorem d_Scav_placeInRoot_86 : decode prog_6_method_25_code 86 = .ok (.if_icmp .ne (5), 3) := by decide +kernel
theorem d_Scav_placeInRoot_89 : decode prog_6_method_25_code 89 = .ok (.iconst (-1), 1) := by decide +kernel
theorem d_Scav_placeInRoot_90 : decode prog_6_method_25_code 90 = .ok (.ireturn, 1) := by decide +kernel
theorem d_Scav_placeInRoot_91 : decode prog_6_method_25_code 91 = .ok (.aload_n 0, 1) := by decide +kernel
theorem d_Scav_placeInRoot_92 : decode prog_6_method_25_code 92 = .ok (.getfield 29, 3) := by decide +kernel
theorem d_Scav_placeInRoot_95 : decode prog_6_method_25_code 95 = .ok (.iload_n 1, 1) := by decide +kernel
theorem d_Scav_placeInRoot_96 : decode prog_6_method_25_code 96 = .ok (.iload_n 2, 1) := by decide +kernel
theorem d_Scav_placeInRoot_97 : decode prog_6_method_25_code 97 = .ok (.iconst 4, 1) := by decide +kernel
theorem d_Scav_placeInRoot_98 : decode prog_6_method_25_code 98 = .ok (.invokevirtual 115, 3) := by decide +kernel
theorem d_Scav_placeInRoot_101 : decode prog_6_method_25_code 101 = .ok (.iload_n 2, 1) := by decide +kernel
theorem d_Scav_placeInRoot_102 : decode prog_6_method_25_code 102 = .ok (.bipush (8), 2) := by decide +kernel
theorem d_Scav_placeInRoot_104 : decode prog_6_method_25_code 104 = .ok (.imul, 1) := by decide +kernel
theorem d_Scav_placeInRoot_105 : decode prog_6_method_25_code 105 = .ok (.ireturn, 1) := by decide +kernel
theorem d_Scav_lastKept_0 : decode prog_6_method_26_code 0 = .ok (.aload_n 0, 1) := by decide +kernel
theorem d_Scav_lastKept_1 : decode prog_6_method_26_code 1 = .ok (.getfield 29, 3) := by decide +kernel
theorem d_Scav_lastKept_4 : decode prog_6_method_26_code 4 = .ok (.iload_n 1, 1) := by decide +kernel
theorem d_Scav_lastKept_5 : decode prog_6_method_26_code 5 = .ok (.iconst 0, 1) := by decide +kernel
theorem d_Scav_lastKept_6 : decode prog_6_method_26_code 6 = .ok (.invokevirtual 68, 3) := by decide +kernel
theorem d_Scav_lastKept_9 : decode prog_6_method_26_code 9 = .ok (.istore_n 2, 1) := by decide +kernel
theorem d_Scav_lastKept_10 : decode prog_6_method_26_code 10 = .ok (.iconst 1, 1) := by decide +kernel
theorem d_Scav_lastKept_11 : decode prog_6_method_26_code 11 = .ok (.istore_n 3, 1) := by decide +kernel
theorem d_Scav_lastKept_12 : decode prog_6_method_26_code 12 = .ok (.iload_n 3, 1) := by decide +kernel
theorem d_Scav_lastKept_13 : decode prog_6_method_26_code 13 = .ok (.bipush (40), 2) := by decide +kernel
theorem d_Scav_lastKept_15 : decode prog_6_method_26_code 15 = .ok (.if_icmp .ge (31), 3) := by decide +kernel
theorem d_Scav_lastKept_18 : decode prog_6_method_26_code 18 = .ok (.aload_n 0, 1) := by decide +kernel
theorem d_Scav_lastKept_19 : decode prog_6_method_26_code 19 = .ok (.getfield 29, 3) := by decide +kernel
theorem d_Scav_lastKept_22 : decode prog_6_method_26_code 22 = .ok (.iload_n 1, 1) := by decide +kernel
theorem d_Scav_lastKept_23 : decode prog_6_method_26_code 23 = .ok (.iload_n 3, 1) := by decide +kernel
theorem d_Scav_lastKept_24 : decode prog_6_method_26_code 24 = .ok (.invokevirtual 68, 3) := by decide +kernel
theorem d_Scav_lastKept_27 : decode prog_6_method_26_code 27 = .ok (.istore 4, 2) := by decide +kernel
theorem d_Scav_lastKept_29 : decode prog_6_method_26_code 29 = .ok (.iload 4, 2) := by decide +kernel
theorem d_Scav_lastKept_31 : decode prog_6_method_26_code 31 = .ok (.iconst (-1), 1) := by decide +kernel
theorem d_Scav_lastKept_32 : decode prog_6_method_26_code 32 = .ok (.if_icmp .ne (5), 3) := by decide +kernel
theorem d_Scav_lastKept_35 : decode prog_6_method_26_code 35 = .ok (.iload_n 2, 1) := by decide +kernel
theorem d_Scav_lastKept_36 : decode prog_6_method_26_code 36 = .ok (.ireturn, 1) := by decide +kernel
theorem d_Scav_lastKept_37 : decode prog_6_method_26_code 37 = .ok (.iload 4, 2) := by decide +kernel
theorem d_Scav_lastKept_39 : decode prog_6_method_26_code 39 = .ok (.istore_n 2, 1) := by decide +kernel
theorem d_Scav_lastKept_40 : decode prog_6_method_26_code 40 = .ok (.iinc 3 (1), 3) := by decide +kernel
theorem d_Scav_lastKept_43 : decode prog_6_method_26_code 43 = .ok (.goto (-31), 3) := by decide +kernel
theorem d_Scav_lastKept_46 : decode prog_6_method_26_code 46 = .ok (.iload_n 2, 1) := by decide +kernel
theorem d_Scav_lastKept_47 : decode prog_6_method_26_code 47 = .ok (.ireturn, 1) := by decide +kernel
theorem d_Scav_putRight_0 : decode prog_6_method_27_code 0 = .ok (.iconst 1, 1) := by decide +kernel
theorem d_Scav_putRight_1 : decode prog_6_method_27_code 1 = .ok (.istore_n 1, 1) := by decide +kernel
theorem d_Scav_putRight_2 : decode prog_6_method_27_code 2 = .ok (.iload_n 1, 1) := by decide +kernel
theorem d_Scav_putRight_3 : decode prog_6_method_27_code 3 = .ok (.bipush (60), 2) := by decide +kernel
theorem d_Scav_putRight_5 : decode prog_6_method_27_code 5 = .ok (.if_icmp .gt (14), 3) := by decide +kernel
theorem d_Scav_putRight_8 : decode prog_6_method_27_code 8 = .ok (.aload_n 0, 1) := by decide +kernel
theorem d_Scav_putRight_9 : decode prog_6_method_27_code 9 = .ok (.iload_n 1, 1) := by decide +kernel
theorem d_Scav_putRight_10 : decode prog_6_method_27_code 10 = .ok (.invokevirtual 172, 3) := by decide +kernel
theorem d_Scav_putRight_13 : decode prog_6_method_27_code 13 = .ok (.iinc 1 (1), 3) := by decide +kernel
theorem d_Scav_putRight_16 : decode prog_6_method_27_code 16 = .ok (.goto (-14), 3) := by decide +kernel
theorem d_Scav_putRight_19 : decode prog_6_method_27_code 19 = .ok (.aload_n 0, 1) := by decide +kernel
theorem d_Scav_putRight_20 : decode prog_6_method_27_code 20 = .ok (.getfield 29, 3) := by decide +kernel
theorem d_Scav_putRight_23 : decode prog_6_method_27_code 23 = .ok (.iconst 2, 1) := by decide +kernel
theorem d_Scav_putRight_24 : decode prog_6_method_27_code 24 = .ok (.iconst 1, 1) := by decide +kernel
theorem d_Scav_putRight_25 : decode prog_6_method_27_code 25 = .ok (.invokevirtual 68, 3) := by decide +kernel
theorem d_Scav_putRight_28 : decode prog_6_method_27_code 28 = .ok (.istore_n 1, 1) := by decide +kernel
theorem d_Scav_putRight_29 : decode prog_6_method_27_code 29 = .ok (.iload_n 1, 1) := by decide +kernel
theorem d_Scav_putRight_30 : decode prog_6_method_27_code 30 = .ok (.iconst (-1), 1) := by decide +kernel
theorem d_Scav_putRight_31 : decode prog_6_method_27_code 31 = .ok (.if_icmp .eq (21), 3) := by decide +kernel
theorem d_Scav_putRight_34 : decode prog_6_method_27_code 34 = .ok (.aload_n 0, 1) := by decide +kernel
theorem d_Scav_putRight_35 : decode prog_6_method_27_code 35 = .ok (.getfield 29, 3) := by decide +kernel
theorem d_Scav_putRight_38 : decode prog_6_method_27_code 38 = .ok (.iload_n 1, 1) := by decide +kernel
theorem d_Scav_putRight_39 : decode prog_6_method_27_code 39 = .ok (.iconst 2, 1) := by decide +kernel
theorem d_Scav_putRight_40 : decode prog_6_method_27_code 40 = .ok (.iconst 5, 1) := by decide +kernel
theorem d_Scav_putRight_41 : decode prog_6_method_27_code 41 = .ok (.invokevirtual 169, 3) := by decide +kernel
theorem d_Scav_putRight_44 : decode prog_6_method_27_code 44 = .ok (.aload_n 0, 1) := by decide +kernel
theorem d_Scav_putRight_45 : decode prog_6_method_27_code 45 = .ok (.getfield 29, 3) := by decide +kernel
theorem d_Scav_putRight_48 : decode prog_6_method_27_code 48 = .ok (.iload_n 1, 1) := by decide +kernel
theorem d_Scav_putRight_49 : decode prog_6_method_27_code 49 = .ok (.invokevirtual 175, 3) := by decide +kernel
theorem d_Scav_putRight_52 : decode prog_6_method_27_code 52 = .ok (.return_, 1) := by decide +kernel
theorem d_Scav_putLinksRight_0 : decode prog_6_method_28_code 0 = .ok (.iconst (-1), 1) := by decide +kernel
theorem d_Scav_putLinksRight_1 : decode prog_6_method_28_code 1 = .ok (.istore_n 2, 1) := by decide +kernel
theorem d_Scav_putLinksRight_2 : decode prog_6_method_28_code 2 = .ok (.iconst 0, 1) := by decide +kernel
theorem d_Scav_putLinksRight_3 : decode prog_6_method_28_code 3 = .ok (.istore_n 3, 1) := by decide +kernel
theorem d_Scav_putLinksRight_4 : decode prog_6_method_28_code 4 = .ok (.iload_n 3, 1) := by decide +kernel
theorem d_Scav_putLinksRight_5 : decode prog_6_method_28_code 5 = .ok (.bipush (40), 2) := by decide +kernel
theorem d_Scav_putLinksRight_7 : decode prog_6_method_28_code 7 = .ok (.if_icmp .ge (65), 3) := by decide +kernel
theorem d_Scav_putLinksRight_10 : decode prog_6_method_28_code 10 = .ok (.aload_n 0, 1) := by decide +kernel
theorem d_Scav_putLinksRight_11 : decode prog_6_method_28_code 11 = .ok (.getfield 29, 3) := by decide +kernel
theorem d_Scav_putLinksRight_14 : decode prog_6_method_28_code 14 = .ok (.iload_n 1, 1) := by decide +kernel
theorem d_Scav_putLinksRight_15 : decode prog_6_method_28_code 15 = .ok (.iload_n 3, 1) := by decide +kernel
theorem d_Scav_putLinksRight_16 : decode prog_6_method_28_code 16 = .ok (.invokevirtual 68, 3) := by decide +kernel
theorem d_Scav_putLinksRight_19 : decode prog_6_method_28_code 19 = .ok (.istore 4, 2) := by decide +kernel
theorem d_Scav_putLinksRight_21 : decode prog_6_method_28_code 21 = .ok (.iload 4, 2) := by decide +kernel
theorem d_Scav_putLinksRight_23 : decode prog_6_method_28_code 23 = .ok (.iconst (-1), 1) := by decide +kernel
theorem d_Scav_putLinksRight_24 : decode prog_6_method_28_code 24 = .ok (.if_icmp .ne (6), 3) := by decide +kernel
theorem d_Scav_putLinksRight_27 : decode prog_6_method_28_code 27 = .ok (.goto (45), 3) := by decide +kernel
theorem d_Scav_putLinksRight_30 : decode prog_6_method_28_code 30 = .ok (.aload_n 0, 1) := by decide +kernel
theorem d_Scav_putLinksRight_31 : decode prog_6_method_28_code 31 = .ok (.getfield 29, 3) := by decide +kernel
theorem d_Scav_putLinksRight_34 : decode prog_6_method_28_code 34 = .ok (.iload_n 2, 1) := by decide +kernel
theorem d_Scav_putLinksRight_35 : decode prog_6_method_28_code 35 = .ok (.iconst 3, 1) := by decide +kernel
theorem d_Scav_putLinksRight_36 : decode prog_6_method_28_code 36 = .ok (.iload 4, 2) := by decide +kernel
theorem d_Scav_putLinksRight_38 : decode prog_6_method_28_code 38 = .ok (.invokevirtual 169, 3) := by decide +kernel
theorem d_Scav_putLinksRight_41 : decode prog_6_method_28_code 41 = .ok (.aload_n 0, 1) := by decide +kernel
theorem d_Scav_putLinksRight_42 : decode prog_6_method_28_code 42 = .ok (.getfield 29, 3) := by decide +kernel
theorem d_Scav_putLinksRight_45 : decode prog_6_method_28_code 45 = .ok (.iload 4, 2) := by decide +kernel
theorem d_Scav_putLinksRight_47 : decode prog_6_method_28_code 47 = .ok (.iconst 4, 1) := by decide +kernel
theorem d_Scav_putLinksRight_48 : decode prog_6_method_28_code 48 = .ok (.iload_n 2, 1) := by decide +kernel
theorem d_Scav_putLinksRight_49 : decode prog_6_method_28_code 49 = .ok (.invokevirtual 169, 3) := by decide +kernel
theorem d_Scav_putLinksRight_52 : decode prog_6_method_28_code 52 = .ok (.aload_n 0, 1) := by decide +kernel
theorem d_Scav_putLinksRight_53 : decode prog_6_method_28_code 53 = .ok (.getfield 29, 3) := by decide +kernel
theorem d_Scav_putLinksRight_56 : decode prog_6_method_28_code 56 = .ok (.iload 4, 2) := by decide +kernel
theorem d_Scav_putLinksRight_58 : decode prog_6_method_28_code 58 = .ok (.iconst 3, 1) := by decide +kernel
theorem d_Scav_putLinksRight_59 : decode prog_6_method_28_code 59 = .ok (.iconst (-1), 1) := by decide +kernel
theorem d_Scav_putLinksRight_60 : decode prog_6_method_28_code 60 = .ok (.invokevirtual 169, 3) := by decide +kernel
theorem d_Scav_putLinksRight_63 : decode prog_6_method_28_code 63 = .ok (.iload 4, 2) := by decide +kernel
theorem d_Scav_putLinksRight_65 : decode prog_6_method_28_code 65 = .ok (.istore_n 2, 1) := by decide +kernel
theorem d_Scav_putLinksRight_66 : decode prog_6_method_28_code 66 = .ok (.iinc 3 (1), 3) := by decide +kernel
theorem d_Scav_putLinksRight_69 : decode prog_6_method_28_code 69 = .ok (.goto (-65), 3) := by decide +kernel
theorem d_Scav_putLinksRight_72 : decode prog_6_method_28_code 72 = .ok (.aload_n 0, 1) := by decide +kernel
theorem d_Scav_putLinksRight_73 : decode prog_6_method_28_code 73 = .ok (.getfield 29, 3) := by decide +kernel
theorem d_Scav_putLinksRight_76 : decode prog_6_method_28_code 76 = .ok (.aload_n 0, 1) := by decide +kernel
theorem d_Scav_putLinksRight_77 : decode prog_6_method_28_code 77 = .ok (.getfield 29, 3) := by decide +kernel
theorem d_Scav_putLinksRight_80 : decode prog_6_method_28_code 80 = .ok (.iload_n 1, 1) := by decide +kernel
theorem d_Scav_putLinksRight_81 : decode prog_6_method_28_code 81 = .ok (.iconst 0, 1) := by decide +kernel
theorem d_Scav_putLinksRight_82 : decode prog_6_method_28_code 82 = .ok (.invokevirtual 68, 3) := by decide +kernel
theorem d_Scav_putLinksRight_85 : decode prog_6_method_28_code 85 = .ok (.iconst 3, 1) := by decide +kernel
theorem d_Scav_putLinksRight_86 : decode prog_6_method_28_code 86 = .ok (.iload_n 2, 1) := by decide +kernel
theorem d_Scav_putLinksRight_87 : decode prog_6_method_28_code 87 = .ok (.invokevirtual 112, 3) := by decide +kernel
theorem d_Scav_putLinksRight_90 : decode prog_6_method_28_code 90 = .ok (.return_, 1) := by decide +kernel
