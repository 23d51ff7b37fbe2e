theorem d_Mod_shortened_0 : decode prog_8_method_38_code 0 = .ok (.iload_n 3, 1) := by decide +kernel
theorem d_Mod_shortened_1 : decode prog_8_method_38_code 1 = .ok (.bipush (7), 2) := by decide +kernel
theorem d_Mod_shortened_3 : decode prog_8_method_38_code 3 = .ok (.iadd, 1) := by decide +kernel
theorem d_Mod_shortened_4 : decode prog_8_method_38_code 4 = .ok (.bipush (8), 2) := by decide +kernel
theorem d_Mod_shortened_6 : decode prog_8_method_38_code 6 = .ok (.idiv, 1) := by decide +kernel
theorem d_Mod_shortened_7 : decode prog_8_method_38_code 7 = .ok (.istore 4, 2) := by decide +kernel
theorem d_Mod_shortened_9 : decode prog_8_method_38_code 9 = .ok (.aload_n 0, 1) := by decide +kernel
theorem d_Mod_shortened_10 : decode prog_8_method_38_code 10 = .ok (.iload_n 2, 1) := by decide +kernel
theorem d_Mod_shortened_11 : decode prog_8_method_38_code 11 = .ok (.iload 4, 2) := by decide +kernel
theorem d_Mod_shortened_13 : decode prog_8_method_38_code 13 = .ok (.invokevirtual 201, 3) := by decide +kernel
theorem d_Mod_shortened_16 : decode prog_8_method_38_code 16 = .ok (.istore 5, 2) := by decide +kernel
theorem d_Mod_shortened_18 : decode prog_8_method_38_code 18 = .ok (.iload 5, 2) := by decide +kernel
theorem d_Mod_shortened_20 : decode prog_8_method_38_code 20 = .ok (.ifCond .ge (4), 3) := by decide +kernel
theorem d_Mod_shortened_23 : decode prog_8_method_38_code 23 = .ok (.return_, 1) := by decide +kernel
theorem d_Mod_shortened_24 : decode prog_8_method_38_code 24 = .ok (.aload_n 0, 1) := by decide +kernel
theorem d_Mod_shortened_25 : decode prog_8_method_38_code 25 = .ok (.getfield 198, 3) := by decide +kernel
theorem d_Mod_shortened_28 : decode prog_8_method_38_code 28 = .ok (.ifCond .le (7), 3) := by decide +kernel
theorem d_Mod_shortened_31 : decode prog_8_method_38_code 31 = .ok (.aload_n 0, 1) := by decide +kernel
theorem d_Mod_shortened_32 : decode prog_8_method_38_code 32 = .ok (.invokevirtual 135, 3) := by decide +kernel
theorem d_Mod_shortened_35 : decode prog_8_method_38_code 35 = .ok (.iconst 0, 1) := by decide +kernel
theorem d_Mod_shortened_36 : decode prog_8_method_38_code 36 = .ok (.istore 6, 2) := by decide +kernel
theorem d_Mod_shortened_38 : decode prog_8_method_38_code 38 = .ok (.iload 6, 2) := by decide +kernel
theorem d_Mod_shortened_40 : decode prog_8_method_38_code 40 = .ok (.aload_n 0, 1) := by decide +kernel
theorem d_Mod_shortened_41 : decode prog_8_method_38_code 41 = .ok (.getfield 198, 3) := by decide +kernel
theorem d_Mod_shortened_44 : decode prog_8_method_38_code 44 = .ok (.if_icmp .ge (20), 3) := by decide +kernel
theorem d_Mod_shortened_47 : decode prog_8_method_38_code 47 = .ok (.aload_n 0, 1) := by decide +kernel
theorem d_Mod_shortened_48 : decode prog_8_method_38_code 48 = .ok (.aload_n 0, 1) := by decide +kernel
theorem d_Mod_shortened_49 : decode prog_8_method_38_code 49 = .ok (.getfield 45, 3) := by decide +kernel
theorem d_Mod_shortened_52 : decode prog_8_method_38_code 52 = .ok (.iload 6, 2) := by decide +kernel
theorem d_Mod_shortened_54 : decode prog_8_method_38_code 54 = .ok (.iaload, 1) := by decide +kernel
theorem d_Mod_shortened_55 : decode prog_8_method_38_code 55 = .ok (.invokevirtual 204, 3) := by decide +kernel
theorem d_Mod_shortened_58 : decode prog_8_method_38_code 58 = .ok (.iinc 6 (1), 3) := by decide +kernel
theorem d_Mod_shortened_61 : decode prog_8_method_38_code 61 = .ok (.goto (-23), 3) := by decide +kernel
theorem d_Mod_shortened_64 : decode prog_8_method_38_code 64 = .ok (.aload_n 0, 1) := by decide +kernel
theorem d_Mod_shortened_65 : decode prog_8_method_38_code 65 = .ok (.invokevirtual 122, 3) := by decide +kernel
theorem d_Mod_shortened_68 : decode prog_8_method_38_code 68 = .ok (.ifCond .eq (91), 3) := by decide +kernel
theorem d_Mod_shortened_71 : decode prog_8_method_38_code 71 = .ok (.aload_n 0, 1) := by decide +kernel
theorem d_Mod_shortened_72 : decode prog_8_method_38_code 72 = .ok (.getfield 19, 3) := by decide +kernel
theorem d_Mod_shortened_75 : decode prog_8_method_38_code 75 = .ok (.iload 5, 2) := by decide +kernel
theorem d_Mod_shortened_77 : decode prog_8_method_38_code 77 = .ok (.iconst (-1), 1) := by decide +kernel
theorem d_Mod_shortened_78 : decode prog_8_method_38_code 78 = .ok (.iastore, 1) := by decide +kernel
theorem d_Mod_shortened_79 : decode prog_8_method_38_code 79 = .ok (.iload 4, 2) := by decide +kernel
theorem d_Mod_shortened_81 : decode prog_8_method_38_code 81 = .ok (.ifCond .le (19), 3) := by decide +kernel
theorem d_Mod_shortened_84 : decode prog_8_method_38_code 84 = .ok (.aload_n 0, 1) := by decide +kernel
theorem d_Mod_shortened_85 : decode prog_8_method_38_code 85 = .ok (.getfield 16, 3) := by decide +kernel
theorem d_Mod_shortened_88 : decode prog_8_method_38_code 88 = .ok (.iload 5, 2) := by decide +kernel
theorem d_Mod_shortened_90 : decode prog_8_method_38_code 90 = .ok (.iload_n 3, 1) := by decide +kernel
theorem d_Mod_shortened_91 : decode prog_8_method_38_code 91 = .ok (.bipush (8), 2) := by decide +kernel
theorem d_Mod_shortened_93 : decode prog_8_method_38_code 93 = .ok (.iload 4, 2) := by decide +kernel
theorem d_Mod_shortened_95 : decode prog_8_method_38_code 95 = .ok (.iconst 1, 1) := by decide +kernel
theorem d_Mod_shortened_96 : decode prog_8_method_38_code 96 = .ok (.isub, 1) := by decide +kernel
theorem d_Mod_shortened_97 : decode prog_8_method_38_code 97 = .ok (.imul, 1) := by decide +kernel
theorem d_Mod_shortened_98 : decode prog_8_method_38_code 98 = .ok (.isub, 1) := by decide +kernel
theorem d_Mod_shortened_99 : decode prog_8_method_38_code 99 = .ok (.iastore, 1) := by decide +kernel
theorem d_Mod_shortened_100 : decode prog_8_method_38_code 100 = .ok (.aload_n 0, 1) := by decide +kernel
theorem d_Mod_shortened_101 : decode prog_8_method_38_code 101 = .ok (.getfield 16, 3) := by decide +kernel
theorem d_Mod_shortened_104 : decode prog_8_method_38_code 104 = .ok (.iload 5, 2) := by decide +kernel
theorem d_Mod_shortened_106 : decode prog_8_method_38_code 106 = .ok (.iaload, 1) := by decide +kernel
theorem d_Mod_shortened_107 : decode prog_8_method_38_code 107 = .ok (.istore 6, 2) := by decide +kernel
theorem d_Mod_shortened_109 : decode prog_8_method_38_code 109 = .ok (.iload 6, 2) := by decide +kernel
theorem d_Mod_shortened_111 : decode prog_8_method_38_code 111 = .ok (.bipush (8), 2) := by decide +kernel
theorem d_Mod_shortened_113 : decode prog_8_method_38_code 113 = .ok (.if_icmp .ge (28), 3) := by decide +kernel
theorem d_Mod_shortened_116 : decode prog_8_method_38_code 116 = .ok (.iload 4, 2) := by decide +kernel
theorem d_Mod_shortened_118 : decode prog_8_method_38_code 118 = .ok (.ifCond .le (23), 3) := by decide +kernel
theorem d_Mod_shortened_121 : decode prog_8_method_38_code 121 = .ok (.aload_n 0, 1) := by decide +kernel
theorem d_Mod_shortened_122 : decode prog_8_method_38_code 122 = .ok (.getfield 25, 3) := by decide +kernel
theorem d_Mod_shortened_125 : decode prog_8_method_38_code 125 = .ok (.bipush (8), 2) := by decide +kernel
theorem d_Mod_shortened_127 : decode prog_8_method_38_code 127 = .ok (.iload 5, 2) := by decide +kernel
theorem d_Mod_shortened_129 : decode prog_8_method_38_code 129 = .ok (.imul, 1) := by decide +kernel
theorem d_Mod_shortened_130 : decode prog_8_method_38_code 130 = .ok (.iload 6, 2) := by decide +kernel
theorem d_Mod_shortened_132 : decode prog_8_method_38_code 132 = .ok (.iadd, 1) := by decide +kernel
theorem d_Mod_shortened_133 : decode prog_8_method_38_code 133 = .ok (.iconst 0, 1) := by decide +kernel
theorem d_Mod_shortened_134 : decode prog_8_method_38_code 134 = .ok (.iastore, 1) := by decide +kernel
theorem d_Mod_shortened_135 : decode prog_8_method_38_code 135 = .ok (.iinc 6 (1), 3) := by decide +kernel
theorem d_Mod_shortened_138 : decode prog_8_method_38_code 138 = .ok (.goto (-29), 3) := by decide +kernel
theorem d_Mod_shortened_141 : decode prog_8_method_38_code 141 = .ok (.iload 5, 2) := by decide +kernel
theorem d_Mod_shortened_143 : decode prog_8_method_38_code 143 = .ok (.iload_n 1, 1) := by decide +kernel
theorem d_Mod_shortened_144 : decode prog_8_method_38_code 144 = .ok (.if_icmp .ne (15), 3) := by decide +kernel
theorem d_Mod_shortened_147 : decode prog_8_method_38_code 147 = .ok (.aload_n 0, 1) := by decide +kernel
theorem d_Mod_shortened_148 : decode prog_8_method_38_code 148 = .ok (.getfield 25, 3) := by decide +kernel
theorem d_Mod_shortened_151 : decode prog_8_method_38_code 151 = .ok (.bipush (8), 2) := by decide +kernel
theorem d_Mod_shortened_153 : decode prog_8_method_38_code 153 = .ok (.iload_n 1, 1) := by decide +kernel
theorem d_Mod_shortened_154 : decode prog_8_method_38_code 154 = .ok (.imul, 1) := by decide +kernel
theorem d_Mod_shortened_155 : decode prog_8_method_38_code 155 = .ok (.iconst 3, 1) := by decide +kernel
theorem d_Mod_shortened_156 : decode prog_8_method_38_code 156 = .ok (.iadd, 1) := by decide +kernel
theorem d_Mod_shortened_157 : decode prog_8_method_38_code 157 = .ok (.iload_n 1, 1) := by decide +kernel
theorem d_Mod_shortened_158 : decode prog_8_method_38_code 158 = .ok (.iastore, 1) := by decide +kernel
theorem d_Mod_shortened_159 : decode prog_8_method_38_code 159 = .ok (.aload_n 0, 1) := by decide +kernel
theorem d_Mod_shortened_160 : decode prog_8_method_38_code 160 = .ok (.getfield 198, 3) := by decide +kernel
theorem d_Mod_shortened_163 : decode prog_8_method_38_code 163 = .ok (.ifCond .le (29), 3) := by decide +kernel
theorem d_Mod_shortened_166 : decode prog_8_method_38_code 166 = .ok (.iload 5, 2) := by decide +kernel
theorem d_Mod_shortened_168 : decode prog_8_method_38_code 168 = .ok (.iload_n 1, 1) := by decide +kernel
theorem d_Mod_shortened_169 : decode prog_8_method_38_code 169 = .ok (.if_icmp .eq (23), 3) := by decide +kernel
theorem d_Mod_shortened_172 : decode prog_8_method_38_code 172 = .ok (.aload_n 0, 1) := by decide +kernel
theorem d_Mod_shortened_173 : decode prog_8_method_38_code 173 = .ok (.invokevirtual 122, 3) := by decide +kernel
theorem d_Mod_shortened_176 : decode prog_8_method_38_code 176 = .ok (.ifCond .eq (16), 3) := by decide +kernel
theorem d_Mod_shortened_179 : decode prog_8_method_38_code 179 = .ok (.aload_n 0, 1) := by decide +kernel
theorem d_Mod_shortened_180 : decode prog_8_method_38_code 180 = .ok (.getfield 25, 3) := by decide +kernel
theorem d_Mod_shortened_183 : decode prog_8_method_38_code 183 = .ok (.bipush (8), 2) := by decide +kernel
theorem d_Mod_shortened_185 : decode prog_8_method_38_code 185 = .ok (.iload_n 1, 1) := by decide +kernel
theorem d_Mod_shortened_186 : decode prog_8_method_38_code 186 = .ok (.imul, 1) := by decide +kernel
theorem d_Mod_shortened_187 : decode prog_8_method_38_code 187 = .ok (.iconst 3, 1) := by decide +kernel
theorem d_Mod_shortened_188 : decode prog_8_method_38_code 188 = .ok (.iadd, 1) := by decide +kernel
theorem d_Mod_shortened_189 : decode prog_8_method_38_code 189 = .ok (.iload 5, 2) := by decide +kernel
theorem d_Mod_shortened_191 : decode prog_8_method_38_code 191 = .ok (.iastore, 1) := by decide +kernel
theorem d_Mod_shortened_192 : decode prog_8_method_38_code 192 = .ok (.aload_n 0, 1) := by decide +kernel
theorem d_Mod_shortened_193 : decode prog_8_method_38_code 193 = .ok (.getfield 198, 3) := by decide +kernel
theorem d_Mod_shortened_196 : decode prog_8_method_38_code 196 = .ok (.ifCond .le (7), 3) := by decide +kernel
theorem d_Mod_shortened_199 : decode prog_8_method_38_code 199 = .ok (.aload_n 0, 1) := by decide +kernel
theorem d_Mod_shortened_200 : decode prog_8_method_38_code 200 = .ok (.invokevirtual 162, 3) := by decide +kernel
theorem d_Mod_shortened_203 : decode prog_8_method_38_code 203 = .ok (.return_, 1) := by decide +kernel
theorem d_Mod_shorten_0 : decode prog_8_method_39_code 0 = .ok (.aload_n 0, 1) := by decide +kernel
theorem d_Mod_shorten_1 : decode prog_8_method_39_code 1 = .ok (.iload_n 1, 1) := by decide +kernel
theorem d_Mod_shorten_2 : decode prog_8_method_39_code 2 = .ok (.invokevirtual 165, 3) := by decide +kernel
theorem d_Mod_shorten_5 : decode prog_8_method_39_code 5 = .ok (.istore_n 3, 1) := by decide +kernel
theorem d_Mod_shorten_6 : decode prog_8_method_39_code 6 = .ok (.aload_n 0, 1) := by decide +kernel
theorem d_Mod_shorten_7 : decode prog_8_method_39_code 7 = .ok (.getfield 90, 3) := by decide +kernel
theorem d_Mod_shorten_10 : decode prog_8_method_39_code 10 = .ok (.ifCond .ne (30), 3) := by decide +kernel
theorem d_Mod_shorten_13 : decode prog_8_method_39_code 13 = .ok (.aload_n 0, 1) := by decide +kernel
theorem d_Mod_shorten_14 : decode prog_8_method_39_code 14 = .ok (.aload_n 0, 1) := by decide +kernel
theorem d_Mod_shorten_15 : decode prog_8_method_39_code 15 = .ok (.getfield 7, 3) := by decide +kernel
theorem d_Mod_shorten_18 : decode prog_8_method_39_code 18 = .ok (.iload_n 3, 1) := by decide +kernel
theorem d_Mod_shorten_19 : decode prog_8_method_39_code 19 = .ok (.iaload, 1) := by decide +kernel
theorem d_Mod_shorten_20 : decode prog_8_method_39_code 20 = .ok (.iconst 2, 1) := by decide +kernel
theorem d_Mod_shorten_21 : decode prog_8_method_39_code 21 = .ok (.if_icmp .eq (11), 3) := by decide +kernel
theorem d_Mod_shorten_24 : decode prog_8_method_39_code 24 = .ok (.aload_n 0, 1) := by decide +kernel
theorem d_Mod_shorten_25 : decode prog_8_method_39_code 25 = .ok (.iload_n 3, 1) := by decide +kernel
theorem d_Mod_shorten_26 : decode prog_8_method_39_code 26 = .ok (.invokevirtual 168, 3) := by decide +kernel
theorem d_Mod_shorten_29 : decode prog_8_method_39_code 29 = .ok (.ifCond .eq (7), 3) := by decide +kernel
theorem d_Mod_shorten_32 : decode prog_8_method_39_code 32 = .ok (.iconst 3, 1) := by decide +kernel
theorem d_Mod_shorten_33 : decode prog_8_method_39_code 33 = .ok (.goto (4), 3) := by decide +kernel
theorem d_Mod_shorten_36 : decode prog_8_method_39_code 36 = .ok (.iconst 0, 1) := by decide +kernel
theorem d_Mod_shorten_37 : decode prog_8_method_39_code 37 = .ok (.putfield 90, 3) := by decide +kernel
theorem d_Mod_shorten_40 : decode prog_8_method_39_code 40 = .ok (.aload_n 0, 1) := by decide +kernel
theorem d_Mod_shorten_41 : decode prog_8_method_39_code 41 = .ok (.getfield 90, 3) := by decide +kernel
theorem d_Mod_shorten_44 : decode prog_8_method_39_code 44 = .ok (.ifCond .ne (11), 3) := by decide +kernel
theorem d_Mod_shorten_47 : decode prog_8_method_39_code 47 = .ok (.aload_n 0, 1) := by decide +kernel
theorem d_Mod_shorten_48 : decode prog_8_method_39_code 48 = .ok (.iload_n 3, 1) := by decide +kernel
theorem d_Mod_shorten_49 : decode prog_8_method_39_code 49 = .ok (.invokevirtual 185, 3) := by decide +kernel
theorem d_Mod_shorten_52 : decode prog_8_method_39_code 52 = .ok (.goto (4), 3) := by decide +kernel
theorem d_Mod_shorten_55 : decode prog_8_method_39_code 55 = .ok (.iconst (-1), 1) := by decide +kernel
theorem d_Mod_shorten_56 : decode prog_8_method_39_code 56 = .ok (.istore 4, 2) := by decide +kernel
theorem d_Mod_shorten_58 : decode prog_8_method_39_code 58 = .ok (.iload 4, 2) := by decide +kernel
theorem d_Mod_shorten_60 : decode prog_8_method_39_code 60 = .ok (.ifCond .lt (51), 3) := by decide +kernel
theorem d_Mod_shorten_63 : decode prog_8_method_39_code 63 = .ok (.aload_n 0, 1) := by decide +kernel
theorem d_Mod_shorten_64 : decode prog_8_method_39_code 64 = .ok (.iload_n 2, 1) := by decide +kernel
theorem d_Mod_shorten_65 : decode prog_8_method_39_code 65 = .ok (.iconst 0, 1) := by decide +kernel
theorem d_Mod_shorten_66 : decode prog_8_method_39_code 66 = .ok (.aload_n 0, 1) := by decide +kernel
theorem d_Mod_shorten_67 : decode prog_8_method_39_code 67 = .ok (.iload 4, 2) := by decide +kernel
theorem d_Mod_shorten_69 : decode prog_8_method_39_code 69 = .ok (.invokevirtual 188, 3) := by decide +kernel
theorem d_Mod_shorten_72 : decode prog_8_method_39_code 72 = .ok (.invokestatic 73, 3) := by decide +kernel
theorem d_Mod_shorten_75 : decode prog_8_method_39_code 75 = .ok (.ifCond .eq (7), 3) := by decide +kernel
theorem d_Mod_shorten_78 : decode prog_8_method_39_code 78 = .ok (.iconst 0, 1) := by decide +kernel
theorem d_Mod_shorten_79 : decode prog_8_method_39_code 79 = .ok (.goto (4), 3) := by decide +kernel
theorem d_Mod_shorten_82 : decode prog_8_method_39_code 82 = .ok (.iconst 5, 1) := by decide +kernel
theorem d_Mod_shorten_83 : decode prog_8_method_39_code 83 = .ok (.putfield 90, 3) := by decide +kernel
theorem d_Mod_shorten_86 : decode prog_8_method_39_code 86 = .ok (.aload_n 0, 1) := by decide +kernel
theorem d_Mod_shorten_87 : decode prog_8_method_39_code 87 = .ok (.getfield 90, 3) := by decide +kernel
theorem d_Mod_shorten_90 : decode prog_8_method_39_code 90 = .ok (.ifCond .ne (21), 3) := by decide +kernel
theorem d_Mod_shorten_93 : decode prog_8_method_39_code 93 = .ok (.iload_n 2, 1) := by decide +kernel
theorem d_Mod_shorten_94 : decode prog_8_method_39_code 94 = .ok (.aload_n 0, 1) := by decide +kernel
theorem d_Mod_shorten_95 : decode prog_8_method_39_code 95 = .ok (.iload 4, 2) := by decide +kernel
theorem d_Mod_shorten_97 : decode prog_8_method_39_code 97 = .ok (.invokevirtual 188, 3) := by decide +kernel
theorem d_Mod_shorten_100 : decode prog_8_method_39_code 100 = .ok (.if_icmp .ge (11), 3) := by decide +kernel
theorem d_Mod_shorten_103 : decode prog_8_method_39_code 103 = .ok (.aload_n 0, 1) := by decide +kernel
theorem d_Mod_shorten_104 : decode prog_8_method_39_code 104 = .ok (.iload_n 3, 1) := by decide +kernel
theorem d_Mod_shorten_105 : decode prog_8_method_39_code 105 = .ok (.iload 4, 2) := by decide +kernel
theorem d_Mod_shorten_107 : decode prog_8_method_39_code 107 = .ok (.iload_n 2, 1) := by decide +kernel
theorem d_Mod_shorten_108 : decode prog_8_method_39_code 108 = .ok (.invokevirtual 207, 3) := by decide +kernel
theorem d_Mod_shorten_111 : decode prog_8_method_39_code 111 = .ok (.aload_n 0, 1) := by decide +kernel
theorem d_Mod_shorten_112 : decode prog_8_method_39_code 112 = .ok (.iconst 0, 1) := by decide +kernel
theorem d_Mod_shorten_113 : decode prog_8_method_39_code 113 = .ok (.iconst 1, 1) := by decide +kernel
theorem d_Mod_shorten_114 : decode prog_8_method_39_code 114 = .ok (.iconst 2, 1) := by decide +kernel
theorem d_Mod_shorten_115 : decode prog_8_method_39_code 115 = .ok (.iconst 3, 1) := by decide +kernel
theorem d_Mod_shorten_116 : decode prog_8_method_39_code 116 = .ok (.iconst 4, 1) := by decide +kernel
theorem d_Mod_shorten_117 : decode prog_8_method_39_code 117 = .ok (.iconst 5, 1) := by decide +kernel
theorem d_Mod_shorten_118 : decode prog_8_method_39_code 118 = .ok (.invokevirtual 178, 3) := by decide +kernel
theorem d_Mod_shorten_121 : decode prog_8_method_39_code 121 = .ok (.istore 5, 2) := by decide +kernel
theorem d_Mod_shorten_123 : decode prog_8_method_39_code 123 = .ok (.return_, 1) := by decide +kernel
theorem d_Mod_removed_0 : decode prog_8_method_40_code 0 = .ok (.aload_n 0, 1) := by decide +kernel
theorem d_Mod_removed_1 : decode prog_8_method_40_code 1 = .ok (.iload_n 1, 1) := by decide +kernel
theorem d_Mod_removed_2 : decode prog_8_method_40_code 2 = .ok (.invokevirtual 168, 3) := by decide +kernel
theorem d_Mod_removed_5 : decode prog_8_method_40_code 5 = .ok (.ifCond .eq (31), 3) := by decide +kernel
theorem d_Mod_removed_8 : decode prog_8_method_40_code 8 = .ok (.aload_n 0, 1) := by decide +kernel
theorem d_Mod_removed_9 : decode prog_8_method_40_code 9 = .ok (.iload_n 1, 1) := by decide +kernel
theorem d_Mod_removed_10 : decode prog_8_method_40_code 10 = .ok (.iconst 2, 1) := by decide +kernel
theorem d_Mod_removed_11 : decode prog_8_method_40_code 11 = .ok (.iconst 0, 1) := by decide +kernel
theorem d_Mod_removed_12 : decode prog_8_method_40_code 12 = .ok (.invokevirtual 171, 3) := by decide +kernel
theorem d_Mod_removed_15 : decode prog_8_method_40_code 15 = .ok (.ifCond .ne (5), 3) := by decide +kernel
theorem d_Mod_removed_18 : decode prog_8_method_40_code 18 = .ok (.iconst 0, 1) := by decide +kernel
theorem d_Mod_removed_19 : decode prog_8_method_40_code 19 = .ok (.ireturn, 1) := by decide +kernel
theorem d_Mod_removed_20 : decode prog_8_method_40_code 20 = .ok (.aload_n 0, 1) := by decide +kernel
theorem d_Mod_removed_21 : decode prog_8_method_40_code 21 = .ok (.aload_n 0, 1) := by decide +kernel
theorem d_Mod_removed_22 : decode prog_8_method_40_code 22 = .ok (.getfield 96, 3) := by decide +kernel
theorem d_Mod_removed_25 : decode prog_8_method_40_code 25 = .ok (.ifCond .lt (7), 3) := by decide +kernel
theorem d_Mod_removed_28 : decode prog_8_method_40_code 28 = .ok (.iconst 4, 1) := by decide +kernel
theorem d_Mod_removed_29 : decode prog_8_method_40_code 29 = .ok (.goto (4), 3) := by decide +kernel
theorem d_Mod_removed_32 : decode prog_8_method_40_code 32 = .ok (.iconst 0, 1) := by decide +kernel
theorem d_Mod_removed_33 : decode prog_8_method_40_code 33 = .ok (.putfield 90, 3) := by decide +kernel
theorem d_Mod_removed_36 : decode prog_8_method_40_code 36 = .ok (.aload_n 0, 1) := by decide +kernel
theorem d_Mod_removed_37 : decode prog_8_method_40_code 37 = .ok (.getfield 90, 3) := by decide +kernel
theorem d_Mod_removed_40 : decode prog_8_method_40_code 40 = .ok (.ifCond .ne (11), 3) := by decide +kernel
theorem d_Mod_removed_43 : decode prog_8_method_40_code 43 = .ok (.aload_n 0, 1) := by decide +kernel
theorem d_Mod_removed_44 : decode prog_8_method_40_code 44 = .ok (.iload_n 1, 1) := by decide +kernel
theorem d_Mod_removed_45 : decode prog_8_method_40_code 45 = .ok (.invokevirtual 185, 3) := by decide +kernel
theorem d_Mod_removed_48 : decode prog_8_method_40_code 48 = .ok (.goto (4), 3) := by decide +kernel
theorem d_Mod_removed_51 : decode prog_8_method_40_code 51 = .ok (.iconst (-1), 1) := by decide +kernel
theorem d_Mod_removed_52 : decode prog_8_method_40_code 52 = .ok (.istore_n 3, 1) := by decide +kernel
theorem d_Mod_removed_53 : decode prog_8_method_40_code 53 = .ok (.iload_n 3, 1) := by decide +kernel
theorem d_Mod_removed_54 : decode prog_8_method_40_code 54 = .ok (.ifCond .ge (5), 3) := by decide +kernel
theorem d_Mod_removed_57 : decode prog_8_method_40_code 57 = .ok (.iconst 0, 1) := by decide +kernel
theorem d_Mod_removed_58 : decode prog_8_method_40_code 58 = .ok (.ireturn, 1) := by decide +kernel
theorem d_Mod_removed_59 : decode prog_8_method_40_code 59 = .ok (.aload_n 0, 1) := by decide +kernel
theorem d_Mod_removed_60 : decode prog_8_method_40_code 60 = .ok (.getfield 13, 3) := by decide +kernel
theorem d_Mod_removed_63 : decode prog_8_method_40_code 63 = .ok (.iload_n 3, 1) := by decide +kernel
theorem d_Mod_removed_64 : decode prog_8_method_40_code 64 = .ok (.iaload, 1) := by decide +kernel
theorem d_Mod_removed_65 : decode prog_8_method_40_code 65 = .ok (.ifCond .le (12), 3) := by decide +kernel
theorem d_Mod_removed_68 : decode prog_8_method_40_code 68 = .ok (.aload_n 0, 1) := by decide +kernel
theorem d_Mod_removed_69 : decode prog_8_method_40_code 69 = .ok (.iload_n 3, 1) := by decide +kernel
theorem d_Mod_removed_70 : decode prog_8_method_40_code 70 = .ok (.iconst 1, 1) := by decide +kernel
theorem d_Mod_removed_71 : decode prog_8_method_40_code 71 = .ok (.invokevirtual 201, 3) := by decide +kernel
theorem d_Mod_removed_74 : decode prog_8_method_40_code 74 = .ok (.goto (4), 3) := by decide +kernel
theorem d_Mod_removed_77 : decode prog_8_method_40_code 77 = .ok (.iconst (-1), 1) := by decide +kernel
theorem d_Mod_removed_78 : decode prog_8_method_40_code 78 = .ok (.istore 4, 2) := by decide +kernel
theorem d_Mod_removed_80 : decode prog_8_method_40_code 80 = .ok (.aload_n 0, 1) := by decide +kernel
theorem d_Mod_removed_81 : decode prog_8_method_40_code 81 = .ok (.getfield 13, 3) := by decide +kernel
theorem d_Mod_removed_84 : decode prog_8_method_40_code 84 = .ok (.iload_n 3, 1) := by decide +kernel
theorem d_Mod_removed_85 : decode prog_8_method_40_code 85 = .ok (.iaload, 1) := by decide +kernel
theorem d_Mod_removed_86 : decode prog_8_method_40_code 86 = .ok (.ifCond .le (10), 3) := by decide +kernel
theorem d_Mod_removed_89 : decode prog_8_method_40_code 89 = .ok (.iload 4, 2) := by decide +kernel
theorem d_Mod_removed_91 : decode prog_8_method_40_code 91 = .ok (.ifCond .ge (5), 3) := by decide +kernel
theorem d_Mod_removed_94 : decode prog_8_method_40_code 94 = .ok (.iconst 0, 1) := by decide +kernel
theorem d_Mod_removed_95 : decode prog_8_method_40_code 95 = .ok (.ireturn, 1) := by decide +kernel
theorem d_Mod_removed_96 : decode prog_8_method_40_code 96 = .ok (.aload_n 0, 1) := by decide +kernel
theorem d_Mod_removed_97 : decode prog_8_method_40_code 97 = .ok (.getfield 13, 3) := by decide +kernel
theorem d_Mod_removed_100 : decode prog_8_method_40_code 100 = .ok (.iload_n 3, 1) := by decide +kernel
theorem d_Mod_removed_101 : decode prog_8_method_40_code 101 = .ok (.iaload, 1) := by decide +kernel
theorem d_Mod_removed_102 : decode prog_8_method_40_code 102 = .ok (.ifCond .le (27), 3) := by decide +kernel
theorem d_Mod_removed_105 : decode prog_8_method_40_code 105 = .ok (.aload_n 0, 1) := by decide +kernel
theorem d_Mod_removed_106 : decode prog_8_method_40_code 106 = .ok (.getfield 45, 3) := by decide +kernel
theorem d_Mod_removed_109 : decode prog_8_method_40_code 109 = .ok (.aload_n 0, 1) := by decide +kernel
theorem d_Mod_removed_110 : decode prog_8_method_40_code 110 = .ok (.getfield 198, 3) := by decide +kernel
theorem d_Mod_removed_113 : decode prog_8_method_40_code 113 = .ok (.iload 4, 2) := by decide +kernel
theorem d_Mod_removed_115 : decode prog_8_method_40_code 115 = .ok (.iastore, 1) := by decide +kernel
theorem d_Mod_removed_116 : decode prog_8_method_40_code 116 = .ok (.aload_n 0, 1) := by decide +kernel
theorem d_Mod_removed_117 : decode prog_8_method_40_code 117 = .ok (.aload_n 0, 1) := by decide +kernel
theorem d_Mod_removed_118 : decode prog_8_method_40_code 118 = .ok (.getfield 198, 3) := by decide +kernel
theorem d_Mod_removed_121 : decode prog_8_method_40_code 121 = .ok (.iconst 1, 1) := by decide +kernel
theorem d_Mod_removed_122 : decode prog_8_method_40_code 122 = .ok (.iadd, 1) := by decide +kernel
theorem d_Mod_removed_123 : decode prog_8_method_40_code 123 = .ok (.putfield 198, 3) := by decide +kernel
theorem d_Mod_removed_126 : decode prog_8_method_40_code 126 = .ok (.goto (8), 3) := by decide +kernel
theorem d_Mod_removed_129 : decode prog_8_method_40_code 129 = .ok (.aload_n 0, 1) := by decide +kernel
theorem d_Mod_removed_130 : decode prog_8_method_40_code 130 = .ok (.iconst 0, 1) := by decide +kernel
theorem d_Mod_removed_131 : decode prog_8_method_40_code 131 = .ok (.putfield 198, 3) := by decide +kernel
theorem d_Mod_removed_134 : decode prog_8_method_40_code 134 = .ok (.aload_n 0, 1) := by decide +kernel
theorem d_Mod_removed_135 : decode prog_8_method_40_code 135 = .ok (.invokevirtual 135, 3) := by decide +kernel
theorem d_Mod_removed_138 : decode prog_8_method_40_code 138 = .ok (.aload_n 0, 1) := by decide +kernel
theorem d_Mod_removed_139 : decode prog_8_method_40_code 139 = .ok (.invokevirtual 122, 3) := by decide +kernel
theorem d_Mod_removed_142 : decode prog_8_method_40_code 142 = .ok (.ifCond .eq (11), 3) := by decide +kernel
theorem d_Mod_removed_145 : decode prog_8_method_40_code 145 = .ok (.aload_n 0, 1) := by decide +kernel
theorem d_Mod_removed_146 : decode prog_8_method_40_code 146 = .ok (.iload_n 2, 1) := by decide +kernel
theorem d_Mod_removed_147 : decode prog_8_method_40_code 147 = .ok (.iconst 0, 1) := by decide +kernel
theorem d_Mod_removed_148 : decode prog_8_method_40_code 148 = .ok (.iconst 0, 1) := by decide +kernel
theorem d_Mod_removed_149 : decode prog_8_method_40_code 149 = .ok (.iconst 0, 1) := by decide +kernel
theorem d_Mod_removed_150 : decode prog_8_method_40_code 150 = .ok (.invokevirtual 142, 3) := by decide +kernel
theorem d_Mod_removed_153 : decode prog_8_method_40_code 153 = .ok (.iconst 0, 1) := by decide +kernel
theorem d_Mod_removed_154 : decode prog_8_method_40_code 154 = .ok (.istore 5, 2) := by decide +kernel
theorem d_Mod_removed_156 : decode prog_8_method_40_code 156 = .ok (.iload 5, 2) := by decide +kernel
theorem d_Mod_removed_158 : decode prog_8_method_40_code 158 = .ok (.aload_n 0, 1) := by decide +kernel
theorem d_Mod_removed_159 : decode prog_8_method_40_code 159 = .ok (.getfield 198, 3) := by decide +kernel
theorem d_Mod_removed_162 : decode prog_8_method_40_code 162 = .ok (.if_icmp .ge (20), 3) := by decide +kernel
theorem d_Mod_removed_165 : decode prog_8_method_40_code 165 = .ok (.aload_n 0, 1) := by decide +kernel
theorem d_Mod_removed_166 : decode prog_8_method_40_code 166 = .ok (.aload_n 0, 1) := by decide +kernel
theorem d_Mod_removed_167 : decode prog_8_method_40_code 167 = .ok (.getfield 45, 3) := by decide +kernel
theorem d_Mod_removed_170 : decode prog_8_method_40_code 170 = .ok (.iload 5, 2) := by decide +kernel
theorem d_Mod_removed_172 : decode prog_8_method_40_code 172 = .ok (.iaload, 1) := by decide +kernel
theorem d_Mod_removed_173 : decode prog_8_method_40_code 173 = .ok (.invokevirtual 204, 3) := by decide +kernel
theorem d_Mod_removed_176 : decode prog_8_method_40_code 176 = .ok (.iinc 5 (1), 3) := by decide +kernel
theorem d_Mod_removed_179 : decode prog_8_method_40_code 179 = .ok (.goto (-23), 3) := by decide +kernel
theorem d_Mod_removed_182 : decode prog_8_method_40_code 182 = .ok (.aload_n 0, 1) := by decide +kernel
theorem d_Mod_removed_183 : decode prog_8_method_40_code 183 = .ok (.getfield 7, 3) := by decide +kernel
theorem d_Mod_removed_186 : decode prog_8_method_40_code 186 = .ok (.iload_n 1, 1) := by decide +kernel
theorem d_Mod_removed_187 : decode prog_8_method_40_code 187 = .ok (.iaload, 1) := by decide +kernel
theorem d_Mod_removed_188 : decode prog_8_method_40_code 188 = .ok (.istore 5, 2) := by decide +kernel
theorem d_Mod_removed_190 : decode prog_8_method_40_code 190 = .ok (.aload_n 0, 1) := by decide +kernel
theorem d_Mod_removed_191 : decode prog_8_method_40_code 191 = .ok (.iload_n 1, 1) := by decide +kernel
theorem d_Mod_removed_192 : decode prog_8_method_40_code 192 = .ok (.invokevirtual 204, 3) := by decide +kernel
theorem d_Mod_removed_195 : decode prog_8_method_40_code 195 = .ok (.aload_n 0, 1) := by decide +kernel
theorem d_Mod_removed_196 : decode prog_8_method_40_code 196 = .ok (.invokevirtual 162, 3) := by decide +kernel
theorem d_Mod_removed_199 : decode prog_8_method_40_code 199 = .ok (.aload_n 0, 1) := by decide +kernel
theorem d_Mod_removed_200 : decode prog_8_method_40_code 200 = .ok (.getfield 90, 3) := by decide +kernel
theorem d_Mod_removed_203 : decode prog_8_method_40_code 203 = .ok (.ifCond .ne (11), 3) := by decide +kernel
theorem d_Mod_removed_206 : decode prog_8_method_40_code 206 = .ok (.aload_n 0, 1) := by decide +kernel
theorem d_Mod_removed_207 : decode prog_8_method_40_code 207 = .ok (.getfield 32, 3) := by decide +kernel
theorem d_Mod_removed_210 : decode prog_8_method_40_code 210 = .ok (.iload 5, 2) := by decide +kernel
theorem d_Mod_removed_212 : decode prog_8_method_40_code 212 = .ok (.iconst 0, 1) := by decide +kernel
theorem d_Mod_removed_213 : decode prog_8_method_40_code 213 = .ok (.iastore, 1) := by decide +kernel
theorem d_Mod_removed_214 : decode prog_8_method_40_code 214 = .ok (.aload_n 0, 1) := by decide +kernel
theorem d_Mod_removed_215 : decode prog_8_method_40_code 215 = .ok (.getfield 198, 3) := by decide +kernel
theorem d_Mod_removed_218 : decode prog_8_method_40_code 218 = .ok (.iconst 1, 1) := by decide +kernel
theorem d_Mod_removed_219 : decode prog_8_method_40_code 219 = .ok (.iadd, 1) := by decide +kernel
theorem d_Mod_removed_220 : decode prog_8_method_40_code 220 = .ok (.ireturn, 1) := by decide +kernel
theorem d_Mod_remove_0 : decode prog_8_method_41_code 0 = .ok (.aload_n 0, 1) := by decide +kernel
theorem d_Mod_remove_1 : decode prog_8_method_41_code 1 = .ok (.iload_n 1, 1) := by decide +kernel
theorem d_Mod_remove_2 : decode prog_8_method_41_code 2 = .ok (.iload_n 2, 1) := by decide +kernel
theorem d_Mod_remove_3 : decode prog_8_method_41_code 3 = .ok (.invokevirtual 182, 3) := by decide +kernel
theorem d_Mod_remove_6 : decode prog_8_method_41_code 6 = .ok (.istore_n 3, 1) := by decide +kernel
theorem d_Mod_remove_7 : decode prog_8_method_41_code 7 = .ok (.iload_n 3, 1) := by decide +kernel
theorem d_Mod_remove_8 : decode prog_8_method_41_code 8 = .ok (.ifCond .ge (7), 3) := by decide +kernel
theorem d_Mod_remove_11 : decode prog_8_method_41_code 11 = .ok (.iconst 0, 1) := by decide +kernel
theorem d_Mod_remove_12 : decode prog_8_method_41_code 12 = .ok (.goto (12), 3) := by decide +kernel
theorem d_Mod_remove_15 : decode prog_8_method_41_code 15 = .ok (.aload_n 0, 1) := by decide +kernel
theorem d_Mod_remove_16 : decode prog_8_method_41_code 16 = .ok (.iload_n 3, 1) := by decide +kernel
theorem d_Mod_remove_17 : decode prog_8_method_41_code 17 = .ok (.aload_n 0, 1) := by decide +kernel
theorem d_Mod_remove_18 : decode prog_8_method_41_code 18 = .ok (.getfield 109, 3) := by decide +kernel
theorem d_Mod_remove_21 : decode prog_8_method_41_code 21 = .ok (.invokevirtual 211, 3) := by decide +kernel
theorem d_Mod_remove_24 : decode prog_8_method_41_code 24 = .ok (.istore 4, 2) := by decide +kernel
theorem d_Mod_remove_26 : decode prog_8_method_41_code 26 = .ok (.aload_n 0, 1) := by decide +kernel
theorem d_Mod_remove_27 : decode prog_8_method_41_code 27 = .ok (.iload 4, 2) := by decide +kernel
theorem d_Mod_remove_29 : decode prog_8_method_41_code 29 = .ok (.iconst 1, 1) := by decide +kernel
theorem d_Mod_remove_30 : decode prog_8_method_41_code 30 = .ok (.iconst 2, 1) := by decide +kernel
theorem d_Mod_remove_31 : decode prog_8_method_41_code 31 = .ok (.iconst 3, 1) := by decide +kernel
theorem d_Mod_remove_32 : decode prog_8_method_41_code 32 = .ok (.iconst 4, 1) := by decide +kernel
theorem d_Mod_remove_33 : decode prog_8_method_41_code 33 = .ok (.iconst 4, 1) := by decide +kernel
theorem d_Mod_remove_34 : decode prog_8_method_41_code 34 = .ok (.invokevirtual 178, 3) := by decide +kernel
theorem d_Mod_remove_37 : decode prog_8_method_41_code 37 = .ok (.ireturn, 1) := by decide +kernel
theorem d_Mod_length_0 : decode prog_8_method_42_code 0 = .ok (.aload_n 0, 1) := by decide +kernel
theorem d_Mod_length_1 : decode prog_8_method_42_code 1 = .ok (.iload_n 1, 1) := by decide +kernel
theorem d_Mod_length_2 : decode prog_8_method_42_code 2 = .ok (.invokevirtual 165, 3) := by decide +kernel
theorem d_Mod_length_5 : decode prog_8_method_42_code 5 = .ok (.istore_n 2, 1) := by decide +kernel
theorem d_Mod_length_6 : decode prog_8_method_42_code 6 = .ok (.aload_n 0, 1) := by decide +kernel
theorem d_Mod_length_7 : decode prog_8_method_42_code 7 = .ok (.getfield 90, 3) := by decide +kernel
theorem d_Mod_length_10 : decode prog_8_method_42_code 10 = .ok (.ifCond .ne (11), 3) := by decide +kernel
theorem d_Mod_length_13 : decode prog_8_method_42_code 13 = .ok (.aload_n 0, 1) := by decide +kernel
theorem d_Mod_length_14 : decode prog_8_method_42_code 14 = .ok (.iload_n 2, 1) := by decide +kernel
theorem d_Mod_length_15 : decode prog_8_method_42_code 15 = .ok (.invokevirtual 185, 3) := by decide +kernel
theorem d_Mod_length_18 : decode prog_8_method_42_code 18 = .ok (.goto (4), 3) := by decide +kernel
theorem d_Mod_length_21 : decode prog_8_method_42_code 21 = .ok (.iconst (-1), 1) := by decide +kernel
theorem d_Mod_length_22 : decode prog_8_method_42_code 22 = .ok (.istore_n 3, 1) := by decide +kernel
theorem d_Mod_length_23 : decode prog_8_method_42_code 23 = .ok (.aload_n 0, 1) := by decide +kernel
theorem d_Mod_length_24 : decode prog_8_method_42_code 24 = .ok (.iload_n 3, 1) := by decide +kernel
theorem d_Mod_length_25 : decode prog_8_method_42_code 25 = .ok (.ifCond .ge (7), 3) := by decide +kernel
theorem d_Mod_length_28 : decode prog_8_method_42_code 28 = .ok (.iconst 0, 1) := by decide +kernel
theorem d_Mod_length_29 : decode prog_8_method_42_code 29 = .ok (.goto (8), 3) := by decide +kernel
theorem d_Mod_length_32 : decode prog_8_method_42_code 32 = .ok (.aload_n 0, 1) := by decide +kernel
theorem d_Mod_length_33 : decode prog_8_method_42_code 33 = .ok (.iload_n 3, 1) := by decide +kernel
theorem d_Mod_length_34 : decode prog_8_method_42_code 34 = .ok (.invokevirtual 188, 3) := by decide +kernel
theorem d_Mod_length_37 : decode prog_8_method_42_code 37 = .ok (.iconst 1, 1) := by decide +kernel
theorem d_Mod_length_38 : decode prog_8_method_42_code 38 = .ok (.iconst 2, 1) := by decide +kernel
theorem d_Mod_length_39 : decode prog_8_method_42_code 39 = .ok (.iconst 3, 1) := by decide +kernel
theorem d_Mod_length_40 : decode prog_8_method_42_code 40 = .ok (.iconst 3, 1) := by decide +kernel
theorem d_Mod_length_41 : decode prog_8_method_42_code 41 = .ok (.iconst 3, 1) := by decide +kernel
theorem d_Mod_length_42 : decode prog_8_method_42_code 42 = .ok (.invokevirtual 178, 3) := by decide +kernel
theorem d_Mod_length_45 : decode prog_8_method_42_code 45 = .ok (.ireturn, 1) := by decide +kernel
theorem d_Mod_entry_0 : decode prog_8_method_43_code 0 = .ok (.aload_n 0, 1) := by decide +kernel
theorem d_Mod_entry_1 : decode prog_8_method_43_code 1 = .ok (.iload_n 1, 1) := by decide +kernel
theorem d_Mod_entry_2 : decode prog_8_method_43_code 2 = .ok (.invokevirtual 165, 3) := by decide +kernel
theorem d_Mod_entry_5 : decode prog_8_method_43_code 5 = .ok (.istore 4, 2) := by decide +kernel
theorem d_Mod_entry_7 : decode prog_8_method_43_code 7 = .ok (.iconst 0, 1) := by decide +kernel
theorem d_Mod_entry_8 : decode prog_8_method_43_code 8 = .ok (.istore 5, 2) := by decide +kernel
theorem d_Mod_entry_10 : decode prog_8_method_43_code 10 = .ok (.aload_n 0, 1) := by decide +kernel
theorem d_Mod_entry_11 : decode prog_8_method_43_code 11 = .ok (.getfield 90, 3) := by decide +kernel
theorem d_Mod_entry_14 : decode prog_8_method_43_code 14 = .ok (.ifCond .ne (114), 3) := by decide +kernel
theorem d_Mod_entry_17 : decode prog_8_method_43_code 17 = .ok (.aload_n 0, 1) := by decide +kernel
theorem d_Mod_entry_18 : decode prog_8_method_43_code 18 = .ok (.aload_n 0, 1) := by decide +kernel
theorem d_Mod_entry_19 : decode prog_8_method_43_code 19 = .ok (.iload 4, 2) := by decide +kernel
theorem d_Mod_entry_21 : decode prog_8_method_43_code 21 = .ok (.invokevirtual 168, 3) := by decide +kernel
theorem d_Mod_entry_24 : decode prog_8_method_43_code 24 = .ok (.ifCond .eq (16), 3) := by decide +kernel
theorem d_Mod_entry_27 : decode prog_8_method_43_code 27 = .ok (.iload_n 3, 1) := by decide +kernel
theorem d_Mod_entry_28 : decode prog_8_method_43_code 28 = .ok (.iconst 0, 1) := by decide +kernel
theorem d_Mod_entry_29 : decode prog_8_method_43_code 29 = .ok (.iconst 2, 1) := by decide +kernel
theorem d_Mod_entry_30 : decode prog_8_method_43_code 30 = .ok (.invokestatic 73, 3) := by decide +kernel
theorem d_Mod_entry_33 : decode prog_8_method_43_code 33 = .ok (.ifCond .eq (7), 3) := by decide +kernel
theorem d_Mod_entry_36 : decode prog_8_method_43_code 36 = .ok (.iconst 0, 1) := by decide +kernel
theorem d_Mod_entry_37 : decode prog_8_method_43_code 37 = .ok (.goto (4), 3) := by decide +kernel
theorem d_Mod_entry_40 : decode prog_8_method_43_code 40 = .ok (.iconst 3, 1) := by decide +kernel
theorem d_Mod_entry_41 : decode prog_8_method_43_code 41 = .ok (.putfield 90, 3) := by decide +kernel
theorem d_Mod_entry_44 : decode prog_8_method_43_code 44 = .ok (.aload_n 0, 1) := by decide +kernel
theorem d_Mod_entry_45 : decode prog_8_method_43_code 45 = .ok (.iconst (-1), 1) := by decide +kernel
theorem d_Mod_entry_46 : decode prog_8_method_43_code 46 = .ok (.putfield 96, 3) := by decide +kernel
theorem d_Mod_entry_49 : decode prog_8_method_43_code 49 = .ok (.aload_n 0, 1) := by decide +kernel
theorem d_Mod_entry_50 : decode prog_8_method_43_code 50 = .ok (.getfield 90, 3) := by decide +kernel
theorem d_Mod_entry_53 : decode prog_8_method_43_code 53 = .ok (.ifCond .ne (75), 3) := by decide +kernel
theorem d_Mod_entry_56 : decode prog_8_method_43_code 56 = .ok (.iload_n 2, 1) := by decide +kernel
theorem d_Mod_entry_57 : decode prog_8_method_43_code 57 = .ok (.ifCond .lt (14), 3) := by decide +kernel
theorem d_Mod_entry_60 : decode prog_8_method_43_code 60 = .ok (.aload_n 0, 1) := by decide +kernel
theorem d_Mod_entry_61 : decode prog_8_method_43_code 61 = .ok (.iload 4, 2) := by decide +kernel
theorem d_Mod_entry_63 : decode prog_8_method_43_code 63 = .ok (.iconst 1, 1) := by decide +kernel
theorem d_Mod_entry_64 : decode prog_8_method_43_code 64 = .ok (.iload_n 2, 1) := by decide +kernel
theorem d_Mod_entry_65 : decode prog_8_method_43_code 65 = .ok (.invokevirtual 171, 3) := by decide +kernel
theorem d_Mod_entry_68 : decode prog_8_method_43_code 68 = .ok (.ifCond .eq (60), 3) := by decide +kernel
theorem d_Mod_entry_71 : decode prog_8_method_43_code 71 = .ok (.aload_n 0, 1) := by decide +kernel
theorem d_Mod_entry_72 : decode prog_8_method_43_code 72 = .ok (.aload_n 0, 1) := by decide +kernel
theorem d_Mod_entry_73 : decode prog_8_method_43_code 73 = .ok (.getfield 96, 3) := by decide +kernel
theorem d_Mod_entry_76 : decode prog_8_method_43_code 76 = .ok (.ifCond .ge (7), 3) := by decide +kernel
theorem d_Mod_entry_79 : decode prog_8_method_43_code 79 = .ok (.iconst 2, 1) := by decide +kernel
theorem d_Mod_entry_80 : decode prog_8_method_43_code 80 = .ok (.goto (4), 3) := by decide +kernel
theorem d_Mod_entry_83 : decode prog_8_method_43_code 83 = .ok (.iconst 0, 1) := by decide +kernel
theorem d_Mod_entry_84 : decode prog_8_method_43_code 84 = .ok (.putfield 90, 3) := by decide +kernel
theorem d_Mod_entry_87 : decode prog_8_method_43_code 87 = .ok (.aload_n 0, 1) := by decide +kernel
theorem d_Mod_entry_88 : decode prog_8_method_43_code 88 = .ok (.getfield 90, 3) := by decide +kernel
theorem d_Mod_entry_91 : decode prog_8_method_43_code 91 = .ok (.ifCond .le (7), 3) := by decide +kernel
theorem d_Mod_entry_94 : decode prog_8_method_43_code 94 = .ok (.iconst 0, 1) := by decide +kernel
theorem d_Mod_entry_95 : decode prog_8_method_43_code 95 = .ok (.goto (31), 3) := by decide +kernel
theorem d_Mod_entry_98 : decode prog_8_method_43_code 98 = .ok (.iload_n 3, 1) := by decide +kernel
theorem d_Mod_entry_99 : decode prog_8_method_43_code 99 = .ok (.ifCond .ne (14), 3) := by decide +kernel
theorem d_Mod_entry_102 : decode prog_8_method_43_code 102 = .ok (.aload_n 0, 1) := by decide +kernel
theorem d_Mod_entry_103 : decode prog_8_method_43_code 103 = .ok (.aload_n 0, 1) := by decide +kernel
theorem d_Mod_entry_104 : decode prog_8_method_43_code 104 = .ok (.getfield 109, 3) := by decide +kernel
theorem d_Mod_entry_107 : decode prog_8_method_43_code 107 = .ok (.invokevirtual 105, 3) := by decide +kernel
theorem d_Mod_entry_110 : decode prog_8_method_43_code 110 = .ok (.goto (16), 3) := by decide +kernel
theorem d_Mod_entry_113 : decode prog_8_method_43_code 113 = .ok (.aload_n 0, 1) := by decide +kernel
theorem d_Mod_entry_114 : decode prog_8_method_43_code 114 = .ok (.getfield 25, 3) := by decide +kernel
theorem d_Mod_entry_117 : decode prog_8_method_43_code 117 = .ok (.aload_n 0, 1) := by decide +kernel
theorem d_Mod_entry_118 : decode prog_8_method_43_code 118 = .ok (.getfield 109, 3) := by decide +kernel
theorem d_Mod_entry_121 : decode prog_8_method_43_code 121 = .ok (.iconst 1, 1) := by decide +kernel
theorem d_Mod_entry_122 : decode prog_8_method_43_code 122 = .ok (.iadd, 1) := by decide +kernel
theorem d_Mod_entry_123 : decode prog_8_method_43_code 123 = .ok (.iload_n 3, 1) := by decide +kernel
theorem d_Mod_entry_124 : decode prog_8_method_43_code 124 = .ok (.iadd, 1) := by decide +kernel
theorem d_Mod_entry_125 : decode prog_8_method_43_code 125 = .ok (.iaload, 1) := by decide +kernel
theorem d_Mod_entry_126 : decode prog_8_method_43_code 126 = .ok (.istore 5, 2) := by decide +kernel
theorem d_Mod_entry_128 : decode prog_8_method_43_code 128 = .ok (.aload_n 0, 1) := by decide +kernel
theorem d_Mod_entry_129 : decode prog_8_method_43_code 129 = .ok (.iload 5, 2) := by decide +kernel
theorem d_Mod_entry_131 : decode prog_8_method_43_code 131 = .ok (.iconst 1, 1) := by decide +kernel
theorem d_Mod_entry_132 : decode prog_8_method_43_code 132 = .ok (.iconst 2, 1) := by decide +kernel
theorem d_Mod_entry_133 : decode prog_8_method_43_code 133 = .ok (.iconst 3, 1) := by decide +kernel
theorem d_Mod_entry_134 : decode prog_8_method_43_code 134 = .ok (.iconst 4, 1) := by decide +kernel
theorem d_Mod_entry_135 : decode prog_8_method_43_code 135 = .ok (.iconst 4, 1) := by decide +kernel
theorem d_Mod_entry_136 : decode prog_8_method_43_code 136 = .ok (.invokevirtual 178, 3) := by decide +kernel
theorem d_Mod_entry_139 : decode prog_8_method_43_code 139 = .ok (.ireturn, 1) := by decide +kernel
theorem d_Mod_headOf_0 : decode prog_8_method_44_code 0 = .ok (.aload_n 0, 1) := by decide +kernel
theorem d_Mod_headOf_1 : decode prog_8_method_44_code 1 = .ok (.getfield 48, 3) := by decide +kernel
theorem d_Mod_headOf_4 : decode prog_8_method_44_code 4 = .ok (.bipush (40), 2) := by decide +kernel
theorem d_Mod_headOf_6 : decode prog_8_method_44_code 6 = .ok (.iload_n 1, 1) := by decide +kernel
theorem d_Mod_headOf_7 : decode prog_8_method_44_code 7 = .ok (.imul, 1) := by decide +kernel
theorem d_Mod_headOf_8 : decode prog_8_method_44_code 8 = .ok (.iaload, 1) := by decide +kernel
theorem d_Mod_headOf_9 : decode prog_8_method_44_code 9 = .ok (.iconst 1, 1) := by decide +kernel
theorem d_Mod_headOf_10 : decode prog_8_method_44_code 10 = .ok (.isub, 1) := by decide +kernel
theorem d_Mod_headOf_11 : decode prog_8_method_44_code 11 = .ok (.ireturn, 1) := by decide +kernel
theorem d_Mod_pageAt_0 : decode prog_8_method_45_code 0 = .ok (.aload_n 0, 1) := by decide +kernel
theorem d_Mod_pageAt_1 : decode prog_8_method_45_code 1 = .ok (.getfield 48, 3) := by decide +kernel
theorem d_Mod_pageAt_4 : decode prog_8_method_45_code 4 = .ok (.bipush (40), 2) := by decide +kernel
theorem d_Mod_pageAt_6 : decode prog_8_method_45_code 6 = .ok (.iload_n 1, 1) := by decide +kernel
theorem d_Mod_pageAt_7 : decode prog_8_method_45_code 7 = .ok (.imul, 1) := by decide +kernel
theorem d_Mod_pageAt_8 : decode prog_8_method_45_code 8 = .ok (.iload_n 2, 1) := by decide +kernel
theorem d_Mod_pageAt_9 : decode prog_8_method_45_code 9 = .ok (.iadd, 1) := by decide +kernel
theorem d_Mod_pageAt_10 : decode prog_8_method_45_code 10 = .ok (.iaload, 1) := by decide +kernel
theorem d_Mod_pageAt_11 : decode prog_8_method_45_code 11 = .ok (.iconst 1, 1) := by decide +kernel
theorem d_Mod_pageAt_12 : decode prog_8_method_45_code 12 = .ok (.isub, 1) := by decide +kernel
theorem d_Mod_pageAt_13 : decode prog_8_method_45_code 13 = .ok (.ireturn, 1) := by decide +kernel
theorem d_Mod_remember_0 : decode prog_8_method_46_code 0 = .ok (.iconst 0, 1) := by decide +kernel
theorem d_Mod_remember_1 : decode prog_8_method_46_code 1 = .ok (.istore_n 1, 1) := by decide +kernel
theorem d_Mod_remember_2 : decode prog_8_method_46_code 2 = .ok (.iload_n 1, 1) := by decide +kernel
theorem d_Mod_remember_3 : decode prog_8_method_46_code 3 = .ok (.bipush (40), 2) := by decide +kernel
theorem d_Mod_remember_5 : decode prog_8_method_46_code 5 = .ok (.if_icmp .ge (82), 3) := by decide +kernel
theorem d_Mod_remember_8 : decode prog_8_method_46_code 8 = .ok (.aload_n 0, 1) := by decide +kernel
theorem d_Mod_remember_9 : decode prog_8_method_46_code 9 = .ok (.getfield 63, 3) := by decide +kernel
theorem d_Mod_remember_12 : decode prog_8_method_46_code 12 = .ok (.iload_n 1, 1) := by decide +kernel
theorem d_Mod_remember_13 : decode prog_8_method_46_code 13 = .ok (.aload_n 0, 1) := by decide +kernel
theorem d_Mod_remember_14 : decode prog_8_method_46_code 14 = .ok (.getfield 7, 3) := by decide +kernel
theorem d_Mod_remember_17 : decode prog_8_method_46_code 17 = .ok (.iload_n 1, 1) := by decide +kernel
theorem d_Mod_remember_18 : decode prog_8_method_46_code 18 = .ok (.iaload, 1) := by decide +kernel
theorem d_Mod_remember_19 : decode prog_8_method_46_code 19 = .ok (.iastore, 1) := by decide +kernel
theorem d_Mod_remember_20 : decode prog_8_method_46_code 20 = .ok (.aload_n 0, 1) := by decide +kernel
theorem d_Mod_remember_21 : decode prog_8_method_46_code 21 = .ok (.getfield 63, 3) := by decide +kernel
theorem d_Mod_remember_24 : decode prog_8_method_46_code 24 = .ok (.bipush (40), 2) := by decide +kernel
theorem d_Mod_remember_26 : decode prog_8_method_46_code 26 = .ok (.iload_n 1, 1) := by decide +kernel
theorem d_Mod_remember_27 : decode prog_8_method_46_code 27 = .ok (.iadd, 1) := by decide +kernel
theorem d_Mod_remember_28 : decode prog_8_method_46_code 28 = .ok (.aload_n 0, 1) := by decide +kernel
theorem d_Mod_remember_29 : decode prog_8_method_46_code 29 = .ok (.getfield 13, 3) := by decide +kernel
theorem d_Mod_remember_32 : decode prog_8_method_46_code 32 = .ok (.iload_n 1, 1) := by decide +kernel
theorem d_Mod_remember_33 : decode prog_8_method_46_code 33 = .ok (.iaload, 1) := by decide +kernel
theorem d_Mod_remember_34 : decode prog_8_method_46_code 34 = .ok (.iastore, 1) := by decide +kernel
theorem d_Mod_remember_35 : decode prog_8_method_46_code 35 = .ok (.aload_n 0, 1) := by decide +kernel
theorem d_Mod_remember_36 : decode prog_8_method_46_code 36 = .ok (.getfield 63, 3) := by decide +kernel
theorem d_Mod_remember_39 : decode prog_8_method_46_code 39 = .ok (.bipush (80), 2) := by decide +kernel
theorem d_Mod_remember_41 : decode prog_8_method_46_code 41 = .ok (.iload_n 1, 1) := by decide +kernel
theorem d_Mod_remember_42 : decode prog_8_method_46_code 42 = .ok (.iadd, 1) := by decide +kernel
theorem d_Mod_remember_43 : decode prog_8_method_46_code 43 = .ok (.aload_n 0, 1) := by decide +kernel
theorem d_Mod_remember_44 : decode prog_8_method_46_code 44 = .ok (.getfield 16, 3) := by decide +kernel
theorem d_Mod_remember_47 : decode prog_8_method_46_code 47 = .ok (.iload_n 1, 1) := by decide +kernel
theorem d_Mod_remember_48 : decode prog_8_method_46_code 48 = .ok (.iaload, 1) := by decide +kernel
theorem d_Mod_remember_49 : decode prog_8_method_46_code 49 = .ok (.iastore, 1) := by decide +kernel
theorem d_Mod_remember_50 : decode prog_8_method_46_code 50 = .ok (.aload_n 0, 1) := by decide +kernel
theorem d_Mod_remember_51 : decode prog_8_method_46_code 51 = .ok (.getfield 63, 3) := by decide +kernel
theorem d_Mod_remember_54 : decode prog_8_method_46_code 54 = .ok (.bipush (120), 2) := by decide +kernel
theorem d_Mod_remember_56 : decode prog_8_method_46_code 56 = .ok (.iload_n 1, 1) := by decide +kernel
theorem d_Mod_remember_57 : decode prog_8_method_46_code 57 = .ok (.iadd, 1) := by decide +kernel
theorem d_Mod_remember_58 : decode prog_8_method_46_code 58 = .ok (.aload_n 0, 1) := by decide +kernel
theorem d_Mod_remember_59 : decode prog_8_method_46_code 59 = .ok (.getfield 19, 3) := by decide +kernel
theorem d_Mod_remember_62 : decode prog_8_method_46_code 62 = .ok (.iload_n 1, 1) := by decide +kernel
theorem d_Mod_remember_63 : decode prog_8_method_46_code 63 = .ok (.iaload, 1) := by decide +kernel
theorem d_Mod_remember_64 : decode prog_8_method_46_code 64 = .ok (.iastore, 1) := by decide +kernel
theorem d_Mod_remember_65 : decode prog_8_method_46_code 65 = .ok (.aload_n 0, 1) := by decide +kernel
theorem d_Mod_remember_66 : decode prog_8_method_46_code 66 = .ok (.getfield 63, 3) := by decide +kernel
theorem d_Mod_remember_69 : decode prog_8_method_46_code 69 = .ok (.sipush (160), 3) := by decide +kernel
theorem d_Mod_remember_72 : decode prog_8_method_46_code 72 = .ok (.iload_n 1, 1) := by decide +kernel
theorem d_Mod_remember_73 : decode prog_8_method_46_code 73 = .ok (.iadd, 1) := by decide +kernel
theorem d_Mod_remember_74 : decode prog_8_method_46_code 74 = .ok (.aload_n 0, 1) := by decide +kernel
theorem d_Mod_remember_75 : decode prog_8_method_46_code 75 = .ok (.getfield 22, 3) := by decide +kernel
theorem d_Mod_remember_78 : decode prog_8_method_46_code 78 = .ok (.iload_n 1, 1) := by decide +kernel
theorem d_Mod_remember_79 : decode prog_8_method_46_code 79 = .ok (.iaload, 1) := by decide +kernel
theorem d_Mod_remember_80 : decode prog_8_method_46_code 80 = .ok (.iastore, 1) := by decide +kernel
theorem d_Mod_remember_81 : decode prog_8_method_46_code 81 = .ok (.iinc 1 (1), 3) := by decide +kernel
theorem d_Mod_remember_84 : decode prog_8_method_46_code 84 = .ok (.goto (-82), 3) := by decide +kernel
theorem d_Mod_remember_87 : decode prog_8_method_46_code 87 = .ok (.iconst 0, 1) := by decide +kernel
theorem d_Mod_remember_88 : decode prog_8_method_46_code 88 = .ok (.istore_n 1, 1) := by decide +kernel
theorem d_Mod_remember_89 : decode prog_8_method_46_code 89 = .ok (.iload_n 1, 1) := by decide +kernel
theorem d_Mod_remember_90 : decode prog_8_method_46_code 90 = .ok (.sipush (320), 3) := by decide +kernel
theorem d_Mod_remember_93 : decode prog_8_method_46_code 93 = .ok (.if_icmp .ge (25), 3) := by decide +kernel
theorem d_Mod_remember_96 : decode prog_8_method_46_code 96 = .ok (.aload_n 0, 1) := by decide +kernel
theorem d_Mod_remember_97 : decode prog_8_method_46_code 97 = .ok (.getfield 63, 3) := by decide +kernel
theorem d_Mod_remember_100 : decode prog_8_method_46_code 100 = .ok (.sipush (200), 3) := by decide +kernel
theorem d_Mod_remember_103 : decode prog_8_method_46_code 103 = .ok (.iload_n 1, 1) := by decide +kernel
theorem d_Mod_remember_104 : decode prog_8_method_46_code 104 = .ok (.iadd, 1) := by decide +kernel
theorem d_Mod_remember_105 : decode prog_8_method_46_code 105 = .ok (.aload_n 0, 1) := by decide +kernel
theorem d_Mod_remember_106 : decode prog_8_method_46_code 106 = .ok (.getfield 25, 3) := by decide +kernel
theorem d_Mod_remember_109 : decode prog_8_method_46_code 109 = .ok (.iload_n 1, 1) := by decide +kernel
theorem d_Mod_remember_110 : decode prog_8_method_46_code 110 = .ok (.iaload, 1) := by decide +kernel
theorem d_Mod_remember_111 : decode prog_8_method_46_code 111 = .ok (.iastore, 1) := by decide +kernel
theorem d_Mod_remember_112 : decode prog_8_method_46_code 112 = .ok (.iinc 1 (1), 3) := by decide +kernel
theorem d_Mod_remember_115 : decode prog_8_method_46_code 115 = .ok (.goto (-26), 3) := by decide +kernel
theorem d_Mod_remember_118 : decode prog_8_method_46_code 118 = .ok (.return_, 1) := by decide +kernel
theorem d_Mod_isOther_0 : decode prog_8_method_47_code 0 = .ok (.aload_n 0, 1) := by decide +kernel
theorem d_Mod_isOther_1 : decode prog_8_method_47_code 1 = .ok (.getfield 63, 3) := by decide +kernel
theorem d_Mod_isOther_4 : decode prog_8_method_47_code 4 = .ok (.iload_n 1, 1) := by decide +kernel
theorem d_Mod_isOther_5 : decode prog_8_method_47_code 5 = .ok (.iaload, 1) := by decide +kernel
theorem d_Mod_isOther_6 : decode prog_8_method_47_code 6 = .ok (.aload_n 0, 1) := by decide +kernel
theorem d_Mod_isOther_7 : decode prog_8_method_47_code 7 = .ok (.getfield 7, 3) := by decide +kernel
theorem d_Mod_isOther_10 : decode prog_8_method_47_code 10 = .ok (.iload_n 1, 1) := by decide +kernel
theorem d_Mod_isOther_11 : decode prog_8_method_47_code 11 = .ok (.iaload, 1) := by decide +kernel
theorem d_Mod_isOther_12 : decode prog_8_method_47_code 12 = .ok (.if_icmp .ne (76), 3) := by decide +kernel
theorem d_Mod_isOther_15 : decode prog_8_method_47_code 15 = .ok (.aload_n 0, 1) := by decide +kernel
theorem d_Mod_isOther_16 : decode prog_8_method_47_code 16 = .ok (.getfield 63, 3) := by decide +kernel
theorem d_Mod_isOther_19 : decode prog_8_method_47_code 19 = .ok (.bipush (40), 2) := by decide +kernel
theorem d_Mod_isOther_21 : decode prog_8_method_47_code 21 = .ok (.iload_n 1, 1) := by decide +kernel
theorem d_Mod_isOther_22 : decode prog_8_method_47_code 22 = .ok (.iadd, 1) := by decide +kernel
theorem d_Mod_isOther_23 : decode prog_8_method_47_code 23 = .ok (.iaload, 1) := by decide +kernel
theorem d_Mod_isOther_24 : decode prog_8_method_47_code 24 = .ok (.aload_n 0, 1) := by decide +kernel
theorem d_Mod_isOther_25 : decode prog_8_method_47_code 25 = .ok (.getfield 13, 3) := by decide +kernel
theorem d_Mod_isOther_28 : decode prog_8_method_47_code 28 = .ok (.iload_n 1, 1) := by decide +kernel
theorem d_Mod_isOther_29 : decode prog_8_method_47_code 29 = .ok (.iaload, 1) := by decide +kernel
theorem d_Mod_isOther_30 : decode prog_8_method_47_code 30 = .ok (.if_icmp .ne (58), 3) := by decide +kernel
theorem d_Mod_isOther_33 : decode prog_8_method_47_code 33 = .ok (.aload_n 0, 1) := by decide +kernel
theorem d_Mod_isOther_34 : decode prog_8_method_47_code 34 = .ok (.getfield 63, 3) := by decide +kernel
theorem d_Mod_isOther_37 : decode prog_8_method_47_code 37 = .ok (.bipush (80), 2) := by decide +kernel
theorem d_Mod_isOther_39 : decode prog_8_method_47_code 39 = .ok (.iload_n 1, 1) := by decide +kernel
theorem d_Mod_isOther_40 : decode prog_8_method_47_code 40 = .ok (.iadd, 1) := by decide +kernel
theorem d_Mod_isOther_41 : decode prog_8_method_47_code 41 = .ok (.iaload, 1) := by decide +kernel
theorem d_Mod_isOther_42 : decode prog_8_method_47_code 42 = .ok (.aload_n 0, 1) := by decide +kernel
theorem d_Mod_isOther_43 : decode prog_8_method_47_code 43 = .ok (.getfield 16, 3) := by decide +kernel
theorem d_Mod_isOther_46 : decode prog_8_method_47_code 46 = .ok (.iload_n 1, 1) := by decide +kernel
theorem d_Mod_isOther_47 : decode prog_8_method_47_code 47 = .ok (.iaload, 1) := by decide +kernel
theorem d_Mod_isOther_48 : decode prog_8_method_47_code 48 = .ok (.if_icmp .ne (40), 3) := by decide +kernel
theorem d_Mod_isOther_51 : decode prog_8_method_47_code 51 = .ok (.aload_n 0, 1) := by decide +kernel
theorem d_Mod_isOther_52 : decode prog_8_method_47_code 52 = .ok (.getfield 63, 3) := by decide +kernel
theorem d_Mod_isOther_55 : decode prog_8_method_47_code 55 = .ok (.bipush (120), 2) := by decide +kernel
theorem d_Mod_isOther_57 : decode prog_8_method_47_code 57 = .ok (.iload_n 1, 1) := by decide +kernel
theorem d_Mod_isOther_58 : decode prog_8_method_47_code 58 = .ok (.iadd, 1) := by decide +kernel
theorem d_Mod_isOther_59 : decode prog_8_method_47_code 59 = .ok (.iaload, 1) := by decide +kernel
theorem d_Mod_isOther_60 : decode prog_8_method_47_code 60 = .ok (.aload_n 0, 1) := by decide +kernel
theorem d_Mod_isOther_61 : decode prog_8_method_47_code 61 = .ok (.getfield 19, 3) := by decide +kernel
theorem d_Mod_isOther_64 : decode prog_8_method_47_code 64 = .ok (.iload_n 1, 1) := by decide +kernel
theorem d_Mod_isOther_65 : decode prog_8_method_47_code 65 = .ok (.iaload, 1) := by decide +kernel
theorem d_Mod_isOther_66 : decode prog_8_method_47_code 66 = .ok (.if_icmp .ne (22), 3) := by decide +kernel
theorem d_Mod_isOther_69 : decode prog_8_method_47_code 69 = .ok (.aload_n 0, 1) := by decide +kernel
theorem d_Mod_isOther_70 : decode prog_8_method_47_code 70 = .ok (.getfield 63, 3) := by decide +kernel
theorem d_Mod_isOther_73 : decode prog_8_method_47_code 73 = .ok (.sipush (160), 3) := by decide +kernel
theorem d_Mod_isOther_76 : decode prog_8_method_47_code 76 = .ok (.iload_n 1, 1) := by decide +kernel
theorem d_Mod_isOther_77 : decode prog_8_method_47_code 77 = .ok (.iadd, 1) := by decide +kernel
theorem d_Mod_isOther_78 : decode prog_8_method_47_code 78 = .ok (.iaload, 1) := by decide +kernel
theorem d_Mod_isOther_79 : decode prog_8_method_47_code 79 = .ok (.aload_n 0, 1) := by decide +kernel
theorem d_Mod_isOther_80 : decode prog_8_method_47_code 80 = .ok (.getfield 22, 3) := by decide +kernel
theorem d_Mod_isOther_83 : decode prog_8_method_47_code 83 = .ok (.iload_n 1, 1) := by decide +kernel
theorem d_Mod_isOther_84 : decode prog_8_method_47_code 84 = .ok (.iaload, 1) := by decide +kernel
theorem d_Mod_isOther_85 : decode prog_8_method_47_code 85 = .ok (.if_icmp .eq (7), 3) := by decide +kernel
theorem d_Mod_isOther_88 : decode prog_8_method_47_code 88 = .ok (.iconst 1, 1) := by decide +kernel
theorem d_Mod_isOther_89 : decode prog_8_method_47_code 89 = .ok (.goto (4), 3) := by decide +kernel
theorem d_Mod_isOther_92 : decode prog_8_method_47_code 92 = .ok (.iconst 0, 1) := by decide +kernel
theorem d_Mod_isOther_93 : decode prog_8_method_47_code 93 = .ok (.istore_n 2, 1) := by decide +kernel
theorem d_Mod_isOther_94 : decode prog_8_method_47_code 94 = .ok (.bipush (8), 2) := by decide +kernel
theorem d_Mod_isOther_96 : decode prog_8_method_47_code 96 = .ok (.iload_n 1, 1) := by decide +kernel
theorem d_Mod_isOther_97 : decode prog_8_method_47_code 97 = .ok (.imul, 1) := by decide +kernel
theorem d_Mod_isOther_98 : decode prog_8_method_47_code 98 = .ok (.istore_n 3, 1) := by decide +kernel
theorem d_Mod_isOther_99 : decode prog_8_method_47_code 99 = .ok (.iload_n 3, 1) := by decide +kernel
theorem d_Mod_isOther_100 : decode prog_8_method_47_code 100 = .ok (.bipush (8), 2) := by decide +kernel
theorem d_Mod_isOther_102 : decode prog_8_method_47_code 102 = .ok (.iload_n 1, 1) := by decide +kernel
theorem d_Mod_isOther_103 : decode prog_8_method_47_code 103 = .ok (.imul, 1) := by decide +kernel
theorem d_Mod_isOther_104 : decode prog_8_method_47_code 104 = .ok (.bipush (8), 2) := by decide +kernel
theorem d_Mod_isOther_106 : decode prog_8_method_47_code 106 = .ok (.iadd, 1) := by decide +kernel
theorem d_Mod_isOther_107 : decode prog_8_method_47_code 107 = .ok (.if_icmp .ge (38), 3) := by decide +kernel
theorem d_Mod_isOther_110 : decode prog_8_method_47_code 110 = .ok (.iload_n 2, 1) := by decide +kernel
theorem d_Mod_isOther_111 : decode prog_8_method_47_code 111 = .ok (.ifCond .ne (22), 3) := by decide +kernel
theorem d_Mod_isOther_114 : decode prog_8_method_47_code 114 = .ok (.aload_n 0, 1) := by decide +kernel
theorem d_Mod_isOther_115 : decode prog_8_method_47_code 115 = .ok (.getfield 63, 3) := by decide +kernel
theorem d_Mod_isOther_118 : decode prog_8_method_47_code 118 = .ok (.sipush (200), 3) := by decide +kernel
theorem d_Mod_isOther_121 : decode prog_8_method_47_code 121 = .ok (.iload_n 3, 1) := by decide +kernel
theorem d_Mod_isOther_122 : decode prog_8_method_47_code 122 = .ok (.iadd, 1) := by decide +kernel
theorem d_Mod_isOther_123 : decode prog_8_method_47_code 123 = .ok (.iaload, 1) := by decide +kernel
theorem d_Mod_isOther_124 : decode prog_8_method_47_code 124 = .ok (.aload_n 0, 1) := by decide +kernel
theorem d_Mod_isOther_125 : decode prog_8_method_47_code 125 = .ok (.getfield 25, 3) := by decide +kernel
theorem d_Mod_isOther_128 : decode prog_8_method_47_code 128 = .ok (.iload_n 3, 1) := by decide +kernel
theorem d_Mod_isOther_129 : decode prog_8_method_47_code 129 = .ok (.iaload, 1) := by decide +kernel
theorem d_Mod_isOther_130 : decode prog_8_method_47_code 130 = .ok (.if_icmp .eq (7), 3) := by decide +kernel
theorem d_Mod_isOther_133 : decode prog_8_method_47_code 133 = .ok (.iconst 1, 1) := by decide +kernel
theorem d_Mod_isOther_134 : decode prog_8_method_47_code 134 = .ok (.goto (4), 3) := by decide +kernel
theorem d_Mod_isOther_137 : decode prog_8_method_47_code 137 = .ok (.iconst 0, 1) := by decide +kernel
theorem d_Mod_isOther_138 : decode prog_8_method_47_code 138 = .ok (.istore_n 2, 1) := by decide +kernel
theorem d_Mod_isOther_139 : decode prog_8_method_47_code 139 = .ok (.iinc 3 (1), 3) := by decide +kernel
theorem d_Mod_isOther_142 : decode prog_8_method_47_code 142 = .ok (.goto (-43), 3) := by decide +kernel
theorem d_Mod_isOther_145 : decode prog_8_method_47_code 145 = .ok (.iload_n 2, 1) := by decide +kernel
theorem d_Mod_isOther_146 : decode prog_8_method_47_code 146 = .ok (.ireturn, 1) := by decide +kernel
theorem d_Mod_lowestFree_0 : decode prog_8_method_48_code 0 = .ok (.iconst (-1), 1) := by decide +kernel
theorem d_Mod_lowestFree_1 : decode prog_8_method_48_code 1 = .ok (.istore_n 1, 1) := by decide +kernel
theorem d_Mod_lowestFree_2 : decode prog_8_method_48_code 2 = .ok (.bipush (39), 2) := by decide +kernel
theorem d_Mod_lowestFree_4 : decode prog_8_method_48_code 4 = .ok (.istore_n 2, 1) := by decide +kernel
theorem d_Mod_lowestFree_5 : decode prog_8_method_48_code 5 = .ok (.iload_n 2, 1) := by decide +kernel
theorem d_Mod_lowestFree_6 : decode prog_8_method_48_code 6 = .ok (.ifCond .lt (23), 3) := by decide +kernel
theorem d_Mod_lowestFree_9 : decode prog_8_method_48_code 9 = .ok (.aload_n 0, 1) := by decide +kernel
theorem d_Mod_lowestFree_10 : decode prog_8_method_48_code 10 = .ok (.iload_n 2, 1) := by decide +kernel
theorem d_Mod_lowestFree_11 : decode prog_8_method_48_code 11 = .ok (.invokevirtual 138, 3) := by decide +kernel
theorem d_Mod_lowestFree_14 : decode prog_8_method_48_code 14 = .ok (.ifCond .eq (7), 3) := by decide +kernel
theorem d_Mod_lowestFree_17 : decode prog_8_method_48_code 17 = .ok (.iload_n 2, 1) := by decide +kernel
theorem d_Mod_lowestFree_18 : decode prog_8_method_48_code 18 = .ok (.goto (4), 3) := by decide +kernel
theorem d_Mod_lowestFree_21 : decode prog_8_method_48_code 21 = .ok (.iload_n 1, 1) := by decide +kernel
theorem d_Mod_lowestFree_22 : decode prog_8_method_48_code 22 = .ok (.istore_n 1, 1) := by decide +kernel
theorem d_Mod_lowestFree_23 : decode prog_8_method_48_code 23 = .ok (.iinc 2 (-1), 3) := by decide +kernel
theorem d_Mod_lowestFree_26 : decode prog_8_method_48_code 26 = .ok (.goto (-21), 3) := by decide +kernel
theorem d_Mod_lowestFree_29 : decode prog_8_method_48_code 29 = .ok (.iload_n 1, 1) := by decide +kernel
theorem d_Mod_lowestFree_30 : decode prog_8_method_48_code 30 = .ok (.ireturn, 1) := by decide +kernel
theorem d_Mod_lose_0 : decode prog_8_method_49_code 0 = .ok (.aload_n 0, 1) := by decide +kernel
theorem d_Mod_lose_1 : decode prog_8_method_49_code 1 = .ok (.iload_n 1, 1) := by decide +kernel
theorem d_Mod_lose_2 : decode prog_8_method_49_code 2 = .ok (.invokevirtual 125, 3) := by decide +kernel
theorem d_Mod_lose_5 : decode prog_8_method_49_code 5 = .ok (.aload_n 0, 1) := by decide +kernel
theorem d_Mod_lose_6 : decode prog_8_method_49_code 6 = .ok (.getfield 42, 3) := by decide +kernel
theorem d_Mod_lose_9 : decode prog_8_method_49_code 9 = .ok (.iconst 1, 1) := by decide +kernel
theorem d_Mod_lose_10 : decode prog_8_method_49_code 10 = .ok (.aload_n 0, 1) := by decide +kernel
theorem d_Mod_lose_11 : decode prog_8_method_49_code 11 = .ok (.getfield 42, 3) := by decide +kernel
theorem d_Mod_lose_14 : decode prog_8_method_49_code 14 = .ok (.iconst 1, 1) := by decide +kernel
theorem d_Mod_lose_15 : decode prog_8_method_49_code 15 = .ok (.iaload, 1) := by decide +kernel
theorem d_Mod_lose_16 : decode prog_8_method_49_code 16 = .ok (.iconst 1, 1) := by decide +kernel
theorem d_Mod_lose_17 : decode prog_8_method_49_code 17 = .ok (.iadd, 1) := by decide +kernel
theorem d_Mod_lose_18 : decode prog_8_method_49_code 18 = .ok (.iastore, 1) := by decide +kernel
theorem d_Mod_lose_19 : decode prog_8_method_49_code 19 = .ok (.return_, 1) := by decide +kernel
theorem d_Mod_keep_0 : decode prog_8_method_50_code 0 = .ok (.aload_n 0, 1) := by decide +kernel
theorem d_Mod_keep_1 : decode prog_8_method_50_code 1 = .ok (.getfield 48, 3) := by decide +kernel
theorem d_Mod_keep_4 : decode prog_8_method_50_code 4 = .ok (.bipush (40), 2) := by decide +kernel
theorem d_Mod_keep_6 : decode prog_8_method_50_code 6 = .ok (.iload_n 1, 1) := by decide +kernel
theorem d_Mod_keep_7 : decode prog_8_method_50_code 7 = .ok (.imul, 1) := by decide +kernel
theorem d_Mod_keep_8 : decode prog_8_method_50_code 8 = .ok (.aload_n 0, 1) := by decide +kernel
theorem d_Mod_keep_9 : decode prog_8_method_50_code 9 = .ok (.iload_n 1, 1) := by decide +kernel
theorem d_Mod_keep_10 : decode prog_8_method_50_code 10 = .ok (.iconst 0, 1) := by decide +kernel
theorem d_Mod_keep_11 : decode prog_8_method_50_code 11 = .ok (.invokevirtual 86, 3) := by decide +kernel
theorem d_Mod_keep_14 : decode prog_8_method_50_code 14 = .ok (.iconst 1, 1) := by decide +kernel
theorem d_Mod_keep_15 : decode prog_8_method_50_code 15 = .ok (.iadd, 1) := by decide +kernel
theorem d_Mod_keep_16 : decode prog_8_method_50_code 16 = .ok (.iastore, 1) := by decide +kernel
theorem d_Mod_keep_17 : decode prog_8_method_50_code 17 = .ok (.aload_n 0, 1) := by decide +kernel
theorem d_Mod_keep_18 : decode prog_8_method_50_code 18 = .ok (.getfield 51, 3) := by decide +kernel
theorem d_Mod_keep_21 : decode prog_8_method_50_code 21 = .ok (.iload_n 1, 1) := by decide +kernel
theorem d_Mod_keep_22 : decode prog_8_method_50_code 22 = .ok (.iconst 0, 1) := by decide +kernel
theorem d_Mod_keep_23 : decode prog_8_method_50_code 23 = .ok (.iastore, 1) := by decide +kernel
theorem d_Mod_keep_24 : decode prog_8_method_50_code 24 = .ok (.iconst 1, 1) := by decide +kernel
theorem d_Mod_keep_25 : decode prog_8_method_50_code 25 = .ok (.istore_n 2, 1) := by decide +kernel
theorem d_Mod_keep_26 : decode prog_8_method_50_code 26 = .ok (.iconst 1, 1) := by decide +kernel
theorem d_Mod_keep_27 : decode prog_8_method_50_code 27 = .ok (.istore_n 3, 1) := by decide +kernel
theorem d_Mod_keep_28 : decode prog_8_method_50_code 28 = .ok (.iload_n 3, 1) := by decide +kernel
theorem d_Mod_keep_29 : decode prog_8_method_50_code 29 = .ok (.bipush (40), 2) := by decide +kernel
theorem d_Mod_keep_31 : decode prog_8_method_50_code 31 = .ok (.if_icmp .ge (104), 3) := by decide +kernel
theorem d_Mod_keep_34 : decode prog_8_method_50_code 34 = .ok (.iload_n 2, 1) := by decide +kernel
theorem d_Mod_keep_35 : decode prog_8_method_50_code 35 = .ok (.ifCond .eq (100), 3) := by decide +kernel
theorem d_Mod_keep_38 : decode prog_8_method_50_code 38 = .ok (.iload_n 1, 1) := by decide +kernel
theorem d_Mod_keep_39 : decode prog_8_method_50_code 39 = .ok (.iconst 2, 1) := by decide +kernel
theorem d_Mod_keep_40 : decode prog_8_method_50_code 40 = .ok (.if_icmp .ne (8), 3) := by decide +kernel
theorem d_Mod_keep_43 : decode prog_8_method_50_code 43 = .ok (.iload_n 3, 1) := by decide +kernel
theorem d_Mod_keep_44 : decode prog_8_method_50_code 44 = .ok (.iconst 1, 1) := by decide +kernel
theorem d_Mod_keep_45 : decode prog_8_method_50_code 45 = .ok (.if_icmp .gt (26), 3) := by decide +kernel
theorem d_Mod_keep_48 : decode prog_8_method_50_code 48 = .ok (.iload_n 3, 1) := by decide +kernel
theorem d_Mod_keep_49 : decode prog_8_method_50_code 49 = .ok (.iconst 1, 1) := by decide +kernel
theorem d_Mod_keep_50 : decode prog_8_method_50_code 50 = .ok (.if_icmp .le (25), 3) := by decide +kernel
theorem d_Mod_keep_53 : decode prog_8_method_50_code 53 = .ok (.aload_n 0, 1) := by decide +kernel
theorem d_Mod_keep_54 : decode prog_8_method_50_code 54 = .ok (.getfield 16, 3) := by decide +kernel
theorem d_Mod_keep_57 : decode prog_8_method_50_code 57 = .ok (.aload_n 0, 1) := by decide +kernel
theorem d_Mod_keep_58 : decode prog_8_method_50_code 58 = .ok (.iload_n 1, 1) := by decide +kernel
theorem d_Mod_keep_59 : decode prog_8_method_50_code 59 = .ok (.iload_n 3, 1) := by decide +kernel
theorem d_Mod_keep_60 : decode prog_8_method_50_code 60 = .ok (.iconst 1, 1) := by decide +kernel
theorem d_Mod_keep_61 : decode prog_8_method_50_code 61 = .ok (.isub, 1) := by decide +kernel
theorem d_Mod_keep_62 : decode prog_8_method_50_code 62 = .ok (.invokevirtual 214, 3) := by decide +kernel
theorem d_Mod_keep_65 : decode prog_8_method_50_code 65 = .ok (.iaload, 1) := by decide +kernel
theorem d_Mod_keep_66 : decode prog_8_method_50_code 66 = .ok (.bipush (8), 2) := by decide +kernel
theorem d_Mod_keep_68 : decode prog_8_method_50_code 68 = .ok (.if_icmp .ge (7), 3) := by decide +kernel
theorem d_Mod_keep_71 : decode prog_8_method_50_code 71 = .ok (.iconst (-1), 1) := by decide +kernel
theorem d_Mod_keep_72 : decode prog_8_method_50_code 72 = .ok (.goto (9), 3) := by decide +kernel
theorem d_Mod_keep_75 : decode prog_8_method_50_code 75 = .ok (.aload_n 0, 1) := by decide +kernel
theorem d_Mod_keep_76 : decode prog_8_method_50_code 76 = .ok (.iload_n 1, 1) := by decide +kernel
theorem d_Mod_keep_77 : decode prog_8_method_50_code 77 = .ok (.iload_n 3, 1) := by decide +kernel
theorem d_Mod_keep_78 : decode prog_8_method_50_code 78 = .ok (.invokevirtual 86, 3) := by decide +kernel
theorem d_Mod_keep_81 : decode prog_8_method_50_code 81 = .ok (.istore 4, 2) := by decide +kernel
theorem d_Mod_keep_83 : decode prog_8_method_50_code 83 = .ok (.iload 4, 2) := by decide +kernel
theorem d_Mod_keep_85 : decode prog_8_method_50_code 85 = .ok (.ifCond .lt (7), 3) := by decide +kernel
theorem d_Mod_keep_88 : decode prog_8_method_50_code 88 = .ok (.iconst 1, 1) := by decide +kernel
theorem d_Mod_keep_89 : decode prog_8_method_50_code 89 = .ok (.goto (4), 3) := by decide +kernel
theorem d_Mod_keep_92 : decode prog_8_method_50_code 92 = .ok (.iconst 0, 1) := by decide +kernel
theorem d_Mod_keep_93 : decode prog_8_method_50_code 93 = .ok (.istore_n 2, 1) := by decide +kernel
theorem d_Mod_keep_94 : decode prog_8_method_50_code 94 = .ok (.aload_n 0, 1) := by decide +kernel
theorem d_Mod_keep_95 : decode prog_8_method_50_code 95 = .ok (.getfield 48, 3) := by decide +kernel
theorem d_Mod_keep_98 : decode prog_8_method_50_code 98 = .ok (.bipush (40), 2) := by decide +kernel
theorem d_Mod_keep_100 : decode prog_8_method_50_code 100 = .ok (.iload_n 1, 1) := by decide +kernel
theorem d_Mod_keep_101 : decode prog_8_method_50_code 101 = .ok (.imul, 1) := by decide +kernel
theorem d_Mod_keep_102 : decode prog_8_method_50_code 102 = .ok (.iload_n 3, 1) := by decide +kernel
theorem d_Mod_keep_103 : decode prog_8_method_50_code 103 = .ok (.iadd, 1) := by decide +kernel
theorem d_Mod_keep_104 : decode prog_8_method_50_code 104 = .ok (.iload 4, 2) := by decide +kernel
theorem d_Mod_keep_106 : decode prog_8_method_50_code 106 = .ok (.iconst 1, 1) := by decide +kernel
theorem d_Mod_keep_107 : decode prog_8_method_50_code 107 = .ok (.iadd, 1) := by decide +kernel
theorem d_Mod_keep_108 : decode prog_8_method_50_code 108 = .ok (.iastore, 1) := by decide +kernel
theorem d_Mod_keep_109 : decode prog_8_method_50_code 109 = .ok (.aload_n 0, 1) := by decide +kernel
theorem d_Mod_keep_110 : decode prog_8_method_50_code 110 = .ok (.getfield 51, 3) := by decide +kernel
theorem d_Mod_keep_113 : decode prog_8_method_50_code 113 = .ok (.iload_n 1, 1) := by decide +kernel
theorem d_Mod_keep_114 : decode prog_8_method_50_code 114 = .ok (.iload_n 2, 1) := by decide +kernel
theorem d_Mod_keep_115 : decode prog_8_method_50_code 115 = .ok (.ifCond .eq (7), 3) := by decide +kernel
theorem d_Mod_keep_118 : decode prog_8_method_50_code 118 = .ok (.iload_n 3, 1) := by decide +kernel
theorem d_Mod_keep_119 : decode prog_8_method_50_code 119 = .ok (.goto (9), 3) := by decide +kernel
theorem d_Mod_keep_122 : decode prog_8_method_50_code 122 = .ok (.aload_n 0, 1) := by decide +kernel
theorem d_Mod_keep_123 : decode prog_8_method_50_code 123 = .ok (.getfield 51, 3) := by decide +kernel
theorem d_Mod_keep_126 : decode prog_8_method_50_code 126 = .ok (.iload_n 1, 1) := by decide +kernel
theorem d_Mod_keep_127 : decode prog_8_method_50_code 127 = .ok (.iaload, 1) := by decide +kernel
theorem d_Mod_keep_128 : decode prog_8_method_50_code 128 = .ok (.iastore, 1) := by decide +kernel
theorem d_Mod_keep_129 : decode prog_8_method_50_code 129 = .ok (.iinc 3 (1), 3) := by decide +kernel
theorem d_Mod_keep_132 : decode prog_8_method_50_code 132 = .ok (.goto (-104), 3) := by decide +kernel
theorem d_Mod_keep_135 : decode prog_8_method_50_code 135 = .ok (.return_, 1) := by decide +kernel
theorem d_Mod_isKept_0 : decode prog_8_method_51_code 0 = .ok (.aload_n 0, 1) := by decide +kernel
theorem d_Mod_isKept_1 : decode prog_8_method_51_code 1 = .ok (.getfield 7, 3) := by decide +kernel
theorem d_Mod_isKept_4 : decode prog_8_method_51_code 4 = .ok (.iload_n 1, 1) := by decide +kernel
theorem d_Mod_isKept_5 : decode prog_8_method_51_code 5 = .ok (.iaload, 1) := by decide +kernel
theorem d_Mod_isKept_6 : decode prog_8_method_51_code 6 = .ok (.istore_n 2, 1) := by decide +kernel
theorem d_Mod_isKept_7 : decode prog_8_method_51_code 7 = .ok (.aload_n 0, 1) := by decide +kernel
theorem d_Mod_isKept_8 : decode prog_8_method_51_code 8 = .ok (.getfield 13, 3) := by decide +kernel
theorem d_Mod_isKept_11 : decode prog_8_method_51_code 11 = .ok (.iload_n 1, 1) := by decide +kernel
theorem d_Mod_isKept_12 : decode prog_8_method_51_code 12 = .ok (.iaload, 1) := by decide +kernel
theorem d_Mod_isKept_13 : decode prog_8_method_51_code 13 = .ok (.istore_n 3, 1) := by decide +kernel
theorem d_Mod_isKept_14 : decode prog_8_method_51_code 14 = .ok (.iload_n 2, 1) := by decide +kernel
theorem d_Mod_isKept_15 : decode prog_8_method_51_code 15 = .ok (.iconst 1, 1) := by decide +kernel
theorem d_Mod_isKept_16 : decode prog_8_method_51_code 16 = .ok (.bipush (60), 2) := by decide +kernel
theorem d_Mod_isKept_18 : decode prog_8_method_51_code 18 = .ok (.invokestatic 73, 3) := by decide +kernel
theorem d_Mod_isKept_21 : decode prog_8_method_51_code 21 = .ok (.ifCond .eq (34), 3) := by decide +kernel
theorem d_Mod_isKept_24 : decode prog_8_method_51_code 24 = .ok (.iload_n 3, 1) := by decide +kernel
theorem d_Mod_isKept_25 : decode prog_8_method_51_code 25 = .ok (.aload_n 0, 1) := by decide +kernel
theorem d_Mod_isKept_26 : decode prog_8_method_51_code 26 = .ok (.getfield 51, 3) := by decide +kernel
theorem d_Mod_isKept_29 : decode prog_8_method_51_code 29 = .ok (.iload_n 2, 1) := by decide +kernel
theorem d_Mod_isKept_30 : decode prog_8_method_51_code 30 = .ok (.iaload, 1) := by decide +kernel
theorem d_Mod_isKept_31 : decode prog_8_method_51_code 31 = .ok (.if_icmp .gt (24), 3) := by decide +kernel
theorem d_Mod_isKept_34 : decode prog_8_method_51_code 34 = .ok (.aload_n 0, 1) := by decide +kernel
theorem d_Mod_isKept_35 : decode prog_8_method_51_code 35 = .ok (.getfield 48, 3) := by decide +kernel
theorem d_Mod_isKept_38 : decode prog_8_method_51_code 38 = .ok (.bipush (40), 2) := by decide +kernel
theorem d_Mod_isKept_40 : decode prog_8_method_51_code 40 = .ok (.iload_n 2, 1) := by decide +kernel
theorem d_Mod_isKept_41 : decode prog_8_method_51_code 41 = .ok (.imul, 1) := by decide +kernel
theorem d_Mod_isKept_42 : decode prog_8_method_51_code 42 = .ok (.iload_n 3, 1) := by decide +kernel
theorem d_Mod_isKept_43 : decode prog_8_method_51_code 43 = .ok (.iadd, 1) := by decide +kernel
theorem d_Mod_isKept_44 : decode prog_8_method_51_code 44 = .ok (.iaload, 1) := by decide +kernel
theorem d_Mod_isKept_45 : decode prog_8_method_51_code 45 = .ok (.iload_n 1, 1) := by decide +kernel
theorem d_Mod_isKept_46 : decode prog_8_method_51_code 46 = .ok (.iconst 1, 1) := by decide +kernel
theorem d_Mod_isKept_47 : decode prog_8_method_51_code 47 = .ok (.iadd, 1) := by decide +kernel
theorem d_Mod_isKept_48 : decode prog_8_method_51_code 48 = .ok (.if_icmp .ne (7), 3) := by decide +kernel
theorem d_Mod_isKept_51 : decode prog_8_method_51_code 51 = .ok (.iconst 1, 1) := by decide +kernel
theorem d_Mod_isKept_52 : decode prog_8_method_51_code 52 = .ok (.goto (4), 3) := by decide +kernel
theorem d_Mod_isKept_55 : decode prog_8_method_51_code 55 = .ok (.iconst 0, 1) := by decide +kernel
theorem d_Mod_isKept_56 : decode prog_8_method_51_code 56 = .ok (.ireturn, 1) := by decide +kernel
theorem d_Mod_losePages_0 : decode prog_8_method_52_code 0 = .ok (.iconst 1, 1) := by decide +kernel
theorem d_Mod_losePages_1 : decode prog_8_method_52_code 1 = .ok (.istore_n 2, 1) := by decide +kernel
theorem d_Mod_losePages_2 : decode prog_8_method_52_code 2 = .ok (.iload_n 2, 1) := by decide +kernel
theorem d_Mod_losePages_3 : decode prog_8_method_52_code 3 = .ok (.aload_n 0, 1) := by decide +kernel
theorem d_Mod_losePages_4 : decode prog_8_method_52_code 4 = .ok (.getfield 51, 3) := by decide +kernel
theorem d_Mod_losePages_7 : decode prog_8_method_52_code 7 = .ok (.iload_n 1, 1) := by decide +kernel
theorem d_Mod_losePages_8 : decode prog_8_method_52_code 8 = .ok (.iaload, 1) := by decide +kernel
theorem d_Mod_losePages_9 : decode prog_8_method_52_code 9 = .ok (.if_icmp .gt (19), 3) := by decide +kernel
theorem d_Mod_losePages_12 : decode prog_8_method_52_code 12 = .ok (.aload_n 0, 1) := by decide +kernel
theorem d_Mod_losePages_13 : decode prog_8_method_52_code 13 = .ok (.aload_n 0, 1) := by decide +kernel
theorem d_Mod_losePages_14 : decode prog_8_method_52_code 14 = .ok (.iload_n 1, 1) := by decide +kernel
theorem d_Mod_losePages_15 : decode prog_8_method_52_code 15 = .ok (.iload_n 2, 1) := by decide +kernel
theorem d_Mod_losePages_16 : decode prog_8_method_52_code 16 = .ok (.invokevirtual 214, 3) := by decide +kernel
theorem d_Mod_losePages_19 : decode prog_8_method_52_code 19 = .ok (.invokevirtual 217, 3) := by decide +kernel
theorem d_Mod_losePages_22 : decode prog_8_method_52_code 22 = .ok (.iinc 2 (1), 3) := by decide +kernel
theorem d_Mod_losePages_25 : decode prog_8_method_52_code 25 = .ok (.goto (-23), 3) := by decide +kernel
theorem d_Mod_losePages_28 : decode prog_8_method_52_code 28 = .ok (.aload_n 0, 1) := by decide +kernel
theorem d_Mod_losePages_29 : decode prog_8_method_52_code 29 = .ok (.getfield 51, 3) := by decide +kernel
theorem d_Mod_losePages_32 : decode prog_8_method_52_code 32 = .ok (.iload_n 1, 1) := by decide +kernel
theorem d_Mod_losePages_33 : decode prog_8_method_52_code 33 = .ok (.iconst 0, 1) := by decide +kernel
theorem d_Mod_losePages_34 : decode prog_8_method_52_code 34 = .ok (.iastore, 1) := by decide +kernel
theorem d_Mod_losePages_35 : decode prog_8_method_52_code 35 = .ok (.return_, 1) := by decide +kernel
theorem d_Mod_crown_0 : decode prog_8_method_53_code 0 = .ok (.aload_n 0, 1) := by decide +kernel
theorem d_Mod_crown_1 : decode prog_8_method_53_code 1 = .ok (.invokevirtual 220, 3) := by decide +kernel
theorem d_Mod_crown_4 : decode prog_8_method_53_code 4 = .ok (.istore 4, 2) := by decide +kernel
theorem d_Mod_crown_6 : decode prog_8_method_53_code 6 = .ok (.iload 4, 2) := by decide +kernel
theorem d_Mod_crown_8 : decode prog_8_method_53_code 8 = .ok (.ifCond .lt (39), 3) := by decide +kernel
theorem d_Mod_crown_11 : decode prog_8_method_53_code 11 = .ok (.aload_n 0, 1) := by decide +kernel
theorem d_Mod_crown_12 : decode prog_8_method_53_code 12 = .ok (.iload 4, 2) := by decide +kernel
theorem d_Mod_crown_14 : decode prog_8_method_53_code 14 = .ok (.iload_n 1, 1) := by decide +kernel
theorem d_Mod_crown_15 : decode prog_8_method_53_code 15 = .ok (.iload_n 2, 1) := by decide +kernel
theorem d_Mod_crown_16 : decode prog_8_method_53_code 16 = .ok (.iload_n 3, 1) := by decide +kernel
theorem d_Mod_crown_17 : decode prog_8_method_53_code 17 = .ok (.invokevirtual 155, 3) := by decide +kernel
theorem d_Mod_crown_20 : decode prog_8_method_53_code 20 = .ok (.aload_n 0, 1) := by decide +kernel
theorem d_Mod_crown_21 : decode prog_8_method_53_code 21 = .ok (.getfield 48, 3) := by decide +kernel
theorem d_Mod_crown_24 : decode prog_8_method_53_code 24 = .ok (.bipush (40), 2) := by decide +kernel
theorem d_Mod_crown_26 : decode prog_8_method_53_code 26 = .ok (.iload_n 1, 1) := by decide +kernel
theorem d_Mod_crown_27 : decode prog_8_method_53_code 27 = .ok (.imul, 1) := by decide +kernel
theorem d_Mod_crown_28 : decode prog_8_method_53_code 28 = .ok (.iload 4, 2) := by decide +kernel
theorem d_Mod_crown_30 : decode prog_8_method_53_code 30 = .ok (.iconst 1, 1) := by decide +kernel
theorem d_Mod_crown_31 : decode prog_8_method_53_code 31 = .ok (.iadd, 1) := by decide +kernel
theorem d_Mod_crown_32 : decode prog_8_method_53_code 32 = .ok (.iastore, 1) := by decide +kernel
theorem d_Mod_crown_33 : decode prog_8_method_53_code 33 = .ok (.aload_n 0, 1) := by decide +kernel
theorem d_Mod_crown_34 : decode prog_8_method_53_code 34 = .ok (.getfield 42, 3) := by decide +kernel
theorem d_Mod_crown_37 : decode prog_8_method_53_code 37 = .ok (.iconst 2, 1) := by decide +kernel
theorem d_Mod_crown_38 : decode prog_8_method_53_code 38 = .ok (.aload_n 0, 1) := by decide +kernel
theorem d_Mod_crown_39 : decode prog_8_method_53_code 39 = .ok (.getfield 42, 3) := by decide +kernel
theorem d_Mod_crown_42 : decode prog_8_method_53_code 42 = .ok (.iconst 2, 1) := by decide +kernel
theorem d_Mod_crown_43 : decode prog_8_method_53_code 43 = .ok (.iaload, 1) := by decide +kernel
theorem d_Mod_crown_44 : decode prog_8_method_53_code 44 = .ok (.iconst 1, 1) := by decide +kernel
theorem d_Mod_crown_45 : decode prog_8_method_53_code 45 = .ok (.iadd, 1) := by decide +kernel
theorem d_Mod_crown_46 : decode prog_8_method_53_code 46 = .ok (.iastore, 1) := by decide +kernel
theorem d_Mod_crown_47 : decode prog_8_method_53_code 47 = .ok (.return_, 1) := by decide +kernel
theorem d_Mod_heads_0 : decode prog_8_method_54_code 0 = .ok (.iconst 3, 1) := by decide +kernel
theorem d_Mod_heads_1 : decode prog_8_method_54_code 1 = .ok (.istore_n 1, 1) := by decide +kernel
theorem d_Mod_heads_2 : decode prog_8_method_54_code 2 = .ok (.iload_n 1, 1) := by decide +kernel
theorem d_Mod_heads_3 : decode prog_8_method_54_code 3 = .ok (.bipush (61), 2) := by decide +kernel
theorem d_Mod_heads_5 : decode prog_8_method_54_code 5 = .ok (.if_icmp .ge (50), 3) := by decide +kernel
theorem d_Mod_heads_8 : decode prog_8_method_54_code 8 = .ok (.aload_n 0, 1) := by decide +kernel
theorem d_Mod_heads_9 : decode prog_8_method_54_code 9 = .ok (.iload_n 1, 1) := by decide +kernel
theorem d_Mod_heads_10 : decode prog_8_method_54_code 10 = .ok (.invokevirtual 223, 3) := by decide +kernel
theorem d_Mod_heads_13 : decode prog_8_method_54_code 13 = .ok (.ifCond .ge (36), 3) := by decide +kernel
theorem d_Mod_heads_16 : decode prog_8_method_54_code 16 = .ok (.aload_n 0, 1) := by decide +kernel
theorem d_Mod_heads_17 : decode prog_8_method_54_code 17 = .ok (.getfield 51, 3) := by decide +kernel
theorem d_Mod_heads_20 : decode prog_8_method_54_code 20 = .ok (.iload_n 1, 1) := by decide +kernel
theorem d_Mod_heads_21 : decode prog_8_method_54_code 21 = .ok (.iaload, 1) := by decide +kernel
theorem d_Mod_heads_22 : decode prog_8_method_54_code 22 = .ok (.ifCond .le (27), 3) := by decide +kernel
theorem d_Mod_heads_25 : decode prog_8_method_54_code 25 = .ok (.aload_n 0, 1) := by decide +kernel
theorem d_Mod_heads_26 : decode prog_8_method_54_code 26 = .ok (.iload_n 1, 1) := by decide +kernel
theorem d_Mod_heads_27 : decode prog_8_method_54_code 27 = .ok (.sipush (10000), 3) := by decide +kernel
theorem d_Mod_heads_30 : decode prog_8_method_54_code 30 = .ok (.iload_n 1, 1) := by decide +kernel
theorem d_Mod_heads_31 : decode prog_8_method_54_code 31 = .ok (.iadd, 1) := by decide +kernel
theorem d_Mod_heads_32 : decode prog_8_method_54_code 32 = .ok (.iconst 0, 1) := by decide +kernel
theorem d_Mod_heads_33 : decode prog_8_method_54_code 33 = .ok (.invokevirtual 226, 3) := by decide +kernel
theorem d_Mod_heads_36 : decode prog_8_method_54_code 36 = .ok (.aload_n 0, 1) := by decide +kernel
theorem d_Mod_heads_37 : decode prog_8_method_54_code 37 = .ok (.iload_n 1, 1) := by decide +kernel
theorem d_Mod_heads_38 : decode prog_8_method_54_code 38 = .ok (.invokevirtual 223, 3) := by decide +kernel
theorem d_Mod_heads_41 : decode prog_8_method_54_code 41 = .ok (.ifCond .ge (8), 3) := by decide +kernel
theorem d_Mod_heads_44 : decode prog_8_method_54_code 44 = .ok (.aload_n 0, 1) := by decide +kernel
theorem d_Mod_heads_45 : decode prog_8_method_54_code 45 = .ok (.iload_n 1, 1) := by decide +kernel
theorem d_Mod_heads_46 : decode prog_8_method_54_code 46 = .ok (.invokevirtual 229, 3) := by decide +kernel
theorem d_Mod_heads_49 : decode prog_8_method_54_code 49 = .ok (.iinc 1 (1), 3) := by decide +kernel
theorem d_Mod_heads_52 : decode prog_8_method_54_code 52 = .ok (.goto (-50), 3) := by decide +kernel
theorem d_Mod_heads_55 : decode prog_8_method_54_code 55 = .ok (.iconst 1, 1) := by decide +kernel
theorem d_Mod_heads_56 : decode prog_8_method_54_code 56 = .ok (.istore_n 1, 1) := by decide +kernel
theorem d_Mod_heads_57 : decode prog_8_method_54_code 57 = .ok (.iload_n 1, 1) := by decide +kernel
theorem d_Mod_heads_58 : decode prog_8_method_54_code 58 = .ok (.iconst 3, 1) := by decide +kernel
theorem d_Mod_heads_59 : decode prog_8_method_54_code 59 = .ok (.if_icmp .ge (45), 3) := by decide +kernel
theorem d_Mod_heads_62 : decode prog_8_method_54_code 62 = .ok (.aload_n 0, 1) := by decide +kernel
theorem d_Mod_heads_63 : decode prog_8_method_54_code 63 = .ok (.iload_n 1, 1) := by decide +kernel
theorem d_Mod_heads_64 : decode prog_8_method_54_code 64 = .ok (.invokevirtual 223, 3) := by decide +kernel
theorem d_Mod_heads_67 : decode prog_8_method_54_code 67 = .ok (.ifCond .ge (31), 3) := by decide +kernel
theorem d_Mod_heads_70 : decode prog_8_method_54_code 70 = .ok (.aload_n 0, 1) := by decide +kernel
theorem d_Mod_heads_71 : decode prog_8_method_54_code 71 = .ok (.invokevirtual 220, 3) := by decide +kernel
theorem d_Mod_heads_74 : decode prog_8_method_54_code 74 = .ok (.ifCond .ge (8), 3) := by decide +kernel
theorem d_Mod_heads_77 : decode prog_8_method_54_code 77 = .ok (.aload_n 0, 1) := by decide +kernel
theorem d_Mod_heads_78 : decode prog_8_method_54_code 78 = .ok (.iload_n 1, 1) := by decide +kernel
theorem d_Mod_heads_79 : decode prog_8_method_54_code 79 = .ok (.invokevirtual 229, 3) := by decide +kernel
theorem d_Mod_heads_82 : decode prog_8_method_54_code 82 = .ok (.aload_n 0, 1) := by decide +kernel
theorem d_Mod_heads_83 : decode prog_8_method_54_code 83 = .ok (.iload_n 1, 1) := by decide +kernel
theorem d_Mod_heads_84 : decode prog_8_method_54_code 84 = .ok (.iconst 0, 1) := by decide +kernel
theorem d_Mod_heads_85 : decode prog_8_method_54_code 85 = .ok (.iload_n 1, 1) := by decide +kernel
theorem d_Mod_heads_86 : decode prog_8_method_54_code 86 = .ok (.iconst 1, 1) := by decide +kernel
theorem d_Mod_heads_87 : decode prog_8_method_54_code 87 = .ok (.if_icmp .ne (7), 3) := by decide +kernel
theorem d_Mod_heads_90 : decode prog_8_method_54_code 90 = .ok (.iconst 1, 1) := by decide +kernel
theorem d_Mod_heads_91 : decode prog_8_method_54_code 91 = .ok (.goto (4), 3) := by decide +kernel
theorem d_Mod_heads_94 : decode prog_8_method_54_code 94 = .ok (.iconst 0, 1) := by decide +kernel
theorem d_Mod_heads_95 : decode prog_8_method_54_code 95 = .ok (.invokevirtual 226, 3) := by decide +kernel
theorem d_Mod_heads_98 : decode prog_8_method_54_code 98 = .ok (.iinc 1 (1), 3) := by decide +kernel
theorem d_Mod_heads_101 : decode prog_8_method_54_code 101 = .ok (.goto (-44), 3) := by decide +kernel
theorem d_Mod_heads_104 : decode prog_8_method_54_code 104 = .ok (.aload_n 0, 1) := by decide +kernel
theorem d_Mod_heads_105 : decode prog_8_method_54_code 105 = .ok (.invokevirtual 220, 3) := by decide +kernel
theorem d_Mod_heads_108 : decode prog_8_method_54_code 108 = .ok (.istore_n 1, 1) := by decide +kernel
theorem d_Mod_heads_109 : decode prog_8_method_54_code 109 = .ok (.aload_n 0, 1) := by decide +kernel
theorem d_Mod_heads_110 : decode prog_8_method_54_code 110 = .ok (.iconst 2, 1) := by decide +kernel
theorem d_Mod_heads_111 : decode prog_8_method_54_code 111 = .ok (.invokevirtual 223, 3) := by decide +kernel
theorem d_Mod_heads_114 : decode prog_8_method_54_code 114 = .ok (.ifCond .lt (46), 3) := by decide +kernel
theorem d_Mod_heads_117 : decode prog_8_method_54_code 117 = .ok (.aload_n 0, 1) := by decide +kernel
theorem d_Mod_heads_118 : decode prog_8_method_54_code 118 = .ok (.getfield 51, 3) := by decide +kernel
theorem d_Mod_heads_121 : decode prog_8_method_54_code 121 = .ok (.iconst 2, 1) := by decide +kernel
theorem d_Mod_heads_122 : decode prog_8_method_54_code 122 = .ok (.iaload, 1) := by decide +kernel
theorem d_Mod_heads_123 : decode prog_8_method_54_code 123 = .ok (.ifCond .ne (37), 3) := by decide +kernel
theorem d_Mod_heads_126 : decode prog_8_method_54_code 126 = .ok (.iload_n 1, 1) := by decide +kernel
theorem d_Mod_heads_127 : decode prog_8_method_54_code 127 = .ok (.ifCond .lt (33), 3) := by decide +kernel
theorem d_Mod_heads_130 : decode prog_8_method_54_code 130 = .ok (.aload_n 0, 1) := by decide +kernel
theorem d_Mod_heads_131 : decode prog_8_method_54_code 131 = .ok (.iload_n 1, 1) := by decide +kernel
theorem d_Mod_heads_132 : decode prog_8_method_54_code 132 = .ok (.invokevirtual 125, 3) := by decide +kernel
theorem d_Mod_heads_135 : decode prog_8_method_54_code 135 = .ok (.aload_n 0, 1) := by decide +kernel
theorem d_Mod_heads_136 : decode prog_8_method_54_code 136 = .ok (.iload_n 1, 1) := by decide +kernel
theorem d_Mod_heads_137 : decode prog_8_method_54_code 137 = .ok (.iconst 2, 1) := by decide +kernel
theorem d_Mod_heads_138 : decode prog_8_method_54_code 138 = .ok (.iconst 1, 1) := by decide +kernel
theorem d_Mod_heads_139 : decode prog_8_method_54_code 139 = .ok (.iconst 5, 1) := by decide +kernel
theorem d_Mod_heads_140 : decode prog_8_method_54_code 140 = .ok (.invokevirtual 66, 3) := by decide +kernel
theorem d_Mod_heads_143 : decode prog_8_method_54_code 143 = .ok (.aload_n 0, 1) := by decide +kernel
theorem d_Mod_heads_144 : decode prog_8_method_54_code 144 = .ok (.getfield 48, 3) := by decide +kernel
theorem d_Mod_heads_147 : decode prog_8_method_54_code 147 = .ok (.bipush (81), 2) := by decide +kernel
theorem d_Mod_heads_149 : decode prog_8_method_54_code 149 = .ok (.iload_n 1, 1) := by decide +kernel
theorem d_Mod_heads_150 : decode prog_8_method_54_code 150 = .ok (.iconst 1, 1) := by decide +kernel
theorem d_Mod_heads_151 : decode prog_8_method_54_code 151 = .ok (.iadd, 1) := by decide +kernel
theorem d_Mod_heads_152 : decode prog_8_method_54_code 152 = .ok (.iastore, 1) := by decide +kernel
theorem d_Mod_heads_153 : decode prog_8_method_54_code 153 = .ok (.aload_n 0, 1) := by decide +kernel
theorem d_Mod_heads_154 : decode prog_8_method_54_code 154 = .ok (.getfield 51, 3) := by decide +kernel
theorem d_Mod_heads_157 : decode prog_8_method_54_code 157 = .ok (.iconst 2, 1) := by decide +kernel
theorem d_Mod_heads_158 : decode prog_8_method_54_code 158 = .ok (.iconst 1, 1) := by decide +kernel
theorem d_Mod_heads_159 : decode prog_8_method_54_code 159 = .ok (.iastore, 1) := by decide +kernel
theorem d_Mod_heads_160 : decode prog_8_method_54_code 160 = .ok (.iconst 1, 1) := by decide +kernel
theorem d_Mod_heads_161 : decode prog_8_method_54_code 161 = .ok (.istore_n 2, 1) := by decide +kernel
theorem d_Mod_heads_162 : decode prog_8_method_54_code 162 = .ok (.iload_n 2, 1) := by decide +kernel
theorem d_Mod_heads_163 : decode prog_8_method_54_code 163 = .ok (.iconst 3, 1) := by decide +kernel
theorem d_Mod_heads_164 : decode prog_8_method_54_code 164 = .ok (.if_icmp .ge (72), 3) := by decide +kernel
theorem d_Mod_heads_167 : decode prog_8_method_54_code 167 = .ok (.aload_n 0, 1) := by decide +kernel
theorem d_Mod_heads_168 : decode prog_8_method_54_code 168 = .ok (.iload_n 2, 1) := by decide +kernel
theorem d_Mod_heads_169 : decode prog_8_method_54_code 169 = .ok (.invokevirtual 223, 3) := by decide +kernel
theorem d_Mod_heads_172 : decode prog_8_method_54_code 172 = .ok (.ifCond .lt (58), 3) := by decide +kernel
theorem d_Mod_heads_175 : decode prog_8_method_54_code 175 = .ok (.aload_n 0, 1) := by decide +kernel
theorem d_Mod_heads_176 : decode prog_8_method_54_code 176 = .ok (.getfield 25, 3) := by decide +kernel
theorem d_Mod_heads_179 : decode prog_8_method_54_code 179 = .ok (.bipush (8), 2) := by decide +kernel
theorem d_Mod_heads_181 : decode prog_8_method_54_code 181 = .ok (.aload_n 0, 1) := by decide +kernel
theorem d_Mod_heads_182 : decode prog_8_method_54_code 182 = .ok (.iload_n 2, 1) := by decide +kernel
theorem d_Mod_heads_183 : decode prog_8_method_54_code 183 = .ok (.invokevirtual 223, 3) := by decide +kernel
theorem d_Mod_heads_186 : decode prog_8_method_54_code 186 = .ok (.imul, 1) := by decide +kernel
theorem d_Mod_heads_187 : decode prog_8_method_54_code 187 = .ok (.iconst 0, 1) := by decide +kernel
theorem d_Mod_heads_188 : decode prog_8_method_54_code 188 = .ok (.iastore, 1) := by decide +kernel
theorem d_Mod_heads_189 : decode prog_8_method_54_code 189 = .ok (.aload_n 0, 1) := by decide +kernel
theorem d_Mod_heads_190 : decode prog_8_method_54_code 190 = .ok (.getfield 25, 3) := by decide +kernel
theorem d_Mod_heads_193 : decode prog_8_method_54_code 193 = .ok (.bipush (8), 2) := by decide +kernel
theorem d_Mod_heads_195 : decode prog_8_method_54_code 195 = .ok (.aload_n 0, 1) := by decide +kernel
theorem d_Mod_heads_196 : decode prog_8_method_54_code 196 = .ok (.iload_n 2, 1) := by decide +kernel
theorem d_Mod_heads_197 : decode prog_8_method_54_code 197 = .ok (.invokevirtual 223, 3) := by decide +kernel
theorem d_Mod_heads_200 : decode prog_8_method_54_code 200 = .ok (.imul, 1) := by decide +kernel
theorem d_Mod_heads_201 : decode prog_8_method_54_code 201 = .ok (.iconst 1, 1) := by decide +kernel
theorem d_Mod_heads_202 : decode prog_8_method_54_code 202 = .ok (.iadd, 1) := by decide +kernel
theorem d_Mod_heads_203 : decode prog_8_method_54_code 203 = .ok (.iconst 0, 1) := by decide +kernel
theorem d_Mod_heads_204 : decode prog_8_method_54_code 204 = .ok (.iastore, 1) := by decide +kernel
theorem d_Mod_heads_205 : decode prog_8_method_54_code 205 = .ok (.aload_n 0, 1) := by decide +kernel
theorem d_Mod_heads_206 : decode prog_8_method_54_code 206 = .ok (.getfield 25, 3) := by decide +kernel
theorem d_Mod_heads_209 : decode prog_8_method_54_code 209 = .ok (.bipush (8), 2) := by decide +kernel
theorem d_Mod_heads_211 : decode prog_8_method_54_code 211 = .ok (.aload_n 0, 1) := by decide +kernel
theorem d_Mod_heads_212 : decode prog_8_method_54_code 212 = .ok (.iload_n 2, 1) := by decide +kernel
theorem d_Mod_heads_213 : decode prog_8_method_54_code 213 = .ok (.invokevirtual 223, 3) := by decide +kernel
theorem d_Mod_heads_216 : decode prog_8_method_54_code 216 = .ok (.imul, 1) := by decide +kernel
theorem d_Mod_heads_217 : decode prog_8_method_54_code 217 = .ok (.iconst 2, 1) := by decide +kernel
theorem d_Mod_heads_218 : decode prog_8_method_54_code 218 = .ok (.iadd, 1) := by decide +kernel
theorem d_Mod_heads_219 : decode prog_8_method_54_code 219 = .ok (.iload_n 2, 1) := by decide +kernel
theorem d_Mod_heads_220 : decode prog_8_method_54_code 220 = .ok (.iconst 1, 1) := by decide +kernel
theorem d_Mod_heads_221 : decode prog_8_method_54_code 221 = .ok (.if_icmp .ne (7), 3) := by decide +kernel
theorem d_Mod_heads_224 : decode prog_8_method_54_code 224 = .ok (.iconst 1, 1) := by decide +kernel
theorem d_Mod_heads_225 : decode prog_8_method_54_code 225 = .ok (.goto (4), 3) := by decide +kernel
theorem d_Mod_heads_228 : decode prog_8_method_54_code 228 = .ok (.iconst 0, 1) := by decide +kernel
theorem d_Mod_heads_229 : decode prog_8_method_54_code 229 = .ok (.iastore, 1) := by decide +kernel
theorem d_Mod_heads_230 : decode prog_8_method_54_code 230 = .ok (.iinc 2 (1), 3) := by decide +kernel
theorem d_Mod_heads_233 : decode prog_8_method_54_code 233 = .ok (.goto (-71), 3) := by decide +kernel
theorem d_Mod_heads_236 : decode prog_8_method_54_code 236 = .ok (.return_, 1) := by decide +kernel
theorem d_Mod_place_0 : decode prog_8_method_55_code 0 = .ok (.iconst 0, 1) := by decide +kernel
theorem d_Mod_place_1 : decode prog_8_method_55_code 1 = .ok (.istore_n 3, 1) := by decide +kernel
theorem d_Mod_place_2 : decode prog_8_method_55_code 2 = .ok (.iconst 1, 1) := by decide +kernel
theorem d_Mod_place_3 : decode prog_8_method_55_code 3 = .ok (.istore 4, 2) := by decide +kernel
theorem d_Mod_place_5 : decode prog_8_method_55_code 5 = .ok (.iload 4, 2) := by decide +kernel
theorem d_Mod_place_7 : decode prog_8_method_55_code 7 = .ok (.aload_n 0, 1) := by decide +kernel
theorem d_Mod_place_8 : decode prog_8_method_55_code 8 = .ok (.getfield 51, 3) := by decide +kernel
theorem d_Mod_place_11 : decode prog_8_method_55_code 11 = .ok (.iload_n 1, 1) := by decide +kernel
theorem d_Mod_place_12 : decode prog_8_method_55_code 12 = .ok (.iaload, 1) := by decide +kernel
theorem d_Mod_place_13 : decode prog_8_method_55_code 13 = .ok (.if_icmp .gt (62), 3) := by decide +kernel
theorem d_Mod_place_16 : decode prog_8_method_55_code 16 = .ok (.iconst 0, 1) := by decide +kernel
theorem d_Mod_place_17 : decode prog_8_method_55_code 17 = .ok (.istore 5, 2) := by decide +kernel
theorem d_Mod_place_19 : decode prog_8_method_55_code 19 = .ok (.iload 5, 2) := by decide +kernel
theorem d_Mod_place_21 : decode prog_8_method_55_code 21 = .ok (.aload_n 0, 1) := by decide +kernel
theorem d_Mod_place_22 : decode prog_8_method_55_code 22 = .ok (.getfield 16, 3) := by decide +kernel
theorem d_Mod_place_25 : decode prog_8_method_55_code 25 = .ok (.aload_n 0, 1) := by decide +kernel
theorem d_Mod_place_26 : decode prog_8_method_55_code 26 = .ok (.iload_n 1, 1) := by decide +kernel
theorem d_Mod_place_27 : decode prog_8_method_55_code 27 = .ok (.iload 4, 2) := by decide +kernel
theorem d_Mod_place_29 : decode prog_8_method_55_code 29 = .ok (.invokevirtual 214, 3) := by decide +kernel
theorem d_Mod_place_32 : decode prog_8_method_55_code 32 = .ok (.iaload, 1) := by decide +kernel
theorem d_Mod_place_33 : decode prog_8_method_55_code 33 = .ok (.iconst 4, 1) := by decide +kernel
theorem d_Mod_place_34 : decode prog_8_method_55_code 34 = .ok (.idiv, 1) := by decide +kernel
theorem d_Mod_place_35 : decode prog_8_method_55_code 35 = .ok (.if_icmp .ge (34), 3) := by decide +kernel
theorem d_Mod_place_38 : decode prog_8_method_55_code 38 = .ok (.iload_n 3, 1) := by decide +kernel
theorem d_Mod_place_39 : decode prog_8_method_55_code 39 = .ok (.iload_n 2, 1) := by decide +kernel
theorem d_Mod_place_40 : decode prog_8_method_55_code 40 = .ok (.if_icmp .ne (19), 3) := by decide +kernel
theorem d_Mod_place_43 : decode prog_8_method_55_code 43 = .ok (.bipush (8), 2) := by decide +kernel
theorem d_Mod_place_45 : decode prog_8_method_55_code 45 = .ok (.aload_n 0, 1) := by decide +kernel
theorem d_Mod_place_46 : decode prog_8_method_55_code 46 = .ok (.iload_n 1, 1) := by decide +kernel
theorem d_Mod_place_47 : decode prog_8_method_55_code 47 = .ok (.iload 4, 2) := by decide +kernel
theorem d_Mod_place_49 : decode prog_8_method_55_code 49 = .ok (.invokevirtual 214, 3) := by decide +kernel
theorem d_Mod_place_52 : decode prog_8_method_55_code 52 = .ok (.imul, 1) := by decide +kernel
theorem d_Mod_place_53 : decode prog_8_method_55_code 53 = .ok (.iconst 4, 1) := by decide +kernel
theorem d_Mod_place_54 : decode prog_8_method_55_code 54 = .ok (.iload 5, 2) := by decide +kernel
theorem d_Mod_place_56 : decode prog_8_method_55_code 56 = .ok (.imul, 1) := by decide +kernel
theorem d_Mod_place_57 : decode prog_8_method_55_code 57 = .ok (.iadd, 1) := by decide +kernel
theorem d_Mod_place_58 : decode prog_8_method_55_code 58 = .ok (.ireturn, 1) := by decide +kernel
theorem d_Mod_place_59 : decode prog_8_method_55_code 59 = .ok (.iload_n 3, 1) := by decide +kernel
theorem d_Mod_place_60 : decode prog_8_method_55_code 60 = .ok (.iconst 1, 1) := by decide +kernel
theorem d_Mod_place_61 : decode prog_8_method_55_code 61 = .ok (.iadd, 1) := by decide +kernel
theorem d_Mod_place_62 : decode prog_8_method_55_code 62 = .ok (.istore_n 3, 1) := by decide +kernel
theorem d_Mod_place_63 : decode prog_8_method_55_code 63 = .ok (.iinc 5 (1), 3) := by decide +kernel
theorem d_Mod_place_66 : decode prog_8_method_55_code 66 = .ok (.goto (-47), 3) := by decide +kernel
theorem d_Mod_place_69 : decode prog_8_method_55_code 69 = .ok (.iinc 4 (1), 3) := by decide +kernel
theorem d_Mod_place_72 : decode prog_8_method_55_code 72 = .ok (.goto (-67), 3) := by decide +kernel
theorem d_Mod_place_75 : decode prog_8_method_55_code 75 = .ok (.iconst (-1), 1) := by decide +kernel
theorem d_Mod_place_76 : decode prog_8_method_55_code 76 = .ok (.ireturn, 1) := by decide +kernel
theorem d_Mod_isThere_0 : decode prog_8_method_56_code 0 = .ok (.iload_n 1, 1) := by decide +kernel
theorem d_Mod_isThere_1 : decode prog_8_method_56_code 1 = .ok (.iconst 1, 1) := by decide +kernel
theorem d_Mod_isThere_2 : decode prog_8_method_56_code 2 = .ok (.bipush (60), 2) := by decide +kernel
theorem d_Mod_isThere_4 : decode prog_8_method_56_code 4 = .ok (.invokestatic 73, 3) := by decide +kernel
theorem d_Mod_isThere_7 : decode prog_8_method_56_code 7 = .ok (.ifCond .eq (15), 3) := by decide +kernel
theorem d_Mod_isThere_10 : decode prog_8_method_56_code 10 = .ok (.aload_n 0, 1) := by decide +kernel
theorem d_Mod_isThere_11 : decode prog_8_method_56_code 11 = .ok (.iload_n 1, 1) := by decide +kernel
theorem d_Mod_isThere_12 : decode prog_8_method_56_code 12 = .ok (.invokevirtual 223, 3) := by decide +kernel
theorem d_Mod_isThere_15 : decode prog_8_method_56_code 15 = .ok (.ifCond .lt (7), 3) := by decide +kernel
theorem d_Mod_isThere_18 : decode prog_8_method_56_code 18 = .ok (.iconst 1, 1) := by decide +kernel
theorem d_Mod_isThere_19 : decode prog_8_method_56_code 19 = .ok (.goto (4), 3) := by decide +kernel
theorem d_Mod_isThere_22 : decode prog_8_method_56_code 22 = .ok (.iconst 0, 1) := by decide +kernel
theorem d_Mod_isThere_23 : decode prog_8_method_56_code 23 = .ok (.ireturn, 1) := by decide +kernel
theorem d_Mod_walk_0 : decode prog_8_method_57_code 0 = .ok (.iconst 1, 1) := by decide +kernel
theorem d_Mod_walk_1 : decode prog_8_method_57_code 1 = .ok (.istore_n 2, 1) := by decide +kernel
theorem d_Mod_walk_2 : decode prog_8_method_57_code 2 = .ok (.aload_n 0, 1) := by decide +kernel
theorem d_Mod_walk_3 : decode prog_8_method_57_code 3 = .ok (.getfield 57, 3) := by decide +kernel
theorem d_Mod_walk_6 : decode prog_8_method_57_code 6 = .ok (.iconst 0, 1) := by decide +kernel
theorem d_Mod_walk_7 : decode prog_8_method_57_code 7 = .ok (.iload_n 1, 1) := by decide +kernel
theorem d_Mod_walk_8 : decode prog_8_method_57_code 8 = .ok (.iastore, 1) := by decide +kernel
theorem d_Mod_walk_9 : decode prog_8_method_57_code 9 = .ok (.aload_n 0, 1) := by decide +kernel
theorem d_Mod_walk_10 : decode prog_8_method_57_code 10 = .ok (.getfield 60, 3) := by decide +kernel
theorem d_Mod_walk_13 : decode prog_8_method_57_code 13 = .ok (.iconst 0, 1) := by decide +kernel
theorem d_Mod_walk_14 : decode prog_8_method_57_code 14 = .ok (.iconst 0, 1) := by decide +kernel
theorem d_Mod_walk_15 : decode prog_8_method_57_code 15 = .ok (.iastore, 1) := by decide +kernel
theorem d_Mod_walk_16 : decode prog_8_method_57_code 16 = .ok (.iconst 0, 1) := by decide +kernel
theorem d_Mod_walk_17 : decode prog_8_method_57_code 17 = .ok (.istore_n 3, 1) := by decide +kernel
theorem d_Mod_walk_18 : decode prog_8_method_57_code 18 = .ok (.iload_n 3, 1) := by decide +kernel
theorem d_Mod_walk_19 : decode prog_8_method_57_code 19 = .ok (.ldc 232, 2) := by decide +kernel
theorem d_Mod_walk_21 : decode prog_8_method_57_code 21 = .ok (.if_icmp .ge (211), 3) := by decide +kernel
theorem d_Mod_walk_24 : decode prog_8_method_57_code 24 = .ok (.iload_n 2, 1) := by decide +kernel
theorem d_Mod_walk_25 : decode prog_8_method_57_code 25 = .ok (.ifCond .le (207), 3) := by decide +kernel
theorem d_Mod_walk_28 : decode prog_8_method_57_code 28 = .ok (.aload_n 0, 1) := by decide +kernel
theorem d_Mod_walk_29 : decode prog_8_method_57_code 29 = .ok (.aload_n 0, 1) := by decide +kernel
theorem d_Mod_walk_30 : decode prog_8_method_57_code 30 = .ok (.getfield 57, 3) := by decide +kernel
theorem d_Mod_walk_33 : decode prog_8_method_57_code 33 = .ok (.iload_n 2, 1) := by decide +kernel
theorem d_Mod_walk_34 : decode prog_8_method_57_code 34 = .ok (.iconst 1, 1) := by decide +kernel
theorem d_Mod_walk_35 : decode prog_8_method_57_code 35 = .ok (.isub, 1) := by decide +kernel
theorem d_Mod_walk_36 : decode prog_8_method_57_code 36 = .ok (.iaload, 1) := by decide +kernel
theorem d_Mod_walk_37 : decode prog_8_method_57_code 37 = .ok (.aload_n 0, 1) := by decide +kernel
theorem d_Mod_walk_38 : decode prog_8_method_57_code 38 = .ok (.getfield 60, 3) := by decide +kernel
theorem d_Mod_walk_41 : decode prog_8_method_57_code 41 = .ok (.iload_n 2, 1) := by decide +kernel
theorem d_Mod_walk_42 : decode prog_8_method_57_code 42 = .ok (.iconst 1, 1) := by decide +kernel
theorem d_Mod_walk_43 : decode prog_8_method_57_code 43 = .ok (.isub, 1) := by decide +kernel
theorem d_Mod_walk_44 : decode prog_8_method_57_code 44 = .ok (.iaload, 1) := by decide +kernel
theorem d_Mod_walk_45 : decode prog_8_method_57_code 45 = .ok (.invokevirtual 233, 3) := by decide +kernel
theorem d_Mod_walk_48 : decode prog_8_method_57_code 48 = .ok (.istore 4, 2) := by decide +kernel
theorem d_Mod_walk_50 : decode prog_8_method_57_code 50 = .ok (.aload_n 0, 1) := by decide +kernel
theorem d_Mod_walk_51 : decode prog_8_method_57_code 51 = .ok (.getfield 60, 3) := by decide +kernel
theorem d_Mod_walk_54 : decode prog_8_method_57_code 54 = .ok (.iload_n 2, 1) := by decide +kernel
theorem d_Mod_walk_55 : decode prog_8_method_57_code 55 = .ok (.iconst 1, 1) := by decide +kernel
theorem d_Mod_walk_56 : decode prog_8_method_57_code 56 = .ok (.isub, 1) := by decide +kernel
theorem d_Mod_walk_57 : decode prog_8_method_57_code 57 = .ok (.aload_n 0, 1) := by decide +kernel
theorem d_Mod_walk_58 : decode prog_8_method_57_code 58 = .ok (.getfield 60, 3) := by decide +kernel
theorem d_Mod_walk_61 : decode prog_8_method_57_code 61 = .ok (.iload_n 2, 1) := by decide +kernel
theorem d_Mod_walk_62 : decode prog_8_method_57_code 62 = .ok (.iconst 1, 1) := by decide +kernel
theorem d_Mod_walk_63 : decode prog_8_method_57_code 63 = .ok (.isub, 1) := by decide +kernel
theorem d_Mod_walk_64 : decode prog_8_method_57_code 64 = .ok (.iaload, 1) := by decide +kernel
theorem d_Mod_walk_65 : decode prog_8_method_57_code 65 = .ok (.iconst 1, 1) := by decide +kernel
theorem d_Mod_walk_66 : decode prog_8_method_57_code 66 = .ok (.iadd, 1) := by decide +kernel
theorem d_Mod_walk_67 : decode prog_8_method_57_code 67 = .ok (.iastore, 1) := by decide +kernel
theorem d_Mod_walk_68 : decode prog_8_method_57_code 68 = .ok (.iload 4, 2) := by decide +kernel
theorem d_Mod_walk_70 : decode prog_8_method_57_code 70 = .ok (.ifCond .ge (7), 3) := by decide +kernel
theorem d_Mod_walk_73 : decode prog_8_method_57_code 73 = .ok (.iconst 0, 1) := by decide +kernel
theorem d_Mod_walk_74 : decode prog_8_method_57_code 74 = .ok (.goto (12), 3) := by decide +kernel
theorem d_Mod_walk_77 : decode prog_8_method_57_code 77 = .ok (.aload_n 0, 1) := by decide +kernel
theorem d_Mod_walk_78 : decode prog_8_method_57_code 78 = .ok (.getfield 25, 3) := by decide +kernel
theorem d_Mod_walk_81 : decode prog_8_method_57_code 81 = .ok (.iload 4, 2) := by decide +kernel
theorem d_Mod_walk_83 : decode prog_8_method_57_code 83 = .ok (.iconst 2, 1) := by decide +kernel
theorem d_Mod_walk_84 : decode prog_8_method_57_code 84 = .ok (.iadd, 1) := by decide +kernel
theorem d_Mod_walk_85 : decode prog_8_method_57_code 85 = .ok (.iaload, 1) := by decide +kernel
theorem d_Mod_walk_86 : decode prog_8_method_57_code 86 = .ok (.istore 5, 2) := by decide +kernel
theorem d_Mod_walk_88 : decode prog_8_method_57_code 88 = .ok (.iload 5, 2) := by decide +kernel
theorem d_Mod_walk_90 : decode prog_8_method_57_code 90 = .ok (.iconst 2, 1) := by decide +kernel
theorem d_Mod_walk_91 : decode prog_8_method_57_code 91 = .ok (.if_icmp .le (48), 3) := by decide +kernel
theorem d_Mod_walk_94 : decode prog_8_method_57_code 94 = .ok (.aload_n 0, 1) := by decide +kernel
theorem d_Mod_walk_95 : decode prog_8_method_57_code 95 = .ok (.iload 5, 2) := by decide +kernel
theorem d_Mod_walk_97 : decode prog_8_method_57_code 97 = .ok (.invokevirtual 236, 3) := by decide +kernel
theorem d_Mod_walk_100 : decode prog_8_method_57_code 100 = .ok (.ifCond .eq (39), 3) := by decide +kernel
theorem d_Mod_walk_103 : decode prog_8_method_57_code 103 = .ok (.aload_n 0, 1) := by decide +kernel
theorem d_Mod_walk_104 : decode prog_8_method_57_code 104 = .ok (.iload 4, 2) := by decide +kernel
theorem d_Mod_walk_106 : decode prog_8_method_57_code 106 = .ok (.invokevirtual 105, 3) := by decide +kernel
theorem d_Mod_walk_109 : decode prog_8_method_57_code 109 = .ok (.aload_n 0, 1) := by decide +kernel
theorem d_Mod_walk_110 : decode prog_8_method_57_code 110 = .ok (.bipush (8), 2) := by decide +kernel
theorem d_Mod_walk_112 : decode prog_8_method_57_code 112 = .ok (.aload_n 0, 1) := by decide +kernel
theorem d_Mod_walk_113 : decode prog_8_method_57_code 113 = .ok (.iload 5, 2) := by decide +kernel
theorem d_Mod_walk_115 : decode prog_8_method_57_code 115 = .ok (.invokevirtual 223, 3) := by decide +kernel
theorem d_Mod_walk_118 : decode prog_8_method_57_code 118 = .ok (.imul, 1) := by decide +kernel
theorem d_Mod_walk_119 : decode prog_8_method_57_code 119 = .ok (.invokevirtual 105, 3) := by decide +kernel
theorem d_Mod_walk_122 : decode prog_8_method_57_code 122 = .ok (.if_icmp .ne (17), 3) := by decide +kernel
theorem d_Mod_walk_125 : decode prog_8_method_57_code 125 = .ok (.aload_n 0, 1) := by decide +kernel
theorem d_Mod_walk_126 : decode prog_8_method_57_code 126 = .ok (.getfield 54, 3) := by decide +kernel
theorem d_Mod_walk_129 : decode prog_8_method_57_code 129 = .ok (.iload 5, 2) := by decide +kernel
theorem d_Mod_walk_131 : decode prog_8_method_57_code 131 = .ok (.baload, 1) := by decide +kernel
theorem d_Mod_walk_132 : decode prog_8_method_57_code 132 = .ok (.ifCond .ne (7), 3) := by decide +kernel
theorem d_Mod_walk_135 : decode prog_8_method_57_code 135 = .ok (.iconst 1, 1) := by decide +kernel
theorem d_Mod_walk_136 : decode prog_8_method_57_code 136 = .ok (.goto (4), 3) := by decide +kernel
theorem d_Mod_walk_139 : decode prog_8_method_57_code 139 = .ok (.iconst 0, 1) := by decide +kernel
theorem d_Mod_walk_140 : decode prog_8_method_57_code 140 = .ok (.istore 6, 2) := by decide +kernel
theorem d_Mod_walk_142 : decode prog_8_method_57_code 142 = .ok (.iload 4, 2) := by decide +kernel
theorem d_Mod_walk_144 : decode prog_8_method_57_code 144 = .ok (.ifCond .ge (10), 3) := by decide +kernel
theorem d_Mod_walk_147 : decode prog_8_method_57_code 147 = .ok (.iload_n 2, 1) := by decide +kernel
theorem d_Mod_walk_148 : decode prog_8_method_57_code 148 = .ok (.iconst 1, 1) := by decide +kernel
theorem d_Mod_walk_149 : decode prog_8_method_57_code 149 = .ok (.isub, 1) := by decide +kernel
theorem d_Mod_walk_150 : decode prog_8_method_57_code 150 = .ok (.istore_n 2, 1) := by decide +kernel
theorem d_Mod_walk_151 : decode prog_8_method_57_code 151 = .ok (.goto (75), 3) := by decide +kernel
theorem d_Mod_walk_154 : decode prog_8_method_57_code 154 = .ok (.iload 6, 2) := by decide +kernel
theorem d_Mod_walk_156 : decode prog_8_method_57_code 156 = .ok (.ifCond .ne (15), 3) := by decide +kernel
theorem d_Mod_walk_159 : decode prog_8_method_57_code 159 = .ok (.aload_n 0, 1) := by decide +kernel
theorem d_Mod_walk_160 : decode prog_8_method_57_code 160 = .ok (.iload 4, 2) := by decide +kernel
theorem d_Mod_walk_162 : decode prog_8_method_57_code 162 = .ok (.iconst 0, 1) := by decide +kernel
theorem d_Mod_walk_163 : decode prog_8_method_57_code 163 = .ok (.iconst 0, 1) := by decide +kernel
theorem d_Mod_walk_164 : decode prog_8_method_57_code 164 = .ok (.iconst 0, 1) := by decide +kernel
theorem d_Mod_walk_165 : decode prog_8_method_57_code 165 = .ok (.invokevirtual 142, 3) := by decide +kernel
theorem d_Mod_walk_168 : decode prog_8_method_57_code 168 = .ok (.goto (58), 3) := by decide +kernel
theorem d_Mod_walk_171 : decode prog_8_method_57_code 171 = .ok (.aload_n 0, 1) := by decide +kernel
theorem d_Mod_walk_172 : decode prog_8_method_57_code 172 = .ok (.getfield 54, 3) := by decide +kernel
theorem d_Mod_walk_175 : decode prog_8_method_57_code 175 = .ok (.iload 5, 2) := by decide +kernel
theorem d_Mod_walk_177 : decode prog_8_method_57_code 177 = .ok (.iconst 1, 1) := by decide +kernel
theorem d_Mod_walk_178 : decode prog_8_method_57_code 178 = .ok (.bastore, 1) := by decide +kernel
theorem d_Mod_walk_179 : decode prog_8_method_57_code 179 = .ok (.aload_n 0, 1) := by decide +kernel
theorem d_Mod_walk_180 : decode prog_8_method_57_code 180 = .ok (.getfield 25, 3) := by decide +kernel
theorem d_Mod_walk_183 : decode prog_8_method_57_code 183 = .ok (.iload 4, 2) := by decide +kernel
theorem d_Mod_walk_185 : decode prog_8_method_57_code 185 = .ok (.iconst 3, 1) := by decide +kernel
theorem d_Mod_walk_186 : decode prog_8_method_57_code 186 = .ok (.iadd, 1) := by decide +kernel
theorem d_Mod_walk_187 : decode prog_8_method_57_code 187 = .ok (.aload_n 0, 1) := by decide +kernel
theorem d_Mod_walk_188 : decode prog_8_method_57_code 188 = .ok (.iload 5, 2) := by decide +kernel
theorem d_Mod_walk_190 : decode prog_8_method_57_code 190 = .ok (.invokevirtual 223, 3) := by decide +kernel
theorem d_Mod_walk_193 : decode prog_8_method_57_code 193 = .ok (.iastore, 1) := by decide +kernel
theorem d_Mod_walk_194 : decode prog_8_method_57_code 194 = .ok (.aload_n 0, 1) := by decide +kernel
theorem d_Mod_walk_195 : decode prog_8_method_57_code 195 = .ok (.aload_n 0, 1) := by decide +kernel
theorem d_Mod_walk_196 : decode prog_8_method_57_code 196 = .ok (.iload 5, 2) := by decide +kernel
theorem d_Mod_walk_198 : decode prog_8_method_57_code 198 = .ok (.invokevirtual 223, 3) := by decide +kernel
theorem d_Mod_walk_201 : decode prog_8_method_57_code 201 = .ok (.invokevirtual 168, 3) := by decide +kernel
theorem d_Mod_walk_204 : decode prog_8_method_57_code 204 = .ok (.ifCond .eq (22), 3) := by decide +kernel
theorem d_Mod_walk_207 : decode prog_8_method_57_code 207 = .ok (.aload_n 0, 1) := by decide +kernel
theorem d_Mod_walk_208 : decode prog_8_method_57_code 208 = .ok (.getfield 57, 3) := by decide +kernel
theorem d_Mod_walk_211 : decode prog_8_method_57_code 211 = .ok (.iload_n 2, 1) := by decide +kernel
theorem d_Mod_walk_212 : decode prog_8_method_57_code 212 = .ok (.iload 5, 2) := by decide +kernel
theorem d_Mod_walk_214 : decode prog_8_method_57_code 214 = .ok (.iastore, 1) := by decide +kernel
theorem d_Mod_walk_215 : decode prog_8_method_57_code 215 = .ok (.aload_n 0, 1) := by decide +kernel
theorem d_Mod_walk_216 : decode prog_8_method_57_code 216 = .ok (.getfield 60, 3) := by decide +kernel
theorem d_Mod_walk_219 : decode prog_8_method_57_code 219 = .ok (.iload_n 2, 1) := by decide +kernel
theorem d_Mod_walk_220 : decode prog_8_method_57_code 220 = .ok (.iconst 0, 1) := by decide +kernel
theorem d_Mod_walk_221 : decode prog_8_method_57_code 221 = .ok (.iastore, 1) := by decide +kernel
theorem d_Mod_walk_222 : decode prog_8_method_57_code 222 = .ok (.iload_n 2, 1) := by decide +kernel
theorem d_Mod_walk_223 : decode prog_8_method_57_code 223 = .ok (.iconst 1, 1) := by decide +kernel
theorem d_Mod_walk_224 : decode prog_8_method_57_code 224 = .ok (.iadd, 1) := by decide +kernel
theorem d_Mod_walk_225 : decode prog_8_method_57_code 225 = .ok (.istore_n 2, 1) := by decide +kernel
theorem d_Mod_walk_226 : decode prog_8_method_57_code 226 = .ok (.iinc 3 (1), 3) := by decide +kernel
theorem d_Mod_walk_229 : decode prog_8_method_57_code 229 = .ok (.goto (-211), 3) := by decide +kernel
theorem d_Mod_walk_232 : decode prog_8_method_57_code 232 = .ok (.return_, 1) := by decide +kernel
theorem d_Mod_isNamed_0 : decode prog_8_method_58_code 0 = .ok (.iconst 0, 1) := by decide +kernel
theorem d_Mod_isNamed_1 : decode prog_8_method_58_code 1 = .ok (.istore_n 2, 1) := by decide +kernel
theorem d_Mod_isNamed_2 : decode prog_8_method_58_code 2 = .ok (.iconst 3, 1) := by decide +kernel
theorem d_Mod_isNamed_3 : decode prog_8_method_58_code 3 = .ok (.istore_n 3, 1) := by decide +kernel
theorem d_Mod_isNamed_4 : decode prog_8_method_58_code 4 = .ok (.iload_n 3, 1) := by decide +kernel
theorem d_Mod_isNamed_5 : decode prog_8_method_58_code 5 = .ok (.bipush (61), 2) := by decide +kernel
theorem d_Mod_isNamed_7 : decode prog_8_method_58_code 7 = .ok (.if_icmp .ge (127), 3) := by decide +kernel
theorem d_Mod_isNamed_10 : decode prog_8_method_58_code 10 = .ok (.iload_n 3, 1) := by decide +kernel
theorem d_Mod_isNamed_11 : decode prog_8_method_58_code 11 = .ok (.iload_n 1, 1) := by decide +kernel
theorem d_Mod_isNamed_12 : decode prog_8_method_58_code 12 = .ok (.if_icmp .eq (36), 3) := by decide +kernel
theorem d_Mod_isNamed_15 : decode prog_8_method_58_code 15 = .ok (.aload_n 0, 1) := by decide +kernel
theorem d_Mod_isNamed_16 : decode prog_8_method_58_code 16 = .ok (.iload_n 3, 1) := by decide +kernel
theorem d_Mod_isNamed_17 : decode prog_8_method_58_code 17 = .ok (.invokevirtual 236, 3) := by decide +kernel
theorem d_Mod_isNamed_20 : decode prog_8_method_58_code 20 = .ok (.ifCond .eq (28), 3) := by decide +kernel
theorem d_Mod_isNamed_23 : decode prog_8_method_58_code 23 = .ok (.aload_n 0, 1) := by decide +kernel
theorem d_Mod_isNamed_24 : decode prog_8_method_58_code 24 = .ok (.getfield 54, 3) := by decide +kernel
theorem d_Mod_isNamed_27 : decode prog_8_method_58_code 27 = .ok (.iload_n 3, 1) := by decide +kernel
theorem d_Mod_isNamed_28 : decode prog_8_method_58_code 28 = .ok (.baload, 1) := by decide +kernel
theorem d_Mod_isNamed_29 : decode prog_8_method_58_code 29 = .ok (.ifCond .ne (19), 3) := by decide +kernel
theorem d_Mod_isNamed_32 : decode prog_8_method_58_code 32 = .ok (.aload_n 0, 1) := by decide +kernel
theorem d_Mod_isNamed_33 : decode prog_8_method_58_code 33 = .ok (.aload_n 0, 1) := by decide +kernel
theorem d_Mod_isNamed_34 : decode prog_8_method_58_code 34 = .ok (.iload_n 3, 1) := by decide +kernel
theorem d_Mod_isNamed_35 : decode prog_8_method_58_code 35 = .ok (.invokevirtual 223, 3) := by decide +kernel
theorem d_Mod_isNamed_38 : decode prog_8_method_58_code 38 = .ok (.invokevirtual 168, 3) := by decide +kernel
theorem d_Mod_isNamed_41 : decode prog_8_method_58_code 41 = .ok (.ifCond .eq (7), 3) := by decide +kernel
theorem d_Mod_isNamed_44 : decode prog_8_method_58_code 44 = .ok (.iconst 1, 1) := by decide +kernel
theorem d_Mod_isNamed_45 : decode prog_8_method_58_code 45 = .ok (.goto (4), 3) := by decide +kernel
theorem d_Mod_isNamed_48 : decode prog_8_method_58_code 48 = .ok (.iconst 0, 1) := by decide +kernel
theorem d_Mod_isNamed_49 : decode prog_8_method_58_code 49 = .ok (.istore 4, 2) := by decide +kernel
theorem d_Mod_isNamed_51 : decode prog_8_method_58_code 51 = .ok (.iconst 0, 1) := by decide +kernel
theorem d_Mod_isNamed_52 : decode prog_8_method_58_code 52 = .ok (.istore 5, 2) := by decide +kernel
theorem d_Mod_isNamed_54 : decode prog_8_method_58_code 54 = .ok (.iload 4, 2) := by decide +kernel
theorem d_Mod_isNamed_56 : decode prog_8_method_58_code 56 = .ok (.ifCond .eq (72), 3) := by decide +kernel
theorem d_Mod_isNamed_59 : decode prog_8_method_58_code 59 = .ok (.iload_n 2, 1) := by decide +kernel
theorem d_Mod_isNamed_60 : decode prog_8_method_58_code 60 = .ok (.ifCond .ne (68), 3) := by decide +kernel
theorem d_Mod_isNamed_63 : decode prog_8_method_58_code 63 = .ok (.aload_n 0, 1) := by decide +kernel
theorem d_Mod_isNamed_64 : decode prog_8_method_58_code 64 = .ok (.iload_n 3, 1) := by decide +kernel
theorem d_Mod_isNamed_65 : decode prog_8_method_58_code 65 = .ok (.iload 5, 2) := by decide +kernel
theorem d_Mod_isNamed_67 : decode prog_8_method_58_code 67 = .ok (.invokevirtual 233, 3) := by decide +kernel
theorem d_Mod_isNamed_70 : decode prog_8_method_58_code 70 = .ok (.ifCond .lt (58), 3) := by decide +kernel
theorem d_Mod_isNamed_73 : decode prog_8_method_58_code 73 = .ok (.aload_n 0, 1) := by decide +kernel
theorem d_Mod_isNamed_74 : decode prog_8_method_58_code 74 = .ok (.iload_n 3, 1) := by decide +kernel
theorem d_Mod_isNamed_75 : decode prog_8_method_58_code 75 = .ok (.iload 5, 2) := by decide +kernel
theorem d_Mod_isNamed_77 : decode prog_8_method_58_code 77 = .ok (.invokevirtual 233, 3) := by decide +kernel
theorem d_Mod_isNamed_80 : decode prog_8_method_58_code 80 = .ok (.istore 6, 2) := by decide +kernel
theorem d_Mod_isNamed_82 : decode prog_8_method_58_code 82 = .ok (.aload_n 0, 1) := by decide +kernel
theorem d_Mod_isNamed_83 : decode prog_8_method_58_code 83 = .ok (.getfield 25, 3) := by decide +kernel
theorem d_Mod_isNamed_86 : decode prog_8_method_58_code 86 = .ok (.iload 6, 2) := by decide +kernel
theorem d_Mod_isNamed_88 : decode prog_8_method_58_code 88 = .ok (.iconst 2, 1) := by decide +kernel
theorem d_Mod_isNamed_89 : decode prog_8_method_58_code 89 = .ok (.iadd, 1) := by decide +kernel
theorem d_Mod_isNamed_90 : decode prog_8_method_58_code 90 = .ok (.iaload, 1) := by decide +kernel
theorem d_Mod_isNamed_91 : decode prog_8_method_58_code 91 = .ok (.iload_n 1, 1) := by decide +kernel
theorem d_Mod_isNamed_92 : decode prog_8_method_58_code 92 = .ok (.if_icmp .ne (28), 3) := by decide +kernel
theorem d_Mod_isNamed_95 : decode prog_8_method_58_code 95 = .ok (.aload_n 0, 1) := by decide +kernel
theorem d_Mod_isNamed_96 : decode prog_8_method_58_code 96 = .ok (.iload 6, 2) := by decide +kernel
theorem d_Mod_isNamed_98 : decode prog_8_method_58_code 98 = .ok (.invokevirtual 105, 3) := by decide +kernel
theorem d_Mod_isNamed_101 : decode prog_8_method_58_code 101 = .ok (.aload_n 0, 1) := by decide +kernel
theorem d_Mod_isNamed_102 : decode prog_8_method_58_code 102 = .ok (.bipush (8), 2) := by decide +kernel
theorem d_Mod_isNamed_104 : decode prog_8_method_58_code 104 = .ok (.aload_n 0, 1) := by decide +kernel
theorem d_Mod_isNamed_105 : decode prog_8_method_58_code 105 = .ok (.iload_n 1, 1) := by decide +kernel
theorem d_Mod_isNamed_106 : decode prog_8_method_58_code 106 = .ok (.invokevirtual 223, 3) := by decide +kernel
theorem d_Mod_isNamed_109 : decode prog_8_method_58_code 109 = .ok (.imul, 1) := by decide +kernel
theorem d_Mod_isNamed_110 : decode prog_8_method_58_code 110 = .ok (.invokevirtual 105, 3) := by decide +kernel
theorem d_Mod_isNamed_113 : decode prog_8_method_58_code 113 = .ok (.if_icmp .ne (7), 3) := by decide +kernel
theorem d_Mod_isNamed_116 : decode prog_8_method_58_code 116 = .ok (.iconst 1, 1) := by decide +kernel
theorem d_Mod_isNamed_117 : decode prog_8_method_58_code 117 = .ok (.goto (4), 3) := by decide +kernel
theorem d_Mod_isNamed_120 : decode prog_8_method_58_code 120 = .ok (.iconst 0, 1) := by decide +kernel
theorem d_Mod_isNamed_121 : decode prog_8_method_58_code 121 = .ok (.istore_n 2, 1) := by decide +kernel
theorem d_Mod_isNamed_122 : decode prog_8_method_58_code 122 = .ok (.iinc 5 (1), 3) := by decide +kernel
theorem d_Mod_isNamed_125 : decode prog_8_method_58_code 125 = .ok (.goto (-71), 3) := by decide +kernel
theorem d_Mod_isNamed_128 : decode prog_8_method_58_code 128 = .ok (.iinc 3 (1), 3) := by decide +kernel
theorem d_Mod_isNamed_131 : decode prog_8_method_58_code 131 = .ok (.goto (-127), 3) := by decide +kernel
theorem d_Mod_isNamed_134 : decode prog_8_method_58_code 134 = .ok (.iload_n 2, 1) := by decide +kernel
theorem d_Mod_isNamed_135 : decode prog_8_method_58_code 135 = .ok (.ireturn, 1) := by decide +kernel
theorem d_Mod_orphan_0 : decode prog_8_method_59_code 0 = .ok (.iconst 0, 1) := by decide +kernel
theorem d_Mod_orphan_1 : decode prog_8_method_59_code 1 = .ok (.istore_n 1, 1) := by decide +kernel
theorem d_Mod_orphan_2 : decode prog_8_method_59_code 2 = .ok (.bipush (60), 2) := by decide +kernel
theorem d_Mod_orphan_4 : decode prog_8_method_59_code 4 = .ok (.istore_n 2, 1) := by decide +kernel
theorem d_Mod_orphan_5 : decode prog_8_method_59_code 5 = .ok (.iload_n 2, 1) := by decide +kernel
theorem d_Mod_orphan_6 : decode prog_8_method_59_code 6 = .ok (.iconst 2, 1) := by decide +kernel
theorem d_Mod_orphan_7 : decode prog_8_method_59_code 7 = .ok (.if_icmp .le (32), 3) := by decide +kernel
theorem d_Mod_orphan_10 : decode prog_8_method_59_code 10 = .ok (.aload_n 0, 1) := by decide +kernel
theorem d_Mod_orphan_11 : decode prog_8_method_59_code 11 = .ok (.iload_n 2, 1) := by decide +kernel
theorem d_Mod_orphan_12 : decode prog_8_method_59_code 12 = .ok (.invokevirtual 236, 3) := by decide +kernel
theorem d_Mod_orphan_15 : decode prog_8_method_59_code 15 = .ok (.ifCond .eq (16), 3) := by decide +kernel
theorem d_Mod_orphan_18 : decode prog_8_method_59_code 18 = .ok (.aload_n 0, 1) := by decide +kernel
theorem d_Mod_orphan_19 : decode prog_8_method_59_code 19 = .ok (.getfield 54, 3) := by decide +kernel
theorem d_Mod_orphan_22 : decode prog_8_method_59_code 22 = .ok (.iload_n 2, 1) := by decide +kernel
theorem d_Mod_orphan_23 : decode prog_8_method_59_code 23 = .ok (.baload, 1) := by decide +kernel
theorem d_Mod_orphan_24 : decode prog_8_method_59_code 24 = .ok (.ifCond .ne (7), 3) := by decide +kernel
theorem d_Mod_orphan_27 : decode prog_8_method_59_code 27 = .ok (.iload_n 2, 1) := by decide +kernel
theorem d_Mod_orphan_28 : decode prog_8_method_59_code 28 = .ok (.goto (4), 3) := by decide +kernel
theorem d_Mod_orphan_31 : decode prog_8_method_59_code 31 = .ok (.iload_n 1, 1) := by decide +kernel
theorem d_Mod_orphan_32 : decode prog_8_method_59_code 32 = .ok (.istore_n 1, 1) := by decide +kernel
theorem d_Mod_orphan_33 : decode prog_8_method_59_code 33 = .ok (.iinc 2 (-1), 3) := by decide +kernel
theorem d_Mod_orphan_36 : decode prog_8_method_59_code 36 = .ok (.goto (-31), 3) := by decide +kernel
theorem d_Mod_orphan_39 : decode prog_8_method_59_code 39 = .ok (.iconst 0, 1) := by decide +kernel
theorem d_Mod_orphan_40 : decode prog_8_method_59_code 40 = .ok (.istore_n 2, 1) := by decide +kernel
theorem d_Mod_orphan_41 : decode prog_8_method_59_code 41 = .ok (.bipush (60), 2) := by decide +kernel
theorem d_Mod_orphan_43 : decode prog_8_method_59_code 43 = .ok (.istore_n 3, 1) := by decide +kernel
theorem d_Mod_orphan_44 : decode prog_8_method_59_code 44 = .ok (.iload_n 3, 1) := by decide +kernel
theorem d_Mod_orphan_45 : decode prog_8_method_59_code 45 = .ok (.iconst 2, 1) := by decide +kernel
theorem d_Mod_orphan_46 : decode prog_8_method_59_code 46 = .ok (.if_icmp .le (40), 3) := by decide +kernel
theorem d_Mod_orphan_49 : decode prog_8_method_59_code 49 = .ok (.aload_n 0, 1) := by decide +kernel
theorem d_Mod_orphan_50 : decode prog_8_method_59_code 50 = .ok (.iload_n 3, 1) := by decide +kernel
theorem d_Mod_orphan_51 : decode prog_8_method_59_code 51 = .ok (.invokevirtual 236, 3) := by decide +kernel
theorem d_Mod_orphan_54 : decode prog_8_method_59_code 54 = .ok (.ifCond .eq (24), 3) := by decide +kernel
theorem d_Mod_orphan_57 : decode prog_8_method_59_code 57 = .ok (.aload_n 0, 1) := by decide +kernel
theorem d_Mod_orphan_58 : decode prog_8_method_59_code 58 = .ok (.getfield 54, 3) := by decide +kernel
theorem d_Mod_orphan_61 : decode prog_8_method_59_code 61 = .ok (.iload_n 3, 1) := by decide +kernel
theorem d_Mod_orphan_62 : decode prog_8_method_59_code 62 = .ok (.baload, 1) := by decide +kernel
theorem d_Mod_orphan_63 : decode prog_8_method_59_code 63 = .ok (.ifCond .ne (15), 3) := by decide +kernel
theorem d_Mod_orphan_66 : decode prog_8_method_59_code 66 = .ok (.aload_n 0, 1) := by decide +kernel
theorem d_Mod_orphan_67 : decode prog_8_method_59_code 67 = .ok (.iload_n 3, 1) := by decide +kernel
theorem d_Mod_orphan_68 : decode prog_8_method_59_code 68 = .ok (.invokevirtual 239, 3) := by decide +kernel
theorem d_Mod_orphan_71 : decode prog_8_method_59_code 71 = .ok (.ifCond .ne (7), 3) := by decide +kernel
theorem d_Mod_orphan_74 : decode prog_8_method_59_code 74 = .ok (.iload_n 3, 1) := by decide +kernel
theorem d_Mod_orphan_75 : decode prog_8_method_59_code 75 = .ok (.goto (4), 3) := by decide +kernel
theorem d_Mod_orphan_78 : decode prog_8_method_59_code 78 = .ok (.iload_n 2, 1) := by decide +kernel
theorem d_Mod_orphan_79 : decode prog_8_method_59_code 79 = .ok (.istore_n 2, 1) := by decide +kernel
theorem d_Mod_orphan_80 : decode prog_8_method_59_code 80 = .ok (.iinc 3 (-1), 3) := by decide +kernel
theorem d_Mod_orphan_83 : decode prog_8_method_59_code 83 = .ok (.goto (-39), 3) := by decide +kernel
theorem d_Mod_orphan_86 : decode prog_8_method_59_code 86 = .ok (.iload_n 2, 1) := by decide +kernel
theorem d_Mod_orphan_87 : decode prog_8_method_59_code 87 = .ok (.ifCond .le (7), 3) := by decide +kernel
theorem d_Mod_orphan_90 : decode prog_8_method_59_code 90 = .ok (.iload_n 2, 1) := by decide +kernel
theorem d_Mod_orphan_91 : decode prog_8_method_59_code 91 = .ok (.goto (4), 3) := by decide +kernel
theorem d_Mod_orphan_94 : decode prog_8_method_59_code 94 = .ok (.iload_n 1, 1) := by decide +kernel
theorem d_Mod_orphan_95 : decode prog_8_method_59_code 95 = .ok (.ireturn, 1) := by decide +kernel
theorem d_Mod_room_0 : decode prog_8_method_60_code 0 = .ok (.iconst 0, 1) := by decide +kernel
theorem d_Mod_room_1 : decode prog_8_method_60_code 1 = .ok (.istore_n 1, 1) := by decide +kernel
theorem d_Mod_room_2 : decode prog_8_method_60_code 2 = .ok (.aload_n 0, 1) := by decide +kernel
theorem d_Mod_room_3 : decode prog_8_method_60_code 3 = .ok (.iconst 1, 1) := by decide +kernel
theorem d_Mod_room_4 : decode prog_8_method_60_code 4 = .ok (.iload_n 1, 1) := by decide +kernel
theorem d_Mod_room_5 : decode prog_8_method_60_code 5 = .ok (.invokevirtual 233, 3) := by decide +kernel
theorem d_Mod_room_8 : decode prog_8_method_60_code 8 = .ok (.ifCond .lt (32), 3) := by decide +kernel
theorem d_Mod_room_11 : decode prog_8_method_60_code 11 = .ok (.aload_n 0, 1) := by decide +kernel
theorem d_Mod_room_12 : decode prog_8_method_60_code 12 = .ok (.getfield 25, 3) := by decide +kernel
theorem d_Mod_room_15 : decode prog_8_method_60_code 15 = .ok (.aload_n 0, 1) := by decide +kernel
theorem d_Mod_room_16 : decode prog_8_method_60_code 16 = .ok (.iconst 1, 1) := by decide +kernel
theorem d_Mod_room_17 : decode prog_8_method_60_code 17 = .ok (.iload_n 1, 1) := by decide +kernel
theorem d_Mod_room_18 : decode prog_8_method_60_code 18 = .ok (.invokevirtual 233, 3) := by decide +kernel
theorem d_Mod_room_21 : decode prog_8_method_60_code 21 = .ok (.iconst 2, 1) := by decide +kernel
theorem d_Mod_room_22 : decode prog_8_method_60_code 22 = .ok (.iadd, 1) := by decide +kernel
theorem d_Mod_room_23 : decode prog_8_method_60_code 23 = .ok (.iaload, 1) := by decide +kernel
theorem d_Mod_room_24 : decode prog_8_method_60_code 24 = .ok (.ifCond .ne (10), 3) := by decide +kernel
theorem d_Mod_room_27 : decode prog_8_method_60_code 27 = .ok (.aload_n 0, 1) := by decide +kernel
theorem d_Mod_room_28 : decode prog_8_method_60_code 28 = .ok (.iconst 1, 1) := by decide +kernel
theorem d_Mod_room_29 : decode prog_8_method_60_code 29 = .ok (.iload_n 1, 1) := by decide +kernel
theorem d_Mod_room_30 : decode prog_8_method_60_code 30 = .ok (.invokevirtual 233, 3) := by decide +kernel
theorem d_Mod_room_33 : decode prog_8_method_60_code 33 = .ok (.ireturn, 1) := by decide +kernel
theorem d_Mod_room_34 : decode prog_8_method_60_code 34 = .ok (.iinc 1 (1), 3) := by decide +kernel
theorem d_Mod_room_37 : decode prog_8_method_60_code 37 = .ok (.goto (-35), 3) := by decide +kernel
theorem d_Mod_room_40 : decode prog_8_method_60_code 40 = .ok (.aload_n 0, 1) := by decide +kernel
theorem d_Mod_room_41 : decode prog_8_method_60_code 41 = .ok (.getfield 51, 3) := by decide +kernel
theorem d_Mod_room_44 : decode prog_8_method_60_code 44 = .ok (.iconst 1, 1) := by decide +kernel
theorem d_Mod_room_45 : decode prog_8_method_60_code 45 = .ok (.iaload, 1) := by decide +kernel
theorem d_Mod_room_46 : decode prog_8_method_60_code 46 = .ok (.ifCond .le (17), 3) := by decide +kernel
theorem d_Mod_room_49 : decode prog_8_method_60_code 49 = .ok (.aload_n 0, 1) := by decide +kernel
theorem d_Mod_room_50 : decode prog_8_method_60_code 50 = .ok (.iconst 1, 1) := by decide +kernel
theorem d_Mod_room_51 : decode prog_8_method_60_code 51 = .ok (.aload_n 0, 1) := by decide +kernel
theorem d_Mod_room_52 : decode prog_8_method_60_code 52 = .ok (.getfield 51, 3) := by decide +kernel
theorem d_Mod_room_55 : decode prog_8_method_60_code 55 = .ok (.iconst 1, 1) := by decide +kernel
theorem d_Mod_room_56 : decode prog_8_method_60_code 56 = .ok (.iaload, 1) := by decide +kernel
theorem d_Mod_room_57 : decode prog_8_method_60_code 57 = .ok (.invokevirtual 214, 3) := by decide +kernel
theorem d_Mod_room_60 : decode prog_8_method_60_code 60 = .ok (.goto (4), 3) := by decide +kernel
theorem d_Mod_room_63 : decode prog_8_method_60_code 63 = .ok (.iconst (-1), 1) := by decide +kernel
theorem d_Mod_room_64 : decode prog_8_method_60_code 64 = .ok (.istore_n 1, 1) := by decide +kernel
theorem d_Mod_room_65 : decode prog_8_method_60_code 65 = .ok (.iload_n 1, 1) := by decide +kernel
theorem d_Mod_room_66 : decode prog_8_method_60_code 66 = .ok (.ifCond .lt (28), 3) := by decide +kernel
theorem d_Mod_room_69 : decode prog_8_method_60_code 69 = .ok (.aload_n 0, 1) := by decide +kernel
theorem d_Mod_room_70 : decode prog_8_method_60_code 70 = .ok (.getfield 16, 3) := by decide +kernel
theorem d_Mod_room_73 : decode prog_8_method_60_code 73 = .ok (.iload_n 1, 1) := by decide +kernel
theorem d_Mod_room_74 : decode prog_8_method_60_code 74 = .ok (.iaload, 1) := by decide +kernel
theorem d_Mod_room_75 : decode prog_8_method_60_code 75 = .ok (.iconst 4, 1) := by decide +kernel
theorem d_Mod_room_76 : decode prog_8_method_60_code 76 = .ok (.if_icmp .gt (18), 3) := by decide +kernel
theorem d_Mod_room_79 : decode prog_8_method_60_code 79 = .ok (.aload_n 0, 1) := by decide +kernel
theorem d_Mod_room_80 : decode prog_8_method_60_code 80 = .ok (.getfield 16, 3) := by decide +kernel
theorem d_Mod_room_83 : decode prog_8_method_60_code 83 = .ok (.iload_n 1, 1) := by decide +kernel
theorem d_Mod_room_84 : decode prog_8_method_60_code 84 = .ok (.bipush (8), 2) := by decide +kernel
theorem d_Mod_room_86 : decode prog_8_method_60_code 86 = .ok (.iastore, 1) := by decide +kernel
theorem d_Mod_room_87 : decode prog_8_method_60_code 87 = .ok (.bipush (8), 2) := by decide +kernel
theorem d_Mod_room_89 : decode prog_8_method_60_code 89 = .ok (.iload_n 1, 1) := by decide +kernel
theorem d_Mod_room_90 : decode prog_8_method_60_code 90 = .ok (.imul, 1) := by decide +kernel
theorem d_Mod_room_91 : decode prog_8_method_60_code 91 = .ok (.iconst 4, 1) := by decide +kernel
theorem d_Mod_room_92 : decode prog_8_method_60_code 92 = .ok (.iadd, 1) := by decide +kernel
theorem d_Mod_room_93 : decode prog_8_method_60_code 93 = .ok (.ireturn, 1) := by decide +kernel
theorem d_Mod_room_94 : decode prog_8_method_60_code 94 = .ok (.aload_n 0, 1) := by decide +kernel
theorem d_Mod_room_95 : decode prog_8_method_60_code 95 = .ok (.invokevirtual 220, 3) := by decide +kernel
theorem d_Mod_room_98 : decode prog_8_method_60_code 98 = .ok (.istore_n 2, 1) := by decide +kernel
theorem d_Mod_room_99 : decode prog_8_method_60_code 99 = .ok (.iload_n 2, 1) := by decide +kernel
theorem d_Mod_room_100 : decode prog_8_method_60_code 100 = .ok (.ifCond .ge (5), 3) := by decide +kernel
theorem d_Mod_room_103 : decode prog_8_method_60_code 103 = .ok (.iconst (-1), 1) := by decide +kernel
theorem d_Mod_room_104 : decode prog_8_method_60_code 104 = .ok (.ireturn, 1) := by decide +kernel
theorem d_Mod_room_105 : decode prog_8_method_60_code 105 = .ok (.aload_n 0, 1) := by decide +kernel
theorem d_Mod_room_106 : decode prog_8_method_60_code 106 = .ok (.iload_n 2, 1) := by decide +kernel
theorem d_Mod_room_107 : decode prog_8_method_60_code 107 = .ok (.invokevirtual 125, 3) := by decide +kernel
theorem d_Mod_room_110 : decode prog_8_method_60_code 110 = .ok (.aload_n 0, 1) := by decide +kernel
theorem d_Mod_room_111 : decode prog_8_method_60_code 111 = .ok (.getfield 51, 3) := by decide +kernel
theorem d_Mod_room_114 : decode prog_8_method_60_code 114 = .ok (.iconst 1, 1) := by decide +kernel
theorem d_Mod_room_115 : decode prog_8_method_60_code 115 = .ok (.aload_n 0, 1) := by decide +kernel
theorem d_Mod_room_116 : decode prog_8_method_60_code 116 = .ok (.getfield 51, 3) := by decide +kernel
theorem d_Mod_room_119 : decode prog_8_method_60_code 119 = .ok (.iconst 1, 1) := by decide +kernel
theorem d_Mod_room_120 : decode prog_8_method_60_code 120 = .ok (.iaload, 1) := by decide +kernel
theorem d_Mod_room_121 : decode prog_8_method_60_code 121 = .ok (.iconst 1, 1) := by decide +kernel
theorem d_Mod_room_122 : decode prog_8_method_60_code 122 = .ok (.iadd, 1) := by decide +kernel
theorem d_Mod_room_123 : decode prog_8_method_60_code 123 = .ok (.iastore, 1) := by decide +kernel
theorem d_Mod_room_124 : decode prog_8_method_60_code 124 = .ok (.aload_n 0, 1) := by decide +kernel
theorem d_Mod_room_125 : decode prog_8_method_60_code 125 = .ok (.iload_n 2, 1) := by decide +kernel
theorem d_Mod_room_126 : decode prog_8_method_60_code 126 = .ok (.iconst 1, 1) := by decide +kernel
theorem d_Mod_room_127 : decode prog_8_method_60_code 127 = .ok (.aload_n 0, 1) := by decide +kernel
theorem d_Mod_room_128 : decode prog_8_method_60_code 128 = .ok (.getfield 51, 3) := by decide +kernel
theorem d_Mod_room_131 : decode prog_8_method_60_code 131 = .ok (.iconst 1, 1) := by decide +kernel
theorem d_Mod_room_132 : decode prog_8_method_60_code 132 = .ok (.iaload, 1) := by decide +kernel
theorem d_Mod_room_133 : decode prog_8_method_60_code 133 = .ok (.iconst 4, 1) := by decide +kernel
theorem d_Mod_room_134 : decode prog_8_method_60_code 134 = .ok (.invokevirtual 66, 3) := by decide +kernel
theorem d_Mod_room_137 : decode prog_8_method_60_code 137 = .ok (.aload_n 0, 1) := by decide +kernel
theorem d_Mod_room_138 : decode prog_8_method_60_code 138 = .ok (.getfield 48, 3) := by decide +kernel
theorem d_Mod_room_141 : decode prog_8_method_60_code 141 = .ok (.bipush (40), 2) := by decide +kernel
theorem d_Mod_room_143 : decode prog_8_method_60_code 143 = .ok (.aload_n 0, 1) := by decide +kernel
theorem d_Mod_room_144 : decode prog_8_method_60_code 144 = .ok (.getfield 51, 3) := by decide +kernel
theorem d_Mod_room_147 : decode prog_8_method_60_code 147 = .ok (.iconst 1, 1) := by decide +kernel
theorem d_Mod_room_148 : decode prog_8_method_60_code 148 = .ok (.iaload, 1) := by decide +kernel
theorem d_Mod_room_149 : decode prog_8_method_60_code 149 = .ok (.iadd, 1) := by decide +kernel
theorem d_Mod_room_150 : decode prog_8_method_60_code 150 = .ok (.iload_n 2, 1) := by decide +kernel
theorem d_Mod_room_151 : decode prog_8_method_60_code 151 = .ok (.iconst 1, 1) := by decide +kernel
theorem d_Mod_room_152 : decode prog_8_method_60_code 152 = .ok (.iadd, 1) := by decide +kernel
theorem d_Mod_room_153 : decode prog_8_method_60_code 153 = .ok (.iastore, 1) := by decide +kernel
theorem d_Mod_room_154 : decode prog_8_method_60_code 154 = .ok (.bipush (8), 2) := by decide +kernel
theorem d_Mod_room_156 : decode prog_8_method_60_code 156 = .ok (.iload_n 2, 1) := by decide +kernel
theorem d_Mod_room_157 : decode prog_8_method_60_code 157 = .ok (.imul, 1) := by decide +kernel
theorem d_Mod_room_158 : decode prog_8_method_60_code 158 = .ok (.ireturn, 1) := by decide +kernel
theorem d_Mod_rootHas_0 : decode prog_8_method_61_code 0 = .ok (.iconst 0, 1) := by decide +kernel
theorem d_Mod_rootHas_1 : decode prog_8_method_61_code 1 = .ok (.istore_n 2, 1) := by decide +kernel
theorem d_Mod_rootHas_2 : decode prog_8_method_61_code 2 = .ok (.iconst 0, 1) := by decide +kernel
theorem d_Mod_rootHas_3 : decode prog_8_method_61_code 3 = .ok (.istore_n 3, 1) := by decide +kernel
theorem d_Mod_rootHas_4 : decode prog_8_method_61_code 4 = .ok (.aload_n 0, 1) := by decide +kernel
theorem d_Mod_rootHas_5 : decode prog_8_method_61_code 5 = .ok (.iconst 1, 1) := by decide +kernel
theorem d_Mod_rootHas_6 : decode prog_8_method_61_code 6 = .ok (.iload_n 3, 1) := by decide +kernel
theorem d_Mod_rootHas_7 : decode prog_8_method_61_code 7 = .ok (.invokevirtual 233, 3) := by decide +kernel
theorem d_Mod_rootHas_10 : decode prog_8_method_61_code 10 = .ok (.ifCond .lt (49), 3) := by decide +kernel
theorem d_Mod_rootHas_13 : decode prog_8_method_61_code 13 = .ok (.iload_n 2, 1) := by decide +kernel
theorem d_Mod_rootHas_14 : decode prog_8_method_61_code 14 = .ok (.ifCond .ne (33), 3) := by decide +kernel
theorem d_Mod_rootHas_17 : decode prog_8_method_61_code 17 = .ok (.aload_n 0, 1) := by decide +kernel
theorem d_Mod_rootHas_18 : decode prog_8_method_61_code 18 = .ok (.getfield 25, 3) := by decide +kernel
theorem d_Mod_rootHas_21 : decode prog_8_method_61_code 21 = .ok (.aload_n 0, 1) := by decide +kernel
theorem d_Mod_rootHas_22 : decode prog_8_method_61_code 22 = .ok (.iconst 1, 1) := by decide +kernel
theorem d_Mod_rootHas_23 : decode prog_8_method_61_code 23 = .ok (.iload_n 3, 1) := by decide +kernel
theorem d_Mod_rootHas_24 : decode prog_8_method_61_code 24 = .ok (.invokevirtual 233, 3) := by decide +kernel
theorem d_Mod_rootHas_27 : decode prog_8_method_61_code 27 = .ok (.iconst 2, 1) := by decide +kernel
theorem d_Mod_rootHas_28 : decode prog_8_method_61_code 28 = .ok (.iadd, 1) := by decide +kernel
theorem d_Mod_rootHas_29 : decode prog_8_method_61_code 29 = .ok (.iaload, 1) := by decide +kernel
theorem d_Mod_rootHas_30 : decode prog_8_method_61_code 30 = .ok (.ifCond .le (21), 3) := by decide +kernel
theorem d_Mod_rootHas_33 : decode prog_8_method_61_code 33 = .ok (.aload_n 0, 1) := by decide +kernel
theorem d_Mod_rootHas_34 : decode prog_8_method_61_code 34 = .ok (.aload_n 0, 1) := by decide +kernel
theorem d_Mod_rootHas_35 : decode prog_8_method_61_code 35 = .ok (.iconst 1, 1) := by decide +kernel
theorem d_Mod_rootHas_36 : decode prog_8_method_61_code 36 = .ok (.iload_n 3, 1) := by decide +kernel
theorem d_Mod_rootHas_37 : decode prog_8_method_61_code 37 = .ok (.invokevirtual 233, 3) := by decide +kernel
theorem d_Mod_rootHas_40 : decode prog_8_method_61_code 40 = .ok (.invokevirtual 105, 3) := by decide +kernel
theorem d_Mod_rootHas_43 : decode prog_8_method_61_code 43 = .ok (.iload_n 1, 1) := by decide +kernel
theorem d_Mod_rootHas_44 : decode prog_8_method_61_code 44 = .ok (.if_icmp .ne (7), 3) := by decide +kernel
theorem d_Mod_rootHas_47 : decode prog_8_method_61_code 47 = .ok (.iconst 1, 1) := by decide +kernel
theorem d_Mod_rootHas_48 : decode prog_8_method_61_code 48 = .ok (.goto (4), 3) := by decide +kernel
theorem d_Mod_rootHas_51 : decode prog_8_method_61_code 51 = .ok (.iconst 0, 1) := by decide +kernel
theorem d_Mod_rootHas_52 : decode prog_8_method_61_code 52 = .ok (.istore_n 2, 1) := by decide +kernel
theorem d_Mod_rootHas_53 : decode prog_8_method_61_code 53 = .ok (.iinc 3 (1), 3) := by decide +kernel
theorem d_Mod_rootHas_56 : decode prog_8_method_61_code 56 = .ok (.goto (-52), 3) := by decide +kernel
theorem d_Mod_rootHas_59 : decode prog_8_method_61_code 59 = .ok (.iload_n 2, 1) := by decide +kernel
theorem d_Mod_rootHas_60 : decode prog_8_method_61_code 60 = .ok (.ireturn, 1) := by decide +kernel
theorem d_Mod_adopt_0 : decode prog_8_method_62_code 0 = .ok (.iconst 1, 1) := by decide +kernel
theorem d_Mod_adopt_1 : decode prog_8_method_62_code 1 = .ok (.istore_n 1, 1) := by decide +kernel
theorem d_Mod_adopt_2 : decode prog_8_method_62_code 2 = .ok (.iconst 0, 1) := by decide +kernel
theorem d_Mod_adopt_3 : decode prog_8_method_62_code 3 = .ok (.istore_n 2, 1) := by decide +kernel
theorem d_Mod_adopt_4 : decode prog_8_method_62_code 4 = .ok (.iload_n 2, 1) := by decide +kernel
theorem d_Mod_adopt_5 : decode prog_8_method_62_code 5 = .ok (.bipush (61), 2) := by decide +kernel
theorem d_Mod_adopt_7 : decode prog_8_method_62_code 7 = .ok (.if_icmp .ge (210), 3) := by decide +kernel
theorem d_Mod_adopt_10 : decode prog_8_method_62_code 10 = .ok (.iload_n 1, 1) := by decide +kernel
theorem d_Mod_adopt_11 : decode prog_8_method_62_code 11 = .ok (.ifCond .eq (206), 3) := by decide +kernel
theorem d_Mod_adopt_14 : decode prog_8_method_62_code 14 = .ok (.aload_n 0, 1) := by decide +kernel
theorem d_Mod_adopt_15 : decode prog_8_method_62_code 15 = .ok (.invokevirtual 242, 3) := by decide +kernel
theorem d_Mod_adopt_18 : decode prog_8_method_62_code 18 = .ok (.istore_n 3, 1) := by decide +kernel
theorem d_Mod_adopt_19 : decode prog_8_method_62_code 19 = .ok (.iload_n 3, 1) := by decide +kernel
theorem d_Mod_adopt_20 : decode prog_8_method_62_code 20 = .ok (.ifCond .le (18), 3) := by decide +kernel
theorem d_Mod_adopt_23 : decode prog_8_method_62_code 23 = .ok (.aload_n 0, 1) := by decide +kernel
theorem d_Mod_adopt_24 : decode prog_8_method_62_code 24 = .ok (.bipush (8), 2) := by decide +kernel
theorem d_Mod_adopt_26 : decode prog_8_method_62_code 26 = .ok (.aload_n 0, 1) := by decide +kernel
theorem d_Mod_adopt_27 : decode prog_8_method_62_code 27 = .ok (.iload_n 3, 1) := by decide +kernel
theorem d_Mod_adopt_28 : decode prog_8_method_62_code 28 = .ok (.invokevirtual 223, 3) := by decide +kernel
theorem d_Mod_adopt_31 : decode prog_8_method_62_code 31 = .ok (.imul, 1) := by decide +kernel
theorem d_Mod_adopt_32 : decode prog_8_method_62_code 32 = .ok (.invokevirtual 105, 3) := by decide +kernel
theorem d_Mod_adopt_35 : decode prog_8_method_62_code 35 = .ok (.goto (4), 3) := by decide +kernel
theorem d_Mod_adopt_38 : decode prog_8_method_62_code 38 = .ok (.iconst 0, 1) := by decide +kernel
theorem d_Mod_adopt_39 : decode prog_8_method_62_code 39 = .ok (.istore 4, 2) := by decide +kernel
theorem d_Mod_adopt_41 : decode prog_8_method_62_code 41 = .ok (.iload_n 3, 1) := by decide +kernel
theorem d_Mod_adopt_42 : decode prog_8_method_62_code 42 = .ok (.ifCond .le (28), 3) := by decide +kernel
theorem d_Mod_adopt_45 : decode prog_8_method_62_code 45 = .ok (.iload 4, 2) := by decide +kernel
theorem d_Mod_adopt_47 : decode prog_8_method_62_code 47 = .ok (.iconst 1, 1) := by decide +kernel
theorem d_Mod_adopt_48 : decode prog_8_method_62_code 48 = .ok (.sipush (9999), 3) := by decide +kernel
theorem d_Mod_adopt_51 : decode prog_8_method_62_code 51 = .ok (.invokestatic 73, 3) := by decide +kernel
theorem d_Mod_adopt_54 : decode prog_8_method_62_code 54 = .ok (.ifCond .eq (16), 3) := by decide +kernel
theorem d_Mod_adopt_57 : decode prog_8_method_62_code 57 = .ok (.aload_n 0, 1) := by decide +kernel
theorem d_Mod_adopt_58 : decode prog_8_method_62_code 58 = .ok (.iload 4, 2) := by decide +kernel
theorem d_Mod_adopt_60 : decode prog_8_method_62_code 60 = .ok (.invokevirtual 245, 3) := by decide +kernel
theorem d_Mod_adopt_63 : decode prog_8_method_62_code 63 = .ok (.ifCond .ne (7), 3) := by decide +kernel
theorem d_Mod_adopt_66 : decode prog_8_method_62_code 66 = .ok (.iconst 1, 1) := by decide +kernel
theorem d_Mod_adopt_67 : decode prog_8_method_62_code 67 = .ok (.goto (4), 3) := by decide +kernel
theorem d_Mod_adopt_70 : decode prog_8_method_62_code 70 = .ok (.iconst 0, 1) := by decide +kernel
theorem d_Mod_adopt_71 : decode prog_8_method_62_code 71 = .ok (.istore 5, 2) := by decide +kernel
theorem d_Mod_adopt_73 : decode prog_8_method_62_code 73 = .ok (.iload_n 3, 1) := by decide +kernel
theorem d_Mod_adopt_74 : decode prog_8_method_62_code 74 = .ok (.ifCond .le (10), 3) := by decide +kernel
theorem d_Mod_adopt_77 : decode prog_8_method_62_code 77 = .ok (.aload_n 0, 1) := by decide +kernel
theorem d_Mod_adopt_78 : decode prog_8_method_62_code 78 = .ok (.invokevirtual 248, 3) := by decide +kernel
theorem d_Mod_adopt_81 : decode prog_8_method_62_code 81 = .ok (.goto (4), 3) := by decide +kernel
theorem d_Mod_adopt_84 : decode prog_8_method_62_code 84 = .ok (.iconst (-1), 1) := by decide +kernel
theorem d_Mod_adopt_85 : decode prog_8_method_62_code 85 = .ok (.istore 6, 2) := by decide +kernel
theorem d_Mod_adopt_87 : decode prog_8_method_62_code 87 = .ok (.iload 6, 2) := by decide +kernel
theorem d_Mod_adopt_89 : decode prog_8_method_62_code 89 = .ok (.ifCond .lt (7), 3) := by decide +kernel
theorem d_Mod_adopt_92 : decode prog_8_method_62_code 92 = .ok (.iconst 1, 1) := by decide +kernel
theorem d_Mod_adopt_93 : decode prog_8_method_62_code 93 = .ok (.goto (4), 3) := by decide +kernel
theorem d_Mod_adopt_96 : decode prog_8_method_62_code 96 = .ok (.iconst 0, 1) := by decide +kernel
theorem d_Mod_adopt_97 : decode prog_8_method_62_code 97 = .ok (.istore_n 1, 1) := by decide +kernel
theorem d_Mod_adopt_98 : decode prog_8_method_62_code 98 = .ok (.iload_n 1, 1) := by decide +kernel
theorem d_Mod_adopt_99 : decode prog_8_method_62_code 99 = .ok (.ifCond .eq (112), 3) := by decide +kernel
theorem d_Mod_adopt_102 : decode prog_8_method_62_code 102 = .ok (.iload 5, 2) := by decide +kernel
theorem d_Mod_adopt_104 : decode prog_8_method_62_code 104 = .ok (.ifCond .eq (8), 3) := by decide +kernel
theorem d_Mod_adopt_107 : decode prog_8_method_62_code 107 = .ok (.iload 4, 2) := by decide +kernel
theorem d_Mod_adopt_109 : decode prog_8_method_62_code 109 = .ok (.goto (8), 3) := by decide +kernel
theorem d_Mod_adopt_112 : decode prog_8_method_62_code 112 = .ok (.sipush (10000), 3) := by decide +kernel
theorem d_Mod_adopt_115 : decode prog_8_method_62_code 115 = .ok (.iload_n 3, 1) := by decide +kernel
theorem d_Mod_adopt_116 : decode prog_8_method_62_code 116 = .ok (.iadd, 1) := by decide +kernel
theorem d_Mod_adopt_117 : decode prog_8_method_62_code 117 = .ok (.istore 4, 2) := by decide +kernel
theorem d_Mod_adopt_119 : decode prog_8_method_62_code 119 = .ok (.aload_n 0, 1) := by decide +kernel
theorem d_Mod_adopt_120 : decode prog_8_method_62_code 120 = .ok (.iload 6, 2) := by decide +kernel
theorem d_Mod_adopt_122 : decode prog_8_method_62_code 122 = .ok (.iload 4, 2) := by decide +kernel
theorem d_Mod_adopt_124 : decode prog_8_method_62_code 124 = .ok (.iload_n 3, 1) := by decide +kernel
theorem d_Mod_adopt_125 : decode prog_8_method_62_code 125 = .ok (.aload_n 0, 1) := by decide +kernel
theorem d_Mod_adopt_126 : decode prog_8_method_62_code 126 = .ok (.iload_n 3, 1) := by decide +kernel
theorem d_Mod_adopt_127 : decode prog_8_method_62_code 127 = .ok (.invokevirtual 223, 3) := by decide +kernel
theorem d_Mod_adopt_130 : decode prog_8_method_62_code 130 = .ok (.invokevirtual 142, 3) := by decide +kernel
theorem d_Mod_adopt_133 : decode prog_8_method_62_code 133 = .ok (.aload_n 0, 1) := by decide +kernel
theorem d_Mod_adopt_134 : decode prog_8_method_62_code 134 = .ok (.getfield 25, 3) := by decide +kernel
theorem d_Mod_adopt_137 : decode prog_8_method_62_code 137 = .ok (.bipush (8), 2) := by decide +kernel
theorem d_Mod_adopt_139 : decode prog_8_method_62_code 139 = .ok (.aload_n 0, 1) := by decide +kernel
theorem d_Mod_adopt_140 : decode prog_8_method_62_code 140 = .ok (.iload_n 3, 1) := by decide +kernel
theorem d_Mod_adopt_141 : decode prog_8_method_62_code 141 = .ok (.invokevirtual 223, 3) := by decide +kernel
theorem d_Mod_adopt_144 : decode prog_8_method_62_code 144 = .ok (.imul, 1) := by decide +kernel
theorem d_Mod_adopt_145 : decode prog_8_method_62_code 145 = .ok (.iload 4, 2) := by decide +kernel
theorem d_Mod_adopt_147 : decode prog_8_method_62_code 147 = .ok (.sipush (256), 3) := by decide +kernel
theorem d_Mod_adopt_150 : decode prog_8_method_62_code 150 = .ok (.idiv, 1) := by decide +kernel
theorem d_Mod_adopt_151 : decode prog_8_method_62_code 151 = .ok (.iastore, 1) := by decide +kernel
theorem d_Mod_adopt_152 : decode prog_8_method_62_code 152 = .ok (.aload_n 0, 1) := by decide +kernel
theorem d_Mod_adopt_153 : decode prog_8_method_62_code 153 = .ok (.getfield 25, 3) := by decide +kernel
theorem d_Mod_adopt_156 : decode prog_8_method_62_code 156 = .ok (.bipush (8), 2) := by decide +kernel
theorem d_Mod_adopt_158 : decode prog_8_method_62_code 158 = .ok (.aload_n 0, 1) := by decide +kernel
theorem d_Mod_adopt_159 : decode prog_8_method_62_code 159 = .ok (.iload_n 3, 1) := by decide +kernel
theorem d_Mod_adopt_160 : decode prog_8_method_62_code 160 = .ok (.invokevirtual 223, 3) := by decide +kernel
theorem d_Mod_adopt_163 : decode prog_8_method_62_code 163 = .ok (.imul, 1) := by decide +kernel
theorem d_Mod_adopt_164 : decode prog_8_method_62_code 164 = .ok (.iconst 1, 1) := by decide +kernel
theorem d_Mod_adopt_165 : decode prog_8_method_62_code 165 = .ok (.iadd, 1) := by decide +kernel
theorem d_Mod_adopt_166 : decode prog_8_method_62_code 166 = .ok (.iload 4, 2) := by decide +kernel
theorem d_Mod_adopt_168 : decode prog_8_method_62_code 168 = .ok (.sipush (256), 3) := by decide +kernel
theorem d_Mod_adopt_171 : decode prog_8_method_62_code 171 = .ok (.irem, 1) := by decide +kernel
theorem d_Mod_adopt_172 : decode prog_8_method_62_code 172 = .ok (.iastore, 1) := by decide +kernel
theorem d_Mod_adopt_173 : decode prog_8_method_62_code 173 = .ok (.aload_n 0, 1) := by decide +kernel
theorem d_Mod_adopt_174 : decode prog_8_method_62_code 174 = .ok (.getfield 54, 3) := by decide +kernel
theorem d_Mod_adopt_177 : decode prog_8_method_62_code 177 = .ok (.iload_n 3, 1) := by decide +kernel
theorem d_Mod_adopt_178 : decode prog_8_method_62_code 178 = .ok (.iconst 1, 1) := by decide +kernel
theorem d_Mod_adopt_179 : decode prog_8_method_62_code 179 = .ok (.bastore, 1) := by decide +kernel
theorem d_Mod_adopt_180 : decode prog_8_method_62_code 180 = .ok (.aload_n 0, 1) := by decide +kernel
theorem d_Mod_adopt_181 : decode prog_8_method_62_code 181 = .ok (.getfield 42, 3) := by decide +kernel
theorem d_Mod_adopt_184 : decode prog_8_method_62_code 184 = .ok (.iconst 3, 1) := by decide +kernel
theorem d_Mod_adopt_185 : decode prog_8_method_62_code 185 = .ok (.aload_n 0, 1) := by decide +kernel
theorem d_Mod_adopt_186 : decode prog_8_method_62_code 186 = .ok (.getfield 42, 3) := by decide +kernel
theorem d_Mod_adopt_189 : decode prog_8_method_62_code 189 = .ok (.iconst 3, 1) := by decide +kernel
theorem d_Mod_adopt_190 : decode prog_8_method_62_code 190 = .ok (.iaload, 1) := by decide +kernel
theorem d_Mod_adopt_191 : decode prog_8_method_62_code 191 = .ok (.iconst 1, 1) := by decide +kernel
theorem d_Mod_adopt_192 : decode prog_8_method_62_code 192 = .ok (.iadd, 1) := by decide +kernel
theorem d_Mod_adopt_193 : decode prog_8_method_62_code 193 = .ok (.iastore, 1) := by decide +kernel
theorem d_Mod_adopt_194 : decode prog_8_method_62_code 194 = .ok (.aload_n 0, 1) := by decide +kernel
theorem d_Mod_adopt_195 : decode prog_8_method_62_code 195 = .ok (.aload_n 0, 1) := by decide +kernel
theorem d_Mod_adopt_196 : decode prog_8_method_62_code 196 = .ok (.iload_n 3, 1) := by decide +kernel
theorem d_Mod_adopt_197 : decode prog_8_method_62_code 197 = .ok (.invokevirtual 223, 3) := by decide +kernel
theorem d_Mod_adopt_200 : decode prog_8_method_62_code 200 = .ok (.invokevirtual 168, 3) := by decide +kernel
theorem d_Mod_adopt_203 : decode prog_8_method_62_code 203 = .ok (.ifCond .eq (8), 3) := by decide +kernel
theorem d_Mod_adopt_206 : decode prog_8_method_62_code 206 = .ok (.aload_n 0, 1) := by decide +kernel
theorem d_Mod_adopt_207 : decode prog_8_method_62_code 207 = .ok (.iload_n 3, 1) := by decide +kernel
theorem d_Mod_adopt_208 : decode prog_8_method_62_code 208 = .ok (.invokevirtual 251, 3) := by decide +kernel
theorem d_Mod_adopt_211 : decode prog_8_method_62_code 211 = .ok (.iinc 2 (1), 3) := by decide +kernel
theorem d_Mod_adopt_214 : decode prog_8_method_62_code 214 = .ok (.goto (-210), 3) := by decide +kernel
theorem d_Mod_adopt_217 : decode prog_8_method_62_code 217 = .ok (.return_, 1) := by decide +kernel
theorem d_Mod_link_0 : decode prog_8_method_63_code 0 = .ok (.iconst 0, 1) := by decide +kernel
theorem d_Mod_link_1 : decode prog_8_method_63_code 1 = .ok (.istore_n 2, 1) := by decide +kernel
theorem d_Mod_link_2 : decode prog_8_method_63_code 2 = .ok (.iload_n 2, 1) := by decide +kernel
theorem d_Mod_link_3 : decode prog_8_method_63_code 3 = .ok (.aload_n 0, 1) := by decide +kernel
theorem d_Mod_link_4 : decode prog_8_method_63_code 4 = .ok (.getfield 51, 3) := by decide +kernel
theorem d_Mod_link_7 : decode prog_8_method_63_code 7 = .ok (.iload_n 1, 1) := by decide +kernel
theorem d_Mod_link_8 : decode prog_8_method_63_code 8 = .ok (.iaload, 1) := by decide +kernel
theorem d_Mod_link_9 : decode prog_8_method_63_code 9 = .ok (.if_icmp .gt (66), 3) := by decide +kernel
theorem d_Mod_link_12 : decode prog_8_method_63_code 12 = .ok (.aload_n 0, 1) := by decide +kernel
theorem d_Mod_link_13 : decode prog_8_method_63_code 13 = .ok (.iload_n 1, 1) := by decide +kernel
theorem d_Mod_link_14 : decode prog_8_method_63_code 14 = .ok (.iload_n 2, 1) := by decide +kernel
theorem d_Mod_link_15 : decode prog_8_method_63_code 15 = .ok (.invokevirtual 214, 3) := by decide +kernel
theorem d_Mod_link_18 : decode prog_8_method_63_code 18 = .ok (.istore_n 3, 1) := by decide +kernel
theorem d_Mod_link_19 : decode prog_8_method_63_code 19 = .ok (.aload_n 0, 1) := by decide +kernel
theorem d_Mod_link_20 : decode prog_8_method_63_code 20 = .ok (.getfield 19, 3) := by decide +kernel
theorem d_Mod_link_23 : decode prog_8_method_63_code 23 = .ok (.iload_n 3, 1) := by decide +kernel
theorem d_Mod_link_24 : decode prog_8_method_63_code 24 = .ok (.iload_n 2, 1) := by decide +kernel
theorem d_Mod_link_25 : decode prog_8_method_63_code 25 = .ok (.aload_n 0, 1) := by decide +kernel
theorem d_Mod_link_26 : decode prog_8_method_63_code 26 = .ok (.getfield 51, 3) := by decide +kernel
theorem d_Mod_link_29 : decode prog_8_method_63_code 29 = .ok (.iload_n 1, 1) := by decide +kernel
theorem d_Mod_link_30 : decode prog_8_method_63_code 30 = .ok (.iaload, 1) := by decide +kernel
theorem d_Mod_link_31 : decode prog_8_method_63_code 31 = .ok (.if_icmp .ge (14), 3) := by decide +kernel
theorem d_Mod_link_34 : decode prog_8_method_63_code 34 = .ok (.aload_n 0, 1) := by decide +kernel
theorem d_Mod_link_35 : decode prog_8_method_63_code 35 = .ok (.iload_n 1, 1) := by decide +kernel
theorem d_Mod_link_36 : decode prog_8_method_63_code 36 = .ok (.iload_n 2, 1) := by decide +kernel
theorem d_Mod_link_37 : decode prog_8_method_63_code 37 = .ok (.iconst 1, 1) := by decide +kernel
theorem d_Mod_link_38 : decode prog_8_method_63_code 38 = .ok (.iadd, 1) := by decide +kernel
theorem d_Mod_link_39 : decode prog_8_method_63_code 39 = .ok (.invokevirtual 214, 3) := by decide +kernel
theorem d_Mod_link_42 : decode prog_8_method_63_code 42 = .ok (.goto (4), 3) := by decide +kernel
theorem d_Mod_link_45 : decode prog_8_method_63_code 45 = .ok (.iconst (-1), 1) := by decide +kernel
theorem d_Mod_link_46 : decode prog_8_method_63_code 46 = .ok (.iastore, 1) := by decide +kernel
theorem d_Mod_link_47 : decode prog_8_method_63_code 47 = .ok (.aload_n 0, 1) := by decide +kernel
theorem d_Mod_link_48 : decode prog_8_method_63_code 48 = .ok (.getfield 22, 3) := by decide +kernel
theorem d_Mod_link_51 : decode prog_8_method_63_code 51 = .ok (.iload_n 3, 1) := by decide +kernel
theorem d_Mod_link_52 : decode prog_8_method_63_code 52 = .ok (.iload_n 2, 1) := by decide +kernel
theorem d_Mod_link_53 : decode prog_8_method_63_code 53 = .ok (.ifCond .le (14), 3) := by decide +kernel
theorem d_Mod_link_56 : decode prog_8_method_63_code 56 = .ok (.aload_n 0, 1) := by decide +kernel
theorem d_Mod_link_57 : decode prog_8_method_63_code 57 = .ok (.iload_n 1, 1) := by decide +kernel
theorem d_Mod_link_58 : decode prog_8_method_63_code 58 = .ok (.iload_n 2, 1) := by decide +kernel
theorem d_Mod_link_59 : decode prog_8_method_63_code 59 = .ok (.iconst 1, 1) := by decide +kernel
theorem d_Mod_link_60 : decode prog_8_method_63_code 60 = .ok (.isub, 1) := by decide +kernel
theorem d_Mod_link_61 : decode prog_8_method_63_code 61 = .ok (.invokevirtual 214, 3) := by decide +kernel
theorem d_Mod_link_64 : decode prog_8_method_63_code 64 = .ok (.goto (4), 3) := by decide +kernel
theorem d_Mod_link_67 : decode prog_8_method_63_code 67 = .ok (.iconst (-1), 1) := by decide +kernel
theorem d_Mod_link_68 : decode prog_8_method_63_code 68 = .ok (.iastore, 1) := by decide +kernel
theorem d_Mod_link_69 : decode prog_8_method_63_code 69 = .ok (.iinc 2 (1), 3) := by decide +kernel
theorem d_Mod_link_72 : decode prog_8_method_63_code 72 = .ok (.goto (-70), 3) := by decide +kernel
theorem d_Mod_link_75 : decode prog_8_method_63_code 75 = .ok (.aload_n 0, 1) := by decide +kernel
theorem d_Mod_link_76 : decode prog_8_method_63_code 76 = .ok (.getfield 25, 3) := by decide +kernel
theorem d_Mod_link_79 : decode prog_8_method_63_code 79 = .ok (.bipush (8), 2) := by decide +kernel
theorem d_Mod_link_81 : decode prog_8_method_63_code 81 = .ok (.aload_n 0, 1) := by decide +kernel
theorem d_Mod_link_82 : decode prog_8_method_63_code 82 = .ok (.iload_n 1, 1) := by decide +kernel
theorem d_Mod_link_83 : decode prog_8_method_63_code 83 = .ok (.invokevirtual 223, 3) := by decide +kernel
theorem d_Mod_link_86 : decode prog_8_method_63_code 86 = .ok (.imul, 1) := by decide +kernel
theorem d_Mod_link_87 : decode prog_8_method_63_code 87 = .ok (.iconst 3, 1) := by decide +kernel
theorem d_Mod_link_88 : decode prog_8_method_63_code 88 = .ok (.iadd, 1) := by decide +kernel
theorem d_Mod_link_89 : decode prog_8_method_63_code 89 = .ok (.aload_n 0, 1) := by decide +kernel
theorem d_Mod_link_90 : decode prog_8_method_63_code 90 = .ok (.iload_n 1, 1) := by decide +kernel
theorem d_Mod_link_91 : decode prog_8_method_63_code 91 = .ok (.aload_n 0, 1) := by decide +kernel
theorem d_Mod_link_92 : decode prog_8_method_63_code 92 = .ok (.getfield 51, 3) := by decide +kernel
theorem d_Mod_link_95 : decode prog_8_method_63_code 95 = .ok (.iload_n 1, 1) := by decide +kernel
theorem d_Mod_link_96 : decode prog_8_method_63_code 96 = .ok (.iaload, 1) := by decide +kernel
theorem d_Mod_link_97 : decode prog_8_method_63_code 97 = .ok (.invokevirtual 214, 3) := by decide +kernel
theorem d_Mod_link_100 : decode prog_8_method_63_code 100 = .ok (.iastore, 1) := by decide +kernel
theorem d_Mod_link_101 : decode prog_8_method_63_code 101 = .ok (.return_, 1) := by decide +kernel
theorem d_Mod_right_0 : decode prog_8_method_64_code 0 = .ok (.iconst 1, 1) := by decide +kernel
theorem d_Mod_right_1 : decode prog_8_method_64_code 1 = .ok (.istore_n 1, 1) := by decide +kernel
theorem d_Mod_right_2 : decode prog_8_method_64_code 2 = .ok (.iload_n 1, 1) := by decide +kernel
theorem d_Mod_right_3 : decode prog_8_method_64_code 3 = .ok (.bipush (61), 2) := by decide +kernel
theorem d_Mod_right_5 : decode prog_8_method_64_code 5 = .ok (.if_icmp .ge (36), 3) := by decide +kernel
theorem d_Mod_right_8 : decode prog_8_method_64_code 8 = .ok (.aload_n 0, 1) := by decide +kernel
theorem d_Mod_right_9 : decode prog_8_method_64_code 9 = .ok (.iload_n 1, 1) := by decide +kernel
theorem d_Mod_right_10 : decode prog_8_method_64_code 10 = .ok (.invokevirtual 236, 3) := by decide +kernel
theorem d_Mod_right_13 : decode prog_8_method_64_code 13 = .ok (.ifCond .eq (22), 3) := by decide +kernel
theorem d_Mod_right_16 : decode prog_8_method_64_code 16 = .ok (.aload_n 0, 1) := by decide +kernel
theorem d_Mod_right_17 : decode prog_8_method_64_code 17 = .ok (.iload_n 1, 1) := by decide +kernel
theorem d_Mod_right_18 : decode prog_8_method_64_code 18 = .ok (.invokevirtual 254, 3) := by decide +kernel
theorem d_Mod_right_21 : decode prog_8_method_64_code 21 = .ok (.aload_n 0, 1) := by decide +kernel
theorem d_Mod_right_22 : decode prog_8_method_64_code 22 = .ok (.getfield 42, 3) := by decide +kernel
theorem d_Mod_right_25 : decode prog_8_method_64_code 25 = .ok (.iconst 0, 1) := by decide +kernel
theorem d_Mod_right_26 : decode prog_8_method_64_code 26 = .ok (.aload_n 0, 1) := by decide +kernel
theorem d_Mod_right_27 : decode prog_8_method_64_code 27 = .ok (.getfield 42, 3) := by decide +kernel
theorem d_Mod_right_30 : decode prog_8_method_64_code 30 = .ok (.iconst 0, 1) := by decide +kernel
theorem d_Mod_right_31 : decode prog_8_method_64_code 31 = .ok (.iaload, 1) := by decide +kernel
theorem d_Mod_right_32 : decode prog_8_method_64_code 32 = .ok (.iconst 1, 1) := by decide +kernel
theorem d_Mod_right_33 : decode prog_8_method_64_code 33 = .ok (.iadd, 1) := by decide +kernel
theorem d_Mod_right_34 : decode prog_8_method_64_code 34 = .ok (.iastore, 1) := by decide +kernel
theorem d_Mod_right_35 : decode prog_8_method_64_code 35 = .ok (.iinc 1 (1), 3) := by decide +kernel
theorem d_Mod_right_38 : decode prog_8_method_64_code 38 = .ok (.goto (-36), 3) := by decide +kernel
theorem d_Mod_right_41 : decode prog_8_method_64_code 41 = .ok (.aload_n 0, 1) := by decide +kernel
theorem d_Mod_right_42 : decode prog_8_method_64_code 42 = .ok (.iconst 2, 1) := by decide +kernel
theorem d_Mod_right_43 : decode prog_8_method_64_code 43 = .ok (.invokevirtual 236, 3) := by decide +kernel
theorem d_Mod_right_46 : decode prog_8_method_64_code 46 = .ok (.ifCond .eq (112), 3) := by decide +kernel
theorem d_Mod_right_49 : decode prog_8_method_64_code 49 = .ok (.aload_n 0, 1) := by decide +kernel
theorem d_Mod_right_50 : decode prog_8_method_64_code 50 = .ok (.getfield 51, 3) := by decide +kernel
theorem d_Mod_right_53 : decode prog_8_method_64_code 53 = .ok (.iconst 2, 1) := by decide +kernel
theorem d_Mod_right_54 : decode prog_8_method_64_code 54 = .ok (.iaload, 1) := by decide +kernel
theorem d_Mod_right_55 : decode prog_8_method_64_code 55 = .ok (.ifCond .le (103), 3) := by decide +kernel
theorem d_Mod_right_58 : decode prog_8_method_64_code 58 = .ok (.aload_n 0, 1) := by decide +kernel
theorem d_Mod_right_59 : decode prog_8_method_64_code 59 = .ok (.iconst 2, 1) := by decide +kernel
theorem d_Mod_right_60 : decode prog_8_method_64_code 60 = .ok (.iconst 1, 1) := by decide +kernel
theorem d_Mod_right_61 : decode prog_8_method_64_code 61 = .ok (.invokevirtual 214, 3) := by decide +kernel
theorem d_Mod_right_64 : decode prog_8_method_64_code 64 = .ok (.istore_n 1, 1) := by decide +kernel
theorem d_Mod_right_65 : decode prog_8_method_64_code 65 = .ok (.aload_n 0, 1) := by decide +kernel
theorem d_Mod_right_66 : decode prog_8_method_64_code 66 = .ok (.getfield 16, 3) := by decide +kernel
theorem d_Mod_right_69 : decode prog_8_method_64_code 69 = .ok (.iload_n 1, 1) := by decide +kernel
theorem d_Mod_right_70 : decode prog_8_method_64_code 70 = .ok (.iconst 5, 1) := by decide +kernel
theorem d_Mod_right_71 : decode prog_8_method_64_code 71 = .ok (.iastore, 1) := by decide +kernel
theorem d_Mod_right_72 : decode prog_8_method_64_code 72 = .ok (.iconst 0, 1) := by decide +kernel
theorem d_Mod_right_73 : decode prog_8_method_64_code 73 = .ok (.istore_n 2, 1) := by decide +kernel
theorem d_Mod_right_74 : decode prog_8_method_64_code 74 = .ok (.iload_n 2, 1) := by decide +kernel
theorem d_Mod_right_75 : decode prog_8_method_64_code 75 = .ok (.iconst 5, 1) := by decide +kernel
theorem d_Mod_right_76 : decode prog_8_method_64_code 76 = .ok (.if_icmp .ge (21), 3) := by decide +kernel
theorem d_Mod_right_79 : decode prog_8_method_64_code 79 = .ok (.aload_n 0, 1) := by decide +kernel
theorem d_Mod_right_80 : decode prog_8_method_64_code 80 = .ok (.getfield 25, 3) := by decide +kernel
theorem d_Mod_right_83 : decode prog_8_method_64_code 83 = .ok (.bipush (8), 2) := by decide +kernel
theorem d_Mod_right_85 : decode prog_8_method_64_code 85 = .ok (.iload_n 1, 1) := by decide +kernel
theorem d_Mod_right_86 : decode prog_8_method_64_code 86 = .ok (.imul, 1) := by decide +kernel
theorem d_Mod_right_87 : decode prog_8_method_64_code 87 = .ok (.iload_n 2, 1) := by decide +kernel
theorem d_Mod_right_88 : decode prog_8_method_64_code 88 = .ok (.iadd, 1) := by decide +kernel
theorem d_Mod_right_89 : decode prog_8_method_64_code 89 = .ok (.iconst 0, 1) := by decide +kernel
theorem d_Mod_right_90 : decode prog_8_method_64_code 90 = .ok (.iastore, 1) := by decide +kernel
theorem d_Mod_right_91 : decode prog_8_method_64_code 91 = .ok (.iinc 2 (1), 3) := by decide +kernel
theorem d_Mod_right_94 : decode prog_8_method_64_code 94 = .ok (.goto (-20), 3) := by decide +kernel
theorem d_Mod_right_97 : decode prog_8_method_64_code 97 = .ok (.iconst 0, 1) := by decide +kernel
theorem d_Mod_right_98 : decode prog_8_method_64_code 98 = .ok (.istore_n 2, 1) := by decide +kernel
theorem d_Mod_right_99 : decode prog_8_method_64_code 99 = .ok (.iload_n 2, 1) := by decide +kernel
theorem d_Mod_right_100 : decode prog_8_method_64_code 100 = .ok (.bipush (40), 2) := by decide +kernel
theorem d_Mod_right_102 : decode prog_8_method_64_code 102 = .ok (.if_icmp .ge (56), 3) := by decide +kernel
theorem d_Mod_right_105 : decode prog_8_method_64_code 105 = .ok (.aload_n 0, 1) := by decide +kernel
theorem d_Mod_right_106 : decode prog_8_method_64_code 106 = .ok (.getfield 25, 3) := by decide +kernel
theorem d_Mod_right_109 : decode prog_8_method_64_code 109 = .ok (.bipush (8), 2) := by decide +kernel
theorem d_Mod_right_111 : decode prog_8_method_64_code 111 = .ok (.iload_n 1, 1) := by decide +kernel
theorem d_Mod_right_112 : decode prog_8_method_64_code 112 = .ok (.imul, 1) := by decide +kernel
theorem d_Mod_right_113 : decode prog_8_method_64_code 113 = .ok (.iload_n 2, 1) := by decide +kernel
theorem d_Mod_right_114 : decode prog_8_method_64_code 114 = .ok (.bipush (8), 2) := by decide +kernel
theorem d_Mod_right_116 : decode prog_8_method_64_code 116 = .ok (.idiv, 1) := by decide +kernel
theorem d_Mod_right_117 : decode prog_8_method_64_code 117 = .ok (.iadd, 1) := by decide +kernel
theorem d_Mod_right_118 : decode prog_8_method_64_code 118 = .ok (.aload_n 0, 1) := by decide +kernel
theorem d_Mod_right_119 : decode prog_8_method_64_code 119 = .ok (.getfield 25, 3) := by decide +kernel
theorem d_Mod_right_122 : decode prog_8_method_64_code 122 = .ok (.bipush (8), 2) := by decide +kernel
theorem d_Mod_right_124 : decode prog_8_method_64_code 124 = .ok (.iload_n 1, 1) := by decide +kernel
theorem d_Mod_right_125 : decode prog_8_method_64_code 125 = .ok (.imul, 1) := by decide +kernel
theorem d_Mod_right_126 : decode prog_8_method_64_code 126 = .ok (.iload_n 2, 1) := by decide +kernel
theorem d_Mod_right_127 : decode prog_8_method_64_code 127 = .ok (.bipush (8), 2) := by decide +kernel
theorem d_Mod_right_129 : decode prog_8_method_64_code 129 = .ok (.idiv, 1) := by decide +kernel
theorem d_Mod_right_130 : decode prog_8_method_64_code 130 = .ok (.iadd, 1) := by decide +kernel
theorem d_Mod_right_131 : decode prog_8_method_64_code 131 = .ok (.iaload, 1) := by decide +kernel
theorem d_Mod_right_132 : decode prog_8_method_64_code 132 = .ok (.aload_n 0, 1) := by decide +kernel
theorem d_Mod_right_133 : decode prog_8_method_64_code 133 = .ok (.iload_n 2, 1) := by decide +kernel
theorem d_Mod_right_134 : decode prog_8_method_64_code 134 = .ok (.invokevirtual 138, 3) := by decide +kernel
theorem d_Mod_right_137 : decode prog_8_method_64_code 137 = .ok (.ifCond .eq (12), 3) := by decide +kernel
theorem d_Mod_right_140 : decode prog_8_method_64_code 140 = .ok (.iconst 1, 1) := by decide +kernel
theorem d_Mod_right_141 : decode prog_8_method_64_code 141 = .ok (.iload_n 2, 1) := by decide +kernel
theorem d_Mod_right_142 : decode prog_8_method_64_code 142 = .ok (.bipush (8), 2) := by decide +kernel
theorem d_Mod_right_144 : decode prog_8_method_64_code 144 = .ok (.irem, 1) := by decide +kernel
theorem d_Mod_right_145 : decode prog_8_method_64_code 145 = .ok (.ishl, 1) := by decide +kernel
theorem d_Mod_right_146 : decode prog_8_method_64_code 146 = .ok (.goto (4), 3) := by decide +kernel
theorem d_Mod_right_149 : decode prog_8_method_64_code 149 = .ok (.iconst 0, 1) := by decide +kernel
theorem d_Mod_right_150 : decode prog_8_method_64_code 150 = .ok (.iadd, 1) := by decide +kernel
theorem d_Mod_right_151 : decode prog_8_method_64_code 151 = .ok (.iastore, 1) := by decide +kernel
theorem d_Mod_right_152 : decode prog_8_method_64_code 152 = .ok (.iinc 2 (1), 3) := by decide +kernel
theorem d_Mod_right_155 : decode prog_8_method_64_code 155 = .ok (.goto (-56), 3) := by decide +kernel
theorem d_Mod_right_158 : decode prog_8_method_64_code 158 = .ok (.return_, 1) := by decide +kernel
theorem d_Mod_scavenge_0 : decode prog_8_method_65_code 0 = .ok (.aload_n 0, 1) := by decide +kernel
theorem d_Mod_scavenge_1 : decode prog_8_method_65_code 1 = .ok (.iconst 0, 1) := by decide +kernel
theorem d_Mod_scavenge_2 : decode prog_8_method_65_code 2 = .ok (.putfield 70, 3) := by decide +kernel
theorem d_Mod_scavenge_5 : decode prog_8_method_65_code 5 = .ok (.aload_n 0, 1) := by decide +kernel
theorem d_Mod_scavenge_6 : decode prog_8_method_65_code 6 = .ok (.iconst 0, 1) := by decide +kernel
theorem d_Mod_scavenge_7 : decode prog_8_method_65_code 7 = .ok (.putfield 115, 3) := by decide +kernel
theorem d_Mod_scavenge_10 : decode prog_8_method_65_code 10 = .ok (.aload_n 0, 1) := by decide +kernel
theorem d_Mod_scavenge_11 : decode prog_8_method_65_code 11 = .ok (.iconst (-1), 1) := by decide +kernel
theorem d_Mod_scavenge_12 : decode prog_8_method_65_code 12 = .ok (.putfield 35, 3) := by decide +kernel
theorem d_Mod_scavenge_15 : decode prog_8_method_65_code 15 = .ok (.aload_n 0, 1) := by decide +kernel
theorem d_Mod_scavenge_16 : decode prog_8_method_65_code 16 = .ok (.invokevirtual 257, 3) := by decide +kernel
theorem d_Mod_scavenge_19 : decode prog_8_method_65_code 19 = .ok (.iconst 0, 1) := by decide +kernel
theorem d_Mod_scavenge_20 : decode prog_8_method_65_code 20 = .ok (.istore_n 1, 1) := by decide +kernel
theorem d_Mod_scavenge_21 : decode prog_8_method_65_code 21 = .ok (.iload_n 1, 1) := by decide +kernel
theorem d_Mod_scavenge_22 : decode prog_8_method_65_code 22 = .ok (.iconst 5, 1) := by decide +kernel
theorem d_Mod_scavenge_23 : decode prog_8_method_65_code 23 = .ok (.if_icmp .ge (16), 3) := by decide +kernel
theorem d_Mod_scavenge_26 : decode prog_8_method_65_code 26 = .ok (.aload_n 0, 1) := by decide +kernel
theorem d_Mod_scavenge_27 : decode prog_8_method_65_code 27 = .ok (.getfield 42, 3) := by decide +kernel
theorem d_Mod_scavenge_30 : decode prog_8_method_65_code 30 = .ok (.iload_n 1, 1) := by decide +kernel
theorem d_Mod_scavenge_31 : decode prog_8_method_65_code 31 = .ok (.iconst 0, 1) := by decide +kernel
theorem d_Mod_scavenge_32 : decode prog_8_method_65_code 32 = .ok (.iastore, 1) := by decide +kernel
theorem d_Mod_scavenge_33 : decode prog_8_method_65_code 33 = .ok (.iinc 1 (1), 3) := by decide +kernel
theorem d_Mod_scavenge_36 : decode prog_8_method_65_code 36 = .ok (.goto (-15), 3) := by decide +kernel
theorem d_Mod_scavenge_39 : decode prog_8_method_65_code 39 = .ok (.iconst 1, 1) := by decide +kernel
theorem d_Mod_scavenge_40 : decode prog_8_method_65_code 40 = .ok (.istore_n 1, 1) := by decide +kernel
theorem d_Mod_scavenge_41 : decode prog_8_method_65_code 41 = .ok (.iload_n 1, 1) := by decide +kernel
theorem d_Mod_scavenge_42 : decode prog_8_method_65_code 42 = .ok (.bipush (61), 2) := by decide +kernel
theorem d_Mod_scavenge_44 : decode prog_8_method_65_code 44 = .ok (.if_icmp .ge (28), 3) := by decide +kernel
theorem d_Mod_scavenge_47 : decode prog_8_method_65_code 47 = .ok (.aload_n 0, 1) := by decide +kernel
theorem d_Mod_scavenge_48 : decode prog_8_method_65_code 48 = .ok (.getfield 32, 3) := by decide +kernel
theorem d_Mod_scavenge_51 : decode prog_8_method_65_code 51 = .ok (.iload_n 1, 1) := by decide +kernel
theorem d_Mod_scavenge_52 : decode prog_8_method_65_code 52 = .ok (.iconst 0, 1) := by decide +kernel
theorem d_Mod_scavenge_53 : decode prog_8_method_65_code 53 = .ok (.iastore, 1) := by decide +kernel
theorem d_Mod_scavenge_54 : decode prog_8_method_65_code 54 = .ok (.aload_n 0, 1) := by decide +kernel
theorem d_Mod_scavenge_55 : decode prog_8_method_65_code 55 = .ok (.getfield 54, 3) := by decide +kernel
theorem d_Mod_scavenge_58 : decode prog_8_method_65_code 58 = .ok (.iload_n 1, 1) := by decide +kernel
theorem d_Mod_scavenge_59 : decode prog_8_method_65_code 59 = .ok (.iconst 0, 1) := by decide +kernel
theorem d_Mod_scavenge_60 : decode prog_8_method_65_code 60 = .ok (.bastore, 1) := by decide +kernel
theorem d_Mod_scavenge_61 : decode prog_8_method_65_code 61 = .ok (.aload_n 0, 1) := by decide +kernel
theorem d_Mod_scavenge_62 : decode prog_8_method_65_code 62 = .ok (.iload_n 1, 1) := by decide +kernel
theorem d_Mod_scavenge_63 : decode prog_8_method_65_code 63 = .ok (.invokevirtual 260, 3) := by decide +kernel
theorem d_Mod_scavenge_66 : decode prog_8_method_65_code 66 = .ok (.iinc 1 (1), 3) := by decide +kernel
theorem d_Mod_scavenge_69 : decode prog_8_method_65_code 69 = .ok (.goto (-28), 3) := by decide +kernel
theorem d_Mod_scavenge_72 : decode prog_8_method_65_code 72 = .ok (.iconst 0, 1) := by decide +kernel
theorem d_Mod_scavenge_73 : decode prog_8_method_65_code 73 = .ok (.istore_n 1, 1) := by decide +kernel
theorem d_Mod_scavenge_74 : decode prog_8_method_65_code 74 = .ok (.iload_n 1, 1) := by decide +kernel
theorem d_Mod_scavenge_75 : decode prog_8_method_65_code 75 = .ok (.bipush (40), 2) := by decide +kernel
theorem d_Mod_scavenge_77 : decode prog_8_method_65_code 77 = .ok (.if_icmp .ge (40), 3) := by decide +kernel
theorem d_Mod_scavenge_80 : decode prog_8_method_65_code 80 = .ok (.aload_n 0, 1) := by decide +kernel
theorem d_Mod_scavenge_81 : decode prog_8_method_65_code 81 = .ok (.getfield 28, 3) := by decide +kernel
theorem d_Mod_scavenge_84 : decode prog_8_method_65_code 84 = .ok (.iload_n 1, 1) := by decide +kernel
theorem d_Mod_scavenge_85 : decode prog_8_method_65_code 85 = .ok (.baload, 1) := by decide +kernel
theorem d_Mod_scavenge_86 : decode prog_8_method_65_code 86 = .ok (.ifCond .ne (25), 3) := by decide +kernel
theorem d_Mod_scavenge_89 : decode prog_8_method_65_code 89 = .ok (.aload_n 0, 1) := by decide +kernel
theorem d_Mod_scavenge_90 : decode prog_8_method_65_code 90 = .ok (.getfield 7, 3) := by decide +kernel
theorem d_Mod_scavenge_93 : decode prog_8_method_65_code 93 = .ok (.iload_n 1, 1) := by decide +kernel
theorem d_Mod_scavenge_94 : decode prog_8_method_65_code 94 = .ok (.iaload, 1) := by decide +kernel
theorem d_Mod_scavenge_95 : decode prog_8_method_65_code 95 = .ok (.ifCond .le (16), 3) := by decide +kernel
theorem d_Mod_scavenge_98 : decode prog_8_method_65_code 98 = .ok (.aload_n 0, 1) := by decide +kernel
theorem d_Mod_scavenge_99 : decode prog_8_method_65_code 99 = .ok (.iload_n 1, 1) := by decide +kernel
theorem d_Mod_scavenge_100 : decode prog_8_method_65_code 100 = .ok (.invokevirtual 263, 3) := by decide +kernel
theorem d_Mod_scavenge_103 : decode prog_8_method_65_code 103 = .ok (.ifCond .ne (8), 3) := by decide +kernel
theorem d_Mod_scavenge_106 : decode prog_8_method_65_code 106 = .ok (.aload_n 0, 1) := by decide +kernel
theorem d_Mod_scavenge_107 : decode prog_8_method_65_code 107 = .ok (.iload_n 1, 1) := by decide +kernel
theorem d_Mod_scavenge_108 : decode prog_8_method_65_code 108 = .ok (.invokevirtual 217, 3) := by decide +kernel
theorem d_Mod_scavenge_111 : decode prog_8_method_65_code 111 = .ok (.iinc 1 (1), 3) := by decide +kernel
theorem d_Mod_scavenge_114 : decode prog_8_method_65_code 114 = .ok (.goto (-40), 3) := by decide +kernel
theorem d_Mod_scavenge_117 : decode prog_8_method_65_code 117 = .ok (.aload_n 0, 1) := by decide +kernel
theorem d_Mod_scavenge_118 : decode prog_8_method_65_code 118 = .ok (.invokevirtual 266, 3) := by decide +kernel
theorem d_Mod_scavenge_121 : decode prog_8_method_65_code 121 = .ok (.aload_n 0, 1) := by decide +kernel
theorem d_Mod_scavenge_122 : decode prog_8_method_65_code 122 = .ok (.iconst 1, 1) := by decide +kernel
theorem d_Mod_scavenge_123 : decode prog_8_method_65_code 123 = .ok (.invokevirtual 236, 3) := by decide +kernel
theorem d_Mod_scavenge_126 : decode prog_8_method_65_code 126 = .ok (.ifCond .eq (12), 3) := by decide +kernel
theorem d_Mod_scavenge_129 : decode prog_8_method_65_code 129 = .ok (.aload_n 0, 1) := by decide +kernel
theorem d_Mod_scavenge_130 : decode prog_8_method_65_code 130 = .ok (.iconst 1, 1) := by decide +kernel
theorem d_Mod_scavenge_131 : decode prog_8_method_65_code 131 = .ok (.invokevirtual 251, 3) := by decide +kernel
theorem d_Mod_scavenge_134 : decode prog_8_method_65_code 134 = .ok (.aload_n 0, 1) := by decide +kernel
theorem d_Mod_scavenge_135 : decode prog_8_method_65_code 135 = .ok (.invokevirtual 269, 3) := by decide +kernel
theorem d_Mod_scavenge_138 : decode prog_8_method_65_code 138 = .ok (.aload_n 0, 1) := by decide +kernel
theorem d_Mod_scavenge_139 : decode prog_8_method_65_code 139 = .ok (.invokevirtual 272, 3) := by decide +kernel
theorem d_Mod_scavenge_142 : decode prog_8_method_65_code 142 = .ok (.iconst 0, 1) := by decide +kernel
theorem d_Mod_scavenge_143 : decode prog_8_method_65_code 143 = .ok (.istore_n 1, 1) := by decide +kernel
theorem d_Mod_scavenge_144 : decode prog_8_method_65_code 144 = .ok (.iload_n 1, 1) := by decide +kernel
theorem d_Mod_scavenge_145 : decode prog_8_method_65_code 145 = .ok (.bipush (40), 2) := by decide +kernel
theorem d_Mod_scavenge_147 : decode prog_8_method_65_code 147 = .ok (.if_icmp .ge (49), 3) := by decide +kernel
theorem d_Mod_scavenge_150 : decode prog_8_method_65_code 150 = .ok (.aload_n 0, 1) := by decide +kernel
theorem d_Mod_scavenge_151 : decode prog_8_method_65_code 151 = .ok (.getfield 42, 3) := by decide +kernel
theorem d_Mod_scavenge_154 : decode prog_8_method_65_code 154 = .ok (.iconst 4, 1) := by decide +kernel
theorem d_Mod_scavenge_155 : decode prog_8_method_65_code 155 = .ok (.aload_n 0, 1) := by decide +kernel
theorem d_Mod_scavenge_156 : decode prog_8_method_65_code 156 = .ok (.getfield 28, 3) := by decide +kernel
theorem d_Mod_scavenge_159 : decode prog_8_method_65_code 159 = .ok (.iload_n 1, 1) := by decide +kernel
theorem d_Mod_scavenge_160 : decode prog_8_method_65_code 160 = .ok (.baload, 1) := by decide +kernel
theorem d_Mod_scavenge_161 : decode prog_8_method_65_code 161 = .ok (.ifCond .ne (22), 3) := by decide +kernel
theorem d_Mod_scavenge_164 : decode prog_8_method_65_code 164 = .ok (.aload_n 0, 1) := by decide +kernel
theorem d_Mod_scavenge_165 : decode prog_8_method_65_code 165 = .ok (.iload_n 1, 1) := by decide +kernel
theorem d_Mod_scavenge_166 : decode prog_8_method_65_code 166 = .ok (.invokevirtual 275, 3) := by decide +kernel
theorem d_Mod_scavenge_169 : decode prog_8_method_65_code 169 = .ok (.ifCond .eq (14), 3) := by decide +kernel
theorem d_Mod_scavenge_172 : decode prog_8_method_65_code 172 = .ok (.aload_n 0, 1) := by decide +kernel
theorem d_Mod_scavenge_173 : decode prog_8_method_65_code 173 = .ok (.getfield 42, 3) := by decide +kernel
theorem d_Mod_scavenge_176 : decode prog_8_method_65_code 176 = .ok (.iconst 4, 1) := by decide +kernel
theorem d_Mod_scavenge_177 : decode prog_8_method_65_code 177 = .ok (.iaload, 1) := by decide +kernel
theorem d_Mod_scavenge_178 : decode prog_8_method_65_code 178 = .ok (.iconst 1, 1) := by decide +kernel
theorem d_Mod_scavenge_179 : decode prog_8_method_65_code 179 = .ok (.iadd, 1) := by decide +kernel
theorem d_Mod_scavenge_180 : decode prog_8_method_65_code 180 = .ok (.goto (9), 3) := by decide +kernel
theorem d_Mod_scavenge_183 : decode prog_8_method_65_code 183 = .ok (.aload_n 0, 1) := by decide +kernel
theorem d_Mod_scavenge_184 : decode prog_8_method_65_code 184 = .ok (.getfield 42, 3) := by decide +kernel
theorem d_Mod_scavenge_187 : decode prog_8_method_65_code 187 = .ok (.iconst 4, 1) := by decide +kernel
theorem d_Mod_scavenge_188 : decode prog_8_method_65_code 188 = .ok (.iaload, 1) := by decide +kernel
theorem d_Mod_scavenge_189 : decode prog_8_method_65_code 189 = .ok (.iastore, 1) := by decide +kernel
theorem d_Mod_scavenge_190 : decode prog_8_method_65_code 190 = .ok (.iinc 1 (1), 3) := by decide +kernel
theorem d_Mod_scavenge_193 : decode prog_8_method_65_code 193 = .ok (.goto (-49), 3) := by decide +kernel
theorem d_Mod_scavenge_196 : decode prog_8_method_65_code 196 = .ok (.aload_n 0, 1) := by decide +kernel
theorem d_Mod_scavenge_197 : decode prog_8_method_65_code 197 = .ok (.aload_n 0, 1) := by decide +kernel
theorem d_Mod_scavenge_198 : decode prog_8_method_65_code 198 = .ok (.getfield 119, 3) := by decide +kernel
theorem d_Mod_scavenge_201 : decode prog_8_method_65_code 201 = .ok (.aload_n 0, 1) := by decide +kernel
theorem d_Mod_scavenge_202 : decode prog_8_method_65_code 202 = .ok (.getfield 42, 3) := by decide +kernel
theorem d_Mod_scavenge_205 : decode prog_8_method_65_code 205 = .ok (.iconst 4, 1) := by decide +kernel
theorem d_Mod_scavenge_206 : decode prog_8_method_65_code 206 = .ok (.iaload, 1) := by decide +kernel
theorem d_Mod_scavenge_207 : decode prog_8_method_65_code 207 = .ok (.iadd, 1) := by decide +kernel
theorem d_Mod_scavenge_208 : decode prog_8_method_65_code 208 = .ok (.putfield 119, 3) := by decide +kernel
theorem d_Mod_scavenge_211 : decode prog_8_method_65_code 211 = .ok (.aload_n 0, 1) := by decide +kernel
theorem d_Mod_scavenge_212 : decode prog_8_method_65_code 212 = .ok (.getfield 42, 3) := by decide +kernel
theorem d_Mod_scavenge_215 : decode prog_8_method_65_code 215 = .ok (.iconst 0, 1) := by decide +kernel
theorem d_Mod_scavenge_216 : decode prog_8_method_65_code 216 = .ok (.iaload, 1) := by decide +kernel
theorem d_Mod_scavenge_217 : decode prog_8_method_65_code 217 = .ok (.ireturn, 1) := by decide +kernel
theorem d_Mod_charge_0 : decode prog_8_method_66_code 0 = .ok (.aload_n 0, 1) := by decide +kernel
theorem d_Mod_charge_1 : decode prog_8_method_66_code 1 = .ok (.iload_n 1, 1) := by decide +kernel
theorem d_Mod_charge_2 : decode prog_8_method_66_code 2 = .ok (.iconst 0, 1) := by decide +kernel
theorem d_Mod_charge_3 : decode prog_8_method_66_code 3 = .ok (.bipush (99), 2) := by decide +kernel
theorem d_Mod_charge_5 : decode prog_8_method_66_code 5 = .ok (.invokestatic 73, 3) := by decide +kernel
theorem d_Mod_charge_8 : decode prog_8_method_66_code 8 = .ok (.ifCond .ne (7), 3) := by decide +kernel
theorem d_Mod_charge_11 : decode prog_8_method_66_code 11 = .ok (.iconst 1, 1) := by decide +kernel
theorem d_Mod_charge_12 : decode prog_8_method_66_code 12 = .ok (.goto (15), 3) := by decide +kernel
theorem d_Mod_charge_15 : decode prog_8_method_66_code 15 = .ok (.aload_n 0, 1) := by decide +kernel
theorem d_Mod_charge_16 : decode prog_8_method_66_code 16 = .ok (.getfield 115, 3) := by decide +kernel
theorem d_Mod_charge_19 : decode prog_8_method_66_code 19 = .ok (.ifCond .eq (7), 3) := by decide +kernel
theorem d_Mod_charge_22 : decode prog_8_method_66_code 22 = .ok (.iconst 2, 1) := by decide +kernel
theorem d_Mod_charge_23 : decode prog_8_method_66_code 23 = .ok (.goto (4), 3) := by decide +kernel
theorem d_Mod_charge_26 : decode prog_8_method_66_code 26 = .ok (.iconst 0, 1) := by decide +kernel
theorem d_Mod_charge_27 : decode prog_8_method_66_code 27 = .ok (.putfield 70, 3) := by decide +kernel
theorem d_Mod_charge_30 : decode prog_8_method_66_code 30 = .ok (.aload_n 0, 1) := by decide +kernel
theorem d_Mod_charge_31 : decode prog_8_method_66_code 31 = .ok (.aload_n 0, 1) := by decide +kernel
theorem d_Mod_charge_32 : decode prog_8_method_66_code 32 = .ok (.getfield 70, 3) := by decide +kernel
theorem d_Mod_charge_35 : decode prog_8_method_66_code 35 = .ok (.ifCond .ne (7), 3) := by decide +kernel
theorem d_Mod_charge_38 : decode prog_8_method_66_code 38 = .ok (.iload_n 1, 1) := by decide +kernel
theorem d_Mod_charge_39 : decode prog_8_method_66_code 39 = .ok (.goto (7), 3) := by decide +kernel
theorem d_Mod_charge_42 : decode prog_8_method_66_code 42 = .ok (.aload_n 0, 1) := by decide +kernel
theorem d_Mod_charge_43 : decode prog_8_method_66_code 43 = .ok (.getfield 35, 3) := by decide +kernel
theorem d_Mod_charge_46 : decode prog_8_method_66_code 46 = .ok (.putfield 35, 3) := by decide +kernel
theorem d_Mod_charge_49 : decode prog_8_method_66_code 49 = .ok (.return_, 1) := by decide +kernel
theorem d_Mod_isSector_0 : decode prog_8_method_67_code 0 = .ok (.iload_n 0, 1) := by decide +kernel
theorem d_Mod_isSector_1 : decode prog_8_method_67_code 1 = .ok (.iconst 0, 1) := by decide +kernel
theorem d_Mod_isSector_2 : decode prog_8_method_67_code 2 = .ok (.bipush (39), 2) := by decide +kernel
theorem d_Mod_isSector_4 : decode prog_8_method_67_code 4 = .ok (.invokestatic 73, 3) := by decide +kernel
theorem d_Mod_isSector_7 : decode prog_8_method_67_code 7 = .ok (.ireturn, 1) := by decide +kernel
theorem d_Mod_spoil_0 : decode prog_8_method_68_code 0 = .ok (.aload_n 0, 1) := by decide +kernel
theorem d_Mod_spoil_1 : decode prog_8_method_68_code 1 = .ok (.iconst 0, 1) := by decide +kernel
theorem d_Mod_spoil_2 : decode prog_8_method_68_code 2 = .ok (.putfield 70, 3) := by decide +kernel
theorem d_Mod_spoil_5 : decode prog_8_method_68_code 5 = .ok (.iload_n 1, 1) := by decide +kernel
theorem d_Mod_spoil_6 : decode prog_8_method_68_code 6 = .ok (.invokestatic 278, 3) := by decide +kernel
theorem d_Mod_spoil_9 : decode prog_8_method_68_code 9 = .ok (.ifCond .eq (31), 3) := by decide +kernel
theorem d_Mod_spoil_12 : decode prog_8_method_68_code 12 = .ok (.iload_n 2, 1) := by decide +kernel
theorem d_Mod_spoil_13 : decode prog_8_method_68_code 13 = .ok (.iconst 0, 1) := by decide +kernel
theorem d_Mod_spoil_14 : decode prog_8_method_68_code 14 = .ok (.bipush (7), 2) := by decide +kernel
theorem d_Mod_spoil_16 : decode prog_8_method_68_code 16 = .ok (.invokestatic 73, 3) := by decide +kernel
theorem d_Mod_spoil_19 : decode prog_8_method_68_code 19 = .ok (.ifCond .eq (21), 3) := by decide +kernel
theorem d_Mod_spoil_22 : decode prog_8_method_68_code 22 = .ok (.aload_n 0, 1) := by decide +kernel
theorem d_Mod_spoil_23 : decode prog_8_method_68_code 23 = .ok (.getfield 28, 3) := by decide +kernel
theorem d_Mod_spoil_26 : decode prog_8_method_68_code 26 = .ok (.iload_n 1, 1) := by decide +kernel
theorem d_Mod_spoil_27 : decode prog_8_method_68_code 27 = .ok (.baload, 1) := by decide +kernel
theorem d_Mod_spoil_28 : decode prog_8_method_68_code 28 = .ok (.ifCond .ne (12), 3) := by decide +kernel
theorem d_Mod_spoil_31 : decode prog_8_method_68_code 31 = .ok (.aload_n 0, 1) := by decide +kernel
theorem d_Mod_spoil_32 : decode prog_8_method_68_code 32 = .ok (.getfield 7, 3) := by decide +kernel
theorem d_Mod_spoil_35 : decode prog_8_method_68_code 35 = .ok (.iload_n 1, 1) := by decide +kernel
theorem d_Mod_spoil_36 : decode prog_8_method_68_code 36 = .ok (.iaload, 1) := by decide +kernel
theorem d_Mod_spoil_37 : decode prog_8_method_68_code 37 = .ok (.ifCond .ne (5), 3) := by decide +kernel
theorem d_Mod_spoil_40 : decode prog_8_method_68_code 40 = .ok (.iconst 0, 1) := by decide +kernel
theorem d_Mod_spoil_41 : decode prog_8_method_68_code 41 = .ok (.ireturn, 1) := by decide +kernel
theorem d_Mod_spoil_42 : decode prog_8_method_68_code 42 = .ok (.aload_n 0, 1) := by decide +kernel
theorem d_Mod_spoil_43 : decode prog_8_method_68_code 43 = .ok (.getfield 25, 3) := by decide +kernel
theorem d_Mod_spoil_46 : decode prog_8_method_68_code 46 = .ok (.bipush (8), 2) := by decide +kernel
theorem d_Mod_spoil_48 : decode prog_8_method_68_code 48 = .ok (.iload_n 1, 1) := by decide +kernel
theorem d_Mod_spoil_49 : decode prog_8_method_68_code 49 = .ok (.imul, 1) := by decide +kernel
theorem d_Mod_spoil_50 : decode prog_8_method_68_code 50 = .ok (.iload_n 2, 1) := by decide +kernel
theorem d_Mod_spoil_51 : decode prog_8_method_68_code 51 = .ok (.iadd, 1) := by decide +kernel
theorem d_Mod_spoil_52 : decode prog_8_method_68_code 52 = .ok (.iload_n 3, 1) := by decide +kernel
theorem d_Mod_spoil_53 : decode prog_8_method_68_code 53 = .ok (.sipush (255), 3) := by decide +kernel
theorem d_Mod_spoil_56 : decode prog_8_method_68_code 56 = .ok (.iand, 1) := by decide +kernel
theorem d_Mod_spoil_57 : decode prog_8_method_68_code 57 = .ok (.iastore, 1) := by decide +kernel
theorem d_Mod_spoil_58 : decode prog_8_method_68_code 58 = .ok (.iconst 1, 1) := by decide +kernel
theorem d_Mod_spoil_59 : decode prog_8_method_68_code 59 = .ok (.ireturn, 1) := by decide +kernel
theorem d_Mod_scratch_0 : decode prog_8_method_69_code 0 = .ok (.aload_n 0, 1) := by decide +kernel
theorem d_Mod_scratch_1 : decode prog_8_method_69_code 1 = .ok (.iconst 0, 1) := by decide +kernel
theorem d_Mod_scratch_2 : decode prog_8_method_69_code 2 = .ok (.putfield 70, 3) := by decide +kernel
theorem d_Mod_scratch_5 : decode prog_8_method_69_code 5 = .ok (.iload_n 1, 1) := by decide +kernel
theorem d_Mod_scratch_6 : decode prog_8_method_69_code 6 = .ok (.invokestatic 278, 3) := by decide +kernel
theorem d_Mod_scratch_9 : decode prog_8_method_69_code 9 = .ok (.ifCond .eq (12), 3) := by decide +kernel
theorem d_Mod_scratch_12 : decode prog_8_method_69_code 12 = .ok (.aload_n 0, 1) := by decide +kernel
theorem d_Mod_scratch_13 : decode prog_8_method_69_code 13 = .ok (.getfield 28, 3) := by decide +kernel
theorem d_Mod_scratch_16 : decode prog_8_method_69_code 16 = .ok (.iload_n 1, 1) := by decide +kernel
theorem d_Mod_scratch_17 : decode prog_8_method_69_code 17 = .ok (.baload, 1) := by decide +kernel
theorem d_Mod_scratch_18 : decode prog_8_method_69_code 18 = .ok (.ifCond .eq (5), 3) := by decide +kernel
theorem d_Mod_scratch_21 : decode prog_8_method_69_code 21 = .ok (.iconst 0, 1) := by decide +kernel
theorem d_Mod_scratch_22 : decode prog_8_method_69_code 22 = .ok (.ireturn, 1) := by decide +kernel
theorem d_Mod_scratch_23 : decode prog_8_method_69_code 23 = .ok (.aload_n 0, 1) := by decide +kernel
theorem d_Mod_scratch_24 : decode prog_8_method_69_code 24 = .ok (.getfield 28, 3) := by decide +kernel
theorem d_Mod_scratch_27 : decode prog_8_method_69_code 27 = .ok (.iload_n 1, 1) := by decide +kernel
theorem d_Mod_scratch_28 : decode prog_8_method_69_code 28 = .ok (.iconst 1, 1) := by decide +kernel
theorem d_Mod_scratch_29 : decode prog_8_method_69_code 29 = .ok (.bastore, 1) := by decide +kernel
theorem d_Mod_scratch_30 : decode prog_8_method_69_code 30 = .ok (.iconst 1, 1) := by decide +kernel
theorem d_Mod_scratch_31 : decode prog_8_method_69_code 31 = .ok (.ireturn, 1) := by decide +kernel
theorem d_Mod_ghost_0 : decode prog_8_method_70_code 0 = .ok (.aload_n 0, 1) := by decide +kernel
theorem d_Mod_ghost_1 : decode prog_8_method_70_code 1 = .ok (.iconst 0, 1) := by decide +kernel
theorem d_Mod_ghost_2 : decode prog_8_method_70_code 2 = .ok (.putfield 70, 3) := by decide +kernel
theorem d_Mod_ghost_5 : decode prog_8_method_70_code 5 = .ok (.iload_n 1, 1) := by decide +kernel
theorem d_Mod_ghost_6 : decode prog_8_method_70_code 6 = .ok (.invokestatic 278, 3) := by decide +kernel
theorem d_Mod_ghost_9 : decode prog_8_method_70_code 9 = .ok (.ifCond .eq (36), 3) := by decide +kernel
theorem d_Mod_ghost_12 : decode prog_8_method_70_code 12 = .ok (.iload_n 2, 1) := by decide +kernel
theorem d_Mod_ghost_13 : decode prog_8_method_70_code 13 = .ok (.invokestatic 278, 3) := by decide +kernel
theorem d_Mod_ghost_16 : decode prog_8_method_70_code 16 = .ok (.ifCond .eq (29), 3) := by decide +kernel
theorem d_Mod_ghost_19 : decode prog_8_method_70_code 19 = .ok (.aload_n 0, 1) := by decide +kernel
theorem d_Mod_ghost_20 : decode prog_8_method_70_code 20 = .ok (.iload_n 2, 1) := by decide +kernel
theorem d_Mod_ghost_21 : decode prog_8_method_70_code 21 = .ok (.invokevirtual 138, 3) := by decide +kernel
theorem d_Mod_ghost_24 : decode prog_8_method_70_code 24 = .ok (.ifCond .eq (21), 3) := by decide +kernel
theorem d_Mod_ghost_27 : decode prog_8_method_70_code 27 = .ok (.aload_n 0, 1) := by decide +kernel
theorem d_Mod_ghost_28 : decode prog_8_method_70_code 28 = .ok (.getfield 28, 3) := by decide +kernel
theorem d_Mod_ghost_31 : decode prog_8_method_70_code 31 = .ok (.iload_n 1, 1) := by decide +kernel
theorem d_Mod_ghost_32 : decode prog_8_method_70_code 32 = .ok (.baload, 1) := by decide +kernel
theorem d_Mod_ghost_33 : decode prog_8_method_70_code 33 = .ok (.ifCond .ne (12), 3) := by decide +kernel
theorem d_Mod_ghost_36 : decode prog_8_method_70_code 36 = .ok (.aload_n 0, 1) := by decide +kernel
theorem d_Mod_ghost_37 : decode prog_8_method_70_code 37 = .ok (.getfield 7, 3) := by decide +kernel
theorem d_Mod_ghost_40 : decode prog_8_method_70_code 40 = .ok (.iload_n 1, 1) := by decide +kernel
theorem d_Mod_ghost_41 : decode prog_8_method_70_code 41 = .ok (.iaload, 1) := by decide +kernel
theorem d_Mod_ghost_42 : decode prog_8_method_70_code 42 = .ok (.ifCond .ne (5), 3) := by decide +kernel
theorem d_Mod_ghost_45 : decode prog_8_method_70_code 45 = .ok (.iconst 0, 1) := by decide +kernel
theorem d_Mod_ghost_46 : decode prog_8_method_70_code 46 = .ok (.ireturn, 1) := by decide +kernel
theorem d_Mod_ghost_47 : decode prog_8_method_70_code 47 = .ok (.aload_n 0, 1) := by decide +kernel
theorem d_Mod_ghost_48 : decode prog_8_method_70_code 48 = .ok (.iload_n 2, 1) := by decide +kernel
theorem d_Mod_ghost_49 : decode prog_8_method_70_code 49 = .ok (.aload_n 0, 1) := by decide +kernel
theorem d_Mod_ghost_50 : decode prog_8_method_70_code 50 = .ok (.getfield 7, 3) := by decide +kernel
theorem d_Mod_ghost_53 : decode prog_8_method_70_code 53 = .ok (.iload_n 1, 1) := by decide +kernel
theorem d_Mod_ghost_54 : decode prog_8_method_70_code 54 = .ok (.iaload, 1) := by decide +kernel
theorem d_Mod_ghost_55 : decode prog_8_method_70_code 55 = .ok (.aload_n 0, 1) := by decide +kernel
theorem d_Mod_ghost_56 : decode prog_8_method_70_code 56 = .ok (.getfield 13, 3) := by decide +kernel
theorem d_Mod_ghost_59 : decode prog_8_method_70_code 59 = .ok (.iload_n 1, 1) := by decide +kernel
theorem d_Mod_ghost_60 : decode prog_8_method_70_code 60 = .ok (.iaload, 1) := by decide +kernel
theorem d_Mod_ghost_61 : decode prog_8_method_70_code 61 = .ok (.aload_n 0, 1) := by decide +kernel
theorem d_Mod_ghost_62 : decode prog_8_method_70_code 62 = .ok (.getfield 16, 3) := by decide +kernel
theorem d_Mod_ghost_65 : decode prog_8_method_70_code 65 = .ok (.iload_n 1, 1) := by decide +kernel
theorem d_Mod_ghost_66 : decode prog_8_method_70_code 66 = .ok (.iaload, 1) := by decide +kernel
theorem d_Mod_ghost_67 : decode prog_8_method_70_code 67 = .ok (.invokevirtual 66, 3) := by decide +kernel
theorem d_Mod_ghost_70 : decode prog_8_method_70_code 70 = .ok (.aload_n 0, 1) := by decide +kernel
theorem d_Mod_ghost_71 : decode prog_8_method_70_code 71 = .ok (.getfield 19, 3) := by decide +kernel
theorem d_Mod_ghost_74 : decode prog_8_method_70_code 74 = .ok (.iload_n 2, 1) := by decide +kernel
theorem d_Mod_ghost_75 : decode prog_8_method_70_code 75 = .ok (.aload_n 0, 1) := by decide +kernel
theorem d_Mod_ghost_76 : decode prog_8_method_70_code 76 = .ok (.getfield 19, 3) := by decide +kernel
theorem d_Mod_ghost_79 : decode prog_8_method_70_code 79 = .ok (.iload_n 1, 1) := by decide +kernel
theorem d_Mod_ghost_80 : decode prog_8_method_70_code 80 = .ok (.iaload, 1) := by decide +kernel
theorem d_Mod_ghost_81 : decode prog_8_method_70_code 81 = .ok (.iastore, 1) := by decide +kernel
theorem d_Mod_ghost_82 : decode prog_8_method_70_code 82 = .ok (.aload_n 0, 1) := by decide +kernel
theorem d_Mod_ghost_83 : decode prog_8_method_70_code 83 = .ok (.getfield 22, 3) := by decide +kernel
theorem d_Mod_ghost_86 : decode prog_8_method_70_code 86 = .ok (.iload_n 2, 1) := by decide +kernel
theorem d_Mod_ghost_87 : decode prog_8_method_70_code 87 = .ok (.aload_n 0, 1) := by decide +kernel
theorem d_Mod_ghost_88 : decode prog_8_method_70_code 88 = .ok (.getfield 22, 3) := by decide +kernel
theorem d_Mod_ghost_91 : decode prog_8_method_70_code 91 = .ok (.iload_n 1, 1) := by decide +kernel
theorem d_Mod_ghost_92 : decode prog_8_method_70_code 92 = .ok (.iaload, 1) := by decide +kernel
theorem d_Mod_ghost_93 : decode prog_8_method_70_code 93 = .ok (.iastore, 1) := by decide +kernel
theorem d_Mod_ghost_94 : decode prog_8_method_70_code 94 = .ok (.iconst 0, 1) := by decide +kernel
theorem d_Mod_ghost_95 : decode prog_8_method_70_code 95 = .ok (.istore_n 3, 1) := by decide +kernel
theorem d_Mod_ghost_96 : decode prog_8_method_70_code 96 = .ok (.iload_n 3, 1) := by decide +kernel
theorem d_Mod_ghost_97 : decode prog_8_method_70_code 97 = .ok (.bipush (8), 2) := by decide +kernel
theorem d_Mod_ghost_99 : decode prog_8_method_70_code 99 = .ok (.if_icmp .ge (31), 3) := by decide +kernel
theorem d_Mod_ghost_102 : decode prog_8_method_70_code 102 = .ok (.aload_n 0, 1) := by decide +kernel
theorem d_Mod_ghost_103 : decode prog_8_method_70_code 103 = .ok (.getfield 25, 3) := by decide +kernel
theorem d_Mod_ghost_106 : decode prog_8_method_70_code 106 = .ok (.bipush (8), 2) := by decide +kernel
theorem d_Mod_ghost_108 : decode prog_8_method_70_code 108 = .ok (.iload_n 2, 1) := by decide +kernel
theorem d_Mod_ghost_109 : decode prog_8_method_70_code 109 = .ok (.imul, 1) := by decide +kernel
theorem d_Mod_ghost_110 : decode prog_8_method_70_code 110 = .ok (.iload_n 3, 1) := by decide +kernel
theorem d_Mod_ghost_111 : decode prog_8_method_70_code 111 = .ok (.iadd, 1) := by decide +kernel
theorem d_Mod_ghost_112 : decode prog_8_method_70_code 112 = .ok (.aload_n 0, 1) := by decide +kernel
theorem d_Mod_ghost_113 : decode prog_8_method_70_code 113 = .ok (.getfield 25, 3) := by decide +kernel
theorem d_Mod_ghost_116 : decode prog_8_method_70_code 116 = .ok (.bipush (8), 2) := by decide +kernel
theorem d_Mod_ghost_118 : decode prog_8_method_70_code 118 = .ok (.iload_n 1, 1) := by decide +kernel
theorem d_Mod_ghost_119 : decode prog_8_method_70_code 119 = .ok (.imul, 1) := by decide +kernel
theorem d_Mod_ghost_120 : decode prog_8_method_70_code 120 = .ok (.iload_n 3, 1) := by decide +kernel
theorem d_Mod_ghost_121 : decode prog_8_method_70_code 121 = .ok (.iadd, 1) := by decide +kernel
theorem d_Mod_ghost_122 : decode prog_8_method_70_code 122 = .ok (.iaload, 1) := by decide +kernel
theorem d_Mod_ghost_123 : decode prog_8_method_70_code 123 = .ok (.iastore, 1) := by decide +kernel
theorem d_Mod_ghost_124 : decode prog_8_method_70_code 124 = .ok (.iinc 3 (1), 3) := by decide +kernel
theorem d_Mod_ghost_127 : decode prog_8_method_70_code 127 = .ok (.goto (-31), 3) := by decide +kernel
theorem d_Mod_ghost_130 : decode prog_8_method_70_code 130 = .ok (.iconst 1, 1) := by decide +kernel
theorem d_Mod_ghost_131 : decode prog_8_method_70_code 131 = .ok (.ireturn, 1) := by decide +kernel
theorem d_Mod_label_0 : decode prog_8_method_71_code 0 = .ok (.aload_n 0, 1) := by decide +kernel
theorem d_Mod_label_1 : decode prog_8_method_71_code 1 = .ok (.iconst 0, 1) := by decide +kernel
theorem d_Mod_label_2 : decode prog_8_method_71_code 2 = .ok (.putfield 70, 3) := by decide +kernel
theorem d_Mod_label_5 : decode prog_8_method_71_code 5 = .ok (.iload_n 1, 1) := by decide +kernel
theorem d_Mod_label_6 : decode prog_8_method_71_code 6 = .ok (.invokestatic 278, 3) := by decide +kernel
theorem d_Mod_label_9 : decode prog_8_method_71_code 9 = .ok (.ifCond .eq (21), 3) := by decide +kernel
theorem d_Mod_label_12 : decode prog_8_method_71_code 12 = .ok (.aload_n 0, 1) := by decide +kernel
theorem d_Mod_label_13 : decode prog_8_method_71_code 13 = .ok (.getfield 28, 3) := by decide +kernel
theorem d_Mod_label_16 : decode prog_8_method_71_code 16 = .ok (.iload_n 1, 1) := by decide +kernel
theorem d_Mod_label_17 : decode prog_8_method_71_code 17 = .ok (.baload, 1) := by decide +kernel
theorem d_Mod_label_18 : decode prog_8_method_71_code 18 = .ok (.ifCond .ne (12), 3) := by decide +kernel
theorem d_Mod_label_21 : decode prog_8_method_71_code 21 = .ok (.iload_n 2, 1) := by decide +kernel
theorem d_Mod_label_22 : decode prog_8_method_71_code 22 = .ok (.iconst 0, 1) := by decide +kernel
theorem d_Mod_label_23 : decode prog_8_method_71_code 23 = .ok (.iconst 4, 1) := by decide +kernel
theorem d_Mod_label_24 : decode prog_8_method_71_code 24 = .ok (.invokestatic 73, 3) := by decide +kernel
theorem d_Mod_label_27 : decode prog_8_method_71_code 27 = .ok (.ifCond .ne (5), 3) := by decide +kernel
theorem d_Mod_label_30 : decode prog_8_method_71_code 30 = .ok (.iconst (-1), 1) := by decide +kernel
theorem d_Mod_label_31 : decode prog_8_method_71_code 31 = .ok (.ireturn, 1) := by decide +kernel
theorem d_Mod_label_32 : decode prog_8_method_71_code 32 = .ok (.iload_n 2, 1) := by decide +kernel
theorem d_Mod_label_33 : decode prog_8_method_71_code 33 = .ok (.ifCond .ne (12), 3) := by decide +kernel
theorem d_Mod_label_36 : decode prog_8_method_71_code 36 = .ok (.aload_n 0, 1) := by decide +kernel
theorem d_Mod_label_37 : decode prog_8_method_71_code 37 = .ok (.getfield 7, 3) := by decide +kernel
theorem d_Mod_label_40 : decode prog_8_method_71_code 40 = .ok (.iload_n 1, 1) := by decide +kernel
theorem d_Mod_label_41 : decode prog_8_method_71_code 41 = .ok (.iaload, 1) := by decide +kernel
theorem d_Mod_label_42 : decode prog_8_method_71_code 42 = .ok (.goto (51), 3) := by decide +kernel
theorem d_Mod_label_45 : decode prog_8_method_71_code 45 = .ok (.iload_n 2, 1) := by decide +kernel
theorem d_Mod_label_46 : decode prog_8_method_71_code 46 = .ok (.iconst 1, 1) := by decide +kernel
theorem d_Mod_label_47 : decode prog_8_method_71_code 47 = .ok (.if_icmp .ne (12), 3) := by decide +kernel
theorem d_Mod_label_50 : decode prog_8_method_71_code 50 = .ok (.aload_n 0, 1) := by decide +kernel
theorem d_Mod_label_51 : decode prog_8_method_71_code 51 = .ok (.getfield 13, 3) := by decide +kernel
theorem d_Mod_label_54 : decode prog_8_method_71_code 54 = .ok (.iload_n 1, 1) := by decide +kernel
theorem d_Mod_label_55 : decode prog_8_method_71_code 55 = .ok (.iaload, 1) := by decide +kernel
theorem d_Mod_label_56 : decode prog_8_method_71_code 56 = .ok (.goto (37), 3) := by decide +kernel
theorem d_Mod_label_59 : decode prog_8_method_71_code 59 = .ok (.iload_n 2, 1) := by decide +kernel
theorem d_Mod_label_60 : decode prog_8_method_71_code 60 = .ok (.iconst 2, 1) := by decide +kernel
theorem d_Mod_label_61 : decode prog_8_method_71_code 61 = .ok (.if_icmp .ne (12), 3) := by decide +kernel
theorem d_Mod_label_64 : decode prog_8_method_71_code 64 = .ok (.aload_n 0, 1) := by decide +kernel
theorem d_Mod_label_65 : decode prog_8_method_71_code 65 = .ok (.getfield 16, 3) := by decide +kernel
theorem d_Mod_label_68 : decode prog_8_method_71_code 68 = .ok (.iload_n 1, 1) := by decide +kernel
theorem d_Mod_label_69 : decode prog_8_method_71_code 69 = .ok (.iaload, 1) := by decide +kernel
theorem d_Mod_label_70 : decode prog_8_method_71_code 70 = .ok (.goto (23), 3) := by decide +kernel
theorem d_Mod_label_73 : decode prog_8_method_71_code 73 = .ok (.iload_n 2, 1) := by decide +kernel
theorem d_Mod_label_74 : decode prog_8_method_71_code 74 = .ok (.iconst 3, 1) := by decide +kernel
theorem d_Mod_label_75 : decode prog_8_method_71_code 75 = .ok (.if_icmp .ne (12), 3) := by decide +kernel
theorem d_Mod_label_78 : decode prog_8_method_71_code 78 = .ok (.aload_n 0, 1) := by decide +kernel
theorem d_Mod_label_79 : decode prog_8_method_71_code 79 = .ok (.getfield 19, 3) := by decide +kernel
theorem d_Mod_label_82 : decode prog_8_method_71_code 82 = .ok (.iload_n 1, 1) := by decide +kernel
theorem d_Mod_label_83 : decode prog_8_method_71_code 83 = .ok (.iaload, 1) := by decide +kernel
theorem d_Mod_label_84 : decode prog_8_method_71_code 84 = .ok (.goto (9), 3) := by decide +kernel
theorem d_Mod_label_87 : decode prog_8_method_71_code 87 = .ok (.aload_n 0, 1) := by decide +kernel
theorem d_Mod_label_88 : decode prog_8_method_71_code 88 = .ok (.getfield 22, 3) := by decide +kernel
theorem d_Mod_label_91 : decode prog_8_method_71_code 91 = .ok (.iload_n 1, 1) := by decide +kernel
theorem d_Mod_label_92 : decode prog_8_method_71_code 92 = .ok (.iaload, 1) := by decide +kernel
theorem d_Mod_label_93 : decode prog_8_method_71_code 93 = .ok (.ireturn, 1) := by decide +kernel
theorem d_Mod_data_0 : decode prog_8_method_72_code 0 = .ok (.aload_n 0, 1) := by decide +kernel
theorem d_Mod_data_1 : decode prog_8_method_72_code 1 = .ok (.iconst 0, 1) := by decide +kernel
theorem d_Mod_data_2 : decode prog_8_method_72_code 2 = .ok (.putfield 70, 3) := by decide +kernel
theorem d_Mod_data_5 : decode prog_8_method_72_code 5 = .ok (.iload_n 1, 1) := by decide +kernel
theorem d_Mod_data_6 : decode prog_8_method_72_code 6 = .ok (.invokestatic 278, 3) := by decide +kernel
theorem d_Mod_data_9 : decode prog_8_method_72_code 9 = .ok (.ifCond .eq (36), 3) := by decide +kernel
theorem d_Mod_data_12 : decode prog_8_method_72_code 12 = .ok (.iload_n 2, 1) := by decide +kernel
theorem d_Mod_data_13 : decode prog_8_method_72_code 13 = .ok (.iconst 0, 1) := by decide +kernel
theorem d_Mod_data_14 : decode prog_8_method_72_code 14 = .ok (.bipush (7), 2) := by decide +kernel
theorem d_Mod_data_16 : decode prog_8_method_72_code 16 = .ok (.invokestatic 73, 3) := by decide +kernel
theorem d_Mod_data_19 : decode prog_8_method_72_code 19 = .ok (.ifCond .eq (26), 3) := by decide +kernel
theorem d_Mod_data_22 : decode prog_8_method_72_code 22 = .ok (.aload_n 0, 1) := by decide +kernel
theorem d_Mod_data_23 : decode prog_8_method_72_code 23 = .ok (.getfield 28, 3) := by decide +kernel
theorem d_Mod_data_26 : decode prog_8_method_72_code 26 = .ok (.iload_n 1, 1) := by decide +kernel
theorem d_Mod_data_27 : decode prog_8_method_72_code 27 = .ok (.baload, 1) := by decide +kernel
theorem d_Mod_data_28 : decode prog_8_method_72_code 28 = .ok (.ifCond .ne (17), 3) := by decide +kernel
theorem d_Mod_data_31 : decode prog_8_method_72_code 31 = .ok (.aload_n 0, 1) := by decide +kernel
theorem d_Mod_data_32 : decode prog_8_method_72_code 32 = .ok (.getfield 25, 3) := by decide +kernel
theorem d_Mod_data_35 : decode prog_8_method_72_code 35 = .ok (.bipush (8), 2) := by decide +kernel
theorem d_Mod_data_37 : decode prog_8_method_72_code 37 = .ok (.iload_n 1, 1) := by decide +kernel
theorem d_Mod_data_38 : decode prog_8_method_72_code 38 = .ok (.imul, 1) := by decide +kernel
theorem d_Mod_data_39 : decode prog_8_method_72_code 39 = .ok (.iload_n 2, 1) := by decide +kernel
theorem d_Mod_data_40 : decode prog_8_method_72_code 40 = .ok (.iadd, 1) := by decide +kernel
theorem d_Mod_data_41 : decode prog_8_method_72_code 41 = .ok (.iaload, 1) := by decide +kernel
theorem d_Mod_data_42 : decode prog_8_method_72_code 42 = .ok (.goto (4), 3) := by decide +kernel
theorem d_Mod_data_45 : decode prog_8_method_72_code 45 = .ok (.iconst (-1), 1) := by decide +kernel
theorem d_Mod_data_46 : decode prog_8_method_72_code 46 = .ok (.ireturn, 1) := by decide +kernel
theorem d_Mod_state_0 : decode prog_8_method_73_code 0 = .ok (.aload_n 0, 1) := by decide +kernel
theorem d_Mod_state_1 : decode prog_8_method_73_code 1 = .ok (.iconst 0, 1) := by decide +kernel
theorem d_Mod_state_2 : decode prog_8_method_73_code 2 = .ok (.putfield 70, 3) := by decide +kernel
theorem d_Mod_state_5 : decode prog_8_method_73_code 5 = .ok (.iconst 0, 1) := by decide +kernel
theorem d_Mod_state_6 : decode prog_8_method_73_code 6 = .ok (.istore_n 2, 1) := by decide +kernel
theorem d_Mod_state_7 : decode prog_8_method_73_code 7 = .ok (.iconst 0, 1) := by decide +kernel
theorem d_Mod_state_8 : decode prog_8_method_73_code 8 = .ok (.istore_n 3, 1) := by decide +kernel
theorem d_Mod_state_9 : decode prog_8_method_73_code 9 = .ok (.iconst 0, 1) := by decide +kernel
theorem d_Mod_state_10 : decode prog_8_method_73_code 10 = .ok (.istore 4, 2) := by decide +kernel
theorem d_Mod_state_12 : decode prog_8_method_73_code 12 = .ok (.iload 4, 2) := by decide +kernel
theorem d_Mod_state_14 : decode prog_8_method_73_code 14 = .ok (.bipush (40), 2) := by decide +kernel
theorem d_Mod_state_16 : decode prog_8_method_73_code 16 = .ok (.if_icmp .ge (44), 3) := by decide +kernel
theorem d_Mod_state_19 : decode prog_8_method_73_code 19 = .ok (.aload_n 0, 1) := by decide +kernel
theorem d_Mod_state_20 : decode prog_8_method_73_code 20 = .ok (.iload 4, 2) := by decide +kernel
theorem d_Mod_state_22 : decode prog_8_method_73_code 22 = .ok (.invokevirtual 138, 3) := by decide +kernel
theorem d_Mod_state_25 : decode prog_8_method_73_code 25 = .ok (.ifCond .eq (9), 3) := by decide +kernel
theorem d_Mod_state_28 : decode prog_8_method_73_code 28 = .ok (.iload_n 2, 1) := by decide +kernel
theorem d_Mod_state_29 : decode prog_8_method_73_code 29 = .ok (.iconst 1, 1) := by decide +kernel
theorem d_Mod_state_30 : decode prog_8_method_73_code 30 = .ok (.iadd, 1) := by decide +kernel
theorem d_Mod_state_31 : decode prog_8_method_73_code 31 = .ok (.goto (4), 3) := by decide +kernel
theorem d_Mod_state_34 : decode prog_8_method_73_code 34 = .ok (.iload_n 2, 1) := by decide +kernel
theorem d_Mod_state_35 : decode prog_8_method_73_code 35 = .ok (.istore_n 2, 1) := by decide +kernel
theorem d_Mod_state_36 : decode prog_8_method_73_code 36 = .ok (.aload_n 0, 1) := by decide +kernel
theorem d_Mod_state_37 : decode prog_8_method_73_code 37 = .ok (.getfield 28, 3) := by decide +kernel
theorem d_Mod_state_40 : decode prog_8_method_73_code 40 = .ok (.iload 4, 2) := by decide +kernel
theorem d_Mod_state_42 : decode prog_8_method_73_code 42 = .ok (.baload, 1) := by decide +kernel
theorem d_Mod_state_43 : decode prog_8_method_73_code 43 = .ok (.ifCond .eq (9), 3) := by decide +kernel
theorem d_Mod_state_46 : decode prog_8_method_73_code 46 = .ok (.iload_n 3, 1) := by decide +kernel
theorem d_Mod_state_47 : decode prog_8_method_73_code 47 = .ok (.iconst 1, 1) := by decide +kernel
theorem d_Mod_state_48 : decode prog_8_method_73_code 48 = .ok (.iadd, 1) := by decide +kernel
theorem d_Mod_state_49 : decode prog_8_method_73_code 49 = .ok (.goto (4), 3) := by decide +kernel
theorem d_Mod_state_52 : decode prog_8_method_73_code 52 = .ok (.iload_n 3, 1) := by decide +kernel
theorem d_Mod_state_53 : decode prog_8_method_73_code 53 = .ok (.istore_n 3, 1) := by decide +kernel
theorem d_Mod_state_54 : decode prog_8_method_73_code 54 = .ok (.iinc 4 (1), 3) := by decide +kernel
theorem d_Mod_state_57 : decode prog_8_method_73_code 57 = .ok (.goto (-45), 3) := by decide +kernel
theorem d_Mod_state_60 : decode prog_8_method_73_code 60 = .ok (.iload_n 1, 1) := by decide +kernel
theorem d_Mod_state_61 : decode prog_8_method_73_code 61 = .ok (.ifCond .ne (10), 3) := by decide +kernel
theorem d_Mod_state_64 : decode prog_8_method_73_code 64 = .ok (.aload_n 0, 1) := by decide +kernel
theorem d_Mod_state_65 : decode prog_8_method_73_code 65 = .ok (.getfield 80, 3) := by decide +kernel
theorem d_Mod_state_68 : decode prog_8_method_73_code 68 = .ok (.goto (54), 3) := by decide +kernel
theorem d_Mod_state_71 : decode prog_8_method_73_code 71 = .ok (.iload_n 1, 1) := by decide +kernel
theorem d_Mod_state_72 : decode prog_8_method_73_code 72 = .ok (.iconst 1, 1) := by decide +kernel
theorem d_Mod_state_73 : decode prog_8_method_73_code 73 = .ok (.if_icmp .ne (10), 3) := by decide +kernel
theorem d_Mod_state_76 : decode prog_8_method_73_code 76 = .ok (.aload_n 0, 1) := by decide +kernel
theorem d_Mod_state_77 : decode prog_8_method_73_code 77 = .ok (.getfield 119, 3) := by decide +kernel
theorem d_Mod_state_80 : decode prog_8_method_73_code 80 = .ok (.goto (42), 3) := by decide +kernel
theorem d_Mod_state_83 : decode prog_8_method_73_code 83 = .ok (.iload_n 1, 1) := by decide +kernel
theorem d_Mod_state_84 : decode prog_8_method_73_code 84 = .ok (.iconst 2, 1) := by decide +kernel
theorem d_Mod_state_85 : decode prog_8_method_73_code 85 = .ok (.if_icmp .ne (7), 3) := by decide +kernel
theorem d_Mod_state_88 : decode prog_8_method_73_code 88 = .ok (.iload_n 2, 1) := by decide +kernel
theorem d_Mod_state_89 : decode prog_8_method_73_code 89 = .ok (.goto (33), 3) := by decide +kernel
theorem d_Mod_state_92 : decode prog_8_method_73_code 92 = .ok (.iload_n 1, 1) := by decide +kernel
theorem d_Mod_state_93 : decode prog_8_method_73_code 93 = .ok (.iconst 3, 1) := by decide +kernel
theorem d_Mod_state_94 : decode prog_8_method_73_code 94 = .ok (.if_icmp .ne (7), 3) := by decide +kernel
theorem d_Mod_state_97 : decode prog_8_method_73_code 97 = .ok (.iload_n 3, 1) := by decide +kernel
theorem d_Mod_state_98 : decode prog_8_method_73_code 98 = .ok (.goto (24), 3) := by decide +kernel
theorem d_Mod_state_101 : decode prog_8_method_73_code 101 = .ok (.iload_n 1, 1) := by decide +kernel
theorem d_Mod_state_102 : decode prog_8_method_73_code 102 = .ok (.iconst 4, 1) := by decide +kernel
theorem d_Mod_state_103 : decode prog_8_method_73_code 103 = .ok (.if_icmp .ne (18), 3) := by decide +kernel
theorem d_Mod_state_106 : decode prog_8_method_73_code 106 = .ok (.aload_n 0, 1) := by decide +kernel
theorem d_Mod_state_107 : decode prog_8_method_73_code 107 = .ok (.getfield 115, 3) := by decide +kernel
theorem d_Mod_state_110 : decode prog_8_method_73_code 110 = .ok (.ifCond .eq (7), 3) := by decide +kernel
theorem d_Mod_state_113 : decode prog_8_method_73_code 113 = .ok (.iconst 0, 1) := by decide +kernel
theorem d_Mod_state_114 : decode prog_8_method_73_code 114 = .ok (.goto (8), 3) := by decide +kernel
theorem d_Mod_state_117 : decode prog_8_method_73_code 117 = .ok (.iconst 1, 1) := by decide +kernel
theorem d_Mod_state_118 : decode prog_8_method_73_code 118 = .ok (.goto (4), 3) := by decide +kernel
theorem d_Mod_state_121 : decode prog_8_method_73_code 121 = .ok (.iconst (-1), 1) := by decide +kernel
theorem d_Mod_state_122 : decode prog_8_method_73_code 122 = .ok (.ireturn, 1) := by decide +kernel
theorem d_Mod_report_0 : decode prog_8_method_74_code 0 = .ok (.aload_n 0, 1) := by decide +kernel
theorem d_Mod_report_1 : decode prog_8_method_74_code 1 = .ok (.iconst 0, 1) := by decide +kernel
theorem d_Mod_report_2 : decode prog_8_method_74_code 2 = .ok (.putfield 70, 3) := by decide +kernel
theorem d_Mod_report_5 : decode prog_8_method_74_code 5 = .ok (.iload_n 1, 1) := by decide +kernel
theorem d_Mod_report_6 : decode prog_8_method_74_code 6 = .ok (.iconst 0, 1) := by decide +kernel
theorem d_Mod_report_7 : decode prog_8_method_74_code 7 = .ok (.iconst 4, 1) := by decide +kernel
theorem d_Mod_report_8 : decode prog_8_method_74_code 8 = .ok (.invokestatic 73, 3) := by decide +kernel
theorem d_Mod_report_11 : decode prog_8_method_74_code 11 = .ok (.ifCond .eq (12), 3) := by decide +kernel
theorem d_Mod_report_14 : decode prog_8_method_74_code 14 = .ok (.aload_n 0, 1) := by decide +kernel
theorem d_Mod_report_15 : decode prog_8_method_74_code 15 = .ok (.getfield 42, 3) := by decide +kernel
theorem d_Mod_report_18 : decode prog_8_method_74_code 18 = .ok (.iload_n 1, 1) := by decide +kernel
theorem d_Mod_report_19 : decode prog_8_method_74_code 19 = .ok (.iaload, 1) := by decide +kernel
theorem d_Mod_report_20 : decode prog_8_method_74_code 20 = .ok (.goto (4), 3) := by decide +kernel
theorem d_Mod_report_23 : decode prog_8_method_74_code 23 = .ok (.iconst (-1), 1) := by decide +kernel
theorem d_Mod_report_24 : decode prog_8_method_74_code 24 = .ok (.ireturn, 1) := by decide +kernel
