theorem d_Mod_init_0 : decode prog_8_method_1_code 0 = .ok (.aload_n 0, 1) := by decide +kernel
theorem d_Mod_init_1 : decode prog_8_method_1_code 1 = .ok (.invokespecial 1, 3) := by decide +kernel
theorem d_Mod_init_4 : decode prog_8_method_1_code 4 = .ok (.aload_n 0, 1) := by decide +kernel
theorem d_Mod_init_5 : decode prog_8_method_1_code 5 = .ok (.bipush (40), 2) := by decide +kernel
theorem d_Mod_init_7 : decode prog_8_method_1_code 7 = .ok (.newarray .int, 2) := by decide +kernel
theorem d_Mod_init_9 : decode prog_8_method_1_code 9 = .ok (.putfield 7, 3) := by decide +kernel
theorem d_Mod_init_12 : decode prog_8_method_1_code 12 = .ok (.aload_n 0, 1) := by decide +kernel
theorem d_Mod_init_13 : decode prog_8_method_1_code 13 = .ok (.bipush (40), 2) := by decide +kernel
theorem d_Mod_init_15 : decode prog_8_method_1_code 15 = .ok (.newarray .int, 2) := by decide +kernel
theorem d_Mod_init_17 : decode prog_8_method_1_code 17 = .ok (.putfield 13, 3) := by decide +kernel
theorem d_Mod_init_20 : decode prog_8_method_1_code 20 = .ok (.aload_n 0, 1) := by decide +kernel
theorem d_Mod_init_21 : decode prog_8_method_1_code 21 = .ok (.bipush (40), 2) := by decide +kernel
theorem d_Mod_init_23 : decode prog_8_method_1_code 23 = .ok (.newarray .int, 2) := by decide +kernel
theorem d_Mod_init_25 : decode prog_8_method_1_code 25 = .ok (.putfield 16, 3) := by decide +kernel
theorem d_Mod_init_28 : decode prog_8_method_1_code 28 = .ok (.aload_n 0, 1) := by decide +kernel
theorem d_Mod_init_29 : decode prog_8_method_1_code 29 = .ok (.bipush (40), 2) := by decide +kernel
theorem d_Mod_init_31 : decode prog_8_method_1_code 31 = .ok (.newarray .int, 2) := by decide +kernel
theorem d_Mod_init_33 : decode prog_8_method_1_code 33 = .ok (.putfield 19, 3) := by decide +kernel
theorem d_Mod_init_36 : decode prog_8_method_1_code 36 = .ok (.aload_n 0, 1) := by decide +kernel
theorem d_Mod_init_37 : decode prog_8_method_1_code 37 = .ok (.bipush (40), 2) := by decide +kernel
theorem d_Mod_init_39 : decode prog_8_method_1_code 39 = .ok (.newarray .int, 2) := by decide +kernel
theorem d_Mod_init_41 : decode prog_8_method_1_code 41 = .ok (.putfield 22, 3) := by decide +kernel
theorem d_Mod_init_44 : decode prog_8_method_1_code 44 = .ok (.aload_n 0, 1) := by decide +kernel
theorem d_Mod_init_45 : decode prog_8_method_1_code 45 = .ok (.sipush (320), 3) := by decide +kernel
theorem d_Mod_init_48 : decode prog_8_method_1_code 48 = .ok (.newarray .int, 2) := by decide +kernel
theorem d_Mod_init_50 : decode prog_8_method_1_code 50 = .ok (.putfield 25, 3) := by decide +kernel
theorem d_Mod_init_53 : decode prog_8_method_1_code 53 = .ok (.aload_n 0, 1) := by decide +kernel
theorem d_Mod_init_54 : decode prog_8_method_1_code 54 = .ok (.bipush (40), 2) := by decide +kernel
theorem d_Mod_init_56 : decode prog_8_method_1_code 56 = .ok (.newarray .boolean, 2) := by decide +kernel
theorem d_Mod_init_58 : decode prog_8_method_1_code 58 = .ok (.putfield 28, 3) := by decide +kernel
theorem d_Mod_init_61 : decode prog_8_method_1_code 61 = .ok (.aload_n 0, 1) := by decide +kernel
theorem d_Mod_init_62 : decode prog_8_method_1_code 62 = .ok (.bipush (61), 2) := by decide +kernel
theorem d_Mod_init_64 : decode prog_8_method_1_code 64 = .ok (.newarray .int, 2) := by decide +kernel
theorem d_Mod_init_66 : decode prog_8_method_1_code 66 = .ok (.putfield 32, 3) := by decide +kernel
theorem d_Mod_init_69 : decode prog_8_method_1_code 69 = .ok (.aload_n 0, 1) := by decide +kernel
theorem d_Mod_init_70 : decode prog_8_method_1_code 70 = .ok (.iconst (-1), 1) := by decide +kernel
theorem d_Mod_init_71 : decode prog_8_method_1_code 71 = .ok (.putfield 35, 3) := by decide +kernel
theorem d_Mod_init_74 : decode prog_8_method_1_code 74 = .ok (.aload_n 0, 1) := by decide +kernel
theorem d_Mod_init_75 : decode prog_8_method_1_code 75 = .ok (.bipush (40), 2) := by decide +kernel
theorem d_Mod_init_77 : decode prog_8_method_1_code 77 = .ok (.newarray .int, 2) := by decide +kernel
theorem d_Mod_init_79 : decode prog_8_method_1_code 79 = .ok (.putfield 39, 3) := by decide +kernel
theorem d_Mod_init_82 : decode prog_8_method_1_code 82 = .ok (.aload_n 0, 1) := by decide +kernel
theorem d_Mod_init_83 : decode prog_8_method_1_code 83 = .ok (.iconst 5, 1) := by decide +kernel
theorem d_Mod_init_84 : decode prog_8_method_1_code 84 = .ok (.newarray .int, 2) := by decide +kernel
theorem d_Mod_init_86 : decode prog_8_method_1_code 86 = .ok (.putfield 42, 3) := by decide +kernel
theorem d_Mod_init_89 : decode prog_8_method_1_code 89 = .ok (.aload_n 0, 1) := by decide +kernel
theorem d_Mod_init_90 : decode prog_8_method_1_code 90 = .ok (.bipush (40), 2) := by decide +kernel
theorem d_Mod_init_92 : decode prog_8_method_1_code 92 = .ok (.newarray .int, 2) := by decide +kernel
theorem d_Mod_init_94 : decode prog_8_method_1_code 94 = .ok (.putfield 45, 3) := by decide +kernel
theorem d_Mod_init_97 : decode prog_8_method_1_code 97 = .ok (.aload_n 0, 1) := by decide +kernel
theorem d_Mod_init_98 : decode prog_8_method_1_code 98 = .ok (.sipush (2440), 3) := by decide +kernel
theorem d_Mod_init_101 : decode prog_8_method_1_code 101 = .ok (.newarray .int, 2) := by decide +kernel
theorem d_Mod_init_103 : decode prog_8_method_1_code 103 = .ok (.putfield 48, 3) := by decide +kernel
theorem d_Mod_init_106 : decode prog_8_method_1_code 106 = .ok (.aload_n 0, 1) := by decide +kernel
theorem d_Mod_init_107 : decode prog_8_method_1_code 107 = .ok (.bipush (61), 2) := by decide +kernel
theorem d_Mod_init_109 : decode prog_8_method_1_code 109 = .ok (.newarray .int, 2) := by decide +kernel
theorem d_Mod_init_111 : decode prog_8_method_1_code 111 = .ok (.putfield 51, 3) := by decide +kernel
theorem d_Mod_init_114 : decode prog_8_method_1_code 114 = .ok (.aload_n 0, 1) := by decide +kernel
theorem d_Mod_init_115 : decode prog_8_method_1_code 115 = .ok (.bipush (61), 2) := by decide +kernel
theorem d_Mod_init_117 : decode prog_8_method_1_code 117 = .ok (.newarray .boolean, 2) := by decide +kernel
theorem d_Mod_init_119 : decode prog_8_method_1_code 119 = .ok (.putfield 54, 3) := by decide +kernel
theorem d_Mod_init_122 : decode prog_8_method_1_code 122 = .ok (.aload_n 0, 1) := by decide +kernel
theorem d_Mod_init_123 : decode prog_8_method_1_code 123 = .ok (.bipush (61), 2) := by decide +kernel
theorem d_Mod_init_125 : decode prog_8_method_1_code 125 = .ok (.newarray .int, 2) := by decide +kernel
theorem d_Mod_init_127 : decode prog_8_method_1_code 127 = .ok (.putfield 57, 3) := by decide +kernel
theorem d_Mod_init_130 : decode prog_8_method_1_code 130 = .ok (.aload_n 0, 1) := by decide +kernel
theorem d_Mod_init_131 : decode prog_8_method_1_code 131 = .ok (.bipush (61), 2) := by decide +kernel
theorem d_Mod_init_133 : decode prog_8_method_1_code 133 = .ok (.newarray .int, 2) := by decide +kernel
theorem d_Mod_init_135 : decode prog_8_method_1_code 135 = .ok (.putfield 60, 3) := by decide +kernel
theorem d_Mod_init_138 : decode prog_8_method_1_code 138 = .ok (.aload_n 0, 1) := by decide +kernel
theorem d_Mod_init_139 : decode prog_8_method_1_code 139 = .ok (.sipush (600), 3) := by decide +kernel
theorem d_Mod_init_142 : decode prog_8_method_1_code 142 = .ok (.newarray .int, 2) := by decide +kernel
theorem d_Mod_init_144 : decode prog_8_method_1_code 144 = .ok (.putfield 63, 3) := by decide +kernel
theorem d_Mod_init_147 : decode prog_8_method_1_code 147 = .ok (.iconst 0, 1) := by decide +kernel
theorem d_Mod_init_148 : decode prog_8_method_1_code 148 = .ok (.istore_n 1, 1) := by decide +kernel
theorem d_Mod_init_149 : decode prog_8_method_1_code 149 = .ok (.iload_n 1, 1) := by decide +kernel
theorem d_Mod_init_150 : decode prog_8_method_1_code 150 = .ok (.bipush (40), 2) := by decide +kernel
theorem d_Mod_init_152 : decode prog_8_method_1_code 152 = .ok (.if_icmp .ge (23), 3) := by decide +kernel
theorem d_Mod_init_155 : decode prog_8_method_1_code 155 = .ok (.aload_n 0, 1) := by decide +kernel
theorem d_Mod_init_156 : decode prog_8_method_1_code 156 = .ok (.getfield 19, 3) := by decide +kernel
theorem d_Mod_init_159 : decode prog_8_method_1_code 159 = .ok (.iload_n 1, 1) := by decide +kernel
theorem d_Mod_init_160 : decode prog_8_method_1_code 160 = .ok (.iconst (-1), 1) := by decide +kernel
theorem d_Mod_init_161 : decode prog_8_method_1_code 161 = .ok (.iastore, 1) := by decide +kernel
theorem d_Mod_init_162 : decode prog_8_method_1_code 162 = .ok (.aload_n 0, 1) := by decide +kernel
theorem d_Mod_init_163 : decode prog_8_method_1_code 163 = .ok (.getfield 22, 3) := by decide +kernel
theorem d_Mod_init_166 : decode prog_8_method_1_code 166 = .ok (.iload_n 1, 1) := by decide +kernel
theorem d_Mod_init_167 : decode prog_8_method_1_code 167 = .ok (.iconst (-1), 1) := by decide +kernel
theorem d_Mod_init_168 : decode prog_8_method_1_code 168 = .ok (.iastore, 1) := by decide +kernel
theorem d_Mod_init_169 : decode prog_8_method_1_code 169 = .ok (.iinc 1 (1), 3) := by decide +kernel
theorem d_Mod_init_172 : decode prog_8_method_1_code 172 = .ok (.goto (-23), 3) := by decide +kernel
theorem d_Mod_init_175 : decode prog_8_method_1_code 175 = .ok (.aload_n 0, 1) := by decide +kernel
theorem d_Mod_init_176 : decode prog_8_method_1_code 176 = .ok (.iconst 0, 1) := by decide +kernel
theorem d_Mod_init_177 : decode prog_8_method_1_code 177 = .ok (.iconst 1, 1) := by decide +kernel
theorem d_Mod_init_178 : decode prog_8_method_1_code 178 = .ok (.iconst 0, 1) := by decide +kernel
theorem d_Mod_init_179 : decode prog_8_method_1_code 179 = .ok (.bipush (8), 2) := by decide +kernel
theorem d_Mod_init_181 : decode prog_8_method_1_code 181 = .ok (.invokevirtual 66, 3) := by decide +kernel
theorem d_Mod_init_184 : decode prog_8_method_1_code 184 = .ok (.aload_n 0, 1) := by decide +kernel
theorem d_Mod_init_185 : decode prog_8_method_1_code 185 = .ok (.iconst 1, 1) := by decide +kernel
theorem d_Mod_init_186 : decode prog_8_method_1_code 186 = .ok (.iconst 2, 1) := by decide +kernel
theorem d_Mod_init_187 : decode prog_8_method_1_code 187 = .ok (.iconst 0, 1) := by decide +kernel
theorem d_Mod_init_188 : decode prog_8_method_1_code 188 = .ok (.bipush (8), 2) := by decide +kernel
theorem d_Mod_init_190 : decode prog_8_method_1_code 190 = .ok (.invokevirtual 66, 3) := by decide +kernel
theorem d_Mod_init_193 : decode prog_8_method_1_code 193 = .ok (.aload_n 0, 1) := by decide +kernel
theorem d_Mod_init_194 : decode prog_8_method_1_code 194 = .ok (.iconst 2, 1) := by decide +kernel
theorem d_Mod_init_195 : decode prog_8_method_1_code 195 = .ok (.iconst 2, 1) := by decide +kernel
theorem d_Mod_init_196 : decode prog_8_method_1_code 196 = .ok (.iconst 1, 1) := by decide +kernel
theorem d_Mod_init_197 : decode prog_8_method_1_code 197 = .ok (.iconst 5, 1) := by decide +kernel
theorem d_Mod_init_198 : decode prog_8_method_1_code 198 = .ok (.invokevirtual 66, 3) := by decide +kernel
theorem d_Mod_init_201 : decode prog_8_method_1_code 201 = .ok (.aload_n 0, 1) := by decide +kernel
theorem d_Mod_init_202 : decode prog_8_method_1_code 202 = .ok (.getfield 19, 3) := by decide +kernel
theorem d_Mod_init_205 : decode prog_8_method_1_code 205 = .ok (.iconst 1, 1) := by decide +kernel
theorem d_Mod_init_206 : decode prog_8_method_1_code 206 = .ok (.iconst 2, 1) := by decide +kernel
theorem d_Mod_init_207 : decode prog_8_method_1_code 207 = .ok (.iastore, 1) := by decide +kernel
theorem d_Mod_init_208 : decode prog_8_method_1_code 208 = .ok (.aload_n 0, 1) := by decide +kernel
theorem d_Mod_init_209 : decode prog_8_method_1_code 209 = .ok (.getfield 22, 3) := by decide +kernel
theorem d_Mod_init_212 : decode prog_8_method_1_code 212 = .ok (.iconst 2, 1) := by decide +kernel
theorem d_Mod_init_213 : decode prog_8_method_1_code 213 = .ok (.iconst 1, 1) := by decide +kernel
theorem d_Mod_init_214 : decode prog_8_method_1_code 214 = .ok (.iastore, 1) := by decide +kernel
theorem d_Mod_init_215 : decode prog_8_method_1_code 215 = .ok (.aload_n 0, 1) := by decide +kernel
theorem d_Mod_init_216 : decode prog_8_method_1_code 216 = .ok (.getfield 25, 3) := by decide +kernel
theorem d_Mod_init_219 : decode prog_8_method_1_code 219 = .ok (.iconst 2, 1) := by decide +kernel
theorem d_Mod_init_220 : decode prog_8_method_1_code 220 = .ok (.iconst 1, 1) := by decide +kernel
theorem d_Mod_init_221 : decode prog_8_method_1_code 221 = .ok (.iastore, 1) := by decide +kernel
theorem d_Mod_init_222 : decode prog_8_method_1_code 222 = .ok (.aload_n 0, 1) := by decide +kernel
theorem d_Mod_init_223 : decode prog_8_method_1_code 223 = .ok (.getfield 25, 3) := by decide +kernel
theorem d_Mod_init_226 : decode prog_8_method_1_code 226 = .ok (.bipush (11), 2) := by decide +kernel
theorem d_Mod_init_228 : decode prog_8_method_1_code 228 = .ok (.iconst 2, 1) := by decide +kernel
theorem d_Mod_init_229 : decode prog_8_method_1_code 229 = .ok (.iastore, 1) := by decide +kernel
theorem d_Mod_init_230 : decode prog_8_method_1_code 230 = .ok (.iconst 3, 1) := by decide +kernel
theorem d_Mod_init_231 : decode prog_8_method_1_code 231 = .ok (.istore_n 1, 1) := by decide +kernel
theorem d_Mod_init_232 : decode prog_8_method_1_code 232 = .ok (.iload_n 1, 1) := by decide +kernel
theorem d_Mod_init_233 : decode prog_8_method_1_code 233 = .ok (.bipush (40), 2) := by decide +kernel
theorem d_Mod_init_235 : decode prog_8_method_1_code 235 = .ok (.if_icmp .ge (40), 3) := by decide +kernel
theorem d_Mod_init_238 : decode prog_8_method_1_code 238 = .ok (.aload_n 0, 1) := by decide +kernel
theorem d_Mod_init_239 : decode prog_8_method_1_code 239 = .ok (.getfield 25, 3) := by decide +kernel
theorem d_Mod_init_242 : decode prog_8_method_1_code 242 = .ok (.bipush (16), 2) := by decide +kernel
theorem d_Mod_init_244 : decode prog_8_method_1_code 244 = .ok (.iload_n 1, 1) := by decide +kernel
theorem d_Mod_init_245 : decode prog_8_method_1_code 245 = .ok (.bipush (8), 2) := by decide +kernel
theorem d_Mod_init_247 : decode prog_8_method_1_code 247 = .ok (.idiv, 1) := by decide +kernel
theorem d_Mod_init_248 : decode prog_8_method_1_code 248 = .ok (.iadd, 1) := by decide +kernel
theorem d_Mod_init_249 : decode prog_8_method_1_code 249 = .ok (.aload_n 0, 1) := by decide +kernel
theorem d_Mod_init_250 : decode prog_8_method_1_code 250 = .ok (.getfield 25, 3) := by decide +kernel
theorem d_Mod_init_253 : decode prog_8_method_1_code 253 = .ok (.bipush (16), 2) := by decide +kernel
theorem d_Mod_init_255 : decode prog_8_method_1_code 255 = .ok (.iload_n 1, 1) := by decide +kernel
theorem d_Mod_init_256 : decode prog_8_method_1_code 256 = .ok (.bipush (8), 2) := by decide +kernel
theorem d_Mod_init_258 : decode prog_8_method_1_code 258 = .ok (.idiv, 1) := by decide +kernel
theorem d_Mod_init_259 : decode prog_8_method_1_code 259 = .ok (.iadd, 1) := by decide +kernel
theorem d_Mod_init_260 : decode prog_8_method_1_code 260 = .ok (.iaload, 1) := by decide +kernel
theorem d_Mod_init_261 : decode prog_8_method_1_code 261 = .ok (.iconst 1, 1) := by decide +kernel
theorem d_Mod_init_262 : decode prog_8_method_1_code 262 = .ok (.iload_n 1, 1) := by decide +kernel
theorem d_Mod_init_263 : decode prog_8_method_1_code 263 = .ok (.bipush (8), 2) := by decide +kernel
theorem d_Mod_init_265 : decode prog_8_method_1_code 265 = .ok (.irem, 1) := by decide +kernel
theorem d_Mod_init_266 : decode prog_8_method_1_code 266 = .ok (.ishl, 1) := by decide +kernel
theorem d_Mod_init_267 : decode prog_8_method_1_code 267 = .ok (.iadd, 1) := by decide +kernel
theorem d_Mod_init_268 : decode prog_8_method_1_code 268 = .ok (.iastore, 1) := by decide +kernel
theorem d_Mod_init_269 : decode prog_8_method_1_code 269 = .ok (.iinc 1 (1), 3) := by decide +kernel
theorem d_Mod_init_272 : decode prog_8_method_1_code 272 = .ok (.goto (-40), 3) := by decide +kernel
theorem d_Mod_init_275 : decode prog_8_method_1_code 275 = .ok (.return_, 1) := by decide +kernel
theorem d_Mod_thrown_0 : decode prog_8_method_2_code 0 = .ok (.aload_n 0, 1) := by decide +kernel
theorem d_Mod_thrown_1 : decode prog_8_method_2_code 1 = .ok (.getfield 70, 3) := by decide +kernel
theorem d_Mod_thrown_4 : decode prog_8_method_2_code 4 = .ok (.ireturn, 1) := by decide +kernel
theorem d_Mod_label0_0 : decode prog_8_method_3_code 0 = .ok (.aload_n 0, 1) := by decide +kernel
theorem d_Mod_label0_1 : decode prog_8_method_3_code 1 = .ok (.getfield 7, 3) := by decide +kernel
theorem d_Mod_label0_4 : decode prog_8_method_3_code 4 = .ok (.iload_n 1, 1) := by decide +kernel
theorem d_Mod_label0_5 : decode prog_8_method_3_code 5 = .ok (.iload_n 2, 1) := by decide +kernel
theorem d_Mod_label0_6 : decode prog_8_method_3_code 6 = .ok (.iastore, 1) := by decide +kernel
theorem d_Mod_label0_7 : decode prog_8_method_3_code 7 = .ok (.aload_n 0, 1) := by decide +kernel
theorem d_Mod_label0_8 : decode prog_8_method_3_code 8 = .ok (.getfield 13, 3) := by decide +kernel
theorem d_Mod_label0_11 : decode prog_8_method_3_code 11 = .ok (.iload_n 1, 1) := by decide +kernel
theorem d_Mod_label0_12 : decode prog_8_method_3_code 12 = .ok (.iload_n 3, 1) := by decide +kernel
theorem d_Mod_label0_13 : decode prog_8_method_3_code 13 = .ok (.iastore, 1) := by decide +kernel
theorem d_Mod_label0_14 : decode prog_8_method_3_code 14 = .ok (.aload_n 0, 1) := by decide +kernel
theorem d_Mod_label0_15 : decode prog_8_method_3_code 15 = .ok (.getfield 16, 3) := by decide +kernel
theorem d_Mod_label0_18 : decode prog_8_method_3_code 18 = .ok (.iload_n 1, 1) := by decide +kernel
theorem d_Mod_label0_19 : decode prog_8_method_3_code 19 = .ok (.iload 4, 2) := by decide +kernel
theorem d_Mod_label0_21 : decode prog_8_method_3_code 21 = .ok (.iastore, 1) := by decide +kernel
theorem d_Mod_label0_22 : decode prog_8_method_3_code 22 = .ok (.return_, 1) := by decide +kernel
theorem d_Mod_in_0 : decode prog_8_method_4_code 0 = .ok (.iload_n 0, 1) := by decide +kernel
theorem d_Mod_in_1 : decode prog_8_method_4_code 1 = .ok (.iload_n 1, 1) := by decide +kernel
theorem d_Mod_in_2 : decode prog_8_method_4_code 2 = .ok (.if_icmp .lt (12), 3) := by decide +kernel
theorem d_Mod_in_5 : decode prog_8_method_4_code 5 = .ok (.iload_n 0, 1) := by decide +kernel
theorem d_Mod_in_6 : decode prog_8_method_4_code 6 = .ok (.iload_n 2, 1) := by decide +kernel
theorem d_Mod_in_7 : decode prog_8_method_4_code 7 = .ok (.if_icmp .gt (7), 3) := by decide +kernel
theorem d_Mod_in_10 : decode prog_8_method_4_code 10 = .ok (.iconst 1, 1) := by decide +kernel
theorem d_Mod_in_11 : decode prog_8_method_4_code 11 = .ok (.goto (4), 3) := by decide +kernel
theorem d_Mod_in_14 : decode prog_8_method_4_code 14 = .ok (.iconst 0, 1) := by decide +kernel
theorem d_Mod_in_15 : decode prog_8_method_4_code 15 = .ok (.ireturn, 1) := by decide +kernel
theorem d_Mod_isFree_0 : decode prog_8_method_5_code 0 = .ok (.aload_n 0, 1) := by decide +kernel
theorem d_Mod_isFree_1 : decode prog_8_method_5_code 1 = .ok (.getfield 28, 3) := by decide +kernel
theorem d_Mod_isFree_4 : decode prog_8_method_5_code 4 = .ok (.iload_n 1, 1) := by decide +kernel
theorem d_Mod_isFree_5 : decode prog_8_method_5_code 5 = .ok (.baload, 1) := by decide +kernel
theorem d_Mod_isFree_6 : decode prog_8_method_5_code 6 = .ok (.ifCond .ne (16), 3) := by decide +kernel
theorem d_Mod_isFree_9 : decode prog_8_method_5_code 9 = .ok (.aload_n 0, 1) := by decide +kernel
theorem d_Mod_isFree_10 : decode prog_8_method_5_code 10 = .ok (.getfield 7, 3) := by decide +kernel
theorem d_Mod_isFree_13 : decode prog_8_method_5_code 13 = .ok (.iload_n 1, 1) := by decide +kernel
theorem d_Mod_isFree_14 : decode prog_8_method_5_code 14 = .ok (.iaload, 1) := by decide +kernel
theorem d_Mod_isFree_15 : decode prog_8_method_5_code 15 = .ok (.ifCond .ne (7), 3) := by decide +kernel
theorem d_Mod_isFree_18 : decode prog_8_method_5_code 18 = .ok (.iconst 1, 1) := by decide +kernel
theorem d_Mod_isFree_19 : decode prog_8_method_5_code 19 = .ok (.goto (4), 3) := by decide +kernel
theorem d_Mod_isFree_22 : decode prog_8_method_5_code 22 = .ok (.iconst 0, 1) := by decide +kernel
theorem d_Mod_isFree_23 : decode prog_8_method_5_code 23 = .ok (.ireturn, 1) := by decide +kernel
theorem d_Mod_says_0 : decode prog_8_method_6_code 0 = .ok (.iload_n 1, 1) := by decide +kernel
theorem d_Mod_says_1 : decode prog_8_method_6_code 1 = .ok (.iconst 0, 1) := by decide +kernel
theorem d_Mod_says_2 : decode prog_8_method_6_code 2 = .ok (.bipush (39), 2) := by decide +kernel
theorem d_Mod_says_4 : decode prog_8_method_6_code 4 = .ok (.invokestatic 73, 3) := by decide +kernel
theorem d_Mod_says_7 : decode prog_8_method_6_code 7 = .ok (.ifCond .eq (36), 3) := by decide +kernel
theorem d_Mod_says_10 : decode prog_8_method_6_code 10 = .ok (.aload_n 0, 1) := by decide +kernel
theorem d_Mod_says_11 : decode prog_8_method_6_code 11 = .ok (.getfield 28, 3) := by decide +kernel
theorem d_Mod_says_14 : decode prog_8_method_6_code 14 = .ok (.iload_n 1, 1) := by decide +kernel
theorem d_Mod_says_15 : decode prog_8_method_6_code 15 = .ok (.baload, 1) := by decide +kernel
theorem d_Mod_says_16 : decode prog_8_method_6_code 16 = .ok (.ifCond .ne (27), 3) := by decide +kernel
theorem d_Mod_says_19 : decode prog_8_method_6_code 19 = .ok (.aload_n 0, 1) := by decide +kernel
theorem d_Mod_says_20 : decode prog_8_method_6_code 20 = .ok (.getfield 7, 3) := by decide +kernel
theorem d_Mod_says_23 : decode prog_8_method_6_code 23 = .ok (.iload_n 1, 1) := by decide +kernel
theorem d_Mod_says_24 : decode prog_8_method_6_code 24 = .ok (.iaload, 1) := by decide +kernel
theorem d_Mod_says_25 : decode prog_8_method_6_code 25 = .ok (.iload_n 2, 1) := by decide +kernel
theorem d_Mod_says_26 : decode prog_8_method_6_code 26 = .ok (.if_icmp .ne (17), 3) := by decide +kernel
theorem d_Mod_says_29 : decode prog_8_method_6_code 29 = .ok (.aload_n 0, 1) := by decide +kernel
theorem d_Mod_says_30 : decode prog_8_method_6_code 30 = .ok (.getfield 13, 3) := by decide +kernel
theorem d_Mod_says_33 : decode prog_8_method_6_code 33 = .ok (.iload_n 1, 1) := by decide +kernel
theorem d_Mod_says_34 : decode prog_8_method_6_code 34 = .ok (.iaload, 1) := by decide +kernel
theorem d_Mod_says_35 : decode prog_8_method_6_code 35 = .ok (.iload_n 3, 1) := by decide +kernel
theorem d_Mod_says_36 : decode prog_8_method_6_code 36 = .ok (.if_icmp .ne (7), 3) := by decide +kernel
theorem d_Mod_says_39 : decode prog_8_method_6_code 39 = .ok (.iconst 1, 1) := by decide +kernel
theorem d_Mod_says_40 : decode prog_8_method_6_code 40 = .ok (.goto (4), 3) := by decide +kernel
theorem d_Mod_says_43 : decode prog_8_method_6_code 43 = .ok (.iconst 0, 1) := by decide +kernel
theorem d_Mod_says_44 : decode prog_8_method_6_code 44 = .ok (.ireturn, 1) := by decide +kernel
theorem d_Mod_look_0 : decode prog_8_method_7_code 0 = .ok (.aload_n 0, 1) := by decide +kernel
theorem d_Mod_look_1 : decode prog_8_method_7_code 1 = .ok (.iload_n 1, 1) := by decide +kernel
theorem d_Mod_look_2 : decode prog_8_method_7_code 2 = .ok (.iload_n 2, 1) := by decide +kernel
theorem d_Mod_look_3 : decode prog_8_method_7_code 3 = .ok (.iload_n 3, 1) := by decide +kernel
theorem d_Mod_look_4 : decode prog_8_method_7_code 4 = .ok (.invokevirtual 77, 3) := by decide +kernel
theorem d_Mod_look_7 : decode prog_8_method_7_code 7 = .ok (.istore 4, 2) := by decide +kernel
theorem d_Mod_look_9 : decode prog_8_method_7_code 9 = .ok (.aload_n 0, 1) := by decide +kernel
theorem d_Mod_look_10 : decode prog_8_method_7_code 10 = .ok (.iload 4, 2) := by decide +kernel
theorem d_Mod_look_12 : decode prog_8_method_7_code 12 = .ok (.ifCond .eq (10), 3) := by decide +kernel
theorem d_Mod_look_15 : decode prog_8_method_7_code 15 = .ok (.aload_n 0, 1) := by decide +kernel
theorem d_Mod_look_16 : decode prog_8_method_7_code 16 = .ok (.getfield 80, 3) := by decide +kernel
theorem d_Mod_look_19 : decode prog_8_method_7_code 19 = .ok (.goto (9), 3) := by decide +kernel
theorem d_Mod_look_22 : decode prog_8_method_7_code 22 = .ok (.aload_n 0, 1) := by decide +kernel
theorem d_Mod_look_23 : decode prog_8_method_7_code 23 = .ok (.getfield 80, 3) := by decide +kernel
theorem d_Mod_look_26 : decode prog_8_method_7_code 26 = .ok (.iconst 1, 1) := by decide +kernel
theorem d_Mod_look_27 : decode prog_8_method_7_code 27 = .ok (.iadd, 1) := by decide +kernel
theorem d_Mod_look_28 : decode prog_8_method_7_code 28 = .ok (.putfield 80, 3) := by decide +kernel
theorem d_Mod_look_31 : decode prog_8_method_7_code 31 = .ok (.iload 4, 2) := by decide +kernel
theorem d_Mod_look_33 : decode prog_8_method_7_code 33 = .ok (.ireturn, 1) := by decide +kernel
theorem d_Mod_search_0 : decode prog_8_method_8_code 0 = .ok (.iconst (-1), 1) := by decide +kernel
theorem d_Mod_search_1 : decode prog_8_method_8_code 1 = .ok (.istore_n 3, 1) := by decide +kernel
theorem d_Mod_search_2 : decode prog_8_method_8_code 2 = .ok (.bipush (39), 2) := by decide +kernel
theorem d_Mod_search_4 : decode prog_8_method_8_code 4 = .ok (.istore 4, 2) := by decide +kernel
theorem d_Mod_search_6 : decode prog_8_method_8_code 6 = .ok (.iload 4, 2) := by decide +kernel
theorem d_Mod_search_8 : decode prog_8_method_8_code 8 = .ok (.ifCond .lt (27), 3) := by decide +kernel
theorem d_Mod_search_11 : decode prog_8_method_8_code 11 = .ok (.aload_n 0, 1) := by decide +kernel
theorem d_Mod_search_12 : decode prog_8_method_8_code 12 = .ok (.iload 4, 2) := by decide +kernel
theorem d_Mod_search_14 : decode prog_8_method_8_code 14 = .ok (.iload_n 1, 1) := by decide +kernel
theorem d_Mod_search_15 : decode prog_8_method_8_code 15 = .ok (.iload_n 2, 1) := by decide +kernel
theorem d_Mod_search_16 : decode prog_8_method_8_code 16 = .ok (.invokevirtual 77, 3) := by decide +kernel
theorem d_Mod_search_19 : decode prog_8_method_8_code 19 = .ok (.ifCond .eq (8), 3) := by decide +kernel
theorem d_Mod_search_22 : decode prog_8_method_8_code 22 = .ok (.iload 4, 2) := by decide +kernel
theorem d_Mod_search_24 : decode prog_8_method_8_code 24 = .ok (.goto (4), 3) := by decide +kernel
theorem d_Mod_search_27 : decode prog_8_method_8_code 27 = .ok (.iload_n 3, 1) := by decide +kernel
theorem d_Mod_search_28 : decode prog_8_method_8_code 28 = .ok (.istore_n 3, 1) := by decide +kernel
theorem d_Mod_search_29 : decode prog_8_method_8_code 29 = .ok (.iinc 4 (-1), 3) := by decide +kernel
theorem d_Mod_search_32 : decode prog_8_method_8_code 32 = .ok (.goto (-26), 3) := by decide +kernel
theorem d_Mod_search_35 : decode prog_8_method_8_code 35 = .ok (.iload_n 3, 1) := by decide +kernel
theorem d_Mod_search_36 : decode prog_8_method_8_code 36 = .ok (.ireturn, 1) := by decide +kernel
theorem d_Mod_leader_0 : decode prog_8_method_9_code 0 = .ok (.iload_n 1, 1) := by decide +kernel
theorem d_Mod_leader_1 : decode prog_8_method_9_code 1 = .ok (.iconst 1, 1) := by decide +kernel
theorem d_Mod_leader_2 : decode prog_8_method_9_code 2 = .ok (.bipush (60), 2) := by decide +kernel
theorem d_Mod_leader_4 : decode prog_8_method_9_code 4 = .ok (.invokestatic 73, 3) := by decide +kernel
theorem d_Mod_leader_7 : decode prog_8_method_9_code 7 = .ok (.ifCond .ne (5), 3) := by decide +kernel
theorem d_Mod_leader_10 : decode prog_8_method_9_code 10 = .ok (.iconst (-1), 1) := by decide +kernel
theorem d_Mod_leader_11 : decode prog_8_method_9_code 11 = .ok (.ireturn, 1) := by decide +kernel
theorem d_Mod_leader_12 : decode prog_8_method_9_code 12 = .ok (.aload_n 0, 1) := by decide +kernel
theorem d_Mod_leader_13 : decode prog_8_method_9_code 13 = .ok (.getfield 32, 3) := by decide +kernel
theorem d_Mod_leader_16 : decode prog_8_method_9_code 16 = .ok (.iload_n 1, 1) := by decide +kernel
theorem d_Mod_leader_17 : decode prog_8_method_9_code 17 = .ok (.iaload, 1) := by decide +kernel
theorem d_Mod_leader_18 : decode prog_8_method_9_code 18 = .ok (.ifCond .le (29), 3) := by decide +kernel
theorem d_Mod_leader_21 : decode prog_8_method_9_code 21 = .ok (.aload_n 0, 1) := by decide +kernel
theorem d_Mod_leader_22 : decode prog_8_method_9_code 22 = .ok (.aload_n 0, 1) := by decide +kernel
theorem d_Mod_leader_23 : decode prog_8_method_9_code 23 = .ok (.getfield 32, 3) := by decide +kernel
theorem d_Mod_leader_26 : decode prog_8_method_9_code 26 = .ok (.iload_n 1, 1) := by decide +kernel
theorem d_Mod_leader_27 : decode prog_8_method_9_code 27 = .ok (.iaload, 1) := by decide +kernel
theorem d_Mod_leader_28 : decode prog_8_method_9_code 28 = .ok (.iconst 1, 1) := by decide +kernel
theorem d_Mod_leader_29 : decode prog_8_method_9_code 29 = .ok (.isub, 1) := by decide +kernel
theorem d_Mod_leader_30 : decode prog_8_method_9_code 30 = .ok (.iload_n 1, 1) := by decide +kernel
theorem d_Mod_leader_31 : decode prog_8_method_9_code 31 = .ok (.iconst 0, 1) := by decide +kernel
theorem d_Mod_leader_32 : decode prog_8_method_9_code 32 = .ok (.invokevirtual 83, 3) := by decide +kernel
theorem d_Mod_leader_35 : decode prog_8_method_9_code 35 = .ok (.ifCond .eq (12), 3) := by decide +kernel
theorem d_Mod_leader_38 : decode prog_8_method_9_code 38 = .ok (.aload_n 0, 1) := by decide +kernel
theorem d_Mod_leader_39 : decode prog_8_method_9_code 39 = .ok (.getfield 32, 3) := by decide +kernel
theorem d_Mod_leader_42 : decode prog_8_method_9_code 42 = .ok (.iload_n 1, 1) := by decide +kernel
theorem d_Mod_leader_43 : decode prog_8_method_9_code 43 = .ok (.iaload, 1) := by decide +kernel
theorem d_Mod_leader_44 : decode prog_8_method_9_code 44 = .ok (.iconst 1, 1) := by decide +kernel
theorem d_Mod_leader_45 : decode prog_8_method_9_code 45 = .ok (.isub, 1) := by decide +kernel
theorem d_Mod_leader_46 : decode prog_8_method_9_code 46 = .ok (.ireturn, 1) := by decide +kernel
theorem d_Mod_leader_47 : decode prog_8_method_9_code 47 = .ok (.aload_n 0, 1) := by decide +kernel
theorem d_Mod_leader_48 : decode prog_8_method_9_code 48 = .ok (.getfield 32, 3) := by decide +kernel
theorem d_Mod_leader_51 : decode prog_8_method_9_code 51 = .ok (.iload_n 1, 1) := by decide +kernel
theorem d_Mod_leader_52 : decode prog_8_method_9_code 52 = .ok (.aload_n 0, 1) := by decide +kernel
theorem d_Mod_leader_53 : decode prog_8_method_9_code 53 = .ok (.iload_n 1, 1) := by decide +kernel
theorem d_Mod_leader_54 : decode prog_8_method_9_code 54 = .ok (.iconst 0, 1) := by decide +kernel
theorem d_Mod_leader_55 : decode prog_8_method_9_code 55 = .ok (.invokevirtual 86, 3) := by decide +kernel
theorem d_Mod_leader_58 : decode prog_8_method_9_code 58 = .ok (.iconst 1, 1) := by decide +kernel
theorem d_Mod_leader_59 : decode prog_8_method_9_code 59 = .ok (.iadd, 1) := by decide +kernel
theorem d_Mod_leader_60 : decode prog_8_method_9_code 60 = .ok (.iastore, 1) := by decide +kernel
theorem d_Mod_leader_61 : decode prog_8_method_9_code 61 = .ok (.aload_n 0, 1) := by decide +kernel
theorem d_Mod_leader_62 : decode prog_8_method_9_code 62 = .ok (.getfield 32, 3) := by decide +kernel
theorem d_Mod_leader_65 : decode prog_8_method_9_code 65 = .ok (.iload_n 1, 1) := by decide +kernel
theorem d_Mod_leader_66 : decode prog_8_method_9_code 66 = .ok (.iaload, 1) := by decide +kernel
theorem d_Mod_leader_67 : decode prog_8_method_9_code 67 = .ok (.iconst 1, 1) := by decide +kernel
theorem d_Mod_leader_68 : decode prog_8_method_9_code 68 = .ok (.isub, 1) := by decide +kernel
theorem d_Mod_leader_69 : decode prog_8_method_9_code 69 = .ok (.ireturn, 1) := by decide +kernel
theorem d_Mod_beside_0 : decode prog_8_method_10_code 0 = .ok (.iload_n 2, 1) := by decide +kernel
theorem d_Mod_beside_1 : decode prog_8_method_10_code 1 = .ok (.ifCond .le (12), 3) := by decide +kernel
theorem d_Mod_beside_4 : decode prog_8_method_10_code 4 = .ok (.aload_n 0, 1) := by decide +kernel
theorem d_Mod_beside_5 : decode prog_8_method_10_code 5 = .ok (.getfield 19, 3) := by decide +kernel
theorem d_Mod_beside_8 : decode prog_8_method_10_code 8 = .ok (.iload_n 1, 1) := by decide +kernel
theorem d_Mod_beside_9 : decode prog_8_method_10_code 9 = .ok (.iaload, 1) := by decide +kernel
theorem d_Mod_beside_10 : decode prog_8_method_10_code 10 = .ok (.goto (9), 3) := by decide +kernel
theorem d_Mod_beside_13 : decode prog_8_method_10_code 13 = .ok (.aload_n 0, 1) := by decide +kernel
theorem d_Mod_beside_14 : decode prog_8_method_10_code 14 = .ok (.getfield 22, 3) := by decide +kernel
theorem d_Mod_beside_17 : decode prog_8_method_10_code 17 = .ok (.iload_n 1, 1) := by decide +kernel
theorem d_Mod_beside_18 : decode prog_8_method_10_code 18 = .ok (.iaload, 1) := by decide +kernel
theorem d_Mod_beside_19 : decode prog_8_method_10_code 19 = .ok (.istore_n 3, 1) := by decide +kernel
theorem d_Mod_beside_20 : decode prog_8_method_10_code 20 = .ok (.iload_n 3, 1) := by decide +kernel
theorem d_Mod_beside_21 : decode prog_8_method_10_code 21 = .ok (.ifCond .lt (27), 3) := by decide +kernel
theorem d_Mod_beside_24 : decode prog_8_method_10_code 24 = .ok (.aload_n 0, 1) := by decide +kernel
theorem d_Mod_beside_25 : decode prog_8_method_10_code 25 = .ok (.iload_n 3, 1) := by decide +kernel
theorem d_Mod_beside_26 : decode prog_8_method_10_code 26 = .ok (.aload_n 0, 1) := by decide +kernel
theorem d_Mod_beside_27 : decode prog_8_method_10_code 27 = .ok (.getfield 7, 3) := by decide +kernel
theorem d_Mod_beside_30 : decode prog_8_method_10_code 30 = .ok (.iload_n 1, 1) := by decide +kernel
theorem d_Mod_beside_31 : decode prog_8_method_10_code 31 = .ok (.iaload, 1) := by decide +kernel
theorem d_Mod_beside_32 : decode prog_8_method_10_code 32 = .ok (.aload_n 0, 1) := by decide +kernel
theorem d_Mod_beside_33 : decode prog_8_method_10_code 33 = .ok (.getfield 13, 3) := by decide +kernel
theorem d_Mod_beside_36 : decode prog_8_method_10_code 36 = .ok (.iload_n 1, 1) := by decide +kernel
theorem d_Mod_beside_37 : decode prog_8_method_10_code 37 = .ok (.iaload, 1) := by decide +kernel
theorem d_Mod_beside_38 : decode prog_8_method_10_code 38 = .ok (.iload_n 2, 1) := by decide +kernel
theorem d_Mod_beside_39 : decode prog_8_method_10_code 39 = .ok (.iadd, 1) := by decide +kernel
theorem d_Mod_beside_40 : decode prog_8_method_10_code 40 = .ok (.invokevirtual 83, 3) := by decide +kernel
theorem d_Mod_beside_43 : decode prog_8_method_10_code 43 = .ok (.ifCond .eq (5), 3) := by decide +kernel
theorem d_Mod_beside_46 : decode prog_8_method_10_code 46 = .ok (.iload_n 3, 1) := by decide +kernel
theorem d_Mod_beside_47 : decode prog_8_method_10_code 47 = .ok (.ireturn, 1) := by decide +kernel
theorem d_Mod_beside_48 : decode prog_8_method_10_code 48 = .ok (.aload_n 0, 1) := by decide +kernel
theorem d_Mod_beside_49 : decode prog_8_method_10_code 49 = .ok (.aload_n 0, 1) := by decide +kernel
theorem d_Mod_beside_50 : decode prog_8_method_10_code 50 = .ok (.getfield 7, 3) := by decide +kernel
theorem d_Mod_beside_53 : decode prog_8_method_10_code 53 = .ok (.iload_n 1, 1) := by decide +kernel
theorem d_Mod_beside_54 : decode prog_8_method_10_code 54 = .ok (.iaload, 1) := by decide +kernel
theorem d_Mod_beside_55 : decode prog_8_method_10_code 55 = .ok (.aload_n 0, 1) := by decide +kernel
theorem d_Mod_beside_56 : decode prog_8_method_10_code 56 = .ok (.getfield 13, 3) := by decide +kernel
theorem d_Mod_beside_59 : decode prog_8_method_10_code 59 = .ok (.iload_n 1, 1) := by decide +kernel
theorem d_Mod_beside_60 : decode prog_8_method_10_code 60 = .ok (.iaload, 1) := by decide +kernel
theorem d_Mod_beside_61 : decode prog_8_method_10_code 61 = .ok (.iload_n 2, 1) := by decide +kernel
theorem d_Mod_beside_62 : decode prog_8_method_10_code 62 = .ok (.iadd, 1) := by decide +kernel
theorem d_Mod_beside_63 : decode prog_8_method_10_code 63 = .ok (.invokevirtual 86, 3) := by decide +kernel
theorem d_Mod_beside_66 : decode prog_8_method_10_code 66 = .ok (.istore 4, 2) := by decide +kernel
theorem d_Mod_beside_68 : decode prog_8_method_10_code 68 = .ok (.aload_n 0, 1) := by decide +kernel
theorem d_Mod_beside_69 : decode prog_8_method_10_code 69 = .ok (.iload 4, 2) := by decide +kernel
theorem d_Mod_beside_71 : decode prog_8_method_10_code 71 = .ok (.ifCond .ge (7), 3) := by decide +kernel
theorem d_Mod_beside_74 : decode prog_8_method_10_code 74 = .ok (.iconst 4, 1) := by decide +kernel
theorem d_Mod_beside_75 : decode prog_8_method_10_code 75 = .ok (.goto (7), 3) := by decide +kernel
theorem d_Mod_beside_78 : decode prog_8_method_10_code 78 = .ok (.aload_n 0, 1) := by decide +kernel
theorem d_Mod_beside_79 : decode prog_8_method_10_code 79 = .ok (.getfield 90, 3) := by decide +kernel
theorem d_Mod_beside_82 : decode prog_8_method_10_code 82 = .ok (.putfield 90, 3) := by decide +kernel
theorem d_Mod_beside_85 : decode prog_8_method_10_code 85 = .ok (.iload 4, 2) := by decide +kernel
theorem d_Mod_beside_87 : decode prog_8_method_10_code 87 = .ok (.ireturn, 1) := by decide +kernel
theorem d_Mod_last_0 : decode prog_8_method_11_code 0 = .ok (.aload_n 0, 1) := by decide +kernel
theorem d_Mod_last_1 : decode prog_8_method_11_code 1 = .ok (.getfield 25, 3) := by decide +kernel
theorem d_Mod_last_4 : decode prog_8_method_11_code 4 = .ok (.bipush (8), 2) := by decide +kernel
theorem d_Mod_last_6 : decode prog_8_method_11_code 6 = .ok (.iload_n 1, 1) := by decide +kernel
theorem d_Mod_last_7 : decode prog_8_method_11_code 7 = .ok (.imul, 1) := by decide +kernel
theorem d_Mod_last_8 : decode prog_8_method_11_code 8 = .ok (.iconst 3, 1) := by decide +kernel
theorem d_Mod_last_9 : decode prog_8_method_11_code 9 = .ok (.iadd, 1) := by decide +kernel
theorem d_Mod_last_10 : decode prog_8_method_11_code 10 = .ok (.iaload, 1) := by decide +kernel
theorem d_Mod_last_11 : decode prog_8_method_11_code 11 = .ok (.istore_n 2, 1) := by decide +kernel
theorem d_Mod_last_12 : decode prog_8_method_11_code 12 = .ok (.iload_n 2, 1) := by decide +kernel
theorem d_Mod_last_13 : decode prog_8_method_11_code 13 = .ok (.bipush (40), 2) := by decide +kernel
theorem d_Mod_last_15 : decode prog_8_method_11_code 15 = .ok (.if_icmp .ge (39), 3) := by decide +kernel
theorem d_Mod_last_18 : decode prog_8_method_11_code 18 = .ok (.aload_n 0, 1) := by decide +kernel
theorem d_Mod_last_19 : decode prog_8_method_11_code 19 = .ok (.getfield 28, 3) := by decide +kernel
theorem d_Mod_last_22 : decode prog_8_method_11_code 22 = .ok (.iload_n 2, 1) := by decide +kernel
theorem d_Mod_last_23 : decode prog_8_method_11_code 23 = .ok (.baload, 1) := by decide +kernel
theorem d_Mod_last_24 : decode prog_8_method_11_code 24 = .ok (.ifCond .ne (30), 3) := by decide +kernel
theorem d_Mod_last_27 : decode prog_8_method_11_code 27 = .ok (.aload_n 0, 1) := by decide +kernel
theorem d_Mod_last_28 : decode prog_8_method_11_code 28 = .ok (.getfield 7, 3) := by decide +kernel
theorem d_Mod_last_31 : decode prog_8_method_11_code 31 = .ok (.iload_n 2, 1) := by decide +kernel
theorem d_Mod_last_32 : decode prog_8_method_11_code 32 = .ok (.iaload, 1) := by decide +kernel
theorem d_Mod_last_33 : decode prog_8_method_11_code 33 = .ok (.aload_n 0, 1) := by decide +kernel
theorem d_Mod_last_34 : decode prog_8_method_11_code 34 = .ok (.getfield 7, 3) := by decide +kernel
theorem d_Mod_last_37 : decode prog_8_method_11_code 37 = .ok (.iload_n 1, 1) := by decide +kernel
theorem d_Mod_last_38 : decode prog_8_method_11_code 38 = .ok (.iaload, 1) := by decide +kernel
theorem d_Mod_last_39 : decode prog_8_method_11_code 39 = .ok (.if_icmp .ne (15), 3) := by decide +kernel
theorem d_Mod_last_42 : decode prog_8_method_11_code 42 = .ok (.aload_n 0, 1) := by decide +kernel
theorem d_Mod_last_43 : decode prog_8_method_11_code 43 = .ok (.getfield 19, 3) := by decide +kernel
theorem d_Mod_last_46 : decode prog_8_method_11_code 46 = .ok (.iload_n 2, 1) := by decide +kernel
theorem d_Mod_last_47 : decode prog_8_method_11_code 47 = .ok (.iaload, 1) := by decide +kernel
theorem d_Mod_last_48 : decode prog_8_method_11_code 48 = .ok (.iconst (-1), 1) := by decide +kernel
theorem d_Mod_last_49 : decode prog_8_method_11_code 49 = .ok (.if_icmp .ne (5), 3) := by decide +kernel
theorem d_Mod_last_52 : decode prog_8_method_11_code 52 = .ok (.iload_n 2, 1) := by decide +kernel
theorem d_Mod_last_53 : decode prog_8_method_11_code 53 = .ok (.ireturn, 1) := by decide +kernel
theorem d_Mod_last_54 : decode prog_8_method_11_code 54 = .ok (.aload_n 0, 1) := by decide +kernel
theorem d_Mod_last_55 : decode prog_8_method_11_code 55 = .ok (.aload_n 0, 1) := by decide +kernel
theorem d_Mod_last_56 : decode prog_8_method_11_code 56 = .ok (.getfield 80, 3) := by decide +kernel
theorem d_Mod_last_59 : decode prog_8_method_11_code 59 = .ok (.iconst 1, 1) := by decide +kernel
theorem d_Mod_last_60 : decode prog_8_method_11_code 60 = .ok (.iadd, 1) := by decide +kernel
theorem d_Mod_last_61 : decode prog_8_method_11_code 61 = .ok (.putfield 80, 3) := by decide +kernel
theorem d_Mod_last_64 : decode prog_8_method_11_code 64 = .ok (.iload_n 1, 1) := by decide +kernel
theorem d_Mod_last_65 : decode prog_8_method_11_code 65 = .ok (.istore_n 3, 1) := by decide +kernel
theorem d_Mod_last_66 : decode prog_8_method_11_code 66 = .ok (.iconst 0, 1) := by decide +kernel
theorem d_Mod_last_67 : decode prog_8_method_11_code 67 = .ok (.istore 4, 2) := by decide +kernel
theorem d_Mod_last_69 : decode prog_8_method_11_code 69 = .ok (.iload 4, 2) := by decide +kernel
theorem d_Mod_last_71 : decode prog_8_method_11_code 71 = .ok (.bipush (50), 2) := by decide +kernel
theorem d_Mod_last_73 : decode prog_8_method_11_code 73 = .ok (.if_icmp .ge (29), 3) := by decide +kernel
theorem d_Mod_last_76 : decode prog_8_method_11_code 76 = .ok (.iload_n 3, 1) := by decide +kernel
theorem d_Mod_last_77 : decode prog_8_method_11_code 77 = .ok (.ifCond .lt (25), 3) := by decide +kernel
theorem d_Mod_last_80 : decode prog_8_method_11_code 80 = .ok (.aload_n 0, 1) := by decide +kernel
theorem d_Mod_last_81 : decode prog_8_method_11_code 81 = .ok (.getfield 19, 3) := by decide +kernel
theorem d_Mod_last_84 : decode prog_8_method_11_code 84 = .ok (.iload_n 3, 1) := by decide +kernel
theorem d_Mod_last_85 : decode prog_8_method_11_code 85 = .ok (.iaload, 1) := by decide +kernel
theorem d_Mod_last_86 : decode prog_8_method_11_code 86 = .ok (.ifCond .lt (16), 3) := by decide +kernel
theorem d_Mod_last_89 : decode prog_8_method_11_code 89 = .ok (.aload_n 0, 1) := by decide +kernel
theorem d_Mod_last_90 : decode prog_8_method_11_code 90 = .ok (.iload_n 3, 1) := by decide +kernel
theorem d_Mod_last_91 : decode prog_8_method_11_code 91 = .ok (.iconst 1, 1) := by decide +kernel
theorem d_Mod_last_92 : decode prog_8_method_11_code 92 = .ok (.invokevirtual 93, 3) := by decide +kernel
theorem d_Mod_last_95 : decode prog_8_method_11_code 95 = .ok (.istore_n 3, 1) := by decide +kernel
theorem d_Mod_last_96 : decode prog_8_method_11_code 96 = .ok (.iinc 4 (1), 3) := by decide +kernel
theorem d_Mod_last_99 : decode prog_8_method_11_code 99 = .ok (.goto (-30), 3) := by decide +kernel
theorem d_Mod_last_102 : decode prog_8_method_11_code 102 = .ok (.iload_n 3, 1) := by decide +kernel
theorem d_Mod_last_103 : decode prog_8_method_11_code 103 = .ok (.ireturn, 1) := by decide +kernel
theorem d_Mod_lengthAt_0 : decode prog_8_method_12_code 0 = .ok (.aload_n 0, 1) := by decide +kernel
theorem d_Mod_lengthAt_1 : decode prog_8_method_12_code 1 = .ok (.getfield 13, 3) := by decide +kernel
theorem d_Mod_lengthAt_4 : decode prog_8_method_12_code 4 = .ok (.iload_n 1, 1) := by decide +kernel
theorem d_Mod_lengthAt_5 : decode prog_8_method_12_code 5 = .ok (.iaload, 1) := by decide +kernel
theorem d_Mod_lengthAt_6 : decode prog_8_method_12_code 6 = .ok (.ifCond .ne (7), 3) := by decide +kernel
theorem d_Mod_lengthAt_9 : decode prog_8_method_12_code 9 = .ok (.iconst 0, 1) := by decide +kernel
theorem d_Mod_lengthAt_10 : decode prog_8_method_12_code 10 = .ok (.goto (21), 3) := by decide +kernel
theorem d_Mod_lengthAt_13 : decode prog_8_method_12_code 13 = .ok (.bipush (8), 2) := by decide +kernel
theorem d_Mod_lengthAt_15 : decode prog_8_method_12_code 15 = .ok (.aload_n 0, 1) := by decide +kernel
theorem d_Mod_lengthAt_16 : decode prog_8_method_12_code 16 = .ok (.getfield 13, 3) := by decide +kernel
theorem d_Mod_lengthAt_19 : decode prog_8_method_12_code 19 = .ok (.iload_n 1, 1) := by decide +kernel
theorem d_Mod_lengthAt_20 : decode prog_8_method_12_code 20 = .ok (.iaload, 1) := by decide +kernel
theorem d_Mod_lengthAt_21 : decode prog_8_method_12_code 21 = .ok (.iconst 1, 1) := by decide +kernel
theorem d_Mod_lengthAt_22 : decode prog_8_method_12_code 22 = .ok (.isub, 1) := by decide +kernel
theorem d_Mod_lengthAt_23 : decode prog_8_method_12_code 23 = .ok (.imul, 1) := by decide +kernel
theorem d_Mod_lengthAt_24 : decode prog_8_method_12_code 24 = .ok (.aload_n 0, 1) := by decide +kernel
theorem d_Mod_lengthAt_25 : decode prog_8_method_12_code 25 = .ok (.getfield 16, 3) := by decide +kernel
theorem d_Mod_lengthAt_28 : decode prog_8_method_12_code 28 = .ok (.iload_n 1, 1) := by decide +kernel
theorem d_Mod_lengthAt_29 : decode prog_8_method_12_code 29 = .ok (.iaload, 1) := by decide +kernel
theorem d_Mod_lengthAt_30 : decode prog_8_method_12_code 30 = .ok (.iadd, 1) := by decide +kernel
theorem d_Mod_lengthAt_31 : decode prog_8_method_12_code 31 = .ok (.ireturn, 1) := by decide +kernel
theorem d_Mod_pageOf_0 : decode prog_8_method_13_code 0 = .ok (.aload_n 0, 1) := by decide +kernel
theorem d_Mod_pageOf_1 : decode prog_8_method_13_code 1 = .ok (.getfield 13, 3) := by decide +kernel
theorem d_Mod_pageOf_4 : decode prog_8_method_13_code 4 = .ok (.iload_n 2, 1) := by decide +kernel
theorem d_Mod_pageOf_5 : decode prog_8_method_13_code 5 = .ok (.iaload, 1) := by decide +kernel
theorem d_Mod_pageOf_6 : decode prog_8_method_13_code 6 = .ok (.iload_n 3, 1) := by decide +kernel
theorem d_Mod_pageOf_7 : decode prog_8_method_13_code 7 = .ok (.if_icmp .ne (5), 3) := by decide +kernel
theorem d_Mod_pageOf_10 : decode prog_8_method_13_code 10 = .ok (.iload_n 2, 1) := by decide +kernel
theorem d_Mod_pageOf_11 : decode prog_8_method_13_code 11 = .ok (.ireturn, 1) := by decide +kernel
theorem d_Mod_pageOf_12 : decode prog_8_method_13_code 12 = .ok (.iload_n 1, 1) := by decide +kernel
theorem d_Mod_pageOf_13 : decode prog_8_method_13_code 13 = .ok (.istore 4, 2) := by decide +kernel
theorem d_Mod_pageOf_15 : decode prog_8_method_13_code 15 = .ok (.iconst 0, 1) := by decide +kernel
theorem d_Mod_pageOf_16 : decode prog_8_method_13_code 16 = .ok (.istore 5, 2) := by decide +kernel
theorem d_Mod_pageOf_18 : decode prog_8_method_13_code 18 = .ok (.iload 5, 2) := by decide +kernel
theorem d_Mod_pageOf_20 : decode prog_8_method_13_code 20 = .ok (.iload_n 3, 1) := by decide +kernel
theorem d_Mod_pageOf_21 : decode prog_8_method_13_code 21 = .ok (.if_icmp .ge (23), 3) := by decide +kernel
theorem d_Mod_pageOf_24 : decode prog_8_method_13_code 24 = .ok (.iload 4, 2) := by decide +kernel
theorem d_Mod_pageOf_26 : decode prog_8_method_13_code 26 = .ok (.ifCond .lt (18), 3) := by decide +kernel
theorem d_Mod_pageOf_29 : decode prog_8_method_13_code 29 = .ok (.aload_n 0, 1) := by decide +kernel
theorem d_Mod_pageOf_30 : decode prog_8_method_13_code 30 = .ok (.iload 4, 2) := by decide +kernel
theorem d_Mod_pageOf_32 : decode prog_8_method_13_code 32 = .ok (.iconst 1, 1) := by decide +kernel
theorem d_Mod_pageOf_33 : decode prog_8_method_13_code 33 = .ok (.invokevirtual 93, 3) := by decide +kernel
theorem d_Mod_pageOf_36 : decode prog_8_method_13_code 36 = .ok (.istore 4, 2) := by decide +kernel
theorem d_Mod_pageOf_38 : decode prog_8_method_13_code 38 = .ok (.iinc 5 (1), 3) := by decide +kernel
theorem d_Mod_pageOf_41 : decode prog_8_method_13_code 41 = .ok (.goto (-23), 3) := by decide +kernel
theorem d_Mod_pageOf_44 : decode prog_8_method_13_code 44 = .ok (.iload 4, 2) := by decide +kernel
theorem d_Mod_pageOf_46 : decode prog_8_method_13_code 46 = .ok (.ireturn, 1) := by decide +kernel
theorem d_Mod_isDirectory_0 : decode prog_8_method_14_code 0 = .ok (.aload_n 0, 1) := by decide +kernel
theorem d_Mod_isDirectory_1 : decode prog_8_method_14_code 1 = .ok (.getfield 7, 3) := by decide +kernel
theorem d_Mod_isDirectory_4 : decode prog_8_method_14_code 4 = .ok (.iload_n 1, 1) := by decide +kernel
theorem d_Mod_isDirectory_5 : decode prog_8_method_14_code 5 = .ok (.iaload, 1) := by decide +kernel
theorem d_Mod_isDirectory_6 : decode prog_8_method_14_code 6 = .ok (.iconst 1, 1) := by decide +kernel
theorem d_Mod_isDirectory_7 : decode prog_8_method_14_code 7 = .ok (.if_icmp .eq (28), 3) := by decide +kernel
theorem d_Mod_isDirectory_10 : decode prog_8_method_14_code 10 = .ok (.aload_n 0, 1) := by decide +kernel
theorem d_Mod_isDirectory_11 : decode prog_8_method_14_code 11 = .ok (.getfield 7, 3) := by decide +kernel
theorem d_Mod_isDirectory_14 : decode prog_8_method_14_code 14 = .ok (.iload_n 1, 1) := by decide +kernel
theorem d_Mod_isDirectory_15 : decode prog_8_method_14_code 15 = .ok (.iaload, 1) := by decide +kernel
theorem d_Mod_isDirectory_16 : decode prog_8_method_14_code 16 = .ok (.iconst 2, 1) := by decide +kernel
theorem d_Mod_isDirectory_17 : decode prog_8_method_14_code 17 = .ok (.if_icmp .le (22), 3) := by decide +kernel
theorem d_Mod_isDirectory_20 : decode prog_8_method_14_code 20 = .ok (.aload_n 0, 1) := by decide +kernel
theorem d_Mod_isDirectory_21 : decode prog_8_method_14_code 21 = .ok (.getfield 25, 3) := by decide +kernel
theorem d_Mod_isDirectory_24 : decode prog_8_method_14_code 24 = .ok (.bipush (8), 2) := by decide +kernel
theorem d_Mod_isDirectory_26 : decode prog_8_method_14_code 26 = .ok (.iload_n 1, 1) := by decide +kernel
theorem d_Mod_isDirectory_27 : decode prog_8_method_14_code 27 = .ok (.imul, 1) := by decide +kernel
theorem d_Mod_isDirectory_28 : decode prog_8_method_14_code 28 = .ok (.iconst 2, 1) := by decide +kernel
theorem d_Mod_isDirectory_29 : decode prog_8_method_14_code 29 = .ok (.iadd, 1) := by decide +kernel
theorem d_Mod_isDirectory_30 : decode prog_8_method_14_code 30 = .ok (.iaload, 1) := by decide +kernel
theorem d_Mod_isDirectory_31 : decode prog_8_method_14_code 31 = .ok (.iconst 1, 1) := by decide +kernel
theorem d_Mod_isDirectory_32 : decode prog_8_method_14_code 32 = .ok (.if_icmp .ne (7), 3) := by decide +kernel
theorem d_Mod_isDirectory_35 : decode prog_8_method_14_code 35 = .ok (.iconst 1, 1) := by decide +kernel
theorem d_Mod_isDirectory_36 : decode prog_8_method_14_code 36 = .ok (.goto (4), 3) := by decide +kernel
theorem d_Mod_isDirectory_39 : decode prog_8_method_14_code 39 = .ok (.iconst 0, 1) := by decide +kernel
theorem d_Mod_isDirectory_40 : decode prog_8_method_14_code 40 = .ok (.ireturn, 1) := by decide +kernel
theorem d_Mod_nameAt_0 : decode prog_8_method_15_code 0 = .ok (.sipush (256), 3) := by decide +kernel
theorem d_Mod_nameAt_3 : decode prog_8_method_15_code 3 = .ok (.aload_n 0, 1) := by decide +kernel
theorem d_Mod_nameAt_4 : decode prog_8_method_15_code 4 = .ok (.getfield 25, 3) := by decide +kernel
theorem d_Mod_nameAt_7 : decode prog_8_method_15_code 7 = .ok (.iload_n 1, 1) := by decide +kernel
theorem d_Mod_nameAt_8 : decode prog_8_method_15_code 8 = .ok (.iaload, 1) := by decide +kernel
theorem d_Mod_nameAt_9 : decode prog_8_method_15_code 9 = .ok (.imul, 1) := by decide +kernel
theorem d_Mod_nameAt_10 : decode prog_8_method_15_code 10 = .ok (.aload_n 0, 1) := by decide +kernel
theorem d_Mod_nameAt_11 : decode prog_8_method_15_code 11 = .ok (.getfield 25, 3) := by decide +kernel
theorem d_Mod_nameAt_14 : decode prog_8_method_15_code 14 = .ok (.iload_n 1, 1) := by decide +kernel
theorem d_Mod_nameAt_15 : decode prog_8_method_15_code 15 = .ok (.iconst 1, 1) := by decide +kernel
theorem d_Mod_nameAt_16 : decode prog_8_method_15_code 16 = .ok (.iadd, 1) := by decide +kernel
theorem d_Mod_nameAt_17 : decode prog_8_method_15_code 17 = .ok (.iaload, 1) := by decide +kernel
theorem d_Mod_nameAt_18 : decode prog_8_method_15_code 18 = .ok (.iadd, 1) := by decide +kernel
theorem d_Mod_nameAt_19 : decode prog_8_method_15_code 19 = .ok (.ireturn, 1) := by decide +kernel
theorem d_Mod_go_0 : decode prog_8_method_16_code 0 = .ok (.aload_n 0, 1) := by decide +kernel
theorem d_Mod_go_1 : decode prog_8_method_16_code 1 = .ok (.iconst (-1), 1) := by decide +kernel
theorem d_Mod_go_2 : decode prog_8_method_16_code 2 = .ok (.putfield 96, 3) := by decide +kernel
theorem d_Mod_go_5 : decode prog_8_method_16_code 5 = .ok (.aload_n 0, 1) := by decide +kernel
theorem d_Mod_go_6 : decode prog_8_method_16_code 6 = .ok (.iconst (-1), 1) := by decide +kernel
theorem d_Mod_go_7 : decode prog_8_method_16_code 7 = .ok (.putfield 99, 3) := by decide +kernel
theorem d_Mod_go_10 : decode prog_8_method_16_code 10 = .ok (.aload_n 0, 1) := by decide +kernel
theorem d_Mod_go_11 : decode prog_8_method_16_code 11 = .ok (.iload_n 1, 1) := by decide +kernel
theorem d_Mod_go_12 : decode prog_8_method_16_code 12 = .ok (.putfield 102, 3) := by decide +kernel
theorem d_Mod_go_15 : decode prog_8_method_16_code 15 = .ok (.iconst 0, 1) := by decide +kernel
theorem d_Mod_go_16 : decode prog_8_method_16_code 16 = .ok (.istore 4, 2) := by decide +kernel
theorem d_Mod_go_18 : decode prog_8_method_16_code 18 = .ok (.iconst 0, 1) := by decide +kernel
theorem d_Mod_go_19 : decode prog_8_method_16_code 19 = .ok (.istore 5, 2) := by decide +kernel
theorem d_Mod_go_21 : decode prog_8_method_16_code 21 = .ok (.iload 5, 2) := by decide +kernel
theorem d_Mod_go_23 : decode prog_8_method_16_code 23 = .ok (.bipush (50), 2) := by decide +kernel
theorem d_Mod_go_25 : decode prog_8_method_16_code 25 = .ok (.if_icmp .ge (216), 3) := by decide +kernel
theorem d_Mod_go_28 : decode prog_8_method_16_code 28 = .ok (.iconst 0, 1) := by decide +kernel
theorem d_Mod_go_29 : decode prog_8_method_16_code 29 = .ok (.istore 6, 2) := by decide +kernel
theorem d_Mod_go_31 : decode prog_8_method_16_code 31 = .ok (.iload 6, 2) := by decide +kernel
theorem d_Mod_go_33 : decode prog_8_method_16_code 33 = .ok (.aload_n 0, 1) := by decide +kernel
theorem d_Mod_go_34 : decode prog_8_method_16_code 34 = .ok (.getfield 16, 3) := by decide +kernel
theorem d_Mod_go_37 : decode prog_8_method_16_code 37 = .ok (.aload_n 0, 1) := by decide +kernel
theorem d_Mod_go_38 : decode prog_8_method_16_code 38 = .ok (.getfield 102, 3) := by decide +kernel
theorem d_Mod_go_41 : decode prog_8_method_16_code 41 = .ok (.iaload, 1) := by decide +kernel
theorem d_Mod_go_42 : decode prog_8_method_16_code 42 = .ok (.iconst 4, 1) := by decide +kernel
theorem d_Mod_go_43 : decode prog_8_method_16_code 43 = .ok (.idiv, 1) := by decide +kernel
theorem d_Mod_go_44 : decode prog_8_method_16_code 44 = .ok (.if_icmp .ge (153), 3) := by decide +kernel
theorem d_Mod_go_47 : decode prog_8_method_16_code 47 = .ok (.aload_n 0, 1) := by decide +kernel
theorem d_Mod_go_48 : decode prog_8_method_16_code 48 = .ok (.getfield 13, 3) := by decide +kernel
theorem d_Mod_go_51 : decode prog_8_method_16_code 51 = .ok (.aload_n 0, 1) := by decide +kernel
theorem d_Mod_go_52 : decode prog_8_method_16_code 52 = .ok (.getfield 102, 3) := by decide +kernel
theorem d_Mod_go_55 : decode prog_8_method_16_code 55 = .ok (.iaload, 1) := by decide +kernel
theorem d_Mod_go_56 : decode prog_8_method_16_code 56 = .ok (.ifCond .le (141), 3) := by decide +kernel
theorem d_Mod_go_59 : decode prog_8_method_16_code 59 = .ok (.bipush (8), 2) := by decide +kernel
theorem d_Mod_go_61 : decode prog_8_method_16_code 61 = .ok (.aload_n 0, 1) := by decide +kernel
theorem d_Mod_go_62 : decode prog_8_method_16_code 62 = .ok (.getfield 102, 3) := by decide +kernel
theorem d_Mod_go_65 : decode prog_8_method_16_code 65 = .ok (.imul, 1) := by decide +kernel
theorem d_Mod_go_66 : decode prog_8_method_16_code 66 = .ok (.iconst 4, 1) := by decide +kernel
theorem d_Mod_go_67 : decode prog_8_method_16_code 67 = .ok (.iload 6, 2) := by decide +kernel
theorem d_Mod_go_69 : decode prog_8_method_16_code 69 = .ok (.imul, 1) := by decide +kernel
theorem d_Mod_go_70 : decode prog_8_method_16_code 70 = .ok (.iadd, 1) := by decide +kernel
theorem d_Mod_go_71 : decode prog_8_method_16_code 71 = .ok (.istore 7, 2) := by decide +kernel
theorem d_Mod_go_73 : decode prog_8_method_16_code 73 = .ok (.aload_n 0, 1) := by decide +kernel
theorem d_Mod_go_74 : decode prog_8_method_16_code 74 = .ok (.getfield 25, 3) := by decide +kernel
theorem d_Mod_go_77 : decode prog_8_method_16_code 77 = .ok (.iload 7, 2) := by decide +kernel
theorem d_Mod_go_79 : decode prog_8_method_16_code 79 = .ok (.iconst 2, 1) := by decide +kernel
theorem d_Mod_go_80 : decode prog_8_method_16_code 80 = .ok (.iadd, 1) := by decide +kernel
theorem d_Mod_go_81 : decode prog_8_method_16_code 81 = .ok (.iaload, 1) := by decide +kernel
theorem d_Mod_go_82 : decode prog_8_method_16_code 82 = .ok (.ifCond .ne (7), 3) := by decide +kernel
theorem d_Mod_go_85 : decode prog_8_method_16_code 85 = .ok (.iconst 1, 1) := by decide +kernel
theorem d_Mod_go_86 : decode prog_8_method_16_code 86 = .ok (.goto (4), 3) := by decide +kernel
theorem d_Mod_go_89 : decode prog_8_method_16_code 89 = .ok (.iconst 0, 1) := by decide +kernel
theorem d_Mod_go_90 : decode prog_8_method_16_code 90 = .ok (.istore 8, 2) := by decide +kernel
theorem d_Mod_go_92 : decode prog_8_method_16_code 92 = .ok (.iload_n 2, 1) := by decide +kernel
theorem d_Mod_go_93 : decode prog_8_method_16_code 93 = .ok (.iconst 1, 1) := by decide +kernel
theorem d_Mod_go_94 : decode prog_8_method_16_code 94 = .ok (.if_icmp .ne (17), 3) := by decide +kernel
theorem d_Mod_go_97 : decode prog_8_method_16_code 97 = .ok (.iload 4, 2) := by decide +kernel
theorem d_Mod_go_99 : decode prog_8_method_16_code 99 = .ok (.iload_n 3, 1) := by decide +kernel
theorem d_Mod_go_100 : decode prog_8_method_16_code 100 = .ok (.if_icmp .ne (7), 3) := by decide +kernel
theorem d_Mod_go_103 : decode prog_8_method_16_code 103 = .ok (.iconst 1, 1) := by decide +kernel
theorem d_Mod_go_104 : decode prog_8_method_16_code 104 = .ok (.goto (32), 3) := by decide +kernel
theorem d_Mod_go_107 : decode prog_8_method_16_code 107 = .ok (.iconst 0, 1) := by decide +kernel
theorem d_Mod_go_108 : decode prog_8_method_16_code 108 = .ok (.goto (28), 3) := by decide +kernel
theorem d_Mod_go_111 : decode prog_8_method_16_code 111 = .ok (.iload 8, 2) := by decide +kernel
theorem d_Mod_go_113 : decode prog_8_method_16_code 113 = .ok (.ifCond .ne (22), 3) := by decide +kernel
theorem d_Mod_go_116 : decode prog_8_method_16_code 116 = .ok (.iload_n 2, 1) := by decide +kernel
theorem d_Mod_go_117 : decode prog_8_method_16_code 117 = .ok (.iconst 2, 1) := by decide +kernel
theorem d_Mod_go_118 : decode prog_8_method_16_code 118 = .ok (.if_icmp .eq (13), 3) := by decide +kernel
theorem d_Mod_go_121 : decode prog_8_method_16_code 121 = .ok (.aload_n 0, 1) := by decide +kernel
theorem d_Mod_go_122 : decode prog_8_method_16_code 122 = .ok (.iload 7, 2) := by decide +kernel
theorem d_Mod_go_124 : decode prog_8_method_16_code 124 = .ok (.invokevirtual 105, 3) := by decide +kernel
theorem d_Mod_go_127 : decode prog_8_method_16_code 127 = .ok (.iload_n 3, 1) := by decide +kernel
theorem d_Mod_go_128 : decode prog_8_method_16_code 128 = .ok (.if_icmp .ne (7), 3) := by decide +kernel
theorem d_Mod_go_131 : decode prog_8_method_16_code 131 = .ok (.iconst 1, 1) := by decide +kernel
theorem d_Mod_go_132 : decode prog_8_method_16_code 132 = .ok (.goto (4), 3) := by decide +kernel
theorem d_Mod_go_135 : decode prog_8_method_16_code 135 = .ok (.iconst 0, 1) := by decide +kernel
theorem d_Mod_go_136 : decode prog_8_method_16_code 136 = .ok (.istore 9, 2) := by decide +kernel
theorem d_Mod_go_138 : decode prog_8_method_16_code 138 = .ok (.iload 9, 2) := by decide +kernel
theorem d_Mod_go_140 : decode prog_8_method_16_code 140 = .ok (.ifCond .eq (19), 3) := by decide +kernel
theorem d_Mod_go_143 : decode prog_8_method_16_code 143 = .ok (.aload_n 0, 1) := by decide +kernel
theorem d_Mod_go_144 : decode prog_8_method_16_code 144 = .ok (.aload_n 0, 1) := by decide +kernel
theorem d_Mod_go_145 : decode prog_8_method_16_code 145 = .ok (.getfield 102, 3) := by decide +kernel
theorem d_Mod_go_148 : decode prog_8_method_16_code 148 = .ok (.putfield 96, 3) := by decide +kernel
theorem d_Mod_go_151 : decode prog_8_method_16_code 151 = .ok (.aload_n 0, 1) := by decide +kernel
theorem d_Mod_go_152 : decode prog_8_method_16_code 152 = .ok (.iload 7, 2) := by decide +kernel
theorem d_Mod_go_154 : decode prog_8_method_16_code 154 = .ok (.putfield 109, 3) := by decide +kernel
theorem d_Mod_go_157 : decode prog_8_method_16_code 157 = .ok (.iconst 1, 1) := by decide +kernel
theorem d_Mod_go_158 : decode prog_8_method_16_code 158 = .ok (.ireturn, 1) := by decide +kernel
theorem d_Mod_go_159 : decode prog_8_method_16_code 159 = .ok (.iload 8, 2) := by decide +kernel
theorem d_Mod_go_161 : decode prog_8_method_16_code 161 = .ok (.ifCond .eq (24), 3) := by decide +kernel
theorem d_Mod_go_164 : decode prog_8_method_16_code 164 = .ok (.aload_n 0, 1) := by decide +kernel
theorem d_Mod_go_165 : decode prog_8_method_16_code 165 = .ok (.getfield 99, 3) := by decide +kernel
theorem d_Mod_go_168 : decode prog_8_method_16_code 168 = .ok (.ifCond .ge (17), 3) := by decide +kernel
theorem d_Mod_go_171 : decode prog_8_method_16_code 171 = .ok (.aload_n 0, 1) := by decide +kernel
theorem d_Mod_go_172 : decode prog_8_method_16_code 172 = .ok (.aload_n 0, 1) := by decide +kernel
theorem d_Mod_go_173 : decode prog_8_method_16_code 173 = .ok (.getfield 102, 3) := by decide +kernel
theorem d_Mod_go_176 : decode prog_8_method_16_code 176 = .ok (.putfield 99, 3) := by decide +kernel
theorem d_Mod_go_179 : decode prog_8_method_16_code 179 = .ok (.aload_n 0, 1) := by decide +kernel
theorem d_Mod_go_180 : decode prog_8_method_16_code 180 = .ok (.iload 7, 2) := by decide +kernel
theorem d_Mod_go_182 : decode prog_8_method_16_code 182 = .ok (.putfield 112, 3) := by decide +kernel
theorem d_Mod_go_185 : decode prog_8_method_16_code 185 = .ok (.iload 4, 2) := by decide +kernel
theorem d_Mod_go_187 : decode prog_8_method_16_code 187 = .ok (.iconst 1, 1) := by decide +kernel
theorem d_Mod_go_188 : decode prog_8_method_16_code 188 = .ok (.iadd, 1) := by decide +kernel
theorem d_Mod_go_189 : decode prog_8_method_16_code 189 = .ok (.istore 4, 2) := by decide +kernel
theorem d_Mod_go_191 : decode prog_8_method_16_code 191 = .ok (.iinc 6 (1), 3) := by decide +kernel
theorem d_Mod_go_194 : decode prog_8_method_16_code 194 = .ok (.goto (-163), 3) := by decide +kernel
theorem d_Mod_go_197 : decode prog_8_method_16_code 197 = .ok (.aload_n 0, 1) := by decide +kernel
theorem d_Mod_go_198 : decode prog_8_method_16_code 198 = .ok (.getfield 19, 3) := by decide +kernel
theorem d_Mod_go_201 : decode prog_8_method_16_code 201 = .ok (.aload_n 0, 1) := by decide +kernel
theorem d_Mod_go_202 : decode prog_8_method_16_code 202 = .ok (.getfield 102, 3) := by decide +kernel
theorem d_Mod_go_205 : decode prog_8_method_16_code 205 = .ok (.iaload, 1) := by decide +kernel
theorem d_Mod_go_206 : decode prog_8_method_16_code 206 = .ok (.ifCond .ge (5), 3) := by decide +kernel
theorem d_Mod_go_209 : decode prog_8_method_16_code 209 = .ok (.iconst 1, 1) := by decide +kernel
theorem d_Mod_go_210 : decode prog_8_method_16_code 210 = .ok (.ireturn, 1) := by decide +kernel
theorem d_Mod_go_211 : decode prog_8_method_16_code 211 = .ok (.aload_n 0, 1) := by decide +kernel
theorem d_Mod_go_212 : decode prog_8_method_16_code 212 = .ok (.aload_n 0, 1) := by decide +kernel
theorem d_Mod_go_213 : decode prog_8_method_16_code 213 = .ok (.getfield 102, 3) := by decide +kernel
theorem d_Mod_go_216 : decode prog_8_method_16_code 216 = .ok (.iconst 1, 1) := by decide +kernel
theorem d_Mod_go_217 : decode prog_8_method_16_code 217 = .ok (.invokevirtual 93, 3) := by decide +kernel
theorem d_Mod_go_220 : decode prog_8_method_16_code 220 = .ok (.istore 6, 2) := by decide +kernel
theorem d_Mod_go_222 : decode prog_8_method_16_code 222 = .ok (.iload 6, 2) := by decide +kernel
theorem d_Mod_go_224 : decode prog_8_method_16_code 224 = .ok (.ifCond .ge (5), 3) := by decide +kernel
theorem d_Mod_go_227 : decode prog_8_method_16_code 227 = .ok (.iconst 0, 1) := by decide +kernel
theorem d_Mod_go_228 : decode prog_8_method_16_code 228 = .ok (.ireturn, 1) := by decide +kernel
theorem d_Mod_go_229 : decode prog_8_method_16_code 229 = .ok (.aload_n 0, 1) := by decide +kernel
theorem d_Mod_go_230 : decode prog_8_method_16_code 230 = .ok (.iload 6, 2) := by decide +kernel
theorem d_Mod_go_232 : decode prog_8_method_16_code 232 = .ok (.putfield 102, 3) := by decide +kernel
theorem d_Mod_go_235 : decode prog_8_method_16_code 235 = .ok (.iinc 5 (1), 3) := by decide +kernel
theorem d_Mod_go_238 : decode prog_8_method_16_code 238 = .ok (.goto (-217), 3) := by decide +kernel
theorem d_Mod_go_241 : decode prog_8_method_16_code 241 = .ok (.iconst 1, 1) := by decide +kernel
theorem d_Mod_go_242 : decode prog_8_method_16_code 242 = .ok (.ireturn, 1) := by decide +kernel
theorem d_Mod_writes_0 : decode prog_8_method_17_code 0 = .ok (.aload_n 0, 1) := by decide +kernel
theorem d_Mod_writes_1 : decode prog_8_method_17_code 1 = .ok (.getfield 90, 3) := by decide +kernel
theorem d_Mod_writes_4 : decode prog_8_method_17_code 4 = .ok (.ifCond .le (5), 3) := by decide +kernel
theorem d_Mod_writes_7 : decode prog_8_method_17_code 7 = .ok (.iconst 0, 1) := by decide +kernel
theorem d_Mod_writes_8 : decode prog_8_method_17_code 8 = .ok (.ireturn, 1) := by decide +kernel
theorem d_Mod_writes_9 : decode prog_8_method_17_code 9 = .ok (.aload_n 0, 1) := by decide +kernel
theorem d_Mod_writes_10 : decode prog_8_method_17_code 10 = .ok (.getfield 35, 3) := by decide +kernel
theorem d_Mod_writes_13 : decode prog_8_method_17_code 13 = .ok (.ifCond .ne (15), 3) := by decide +kernel
theorem d_Mod_writes_16 : decode prog_8_method_17_code 16 = .ok (.aload_n 0, 1) := by decide +kernel
theorem d_Mod_writes_17 : decode prog_8_method_17_code 17 = .ok (.iconst 1, 1) := by decide +kernel
theorem d_Mod_writes_18 : decode prog_8_method_17_code 18 = .ok (.putfield 115, 3) := by decide +kernel
theorem d_Mod_writes_21 : decode prog_8_method_17_code 21 = .ok (.aload_n 0, 1) := by decide +kernel
theorem d_Mod_writes_22 : decode prog_8_method_17_code 22 = .ok (.iconst 1, 1) := by decide +kernel
theorem d_Mod_writes_23 : decode prog_8_method_17_code 23 = .ok (.putfield 90, 3) := by decide +kernel
theorem d_Mod_writes_26 : decode prog_8_method_17_code 26 = .ok (.iconst 0, 1) := by decide +kernel
theorem d_Mod_writes_27 : decode prog_8_method_17_code 27 = .ok (.ireturn, 1) := by decide +kernel
theorem d_Mod_writes_28 : decode prog_8_method_17_code 28 = .ok (.aload_n 0, 1) := by decide +kernel
theorem d_Mod_writes_29 : decode prog_8_method_17_code 29 = .ok (.aload_n 0, 1) := by decide +kernel
theorem d_Mod_writes_30 : decode prog_8_method_17_code 30 = .ok (.getfield 35, 3) := by decide +kernel
theorem d_Mod_writes_33 : decode prog_8_method_17_code 33 = .ok (.ifCond .le (12), 3) := by decide +kernel
theorem d_Mod_writes_36 : decode prog_8_method_17_code 36 = .ok (.aload_n 0, 1) := by decide +kernel
theorem d_Mod_writes_37 : decode prog_8_method_17_code 37 = .ok (.getfield 35, 3) := by decide +kernel
theorem d_Mod_writes_40 : decode prog_8_method_17_code 40 = .ok (.iconst 1, 1) := by decide +kernel
theorem d_Mod_writes_41 : decode prog_8_method_17_code 41 = .ok (.isub, 1) := by decide +kernel
theorem d_Mod_writes_42 : decode prog_8_method_17_code 42 = .ok (.goto (7), 3) := by decide +kernel
theorem d_Mod_writes_45 : decode prog_8_method_17_code 45 = .ok (.aload_n 0, 1) := by decide +kernel
theorem d_Mod_writes_46 : decode prog_8_method_17_code 46 = .ok (.getfield 35, 3) := by decide +kernel
theorem d_Mod_writes_49 : decode prog_8_method_17_code 49 = .ok (.putfield 35, 3) := by decide +kernel
theorem d_Mod_writes_52 : decode prog_8_method_17_code 52 = .ok (.aload_n 0, 1) := by decide +kernel
theorem d_Mod_writes_53 : decode prog_8_method_17_code 53 = .ok (.aload_n 0, 1) := by decide +kernel
theorem d_Mod_writes_54 : decode prog_8_method_17_code 54 = .ok (.getfield 119, 3) := by decide +kernel
theorem d_Mod_writes_57 : decode prog_8_method_17_code 57 = .ok (.iconst 1, 1) := by decide +kernel
theorem d_Mod_writes_58 : decode prog_8_method_17_code 58 = .ok (.iadd, 1) := by decide +kernel
theorem d_Mod_writes_59 : decode prog_8_method_17_code 59 = .ok (.putfield 119, 3) := by decide +kernel
theorem d_Mod_writes_62 : decode prog_8_method_17_code 62 = .ok (.iconst 1, 1) := by decide +kernel
theorem d_Mod_writes_63 : decode prog_8_method_17_code 63 = .ok (.ireturn, 1) := by decide +kernel
theorem d_Mod_empty_0 : decode prog_8_method_18_code 0 = .ok (.aload_n 0, 1) := by decide +kernel
theorem d_Mod_empty_1 : decode prog_8_method_18_code 1 = .ok (.iload_n 1, 1) := by decide +kernel
theorem d_Mod_empty_2 : decode prog_8_method_18_code 2 = .ok (.iconst 0, 1) := by decide +kernel
theorem d_Mod_empty_3 : decode prog_8_method_18_code 3 = .ok (.iconst 0, 1) := by decide +kernel
theorem d_Mod_empty_4 : decode prog_8_method_18_code 4 = .ok (.iconst 0, 1) := by decide +kernel
theorem d_Mod_empty_5 : decode prog_8_method_18_code 5 = .ok (.invokevirtual 66, 3) := by decide +kernel
theorem d_Mod_empty_8 : decode prog_8_method_18_code 8 = .ok (.aload_n 0, 1) := by decide +kernel
theorem d_Mod_empty_9 : decode prog_8_method_18_code 9 = .ok (.getfield 19, 3) := by decide +kernel
theorem d_Mod_empty_12 : decode prog_8_method_18_code 12 = .ok (.iload_n 1, 1) := by decide +kernel
theorem d_Mod_empty_13 : decode prog_8_method_18_code 13 = .ok (.iconst (-1), 1) := by decide +kernel
theorem d_Mod_empty_14 : decode prog_8_method_18_code 14 = .ok (.iastore, 1) := by decide +kernel
theorem d_Mod_empty_15 : decode prog_8_method_18_code 15 = .ok (.aload_n 0, 1) := by decide +kernel
theorem d_Mod_empty_16 : decode prog_8_method_18_code 16 = .ok (.getfield 22, 3) := by decide +kernel
theorem d_Mod_empty_19 : decode prog_8_method_18_code 19 = .ok (.iload_n 1, 1) := by decide +kernel
theorem d_Mod_empty_20 : decode prog_8_method_18_code 20 = .ok (.iconst (-1), 1) := by decide +kernel
theorem d_Mod_empty_21 : decode prog_8_method_18_code 21 = .ok (.iastore, 1) := by decide +kernel
theorem d_Mod_empty_22 : decode prog_8_method_18_code 22 = .ok (.iconst 0, 1) := by decide +kernel
theorem d_Mod_empty_23 : decode prog_8_method_18_code 23 = .ok (.istore_n 2, 1) := by decide +kernel
theorem d_Mod_empty_24 : decode prog_8_method_18_code 24 = .ok (.iload_n 2, 1) := by decide +kernel
theorem d_Mod_empty_25 : decode prog_8_method_18_code 25 = .ok (.bipush (8), 2) := by decide +kernel
theorem d_Mod_empty_27 : decode prog_8_method_18_code 27 = .ok (.if_icmp .ge (21), 3) := by decide +kernel
theorem d_Mod_empty_30 : decode prog_8_method_18_code 30 = .ok (.aload_n 0, 1) := by decide +kernel
theorem d_Mod_empty_31 : decode prog_8_method_18_code 31 = .ok (.getfield 25, 3) := by decide +kernel
theorem d_Mod_empty_34 : decode prog_8_method_18_code 34 = .ok (.bipush (8), 2) := by decide +kernel
theorem d_Mod_empty_36 : decode prog_8_method_18_code 36 = .ok (.iload_n 1, 1) := by decide +kernel
theorem d_Mod_empty_37 : decode prog_8_method_18_code 37 = .ok (.imul, 1) := by decide +kernel
theorem d_Mod_empty_38 : decode prog_8_method_18_code 38 = .ok (.iload_n 2, 1) := by decide +kernel
theorem d_Mod_empty_39 : decode prog_8_method_18_code 39 = .ok (.iadd, 1) := by decide +kernel
theorem d_Mod_empty_40 : decode prog_8_method_18_code 40 = .ok (.iconst 0, 1) := by decide +kernel
theorem d_Mod_empty_41 : decode prog_8_method_18_code 41 = .ok (.iastore, 1) := by decide +kernel
theorem d_Mod_empty_42 : decode prog_8_method_18_code 42 = .ok (.iinc 2 (1), 3) := by decide +kernel
theorem d_Mod_empty_45 : decode prog_8_method_18_code 45 = .ok (.goto (-21), 3) := by decide +kernel
theorem d_Mod_empty_48 : decode prog_8_method_18_code 48 = .ok (.return_, 1) := by decide +kernel
theorem d_Mod_free_0 : decode prog_8_method_19_code 0 = .ok (.aload_n 0, 1) := by decide +kernel
theorem d_Mod_free_1 : decode prog_8_method_19_code 1 = .ok (.invokevirtual 122, 3) := by decide +kernel
theorem d_Mod_free_4 : decode prog_8_method_19_code 4 = .ok (.ifCond .eq (15), 3) := by decide +kernel
theorem d_Mod_free_7 : decode prog_8_method_19_code 7 = .ok (.aload_n 0, 1) := by decide +kernel
theorem d_Mod_free_8 : decode prog_8_method_19_code 8 = .ok (.iload_n 1, 1) := by decide +kernel
theorem d_Mod_free_9 : decode prog_8_method_19_code 9 = .ok (.invokevirtual 125, 3) := by decide +kernel
theorem d_Mod_free_12 : decode prog_8_method_19_code 12 = .ok (.aload_n 0, 1) := by decide +kernel
theorem d_Mod_free_13 : decode prog_8_method_19_code 13 = .ok (.getfield 39, 3) := by decide +kernel
theorem d_Mod_free_16 : decode prog_8_method_19_code 16 = .ok (.iload_n 1, 1) := by decide +kernel
theorem d_Mod_free_17 : decode prog_8_method_19_code 17 = .ok (.iconst 3, 1) := by decide +kernel
theorem d_Mod_free_18 : decode prog_8_method_19_code 18 = .ok (.iastore, 1) := by decide +kernel
theorem d_Mod_free_19 : decode prog_8_method_19_code 19 = .ok (.return_, 1) := by decide +kernel
theorem d_Mod_setEntry_0 : decode prog_8_method_20_code 0 = .ok (.aload_n 0, 1) := by decide +kernel
theorem d_Mod_setEntry_1 : decode prog_8_method_20_code 1 = .ok (.getfield 25, 3) := by decide +kernel
theorem d_Mod_setEntry_4 : decode prog_8_method_20_code 4 = .ok (.iload_n 1, 1) := by decide +kernel
theorem d_Mod_setEntry_5 : decode prog_8_method_20_code 5 = .ok (.iload_n 2, 1) := by decide +kernel
theorem d_Mod_setEntry_6 : decode prog_8_method_20_code 6 = .ok (.sipush (256), 3) := by decide +kernel
theorem d_Mod_setEntry_9 : decode prog_8_method_20_code 9 = .ok (.idiv, 1) := by decide +kernel
theorem d_Mod_setEntry_10 : decode prog_8_method_20_code 10 = .ok (.iastore, 1) := by decide +kernel
theorem d_Mod_setEntry_11 : decode prog_8_method_20_code 11 = .ok (.aload_n 0, 1) := by decide +kernel
theorem d_Mod_setEntry_12 : decode prog_8_method_20_code 12 = .ok (.getfield 25, 3) := by decide +kernel
theorem d_Mod_setEntry_15 : decode prog_8_method_20_code 15 = .ok (.iload_n 1, 1) := by decide +kernel
theorem d_Mod_setEntry_16 : decode prog_8_method_20_code 16 = .ok (.iconst 1, 1) := by decide +kernel
theorem d_Mod_setEntry_17 : decode prog_8_method_20_code 17 = .ok (.iadd, 1) := by decide +kernel
theorem d_Mod_setEntry_18 : decode prog_8_method_20_code 18 = .ok (.iload_n 2, 1) := by decide +kernel
theorem d_Mod_setEntry_19 : decode prog_8_method_20_code 19 = .ok (.sipush (256), 3) := by decide +kernel
theorem d_Mod_setEntry_22 : decode prog_8_method_20_code 22 = .ok (.irem, 1) := by decide +kernel
theorem d_Mod_setEntry_23 : decode prog_8_method_20_code 23 = .ok (.iastore, 1) := by decide +kernel
theorem d_Mod_setEntry_24 : decode prog_8_method_20_code 24 = .ok (.aload_n 0, 1) := by decide +kernel
theorem d_Mod_setEntry_25 : decode prog_8_method_20_code 25 = .ok (.getfield 25, 3) := by decide +kernel
theorem d_Mod_setEntry_28 : decode prog_8_method_20_code 28 = .ok (.iload_n 1, 1) := by decide +kernel
theorem d_Mod_setEntry_29 : decode prog_8_method_20_code 29 = .ok (.iconst 2, 1) := by decide +kernel
theorem d_Mod_setEntry_30 : decode prog_8_method_20_code 30 = .ok (.iadd, 1) := by decide +kernel
theorem d_Mod_setEntry_31 : decode prog_8_method_20_code 31 = .ok (.iload_n 3, 1) := by decide +kernel
theorem d_Mod_setEntry_32 : decode prog_8_method_20_code 32 = .ok (.iastore, 1) := by decide +kernel
theorem d_Mod_setEntry_33 : decode prog_8_method_20_code 33 = .ok (.aload_n 0, 1) := by decide +kernel
theorem d_Mod_setEntry_34 : decode prog_8_method_20_code 34 = .ok (.getfield 25, 3) := by decide +kernel
theorem d_Mod_setEntry_37 : decode prog_8_method_20_code 37 = .ok (.iload_n 1, 1) := by decide +kernel
theorem d_Mod_setEntry_38 : decode prog_8_method_20_code 38 = .ok (.iconst 3, 1) := by decide +kernel
theorem d_Mod_setEntry_39 : decode prog_8_method_20_code 39 = .ok (.iadd, 1) := by decide +kernel
theorem d_Mod_setEntry_40 : decode prog_8_method_20_code 40 = .ok (.iload 4, 2) := by decide +kernel
theorem d_Mod_setEntry_42 : decode prog_8_method_20_code 42 = .ok (.iastore, 1) := by decide +kernel
theorem d_Mod_setEntry_43 : decode prog_8_method_20_code 43 = .ok (.return_, 1) := by decide +kernel
theorem d_Mod_findMap_0 : decode prog_8_method_21_code 0 = .ok (.iconst 0, 1) := by decide +kernel
theorem d_Mod_findMap_1 : decode prog_8_method_21_code 1 = .ok (.istore_n 1, 1) := by decide +kernel
theorem d_Mod_findMap_2 : decode prog_8_method_21_code 2 = .ok (.iload_n 1, 1) := by decide +kernel
theorem d_Mod_findMap_3 : decode prog_8_method_21_code 3 = .ok (.bipush (40), 2) := by decide +kernel
theorem d_Mod_findMap_5 : decode prog_8_method_21_code 5 = .ok (.if_icmp .ge (16), 3) := by decide +kernel
theorem d_Mod_findMap_8 : decode prog_8_method_21_code 8 = .ok (.aload_n 0, 1) := by decide +kernel
theorem d_Mod_findMap_9 : decode prog_8_method_21_code 9 = .ok (.getfield 39, 3) := by decide +kernel
theorem d_Mod_findMap_12 : decode prog_8_method_21_code 12 = .ok (.iload_n 1, 1) := by decide +kernel
theorem d_Mod_findMap_13 : decode prog_8_method_21_code 13 = .ok (.iconst 0, 1) := by decide +kernel
theorem d_Mod_findMap_14 : decode prog_8_method_21_code 14 = .ok (.iastore, 1) := by decide +kernel
theorem d_Mod_findMap_15 : decode prog_8_method_21_code 15 = .ok (.iinc 1 (1), 3) := by decide +kernel
theorem d_Mod_findMap_18 : decode prog_8_method_21_code 18 = .ok (.goto (-16), 3) := by decide +kernel
theorem d_Mod_findMap_21 : decode prog_8_method_21_code 21 = .ok (.aload_n 0, 1) := by decide +kernel
theorem d_Mod_findMap_22 : decode prog_8_method_21_code 22 = .ok (.iconst 2, 1) := by decide +kernel
theorem d_Mod_findMap_23 : decode prog_8_method_21_code 23 = .ok (.invokevirtual 129, 3) := by decide +kernel
theorem d_Mod_findMap_26 : decode prog_8_method_21_code 26 = .ok (.istore_n 1, 1) := by decide +kernel
theorem d_Mod_findMap_27 : decode prog_8_method_21_code 27 = .ok (.aload_n 0, 1) := by decide +kernel
theorem d_Mod_findMap_28 : decode prog_8_method_21_code 28 = .ok (.getfield 90, 3) := by decide +kernel
theorem d_Mod_findMap_31 : decode prog_8_method_21_code 31 = .ok (.istore_n 2, 1) := by decide +kernel
theorem d_Mod_findMap_32 : decode prog_8_method_21_code 32 = .ok (.aload_n 0, 1) := by decide +kernel
theorem d_Mod_findMap_33 : decode prog_8_method_21_code 33 = .ok (.iload_n 1, 1) := by decide +kernel
theorem d_Mod_findMap_34 : decode prog_8_method_21_code 34 = .ok (.ifCond .ge (7), 3) := by decide +kernel
theorem d_Mod_findMap_37 : decode prog_8_method_21_code 37 = .ok (.iconst (-1), 1) := by decide +kernel
theorem d_Mod_findMap_38 : decode prog_8_method_21_code 38 = .ok (.goto (9), 3) := by decide +kernel
theorem d_Mod_findMap_41 : decode prog_8_method_21_code 41 = .ok (.aload_n 0, 1) := by decide +kernel
theorem d_Mod_findMap_42 : decode prog_8_method_21_code 42 = .ok (.iload_n 1, 1) := by decide +kernel
theorem d_Mod_findMap_43 : decode prog_8_method_21_code 43 = .ok (.iconst 1, 1) := by decide +kernel
theorem d_Mod_findMap_44 : decode prog_8_method_21_code 44 = .ok (.invokevirtual 93, 3) := by decide +kernel
theorem d_Mod_findMap_47 : decode prog_8_method_21_code 47 = .ok (.putfield 132, 3) := by decide +kernel
theorem d_Mod_findMap_50 : decode prog_8_method_21_code 50 = .ok (.aload_n 0, 1) := by decide +kernel
theorem d_Mod_findMap_51 : decode prog_8_method_21_code 51 = .ok (.iload_n 2, 1) := by decide +kernel
theorem d_Mod_findMap_52 : decode prog_8_method_21_code 52 = .ok (.putfield 90, 3) := by decide +kernel
theorem d_Mod_findMap_55 : decode prog_8_method_21_code 55 = .ok (.return_, 1) := by decide +kernel
theorem d_Mod_takes_0 : decode prog_8_method_22_code 0 = .ok (.aload_n 0, 1) := by decide +kernel
theorem d_Mod_takes_1 : decode prog_8_method_22_code 1 = .ok (.invokevirtual 135, 3) := by decide +kernel
theorem d_Mod_takes_4 : decode prog_8_method_22_code 4 = .ok (.iconst 0, 1) := by decide +kernel
theorem d_Mod_takes_5 : decode prog_8_method_22_code 5 = .ok (.istore_n 2, 1) := by decide +kernel
theorem d_Mod_takes_6 : decode prog_8_method_22_code 6 = .ok (.iconst 0, 1) := by decide +kernel
theorem d_Mod_takes_7 : decode prog_8_method_22_code 7 = .ok (.istore_n 3, 1) := by decide +kernel
theorem d_Mod_takes_8 : decode prog_8_method_22_code 8 = .ok (.iload_n 3, 1) := by decide +kernel
theorem d_Mod_takes_9 : decode prog_8_method_22_code 9 = .ok (.bipush (40), 2) := by decide +kernel
theorem d_Mod_takes_11 : decode prog_8_method_22_code 11 = .ok (.if_icmp .ge (143), 3) := by decide +kernel
theorem d_Mod_takes_14 : decode prog_8_method_22_code 14 = .ok (.iload_n 2, 1) := by decide +kernel
theorem d_Mod_takes_15 : decode prog_8_method_22_code 15 = .ok (.iload_n 1, 1) := by decide +kernel
theorem d_Mod_takes_16 : decode prog_8_method_22_code 16 = .ok (.if_icmp .ge (138), 3) := by decide +kernel
theorem d_Mod_takes_19 : decode prog_8_method_22_code 19 = .ok (.aload_n 0, 1) := by decide +kernel
theorem d_Mod_takes_20 : decode prog_8_method_22_code 20 = .ok (.getfield 132, 3) := by decide +kernel
theorem d_Mod_takes_23 : decode prog_8_method_22_code 23 = .ok (.ifCond .lt (131), 3) := by decide +kernel
theorem d_Mod_takes_26 : decode prog_8_method_22_code 26 = .ok (.aload_n 0, 1) := by decide +kernel
theorem d_Mod_takes_27 : decode prog_8_method_22_code 27 = .ok (.getfield 25, 3) := by decide +kernel
theorem d_Mod_takes_30 : decode prog_8_method_22_code 30 = .ok (.bipush (8), 2) := by decide +kernel
theorem d_Mod_takes_32 : decode prog_8_method_22_code 32 = .ok (.aload_n 0, 1) := by decide +kernel
theorem d_Mod_takes_33 : decode prog_8_method_22_code 33 = .ok (.getfield 132, 3) := by decide +kernel
theorem d_Mod_takes_36 : decode prog_8_method_22_code 36 = .ok (.imul, 1) := by decide +kernel
theorem d_Mod_takes_37 : decode prog_8_method_22_code 37 = .ok (.iload_n 3, 1) := by decide +kernel
theorem d_Mod_takes_38 : decode prog_8_method_22_code 38 = .ok (.bipush (8), 2) := by decide +kernel
theorem d_Mod_takes_40 : decode prog_8_method_22_code 40 = .ok (.idiv, 1) := by decide +kernel
theorem d_Mod_takes_41 : decode prog_8_method_22_code 41 = .ok (.iadd, 1) := by decide +kernel
theorem d_Mod_takes_42 : decode prog_8_method_22_code 42 = .ok (.iaload, 1) := by decide +kernel
theorem d_Mod_takes_43 : decode prog_8_method_22_code 43 = .ok (.iload_n 3, 1) := by decide +kernel
theorem d_Mod_takes_44 : decode prog_8_method_22_code 44 = .ok (.bipush (8), 2) := by decide +kernel
theorem d_Mod_takes_46 : decode prog_8_method_22_code 46 = .ok (.irem, 1) := by decide +kernel
theorem d_Mod_takes_47 : decode prog_8_method_22_code 47 = .ok (.ishr, 1) := by decide +kernel
theorem d_Mod_takes_48 : decode prog_8_method_22_code 48 = .ok (.iconst 1, 1) := by decide +kernel
theorem d_Mod_takes_49 : decode prog_8_method_22_code 49 = .ok (.iand, 1) := by decide +kernel
theorem d_Mod_takes_50 : decode prog_8_method_22_code 50 = .ok (.iconst 1, 1) := by decide +kernel
theorem d_Mod_takes_51 : decode prog_8_method_22_code 51 = .ok (.if_icmp .ne (7), 3) := by decide +kernel
theorem d_Mod_takes_54 : decode prog_8_method_22_code 54 = .ok (.iconst 1, 1) := by decide +kernel
theorem d_Mod_takes_55 : decode prog_8_method_22_code 55 = .ok (.goto (4), 3) := by decide +kernel
theorem d_Mod_takes_58 : decode prog_8_method_22_code 58 = .ok (.iconst 0, 1) := by decide +kernel
theorem d_Mod_takes_59 : decode prog_8_method_22_code 59 = .ok (.istore 4, 2) := by decide +kernel
theorem d_Mod_takes_61 : decode prog_8_method_22_code 61 = .ok (.iload 4, 2) := by decide +kernel
theorem d_Mod_takes_63 : decode prog_8_method_22_code 63 = .ok (.ifCond .eq (15), 3) := by decide +kernel
theorem d_Mod_takes_66 : decode prog_8_method_22_code 66 = .ok (.aload_n 0, 1) := by decide +kernel
theorem d_Mod_takes_67 : decode prog_8_method_22_code 67 = .ok (.iload_n 3, 1) := by decide +kernel
theorem d_Mod_takes_68 : decode prog_8_method_22_code 68 = .ok (.invokevirtual 138, 3) := by decide +kernel
theorem d_Mod_takes_71 : decode prog_8_method_22_code 71 = .ok (.ifCond .eq (7), 3) := by decide +kernel
theorem d_Mod_takes_74 : decode prog_8_method_22_code 74 = .ok (.iconst 1, 1) := by decide +kernel
theorem d_Mod_takes_75 : decode prog_8_method_22_code 75 = .ok (.goto (4), 3) := by decide +kernel
theorem d_Mod_takes_78 : decode prog_8_method_22_code 78 = .ok (.iconst 0, 1) := by decide +kernel
theorem d_Mod_takes_79 : decode prog_8_method_22_code 79 = .ok (.istore 5, 2) := by decide +kernel
theorem d_Mod_takes_81 : decode prog_8_method_22_code 81 = .ok (.aload_n 0, 1) := by decide +kernel
theorem d_Mod_takes_82 : decode prog_8_method_22_code 82 = .ok (.iload 4, 2) := by decide +kernel
theorem d_Mod_takes_84 : decode prog_8_method_22_code 84 = .ok (.ifCond .eq (17), 3) := by decide +kernel
theorem d_Mod_takes_87 : decode prog_8_method_22_code 87 = .ok (.iload 5, 2) := by decide +kernel
theorem d_Mod_takes_89 : decode prog_8_method_22_code 89 = .ok (.ifCond .ne (12), 3) := by decide +kernel
theorem d_Mod_takes_92 : decode prog_8_method_22_code 92 = .ok (.aload_n 0, 1) := by decide +kernel
theorem d_Mod_takes_93 : decode prog_8_method_22_code 93 = .ok (.getfield 80, 3) := by decide +kernel
theorem d_Mod_takes_96 : decode prog_8_method_22_code 96 = .ok (.iconst 1, 1) := by decide +kernel
theorem d_Mod_takes_97 : decode prog_8_method_22_code 97 = .ok (.iadd, 1) := by decide +kernel
theorem d_Mod_takes_98 : decode prog_8_method_22_code 98 = .ok (.goto (7), 3) := by decide +kernel
theorem d_Mod_takes_101 : decode prog_8_method_22_code 101 = .ok (.aload_n 0, 1) := by decide +kernel
theorem d_Mod_takes_102 : decode prog_8_method_22_code 102 = .ok (.getfield 80, 3) := by decide +kernel
theorem d_Mod_takes_105 : decode prog_8_method_22_code 105 = .ok (.putfield 80, 3) := by decide +kernel
theorem d_Mod_takes_108 : decode prog_8_method_22_code 108 = .ok (.aload_n 0, 1) := by decide +kernel
theorem d_Mod_takes_109 : decode prog_8_method_22_code 109 = .ok (.getfield 39, 3) := by decide +kernel
theorem d_Mod_takes_112 : decode prog_8_method_22_code 112 = .ok (.iload_n 3, 1) := by decide +kernel
theorem d_Mod_takes_113 : decode prog_8_method_22_code 113 = .ok (.iload 5, 2) := by decide +kernel
theorem d_Mod_takes_115 : decode prog_8_method_22_code 115 = .ok (.ifCond .eq (9), 3) := by decide +kernel
theorem d_Mod_takes_118 : decode prog_8_method_22_code 118 = .ok (.iconst 4, 1) := by decide +kernel
theorem d_Mod_takes_119 : decode prog_8_method_22_code 119 = .ok (.iload_n 2, 1) := by decide +kernel
theorem d_Mod_takes_120 : decode prog_8_method_22_code 120 = .ok (.iadd, 1) := by decide +kernel
theorem d_Mod_takes_121 : decode prog_8_method_22_code 121 = .ok (.goto (13), 3) := by decide +kernel
theorem d_Mod_takes_124 : decode prog_8_method_22_code 124 = .ok (.iload 4, 2) := by decide +kernel
theorem d_Mod_takes_126 : decode prog_8_method_22_code 126 = .ok (.ifCond .eq (7), 3) := by decide +kernel
theorem d_Mod_takes_129 : decode prog_8_method_22_code 129 = .ok (.iconst 2, 1) := by decide +kernel
theorem d_Mod_takes_130 : decode prog_8_method_22_code 130 = .ok (.goto (4), 3) := by decide +kernel
theorem d_Mod_takes_133 : decode prog_8_method_22_code 133 = .ok (.iconst 0, 1) := by decide +kernel
theorem d_Mod_takes_134 : decode prog_8_method_22_code 134 = .ok (.iastore, 1) := by decide +kernel
theorem d_Mod_takes_135 : decode prog_8_method_22_code 135 = .ok (.iload 5, 2) := by decide +kernel
theorem d_Mod_takes_137 : decode prog_8_method_22_code 137 = .ok (.ifCond .eq (9), 3) := by decide +kernel
theorem d_Mod_takes_140 : decode prog_8_method_22_code 140 = .ok (.iload_n 2, 1) := by decide +kernel
theorem d_Mod_takes_141 : decode prog_8_method_22_code 141 = .ok (.iconst 1, 1) := by decide +kernel
theorem d_Mod_takes_142 : decode prog_8_method_22_code 142 = .ok (.iadd, 1) := by decide +kernel
theorem d_Mod_takes_143 : decode prog_8_method_22_code 143 = .ok (.goto (4), 3) := by decide +kernel
theorem d_Mod_takes_146 : decode prog_8_method_22_code 146 = .ok (.iload_n 2, 1) := by decide +kernel
theorem d_Mod_takes_147 : decode prog_8_method_22_code 147 = .ok (.istore_n 2, 1) := by decide +kernel
theorem d_Mod_takes_148 : decode prog_8_method_22_code 148 = .ok (.iinc 3 (1), 3) := by decide +kernel
theorem d_Mod_takes_151 : decode prog_8_method_22_code 151 = .ok (.goto (-143), 3) := by decide +kernel
theorem d_Mod_takes_154 : decode prog_8_method_22_code 154 = .ok (.iconst 0, 1) := by decide +kernel
theorem d_Mod_takes_155 : decode prog_8_method_22_code 155 = .ok (.istore_n 3, 1) := by decide +kernel
theorem d_Mod_takes_156 : decode prog_8_method_22_code 156 = .ok (.iload_n 3, 1) := by decide +kernel
theorem d_Mod_takes_157 : decode prog_8_method_22_code 157 = .ok (.bipush (40), 2) := by decide +kernel
theorem d_Mod_takes_159 : decode prog_8_method_22_code 159 = .ok (.if_icmp .ge (45), 3) := by decide +kernel
theorem d_Mod_takes_162 : decode prog_8_method_22_code 162 = .ok (.iload_n 2, 1) := by decide +kernel
theorem d_Mod_takes_163 : decode prog_8_method_22_code 163 = .ok (.iload_n 1, 1) := by decide +kernel
theorem d_Mod_takes_164 : decode prog_8_method_22_code 164 = .ok (.if_icmp .ge (40), 3) := by decide +kernel
theorem d_Mod_takes_167 : decode prog_8_method_22_code 167 = .ok (.aload_n 0, 1) := by decide +kernel
theorem d_Mod_takes_168 : decode prog_8_method_22_code 168 = .ok (.iload_n 3, 1) := by decide +kernel
theorem d_Mod_takes_169 : decode prog_8_method_22_code 169 = .ok (.invokevirtual 138, 3) := by decide +kernel
theorem d_Mod_takes_172 : decode prog_8_method_22_code 172 = .ok (.ifCond .eq (26), 3) := by decide +kernel
theorem d_Mod_takes_175 : decode prog_8_method_22_code 175 = .ok (.aload_n 0, 1) := by decide +kernel
theorem d_Mod_takes_176 : decode prog_8_method_22_code 176 = .ok (.getfield 39, 3) := by decide +kernel
theorem d_Mod_takes_179 : decode prog_8_method_22_code 179 = .ok (.iload_n 3, 1) := by decide +kernel
theorem d_Mod_takes_180 : decode prog_8_method_22_code 180 = .ok (.iaload, 1) := by decide +kernel
theorem d_Mod_takes_181 : decode prog_8_method_22_code 181 = .ok (.iconst 4, 1) := by decide +kernel
theorem d_Mod_takes_182 : decode prog_8_method_22_code 182 = .ok (.if_icmp .ge (16), 3) := by decide +kernel
theorem d_Mod_takes_185 : decode prog_8_method_22_code 185 = .ok (.aload_n 0, 1) := by decide +kernel
theorem d_Mod_takes_186 : decode prog_8_method_22_code 186 = .ok (.getfield 39, 3) := by decide +kernel
theorem d_Mod_takes_189 : decode prog_8_method_22_code 189 = .ok (.iload_n 3, 1) := by decide +kernel
theorem d_Mod_takes_190 : decode prog_8_method_22_code 190 = .ok (.iconst 4, 1) := by decide +kernel
theorem d_Mod_takes_191 : decode prog_8_method_22_code 191 = .ok (.iload_n 2, 1) := by decide +kernel
theorem d_Mod_takes_192 : decode prog_8_method_22_code 192 = .ok (.iadd, 1) := by decide +kernel
theorem d_Mod_takes_193 : decode prog_8_method_22_code 193 = .ok (.iastore, 1) := by decide +kernel
theorem d_Mod_takes_194 : decode prog_8_method_22_code 194 = .ok (.iload_n 2, 1) := by decide +kernel
theorem d_Mod_takes_195 : decode prog_8_method_22_code 195 = .ok (.iconst 1, 1) := by decide +kernel
theorem d_Mod_takes_196 : decode prog_8_method_22_code 196 = .ok (.iadd, 1) := by decide +kernel
theorem d_Mod_takes_197 : decode prog_8_method_22_code 197 = .ok (.istore_n 2, 1) := by decide +kernel
theorem d_Mod_takes_198 : decode prog_8_method_22_code 198 = .ok (.iinc 3 (1), 3) := by decide +kernel
theorem d_Mod_takes_201 : decode prog_8_method_22_code 201 = .ok (.goto (-45), 3) := by decide +kernel
theorem d_Mod_takes_204 : decode prog_8_method_22_code 204 = .ok (.iload_n 2, 1) := by decide +kernel
theorem d_Mod_takes_205 : decode prog_8_method_22_code 205 = .ok (.iload_n 1, 1) := by decide +kernel
theorem d_Mod_takes_206 : decode prog_8_method_22_code 206 = .ok (.if_icmp .ne (7), 3) := by decide +kernel
theorem d_Mod_takes_209 : decode prog_8_method_22_code 209 = .ok (.iconst 1, 1) := by decide +kernel
theorem d_Mod_takes_210 : decode prog_8_method_22_code 210 = .ok (.goto (4), 3) := by decide +kernel
theorem d_Mod_takes_213 : decode prog_8_method_22_code 213 = .ok (.iconst 0, 1) := by decide +kernel
theorem d_Mod_takes_214 : decode prog_8_method_22_code 214 = .ok (.ireturn, 1) := by decide +kernel
theorem d_Mod_taken_0 : decode prog_8_method_23_code 0 = .ok (.iconst (-1), 1) := by decide +kernel
theorem d_Mod_taken_1 : decode prog_8_method_23_code 1 = .ok (.istore_n 2, 1) := by decide +kernel
theorem d_Mod_taken_2 : decode prog_8_method_23_code 2 = .ok (.iconst 0, 1) := by decide +kernel
theorem d_Mod_taken_3 : decode prog_8_method_23_code 3 = .ok (.istore_n 3, 1) := by decide +kernel
theorem d_Mod_taken_4 : decode prog_8_method_23_code 4 = .ok (.iload_n 3, 1) := by decide +kernel
theorem d_Mod_taken_5 : decode prog_8_method_23_code 5 = .ok (.bipush (40), 2) := by decide +kernel
theorem d_Mod_taken_7 : decode prog_8_method_23_code 7 = .ok (.if_icmp .ge (27), 3) := by decide +kernel
theorem d_Mod_taken_10 : decode prog_8_method_23_code 10 = .ok (.aload_n 0, 1) := by decide +kernel
theorem d_Mod_taken_11 : decode prog_8_method_23_code 11 = .ok (.getfield 39, 3) := by decide +kernel
theorem d_Mod_taken_14 : decode prog_8_method_23_code 14 = .ok (.iload_n 3, 1) := by decide +kernel
theorem d_Mod_taken_15 : decode prog_8_method_23_code 15 = .ok (.iaload, 1) := by decide +kernel
theorem d_Mod_taken_16 : decode prog_8_method_23_code 16 = .ok (.iconst 4, 1) := by decide +kernel
theorem d_Mod_taken_17 : decode prog_8_method_23_code 17 = .ok (.iload_n 1, 1) := by decide +kernel
theorem d_Mod_taken_18 : decode prog_8_method_23_code 18 = .ok (.iadd, 1) := by decide +kernel
theorem d_Mod_taken_19 : decode prog_8_method_23_code 19 = .ok (.if_icmp .ne (7), 3) := by decide +kernel
theorem d_Mod_taken_22 : decode prog_8_method_23_code 22 = .ok (.iload_n 3, 1) := by decide +kernel
theorem d_Mod_taken_23 : decode prog_8_method_23_code 23 = .ok (.goto (4), 3) := by decide +kernel
theorem d_Mod_taken_26 : decode prog_8_method_23_code 26 = .ok (.iload_n 2, 1) := by decide +kernel
theorem d_Mod_taken_27 : decode prog_8_method_23_code 27 = .ok (.istore_n 2, 1) := by decide +kernel
theorem d_Mod_taken_28 : decode prog_8_method_23_code 28 = .ok (.iinc 3 (1), 3) := by decide +kernel
theorem d_Mod_taken_31 : decode prog_8_method_23_code 31 = .ok (.goto (-27), 3) := by decide +kernel
theorem d_Mod_taken_34 : decode prog_8_method_23_code 34 = .ok (.iload_n 2, 1) := by decide +kernel
theorem d_Mod_taken_35 : decode prog_8_method_23_code 35 = .ok (.ireturn, 1) := by decide +kernel
theorem d_Mod_putMap_0 : decode prog_8_method_24_code 0 = .ok (.aload_n 0, 1) := by decide +kernel
theorem d_Mod_putMap_1 : decode prog_8_method_24_code 1 = .ok (.getfield 132, 3) := by decide +kernel
theorem d_Mod_putMap_4 : decode prog_8_method_24_code 4 = .ok (.ifCond .lt (10), 3) := by decide +kernel
theorem d_Mod_putMap_7 : decode prog_8_method_24_code 7 = .ok (.aload_n 0, 1) := by decide +kernel
theorem d_Mod_putMap_8 : decode prog_8_method_24_code 8 = .ok (.getfield 90, 3) := by decide +kernel
theorem d_Mod_putMap_11 : decode prog_8_method_24_code 11 = .ok (.ifCond .le (4), 3) := by decide +kernel
theorem d_Mod_putMap_14 : decode prog_8_method_24_code 14 = .ok (.return_, 1) := by decide +kernel
theorem d_Mod_putMap_15 : decode prog_8_method_24_code 15 = .ok (.iconst 0, 1) := by decide +kernel
theorem d_Mod_putMap_16 : decode prog_8_method_24_code 16 = .ok (.istore_n 1, 1) := by decide +kernel
theorem d_Mod_putMap_17 : decode prog_8_method_24_code 17 = .ok (.iconst 0, 1) := by decide +kernel
theorem d_Mod_putMap_18 : decode prog_8_method_24_code 18 = .ok (.istore_n 2, 1) := by decide +kernel
theorem d_Mod_putMap_19 : decode prog_8_method_24_code 19 = .ok (.iload_n 2, 1) := by decide +kernel
theorem d_Mod_putMap_20 : decode prog_8_method_24_code 20 = .ok (.iconst 2, 1) := by decide +kernel
theorem d_Mod_putMap_21 : decode prog_8_method_24_code 21 = .ok (.if_icmp .ge (159), 3) := by decide +kernel
theorem d_Mod_putMap_24 : decode prog_8_method_24_code 24 = .ok (.iconst 0, 1) := by decide +kernel
theorem d_Mod_putMap_25 : decode prog_8_method_24_code 25 = .ok (.istore_n 3, 1) := by decide +kernel
theorem d_Mod_putMap_26 : decode prog_8_method_24_code 26 = .ok (.iload_n 3, 1) := by decide +kernel
theorem d_Mod_putMap_27 : decode prog_8_method_24_code 27 = .ok (.bipush (40), 2) := by decide +kernel
theorem d_Mod_putMap_29 : decode prog_8_method_24_code 29 = .ok (.if_icmp .ge (129), 3) := by decide +kernel
theorem d_Mod_putMap_32 : decode prog_8_method_24_code 32 = .ok (.bipush (8), 2) := by decide +kernel
theorem d_Mod_putMap_34 : decode prog_8_method_24_code 34 = .ok (.aload_n 0, 1) := by decide +kernel
theorem d_Mod_putMap_35 : decode prog_8_method_24_code 35 = .ok (.getfield 132, 3) := by decide +kernel
theorem d_Mod_putMap_38 : decode prog_8_method_24_code 38 = .ok (.imul, 1) := by decide +kernel
theorem d_Mod_putMap_39 : decode prog_8_method_24_code 39 = .ok (.iload_n 3, 1) := by decide +kernel
theorem d_Mod_putMap_40 : decode prog_8_method_24_code 40 = .ok (.bipush (8), 2) := by decide +kernel
theorem d_Mod_putMap_42 : decode prog_8_method_24_code 42 = .ok (.idiv, 1) := by decide +kernel
theorem d_Mod_putMap_43 : decode prog_8_method_24_code 43 = .ok (.iadd, 1) := by decide +kernel
theorem d_Mod_putMap_44 : decode prog_8_method_24_code 44 = .ok (.istore 4, 2) := by decide +kernel
theorem d_Mod_putMap_46 : decode prog_8_method_24_code 46 = .ok (.aload_n 0, 1) := by decide +kernel
theorem d_Mod_putMap_47 : decode prog_8_method_24_code 47 = .ok (.getfield 25, 3) := by decide +kernel
theorem d_Mod_putMap_50 : decode prog_8_method_24_code 50 = .ok (.iload 4, 2) := by decide +kernel
theorem d_Mod_putMap_52 : decode prog_8_method_24_code 52 = .ok (.iaload, 1) := by decide +kernel
theorem d_Mod_putMap_53 : decode prog_8_method_24_code 53 = .ok (.iload_n 3, 1) := by decide +kernel
theorem d_Mod_putMap_54 : decode prog_8_method_24_code 54 = .ok (.bipush (8), 2) := by decide +kernel
theorem d_Mod_putMap_56 : decode prog_8_method_24_code 56 = .ok (.irem, 1) := by decide +kernel
theorem d_Mod_putMap_57 : decode prog_8_method_24_code 57 = .ok (.ishr, 1) := by decide +kernel
theorem d_Mod_putMap_58 : decode prog_8_method_24_code 58 = .ok (.iconst 1, 1) := by decide +kernel
theorem d_Mod_putMap_59 : decode prog_8_method_24_code 59 = .ok (.iand, 1) := by decide +kernel
theorem d_Mod_putMap_60 : decode prog_8_method_24_code 60 = .ok (.iconst 1, 1) := by decide +kernel
theorem d_Mod_putMap_61 : decode prog_8_method_24_code 61 = .ok (.if_icmp .ne (7), 3) := by decide +kernel
theorem d_Mod_putMap_64 : decode prog_8_method_24_code 64 = .ok (.iconst 1, 1) := by decide +kernel
theorem d_Mod_putMap_65 : decode prog_8_method_24_code 65 = .ok (.goto (4), 3) := by decide +kernel
theorem d_Mod_putMap_68 : decode prog_8_method_24_code 68 = .ok (.iconst 0, 1) := by decide +kernel
theorem d_Mod_putMap_69 : decode prog_8_method_24_code 69 = .ok (.istore 5, 2) := by decide +kernel
theorem d_Mod_putMap_71 : decode prog_8_method_24_code 71 = .ok (.aload_n 0, 1) := by decide +kernel
theorem d_Mod_putMap_72 : decode prog_8_method_24_code 72 = .ok (.getfield 39, 3) := by decide +kernel
theorem d_Mod_putMap_75 : decode prog_8_method_24_code 75 = .ok (.iload_n 3, 1) := by decide +kernel
theorem d_Mod_putMap_76 : decode prog_8_method_24_code 76 = .ok (.iaload, 1) := by decide +kernel
theorem d_Mod_putMap_77 : decode prog_8_method_24_code 77 = .ok (.ifCond .ne (8), 3) := by decide +kernel
theorem d_Mod_putMap_80 : decode prog_8_method_24_code 80 = .ok (.iload 5, 2) := by decide +kernel
theorem d_Mod_putMap_82 : decode prog_8_method_24_code 82 = .ok (.goto (18), 3) := by decide +kernel
theorem d_Mod_putMap_85 : decode prog_8_method_24_code 85 = .ok (.aload_n 0, 1) := by decide +kernel
theorem d_Mod_putMap_86 : decode prog_8_method_24_code 86 = .ok (.getfield 39, 3) := by decide +kernel
theorem d_Mod_putMap_89 : decode prog_8_method_24_code 89 = .ok (.iload_n 3, 1) := by decide +kernel
theorem d_Mod_putMap_90 : decode prog_8_method_24_code 90 = .ok (.iaload, 1) := by decide +kernel
theorem d_Mod_putMap_91 : decode prog_8_method_24_code 91 = .ok (.iconst 3, 1) := by decide +kernel
theorem d_Mod_putMap_92 : decode prog_8_method_24_code 92 = .ok (.if_icmp .ne (7), 3) := by decide +kernel
theorem d_Mod_putMap_95 : decode prog_8_method_24_code 95 = .ok (.iconst 1, 1) := by decide +kernel
theorem d_Mod_putMap_96 : decode prog_8_method_24_code 96 = .ok (.goto (4), 3) := by decide +kernel
theorem d_Mod_putMap_99 : decode prog_8_method_24_code 99 = .ok (.iconst 0, 1) := by decide +kernel
theorem d_Mod_putMap_100 : decode prog_8_method_24_code 100 = .ok (.istore 6, 2) := by decide +kernel
theorem d_Mod_putMap_102 : decode prog_8_method_24_code 102 = .ok (.iload_n 1, 1) := by decide +kernel
theorem d_Mod_putMap_103 : decode prog_8_method_24_code 103 = .ok (.ifCond .ne (10), 3) := by decide +kernel
theorem d_Mod_putMap_106 : decode prog_8_method_24_code 106 = .ok (.iload 5, 2) := by decide +kernel
theorem d_Mod_putMap_108 : decode prog_8_method_24_code 108 = .ok (.iload 6, 2) := by decide +kernel
theorem d_Mod_putMap_110 : decode prog_8_method_24_code 110 = .ok (.if_icmp .eq (7), 3) := by decide +kernel
theorem d_Mod_putMap_113 : decode prog_8_method_24_code 113 = .ok (.iconst 1, 1) := by decide +kernel
theorem d_Mod_putMap_114 : decode prog_8_method_24_code 114 = .ok (.goto (4), 3) := by decide +kernel
theorem d_Mod_putMap_117 : decode prog_8_method_24_code 117 = .ok (.iconst 0, 1) := by decide +kernel
theorem d_Mod_putMap_118 : decode prog_8_method_24_code 118 = .ok (.istore_n 1, 1) := by decide +kernel
theorem d_Mod_putMap_119 : decode prog_8_method_24_code 119 = .ok (.iload_n 2, 1) := by decide +kernel
theorem d_Mod_putMap_120 : decode prog_8_method_24_code 120 = .ok (.iconst 1, 1) := by decide +kernel
theorem d_Mod_putMap_121 : decode prog_8_method_24_code 121 = .ok (.if_icmp .ne (31), 3) := by decide +kernel
theorem d_Mod_putMap_124 : decode prog_8_method_24_code 124 = .ok (.iload 5, 2) := by decide +kernel
theorem d_Mod_putMap_126 : decode prog_8_method_24_code 126 = .ok (.iload 6, 2) := by decide +kernel
theorem d_Mod_putMap_128 : decode prog_8_method_24_code 128 = .ok (.if_icmp .eq (24), 3) := by decide +kernel
theorem d_Mod_putMap_131 : decode prog_8_method_24_code 131 = .ok (.aload_n 0, 1) := by decide +kernel
theorem d_Mod_putMap_132 : decode prog_8_method_24_code 132 = .ok (.getfield 25, 3) := by decide +kernel
theorem d_Mod_putMap_135 : decode prog_8_method_24_code 135 = .ok (.iload 4, 2) := by decide +kernel
theorem d_Mod_putMap_137 : decode prog_8_method_24_code 137 = .ok (.aload_n 0, 1) := by decide +kernel
theorem d_Mod_putMap_138 : decode prog_8_method_24_code 138 = .ok (.getfield 25, 3) := by decide +kernel
theorem d_Mod_putMap_141 : decode prog_8_method_24_code 141 = .ok (.iload 4, 2) := by decide +kernel
theorem d_Mod_putMap_143 : decode prog_8_method_24_code 143 = .ok (.iaload, 1) := by decide +kernel
theorem d_Mod_putMap_144 : decode prog_8_method_24_code 144 = .ok (.iconst 1, 1) := by decide +kernel
theorem d_Mod_putMap_145 : decode prog_8_method_24_code 145 = .ok (.iload_n 3, 1) := by decide +kernel
theorem d_Mod_putMap_146 : decode prog_8_method_24_code 146 = .ok (.bipush (8), 2) := by decide +kernel
theorem d_Mod_putMap_148 : decode prog_8_method_24_code 148 = .ok (.irem, 1) := by decide +kernel
theorem d_Mod_putMap_149 : decode prog_8_method_24_code 149 = .ok (.ishl, 1) := by decide +kernel
theorem d_Mod_putMap_150 : decode prog_8_method_24_code 150 = .ok (.ixor, 1) := by decide +kernel
theorem d_Mod_putMap_151 : decode prog_8_method_24_code 151 = .ok (.iastore, 1) := by decide +kernel
theorem d_Mod_putMap_152 : decode prog_8_method_24_code 152 = .ok (.iinc 3 (1), 3) := by decide +kernel
theorem d_Mod_putMap_155 : decode prog_8_method_24_code 155 = .ok (.goto (-129), 3) := by decide +kernel
theorem d_Mod_putMap_158 : decode prog_8_method_24_code 158 = .ok (.iload_n 2, 1) := by decide +kernel
theorem d_Mod_putMap_159 : decode prog_8_method_24_code 159 = .ok (.ifCond .ne (15), 3) := by decide +kernel
theorem d_Mod_putMap_162 : decode prog_8_method_24_code 162 = .ok (.iload_n 1, 1) := by decide +kernel
theorem d_Mod_putMap_163 : decode prog_8_method_24_code 163 = .ok (.ifCond .eq (10), 3) := by decide +kernel
theorem d_Mod_putMap_166 : decode prog_8_method_24_code 166 = .ok (.aload_n 0, 1) := by decide +kernel
theorem d_Mod_putMap_167 : decode prog_8_method_24_code 167 = .ok (.invokevirtual 122, 3) := by decide +kernel
theorem d_Mod_putMap_170 : decode prog_8_method_24_code 170 = .ok (.ifCond .ne (4), 3) := by decide +kernel
theorem d_Mod_putMap_173 : decode prog_8_method_24_code 173 = .ok (.return_, 1) := by decide +kernel
theorem d_Mod_putMap_174 : decode prog_8_method_24_code 174 = .ok (.iinc 2 (1), 3) := by decide +kernel
theorem d_Mod_putMap_177 : decode prog_8_method_24_code 177 = .ok (.goto (-158), 3) := by decide +kernel
theorem d_Mod_putMap_180 : decode prog_8_method_24_code 180 = .ok (.return_, 1) := by decide +kernel
theorem d_Mod_append_0 : decode prog_8_method_25_code 0 = .ok (.aload_n 0, 1) := by decide +kernel
theorem d_Mod_append_1 : decode prog_8_method_25_code 1 = .ok (.invokevirtual 122, 3) := by decide +kernel
theorem d_Mod_append_4 : decode prog_8_method_25_code 4 = .ok (.ifCond .eq (73), 3) := by decide +kernel
theorem d_Mod_append_7 : decode prog_8_method_25_code 7 = .ok (.aload_n 0, 1) := by decide +kernel
theorem d_Mod_append_8 : decode prog_8_method_25_code 8 = .ok (.iload_n 3, 1) := by decide +kernel
theorem d_Mod_append_9 : decode prog_8_method_25_code 9 = .ok (.invokevirtual 125, 3) := by decide +kernel
theorem d_Mod_append_12 : decode prog_8_method_25_code 12 = .ok (.aload_n 0, 1) := by decide +kernel
theorem d_Mod_append_13 : decode prog_8_method_25_code 13 = .ok (.iload_n 3, 1) := by decide +kernel
theorem d_Mod_append_14 : decode prog_8_method_25_code 14 = .ok (.aload_n 0, 1) := by decide +kernel
theorem d_Mod_append_15 : decode prog_8_method_25_code 15 = .ok (.getfield 7, 3) := by decide +kernel
theorem d_Mod_append_18 : decode prog_8_method_25_code 18 = .ok (.iload_n 1, 1) := by decide +kernel
theorem d_Mod_append_19 : decode prog_8_method_25_code 19 = .ok (.iaload, 1) := by decide +kernel
theorem d_Mod_append_20 : decode prog_8_method_25_code 20 = .ok (.aload_n 0, 1) := by decide +kernel
theorem d_Mod_append_21 : decode prog_8_method_25_code 21 = .ok (.getfield 13, 3) := by decide +kernel
theorem d_Mod_append_24 : decode prog_8_method_25_code 24 = .ok (.iload_n 2, 1) := by decide +kernel
theorem d_Mod_append_25 : decode prog_8_method_25_code 25 = .ok (.iaload, 1) := by decide +kernel
theorem d_Mod_append_26 : decode prog_8_method_25_code 26 = .ok (.iconst 1, 1) := by decide +kernel
theorem d_Mod_append_27 : decode prog_8_method_25_code 27 = .ok (.iadd, 1) := by decide +kernel
theorem d_Mod_append_28 : decode prog_8_method_25_code 28 = .ok (.iload 4, 2) := by decide +kernel
theorem d_Mod_append_30 : decode prog_8_method_25_code 30 = .ok (.invokevirtual 66, 3) := by decide +kernel
theorem d_Mod_append_33 : decode prog_8_method_25_code 33 = .ok (.aload_n 0, 1) := by decide +kernel
theorem d_Mod_append_34 : decode prog_8_method_25_code 34 = .ok (.getfield 22, 3) := by decide +kernel
theorem d_Mod_append_37 : decode prog_8_method_25_code 37 = .ok (.iload_n 3, 1) := by decide +kernel
theorem d_Mod_append_38 : decode prog_8_method_25_code 38 = .ok (.iload_n 2, 1) := by decide +kernel
theorem d_Mod_append_39 : decode prog_8_method_25_code 39 = .ok (.iastore, 1) := by decide +kernel
theorem d_Mod_append_40 : decode prog_8_method_25_code 40 = .ok (.iload 4, 2) := by decide +kernel
theorem d_Mod_append_42 : decode prog_8_method_25_code 42 = .ok (.iconst 1, 1) := by decide +kernel
theorem d_Mod_append_43 : decode prog_8_method_25_code 43 = .ok (.if_icmp .ne (14), 3) := by decide +kernel
theorem d_Mod_append_46 : decode prog_8_method_25_code 46 = .ok (.aload_n 0, 1) := by decide +kernel
theorem d_Mod_append_47 : decode prog_8_method_25_code 47 = .ok (.getfield 25, 3) := by decide +kernel
theorem d_Mod_append_50 : decode prog_8_method_25_code 50 = .ok (.bipush (8), 2) := by decide +kernel
theorem d_Mod_append_52 : decode prog_8_method_25_code 52 = .ok (.iload_n 3, 1) := by decide +kernel
theorem d_Mod_append_53 : decode prog_8_method_25_code 53 = .ok (.imul, 1) := by decide +kernel
theorem d_Mod_append_54 : decode prog_8_method_25_code 54 = .ok (.iload 5, 2) := by decide +kernel
theorem d_Mod_append_56 : decode prog_8_method_25_code 56 = .ok (.iastore, 1) := by decide +kernel
theorem d_Mod_append_57 : decode prog_8_method_25_code 57 = .ok (.iload 4, 2) := by decide +kernel
theorem d_Mod_append_59 : decode prog_8_method_25_code 59 = .ok (.iconst 4, 1) := by decide +kernel
theorem d_Mod_append_60 : decode prog_8_method_25_code 60 = .ok (.if_icmp .ne (17), 3) := by decide +kernel
theorem d_Mod_append_63 : decode prog_8_method_25_code 63 = .ok (.aload_n 0, 1) := by decide +kernel
theorem d_Mod_append_64 : decode prog_8_method_25_code 64 = .ok (.bipush (8), 2) := by decide +kernel
theorem d_Mod_append_66 : decode prog_8_method_25_code 66 = .ok (.iload_n 3, 1) := by decide +kernel
theorem d_Mod_append_67 : decode prog_8_method_25_code 67 = .ok (.imul, 1) := by decide +kernel
theorem d_Mod_append_68 : decode prog_8_method_25_code 68 = .ok (.iload 5, 2) := by decide +kernel
theorem d_Mod_append_70 : decode prog_8_method_25_code 70 = .ok (.iload 6, 2) := by decide +kernel
theorem d_Mod_append_72 : decode prog_8_method_25_code 72 = .ok (.iload 7, 2) := by decide +kernel
theorem d_Mod_append_74 : decode prog_8_method_25_code 74 = .ok (.invokevirtual 142, 3) := by decide +kernel
theorem d_Mod_append_77 : decode prog_8_method_25_code 77 = .ok (.aload_n 0, 1) := by decide +kernel
theorem d_Mod_append_78 : decode prog_8_method_25_code 78 = .ok (.invokevirtual 122, 3) := by decide +kernel
theorem d_Mod_append_81 : decode prog_8_method_25_code 81 = .ok (.ifCond .eq (27), 3) := by decide +kernel
theorem d_Mod_append_84 : decode prog_8_method_25_code 84 = .ok (.aload_n 0, 1) := by decide +kernel
theorem d_Mod_append_85 : decode prog_8_method_25_code 85 = .ok (.getfield 19, 3) := by decide +kernel
theorem d_Mod_append_88 : decode prog_8_method_25_code 88 = .ok (.iload_n 2, 1) := by decide +kernel
theorem d_Mod_append_89 : decode prog_8_method_25_code 89 = .ok (.iload_n 3, 1) := by decide +kernel
theorem d_Mod_append_90 : decode prog_8_method_25_code 90 = .ok (.iastore, 1) := by decide +kernel
theorem d_Mod_append_91 : decode prog_8_method_25_code 91 = .ok (.iload_n 2, 1) := by decide +kernel
theorem d_Mod_append_92 : decode prog_8_method_25_code 92 = .ok (.iload_n 1, 1) := by decide +kernel
theorem d_Mod_append_93 : decode prog_8_method_25_code 93 = .ok (.if_icmp .ne (15), 3) := by decide +kernel
theorem d_Mod_append_96 : decode prog_8_method_25_code 96 = .ok (.aload_n 0, 1) := by decide +kernel
theorem d_Mod_append_97 : decode prog_8_method_25_code 97 = .ok (.getfield 25, 3) := by decide +kernel
theorem d_Mod_append_100 : decode prog_8_method_25_code 100 = .ok (.bipush (8), 2) := by decide +kernel
theorem d_Mod_append_102 : decode prog_8_method_25_code 102 = .ok (.iload_n 1, 1) := by decide +kernel
theorem d_Mod_append_103 : decode prog_8_method_25_code 103 = .ok (.imul, 1) := by decide +kernel
theorem d_Mod_append_104 : decode prog_8_method_25_code 104 = .ok (.iconst 3, 1) := by decide +kernel
theorem d_Mod_append_105 : decode prog_8_method_25_code 105 = .ok (.iadd, 1) := by decide +kernel
theorem d_Mod_append_106 : decode prog_8_method_25_code 106 = .ok (.iload_n 3, 1) := by decide +kernel
theorem d_Mod_append_107 : decode prog_8_method_25_code 107 = .ok (.iastore, 1) := by decide +kernel
theorem d_Mod_append_108 : decode prog_8_method_25_code 108 = .ok (.iload_n 2, 1) := by decide +kernel
theorem d_Mod_append_109 : decode prog_8_method_25_code 109 = .ok (.iload_n 1, 1) := by decide +kernel
theorem d_Mod_append_110 : decode prog_8_method_25_code 110 = .ok (.if_icmp .eq (22), 3) := by decide +kernel
theorem d_Mod_append_113 : decode prog_8_method_25_code 113 = .ok (.aload_n 0, 1) := by decide +kernel
theorem d_Mod_append_114 : decode prog_8_method_25_code 114 = .ok (.invokevirtual 122, 3) := by decide +kernel
theorem d_Mod_append_117 : decode prog_8_method_25_code 117 = .ok (.ifCond .eq (15), 3) := by decide +kernel
theorem d_Mod_append_120 : decode prog_8_method_25_code 120 = .ok (.aload_n 0, 1) := by decide +kernel
theorem d_Mod_append_121 : decode prog_8_method_25_code 121 = .ok (.getfield 25, 3) := by decide +kernel
theorem d_Mod_append_124 : decode prog_8_method_25_code 124 = .ok (.bipush (8), 2) := by decide +kernel
theorem d_Mod_append_126 : decode prog_8_method_25_code 126 = .ok (.iload_n 1, 1) := by decide +kernel
theorem d_Mod_append_127 : decode prog_8_method_25_code 127 = .ok (.imul, 1) := by decide +kernel
theorem d_Mod_append_128 : decode prog_8_method_25_code 128 = .ok (.iconst 3, 1) := by decide +kernel
theorem d_Mod_append_129 : decode prog_8_method_25_code 129 = .ok (.iadd, 1) := by decide +kernel
theorem d_Mod_append_130 : decode prog_8_method_25_code 130 = .ok (.iload_n 3, 1) := by decide +kernel
theorem d_Mod_append_131 : decode prog_8_method_25_code 131 = .ok (.iastore, 1) := by decide +kernel
theorem d_Mod_append_132 : decode prog_8_method_25_code 132 = .ok (.return_, 1) := by decide +kernel
theorem d_Mod_begin_0 : decode prog_8_method_26_code 0 = .ok (.aload_n 0, 1) := by decide +kernel
theorem d_Mod_begin_1 : decode prog_8_method_26_code 1 = .ok (.iconst 0, 1) := by decide +kernel
theorem d_Mod_begin_2 : decode prog_8_method_26_code 2 = .ok (.putfield 70, 3) := by decide +kernel
theorem d_Mod_begin_5 : decode prog_8_method_26_code 5 = .ok (.aload_n 0, 1) := by decide +kernel
theorem d_Mod_begin_6 : decode prog_8_method_26_code 6 = .ok (.aload_n 0, 1) := by decide +kernel
theorem d_Mod_begin_7 : decode prog_8_method_26_code 7 = .ok (.getfield 115, 3) := by decide +kernel
theorem d_Mod_begin_10 : decode prog_8_method_26_code 10 = .ok (.ifCond .eq (7), 3) := by decide +kernel
theorem d_Mod_begin_13 : decode prog_8_method_26_code 13 = .ok (.iconst 1, 1) := by decide +kernel
theorem d_Mod_begin_14 : decode prog_8_method_26_code 14 = .ok (.goto (4), 3) := by decide +kernel
theorem d_Mod_begin_17 : decode prog_8_method_26_code 17 = .ok (.iconst 0, 1) := by decide +kernel
theorem d_Mod_begin_18 : decode prog_8_method_26_code 18 = .ok (.putfield 90, 3) := by decide +kernel
theorem d_Mod_begin_21 : decode prog_8_method_26_code 21 = .ok (.aload_n 0, 1) := by decide +kernel
theorem d_Mod_begin_22 : decode prog_8_method_26_code 22 = .ok (.getfield 115, 3) := by decide +kernel
theorem d_Mod_begin_25 : decode prog_8_method_26_code 25 = .ok (.ifCond .eq (5), 3) := by decide +kernel
theorem d_Mod_begin_28 : decode prog_8_method_26_code 28 = .ok (.iconst (-1), 1) := by decide +kernel
theorem d_Mod_begin_29 : decode prog_8_method_26_code 29 = .ok (.ireturn, 1) := by decide +kernel
theorem d_Mod_begin_30 : decode prog_8_method_26_code 30 = .ok (.aload_n 0, 1) := by decide +kernel
theorem d_Mod_begin_31 : decode prog_8_method_26_code 31 = .ok (.iload_n 1, 1) := by decide +kernel
theorem d_Mod_begin_32 : decode prog_8_method_26_code 32 = .ok (.invokevirtual 129, 3) := by decide +kernel
theorem d_Mod_begin_35 : decode prog_8_method_26_code 35 = .ok (.istore_n 2, 1) := by decide +kernel
theorem d_Mod_begin_36 : decode prog_8_method_26_code 36 = .ok (.aload_n 0, 1) := by decide +kernel
theorem d_Mod_begin_37 : decode prog_8_method_26_code 37 = .ok (.iload_n 2, 1) := by decide +kernel
theorem d_Mod_begin_38 : decode prog_8_method_26_code 38 = .ok (.ifCond .ge (7), 3) := by decide +kernel
theorem d_Mod_begin_41 : decode prog_8_method_26_code 41 = .ok (.iconst 2, 1) := by decide +kernel
theorem d_Mod_begin_42 : decode prog_8_method_26_code 42 = .ok (.goto (4), 3) := by decide +kernel
theorem d_Mod_begin_45 : decode prog_8_method_26_code 45 = .ok (.iconst 0, 1) := by decide +kernel
theorem d_Mod_begin_46 : decode prog_8_method_26_code 46 = .ok (.putfield 90, 3) := by decide +kernel
theorem d_Mod_begin_49 : decode prog_8_method_26_code 49 = .ok (.iload_n 2, 1) := by decide +kernel
theorem d_Mod_begin_50 : decode prog_8_method_26_code 50 = .ok (.ireturn, 1) := by decide +kernel
theorem d_Mod_ends_0 : decode prog_8_method_27_code 0 = .ok (.aload_n 0, 1) := by decide +kernel
theorem d_Mod_ends_1 : decode prog_8_method_27_code 1 = .ok (.aload_n 0, 1) := by decide +kernel
theorem d_Mod_ends_2 : decode prog_8_method_27_code 2 = .ok (.getfield 90, 3) := by decide +kernel
theorem d_Mod_ends_5 : decode prog_8_method_27_code 5 = .ok (.ifCond .ne (7), 3) := by decide +kernel
theorem d_Mod_ends_8 : decode prog_8_method_27_code 8 = .ok (.iconst 0, 1) := by decide +kernel
theorem d_Mod_ends_9 : decode prog_8_method_27_code 9 = .ok (.goto (55), 3) := by decide +kernel
theorem d_Mod_ends_12 : decode prog_8_method_27_code 12 = .ok (.aload_n 0, 1) := by decide +kernel
theorem d_Mod_ends_13 : decode prog_8_method_27_code 13 = .ok (.getfield 90, 3) := by decide +kernel
theorem d_Mod_ends_16 : decode prog_8_method_27_code 16 = .ok (.iconst 1, 1) := by decide +kernel
theorem d_Mod_ends_17 : decode prog_8_method_27_code 17 = .ok (.if_icmp .ne (7), 3) := by decide +kernel
theorem d_Mod_ends_20 : decode prog_8_method_27_code 20 = .ok (.iload_n 2, 1) := by decide +kernel
theorem d_Mod_ends_21 : decode prog_8_method_27_code 21 = .ok (.goto (43), 3) := by decide +kernel
theorem d_Mod_ends_24 : decode prog_8_method_27_code 24 = .ok (.aload_n 0, 1) := by decide +kernel
theorem d_Mod_ends_25 : decode prog_8_method_27_code 25 = .ok (.getfield 90, 3) := by decide +kernel
theorem d_Mod_ends_28 : decode prog_8_method_27_code 28 = .ok (.iconst 2, 1) := by decide +kernel
theorem d_Mod_ends_29 : decode prog_8_method_27_code 29 = .ok (.if_icmp .ne (7), 3) := by decide +kernel
theorem d_Mod_ends_32 : decode prog_8_method_27_code 32 = .ok (.iload_n 3, 1) := by decide +kernel
theorem d_Mod_ends_33 : decode prog_8_method_27_code 33 = .ok (.goto (31), 3) := by decide +kernel
theorem d_Mod_ends_36 : decode prog_8_method_27_code 36 = .ok (.aload_n 0, 1) := by decide +kernel
theorem d_Mod_ends_37 : decode prog_8_method_27_code 37 = .ok (.getfield 90, 3) := by decide +kernel
theorem d_Mod_ends_40 : decode prog_8_method_27_code 40 = .ok (.iconst 3, 1) := by decide +kernel
theorem d_Mod_ends_41 : decode prog_8_method_27_code 41 = .ok (.if_icmp .ne (8), 3) := by decide +kernel
theorem d_Mod_ends_44 : decode prog_8_method_27_code 44 = .ok (.iload 4, 2) := by decide +kernel
theorem d_Mod_ends_46 : decode prog_8_method_27_code 46 = .ok (.goto (18), 3) := by decide +kernel
theorem d_Mod_ends_49 : decode prog_8_method_27_code 49 = .ok (.aload_n 0, 1) := by decide +kernel
theorem d_Mod_ends_50 : decode prog_8_method_27_code 50 = .ok (.getfield 90, 3) := by decide +kernel
theorem d_Mod_ends_53 : decode prog_8_method_27_code 53 = .ok (.iconst 4, 1) := by decide +kernel
theorem d_Mod_ends_54 : decode prog_8_method_27_code 54 = .ok (.if_icmp .ne (8), 3) := by decide +kernel
theorem d_Mod_ends_57 : decode prog_8_method_27_code 57 = .ok (.iload 5, 2) := by decide +kernel
theorem d_Mod_ends_59 : decode prog_8_method_27_code 59 = .ok (.goto (5), 3) := by decide +kernel
theorem d_Mod_ends_62 : decode prog_8_method_27_code 62 = .ok (.iload 6, 2) := by decide +kernel
theorem d_Mod_ends_64 : decode prog_8_method_27_code 64 = .ok (.putfield 70, 3) := by decide +kernel
theorem d_Mod_ends_67 : decode prog_8_method_27_code 67 = .ok (.aload_n 0, 1) := by decide +kernel
theorem d_Mod_ends_68 : decode prog_8_method_27_code 68 = .ok (.getfield 90, 3) := by decide +kernel
theorem d_Mod_ends_71 : decode prog_8_method_27_code 71 = .ok (.ifCond .ne (7), 3) := by decide +kernel
theorem d_Mod_ends_74 : decode prog_8_method_27_code 74 = .ok (.iload_n 1, 1) := by decide +kernel
theorem d_Mod_ends_75 : decode prog_8_method_27_code 75 = .ok (.goto (4), 3) := by decide +kernel
theorem d_Mod_ends_78 : decode prog_8_method_27_code 78 = .ok (.iconst 0, 1) := by decide +kernel
theorem d_Mod_ends_79 : decode prog_8_method_27_code 79 = .ok (.ireturn, 1) := by decide +kernel
theorem d_Mod_lowestSerial_0 : decode prog_8_method_28_code 0 = .ok (.iconst 3, 1) := by decide +kernel
theorem d_Mod_lowestSerial_1 : decode prog_8_method_28_code 1 = .ok (.istore_n 1, 1) := by decide +kernel
theorem d_Mod_lowestSerial_2 : decode prog_8_method_28_code 2 = .ok (.iconst 1, 1) := by decide +kernel
theorem d_Mod_lowestSerial_3 : decode prog_8_method_28_code 3 = .ok (.istore_n 2, 1) := by decide +kernel
theorem d_Mod_lowestSerial_4 : decode prog_8_method_28_code 4 = .ok (.iconst 3, 1) := by decide +kernel
theorem d_Mod_lowestSerial_5 : decode prog_8_method_28_code 5 = .ok (.istore_n 3, 1) := by decide +kernel
theorem d_Mod_lowestSerial_6 : decode prog_8_method_28_code 6 = .ok (.iload_n 3, 1) := by decide +kernel
theorem d_Mod_lowestSerial_7 : decode prog_8_method_28_code 7 = .ok (.bipush (61), 2) := by decide +kernel
theorem d_Mod_lowestSerial_9 : decode prog_8_method_28_code 9 = .ok (.if_icmp .ge (64), 3) := by decide +kernel
theorem d_Mod_lowestSerial_12 : decode prog_8_method_28_code 12 = .ok (.iload_n 2, 1) := by decide +kernel
theorem d_Mod_lowestSerial_13 : decode prog_8_method_28_code 13 = .ok (.ifCond .eq (60), 3) := by decide +kernel
theorem d_Mod_lowestSerial_16 : decode prog_8_method_28_code 16 = .ok (.iconst 0, 1) := by decide +kernel
theorem d_Mod_lowestSerial_17 : decode prog_8_method_28_code 17 = .ok (.istore_n 2, 1) := by decide +kernel
theorem d_Mod_lowestSerial_18 : decode prog_8_method_28_code 18 = .ok (.iconst 0, 1) := by decide +kernel
theorem d_Mod_lowestSerial_19 : decode prog_8_method_28_code 19 = .ok (.istore 4, 2) := by decide +kernel
theorem d_Mod_lowestSerial_21 : decode prog_8_method_28_code 21 = .ok (.iload 4, 2) := by decide +kernel
theorem d_Mod_lowestSerial_23 : decode prog_8_method_28_code 23 = .ok (.bipush (40), 2) := by decide +kernel
theorem d_Mod_lowestSerial_25 : decode prog_8_method_28_code 25 = .ok (.if_icmp .ge (40), 3) := by decide +kernel
theorem d_Mod_lowestSerial_28 : decode prog_8_method_28_code 28 = .ok (.iload_n 2, 1) := by decide +kernel
theorem d_Mod_lowestSerial_29 : decode prog_8_method_28_code 29 = .ok (.ifCond .ne (24), 3) := by decide +kernel
theorem d_Mod_lowestSerial_32 : decode prog_8_method_28_code 32 = .ok (.aload_n 0, 1) := by decide +kernel
theorem d_Mod_lowestSerial_33 : decode prog_8_method_28_code 33 = .ok (.getfield 28, 3) := by decide +kernel
theorem d_Mod_lowestSerial_36 : decode prog_8_method_28_code 36 = .ok (.iload 4, 2) := by decide +kernel
theorem d_Mod_lowestSerial_38 : decode prog_8_method_28_code 38 = .ok (.baload, 1) := by decide +kernel
theorem d_Mod_lowestSerial_39 : decode prog_8_method_28_code 39 = .ok (.ifCond .ne (18), 3) := by decide +kernel
theorem d_Mod_lowestSerial_42 : decode prog_8_method_28_code 42 = .ok (.aload_n 0, 1) := by decide +kernel
theorem d_Mod_lowestSerial_43 : decode prog_8_method_28_code 43 = .ok (.getfield 7, 3) := by decide +kernel
theorem d_Mod_lowestSerial_46 : decode prog_8_method_28_code 46 = .ok (.iload 4, 2) := by decide +kernel
theorem d_Mod_lowestSerial_48 : decode prog_8_method_28_code 48 = .ok (.iaload, 1) := by decide +kernel
theorem d_Mod_lowestSerial_49 : decode prog_8_method_28_code 49 = .ok (.iload_n 3, 1) := by decide +kernel
theorem d_Mod_lowestSerial_50 : decode prog_8_method_28_code 50 = .ok (.if_icmp .ne (7), 3) := by decide +kernel
theorem d_Mod_lowestSerial_53 : decode prog_8_method_28_code 53 = .ok (.iconst 1, 1) := by decide +kernel
theorem d_Mod_lowestSerial_54 : decode prog_8_method_28_code 54 = .ok (.goto (4), 3) := by decide +kernel
theorem d_Mod_lowestSerial_57 : decode prog_8_method_28_code 57 = .ok (.iconst 0, 1) := by decide +kernel
theorem d_Mod_lowestSerial_58 : decode prog_8_method_28_code 58 = .ok (.istore_n 2, 1) := by decide +kernel
theorem d_Mod_lowestSerial_59 : decode prog_8_method_28_code 59 = .ok (.iinc 4 (1), 3) := by decide +kernel
theorem d_Mod_lowestSerial_62 : decode prog_8_method_28_code 62 = .ok (.goto (-41), 3) := by decide +kernel
theorem d_Mod_lowestSerial_65 : decode prog_8_method_28_code 65 = .ok (.iload_n 3, 1) := by decide +kernel
theorem d_Mod_lowestSerial_66 : decode prog_8_method_28_code 66 = .ok (.istore_n 1, 1) := by decide +kernel
theorem d_Mod_lowestSerial_67 : decode prog_8_method_28_code 67 = .ok (.iinc 3 (1), 3) := by decide +kernel
theorem d_Mod_lowestSerial_70 : decode prog_8_method_28_code 70 = .ok (.goto (-64), 3) := by decide +kernel
theorem d_Mod_lowestSerial_73 : decode prog_8_method_28_code 73 = .ok (.iload_n 1, 1) := by decide +kernel
theorem d_Mod_lowestSerial_74 : decode prog_8_method_28_code 74 = .ok (.ireturn, 1) := by decide +kernel
theorem d_Mod_makeLeader_0 : decode prog_8_method_29_code 0 = .ok (.aload_n 0, 1) := by decide +kernel
theorem d_Mod_makeLeader_1 : decode prog_8_method_29_code 1 = .ok (.iload_n 1, 1) := by decide +kernel
theorem d_Mod_makeLeader_2 : decode prog_8_method_29_code 2 = .ok (.invokevirtual 125, 3) := by decide +kernel
theorem d_Mod_makeLeader_5 : decode prog_8_method_29_code 5 = .ok (.aload_n 0, 1) := by decide +kernel
theorem d_Mod_makeLeader_6 : decode prog_8_method_29_code 6 = .ok (.iload_n 1, 1) := by decide +kernel
theorem d_Mod_makeLeader_7 : decode prog_8_method_29_code 7 = .ok (.iload_n 2, 1) := by decide +kernel
theorem d_Mod_makeLeader_8 : decode prog_8_method_29_code 8 = .ok (.iconst 0, 1) := by decide +kernel
theorem d_Mod_makeLeader_9 : decode prog_8_method_29_code 9 = .ok (.bipush (8), 2) := by decide +kernel
theorem d_Mod_makeLeader_11 : decode prog_8_method_29_code 11 = .ok (.invokevirtual 66, 3) := by decide +kernel
theorem d_Mod_makeLeader_14 : decode prog_8_method_29_code 14 = .ok (.aload_n 0, 1) := by decide +kernel
theorem d_Mod_makeLeader_15 : decode prog_8_method_29_code 15 = .ok (.getfield 25, 3) := by decide +kernel
theorem d_Mod_makeLeader_18 : decode prog_8_method_29_code 18 = .ok (.bipush (8), 2) := by decide +kernel
theorem d_Mod_makeLeader_20 : decode prog_8_method_29_code 20 = .ok (.iload_n 1, 1) := by decide +kernel
theorem d_Mod_makeLeader_21 : decode prog_8_method_29_code 21 = .ok (.imul, 1) := by decide +kernel
theorem d_Mod_makeLeader_22 : decode prog_8_method_29_code 22 = .ok (.iload_n 3, 1) := by decide +kernel
theorem d_Mod_makeLeader_23 : decode prog_8_method_29_code 23 = .ok (.sipush (256), 3) := by decide +kernel
theorem d_Mod_makeLeader_26 : decode prog_8_method_29_code 26 = .ok (.idiv, 1) := by decide +kernel
theorem d_Mod_makeLeader_27 : decode prog_8_method_29_code 27 = .ok (.iastore, 1) := by decide +kernel
theorem d_Mod_makeLeader_28 : decode prog_8_method_29_code 28 = .ok (.aload_n 0, 1) := by decide +kernel
theorem d_Mod_makeLeader_29 : decode prog_8_method_29_code 29 = .ok (.getfield 25, 3) := by decide +kernel
theorem d_Mod_makeLeader_32 : decode prog_8_method_29_code 32 = .ok (.bipush (8), 2) := by decide +kernel
theorem d_Mod_makeLeader_34 : decode prog_8_method_29_code 34 = .ok (.iload_n 1, 1) := by decide +kernel
theorem d_Mod_makeLeader_35 : decode prog_8_method_29_code 35 = .ok (.imul, 1) := by decide +kernel
theorem d_Mod_makeLeader_36 : decode prog_8_method_29_code 36 = .ok (.iconst 1, 1) := by decide +kernel
theorem d_Mod_makeLeader_37 : decode prog_8_method_29_code 37 = .ok (.iadd, 1) := by decide +kernel
theorem d_Mod_makeLeader_38 : decode prog_8_method_29_code 38 = .ok (.iload_n 3, 1) := by decide +kernel
theorem d_Mod_makeLeader_39 : decode prog_8_method_29_code 39 = .ok (.sipush (256), 3) := by decide +kernel
theorem d_Mod_makeLeader_42 : decode prog_8_method_29_code 42 = .ok (.irem, 1) := by decide +kernel
theorem d_Mod_makeLeader_43 : decode prog_8_method_29_code 43 = .ok (.iastore, 1) := by decide +kernel
theorem d_Mod_makeLeader_44 : decode prog_8_method_29_code 44 = .ok (.aload_n 0, 1) := by decide +kernel
theorem d_Mod_makeLeader_45 : decode prog_8_method_29_code 45 = .ok (.getfield 25, 3) := by decide +kernel
theorem d_Mod_makeLeader_48 : decode prog_8_method_29_code 48 = .ok (.bipush (8), 2) := by decide +kernel
theorem d_Mod_makeLeader_50 : decode prog_8_method_29_code 50 = .ok (.iload_n 1, 1) := by decide +kernel
theorem d_Mod_makeLeader_51 : decode prog_8_method_29_code 51 = .ok (.imul, 1) := by decide +kernel
theorem d_Mod_makeLeader_52 : decode prog_8_method_29_code 52 = .ok (.iconst 2, 1) := by decide +kernel
theorem d_Mod_makeLeader_53 : decode prog_8_method_29_code 53 = .ok (.iadd, 1) := by decide +kernel
theorem d_Mod_makeLeader_54 : decode prog_8_method_29_code 54 = .ok (.iload 4, 2) := by decide +kernel
theorem d_Mod_makeLeader_56 : decode prog_8_method_29_code 56 = .ok (.iastore, 1) := by decide +kernel
theorem d_Mod_makeLeader_57 : decode prog_8_method_29_code 57 = .ok (.aload_n 0, 1) := by decide +kernel
theorem d_Mod_makeLeader_58 : decode prog_8_method_29_code 58 = .ok (.getfield 25, 3) := by decide +kernel
theorem d_Mod_makeLeader_61 : decode prog_8_method_29_code 61 = .ok (.bipush (8), 2) := by decide +kernel
theorem d_Mod_makeLeader_63 : decode prog_8_method_29_code 63 = .ok (.iload_n 1, 1) := by decide +kernel
theorem d_Mod_makeLeader_64 : decode prog_8_method_29_code 64 = .ok (.imul, 1) := by decide +kernel
theorem d_Mod_makeLeader_65 : decode prog_8_method_29_code 65 = .ok (.iconst 3, 1) := by decide +kernel
theorem d_Mod_makeLeader_66 : decode prog_8_method_29_code 66 = .ok (.iadd, 1) := by decide +kernel
theorem d_Mod_makeLeader_67 : decode prog_8_method_29_code 67 = .ok (.iload_n 1, 1) := by decide +kernel
theorem d_Mod_makeLeader_68 : decode prog_8_method_29_code 68 = .ok (.iastore, 1) := by decide +kernel
theorem d_Mod_makeLeader_69 : decode prog_8_method_29_code 69 = .ok (.return_, 1) := by decide +kernel
theorem d_Mod_created_0 : decode prog_8_method_30_code 0 = .ok (.aload_n 0, 1) := by decide +kernel
theorem d_Mod_created_1 : decode prog_8_method_30_code 1 = .ok (.getfield 99, 3) := by decide +kernel
theorem d_Mod_created_4 : decode prog_8_method_30_code 4 = .ok (.ifCond .ge (24), 3) := by decide +kernel
theorem d_Mod_created_7 : decode prog_8_method_30_code 7 = .ok (.aload_n 0, 1) := by decide +kernel
theorem d_Mod_created_8 : decode prog_8_method_30_code 8 = .ok (.getfield 102, 3) := by decide +kernel
theorem d_Mod_created_11 : decode prog_8_method_30_code 11 = .ok (.iload_n 1, 1) := by decide +kernel
theorem d_Mod_created_12 : decode prog_8_method_30_code 12 = .ok (.if_icmp .eq (20), 3) := by decide +kernel
theorem d_Mod_created_15 : decode prog_8_method_30_code 15 = .ok (.aload_n 0, 1) := by decide +kernel
theorem d_Mod_created_16 : decode prog_8_method_30_code 16 = .ok (.getfield 16, 3) := by decide +kernel
theorem d_Mod_created_19 : decode prog_8_method_30_code 19 = .ok (.aload_n 0, 1) := by decide +kernel
theorem d_Mod_created_20 : decode prog_8_method_30_code 20 = .ok (.getfield 102, 3) := by decide +kernel
theorem d_Mod_created_23 : decode prog_8_method_30_code 23 = .ok (.iaload, 1) := by decide +kernel
theorem d_Mod_created_24 : decode prog_8_method_30_code 24 = .ok (.iconst 4, 1) := by decide +kernel
theorem d_Mod_created_25 : decode prog_8_method_30_code 25 = .ok (.if_icmp .gt (7), 3) := by decide +kernel
theorem d_Mod_created_28 : decode prog_8_method_30_code 28 = .ok (.iconst 1, 1) := by decide +kernel
theorem d_Mod_created_29 : decode prog_8_method_30_code 29 = .ok (.goto (4), 3) := by decide +kernel
theorem d_Mod_created_32 : decode prog_8_method_30_code 32 = .ok (.iconst 0, 1) := by decide +kernel
theorem d_Mod_created_33 : decode prog_8_method_30_code 33 = .ok (.istore 4, 2) := by decide +kernel
theorem d_Mod_created_35 : decode prog_8_method_30_code 35 = .ok (.aload_n 0, 1) := by decide +kernel
theorem d_Mod_created_36 : decode prog_8_method_30_code 36 = .ok (.iload 4, 2) := by decide +kernel
theorem d_Mod_created_38 : decode prog_8_method_30_code 38 = .ok (.ifCond .eq (7), 3) := by decide +kernel
theorem d_Mod_created_41 : decode prog_8_method_30_code 41 = .ok (.iconst 1, 1) := by decide +kernel
theorem d_Mod_created_42 : decode prog_8_method_30_code 42 = .ok (.goto (4), 3) := by decide +kernel
theorem d_Mod_created_45 : decode prog_8_method_30_code 45 = .ok (.iconst 2, 1) := by decide +kernel
theorem d_Mod_created_46 : decode prog_8_method_30_code 46 = .ok (.invokevirtual 145, 3) := by decide +kernel
theorem d_Mod_created_49 : decode prog_8_method_30_code 49 = .ok (.ifCond .ne (10), 3) := by decide +kernel
theorem d_Mod_created_52 : decode prog_8_method_30_code 52 = .ok (.aload_n 0, 1) := by decide +kernel
theorem d_Mod_created_53 : decode prog_8_method_30_code 53 = .ok (.iconst 4, 1) := by decide +kernel
theorem d_Mod_created_54 : decode prog_8_method_30_code 54 = .ok (.putfield 90, 3) := by decide +kernel
theorem d_Mod_created_57 : decode prog_8_method_30_code 57 = .ok (.iconst 0, 1) := by decide +kernel
theorem d_Mod_created_58 : decode prog_8_method_30_code 58 = .ok (.ireturn, 1) := by decide +kernel
theorem d_Mod_created_59 : decode prog_8_method_30_code 59 = .ok (.aload_n 0, 1) := by decide +kernel
theorem d_Mod_created_60 : decode prog_8_method_30_code 60 = .ok (.invokevirtual 148, 3) := by decide +kernel
theorem d_Mod_created_63 : decode prog_8_method_30_code 63 = .ok (.istore 5, 2) := by decide +kernel
theorem d_Mod_created_65 : decode prog_8_method_30_code 65 = .ok (.aload_n 0, 1) := by decide +kernel
theorem d_Mod_created_66 : decode prog_8_method_30_code 66 = .ok (.iconst 0, 1) := by decide +kernel
theorem d_Mod_created_67 : decode prog_8_method_30_code 67 = .ok (.invokevirtual 152, 3) := by decide +kernel
theorem d_Mod_created_70 : decode prog_8_method_30_code 70 = .ok (.istore 6, 2) := by decide +kernel
theorem d_Mod_created_72 : decode prog_8_method_30_code 72 = .ok (.aload_n 0, 1) := by decide +kernel
theorem d_Mod_created_73 : decode prog_8_method_30_code 73 = .ok (.invokevirtual 122, 3) := by decide +kernel
theorem d_Mod_created_76 : decode prog_8_method_30_code 76 = .ok (.ifCond .eq (21), 3) := by decide +kernel
theorem d_Mod_created_79 : decode prog_8_method_30_code 79 = .ok (.aload_n 0, 1) := by decide +kernel
theorem d_Mod_created_80 : decode prog_8_method_30_code 80 = .ok (.iload 6, 2) := by decide +kernel
theorem d_Mod_created_82 : decode prog_8_method_30_code 82 = .ok (.iload 5, 2) := by decide +kernel
theorem d_Mod_created_84 : decode prog_8_method_30_code 84 = .ok (.iload_n 2, 1) := by decide +kernel
theorem d_Mod_created_85 : decode prog_8_method_30_code 85 = .ok (.iload_n 3, 1) := by decide +kernel
theorem d_Mod_created_86 : decode prog_8_method_30_code 86 = .ok (.ifCond .eq (7), 3) := by decide +kernel
theorem d_Mod_created_89 : decode prog_8_method_30_code 89 = .ok (.iconst 1, 1) := by decide +kernel
theorem d_Mod_created_90 : decode prog_8_method_30_code 90 = .ok (.goto (4), 3) := by decide +kernel
theorem d_Mod_created_93 : decode prog_8_method_30_code 93 = .ok (.iconst 0, 1) := by decide +kernel
theorem d_Mod_created_94 : decode prog_8_method_30_code 94 = .ok (.invokevirtual 155, 3) := by decide +kernel
theorem d_Mod_created_97 : decode prog_8_method_30_code 97 = .ok (.aload_n 0, 1) := by decide +kernel
theorem d_Mod_created_98 : decode prog_8_method_30_code 98 = .ok (.getfield 99, 3) := by decide +kernel
theorem d_Mod_created_101 : decode prog_8_method_30_code 101 = .ok (.ifCond .lt (26), 3) := by decide +kernel
theorem d_Mod_created_104 : decode prog_8_method_30_code 104 = .ok (.aload_n 0, 1) := by decide +kernel
theorem d_Mod_created_105 : decode prog_8_method_30_code 105 = .ok (.invokevirtual 122, 3) := by decide +kernel
theorem d_Mod_created_108 : decode prog_8_method_30_code 108 = .ok (.ifCond .eq (83), 3) := by decide +kernel
theorem d_Mod_created_111 : decode prog_8_method_30_code 111 = .ok (.aload_n 0, 1) := by decide +kernel
theorem d_Mod_created_112 : decode prog_8_method_30_code 112 = .ok (.aload_n 0, 1) := by decide +kernel
theorem d_Mod_created_113 : decode prog_8_method_30_code 113 = .ok (.getfield 112, 3) := by decide +kernel
theorem d_Mod_created_116 : decode prog_8_method_30_code 116 = .ok (.iload_n 2, 1) := by decide +kernel
theorem d_Mod_created_117 : decode prog_8_method_30_code 117 = .ok (.iload 5, 2) := by decide +kernel
theorem d_Mod_created_119 : decode prog_8_method_30_code 119 = .ok (.iload 6, 2) := by decide +kernel
theorem d_Mod_created_121 : decode prog_8_method_30_code 121 = .ok (.invokevirtual 142, 3) := by decide +kernel
theorem d_Mod_created_124 : decode prog_8_method_30_code 124 = .ok (.goto (67), 3) := by decide +kernel
theorem d_Mod_created_127 : decode prog_8_method_30_code 127 = .ok (.iload 4, 2) := by decide +kernel
theorem d_Mod_created_129 : decode prog_8_method_30_code 129 = .ok (.ifCond .eq (42), 3) := by decide +kernel
theorem d_Mod_created_132 : decode prog_8_method_30_code 132 = .ok (.aload_n 0, 1) := by decide +kernel
theorem d_Mod_created_133 : decode prog_8_method_30_code 133 = .ok (.invokevirtual 122, 3) := by decide +kernel
theorem d_Mod_created_136 : decode prog_8_method_30_code 136 = .ok (.ifCond .eq (55), 3) := by decide +kernel
theorem d_Mod_created_139 : decode prog_8_method_30_code 139 = .ok (.aload_n 0, 1) := by decide +kernel
theorem d_Mod_created_140 : decode prog_8_method_30_code 140 = .ok (.bipush (8), 2) := by decide +kernel
theorem d_Mod_created_142 : decode prog_8_method_30_code 142 = .ok (.aload_n 0, 1) := by decide +kernel
theorem d_Mod_created_143 : decode prog_8_method_30_code 143 = .ok (.getfield 102, 3) := by decide +kernel
theorem d_Mod_created_146 : decode prog_8_method_30_code 146 = .ok (.imul, 1) := by decide +kernel
theorem d_Mod_created_147 : decode prog_8_method_30_code 147 = .ok (.iconst 4, 1) := by decide +kernel
theorem d_Mod_created_148 : decode prog_8_method_30_code 148 = .ok (.iadd, 1) := by decide +kernel
theorem d_Mod_created_149 : decode prog_8_method_30_code 149 = .ok (.iload_n 2, 1) := by decide +kernel
theorem d_Mod_created_150 : decode prog_8_method_30_code 150 = .ok (.iload 5, 2) := by decide +kernel
theorem d_Mod_created_152 : decode prog_8_method_30_code 152 = .ok (.iload 6, 2) := by decide +kernel
theorem d_Mod_created_154 : decode prog_8_method_30_code 154 = .ok (.invokevirtual 142, 3) := by decide +kernel
theorem d_Mod_created_157 : decode prog_8_method_30_code 157 = .ok (.aload_n 0, 1) := by decide +kernel
theorem d_Mod_created_158 : decode prog_8_method_30_code 158 = .ok (.getfield 16, 3) := by decide +kernel
theorem d_Mod_created_161 : decode prog_8_method_30_code 161 = .ok (.aload_n 0, 1) := by decide +kernel
theorem d_Mod_created_162 : decode prog_8_method_30_code 162 = .ok (.getfield 102, 3) := by decide +kernel
theorem d_Mod_created_165 : decode prog_8_method_30_code 165 = .ok (.bipush (8), 2) := by decide +kernel
theorem d_Mod_created_167 : decode prog_8_method_30_code 167 = .ok (.iastore, 1) := by decide +kernel
theorem d_Mod_created_168 : decode prog_8_method_30_code 168 = .ok (.goto (23), 3) := by decide +kernel
theorem d_Mod_created_171 : decode prog_8_method_30_code 171 = .ok (.aload_n 0, 1) := by decide +kernel
theorem d_Mod_created_172 : decode prog_8_method_30_code 172 = .ok (.iload_n 1, 1) := by decide +kernel
theorem d_Mod_created_173 : decode prog_8_method_30_code 173 = .ok (.aload_n 0, 1) := by decide +kernel
theorem d_Mod_created_174 : decode prog_8_method_30_code 174 = .ok (.getfield 102, 3) := by decide +kernel
theorem d_Mod_created_177 : decode prog_8_method_30_code 177 = .ok (.aload_n 0, 1) := by decide +kernel
theorem d_Mod_created_178 : decode prog_8_method_30_code 178 = .ok (.iconst 1, 1) := by decide +kernel
theorem d_Mod_created_179 : decode prog_8_method_30_code 179 = .ok (.invokevirtual 152, 3) := by decide +kernel
theorem d_Mod_created_182 : decode prog_8_method_30_code 182 = .ok (.iconst 4, 1) := by decide +kernel
theorem d_Mod_created_183 : decode prog_8_method_30_code 183 = .ok (.iload_n 2, 1) := by decide +kernel
theorem d_Mod_created_184 : decode prog_8_method_30_code 184 = .ok (.iload 5, 2) := by decide +kernel
theorem d_Mod_created_186 : decode prog_8_method_30_code 186 = .ok (.iload 6, 2) := by decide +kernel
theorem d_Mod_created_188 : decode prog_8_method_30_code 188 = .ok (.invokevirtual 158, 3) := by decide +kernel
theorem d_Mod_created_191 : decode prog_8_method_30_code 191 = .ok (.aload_n 0, 1) := by decide +kernel
theorem d_Mod_created_192 : decode prog_8_method_30_code 192 = .ok (.invokevirtual 162, 3) := by decide +kernel
theorem d_Mod_created_195 : decode prog_8_method_30_code 195 = .ok (.aload_n 0, 1) := by decide +kernel
theorem d_Mod_created_196 : decode prog_8_method_30_code 196 = .ok (.getfield 90, 3) := by decide +kernel
theorem d_Mod_created_199 : decode prog_8_method_30_code 199 = .ok (.ifCond .ne (14), 3) := by decide +kernel
theorem d_Mod_created_202 : decode prog_8_method_30_code 202 = .ok (.aload_n 0, 1) := by decide +kernel
theorem d_Mod_created_203 : decode prog_8_method_30_code 203 = .ok (.getfield 32, 3) := by decide +kernel
theorem d_Mod_created_206 : decode prog_8_method_30_code 206 = .ok (.iload 5, 2) := by decide +kernel
theorem d_Mod_created_208 : decode prog_8_method_30_code 208 = .ok (.iload 6, 2) := by decide +kernel
theorem d_Mod_created_210 : decode prog_8_method_30_code 210 = .ok (.iconst 1, 1) := by decide +kernel
theorem d_Mod_created_211 : decode prog_8_method_30_code 211 = .ok (.iadd, 1) := by decide +kernel
theorem d_Mod_created_212 : decode prog_8_method_30_code 212 = .ok (.iastore, 1) := by decide +kernel
theorem d_Mod_created_213 : decode prog_8_method_30_code 213 = .ok (.iload 5, 2) := by decide +kernel
theorem d_Mod_created_215 : decode prog_8_method_30_code 215 = .ok (.ireturn, 1) := by decide +kernel
theorem d_Mod_create_0 : decode prog_8_method_31_code 0 = .ok (.aload_n 0, 1) := by decide +kernel
theorem d_Mod_create_1 : decode prog_8_method_31_code 1 = .ok (.iload_n 1, 1) := by decide +kernel
theorem d_Mod_create_2 : decode prog_8_method_31_code 2 = .ok (.invokevirtual 165, 3) := by decide +kernel
theorem d_Mod_create_5 : decode prog_8_method_31_code 5 = .ok (.istore 4, 2) := by decide +kernel
theorem d_Mod_create_7 : decode prog_8_method_31_code 7 = .ok (.iconst 0, 1) := by decide +kernel
theorem d_Mod_create_8 : decode prog_8_method_31_code 8 = .ok (.istore 5, 2) := by decide +kernel
theorem d_Mod_create_10 : decode prog_8_method_31_code 10 = .ok (.aload_n 0, 1) := by decide +kernel
theorem d_Mod_create_11 : decode prog_8_method_31_code 11 = .ok (.getfield 90, 3) := by decide +kernel
theorem d_Mod_create_14 : decode prog_8_method_31_code 14 = .ok (.ifCond .ne (93), 3) := by decide +kernel
theorem d_Mod_create_17 : decode prog_8_method_31_code 17 = .ok (.aload_n 0, 1) := by decide +kernel
theorem d_Mod_create_18 : decode prog_8_method_31_code 18 = .ok (.iload 4, 2) := by decide +kernel
theorem d_Mod_create_20 : decode prog_8_method_31_code 20 = .ok (.invokevirtual 168, 3) := by decide +kernel
theorem d_Mod_create_23 : decode prog_8_method_31_code 23 = .ok (.ifCond .eq (18), 3) := by decide +kernel
theorem d_Mod_create_26 : decode prog_8_method_31_code 26 = .ok (.iload_n 2, 1) := by decide +kernel
theorem d_Mod_create_27 : decode prog_8_method_31_code 27 = .ok (.iconst 1, 1) := by decide +kernel
theorem d_Mod_create_28 : decode prog_8_method_31_code 28 = .ok (.sipush (9999), 3) := by decide +kernel
theorem d_Mod_create_31 : decode prog_8_method_31_code 31 = .ok (.invokestatic 73, 3) := by decide +kernel
theorem d_Mod_create_34 : decode prog_8_method_31_code 34 = .ok (.ifCond .eq (7), 3) := by decide +kernel
theorem d_Mod_create_37 : decode prog_8_method_31_code 37 = .ok (.iconst 1, 1) := by decide +kernel
theorem d_Mod_create_38 : decode prog_8_method_31_code 38 = .ok (.goto (4), 3) := by decide +kernel
theorem d_Mod_create_41 : decode prog_8_method_31_code 41 = .ok (.iconst 0, 1) := by decide +kernel
theorem d_Mod_create_42 : decode prog_8_method_31_code 42 = .ok (.istore 6, 2) := by decide +kernel
theorem d_Mod_create_44 : decode prog_8_method_31_code 44 = .ok (.aload_n 0, 1) := by decide +kernel
theorem d_Mod_create_45 : decode prog_8_method_31_code 45 = .ok (.iload 6, 2) := by decide +kernel
theorem d_Mod_create_47 : decode prog_8_method_31_code 47 = .ok (.ifCond .eq (7), 3) := by decide +kernel
theorem d_Mod_create_50 : decode prog_8_method_31_code 50 = .ok (.iconst 0, 1) := by decide +kernel
theorem d_Mod_create_51 : decode prog_8_method_31_code 51 = .ok (.goto (4), 3) := by decide +kernel
theorem d_Mod_create_54 : decode prog_8_method_31_code 54 = .ok (.iconst 3, 1) := by decide +kernel
theorem d_Mod_create_55 : decode prog_8_method_31_code 55 = .ok (.putfield 90, 3) := by decide +kernel
theorem d_Mod_create_58 : decode prog_8_method_31_code 58 = .ok (.iload 6, 2) := by decide +kernel
theorem d_Mod_create_60 : decode prog_8_method_31_code 60 = .ok (.ifCond .eq (47), 3) := by decide +kernel
theorem d_Mod_create_63 : decode prog_8_method_31_code 63 = .ok (.aload_n 0, 1) := by decide +kernel
theorem d_Mod_create_64 : decode prog_8_method_31_code 64 = .ok (.iload 4, 2) := by decide +kernel
theorem d_Mod_create_66 : decode prog_8_method_31_code 66 = .ok (.iconst 0, 1) := by decide +kernel
theorem d_Mod_create_67 : decode prog_8_method_31_code 67 = .ok (.iload_n 2, 1) := by decide +kernel
theorem d_Mod_create_68 : decode prog_8_method_31_code 68 = .ok (.invokevirtual 171, 3) := by decide +kernel
theorem d_Mod_create_71 : decode prog_8_method_31_code 71 = .ok (.ifCond .eq (36), 3) := by decide +kernel
theorem d_Mod_create_74 : decode prog_8_method_31_code 74 = .ok (.aload_n 0, 1) := by decide +kernel
theorem d_Mod_create_75 : decode prog_8_method_31_code 75 = .ok (.aload_n 0, 1) := by decide +kernel
theorem d_Mod_create_76 : decode prog_8_method_31_code 76 = .ok (.getfield 96, 3) := by decide +kernel
theorem d_Mod_create_79 : decode prog_8_method_31_code 79 = .ok (.ifCond .lt (7), 3) := by decide +kernel
theorem d_Mod_create_82 : decode prog_8_method_31_code 82 = .ok (.iconst 4, 1) := by decide +kernel
theorem d_Mod_create_83 : decode prog_8_method_31_code 83 = .ok (.goto (4), 3) := by decide +kernel
theorem d_Mod_create_86 : decode prog_8_method_31_code 86 = .ok (.iconst 0, 1) := by decide +kernel
theorem d_Mod_create_87 : decode prog_8_method_31_code 87 = .ok (.putfield 90, 3) := by decide +kernel
theorem d_Mod_create_90 : decode prog_8_method_31_code 90 = .ok (.aload_n 0, 1) := by decide +kernel
theorem d_Mod_create_91 : decode prog_8_method_31_code 91 = .ok (.getfield 90, 3) := by decide +kernel
theorem d_Mod_create_94 : decode prog_8_method_31_code 94 = .ok (.ifCond .ne (13), 3) := by decide +kernel
theorem d_Mod_create_97 : decode prog_8_method_31_code 97 = .ok (.aload_n 0, 1) := by decide +kernel
theorem d_Mod_create_98 : decode prog_8_method_31_code 98 = .ok (.iload 4, 2) := by decide +kernel
theorem d_Mod_create_100 : decode prog_8_method_31_code 100 = .ok (.iload_n 2, 1) := by decide +kernel
theorem d_Mod_create_101 : decode prog_8_method_31_code 101 = .ok (.iload_n 3, 1) := by decide +kernel
theorem d_Mod_create_102 : decode prog_8_method_31_code 102 = .ok (.invokevirtual 174, 3) := by decide +kernel
theorem d_Mod_create_105 : decode prog_8_method_31_code 105 = .ok (.istore 5, 2) := by decide +kernel
theorem d_Mod_create_107 : decode prog_8_method_31_code 107 = .ok (.aload_n 0, 1) := by decide +kernel
theorem d_Mod_create_108 : decode prog_8_method_31_code 108 = .ok (.iload 5, 2) := by decide +kernel
theorem d_Mod_create_110 : decode prog_8_method_31_code 110 = .ok (.iconst 1, 1) := by decide +kernel
theorem d_Mod_create_111 : decode prog_8_method_31_code 111 = .ok (.iconst 2, 1) := by decide +kernel
theorem d_Mod_create_112 : decode prog_8_method_31_code 112 = .ok (.iconst 3, 1) := by decide +kernel
theorem d_Mod_create_113 : decode prog_8_method_31_code 113 = .ok (.iconst 4, 1) := by decide +kernel
theorem d_Mod_create_114 : decode prog_8_method_31_code 114 = .ok (.iconst 4, 1) := by decide +kernel
theorem d_Mod_create_115 : decode prog_8_method_31_code 115 = .ok (.invokevirtual 178, 3) := by decide +kernel
theorem d_Mod_create_118 : decode prog_8_method_31_code 118 = .ok (.ireturn, 1) := by decide +kernel
theorem d_Mod_opened_0 : decode prog_8_method_32_code 0 = .ok (.aload_n 0, 1) := by decide +kernel
theorem d_Mod_opened_1 : decode prog_8_method_32_code 1 = .ok (.iload_n 1, 1) := by decide +kernel
theorem d_Mod_opened_2 : decode prog_8_method_32_code 2 = .ok (.invokevirtual 165, 3) := by decide +kernel
theorem d_Mod_opened_5 : decode prog_8_method_32_code 5 = .ok (.istore_n 3, 1) := by decide +kernel
theorem d_Mod_opened_6 : decode prog_8_method_32_code 6 = .ok (.aload_n 0, 1) := by decide +kernel
theorem d_Mod_opened_7 : decode prog_8_method_32_code 7 = .ok (.getfield 90, 3) := by decide +kernel
theorem d_Mod_opened_10 : decode prog_8_method_32_code 10 = .ok (.ifCond .le (5), 3) := by decide +kernel
theorem d_Mod_opened_13 : decode prog_8_method_32_code 13 = .ok (.iconst (-1), 1) := by decide +kernel
theorem d_Mod_opened_14 : decode prog_8_method_32_code 14 = .ok (.ireturn, 1) := by decide +kernel
theorem d_Mod_opened_15 : decode prog_8_method_32_code 15 = .ok (.aload_n 0, 1) := by decide +kernel
theorem d_Mod_opened_16 : decode prog_8_method_32_code 16 = .ok (.aload_n 0, 1) := by decide +kernel
theorem d_Mod_opened_17 : decode prog_8_method_32_code 17 = .ok (.iload_n 3, 1) := by decide +kernel
theorem d_Mod_opened_18 : decode prog_8_method_32_code 18 = .ok (.invokevirtual 168, 3) := by decide +kernel
theorem d_Mod_opened_21 : decode prog_8_method_32_code 21 = .ok (.ifCond .eq (7), 3) := by decide +kernel
theorem d_Mod_opened_24 : decode prog_8_method_32_code 24 = .ok (.iconst 0, 1) := by decide +kernel
theorem d_Mod_opened_25 : decode prog_8_method_32_code 25 = .ok (.goto (4), 3) := by decide +kernel
theorem d_Mod_opened_28 : decode prog_8_method_32_code 28 = .ok (.iconst 3, 1) := by decide +kernel
theorem d_Mod_opened_29 : decode prog_8_method_32_code 29 = .ok (.putfield 90, 3) := by decide +kernel
theorem d_Mod_opened_32 : decode prog_8_method_32_code 32 = .ok (.aload_n 0, 1) := by decide +kernel
theorem d_Mod_opened_33 : decode prog_8_method_32_code 33 = .ok (.getfield 90, 3) := by decide +kernel
theorem d_Mod_opened_36 : decode prog_8_method_32_code 36 = .ok (.ifCond .gt (13), 3) := by decide +kernel
theorem d_Mod_opened_39 : decode prog_8_method_32_code 39 = .ok (.aload_n 0, 1) := by decide +kernel
theorem d_Mod_opened_40 : decode prog_8_method_32_code 40 = .ok (.iload_n 3, 1) := by decide +kernel
theorem d_Mod_opened_41 : decode prog_8_method_32_code 41 = .ok (.iconst 0, 1) := by decide +kernel
theorem d_Mod_opened_42 : decode prog_8_method_32_code 42 = .ok (.iload_n 2, 1) := by decide +kernel
theorem d_Mod_opened_43 : decode prog_8_method_32_code 43 = .ok (.invokevirtual 171, 3) := by decide +kernel
theorem d_Mod_opened_46 : decode prog_8_method_32_code 46 = .ok (.ifCond .ne (5), 3) := by decide +kernel
theorem d_Mod_opened_49 : decode prog_8_method_32_code 49 = .ok (.iconst (-1), 1) := by decide +kernel
theorem d_Mod_opened_50 : decode prog_8_method_32_code 50 = .ok (.ireturn, 1) := by decide +kernel
theorem d_Mod_opened_51 : decode prog_8_method_32_code 51 = .ok (.aload_n 0, 1) := by decide +kernel
theorem d_Mod_opened_52 : decode prog_8_method_32_code 52 = .ok (.getfield 96, 3) := by decide +kernel
theorem d_Mod_opened_55 : decode prog_8_method_32_code 55 = .ok (.ifCond .lt (17), 3) := by decide +kernel
theorem d_Mod_opened_58 : decode prog_8_method_32_code 58 = .ok (.aload_n 0, 1) := by decide +kernel
theorem d_Mod_opened_59 : decode prog_8_method_32_code 59 = .ok (.getfield 25, 3) := by decide +kernel
theorem d_Mod_opened_62 : decode prog_8_method_32_code 62 = .ok (.aload_n 0, 1) := by decide +kernel
theorem d_Mod_opened_63 : decode prog_8_method_32_code 63 = .ok (.getfield 109, 3) := by decide +kernel
theorem d_Mod_opened_66 : decode prog_8_method_32_code 66 = .ok (.iconst 2, 1) := by decide +kernel
theorem d_Mod_opened_67 : decode prog_8_method_32_code 67 = .ok (.iadd, 1) := by decide +kernel
theorem d_Mod_opened_68 : decode prog_8_method_32_code 68 = .ok (.iaload, 1) := by decide +kernel
theorem d_Mod_opened_69 : decode prog_8_method_32_code 69 = .ok (.goto (4), 3) := by decide +kernel
theorem d_Mod_opened_72 : decode prog_8_method_32_code 72 = .ok (.iconst 0, 1) := by decide +kernel
theorem d_Mod_opened_73 : decode prog_8_method_32_code 73 = .ok (.istore 4, 2) := by decide +kernel
theorem d_Mod_opened_75 : decode prog_8_method_32_code 75 = .ok (.iload 4, 2) := by decide +kernel
theorem d_Mod_opened_77 : decode prog_8_method_32_code 77 = .ok (.iconst 3, 1) := by decide +kernel
theorem d_Mod_opened_78 : decode prog_8_method_32_code 78 = .ok (.bipush (60), 2) := by decide +kernel
theorem d_Mod_opened_80 : decode prog_8_method_32_code 80 = .ok (.invokestatic 73, 3) := by decide +kernel
theorem d_Mod_opened_83 : decode prog_8_method_32_code 83 = .ok (.ifCond .ne (10), 3) := by decide +kernel
theorem d_Mod_opened_86 : decode prog_8_method_32_code 86 = .ok (.aload_n 0, 1) := by decide +kernel
theorem d_Mod_opened_87 : decode prog_8_method_32_code 87 = .ok (.iconst 2, 1) := by decide +kernel
theorem d_Mod_opened_88 : decode prog_8_method_32_code 88 = .ok (.putfield 90, 3) := by decide +kernel
theorem d_Mod_opened_91 : decode prog_8_method_32_code 91 = .ok (.iconst (-1), 1) := by decide +kernel
theorem d_Mod_opened_92 : decode prog_8_method_32_code 92 = .ok (.ireturn, 1) := by decide +kernel
theorem d_Mod_opened_93 : decode prog_8_method_32_code 93 = .ok (.aload_n 0, 1) := by decide +kernel
theorem d_Mod_opened_94 : decode prog_8_method_32_code 94 = .ok (.getfield 25, 3) := by decide +kernel
theorem d_Mod_opened_97 : decode prog_8_method_32_code 97 = .ok (.aload_n 0, 1) := by decide +kernel
theorem d_Mod_opened_98 : decode prog_8_method_32_code 98 = .ok (.getfield 109, 3) := by decide +kernel
theorem d_Mod_opened_101 : decode prog_8_method_32_code 101 = .ok (.iconst 3, 1) := by decide +kernel
theorem d_Mod_opened_102 : decode prog_8_method_32_code 102 = .ok (.iadd, 1) := by decide +kernel
theorem d_Mod_opened_103 : decode prog_8_method_32_code 103 = .ok (.iaload, 1) := by decide +kernel
theorem d_Mod_opened_104 : decode prog_8_method_32_code 104 = .ok (.istore 5, 2) := by decide +kernel
theorem d_Mod_opened_106 : decode prog_8_method_32_code 106 = .ok (.aload_n 0, 1) := by decide +kernel
theorem d_Mod_opened_107 : decode prog_8_method_32_code 107 = .ok (.iload 5, 2) := by decide +kernel
theorem d_Mod_opened_109 : decode prog_8_method_32_code 109 = .ok (.iload 4, 2) := by decide +kernel
theorem d_Mod_opened_111 : decode prog_8_method_32_code 111 = .ok (.iconst 0, 1) := by decide +kernel
theorem d_Mod_opened_112 : decode prog_8_method_32_code 112 = .ok (.invokevirtual 83, 3) := by decide +kernel
theorem d_Mod_opened_115 : decode prog_8_method_32_code 115 = .ok (.ifCond .eq (17), 3) := by decide +kernel
theorem d_Mod_opened_118 : decode prog_8_method_32_code 118 = .ok (.aload_n 0, 1) := by decide +kernel
theorem d_Mod_opened_119 : decode prog_8_method_32_code 119 = .ok (.getfield 32, 3) := by decide +kernel
theorem d_Mod_opened_122 : decode prog_8_method_32_code 122 = .ok (.iload 4, 2) := by decide +kernel
theorem d_Mod_opened_124 : decode prog_8_method_32_code 124 = .ok (.iload 5, 2) := by decide +kernel
theorem d_Mod_opened_126 : decode prog_8_method_32_code 126 = .ok (.iconst 1, 1) := by decide +kernel
theorem d_Mod_opened_127 : decode prog_8_method_32_code 127 = .ok (.iadd, 1) := by decide +kernel
theorem d_Mod_opened_128 : decode prog_8_method_32_code 128 = .ok (.iastore, 1) := by decide +kernel
theorem d_Mod_opened_129 : decode prog_8_method_32_code 129 = .ok (.iload 5, 2) := by decide +kernel
theorem d_Mod_opened_131 : decode prog_8_method_32_code 131 = .ok (.ireturn, 1) := by decide +kernel
theorem d_Mod_opened_132 : decode prog_8_method_32_code 132 = .ok (.aload_n 0, 1) := by decide +kernel
theorem d_Mod_opened_133 : decode prog_8_method_32_code 133 = .ok (.iload 4, 2) := by decide +kernel
theorem d_Mod_opened_135 : decode prog_8_method_32_code 135 = .ok (.invokevirtual 129, 3) := by decide +kernel
theorem d_Mod_opened_138 : decode prog_8_method_32_code 138 = .ok (.istore 5, 2) := by decide +kernel
theorem d_Mod_opened_140 : decode prog_8_method_32_code 140 = .ok (.aload_n 0, 1) := by decide +kernel
theorem d_Mod_opened_141 : decode prog_8_method_32_code 141 = .ok (.iload 5, 2) := by decide +kernel
theorem d_Mod_opened_143 : decode prog_8_method_32_code 143 = .ok (.ifCond .ge (7), 3) := by decide +kernel
theorem d_Mod_opened_146 : decode prog_8_method_32_code 146 = .ok (.iconst 2, 1) := by decide +kernel
theorem d_Mod_opened_147 : decode prog_8_method_32_code 147 = .ok (.goto (4), 3) := by decide +kernel
theorem d_Mod_opened_150 : decode prog_8_method_32_code 150 = .ok (.iconst 0, 1) := by decide +kernel
theorem d_Mod_opened_151 : decode prog_8_method_32_code 151 = .ok (.putfield 90, 3) := by decide +kernel
theorem d_Mod_opened_154 : decode prog_8_method_32_code 154 = .ok (.iload 5, 2) := by decide +kernel
theorem d_Mod_opened_156 : decode prog_8_method_32_code 156 = .ok (.ireturn, 1) := by decide +kernel
theorem d_Mod_open_0 : decode prog_8_method_33_code 0 = .ok (.aload_n 0, 1) := by decide +kernel
theorem d_Mod_open_1 : decode prog_8_method_33_code 1 = .ok (.iload_n 1, 1) := by decide +kernel
theorem d_Mod_open_2 : decode prog_8_method_33_code 2 = .ok (.iload_n 2, 1) := by decide +kernel
theorem d_Mod_open_3 : decode prog_8_method_33_code 3 = .ok (.invokevirtual 182, 3) := by decide +kernel
theorem d_Mod_open_6 : decode prog_8_method_33_code 6 = .ok (.istore_n 3, 1) := by decide +kernel
theorem d_Mod_open_7 : decode prog_8_method_33_code 7 = .ok (.aload_n 0, 1) := by decide +kernel
theorem d_Mod_open_8 : decode prog_8_method_33_code 8 = .ok (.iload_n 3, 1) := by decide +kernel
theorem d_Mod_open_9 : decode prog_8_method_33_code 9 = .ok (.ifCond .ge (7), 3) := by decide +kernel
theorem d_Mod_open_12 : decode prog_8_method_33_code 12 = .ok (.iconst 0, 1) := by decide +kernel
theorem d_Mod_open_13 : decode prog_8_method_33_code 13 = .ok (.goto (9), 3) := by decide +kernel
theorem d_Mod_open_16 : decode prog_8_method_33_code 16 = .ok (.aload_n 0, 1) := by decide +kernel
theorem d_Mod_open_17 : decode prog_8_method_33_code 17 = .ok (.getfield 7, 3) := by decide +kernel
theorem d_Mod_open_20 : decode prog_8_method_33_code 20 = .ok (.iload_n 3, 1) := by decide +kernel
theorem d_Mod_open_21 : decode prog_8_method_33_code 21 = .ok (.iaload, 1) := by decide +kernel
theorem d_Mod_open_22 : decode prog_8_method_33_code 22 = .ok (.iconst 1, 1) := by decide +kernel
theorem d_Mod_open_23 : decode prog_8_method_33_code 23 = .ok (.iconst 2, 1) := by decide +kernel
theorem d_Mod_open_24 : decode prog_8_method_33_code 24 = .ok (.iconst 3, 1) := by decide +kernel
theorem d_Mod_open_25 : decode prog_8_method_33_code 25 = .ok (.iconst 4, 1) := by decide +kernel
theorem d_Mod_open_26 : decode prog_8_method_33_code 26 = .ok (.iconst 4, 1) := by decide +kernel
theorem d_Mod_open_27 : decode prog_8_method_33_code 27 = .ok (.invokevirtual 178, 3) := by decide +kernel
theorem d_Mod_open_30 : decode prog_8_method_33_code 30 = .ok (.ireturn, 1) := by decide +kernel
theorem d_Mod_read_0 : decode prog_8_method_34_code 0 = .ok (.aload_n 0, 1) := by decide +kernel
theorem d_Mod_read_1 : decode prog_8_method_34_code 1 = .ok (.iload_n 1, 1) := by decide +kernel
theorem d_Mod_read_2 : decode prog_8_method_34_code 2 = .ok (.invokevirtual 165, 3) := by decide +kernel
theorem d_Mod_read_5 : decode prog_8_method_34_code 5 = .ok (.istore_n 3, 1) := by decide +kernel
theorem d_Mod_read_6 : decode prog_8_method_34_code 6 = .ok (.iconst 0, 1) := by decide +kernel
theorem d_Mod_read_7 : decode prog_8_method_34_code 7 = .ok (.istore 4, 2) := by decide +kernel
theorem d_Mod_read_9 : decode prog_8_method_34_code 9 = .ok (.aload_n 0, 1) := by decide +kernel
theorem d_Mod_read_10 : decode prog_8_method_34_code 10 = .ok (.getfield 90, 3) := by decide +kernel
theorem d_Mod_read_13 : decode prog_8_method_34_code 13 = .ok (.ifCond .ne (11), 3) := by decide +kernel
theorem d_Mod_read_16 : decode prog_8_method_34_code 16 = .ok (.aload_n 0, 1) := by decide +kernel
theorem d_Mod_read_17 : decode prog_8_method_34_code 17 = .ok (.iload_n 3, 1) := by decide +kernel
theorem d_Mod_read_18 : decode prog_8_method_34_code 18 = .ok (.invokevirtual 185, 3) := by decide +kernel
theorem d_Mod_read_21 : decode prog_8_method_34_code 21 = .ok (.goto (4), 3) := by decide +kernel
theorem d_Mod_read_24 : decode prog_8_method_34_code 24 = .ok (.iconst (-1), 1) := by decide +kernel
theorem d_Mod_read_25 : decode prog_8_method_34_code 25 = .ok (.istore 5, 2) := by decide +kernel
theorem d_Mod_read_27 : decode prog_8_method_34_code 27 = .ok (.iload 5, 2) := by decide +kernel
theorem d_Mod_read_29 : decode prog_8_method_34_code 29 = .ok (.ifCond .lt (80), 3) := by decide +kernel
theorem d_Mod_read_32 : decode prog_8_method_34_code 32 = .ok (.aload_n 0, 1) := by decide +kernel
theorem d_Mod_read_33 : decode prog_8_method_34_code 33 = .ok (.iload_n 2, 1) := by decide +kernel
theorem d_Mod_read_34 : decode prog_8_method_34_code 34 = .ok (.iconst 0, 1) := by decide +kernel
theorem d_Mod_read_35 : decode prog_8_method_34_code 35 = .ok (.aload_n 0, 1) := by decide +kernel
theorem d_Mod_read_36 : decode prog_8_method_34_code 36 = .ok (.iload 5, 2) := by decide +kernel
theorem d_Mod_read_38 : decode prog_8_method_34_code 38 = .ok (.invokevirtual 188, 3) := by decide +kernel
theorem d_Mod_read_41 : decode prog_8_method_34_code 41 = .ok (.iconst 1, 1) := by decide +kernel
theorem d_Mod_read_42 : decode prog_8_method_34_code 42 = .ok (.isub, 1) := by decide +kernel
theorem d_Mod_read_43 : decode prog_8_method_34_code 43 = .ok (.invokestatic 73, 3) := by decide +kernel
theorem d_Mod_read_46 : decode prog_8_method_34_code 46 = .ok (.ifCond .eq (7), 3) := by decide +kernel
theorem d_Mod_read_49 : decode prog_8_method_34_code 49 = .ok (.iconst 0, 1) := by decide +kernel
theorem d_Mod_read_50 : decode prog_8_method_34_code 50 = .ok (.goto (4), 3) := by decide +kernel
theorem d_Mod_read_53 : decode prog_8_method_34_code 53 = .ok (.iconst 5, 1) := by decide +kernel
theorem d_Mod_read_54 : decode prog_8_method_34_code 54 = .ok (.putfield 90, 3) := by decide +kernel
theorem d_Mod_read_57 : decode prog_8_method_34_code 57 = .ok (.aload_n 0, 1) := by decide +kernel
theorem d_Mod_read_58 : decode prog_8_method_34_code 58 = .ok (.getfield 90, 3) := by decide +kernel
theorem d_Mod_read_61 : decode prog_8_method_34_code 61 = .ok (.ifCond .ne (19), 3) := by decide +kernel
theorem d_Mod_read_64 : decode prog_8_method_34_code 64 = .ok (.aload_n 0, 1) := by decide +kernel
theorem d_Mod_read_65 : decode prog_8_method_34_code 65 = .ok (.iload_n 3, 1) := by decide +kernel
theorem d_Mod_read_66 : decode prog_8_method_34_code 66 = .ok (.iload 5, 2) := by decide +kernel
theorem d_Mod_read_68 : decode prog_8_method_34_code 68 = .ok (.iload_n 2, 1) := by decide +kernel
theorem d_Mod_read_69 : decode prog_8_method_34_code 69 = .ok (.bipush (8), 2) := by decide +kernel
theorem d_Mod_read_71 : decode prog_8_method_34_code 71 = .ok (.idiv, 1) := by decide +kernel
theorem d_Mod_read_72 : decode prog_8_method_34_code 72 = .ok (.iconst 1, 1) := by decide +kernel
theorem d_Mod_read_73 : decode prog_8_method_34_code 73 = .ok (.iadd, 1) := by decide +kernel
theorem d_Mod_read_74 : decode prog_8_method_34_code 74 = .ok (.invokevirtual 191, 3) := by decide +kernel
theorem d_Mod_read_77 : decode prog_8_method_34_code 77 = .ok (.goto (4), 3) := by decide +kernel
theorem d_Mod_read_80 : decode prog_8_method_34_code 80 = .ok (.iconst (-1), 1) := by decide +kernel
theorem d_Mod_read_81 : decode prog_8_method_34_code 81 = .ok (.istore 6, 2) := by decide +kernel
theorem d_Mod_read_83 : decode prog_8_method_34_code 83 = .ok (.iload 6, 2) := by decide +kernel
theorem d_Mod_read_85 : decode prog_8_method_34_code 85 = .ok (.ifCond .ge (7), 3) := by decide +kernel
theorem d_Mod_read_88 : decode prog_8_method_34_code 88 = .ok (.iconst 0, 1) := by decide +kernel
theorem d_Mod_read_89 : decode prog_8_method_34_code 89 = .ok (.goto (18), 3) := by decide +kernel
theorem d_Mod_read_92 : decode prog_8_method_34_code 92 = .ok (.aload_n 0, 1) := by decide +kernel
theorem d_Mod_read_93 : decode prog_8_method_34_code 93 = .ok (.getfield 25, 3) := by decide +kernel
theorem d_Mod_read_96 : decode prog_8_method_34_code 96 = .ok (.bipush (8), 2) := by decide +kernel
theorem d_Mod_read_98 : decode prog_8_method_34_code 98 = .ok (.iload 6, 2) := by decide +kernel
theorem d_Mod_read_100 : decode prog_8_method_34_code 100 = .ok (.imul, 1) := by decide +kernel
theorem d_Mod_read_101 : decode prog_8_method_34_code 101 = .ok (.iload_n 2, 1) := by decide +kernel
theorem d_Mod_read_102 : decode prog_8_method_34_code 102 = .ok (.bipush (8), 2) := by decide +kernel
theorem d_Mod_read_104 : decode prog_8_method_34_code 104 = .ok (.irem, 1) := by decide +kernel
theorem d_Mod_read_105 : decode prog_8_method_34_code 105 = .ok (.iadd, 1) := by decide +kernel
theorem d_Mod_read_106 : decode prog_8_method_34_code 106 = .ok (.iaload, 1) := by decide +kernel
theorem d_Mod_read_107 : decode prog_8_method_34_code 107 = .ok (.istore 4, 2) := by decide +kernel
theorem d_Mod_read_109 : decode prog_8_method_34_code 109 = .ok (.aload_n 0, 1) := by decide +kernel
theorem d_Mod_read_110 : decode prog_8_method_34_code 110 = .ok (.iload 4, 2) := by decide +kernel
theorem d_Mod_read_112 : decode prog_8_method_34_code 112 = .ok (.iconst 1, 1) := by decide +kernel
theorem d_Mod_read_113 : decode prog_8_method_34_code 113 = .ok (.iconst 2, 1) := by decide +kernel
theorem d_Mod_read_114 : decode prog_8_method_34_code 114 = .ok (.iconst 3, 1) := by decide +kernel
theorem d_Mod_read_115 : decode prog_8_method_34_code 115 = .ok (.iconst 3, 1) := by decide +kernel
theorem d_Mod_read_116 : decode prog_8_method_34_code 116 = .ok (.iconst 4, 1) := by decide +kernel
theorem d_Mod_read_117 : decode prog_8_method_34_code 117 = .ok (.invokevirtual 178, 3) := by decide +kernel
theorem d_Mod_read_120 : decode prog_8_method_34_code 120 = .ok (.ireturn, 1) := by decide +kernel
theorem d_Mod_putByte_0 : decode prog_8_method_35_code 0 = .ok (.iload_n 3, 1) := by decide +kernel
theorem d_Mod_putByte_1 : decode prog_8_method_35_code 1 = .ok (.aload_n 0, 1) := by decide +kernel
theorem d_Mod_putByte_2 : decode prog_8_method_35_code 2 = .ok (.iload_n 2, 1) := by decide +kernel
theorem d_Mod_putByte_3 : decode prog_8_method_35_code 3 = .ok (.invokevirtual 188, 3) := by decide +kernel
theorem d_Mod_putByte_6 : decode prog_8_method_35_code 6 = .ok (.if_icmp .ge (53), 3) := by decide +kernel
theorem d_Mod_putByte_9 : decode prog_8_method_35_code 9 = .ok (.aload_n 0, 1) := by decide +kernel
theorem d_Mod_putByte_10 : decode prog_8_method_35_code 10 = .ok (.iload_n 1, 1) := by decide +kernel
theorem d_Mod_putByte_11 : decode prog_8_method_35_code 11 = .ok (.iload_n 2, 1) := by decide +kernel
theorem d_Mod_putByte_12 : decode prog_8_method_35_code 12 = .ok (.iload_n 3, 1) := by decide +kernel
theorem d_Mod_putByte_13 : decode prog_8_method_35_code 13 = .ok (.bipush (8), 2) := by decide +kernel
theorem d_Mod_putByte_15 : decode prog_8_method_35_code 15 = .ok (.idiv, 1) := by decide +kernel
theorem d_Mod_putByte_16 : decode prog_8_method_35_code 16 = .ok (.iconst 1, 1) := by decide +kernel
theorem d_Mod_putByte_17 : decode prog_8_method_35_code 17 = .ok (.iadd, 1) := by decide +kernel
theorem d_Mod_putByte_18 : decode prog_8_method_35_code 18 = .ok (.invokevirtual 191, 3) := by decide +kernel
theorem d_Mod_putByte_21 : decode prog_8_method_35_code 21 = .ok (.istore 5, 2) := by decide +kernel
theorem d_Mod_putByte_23 : decode prog_8_method_35_code 23 = .ok (.iload 5, 2) := by decide +kernel
theorem d_Mod_putByte_25 : decode prog_8_method_35_code 25 = .ok (.ifCond .lt (31), 3) := by decide +kernel
theorem d_Mod_putByte_28 : decode prog_8_method_35_code 28 = .ok (.aload_n 0, 1) := by decide +kernel
theorem d_Mod_putByte_29 : decode prog_8_method_35_code 29 = .ok (.invokevirtual 122, 3) := by decide +kernel
theorem d_Mod_putByte_32 : decode prog_8_method_35_code 32 = .ok (.ifCond .eq (24), 3) := by decide +kernel
theorem d_Mod_putByte_35 : decode prog_8_method_35_code 35 = .ok (.aload_n 0, 1) := by decide +kernel
theorem d_Mod_putByte_36 : decode prog_8_method_35_code 36 = .ok (.getfield 25, 3) := by decide +kernel
theorem d_Mod_putByte_39 : decode prog_8_method_35_code 39 = .ok (.bipush (8), 2) := by decide +kernel
theorem d_Mod_putByte_41 : decode prog_8_method_35_code 41 = .ok (.iload 5, 2) := by decide +kernel
theorem d_Mod_putByte_43 : decode prog_8_method_35_code 43 = .ok (.imul, 1) := by decide +kernel
theorem d_Mod_putByte_44 : decode prog_8_method_35_code 44 = .ok (.iload_n 3, 1) := by decide +kernel
theorem d_Mod_putByte_45 : decode prog_8_method_35_code 45 = .ok (.bipush (8), 2) := by decide +kernel
theorem d_Mod_putByte_47 : decode prog_8_method_35_code 47 = .ok (.irem, 1) := by decide +kernel
theorem d_Mod_putByte_48 : decode prog_8_method_35_code 48 = .ok (.iadd, 1) := by decide +kernel
theorem d_Mod_putByte_49 : decode prog_8_method_35_code 49 = .ok (.iload 4, 2) := by decide +kernel
theorem d_Mod_putByte_51 : decode prog_8_method_35_code 51 = .ok (.sipush (255), 3) := by decide +kernel
theorem d_Mod_putByte_54 : decode prog_8_method_35_code 54 = .ok (.iand, 1) := by decide +kernel
theorem d_Mod_putByte_55 : decode prog_8_method_35_code 55 = .ok (.iastore, 1) := by decide +kernel
theorem d_Mod_putByte_56 : decode prog_8_method_35_code 56 = .ok (.goto (105), 3) := by decide +kernel
theorem d_Mod_putByte_59 : decode prog_8_method_35_code 59 = .ok (.iload_n 2, 1) := by decide +kernel
theorem d_Mod_putByte_60 : decode prog_8_method_35_code 60 = .ok (.iload_n 1, 1) := by decide +kernel
theorem d_Mod_putByte_61 : decode prog_8_method_35_code 61 = .ok (.if_icmp .eq (60), 3) := by decide +kernel
theorem d_Mod_putByte_64 : decode prog_8_method_35_code 64 = .ok (.aload_n 0, 1) := by decide +kernel
theorem d_Mod_putByte_65 : decode prog_8_method_35_code 65 = .ok (.getfield 16, 3) := by decide +kernel
theorem d_Mod_putByte_68 : decode prog_8_method_35_code 68 = .ok (.iload_n 2, 1) := by decide +kernel
theorem d_Mod_putByte_69 : decode prog_8_method_35_code 69 = .ok (.iaload, 1) := by decide +kernel
theorem d_Mod_putByte_70 : decode prog_8_method_35_code 70 = .ok (.bipush (8), 2) := by decide +kernel
theorem d_Mod_putByte_72 : decode prog_8_method_35_code 72 = .ok (.if_icmp .ge (49), 3) := by decide +kernel
theorem d_Mod_putByte_75 : decode prog_8_method_35_code 75 = .ok (.aload_n 0, 1) := by decide +kernel
theorem d_Mod_putByte_76 : decode prog_8_method_35_code 76 = .ok (.invokevirtual 122, 3) := by decide +kernel
theorem d_Mod_putByte_79 : decode prog_8_method_35_code 79 = .ok (.ifCond .eq (82), 3) := by decide +kernel
theorem d_Mod_putByte_82 : decode prog_8_method_35_code 82 = .ok (.aload_n 0, 1) := by decide +kernel
theorem d_Mod_putByte_83 : decode prog_8_method_35_code 83 = .ok (.getfield 25, 3) := by decide +kernel
theorem d_Mod_putByte_86 : decode prog_8_method_35_code 86 = .ok (.bipush (8), 2) := by decide +kernel
theorem d_Mod_putByte_88 : decode prog_8_method_35_code 88 = .ok (.iload_n 2, 1) := by decide +kernel
theorem d_Mod_putByte_89 : decode prog_8_method_35_code 89 = .ok (.imul, 1) := by decide +kernel
theorem d_Mod_putByte_90 : decode prog_8_method_35_code 90 = .ok (.aload_n 0, 1) := by decide +kernel
theorem d_Mod_putByte_91 : decode prog_8_method_35_code 91 = .ok (.getfield 16, 3) := by decide +kernel
theorem d_Mod_putByte_94 : decode prog_8_method_35_code 94 = .ok (.iload_n 2, 1) := by decide +kernel
theorem d_Mod_putByte_95 : decode prog_8_method_35_code 95 = .ok (.iaload, 1) := by decide +kernel
theorem d_Mod_putByte_96 : decode prog_8_method_35_code 96 = .ok (.iadd, 1) := by decide +kernel
theorem d_Mod_putByte_97 : decode prog_8_method_35_code 97 = .ok (.iload 4, 2) := by decide +kernel
theorem d_Mod_putByte_99 : decode prog_8_method_35_code 99 = .ok (.sipush (255), 3) := by decide +kernel
theorem d_Mod_putByte_102 : decode prog_8_method_35_code 102 = .ok (.iand, 1) := by decide +kernel
theorem d_Mod_putByte_103 : decode prog_8_method_35_code 103 = .ok (.iastore, 1) := by decide +kernel
theorem d_Mod_putByte_104 : decode prog_8_method_35_code 104 = .ok (.aload_n 0, 1) := by decide +kernel
theorem d_Mod_putByte_105 : decode prog_8_method_35_code 105 = .ok (.getfield 16, 3) := by decide +kernel
theorem d_Mod_putByte_108 : decode prog_8_method_35_code 108 = .ok (.iload_n 2, 1) := by decide +kernel
theorem d_Mod_putByte_109 : decode prog_8_method_35_code 109 = .ok (.aload_n 0, 1) := by decide +kernel
theorem d_Mod_putByte_110 : decode prog_8_method_35_code 110 = .ok (.getfield 16, 3) := by decide +kernel
theorem d_Mod_putByte_113 : decode prog_8_method_35_code 113 = .ok (.iload_n 2, 1) := by decide +kernel
theorem d_Mod_putByte_114 : decode prog_8_method_35_code 114 = .ok (.iaload, 1) := by decide +kernel
theorem d_Mod_putByte_115 : decode prog_8_method_35_code 115 = .ok (.iconst 1, 1) := by decide +kernel
theorem d_Mod_putByte_116 : decode prog_8_method_35_code 116 = .ok (.iadd, 1) := by decide +kernel
theorem d_Mod_putByte_117 : decode prog_8_method_35_code 117 = .ok (.iastore, 1) := by decide +kernel
theorem d_Mod_putByte_118 : decode prog_8_method_35_code 118 = .ok (.goto (43), 3) := by decide +kernel
theorem d_Mod_putByte_121 : decode prog_8_method_35_code 121 = .ok (.aload_n 0, 1) := by decide +kernel
theorem d_Mod_putByte_122 : decode prog_8_method_35_code 122 = .ok (.iconst 1, 1) := by decide +kernel
theorem d_Mod_putByte_123 : decode prog_8_method_35_code 123 = .ok (.invokevirtual 145, 3) := by decide +kernel
theorem d_Mod_putByte_126 : decode prog_8_method_35_code 126 = .ok (.ifCond .eq (30), 3) := by decide +kernel
theorem d_Mod_putByte_129 : decode prog_8_method_35_code 129 = .ok (.aload_n 0, 1) := by decide +kernel
theorem d_Mod_putByte_130 : decode prog_8_method_35_code 130 = .ok (.iload_n 1, 1) := by decide +kernel
theorem d_Mod_putByte_131 : decode prog_8_method_35_code 131 = .ok (.iload_n 2, 1) := by decide +kernel
theorem d_Mod_putByte_132 : decode prog_8_method_35_code 132 = .ok (.aload_n 0, 1) := by decide +kernel
theorem d_Mod_putByte_133 : decode prog_8_method_35_code 133 = .ok (.iconst 0, 1) := by decide +kernel
theorem d_Mod_putByte_134 : decode prog_8_method_35_code 134 = .ok (.invokevirtual 152, 3) := by decide +kernel
theorem d_Mod_putByte_137 : decode prog_8_method_35_code 137 = .ok (.iconst 1, 1) := by decide +kernel
theorem d_Mod_putByte_138 : decode prog_8_method_35_code 138 = .ok (.iload 4, 2) := by decide +kernel
theorem d_Mod_putByte_140 : decode prog_8_method_35_code 140 = .ok (.sipush (255), 3) := by decide +kernel
theorem d_Mod_putByte_143 : decode prog_8_method_35_code 143 = .ok (.iand, 1) := by decide +kernel
theorem d_Mod_putByte_144 : decode prog_8_method_35_code 144 = .ok (.iconst 0, 1) := by decide +kernel
theorem d_Mod_putByte_145 : decode prog_8_method_35_code 145 = .ok (.iconst 0, 1) := by decide +kernel
theorem d_Mod_putByte_146 : decode prog_8_method_35_code 146 = .ok (.invokevirtual 158, 3) := by decide +kernel
theorem d_Mod_putByte_149 : decode prog_8_method_35_code 149 = .ok (.aload_n 0, 1) := by decide +kernel
theorem d_Mod_putByte_150 : decode prog_8_method_35_code 150 = .ok (.invokevirtual 162, 3) := by decide +kernel
theorem d_Mod_putByte_153 : decode prog_8_method_35_code 153 = .ok (.goto (8), 3) := by decide +kernel
theorem d_Mod_putByte_156 : decode prog_8_method_35_code 156 = .ok (.aload_n 0, 1) := by decide +kernel
theorem d_Mod_putByte_157 : decode prog_8_method_35_code 157 = .ok (.iconst 4, 1) := by decide +kernel
theorem d_Mod_putByte_158 : decode prog_8_method_35_code 158 = .ok (.putfield 90, 3) := by decide +kernel
theorem d_Mod_putByte_161 : decode prog_8_method_35_code 161 = .ok (.return_, 1) := by decide +kernel
theorem d_Mod_write_0 : decode prog_8_method_36_code 0 = .ok (.aload_n 0, 1) := by decide +kernel
theorem d_Mod_write_1 : decode prog_8_method_36_code 1 = .ok (.iload_n 1, 1) := by decide +kernel
theorem d_Mod_write_2 : decode prog_8_method_36_code 2 = .ok (.invokevirtual 165, 3) := by decide +kernel
theorem d_Mod_write_5 : decode prog_8_method_36_code 5 = .ok (.istore 4, 2) := by decide +kernel
theorem d_Mod_write_7 : decode prog_8_method_36_code 7 = .ok (.aload_n 0, 1) := by decide +kernel
theorem d_Mod_write_8 : decode prog_8_method_36_code 8 = .ok (.getfield 90, 3) := by decide +kernel
theorem d_Mod_write_11 : decode prog_8_method_36_code 11 = .ok (.ifCond .ne (32), 3) := by decide +kernel
theorem d_Mod_write_14 : decode prog_8_method_36_code 14 = .ok (.aload_n 0, 1) := by decide +kernel
theorem d_Mod_write_15 : decode prog_8_method_36_code 15 = .ok (.aload_n 0, 1) := by decide +kernel
theorem d_Mod_write_16 : decode prog_8_method_36_code 16 = .ok (.getfield 7, 3) := by decide +kernel
theorem d_Mod_write_19 : decode prog_8_method_36_code 19 = .ok (.iload 4, 2) := by decide +kernel
theorem d_Mod_write_21 : decode prog_8_method_36_code 21 = .ok (.iaload, 1) := by decide +kernel
theorem d_Mod_write_22 : decode prog_8_method_36_code 22 = .ok (.iconst 2, 1) := by decide +kernel
theorem d_Mod_write_23 : decode prog_8_method_36_code 23 = .ok (.if_icmp .eq (12), 3) := by decide +kernel
theorem d_Mod_write_26 : decode prog_8_method_36_code 26 = .ok (.aload_n 0, 1) := by decide +kernel
theorem d_Mod_write_27 : decode prog_8_method_36_code 27 = .ok (.iload 4, 2) := by decide +kernel
theorem d_Mod_write_29 : decode prog_8_method_36_code 29 = .ok (.invokevirtual 168, 3) := by decide +kernel
theorem d_Mod_write_32 : decode prog_8_method_36_code 32 = .ok (.ifCond .eq (7), 3) := by decide +kernel
theorem d_Mod_write_35 : decode prog_8_method_36_code 35 = .ok (.iconst 3, 1) := by decide +kernel
theorem d_Mod_write_36 : decode prog_8_method_36_code 36 = .ok (.goto (4), 3) := by decide +kernel
theorem d_Mod_write_39 : decode prog_8_method_36_code 39 = .ok (.iconst 0, 1) := by decide +kernel
theorem d_Mod_write_40 : decode prog_8_method_36_code 40 = .ok (.putfield 90, 3) := by decide +kernel
theorem d_Mod_write_43 : decode prog_8_method_36_code 43 = .ok (.aload_n 0, 1) := by decide +kernel
theorem d_Mod_write_44 : decode prog_8_method_36_code 44 = .ok (.getfield 90, 3) := by decide +kernel
theorem d_Mod_write_47 : decode prog_8_method_36_code 47 = .ok (.ifCond .ne (12), 3) := by decide +kernel
theorem d_Mod_write_50 : decode prog_8_method_36_code 50 = .ok (.aload_n 0, 1) := by decide +kernel
theorem d_Mod_write_51 : decode prog_8_method_36_code 51 = .ok (.iload 4, 2) := by decide +kernel
theorem d_Mod_write_53 : decode prog_8_method_36_code 53 = .ok (.invokevirtual 185, 3) := by decide +kernel
theorem d_Mod_write_56 : decode prog_8_method_36_code 56 = .ok (.goto (4), 3) := by decide +kernel
theorem d_Mod_write_59 : decode prog_8_method_36_code 59 = .ok (.iconst (-1), 1) := by decide +kernel
theorem d_Mod_write_60 : decode prog_8_method_36_code 60 = .ok (.istore 5, 2) := by decide +kernel
theorem d_Mod_write_62 : decode prog_8_method_36_code 62 = .ok (.iload 5, 2) := by decide +kernel
theorem d_Mod_write_64 : decode prog_8_method_36_code 64 = .ok (.ifCond .lt (43), 3) := by decide +kernel
theorem d_Mod_write_67 : decode prog_8_method_36_code 67 = .ok (.aload_n 0, 1) := by decide +kernel
theorem d_Mod_write_68 : decode prog_8_method_36_code 68 = .ok (.iload_n 2, 1) := by decide +kernel
theorem d_Mod_write_69 : decode prog_8_method_36_code 69 = .ok (.iconst 0, 1) := by decide +kernel
theorem d_Mod_write_70 : decode prog_8_method_36_code 70 = .ok (.aload_n 0, 1) := by decide +kernel
theorem d_Mod_write_71 : decode prog_8_method_36_code 71 = .ok (.iload 5, 2) := by decide +kernel
theorem d_Mod_write_73 : decode prog_8_method_36_code 73 = .ok (.invokevirtual 188, 3) := by decide +kernel
theorem d_Mod_write_76 : decode prog_8_method_36_code 76 = .ok (.invokestatic 73, 3) := by decide +kernel
theorem d_Mod_write_79 : decode prog_8_method_36_code 79 = .ok (.ifCond .eq (7), 3) := by decide +kernel
theorem d_Mod_write_82 : decode prog_8_method_36_code 82 = .ok (.iconst 0, 1) := by decide +kernel
theorem d_Mod_write_83 : decode prog_8_method_36_code 83 = .ok (.goto (4), 3) := by decide +kernel
theorem d_Mod_write_86 : decode prog_8_method_36_code 86 = .ok (.iconst 5, 1) := by decide +kernel
theorem d_Mod_write_87 : decode prog_8_method_36_code 87 = .ok (.putfield 90, 3) := by decide +kernel
theorem d_Mod_write_90 : decode prog_8_method_36_code 90 = .ok (.aload_n 0, 1) := by decide +kernel
theorem d_Mod_write_91 : decode prog_8_method_36_code 91 = .ok (.getfield 90, 3) := by decide +kernel
theorem d_Mod_write_94 : decode prog_8_method_36_code 94 = .ok (.ifCond .ne (13), 3) := by decide +kernel
theorem d_Mod_write_97 : decode prog_8_method_36_code 97 = .ok (.aload_n 0, 1) := by decide +kernel
theorem d_Mod_write_98 : decode prog_8_method_36_code 98 = .ok (.iload 4, 2) := by decide +kernel
theorem d_Mod_write_100 : decode prog_8_method_36_code 100 = .ok (.iload 5, 2) := by decide +kernel
theorem d_Mod_write_102 : decode prog_8_method_36_code 102 = .ok (.iload_n 2, 1) := by decide +kernel
theorem d_Mod_write_103 : decode prog_8_method_36_code 103 = .ok (.iload_n 3, 1) := by decide +kernel
theorem d_Mod_write_104 : decode prog_8_method_36_code 104 = .ok (.invokevirtual 195, 3) := by decide +kernel
theorem d_Mod_write_107 : decode prog_8_method_36_code 107 = .ok (.aload_n 0, 1) := by decide +kernel
theorem d_Mod_write_108 : decode prog_8_method_36_code 108 = .ok (.iconst 0, 1) := by decide +kernel
theorem d_Mod_write_109 : decode prog_8_method_36_code 109 = .ok (.iconst 1, 1) := by decide +kernel
theorem d_Mod_write_110 : decode prog_8_method_36_code 110 = .ok (.iconst 2, 1) := by decide +kernel
theorem d_Mod_write_111 : decode prog_8_method_36_code 111 = .ok (.iconst 3, 1) := by decide +kernel
theorem d_Mod_write_112 : decode prog_8_method_36_code 112 = .ok (.iconst 4, 1) := by decide +kernel
theorem d_Mod_write_113 : decode prog_8_method_36_code 113 = .ok (.iconst 5, 1) := by decide +kernel
theorem d_Mod_write_114 : decode prog_8_method_36_code 114 = .ok (.invokevirtual 178, 3) := by decide +kernel
theorem d_Mod_write_117 : decode prog_8_method_36_code 117 = .ok (.istore 6, 2) := by decide +kernel
theorem d_Mod_write_119 : decode prog_8_method_36_code 119 = .ok (.return_, 1) := by decide +kernel
theorem d_Mod_down_0 : decode prog_8_method_37_code 0 = .ok (.aload_n 0, 1) := by decide +kernel
theorem d_Mod_down_1 : decode prog_8_method_37_code 1 = .ok (.iconst 0, 1) := by decide +kernel
theorem d_Mod_down_2 : decode prog_8_method_37_code 2 = .ok (.putfield 198, 3) := by decide +kernel
theorem d_Mod_down_5 : decode prog_8_method_37_code 5 = .ok (.iload_n 1, 1) := by decide +kernel
theorem d_Mod_down_6 : decode prog_8_method_37_code 6 = .ok (.istore_n 3, 1) := by decide +kernel
theorem d_Mod_down_7 : decode prog_8_method_37_code 7 = .ok (.iconst 0, 1) := by decide +kernel
theorem d_Mod_down_8 : decode prog_8_method_37_code 8 = .ok (.istore 4, 2) := by decide +kernel
theorem d_Mod_down_10 : decode prog_8_method_37_code 10 = .ok (.iload 4, 2) := by decide +kernel
theorem d_Mod_down_12 : decode prog_8_method_37_code 12 = .ok (.bipush (50), 2) := by decide +kernel
theorem d_Mod_down_14 : decode prog_8_method_37_code 14 = .ok (.if_icmp .ge (50), 3) := by decide +kernel
theorem d_Mod_down_17 : decode prog_8_method_37_code 17 = .ok (.iload_n 3, 1) := by decide +kernel
theorem d_Mod_down_18 : decode prog_8_method_37_code 18 = .ok (.ifCond .lt (46), 3) := by decide +kernel
theorem d_Mod_down_21 : decode prog_8_method_37_code 21 = .ok (.aload_n 0, 1) := by decide +kernel
theorem d_Mod_down_22 : decode prog_8_method_37_code 22 = .ok (.getfield 13, 3) := by decide +kernel
theorem d_Mod_down_25 : decode prog_8_method_37_code 25 = .ok (.iload_n 3, 1) := by decide +kernel
theorem d_Mod_down_26 : decode prog_8_method_37_code 26 = .ok (.iaload, 1) := by decide +kernel
theorem d_Mod_down_27 : decode prog_8_method_37_code 27 = .ok (.iload_n 2, 1) := by decide +kernel
theorem d_Mod_down_28 : decode prog_8_method_37_code 28 = .ok (.if_icmp .le (36), 3) := by decide +kernel
theorem d_Mod_down_31 : decode prog_8_method_37_code 31 = .ok (.aload_n 0, 1) := by decide +kernel
theorem d_Mod_down_32 : decode prog_8_method_37_code 32 = .ok (.getfield 45, 3) := by decide +kernel
theorem d_Mod_down_35 : decode prog_8_method_37_code 35 = .ok (.aload_n 0, 1) := by decide +kernel
theorem d_Mod_down_36 : decode prog_8_method_37_code 36 = .ok (.getfield 198, 3) := by decide +kernel
theorem d_Mod_down_39 : decode prog_8_method_37_code 39 = .ok (.iload_n 3, 1) := by decide +kernel
theorem d_Mod_down_40 : decode prog_8_method_37_code 40 = .ok (.iastore, 1) := by decide +kernel
theorem d_Mod_down_41 : decode prog_8_method_37_code 41 = .ok (.aload_n 0, 1) := by decide +kernel
theorem d_Mod_down_42 : decode prog_8_method_37_code 42 = .ok (.aload_n 0, 1) := by decide +kernel
theorem d_Mod_down_43 : decode prog_8_method_37_code 43 = .ok (.getfield 198, 3) := by decide +kernel
theorem d_Mod_down_46 : decode prog_8_method_37_code 46 = .ok (.iconst 1, 1) := by decide +kernel
theorem d_Mod_down_47 : decode prog_8_method_37_code 47 = .ok (.iadd, 1) := by decide +kernel
theorem d_Mod_down_48 : decode prog_8_method_37_code 48 = .ok (.putfield 198, 3) := by decide +kernel
theorem d_Mod_down_51 : decode prog_8_method_37_code 51 = .ok (.aload_n 0, 1) := by decide +kernel
theorem d_Mod_down_52 : decode prog_8_method_37_code 52 = .ok (.iload_n 3, 1) := by decide +kernel
theorem d_Mod_down_53 : decode prog_8_method_37_code 53 = .ok (.iconst (-1), 1) := by decide +kernel
theorem d_Mod_down_54 : decode prog_8_method_37_code 54 = .ok (.invokevirtual 93, 3) := by decide +kernel
theorem d_Mod_down_57 : decode prog_8_method_37_code 57 = .ok (.istore_n 3, 1) := by decide +kernel
theorem d_Mod_down_58 : decode prog_8_method_37_code 58 = .ok (.iinc 4 (1), 3) := by decide +kernel
theorem d_Mod_down_61 : decode prog_8_method_37_code 61 = .ok (.goto (-51), 3) := by decide +kernel
theorem d_Mod_down_64 : decode prog_8_method_37_code 64 = .ok (.iload_n 3, 1) := by decide +kernel
theorem d_Mod_down_65 : decode prog_8_method_37_code 65 = .ok (.ireturn, 1) := by decide +kernel
