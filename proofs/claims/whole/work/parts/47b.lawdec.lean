theorem d_Law_law_0 : decode code 0 = .ok (.new 8, 3) := by decide +kernel
theorem d_Law_law_3 : decode code 3 = .ok (.dup, 1) := by decide +kernel
theorem d_Law_law_4 : decode code 4 = .ok (.invokespecial 53, 3) := by decide +kernel
theorem d_Law_law_7 : decode code 7 = .ok (.astore_n 1, 1) := by decide +kernel
theorem d_Law_law_8 : decode code 8 = .ok (.new 54, 3) := by decide +kernel
theorem d_Law_law_11 : decode code 11 = .ok (.dup, 1) := by decide +kernel
theorem d_Law_law_12 : decode code 12 = .ok (.invokespecial 56, 3) := by decide +kernel
theorem d_Law_law_15 : decode code 15 = .ok (.astore_n 2, 1) := by decide +kernel
theorem d_Law_law_16 : decode code 16 = .ok (.iconst 1, 1) := by decide +kernel
theorem d_Law_law_17 : decode code 17 = .ok (.newarray .long, 2) := by decide +kernel
theorem d_Law_law_19 : decode code 19 = .ok (.astore_n 3, 1) := by decide +kernel
theorem d_Law_law_20 : decode code 20 = .ok (.iconst 0, 1) := by decide +kernel
theorem d_Law_law_21 : decode code 21 = .ok (.istore 4, 2) := by decide +kernel
theorem d_Law_law_23 : decode code 23 = .ok (.iload 4, 2) := by decide +kernel
theorem d_Law_law_25 : decode code 25 = .ok (.aload_n 0, 1) := by decide +kernel
theorem d_Law_law_26 : decode code 26 = .ok (.arraylength, 1) := by decide +kernel
theorem d_Law_law_27 : decode code 27 = .ok (.iconst 4, 1) := by decide +kernel
theorem d_Law_law_28 : decode code 28 = .ok (.isub, 1) := by decide +kernel
theorem d_Law_law_29 : decode code 29 = .ok (.if_icmp .gt (925), 3) := by decide +kernel
theorem d_Law_law_32 : decode code 32 = .ok (.aload_n 0, 1) := by decide +kernel
theorem d_Law_law_33 : decode code 33 = .ok (.iload 4, 2) := by decide +kernel
theorem d_Law_law_35 : decode code 35 = .ok (.iaload, 1) := by decide +kernel
theorem d_Law_law_36 : decode code 36 = .ok (.bipush (31), 2) := by decide +kernel
theorem d_Law_law_38 : decode code 38 = .ok (.iand, 1) := by decide +kernel
theorem d_Law_law_39 : decode code 39 = .ok (.tableswitch (909) 0 16 #[(81), (177), (245), (313), (373), (421), (489), (545), (625), (638), (674), (723), (748), (785), (822), (859), (884)], 81) := by decide +kernel
theorem d_Law_law_120 : decode code 120 = .ok (.aload_n 1, 1) := by decide +kernel
theorem d_Law_law_121 : decode code 121 = .ok (.aload_n 0, 1) := by decide +kernel
theorem d_Law_law_122 : decode code 122 = .ok (.iload 4, 2) := by decide +kernel
theorem d_Law_law_124 : decode code 124 = .ok (.iconst 1, 1) := by decide +kernel
theorem d_Law_law_125 : decode code 125 = .ok (.iadd, 1) := by decide +kernel
theorem d_Law_law_126 : decode code 126 = .ok (.iaload, 1) := by decide +kernel
theorem d_Law_law_127 : decode code 127 = .ok (.aload_n 0, 1) := by decide +kernel
theorem d_Law_law_128 : decode code 128 = .ok (.iload 4, 2) := by decide +kernel
theorem d_Law_law_130 : decode code 130 = .ok (.iconst 2, 1) := by decide +kernel
theorem d_Law_law_131 : decode code 131 = .ok (.iadd, 1) := by decide +kernel
theorem d_Law_law_132 : decode code 132 = .ok (.iaload, 1) := by decide +kernel
theorem d_Law_law_133 : decode code 133 = .ok (.aload_n 0, 1) := by decide +kernel
theorem d_Law_law_134 : decode code 134 = .ok (.iload 4, 2) := by decide +kernel
theorem d_Law_law_136 : decode code 136 = .ok (.iconst 3, 1) := by decide +kernel
theorem d_Law_law_137 : decode code 137 = .ok (.iadd, 1) := by decide +kernel
theorem d_Law_law_138 : decode code 138 = .ok (.iaload, 1) := by decide +kernel
theorem d_Law_law_139 : decode code 139 = .ok (.ifCond .eq (7), 3) := by decide +kernel
theorem d_Law_law_142 : decode code 142 = .ok (.iconst 1, 1) := by decide +kernel
theorem d_Law_law_143 : decode code 143 = .ok (.goto (4), 3) := by decide +kernel
theorem d_Law_law_146 : decode code 146 = .ok (.iconst 0, 1) := by decide +kernel
theorem d_Law_law_147 : decode code 147 = .ok (.aload_n 3, 1) := by decide +kernel
theorem d_Law_law_148 : decode code 148 = .ok (.invokestatic 57, 3) := by decide +kernel
theorem d_Law_law_151 : decode code 151 = .ok (.istore 5, 2) := by decide +kernel
theorem d_Law_law_153 : decode code 153 = .ok (.aload_n 2, 1) := by decide +kernel
theorem d_Law_law_154 : decode code 154 = .ok (.aload_n 0, 1) := by decide +kernel
theorem d_Law_law_155 : decode code 155 = .ok (.iload 4, 2) := by decide +kernel
theorem d_Law_law_157 : decode code 157 = .ok (.iconst 1, 1) := by decide +kernel
theorem d_Law_law_158 : decode code 158 = .ok (.iadd, 1) := by decide +kernel
theorem d_Law_law_159 : decode code 159 = .ok (.iaload, 1) := by decide +kernel
theorem d_Law_law_160 : decode code 160 = .ok (.aload_n 0, 1) := by decide +kernel
theorem d_Law_law_161 : decode code 161 = .ok (.iload 4, 2) := by decide +kernel
theorem d_Law_law_163 : decode code 163 = .ok (.iconst 2, 1) := by decide +kernel
theorem d_Law_law_164 : decode code 164 = .ok (.iadd, 1) := by decide +kernel
theorem d_Law_law_165 : decode code 165 = .ok (.iaload, 1) := by decide +kernel
theorem d_Law_law_166 : decode code 166 = .ok (.aload_n 0, 1) := by decide +kernel
theorem d_Law_law_167 : decode code 167 = .ok (.iload 4, 2) := by decide +kernel
theorem d_Law_law_169 : decode code 169 = .ok (.iconst 3, 1) := by decide +kernel
theorem d_Law_law_170 : decode code 170 = .ok (.iadd, 1) := by decide +kernel
theorem d_Law_law_171 : decode code 171 = .ok (.iaload, 1) := by decide +kernel
theorem d_Law_law_172 : decode code 172 = .ok (.ifCond .eq (7), 3) := by decide +kernel
theorem d_Law_law_175 : decode code 175 = .ok (.iconst 1, 1) := by decide +kernel
theorem d_Law_law_176 : decode code 176 = .ok (.goto (4), 3) := by decide +kernel
theorem d_Law_law_179 : decode code 179 = .ok (.iconst 0, 1) := by decide +kernel
theorem d_Law_law_180 : decode code 180 = .ok (.invokevirtual 62, 3) := by decide +kernel
theorem d_Law_law_183 : decode code 183 = .ok (.istore 6, 2) := by decide +kernel
theorem d_Law_law_185 : decode code 185 = .ok (.aload_n 2, 1) := by decide +kernel
theorem d_Law_law_186 : decode code 186 = .ok (.invokevirtual 63, 3) := by decide +kernel
theorem d_Law_law_189 : decode code 189 = .ok (.iload 5, 2) := by decide +kernel
theorem d_Law_law_191 : decode code 191 = .ok (.if_icmp .eq (5), 3) := by decide +kernel
theorem d_Law_law_194 : decode code 194 = .ok (.iconst 0, 1) := by decide +kernel
theorem d_Law_law_195 : decode code 195 = .ok (.ireturn, 1) := by decide +kernel
theorem d_Law_law_196 : decode code 196 = .ok (.iload 5, 2) := by decide +kernel
theorem d_Law_law_198 : decode code 198 = .ok (.ifCond .ne (15), 3) := by decide +kernel
theorem d_Law_law_201 : decode code 201 = .ok (.aload_n 3, 1) := by decide +kernel
theorem d_Law_law_202 : decode code 202 = .ok (.iconst 0, 1) := by decide +kernel
theorem d_Law_law_203 : decode code 203 = .ok (.laload, 1) := by decide +kernel
theorem d_Law_law_204 : decode code 204 = .ok (.iload 6, 2) := by decide +kernel
theorem d_Law_law_206 : decode code 206 = .ok (.i2l, 1) := by decide +kernel
theorem d_Law_law_207 : decode code 207 = .ok (.lcmp, 1) := by decide +kernel
theorem d_Law_law_208 : decode code 208 = .ok (.ifCond .eq (5), 3) := by decide +kernel
theorem d_Law_law_211 : decode code 211 = .ok (.iconst 0, 1) := by decide +kernel
theorem d_Law_law_212 : decode code 212 = .ok (.ireturn, 1) := by decide +kernel
theorem d_Law_law_213 : decode code 213 = .ok (.goto (735), 3) := by decide +kernel
theorem d_Law_law_216 : decode code 216 = .ok (.aload_n 1, 1) := by decide +kernel
theorem d_Law_law_217 : decode code 217 = .ok (.aload_n 0, 1) := by decide +kernel
theorem d_Law_law_218 : decode code 218 = .ok (.iload 4, 2) := by decide +kernel
theorem d_Law_law_220 : decode code 220 = .ok (.iconst 1, 1) := by decide +kernel
theorem d_Law_law_221 : decode code 221 = .ok (.iadd, 1) := by decide +kernel
theorem d_Law_law_222 : decode code 222 = .ok (.iaload, 1) := by decide +kernel
theorem d_Law_law_223 : decode code 223 = .ok (.aload_n 0, 1) := by decide +kernel
theorem d_Law_law_224 : decode code 224 = .ok (.iload 4, 2) := by decide +kernel
theorem d_Law_law_226 : decode code 226 = .ok (.iconst 2, 1) := by decide +kernel
theorem d_Law_law_227 : decode code 227 = .ok (.iadd, 1) := by decide +kernel
theorem d_Law_law_228 : decode code 228 = .ok (.iaload, 1) := by decide +kernel
theorem d_Law_law_229 : decode code 229 = .ok (.aload_n 3, 1) := by decide +kernel
theorem d_Law_law_230 : decode code 230 = .ok (.invokestatic 67, 3) := by decide +kernel
theorem d_Law_law_233 : decode code 233 = .ok (.istore 5, 2) := by decide +kernel
theorem d_Law_law_235 : decode code 235 = .ok (.aload_n 2, 1) := by decide +kernel
theorem d_Law_law_236 : decode code 236 = .ok (.aload_n 0, 1) := by decide +kernel
theorem d_Law_law_237 : decode code 237 = .ok (.iload 4, 2) := by decide +kernel
theorem d_Law_law_239 : decode code 239 = .ok (.iconst 1, 1) := by decide +kernel
theorem d_Law_law_240 : decode code 240 = .ok (.iadd, 1) := by decide +kernel
theorem d_Law_law_241 : decode code 241 = .ok (.iaload, 1) := by decide +kernel
theorem d_Law_law_242 : decode code 242 = .ok (.aload_n 0, 1) := by decide +kernel
theorem d_Law_law_243 : decode code 243 = .ok (.iload 4, 2) := by decide +kernel
theorem d_Law_law_245 : decode code 245 = .ok (.iconst 2, 1) := by decide +kernel
theorem d_Law_law_246 : decode code 246 = .ok (.iadd, 1) := by decide +kernel
theorem d_Law_law_247 : decode code 247 = .ok (.iaload, 1) := by decide +kernel
theorem d_Law_law_248 : decode code 248 = .ok (.invokevirtual 70, 3) := by decide +kernel
theorem d_Law_law_251 : decode code 251 = .ok (.istore 6, 2) := by decide +kernel
theorem d_Law_law_253 : decode code 253 = .ok (.aload_n 2, 1) := by decide +kernel
theorem d_Law_law_254 : decode code 254 = .ok (.invokevirtual 63, 3) := by decide +kernel
theorem d_Law_law_257 : decode code 257 = .ok (.iload 5, 2) := by decide +kernel
theorem d_Law_law_259 : decode code 259 = .ok (.if_icmp .eq (5), 3) := by decide +kernel
theorem d_Law_law_262 : decode code 262 = .ok (.iconst 0, 1) := by decide +kernel
theorem d_Law_law_263 : decode code 263 = .ok (.ireturn, 1) := by decide +kernel
theorem d_Law_law_264 : decode code 264 = .ok (.iload 5, 2) := by decide +kernel
theorem d_Law_law_266 : decode code 266 = .ok (.ifCond .ne (15), 3) := by decide +kernel
theorem d_Law_law_269 : decode code 269 = .ok (.aload_n 3, 1) := by decide +kernel
theorem d_Law_law_270 : decode code 270 = .ok (.iconst 0, 1) := by decide +kernel
theorem d_Law_law_271 : decode code 271 = .ok (.laload, 1) := by decide +kernel
theorem d_Law_law_272 : decode code 272 = .ok (.iload 6, 2) := by decide +kernel
theorem d_Law_law_274 : decode code 274 = .ok (.i2l, 1) := by decide +kernel
theorem d_Law_law_275 : decode code 275 = .ok (.lcmp, 1) := by decide +kernel
theorem d_Law_law_276 : decode code 276 = .ok (.ifCond .eq (5), 3) := by decide +kernel
theorem d_Law_law_279 : decode code 279 = .ok (.iconst 0, 1) := by decide +kernel
theorem d_Law_law_280 : decode code 280 = .ok (.ireturn, 1) := by decide +kernel
theorem d_Law_law_281 : decode code 281 = .ok (.goto (667), 3) := by decide +kernel
theorem d_Law_law_284 : decode code 284 = .ok (.aload_n 1, 1) := by decide +kernel
theorem d_Law_law_285 : decode code 285 = .ok (.aload_n 0, 1) := by decide +kernel
theorem d_Law_law_286 : decode code 286 = .ok (.iload 4, 2) := by decide +kernel
theorem d_Law_law_288 : decode code 288 = .ok (.iconst 1, 1) := by decide +kernel
theorem d_Law_law_289 : decode code 289 = .ok (.iadd, 1) := by decide +kernel
theorem d_Law_law_290 : decode code 290 = .ok (.iaload, 1) := by decide +kernel
theorem d_Law_law_291 : decode code 291 = .ok (.aload_n 0, 1) := by decide +kernel
theorem d_Law_law_292 : decode code 292 = .ok (.iload 4, 2) := by decide +kernel
theorem d_Law_law_294 : decode code 294 = .ok (.iconst 2, 1) := by decide +kernel
theorem d_Law_law_295 : decode code 295 = .ok (.iadd, 1) := by decide +kernel
theorem d_Law_law_296 : decode code 296 = .ok (.iaload, 1) := by decide +kernel
theorem d_Law_law_297 : decode code 297 = .ok (.aload_n 3, 1) := by decide +kernel
theorem d_Law_law_298 : decode code 298 = .ok (.invokestatic 71, 3) := by decide +kernel
theorem d_Law_law_301 : decode code 301 = .ok (.istore 5, 2) := by decide +kernel
theorem d_Law_law_303 : decode code 303 = .ok (.aload_n 2, 1) := by decide +kernel
theorem d_Law_law_304 : decode code 304 = .ok (.aload_n 0, 1) := by decide +kernel
theorem d_Law_law_305 : decode code 305 = .ok (.iload 4, 2) := by decide +kernel
theorem d_Law_law_307 : decode code 307 = .ok (.iconst 1, 1) := by decide +kernel
theorem d_Law_law_308 : decode code 308 = .ok (.iadd, 1) := by decide +kernel
theorem d_Law_law_309 : decode code 309 = .ok (.iaload, 1) := by decide +kernel
theorem d_Law_law_310 : decode code 310 = .ok (.aload_n 0, 1) := by decide +kernel
theorem d_Law_law_311 : decode code 311 = .ok (.iload 4, 2) := by decide +kernel
theorem d_Law_law_313 : decode code 313 = .ok (.iconst 2, 1) := by decide +kernel
theorem d_Law_law_314 : decode code 314 = .ok (.iadd, 1) := by decide +kernel
theorem d_Law_law_315 : decode code 315 = .ok (.iaload, 1) := by decide +kernel
theorem d_Law_law_316 : decode code 316 = .ok (.invokevirtual 73, 3) := by decide +kernel
theorem d_Law_law_319 : decode code 319 = .ok (.istore 6, 2) := by decide +kernel
theorem d_Law_law_321 : decode code 321 = .ok (.aload_n 2, 1) := by decide +kernel
theorem d_Law_law_322 : decode code 322 = .ok (.invokevirtual 63, 3) := by decide +kernel
theorem d_Law_law_325 : decode code 325 = .ok (.iload 5, 2) := by decide +kernel
theorem d_Law_law_327 : decode code 327 = .ok (.if_icmp .eq (5), 3) := by decide +kernel
theorem d_Law_law_330 : decode code 330 = .ok (.iconst 0, 1) := by decide +kernel
theorem d_Law_law_331 : decode code 331 = .ok (.ireturn, 1) := by decide +kernel
theorem d_Law_law_332 : decode code 332 = .ok (.iload 5, 2) := by decide +kernel
theorem d_Law_law_334 : decode code 334 = .ok (.ifCond .ne (15), 3) := by decide +kernel
theorem d_Law_law_337 : decode code 337 = .ok (.aload_n 3, 1) := by decide +kernel
theorem d_Law_law_338 : decode code 338 = .ok (.iconst 0, 1) := by decide +kernel
theorem d_Law_law_339 : decode code 339 = .ok (.laload, 1) := by decide +kernel
theorem d_Law_law_340 : decode code 340 = .ok (.iload 6, 2) := by decide +kernel
theorem d_Law_law_342 : decode code 342 = .ok (.i2l, 1) := by decide +kernel
theorem d_Law_law_343 : decode code 343 = .ok (.lcmp, 1) := by decide +kernel
theorem d_Law_law_344 : decode code 344 = .ok (.ifCond .eq (5), 3) := by decide +kernel
theorem d_Law_law_347 : decode code 347 = .ok (.iconst 0, 1) := by decide +kernel
theorem d_Law_law_348 : decode code 348 = .ok (.ireturn, 1) := by decide +kernel
theorem d_Law_law_349 : decode code 349 = .ok (.goto (599), 3) := by decide +kernel
theorem d_Law_law_352 : decode code 352 = .ok (.aload_n 1, 1) := by decide +kernel
theorem d_Law_law_353 : decode code 353 = .ok (.aload_n 0, 1) := by decide +kernel
theorem d_Law_law_354 : decode code 354 = .ok (.iload 4, 2) := by decide +kernel
theorem d_Law_law_356 : decode code 356 = .ok (.iconst 1, 1) := by decide +kernel
theorem d_Law_law_357 : decode code 357 = .ok (.iadd, 1) := by decide +kernel
theorem d_Law_law_358 : decode code 358 = .ok (.iaload, 1) := by decide +kernel
theorem d_Law_law_359 : decode code 359 = .ok (.aload_n 0, 1) := by decide +kernel
theorem d_Law_law_360 : decode code 360 = .ok (.iload 4, 2) := by decide +kernel
theorem d_Law_law_362 : decode code 362 = .ok (.iconst 2, 1) := by decide +kernel
theorem d_Law_law_363 : decode code 363 = .ok (.iadd, 1) := by decide +kernel
theorem d_Law_law_364 : decode code 364 = .ok (.iaload, 1) := by decide +kernel
theorem d_Law_law_365 : decode code 365 = .ok (.aload_n 0, 1) := by decide +kernel
theorem d_Law_law_366 : decode code 366 = .ok (.iload 4, 2) := by decide +kernel
theorem d_Law_law_368 : decode code 368 = .ok (.iconst 3, 1) := by decide +kernel
theorem d_Law_law_369 : decode code 369 = .ok (.iadd, 1) := by decide +kernel
theorem d_Law_law_370 : decode code 370 = .ok (.iaload, 1) := by decide +kernel
theorem d_Law_law_371 : decode code 371 = .ok (.invokestatic 74, 3) := by decide +kernel
theorem d_Law_law_374 : decode code 374 = .ok (.istore 5, 2) := by decide +kernel
theorem d_Law_law_376 : decode code 376 = .ok (.aload_n 2, 1) := by decide +kernel
theorem d_Law_law_377 : decode code 377 = .ok (.aload_n 0, 1) := by decide +kernel
theorem d_Law_law_378 : decode code 378 = .ok (.iload 4, 2) := by decide +kernel
theorem d_Law_law_380 : decode code 380 = .ok (.iconst 1, 1) := by decide +kernel
theorem d_Law_law_381 : decode code 381 = .ok (.iadd, 1) := by decide +kernel
theorem d_Law_law_382 : decode code 382 = .ok (.iaload, 1) := by decide +kernel
theorem d_Law_law_383 : decode code 383 = .ok (.aload_n 0, 1) := by decide +kernel
theorem d_Law_law_384 : decode code 384 = .ok (.iload 4, 2) := by decide +kernel
theorem d_Law_law_386 : decode code 386 = .ok (.iconst 2, 1) := by decide +kernel
theorem d_Law_law_387 : decode code 387 = .ok (.iadd, 1) := by decide +kernel
theorem d_Law_law_388 : decode code 388 = .ok (.iaload, 1) := by decide +kernel
theorem d_Law_law_389 : decode code 389 = .ok (.aload_n 0, 1) := by decide +kernel
theorem d_Law_law_390 : decode code 390 = .ok (.iload 4, 2) := by decide +kernel
theorem d_Law_law_392 : decode code 392 = .ok (.iconst 3, 1) := by decide +kernel
theorem d_Law_law_393 : decode code 393 = .ok (.iadd, 1) := by decide +kernel
theorem d_Law_law_394 : decode code 394 = .ok (.iaload, 1) := by decide +kernel
theorem d_Law_law_395 : decode code 395 = .ok (.invokevirtual 77, 3) := by decide +kernel
theorem d_Law_law_398 : decode code 398 = .ok (.aload_n 2, 1) := by decide +kernel
theorem d_Law_law_399 : decode code 399 = .ok (.invokevirtual 63, 3) := by decide +kernel
theorem d_Law_law_402 : decode code 402 = .ok (.iload 5, 2) := by decide +kernel
theorem d_Law_law_404 : decode code 404 = .ok (.if_icmp .eq (5), 3) := by decide +kernel
theorem d_Law_law_407 : decode code 407 = .ok (.iconst 0, 1) := by decide +kernel
theorem d_Law_law_408 : decode code 408 = .ok (.ireturn, 1) := by decide +kernel
theorem d_Law_law_409 : decode code 409 = .ok (.goto (539), 3) := by decide +kernel
theorem d_Law_law_412 : decode code 412 = .ok (.aload_n 1, 1) := by decide +kernel
theorem d_Law_law_413 : decode code 413 = .ok (.aload_n 0, 1) := by decide +kernel
theorem d_Law_law_414 : decode code 414 = .ok (.iload 4, 2) := by decide +kernel
theorem d_Law_law_416 : decode code 416 = .ok (.iconst 1, 1) := by decide +kernel
theorem d_Law_law_417 : decode code 417 = .ok (.iadd, 1) := by decide +kernel
theorem d_Law_law_418 : decode code 418 = .ok (.iaload, 1) := by decide +kernel
theorem d_Law_law_419 : decode code 419 = .ok (.aload_n 0, 1) := by decide +kernel
theorem d_Law_law_420 : decode code 420 = .ok (.iload 4, 2) := by decide +kernel
theorem d_Law_law_422 : decode code 422 = .ok (.iconst 2, 1) := by decide +kernel
theorem d_Law_law_423 : decode code 423 = .ok (.iadd, 1) := by decide +kernel
theorem d_Law_law_424 : decode code 424 = .ok (.iaload, 1) := by decide +kernel
theorem d_Law_law_425 : decode code 425 = .ok (.invokestatic 78, 3) := by decide +kernel
theorem d_Law_law_428 : decode code 428 = .ok (.istore 5, 2) := by decide +kernel
theorem d_Law_law_430 : decode code 430 = .ok (.aload_n 2, 1) := by decide +kernel
theorem d_Law_law_431 : decode code 431 = .ok (.aload_n 0, 1) := by decide +kernel
theorem d_Law_law_432 : decode code 432 = .ok (.iload 4, 2) := by decide +kernel
theorem d_Law_law_434 : decode code 434 = .ok (.iconst 1, 1) := by decide +kernel
theorem d_Law_law_435 : decode code 435 = .ok (.iadd, 1) := by decide +kernel
theorem d_Law_law_436 : decode code 436 = .ok (.iaload, 1) := by decide +kernel
theorem d_Law_law_437 : decode code 437 = .ok (.aload_n 0, 1) := by decide +kernel
theorem d_Law_law_438 : decode code 438 = .ok (.iload 4, 2) := by decide +kernel
theorem d_Law_law_440 : decode code 440 = .ok (.iconst 2, 1) := by decide +kernel
theorem d_Law_law_441 : decode code 441 = .ok (.iadd, 1) := by decide +kernel
theorem d_Law_law_442 : decode code 442 = .ok (.iaload, 1) := by decide +kernel
theorem d_Law_law_443 : decode code 443 = .ok (.invokevirtual 81, 3) := by decide +kernel
theorem d_Law_law_446 : decode code 446 = .ok (.aload_n 2, 1) := by decide +kernel
theorem d_Law_law_447 : decode code 447 = .ok (.invokevirtual 63, 3) := by decide +kernel
theorem d_Law_law_450 : decode code 450 = .ok (.iload 5, 2) := by decide +kernel
theorem d_Law_law_452 : decode code 452 = .ok (.if_icmp .eq (5), 3) := by decide +kernel
theorem d_Law_law_455 : decode code 455 = .ok (.iconst 0, 1) := by decide +kernel
theorem d_Law_law_456 : decode code 456 = .ok (.ireturn, 1) := by decide +kernel
theorem d_Law_law_457 : decode code 457 = .ok (.goto (491), 3) := by decide +kernel
theorem d_Law_law_460 : decode code 460 = .ok (.aload_n 1, 1) := by decide +kernel
theorem d_Law_law_461 : decode code 461 = .ok (.aload_n 0, 1) := by decide +kernel
theorem d_Law_law_462 : decode code 462 = .ok (.iload 4, 2) := by decide +kernel
theorem d_Law_law_464 : decode code 464 = .ok (.iconst 1, 1) := by decide +kernel
theorem d_Law_law_465 : decode code 465 = .ok (.iadd, 1) := by decide +kernel
theorem d_Law_law_466 : decode code 466 = .ok (.iaload, 1) := by decide +kernel
theorem d_Law_law_467 : decode code 467 = .ok (.aload_n 0, 1) := by decide +kernel
theorem d_Law_law_468 : decode code 468 = .ok (.iload 4, 2) := by decide +kernel
theorem d_Law_law_470 : decode code 470 = .ok (.iconst 2, 1) := by decide +kernel
theorem d_Law_law_471 : decode code 471 = .ok (.iadd, 1) := by decide +kernel
theorem d_Law_law_472 : decode code 472 = .ok (.iaload, 1) := by decide +kernel
theorem d_Law_law_473 : decode code 473 = .ok (.aload_n 3, 1) := by decide +kernel
theorem d_Law_law_474 : decode code 474 = .ok (.invokestatic 82, 3) := by decide +kernel
theorem d_Law_law_477 : decode code 477 = .ok (.istore 5, 2) := by decide +kernel
theorem d_Law_law_479 : decode code 479 = .ok (.aload_n 2, 1) := by decide +kernel
theorem d_Law_law_480 : decode code 480 = .ok (.aload_n 0, 1) := by decide +kernel
theorem d_Law_law_481 : decode code 481 = .ok (.iload 4, 2) := by decide +kernel
theorem d_Law_law_483 : decode code 483 = .ok (.iconst 1, 1) := by decide +kernel
theorem d_Law_law_484 : decode code 484 = .ok (.iadd, 1) := by decide +kernel
theorem d_Law_law_485 : decode code 485 = .ok (.iaload, 1) := by decide +kernel
theorem d_Law_law_486 : decode code 486 = .ok (.aload_n 0, 1) := by decide +kernel
theorem d_Law_law_487 : decode code 487 = .ok (.iload 4, 2) := by decide +kernel
theorem d_Law_law_489 : decode code 489 = .ok (.iconst 2, 1) := by decide +kernel
theorem d_Law_law_490 : decode code 490 = .ok (.iadd, 1) := by decide +kernel
theorem d_Law_law_491 : decode code 491 = .ok (.iaload, 1) := by decide +kernel
theorem d_Law_law_492 : decode code 492 = .ok (.invokevirtual 84, 3) := by decide +kernel
theorem d_Law_law_495 : decode code 495 = .ok (.istore 6, 2) := by decide +kernel
theorem d_Law_law_497 : decode code 497 = .ok (.aload_n 2, 1) := by decide +kernel
theorem d_Law_law_498 : decode code 498 = .ok (.invokevirtual 63, 3) := by decide +kernel
theorem d_Law_law_501 : decode code 501 = .ok (.iload 5, 2) := by decide +kernel
theorem d_Law_law_503 : decode code 503 = .ok (.if_icmp .eq (5), 3) := by decide +kernel
theorem d_Law_law_506 : decode code 506 = .ok (.iconst 0, 1) := by decide +kernel
theorem d_Law_law_507 : decode code 507 = .ok (.ireturn, 1) := by decide +kernel
theorem d_Law_law_508 : decode code 508 = .ok (.iload 5, 2) := by decide +kernel
theorem d_Law_law_510 : decode code 510 = .ok (.ifCond .ne (15), 3) := by decide +kernel
theorem d_Law_law_513 : decode code 513 = .ok (.aload_n 3, 1) := by decide +kernel
theorem d_Law_law_514 : decode code 514 = .ok (.iconst 0, 1) := by decide +kernel
theorem d_Law_law_515 : decode code 515 = .ok (.laload, 1) := by decide +kernel
theorem d_Law_law_516 : decode code 516 = .ok (.iload 6, 2) := by decide +kernel
theorem d_Law_law_518 : decode code 518 = .ok (.i2l, 1) := by decide +kernel
theorem d_Law_law_519 : decode code 519 = .ok (.lcmp, 1) := by decide +kernel
theorem d_Law_law_520 : decode code 520 = .ok (.ifCond .eq (5), 3) := by decide +kernel
theorem d_Law_law_523 : decode code 523 = .ok (.iconst 0, 1) := by decide +kernel
theorem d_Law_law_524 : decode code 524 = .ok (.ireturn, 1) := by decide +kernel
theorem d_Law_law_525 : decode code 525 = .ok (.goto (423), 3) := by decide +kernel
theorem d_Law_law_528 : decode code 528 = .ok (.aload_n 1, 1) := by decide +kernel
theorem d_Law_law_529 : decode code 529 = .ok (.aload_n 0, 1) := by decide +kernel
theorem d_Law_law_530 : decode code 530 = .ok (.iload 4, 2) := by decide +kernel
theorem d_Law_law_532 : decode code 532 = .ok (.iconst 1, 1) := by decide +kernel
theorem d_Law_law_533 : decode code 533 = .ok (.iadd, 1) := by decide +kernel
theorem d_Law_law_534 : decode code 534 = .ok (.iaload, 1) := by decide +kernel
theorem d_Law_law_535 : decode code 535 = .ok (.aload_n 3, 1) := by decide +kernel
theorem d_Law_law_536 : decode code 536 = .ok (.invokestatic 85, 3) := by decide +kernel
theorem d_Law_law_539 : decode code 539 = .ok (.istore 5, 2) := by decide +kernel
theorem d_Law_law_541 : decode code 541 = .ok (.aload_n 2, 1) := by decide +kernel
theorem d_Law_law_542 : decode code 542 = .ok (.aload_n 0, 1) := by decide +kernel
theorem d_Law_law_543 : decode code 543 = .ok (.iload 4, 2) := by decide +kernel
theorem d_Law_law_545 : decode code 545 = .ok (.iconst 1, 1) := by decide +kernel
theorem d_Law_law_546 : decode code 546 = .ok (.iadd, 1) := by decide +kernel
theorem d_Law_law_547 : decode code 547 = .ok (.iaload, 1) := by decide +kernel
theorem d_Law_law_548 : decode code 548 = .ok (.invokevirtual 88, 3) := by decide +kernel
theorem d_Law_law_551 : decode code 551 = .ok (.istore 6, 2) := by decide +kernel
theorem d_Law_law_553 : decode code 553 = .ok (.aload_n 2, 1) := by decide +kernel
theorem d_Law_law_554 : decode code 554 = .ok (.invokevirtual 63, 3) := by decide +kernel
theorem d_Law_law_557 : decode code 557 = .ok (.iload 5, 2) := by decide +kernel
theorem d_Law_law_559 : decode code 559 = .ok (.if_icmp .eq (5), 3) := by decide +kernel
theorem d_Law_law_562 : decode code 562 = .ok (.iconst 0, 1) := by decide +kernel
theorem d_Law_law_563 : decode code 563 = .ok (.ireturn, 1) := by decide +kernel
theorem d_Law_law_564 : decode code 564 = .ok (.iload 5, 2) := by decide +kernel
theorem d_Law_law_566 : decode code 566 = .ok (.ifCond .ne (15), 3) := by decide +kernel
theorem d_Law_law_569 : decode code 569 = .ok (.aload_n 3, 1) := by decide +kernel
theorem d_Law_law_570 : decode code 570 = .ok (.iconst 0, 1) := by decide +kernel
theorem d_Law_law_571 : decode code 571 = .ok (.laload, 1) := by decide +kernel
theorem d_Law_law_572 : decode code 572 = .ok (.iload 6, 2) := by decide +kernel
theorem d_Law_law_574 : decode code 574 = .ok (.i2l, 1) := by decide +kernel
theorem d_Law_law_575 : decode code 575 = .ok (.lcmp, 1) := by decide +kernel
theorem d_Law_law_576 : decode code 576 = .ok (.ifCond .eq (5), 3) := by decide +kernel
theorem d_Law_law_579 : decode code 579 = .ok (.iconst 0, 1) := by decide +kernel
theorem d_Law_law_580 : decode code 580 = .ok (.ireturn, 1) := by decide +kernel
theorem d_Law_law_581 : decode code 581 = .ok (.goto (367), 3) := by decide +kernel
theorem d_Law_law_584 : decode code 584 = .ok (.aload_n 1, 1) := by decide +kernel
theorem d_Law_law_585 : decode code 585 = .ok (.aload_n 0, 1) := by decide +kernel
theorem d_Law_law_586 : decode code 586 = .ok (.iload 4, 2) := by decide +kernel
theorem d_Law_law_588 : decode code 588 = .ok (.iconst 1, 1) := by decide +kernel
theorem d_Law_law_589 : decode code 589 = .ok (.iadd, 1) := by decide +kernel
theorem d_Law_law_590 : decode code 590 = .ok (.iaload, 1) := by decide +kernel
theorem d_Law_law_591 : decode code 591 = .ok (.aload_n 0, 1) := by decide +kernel
theorem d_Law_law_592 : decode code 592 = .ok (.iload 4, 2) := by decide +kernel
theorem d_Law_law_594 : decode code 594 = .ok (.iconst 2, 1) := by decide +kernel
theorem d_Law_law_595 : decode code 595 = .ok (.iadd, 1) := by decide +kernel
theorem d_Law_law_596 : decode code 596 = .ok (.iaload, 1) := by decide +kernel
theorem d_Law_law_597 : decode code 597 = .ok (.aload_n 0, 1) := by decide +kernel
theorem d_Law_law_598 : decode code 598 = .ok (.iload 4, 2) := by decide +kernel
theorem d_Law_law_600 : decode code 600 = .ok (.iconst 3, 1) := by decide +kernel
theorem d_Law_law_601 : decode code 601 = .ok (.iadd, 1) := by decide +kernel
theorem d_Law_law_602 : decode code 602 = .ok (.iaload, 1) := by decide +kernel
theorem d_Law_law_603 : decode code 603 = .ok (.aload_n 3, 1) := by decide +kernel
theorem d_Law_law_604 : decode code 604 = .ok (.invokestatic 89, 3) := by decide +kernel
theorem d_Law_law_607 : decode code 607 = .ok (.istore 5, 2) := by decide +kernel
theorem d_Law_law_609 : decode code 609 = .ok (.aload_n 2, 1) := by decide +kernel
theorem d_Law_law_610 : decode code 610 = .ok (.aload_n 0, 1) := by decide +kernel
theorem d_Law_law_611 : decode code 611 = .ok (.iload 4, 2) := by decide +kernel
theorem d_Law_law_613 : decode code 613 = .ok (.iconst 1, 1) := by decide +kernel
theorem d_Law_law_614 : decode code 614 = .ok (.iadd, 1) := by decide +kernel
theorem d_Law_law_615 : decode code 615 = .ok (.iaload, 1) := by decide +kernel
theorem d_Law_law_616 : decode code 616 = .ok (.aload_n 0, 1) := by decide +kernel
theorem d_Law_law_617 : decode code 617 = .ok (.iload 4, 2) := by decide +kernel
theorem d_Law_law_619 : decode code 619 = .ok (.iconst 2, 1) := by decide +kernel
theorem d_Law_law_620 : decode code 620 = .ok (.iadd, 1) := by decide +kernel
theorem d_Law_law_621 : decode code 621 = .ok (.iaload, 1) := by decide +kernel
theorem d_Law_law_622 : decode code 622 = .ok (.aload_n 0, 1) := by decide +kernel
theorem d_Law_law_623 : decode code 623 = .ok (.iload 4, 2) := by decide +kernel
theorem d_Law_law_625 : decode code 625 = .ok (.iconst 3, 1) := by decide +kernel
theorem d_Law_law_626 : decode code 626 = .ok (.iadd, 1) := by decide +kernel
theorem d_Law_law_627 : decode code 627 = .ok (.iaload, 1) := by decide +kernel
theorem d_Law_law_628 : decode code 628 = .ok (.invokevirtual 92, 3) := by decide +kernel
theorem d_Law_law_631 : decode code 631 = .ok (.istore 6, 2) := by decide +kernel
theorem d_Law_law_633 : decode code 633 = .ok (.aload_n 2, 1) := by decide +kernel
theorem d_Law_law_634 : decode code 634 = .ok (.invokevirtual 63, 3) := by decide +kernel
theorem d_Law_law_637 : decode code 637 = .ok (.iload 5, 2) := by decide +kernel
theorem d_Law_law_639 : decode code 639 = .ok (.if_icmp .eq (5), 3) := by decide +kernel
theorem d_Law_law_642 : decode code 642 = .ok (.iconst 0, 1) := by decide +kernel
theorem d_Law_law_643 : decode code 643 = .ok (.ireturn, 1) := by decide +kernel
theorem d_Law_law_644 : decode code 644 = .ok (.iload 5, 2) := by decide +kernel
theorem d_Law_law_646 : decode code 646 = .ok (.ifCond .ne (15), 3) := by decide +kernel
theorem d_Law_law_649 : decode code 649 = .ok (.aload_n 3, 1) := by decide +kernel
theorem d_Law_law_650 : decode code 650 = .ok (.iconst 0, 1) := by decide +kernel
theorem d_Law_law_651 : decode code 651 = .ok (.laload, 1) := by decide +kernel
theorem d_Law_law_652 : decode code 652 = .ok (.iload 6, 2) := by decide +kernel
theorem d_Law_law_654 : decode code 654 = .ok (.i2l, 1) := by decide +kernel
theorem d_Law_law_655 : decode code 655 = .ok (.lcmp, 1) := by decide +kernel
theorem d_Law_law_656 : decode code 656 = .ok (.ifCond .eq (5), 3) := by decide +kernel
theorem d_Law_law_659 : decode code 659 = .ok (.iconst 0, 1) := by decide +kernel
theorem d_Law_law_660 : decode code 660 = .ok (.ireturn, 1) := by decide +kernel
theorem d_Law_law_661 : decode code 661 = .ok (.goto (287), 3) := by decide +kernel
theorem d_Law_law_664 : decode code 664 = .ok (.aload_n 1, 1) := by decide +kernel
theorem d_Law_law_665 : decode code 665 = .ok (.invokevirtual 93, 3) := by decide +kernel
theorem d_Law_law_668 : decode code 668 = .ok (.aload_n 2, 1) := by decide +kernel
theorem d_Law_law_669 : decode code 669 = .ok (.invokevirtual 96, 3) := by decide +kernel
theorem d_Law_law_672 : decode code 672 = .ok (.if_icmp .eq (276), 3) := by decide +kernel
theorem d_Law_law_675 : decode code 675 = .ok (.iconst 0, 1) := by decide +kernel
theorem d_Law_law_676 : decode code 676 = .ok (.ireturn, 1) := by decide +kernel
theorem d_Law_law_677 : decode code 677 = .ok (.aload_n 1, 1) := by decide +kernel
theorem d_Law_law_678 : decode code 678 = .ok (.aload_n 0, 1) := by decide +kernel
theorem d_Law_law_679 : decode code 679 = .ok (.iload 4, 2) := by decide +kernel
theorem d_Law_law_681 : decode code 681 = .ok (.iconst 1, 1) := by decide +kernel
theorem d_Law_law_682 : decode code 682 = .ok (.iadd, 1) := by decide +kernel
theorem d_Law_law_683 : decode code 683 = .ok (.iaload, 1) := by decide +kernel
theorem d_Law_law_684 : decode code 684 = .ok (.invokestatic 97, 3) := by decide +kernel
theorem d_Law_law_687 : decode code 687 = .ok (.istore 5, 2) := by decide +kernel
theorem d_Law_law_689 : decode code 689 = .ok (.aload_n 2, 1) := by decide +kernel
theorem d_Law_law_690 : decode code 690 = .ok (.aload_n 0, 1) := by decide +kernel
theorem d_Law_law_691 : decode code 691 = .ok (.iload 4, 2) := by decide +kernel
theorem d_Law_law_693 : decode code 693 = .ok (.iconst 1, 1) := by decide +kernel
theorem d_Law_law_694 : decode code 694 = .ok (.iadd, 1) := by decide +kernel
theorem d_Law_law_695 : decode code 695 = .ok (.iaload, 1) := by decide +kernel
theorem d_Law_law_696 : decode code 696 = .ok (.invokevirtual 100, 3) := by decide +kernel
theorem d_Law_law_699 : decode code 699 = .ok (.aload_n 2, 1) := by decide +kernel
theorem d_Law_law_700 : decode code 700 = .ok (.invokevirtual 63, 3) := by decide +kernel
theorem d_Law_law_703 : decode code 703 = .ok (.iload 5, 2) := by decide +kernel
theorem d_Law_law_705 : decode code 705 = .ok (.if_icmp .eq (5), 3) := by decide +kernel
theorem d_Law_law_708 : decode code 708 = .ok (.iconst 0, 1) := by decide +kernel
theorem d_Law_law_709 : decode code 709 = .ok (.ireturn, 1) := by decide +kernel
theorem d_Law_law_710 : decode code 710 = .ok (.goto (238), 3) := by decide +kernel
theorem d_Law_law_713 : decode code 713 = .ok (.aload_n 1, 1) := by decide +kernel
theorem d_Law_law_714 : decode code 714 = .ok (.aload_n 0, 1) := by decide +kernel
theorem d_Law_law_715 : decode code 715 = .ok (.iload 4, 2) := by decide +kernel
theorem d_Law_law_717 : decode code 717 = .ok (.iconst 1, 1) := by decide +kernel
theorem d_Law_law_718 : decode code 718 = .ok (.iadd, 1) := by decide +kernel
theorem d_Law_law_719 : decode code 719 = .ok (.iaload, 1) := by decide +kernel
theorem d_Law_law_720 : decode code 720 = .ok (.aload_n 0, 1) := by decide +kernel
theorem d_Law_law_721 : decode code 721 = .ok (.iload 4, 2) := by decide +kernel
theorem d_Law_law_723 : decode code 723 = .ok (.iconst 2, 1) := by decide +kernel
theorem d_Law_law_724 : decode code 724 = .ok (.iadd, 1) := by decide +kernel
theorem d_Law_law_725 : decode code 725 = .ok (.iaload, 1) := by decide +kernel
theorem d_Law_law_726 : decode code 726 = .ok (.aload_n 0, 1) := by decide +kernel
theorem d_Law_law_727 : decode code 727 = .ok (.iload 4, 2) := by decide +kernel
theorem d_Law_law_729 : decode code 729 = .ok (.iconst 3, 1) := by decide +kernel
theorem d_Law_law_730 : decode code 730 = .ok (.iadd, 1) := by decide +kernel
theorem d_Law_law_731 : decode code 731 = .ok (.iaload, 1) := by decide +kernel
theorem d_Law_law_732 : decode code 732 = .ok (.invokevirtual 101, 3) := by decide +kernel
theorem d_Law_law_735 : decode code 735 = .ok (.aload_n 2, 1) := by decide +kernel
theorem d_Law_law_736 : decode code 736 = .ok (.aload_n 0, 1) := by decide +kernel
theorem d_Law_law_737 : decode code 737 = .ok (.iload 4, 2) := by decide +kernel
theorem d_Law_law_739 : decode code 739 = .ok (.iconst 1, 1) := by decide +kernel
theorem d_Law_law_740 : decode code 740 = .ok (.iadd, 1) := by decide +kernel
theorem d_Law_law_741 : decode code 741 = .ok (.iaload, 1) := by decide +kernel
theorem d_Law_law_742 : decode code 742 = .ok (.aload_n 0, 1) := by decide +kernel
theorem d_Law_law_743 : decode code 743 = .ok (.iload 4, 2) := by decide +kernel
theorem d_Law_law_745 : decode code 745 = .ok (.iconst 2, 1) := by decide +kernel
theorem d_Law_law_746 : decode code 746 = .ok (.iadd, 1) := by decide +kernel
theorem d_Law_law_747 : decode code 747 = .ok (.iaload, 1) := by decide +kernel
theorem d_Law_law_748 : decode code 748 = .ok (.aload_n 0, 1) := by decide +kernel
theorem d_Law_law_749 : decode code 749 = .ok (.iload 4, 2) := by decide +kernel
theorem d_Law_law_751 : decode code 751 = .ok (.iconst 3, 1) := by decide +kernel
theorem d_Law_law_752 : decode code 752 = .ok (.iadd, 1) := by decide +kernel
theorem d_Law_law_753 : decode code 753 = .ok (.iaload, 1) := by decide +kernel
theorem d_Law_law_754 : decode code 754 = .ok (.invokevirtual 105, 3) := by decide +kernel
theorem d_Law_law_757 : decode code 757 = .ok (.if_icmp .eq (191), 3) := by decide +kernel
theorem d_Law_law_760 : decode code 760 = .ok (.iconst 0, 1) := by decide +kernel
theorem d_Law_law_761 : decode code 761 = .ok (.ireturn, 1) := by decide +kernel
theorem d_Law_law_762 : decode code 762 = .ok (.aload_n 1, 1) := by decide +kernel
theorem d_Law_law_763 : decode code 763 = .ok (.aload_n 0, 1) := by decide +kernel
theorem d_Law_law_764 : decode code 764 = .ok (.iload 4, 2) := by decide +kernel
theorem d_Law_law_766 : decode code 766 = .ok (.iconst 1, 1) := by decide +kernel
theorem d_Law_law_767 : decode code 767 = .ok (.iadd, 1) := by decide +kernel
theorem d_Law_law_768 : decode code 768 = .ok (.iaload, 1) := by decide +kernel
theorem d_Law_law_769 : decode code 769 = .ok (.invokevirtual 106, 3) := by decide +kernel
theorem d_Law_law_772 : decode code 772 = .ok (.aload_n 2, 1) := by decide +kernel
theorem d_Law_law_773 : decode code 773 = .ok (.aload_n 0, 1) := by decide +kernel
theorem d_Law_law_774 : decode code 774 = .ok (.iload 4, 2) := by decide +kernel
theorem d_Law_law_776 : decode code 776 = .ok (.iconst 1, 1) := by decide +kernel
theorem d_Law_law_777 : decode code 777 = .ok (.iadd, 1) := by decide +kernel
theorem d_Law_law_778 : decode code 778 = .ok (.iaload, 1) := by decide +kernel
theorem d_Law_law_779 : decode code 779 = .ok (.invokevirtual 110, 3) := by decide +kernel
theorem d_Law_law_782 : decode code 782 = .ok (.if_icmp .eq (166), 3) := by decide +kernel
theorem d_Law_law_785 : decode code 785 = .ok (.iconst 0, 1) := by decide +kernel
theorem d_Law_law_786 : decode code 786 = .ok (.ireturn, 1) := by decide +kernel
theorem d_Law_law_787 : decode code 787 = .ok (.aload_n 1, 1) := by decide +kernel
theorem d_Law_law_788 : decode code 788 = .ok (.aload_n 0, 1) := by decide +kernel
theorem d_Law_law_789 : decode code 789 = .ok (.iload 4, 2) := by decide +kernel
theorem d_Law_law_791 : decode code 791 = .ok (.iconst 1, 1) := by decide +kernel
theorem d_Law_law_792 : decode code 792 = .ok (.iadd, 1) := by decide +kernel
theorem d_Law_law_793 : decode code 793 = .ok (.iaload, 1) := by decide +kernel
theorem d_Law_law_794 : decode code 794 = .ok (.aload_n 0, 1) := by decide +kernel
theorem d_Law_law_795 : decode code 795 = .ok (.iload 4, 2) := by decide +kernel
theorem d_Law_law_797 : decode code 797 = .ok (.iconst 2, 1) := by decide +kernel
theorem d_Law_law_798 : decode code 798 = .ok (.iadd, 1) := by decide +kernel
theorem d_Law_law_799 : decode code 799 = .ok (.iaload, 1) := by decide +kernel
theorem d_Law_law_800 : decode code 800 = .ok (.invokevirtual 111, 3) := by decide +kernel
theorem d_Law_law_803 : decode code 803 = .ok (.aload_n 2, 1) := by decide +kernel
theorem d_Law_law_804 : decode code 804 = .ok (.aload_n 0, 1) := by decide +kernel
theorem d_Law_law_805 : decode code 805 = .ok (.iload 4, 2) := by decide +kernel
theorem d_Law_law_807 : decode code 807 = .ok (.iconst 1, 1) := by decide +kernel
theorem d_Law_law_808 : decode code 808 = .ok (.iadd, 1) := by decide +kernel
theorem d_Law_law_809 : decode code 809 = .ok (.iaload, 1) := by decide +kernel
theorem d_Law_law_810 : decode code 810 = .ok (.aload_n 0, 1) := by decide +kernel
theorem d_Law_law_811 : decode code 811 = .ok (.iload 4, 2) := by decide +kernel
theorem d_Law_law_813 : decode code 813 = .ok (.iconst 2, 1) := by decide +kernel
theorem d_Law_law_814 : decode code 814 = .ok (.iadd, 1) := by decide +kernel
theorem d_Law_law_815 : decode code 815 = .ok (.iaload, 1) := by decide +kernel
theorem d_Law_law_816 : decode code 816 = .ok (.invokevirtual 115, 3) := by decide +kernel
theorem d_Law_law_819 : decode code 819 = .ok (.if_icmp .eq (129), 3) := by decide +kernel
theorem d_Law_law_822 : decode code 822 = .ok (.iconst 0, 1) := by decide +kernel
theorem d_Law_law_823 : decode code 823 = .ok (.ireturn, 1) := by decide +kernel
theorem d_Law_law_824 : decode code 824 = .ok (.aload_n 1, 1) := by decide +kernel
theorem d_Law_law_825 : decode code 825 = .ok (.aload_n 0, 1) := by decide +kernel
theorem d_Law_law_826 : decode code 826 = .ok (.iload 4, 2) := by decide +kernel
theorem d_Law_law_828 : decode code 828 = .ok (.iconst 1, 1) := by decide +kernel
theorem d_Law_law_829 : decode code 829 = .ok (.iadd, 1) := by decide +kernel
theorem d_Law_law_830 : decode code 830 = .ok (.iaload, 1) := by decide +kernel
theorem d_Law_law_831 : decode code 831 = .ok (.aload_n 0, 1) := by decide +kernel
theorem d_Law_law_832 : decode code 832 = .ok (.iload 4, 2) := by decide +kernel
theorem d_Law_law_834 : decode code 834 = .ok (.iconst 2, 1) := by decide +kernel
theorem d_Law_law_835 : decode code 835 = .ok (.iadd, 1) := by decide +kernel
theorem d_Law_law_836 : decode code 836 = .ok (.iaload, 1) := by decide +kernel
theorem d_Law_law_837 : decode code 837 = .ok (.invokevirtual 116, 3) := by decide +kernel
theorem d_Law_law_840 : decode code 840 = .ok (.aload_n 2, 1) := by decide +kernel
theorem d_Law_law_841 : decode code 841 = .ok (.aload_n 0, 1) := by decide +kernel
theorem d_Law_law_842 : decode code 842 = .ok (.iload 4, 2) := by decide +kernel
theorem d_Law_law_844 : decode code 844 = .ok (.iconst 1, 1) := by decide +kernel
theorem d_Law_law_845 : decode code 845 = .ok (.iadd, 1) := by decide +kernel
theorem d_Law_law_846 : decode code 846 = .ok (.iaload, 1) := by decide +kernel
theorem d_Law_law_847 : decode code 847 = .ok (.aload_n 0, 1) := by decide +kernel
theorem d_Law_law_848 : decode code 848 = .ok (.iload 4, 2) := by decide +kernel
theorem d_Law_law_850 : decode code 850 = .ok (.iconst 2, 1) := by decide +kernel
theorem d_Law_law_851 : decode code 851 = .ok (.iadd, 1) := by decide +kernel
theorem d_Law_law_852 : decode code 852 = .ok (.iaload, 1) := by decide +kernel
theorem d_Law_law_853 : decode code 853 = .ok (.invokevirtual 119, 3) := by decide +kernel
theorem d_Law_law_856 : decode code 856 = .ok (.if_icmp .eq (92), 3) := by decide +kernel
theorem d_Law_law_859 : decode code 859 = .ok (.iconst 0, 1) := by decide +kernel
theorem d_Law_law_860 : decode code 860 = .ok (.ireturn, 1) := by decide +kernel
theorem d_Law_law_861 : decode code 861 = .ok (.aload_n 1, 1) := by decide +kernel
theorem d_Law_law_862 : decode code 862 = .ok (.aload_n 0, 1) := by decide +kernel
theorem d_Law_law_863 : decode code 863 = .ok (.iload 4, 2) := by decide +kernel
theorem d_Law_law_865 : decode code 865 = .ok (.iconst 1, 1) := by decide +kernel
theorem d_Law_law_866 : decode code 866 = .ok (.iadd, 1) := by decide +kernel
theorem d_Law_law_867 : decode code 867 = .ok (.iaload, 1) := by decide +kernel
theorem d_Law_law_868 : decode code 868 = .ok (.aload_n 0, 1) := by decide +kernel
theorem d_Law_law_869 : decode code 869 = .ok (.iload 4, 2) := by decide +kernel
theorem d_Law_law_871 : decode code 871 = .ok (.iconst 2, 1) := by decide +kernel
theorem d_Law_law_872 : decode code 872 = .ok (.iadd, 1) := by decide +kernel
theorem d_Law_law_873 : decode code 873 = .ok (.iaload, 1) := by decide +kernel
theorem d_Law_law_874 : decode code 874 = .ok (.invokevirtual 120, 3) := by decide +kernel
theorem d_Law_law_877 : decode code 877 = .ok (.aload_n 2, 1) := by decide +kernel
theorem d_Law_law_878 : decode code 878 = .ok (.aload_n 0, 1) := by decide +kernel
theorem d_Law_law_879 : decode code 879 = .ok (.iload 4, 2) := by decide +kernel
theorem d_Law_law_881 : decode code 881 = .ok (.iconst 1, 1) := by decide +kernel
theorem d_Law_law_882 : decode code 882 = .ok (.iadd, 1) := by decide +kernel
theorem d_Law_law_883 : decode code 883 = .ok (.iaload, 1) := by decide +kernel
theorem d_Law_law_884 : decode code 884 = .ok (.aload_n 0, 1) := by decide +kernel
theorem d_Law_law_885 : decode code 885 = .ok (.iload 4, 2) := by decide +kernel
theorem d_Law_law_887 : decode code 887 = .ok (.iconst 2, 1) := by decide +kernel
theorem d_Law_law_888 : decode code 888 = .ok (.iadd, 1) := by decide +kernel
theorem d_Law_law_889 : decode code 889 = .ok (.iaload, 1) := by decide +kernel
theorem d_Law_law_890 : decode code 890 = .ok (.invokevirtual 123, 3) := by decide +kernel
theorem d_Law_law_893 : decode code 893 = .ok (.if_icmp .eq (55), 3) := by decide +kernel
theorem d_Law_law_896 : decode code 896 = .ok (.iconst 0, 1) := by decide +kernel
theorem d_Law_law_897 : decode code 897 = .ok (.ireturn, 1) := by decide +kernel
theorem d_Law_law_898 : decode code 898 = .ok (.aload_n 1, 1) := by decide +kernel
theorem d_Law_law_899 : decode code 899 = .ok (.aload_n 0, 1) := by decide +kernel
theorem d_Law_law_900 : decode code 900 = .ok (.iload 4, 2) := by decide +kernel
theorem d_Law_law_902 : decode code 902 = .ok (.iconst 1, 1) := by decide +kernel
theorem d_Law_law_903 : decode code 903 = .ok (.iadd, 1) := by decide +kernel
theorem d_Law_law_904 : decode code 904 = .ok (.iaload, 1) := by decide +kernel
theorem d_Law_law_905 : decode code 905 = .ok (.invokevirtual 124, 3) := by decide +kernel
theorem d_Law_law_908 : decode code 908 = .ok (.aload_n 2, 1) := by decide +kernel
theorem d_Law_law_909 : decode code 909 = .ok (.aload_n 0, 1) := by decide +kernel
theorem d_Law_law_910 : decode code 910 = .ok (.iload 4, 2) := by decide +kernel
theorem d_Law_law_912 : decode code 912 = .ok (.iconst 1, 1) := by decide +kernel
theorem d_Law_law_913 : decode code 913 = .ok (.iadd, 1) := by decide +kernel
theorem d_Law_law_914 : decode code 914 = .ok (.iaload, 1) := by decide +kernel
theorem d_Law_law_915 : decode code 915 = .ok (.invokevirtual 127, 3) := by decide +kernel
theorem d_Law_law_918 : decode code 918 = .ok (.if_icmp .eq (30), 3) := by decide +kernel
theorem d_Law_law_921 : decode code 921 = .ok (.iconst 0, 1) := by decide +kernel
theorem d_Law_law_922 : decode code 922 = .ok (.ireturn, 1) := by decide +kernel
theorem d_Law_law_923 : decode code 923 = .ok (.aload_n 1, 1) := by decide +kernel
theorem d_Law_law_924 : decode code 924 = .ok (.aload_n 0, 1) := by decide +kernel
theorem d_Law_law_925 : decode code 925 = .ok (.iload 4, 2) := by decide +kernel
theorem d_Law_law_927 : decode code 927 = .ok (.iconst 1, 1) := by decide +kernel
theorem d_Law_law_928 : decode code 928 = .ok (.iadd, 1) := by decide +kernel
theorem d_Law_law_929 : decode code 929 = .ok (.iaload, 1) := by decide +kernel
theorem d_Law_law_930 : decode code 930 = .ok (.invokevirtual 128, 3) := by decide +kernel
theorem d_Law_law_933 : decode code 933 = .ok (.aload_n 2, 1) := by decide +kernel
theorem d_Law_law_934 : decode code 934 = .ok (.aload_n 0, 1) := by decide +kernel
theorem d_Law_law_935 : decode code 935 = .ok (.iload 4, 2) := by decide +kernel
theorem d_Law_law_937 : decode code 937 = .ok (.iconst 1, 1) := by decide +kernel
theorem d_Law_law_938 : decode code 938 = .ok (.iadd, 1) := by decide +kernel
theorem d_Law_law_939 : decode code 939 = .ok (.iaload, 1) := by decide +kernel
theorem d_Law_law_940 : decode code 940 = .ok (.invokevirtual 131, 3) := by decide +kernel
theorem d_Law_law_943 : decode code 943 = .ok (.if_icmp .eq (5), 3) := by decide +kernel
theorem d_Law_law_946 : decode code 946 = .ok (.iconst 0, 1) := by decide +kernel
theorem d_Law_law_947 : decode code 947 = .ok (.ireturn, 1) := by decide +kernel
theorem d_Law_law_948 : decode code 948 = .ok (.iinc 4 (4), 3) := by decide +kernel
theorem d_Law_law_951 : decode code 951 = .ok (.goto (-928), 3) := by decide +kernel
theorem d_Law_law_954 : decode code 954 = .ok (.iconst 1, 1) := by decide +kernel
theorem d_Law_law_955 : decode code 955 = .ok (.ireturn, 1) := by decide +kernel
