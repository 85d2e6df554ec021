theorem dL_print_99 : decode cL_print 99 = .ok (.lload_n 1, 1) := by decide +kernel
theorem dL_print_100 : decode cL_print 100 = .ok (.lmul, 1) := by decide +kernel
theorem dL_print_101 : decode cL_print 101 = .ok (.iload 4, 2) := by decide +kernel
theorem dL_print_103 : decode cL_print 103 = .ok (.i2l, 1) := by decide +kernel
theorem dL_print_104 : decode cL_print 104 = .ok (.ladd, 1) := by decide +kernel
theorem dL_print_105 : decode cL_print 105 = .ok (.lstore_n 1, 1) := by decide +kernel
theorem dL_print_106 : decode cL_print 106 = .ok (.iconst 0, 1) := by decide +kernel
theorem dL_print_107 : decode cL_print 107 = .ok (.istore 5, 2) := by decide +kernel
theorem dL_print_109 : decode cL_print 109 = .ok (.iload 5, 2) := by decide +kernel
theorem dL_print_111 : decode cL_print 111 = .ok (.iconst 4, 1) := by decide +kernel
theorem dL_print_112 : decode cL_print 112 = .ok (.if_icmp .ge 25, 3) := by decide +kernel
theorem dL_print_115 : decode cL_print 115 = .ok (.ldc2_w 76, 3) := by decide +kernel
theorem dL_print_118 : decode cL_print 118 = .ok (.lload_n 1, 1) := by decide +kernel
theorem dL_print_119 : decode cL_print 119 = .ok (.lmul, 1) := by decide +kernel
theorem dL_print_120 : decode cL_print 120 = .ok (.aload_n 0, 1) := by decide +kernel
theorem dL_print_121 : decode cL_print 121 = .ok (.iload 4, 2) := by decide +kernel
theorem dL_print_123 : decode cL_print 123 = .ok (.iload 5, 2) := by decide +kernel
theorem dL_print_125 : decode cL_print 125 = .ok (.invokevirtual 42, 3) := by decide +kernel
theorem dL_print_128 : decode cL_print 128 = .ok (.i2l, 1) := by decide +kernel
theorem dL_print_129 : decode cL_print 129 = .ok (.ladd, 1) := by decide +kernel
theorem dL_print_130 : decode cL_print 130 = .ok (.lstore_n 1, 1) := by decide +kernel
theorem dL_print_131 : decode cL_print 131 = .ok (.iinc 5 1, 3) := by decide +kernel
theorem dL_print_134 : decode cL_print 134 = .ok (.goto (-25), 3) := by decide +kernel
theorem dL_print_137 : decode cL_print 137 = .ok (.iinc 3 1, 3) := by decide +kernel
theorem dL_print_140 : decode cL_print 140 = .ok (.goto (-60), 3) := by decide +kernel
theorem dL_print_143 : decode cL_print 143 = .ok (.lload_n 1, 1) := by decide +kernel
theorem dL_print_144 : decode cL_print 144 = .ok (.lreturn, 1) := by decide +kernel
theorem dL_refused_0 : decode cL_refused 0 = .ok (.aload_n 0, 1) := by decide +kernel
theorem dL_refused_1 : decode cL_refused 1 = .ok (.invokestatic 78, 3) := by decide +kernel
theorem dL_refused_4 : decode cL_refused 4 = .ok (.lstore_n 1, 1) := by decide +kernel
theorem dL_refused_5 : decode cL_refused 5 = .ok (.aload_n 0, 1) := by decide +kernel
theorem dL_refused_6 : decode cL_refused 6 = .ok (.iconst 0, 1) := by decide +kernel
theorem dL_refused_7 : decode cL_refused 7 = .ok (.invokevirtual 48, 3) := by decide +kernel
theorem dL_refused_10 : decode cL_refused 10 = .ok (.istore_n 3, 1) := by decide +kernel
theorem dL_refused_11 : decode cL_refused 11 = .ok (.aload_n 0, 1) := by decide +kernel
theorem dL_refused_12 : decode cL_refused 12 = .ok (.bipush 6, 2) := by decide +kernel
theorem dL_refused_14 : decode cL_refused 14 = .ok (.invokevirtual 48, 3) := by decide +kernel
theorem dL_refused_17 : decode cL_refused 17 = .ok (.istore 4, 2) := by decide +kernel
theorem dL_refused_19 : decode cL_refused 19 = .ok (.aload_n 0, 1) := by decide +kernel
theorem dL_refused_20 : decode cL_refused 20 = .ok (.iconst 1, 1) := by decide +kernel
theorem dL_refused_21 : decode cL_refused 21 = .ok (.invokestatic 84, 3) := by decide +kernel
theorem dL_refused_24 : decode cL_refused 24 = .ok (.sipush (-2051), 3) := by decide +kernel
theorem dL_refused_27 : decode cL_refused 27 = .ok (.if_icmp .ne 324, 3) := by decide +kernel
theorem dL_refused_30 : decode cL_refused 30 = .ok (.aload_n 0, 1) := by decide +kernel
theorem dL_refused_31 : decode cL_refused 31 = .ok (.bipush 13, 2) := by decide +kernel
theorem dL_refused_33 : decode cL_refused 33 = .ok (.invokestatic 84, 3) := by decide +kernel
theorem dL_refused_36 : decode cL_refused 36 = .ok (.sipush (-2051), 3) := by decide +kernel
theorem dL_refused_39 : decode cL_refused 39 = .ok (.if_icmp .ne 312, 3) := by decide +kernel
theorem dL_refused_42 : decode cL_refused 42 = .ok (.aload_n 0, 1) := by decide +kernel
theorem dL_refused_43 : decode cL_refused 43 = .ok (.iload_n 3, 1) := by decide +kernel
theorem dL_refused_44 : decode cL_refused 44 = .ok (.iload_n 3, 1) := by decide +kernel
theorem dL_refused_45 : decode cL_refused 45 = .ok (.invokestatic 87, 3) := by decide +kernel
theorem dL_refused_48 : decode cL_refused 48 = .ok (.sipush (-2053), 3) := by decide +kernel
theorem dL_refused_51 : decode cL_refused 51 = .ok (.if_icmp .ne 300, 3) := by decide +kernel
theorem dL_refused_54 : decode cL_refused 54 = .ok (.aload_n 0, 1) := by decide +kernel
theorem dL_refused_55 : decode cL_refused 55 = .ok (.iconst (-1), 1) := by decide +kernel
theorem dL_refused_56 : decode cL_refused 56 = .ok (.iconst 0, 1) := by decide +kernel
theorem dL_refused_57 : decode cL_refused 57 = .ok (.invokestatic 87, 3) := by decide +kernel
theorem dL_refused_60 : decode cL_refused 60 = .ok (.sipush (-2053), 3) := by decide +kernel
theorem dL_refused_63 : decode cL_refused 63 = .ok (.if_icmp .ne 288, 3) := by decide +kernel
theorem dL_refused_66 : decode cL_refused 66 = .ok (.aload_n 0, 1) := by decide +kernel
theorem dL_refused_67 : decode cL_refused 67 = .ok (.iconst 0, 1) := by decide +kernel
theorem dL_refused_68 : decode cL_refused 68 = .ok (.iconst 0, 1) := by decide +kernel
theorem dL_refused_69 : decode cL_refused 69 = .ok (.invokestatic 87, 3) := by decide +kernel
theorem dL_refused_72 : decode cL_refused 72 = .ok (.sipush (-2051), 3) := by decide +kernel
theorem dL_refused_75 : decode cL_refused 75 = .ok (.if_icmp .ne 276, 3) := by decide +kernel
theorem dL_refused_78 : decode cL_refused 78 = .ok (.aload_n 0, 1) := by decide +kernel
theorem dL_refused_79 : decode cL_refused 79 = .ok (.iload 4, 2) := by decide +kernel
theorem dL_refused_81 : decode cL_refused 81 = .ok (.invokestatic 90, 3) := by decide +kernel
theorem dL_refused_84 : decode cL_refused 84 = .ok (.sipush (-2054), 3) := by decide +kernel
theorem dL_refused_87 : decode cL_refused 87 = .ok (.if_icmp .ne 264, 3) := by decide +kernel
theorem dL_refused_90 : decode cL_refused 90 = .ok (.aload_n 0, 1) := by decide +kernel
theorem dL_refused_91 : decode cL_refused 91 = .ok (.iconst (-1), 1) := by decide +kernel
theorem dL_refused_92 : decode cL_refused 92 = .ok (.invokestatic 90, 3) := by decide +kernel
theorem dL_refused_95 : decode cL_refused 95 = .ok (.sipush (-2054), 3) := by decide +kernel
theorem dL_refused_98 : decode cL_refused 98 = .ok (.if_icmp .ne 253, 3) := by decide +kernel
theorem dL_refused_101 : decode cL_refused 101 = .ok (.aload_n 0, 1) := by decide +kernel
theorem dL_refused_102 : decode cL_refused 102 = .ok (.iload 4, 2) := by decide +kernel
theorem dL_refused_104 : decode cL_refused 104 = .ok (.invokestatic 92, 3) := by decide +kernel
theorem dL_refused_107 : decode cL_refused 107 = .ok (.sipush (-2054), 3) := by decide +kernel
theorem dL_refused_110 : decode cL_refused 110 = .ok (.if_icmp .ne 241, 3) := by decide +kernel
theorem dL_refused_113 : decode cL_refused 113 = .ok (.aload_n 0, 1) := by decide +kernel
theorem dL_refused_114 : decode cL_refused 114 = .ok (.iload_n 3, 1) := by decide +kernel
theorem dL_refused_115 : decode cL_refused 115 = .ok (.invokestatic 94, 3) := by decide +kernel
theorem dL_refused_118 : decode cL_refused 118 = .ok (.sipush (-2053), 3) := by decide +kernel
theorem dL_refused_121 : decode cL_refused 121 = .ok (.if_icmp .ne 230, 3) := by decide +kernel
theorem dL_refused_124 : decode cL_refused 124 = .ok (.aload_n 0, 1) := by decide +kernel
theorem dL_refused_125 : decode cL_refused 125 = .ok (.iload_n 3, 1) := by decide +kernel
theorem dL_refused_126 : decode cL_refused 126 = .ok (.bipush 99, 2) := by decide +kernel
theorem dL_refused_128 : decode cL_refused 128 = .ok (.invokestatic 96, 3) := by decide +kernel
theorem dL_refused_131 : decode cL_refused 131 = .ok (.sipush (-2053), 3) := by decide +kernel
theorem dL_refused_134 : decode cL_refused 134 = .ok (.if_icmp .ne 217, 3) := by decide +kernel
theorem dL_refused_137 : decode cL_refused 137 = .ok (.aload_n 0, 1) := by decide +kernel
theorem dL_refused_138 : decode cL_refused 138 = .ok (.iconst 0, 1) := by decide +kernel
theorem dL_refused_139 : decode cL_refused 139 = .ok (.bipush 41, 2) := by decide +kernel
theorem dL_refused_141 : decode cL_refused 141 = .ok (.invokestatic 96, 3) := by decide +kernel
theorem dL_refused_144 : decode cL_refused 144 = .ok (.sipush (-2051), 3) := by decide +kernel
theorem dL_refused_147 : decode cL_refused 147 = .ok (.if_icmp .ne 204, 3) := by decide +kernel
theorem dL_refused_150 : decode cL_refused 150 = .ok (.aload_n 0, 1) := by decide +kernel
theorem dL_refused_151 : decode cL_refused 151 = .ok (.iconst 0, 1) := by decide +kernel
theorem dL_refused_152 : decode cL_refused 152 = .ok (.iconst (-1), 1) := by decide +kernel
theorem dL_refused_153 : decode cL_refused 153 = .ok (.invokestatic 96, 3) := by decide +kernel
theorem dL_refused_156 : decode cL_refused 156 = .ok (.sipush (-2051), 3) := by decide +kernel
theorem dL_refused_159 : decode cL_refused 159 = .ok (.if_icmp .ne 192, 3) := by decide +kernel
theorem dL_refused_162 : decode cL_refused 162 = .ok (.aload_n 0, 1) := by decide +kernel
theorem dL_refused_163 : decode cL_refused 163 = .ok (.iload_n 3, 1) := by decide +kernel
theorem dL_refused_164 : decode cL_refused 164 = .ok (.bipush 9, 2) := by decide +kernel
theorem dL_refused_166 : decode cL_refused 166 = .ok (.invokestatic 98, 3) := by decide +kernel
theorem dL_refused_169 : decode cL_refused 169 = .ok (.sipush (-2053), 3) := by decide +kernel
theorem dL_refused_172 : decode cL_refused 172 = .ok (.if_icmp .ne 179, 3) := by decide +kernel
theorem dL_refused_175 : decode cL_refused 175 = .ok (.aload_n 0, 1) := by decide +kernel
theorem dL_refused_176 : decode cL_refused 176 = .ok (.iconst 0, 1) := by decide +kernel
theorem dL_refused_177 : decode cL_refused 177 = .ok (.iconst 5, 1) := by decide +kernel
theorem dL_refused_178 : decode cL_refused 178 = .ok (.invokestatic 98, 3) := by decide +kernel
theorem dL_refused_181 : decode cL_refused 181 = .ok (.sipush (-2051), 3) := by decide +kernel
theorem dL_refused_184 : decode cL_refused 184 = .ok (.if_icmp .ne 167, 3) := by decide +kernel
theorem dL_refused_187 : decode cL_refused 187 = .ok (.aload_n 0, 1) := by decide +kernel
theorem dL_refused_188 : decode cL_refused 188 = .ok (.iload 4, 2) := by decide +kernel
theorem dL_refused_190 : decode cL_refused 190 = .ok (.iconst 4, 1) := by decide +kernel
theorem dL_refused_191 : decode cL_refused 191 = .ok (.invokestatic 100, 3) := by decide +kernel
theorem dL_refused_194 : decode cL_refused 194 = .ok (.sipush (-2054), 3) := by decide +kernel
theorem dL_refused_197 : decode cL_refused 197 = .ok (.if_icmp .ne 154, 3) := by decide +kernel
theorem dL_refused_200 : decode cL_refused 200 = .ok (.aload_n 0, 1) := by decide +kernel
theorem dL_refused_201 : decode cL_refused 201 = .ok (.aload_n 0, 1) := by decide +kernel
theorem dL_refused_202 : decode cL_refused 202 = .ok (.iconst 1, 1) := by decide +kernel
theorem dL_refused_203 : decode cL_refused 203 = .ok (.invokevirtual 48, 3) := by decide +kernel
theorem dL_refused_206 : decode cL_refused 206 = .ok (.invokestatic 102, 3) := by decide +kernel
theorem dL_refused_209 : decode cL_refused 209 = .ok (.sipush (-2053), 3) := by decide +kernel
theorem dL_refused_212 : decode cL_refused 212 = .ok (.if_icmp .ne 139, 3) := by decide +kernel
theorem dL_refused_215 : decode cL_refused 215 = .ok (.aload_n 0, 1) := by decide +kernel
theorem dL_refused_216 : decode cL_refused 216 = .ok (.iconst (-1), 1) := by decide +kernel
theorem dL_refused_217 : decode cL_refused 217 = .ok (.invokestatic 102, 3) := by decide +kernel
theorem dL_refused_220 : decode cL_refused 220 = .ok (.sipush (-2053), 3) := by decide +kernel
theorem dL_refused_223 : decode cL_refused 223 = .ok (.if_icmp .ne 128, 3) := by decide +kernel
theorem dL_refused_226 : decode cL_refused 226 = .ok (.aload_n 0, 1) := by decide +kernel
theorem dL_refused_227 : decode cL_refused 227 = .ok (.bipush 8, 2) := by decide +kernel
theorem dL_refused_229 : decode cL_refused 229 = .ok (.invokestatic 104, 3) := by decide +kernel
theorem dL_refused_232 : decode cL_refused 232 = .ok (.sipush (-2051), 3) := by decide +kernel
theorem dL_refused_235 : decode cL_refused 235 = .ok (.if_icmp .ne 116, 3) := by decide +kernel
theorem dL_refused_238 : decode cL_refused 238 = .ok (.aload_n 0, 1) := by decide +kernel
theorem dL_refused_239 : decode cL_refused 239 = .ok (.iconst 0, 1) := by decide +kernel
theorem dL_refused_240 : decode cL_refused 240 = .ok (.iload_n 3, 1) := by decide +kernel
theorem dL_refused_241 : decode cL_refused 241 = .ok (.invokestatic 106, 3) := by decide +kernel
theorem dL_refused_244 : decode cL_refused 244 = .ok (.sipush (-2053), 3) := by decide +kernel
theorem dL_refused_247 : decode cL_refused 247 = .ok (.if_icmp .ne 104, 3) := by decide +kernel
theorem dL_refused_250 : decode cL_refused 250 = .ok (.aload_n 0, 1) := by decide +kernel
theorem dL_refused_251 : decode cL_refused 251 = .ok (.iconst 0, 1) := by decide +kernel
theorem dL_refused_252 : decode cL_refused 252 = .ok (.iconst 0, 1) := by decide +kernel
theorem dL_refused_253 : decode cL_refused 253 = .ok (.iconst 0, 1) := by decide +kernel
theorem dL_refused_254 : decode cL_refused 254 = .ok (.invokestatic 108, 3) := by decide +kernel
theorem dL_refused_257 : decode cL_refused 257 = .ok (.sipush (-2053), 3) := by decide +kernel
theorem dL_refused_260 : decode cL_refused 260 = .ok (.if_icmp .ne 91, 3) := by decide +kernel
theorem dL_refused_263 : decode cL_refused 263 = .ok (.aload_n 0, 1) := by decide +kernel
theorem dL_refused_264 : decode cL_refused 264 = .ok (.iconst 0, 1) := by decide +kernel
theorem dL_refused_265 : decode cL_refused 265 = .ok (.invokestatic 111, 3) := by decide +kernel
theorem dL_refused_268 : decode cL_refused 268 = .ok (.sipush (-2051), 3) := by decide +kernel
theorem dL_refused_271 : decode cL_refused 271 = .ok (.if_icmp .ne 80, 3) := by decide +kernel
theorem dL_refused_274 : decode cL_refused 274 = .ok (.aload_n 0, 1) := by decide +kernel
theorem dL_refused_275 : decode cL_refused 275 = .ok (.iconst 1, 1) := by decide +kernel
theorem dL_refused_276 : decode cL_refused 276 = .ok (.iload_n 3, 1) := by decide +kernel
theorem dL_refused_277 : decode cL_refused 277 = .ok (.ishl, 1) := by decide +kernel
theorem dL_refused_278 : decode cL_refused 278 = .ok (.invokestatic 111, 3) := by decide +kernel
theorem dL_refused_281 : decode cL_refused 281 = .ok (.sipush (-2051), 3) := by decide +kernel
theorem dL_refused_284 : decode cL_refused 284 = .ok (.if_icmp .ne 67, 3) := by decide +kernel
theorem dL_refused_287 : decode cL_refused 287 = .ok (.aload_n 0, 1) := by decide +kernel
theorem dL_refused_288 : decode cL_refused 288 = .ok (.iconst 0, 1) := by decide +kernel
theorem dL_refused_289 : decode cL_refused 289 = .ok (.iload_n 3, 1) := by decide +kernel
theorem dL_refused_290 : decode cL_refused 290 = .ok (.invokestatic 113, 3) := by decide +kernel
theorem dL_refused_293 : decode cL_refused 293 = .ok (.sipush (-2053), 3) := by decide +kernel
theorem dL_refused_296 : decode cL_refused 296 = .ok (.if_icmp .ne 55, 3) := by decide +kernel
theorem dL_refused_299 : decode cL_refused 299 = .ok (.aload_n 0, 1) := by decide +kernel
theorem dL_refused_300 : decode cL_refused 300 = .ok (.iconst 1, 1) := by decide +kernel
theorem dL_refused_301 : decode cL_refused 301 = .ok (.iconst 1, 1) := by decide +kernel
theorem dL_refused_302 : decode cL_refused 302 = .ok (.invokestatic 113, 3) := by decide +kernel
theorem dL_refused_305 : decode cL_refused 305 = .ok (.sipush (-2051), 3) := by decide +kernel
theorem dL_refused_308 : decode cL_refused 308 = .ok (.if_icmp .ne 43, 3) := by decide +kernel
theorem dL_refused_311 : decode cL_refused 311 = .ok (.aload_n 0, 1) := by decide +kernel
theorem dL_refused_312 : decode cL_refused 312 = .ok (.iload 4, 2) := by decide +kernel
theorem dL_refused_314 : decode cL_refused 314 = .ok (.invokestatic 115, 3) := by decide +kernel
theorem dL_refused_317 : decode cL_refused 317 = .ok (.sipush (-2054), 3) := by decide +kernel
theorem dL_refused_320 : decode cL_refused 320 = .ok (.if_icmp .ne 31, 3) := by decide +kernel
theorem dL_refused_323 : decode cL_refused 323 = .ok (.aload_n 0, 1) := by decide +kernel
theorem dL_refused_324 : decode cL_refused 324 = .ok (.sipush 128, 3) := by decide +kernel
theorem dL_refused_327 : decode cL_refused 327 = .ok (.invokestatic 117, 3) := by decide +kernel
theorem dL_refused_330 : decode cL_refused 330 = .ok (.sipush (-2051), 3) := by decide +kernel
theorem dL_refused_333 : decode cL_refused 333 = .ok (.if_icmp .ne 18, 3) := by decide +kernel
theorem dL_refused_336 : decode cL_refused 336 = .ok (.aload_n 0, 1) := by decide +kernel
theorem dL_refused_337 : decode cL_refused 337 = .ok (.iconst (-1), 1) := by decide +kernel
theorem dL_refused_338 : decode cL_refused 338 = .ok (.invokestatic 117, 3) := by decide +kernel
theorem dL_refused_341 : decode cL_refused 341 = .ok (.sipush (-2051), 3) := by decide +kernel
theorem dL_refused_344 : decode cL_refused 344 = .ok (.if_icmp .ne 7, 3) := by decide +kernel
theorem dL_refused_347 : decode cL_refused 347 = .ok (.iconst 1, 1) := by decide +kernel
theorem dL_refused_348 : decode cL_refused 348 = .ok (.goto 4, 3) := by decide +kernel
theorem dL_refused_351 : decode cL_refused 351 = .ok (.iconst 0, 1) := by decide +kernel
theorem dL_refused_352 : decode cL_refused 352 = .ok (.istore 5, 2) := by decide +kernel
theorem dL_refused_354 : decode cL_refused 354 = .ok (.aload_n 0, 1) := by decide +kernel
theorem dL_refused_355 : decode cL_refused 355 = .ok (.iconst 1, 1) := by decide +kernel
theorem dL_refused_356 : decode cL_refused 356 = .ok (.invokevirtual 48, 3) := by decide +kernel
theorem dL_refused_359 : decode cL_refused 359 = .ok (.ifCond .le 31, 3) := by decide +kernel
theorem dL_refused_362 : decode cL_refused 362 = .ok (.iload 5, 2) := by decide +kernel
theorem dL_refused_364 : decode cL_refused 364 = .ok (.ifCond .eq 23, 3) := by decide +kernel
theorem dL_refused_367 : decode cL_refused 367 = .ok (.aload_n 0, 1) := by decide +kernel
theorem dL_refused_368 : decode cL_refused 368 = .ok (.aload_n 0, 1) := by decide +kernel
theorem dL_refused_369 : decode cL_refused 369 = .ok (.iconst 0, 1) := by decide +kernel
theorem dL_refused_370 : decode cL_refused 370 = .ok (.invokevirtual 45, 3) := by decide +kernel
theorem dL_refused_373 : decode cL_refused 373 = .ok (.iconst 4, 1) := by decide +kernel
theorem dL_refused_374 : decode cL_refused 374 = .ok (.invokestatic 100, 3) := by decide +kernel
theorem dL_refused_377 : decode cL_refused 377 = .ok (.sipush (-2051), 3) := by decide +kernel
theorem dL_refused_380 : decode cL_refused 380 = .ok (.if_icmp .ne 7, 3) := by decide +kernel
theorem dL_refused_383 : decode cL_refused 383 = .ok (.iconst 1, 1) := by decide +kernel
theorem dL_refused_384 : decode cL_refused 384 = .ok (.goto 4, 3) := by decide +kernel
theorem dL_refused_387 : decode cL_refused 387 = .ok (.iconst 0, 1) := by decide +kernel
theorem dL_refused_388 : decode cL_refused 388 = .ok (.istore 5, 2) := by decide +kernel
theorem dL_refused_390 : decode cL_refused 390 = .ok (.iload 5, 2) := by decide +kernel
theorem dL_refused_392 : decode cL_refused 392 = .ok (.ifCond .eq 38, 3) := by decide +kernel
theorem dL_refused_395 : decode cL_refused 395 = .ok (.aload_n 0, 1) := by decide +kernel
theorem dL_refused_396 : decode cL_refused 396 = .ok (.iconst 1, 1) := by decide +kernel
theorem dL_refused_397 : decode cL_refused 397 = .ok (.invokevirtual 48, 3) := by decide +kernel
theorem dL_refused_400 : decode cL_refused 400 = .ok (.bipush 40, 2) := by decide +kernel
theorem dL_refused_402 : decode cL_refused 402 = .ok (.if_icmp .lt 15, 3) := by decide +kernel
theorem dL_refused_405 : decode cL_refused 405 = .ok (.aload_n 0, 1) := by decide +kernel
theorem dL_refused_406 : decode cL_refused 406 = .ok (.iconst 0, 1) := by decide +kernel
theorem dL_refused_407 : decode cL_refused 407 = .ok (.iconst 1, 1) := by decide +kernel
theorem dL_refused_408 : decode cL_refused 408 = .ok (.invokestatic 87, 3) := by decide +kernel
theorem dL_refused_411 : decode cL_refused 411 = .ok (.sipush (-2052), 3) := by decide +kernel
theorem dL_refused_414 : decode cL_refused 414 = .ok (.if_icmp .ne 16, 3) := by decide +kernel
theorem dL_refused_417 : decode cL_refused 417 = .ok (.aload_n 0, 1) := by decide +kernel
theorem dL_refused_418 : decode cL_refused 418 = .ok (.invokestatic 78, 3) := by decide +kernel
theorem dL_refused_421 : decode cL_refused 421 = .ok (.lload_n 1, 1) := by decide +kernel
theorem dL_refused_422 : decode cL_refused 422 = .ok (.lcmp, 1) := by decide +kernel
theorem dL_refused_423 : decode cL_refused 423 = .ok (.ifCond .ne 7, 3) := by decide +kernel
theorem dL_refused_426 : decode cL_refused 426 = .ok (.iconst 1, 1) := by decide +kernel
theorem dL_refused_427 : decode cL_refused 427 = .ok (.goto 4, 3) := by decide +kernel
theorem dL_refused_430 : decode cL_refused 430 = .ok (.iconst 0, 1) := by decide +kernel
theorem dL_refused_431 : decode cL_refused 431 = .ok (.ireturn, 1) := by decide +kernel
theorem dL_areHeld_0 : decode cL_areHeld 0 = .ok (.aload_n 0, 1) := by decide +kernel
theorem dL_areHeld_1 : decode cL_areHeld 1 = .ok (.iconst 0, 1) := by decide +kernel
theorem dL_areHeld_2 : decode cL_areHeld 2 = .ok (.invokevirtual 48, 3) := by decide +kernel
theorem dL_areHeld_5 : decode cL_areHeld 5 = .ok (.istore_n 1, 1) := by decide +kernel
theorem dL_areHeld_6 : decode cL_areHeld 6 = .ok (.iconst 0, 1) := by decide +kernel
theorem dL_areHeld_7 : decode cL_areHeld 7 = .ok (.istore_n 2, 1) := by decide +kernel
theorem dL_areHeld_8 : decode cL_areHeld 8 = .ok (.iconst 0, 1) := by decide +kernel
theorem dL_areHeld_9 : decode cL_areHeld 9 = .ok (.istore_n 3, 1) := by decide +kernel
theorem dL_areHeld_10 : decode cL_areHeld 10 = .ok (.iconst 0, 1) := by decide +kernel
theorem dL_areHeld_11 : decode cL_areHeld 11 = .ok (.istore 4, 2) := by decide +kernel
theorem dL_areHeld_13 : decode cL_areHeld 13 = .ok (.iconst 0, 1) := by decide +kernel
theorem dL_areHeld_14 : decode cL_areHeld 14 = .ok (.istore 5, 2) := by decide +kernel
theorem dL_areHeld_16 : decode cL_areHeld 16 = .ok (.bipush 99, 2) := by decide +kernel
theorem dL_areHeld_18 : decode cL_areHeld 18 = .ok (.istore 6, 2) := by decide +kernel
theorem dL_areHeld_20 : decode cL_areHeld 20 = .ok (.iconst 0, 1) := by decide +kernel
theorem dL_areHeld_21 : decode cL_areHeld 21 = .ok (.istore 7, 2) := by decide +kernel
theorem dL_areHeld_23 : decode cL_areHeld 23 = .ok (.iconst 1, 1) := by decide +kernel
theorem dL_areHeld_24 : decode cL_areHeld 24 = .ok (.istore 8, 2) := by decide +kernel
theorem dL_areHeld_26 : decode cL_areHeld 26 = .ok (.iconst 0, 1) := by decide +kernel
theorem dL_areHeld_27 : decode cL_areHeld 27 = .ok (.istore 9, 2) := by decide +kernel
theorem dL_areHeld_29 : decode cL_areHeld 29 = .ok (.iload 9, 2) := by decide +kernel
theorem dL_areHeld_31 : decode cL_areHeld 31 = .ok (.iload_n 1, 1) := by decide +kernel
theorem dL_areHeld_32 : decode cL_areHeld 32 = .ok (.if_icmp .ge 312, 3) := by decide +kernel
theorem dL_areHeld_35 : decode cL_areHeld 35 = .ok (.iload 8, 2) := by decide +kernel
theorem dL_areHeld_37 : decode cL_areHeld 37 = .ok (.ifCond .eq 307, 3) := by decide +kernel
theorem dL_areHeld_40 : decode cL_areHeld 40 = .ok (.iconst 0, 1) := by decide +kernel
theorem dL_areHeld_41 : decode cL_areHeld 41 = .ok (.istore 10, 2) := by decide +kernel
theorem dL_areHeld_43 : decode cL_areHeld 43 = .ok (.iconst 0, 1) := by decide +kernel
theorem dL_areHeld_44 : decode cL_areHeld 44 = .ok (.istore 11, 2) := by decide +kernel
theorem dL_areHeld_46 : decode cL_areHeld 46 = .ok (.iconst 0, 1) := by decide +kernel
theorem dL_areHeld_47 : decode cL_areHeld 47 = .ok (.istore 12, 2) := by decide +kernel
theorem dL_areHeld_49 : decode cL_areHeld 49 = .ok (.iconst 0, 1) := by decide +kernel
theorem dL_areHeld_50 : decode cL_areHeld 50 = .ok (.istore 13, 2) := by decide +kernel
theorem dL_areHeld_52 : decode cL_areHeld 52 = .ok (.iload 13, 2) := by decide +kernel
theorem dL_areHeld_54 : decode cL_areHeld 54 = .ok (.aload_n 0, 1) := by decide +kernel
theorem dL_areHeld_55 : decode cL_areHeld 55 = .ok (.iconst 1, 1) := by decide +kernel
theorem dL_areHeld_56 : decode cL_areHeld 56 = .ok (.invokevirtual 48, 3) := by decide +kernel
theorem dL_areHeld_59 : decode cL_areHeld 59 = .ok (.if_icmp .ge 132, 3) := by decide +kernel
theorem dL_areHeld_62 : decode cL_areHeld 62 = .ok (.aload_n 0, 1) := by decide +kernel
theorem dL_areHeld_63 : decode cL_areHeld 63 = .ok (.iload 13, 2) := by decide +kernel
theorem dL_areHeld_65 : decode cL_areHeld 65 = .ok (.invokevirtual 45, 3) := by decide +kernel
theorem dL_areHeld_68 : decode cL_areHeld 68 = .ok (.istore 14, 2) := by decide +kernel
theorem dL_areHeld_70 : decode cL_areHeld 70 = .ok (.aload_n 0, 1) := by decide +kernel
theorem dL_areHeld_71 : decode cL_areHeld 71 = .ok (.iload 14, 2) := by decide +kernel
theorem dL_areHeld_73 : decode cL_areHeld 73 = .ok (.iconst 0, 1) := by decide +kernel
theorem dL_areHeld_74 : decode cL_areHeld 74 = .ok (.invokevirtual 42, 3) := by decide +kernel
theorem dL_areHeld_77 : decode cL_areHeld 77 = .ok (.iload 9, 2) := by decide +kernel
theorem dL_areHeld_79 : decode cL_areHeld 79 = .ok (.if_icmp .ne 7, 3) := by decide +kernel
theorem dL_areHeld_82 : decode cL_areHeld 82 = .ok (.iconst 1, 1) := by decide +kernel
theorem dL_areHeld_83 : decode cL_areHeld 83 = .ok (.goto 4, 3) := by decide +kernel
theorem dL_areHeld_86 : decode cL_areHeld 86 = .ok (.iconst 0, 1) := by decide +kernel
theorem dL_areHeld_87 : decode cL_areHeld 87 = .ok (.istore 15, 2) := by decide +kernel
theorem dL_areHeld_89 : decode cL_areHeld 89 = .ok (.iload 10, 2) := by decide +kernel
theorem dL_areHeld_91 : decode cL_areHeld 91 = .ok (.aload_n 0, 1) := by decide +kernel
theorem dL_areHeld_92 : decode cL_areHeld 92 = .ok (.iload 14, 2) := by decide +kernel
theorem dL_areHeld_94 : decode cL_areHeld 94 = .ok (.iconst 2, 1) := by decide +kernel
theorem dL_areHeld_95 : decode cL_areHeld 95 = .ok (.invokevirtual 42, 3) := by decide +kernel
theorem dL_areHeld_98 : decode cL_areHeld 98 = .ok (.iload 9, 2) := by decide +kernel
theorem dL_areHeld_100 : decode cL_areHeld 100 = .ok (.if_icmp .ne 7, 3) := by decide +kernel
theorem dL_areHeld_103 : decode cL_areHeld 103 = .ok (.iconst 1, 1) := by decide +kernel
theorem dL_areHeld_104 : decode cL_areHeld 104 = .ok (.goto 4, 3) := by decide +kernel
theorem dL_areHeld_107 : decode cL_areHeld 107 = .ok (.iconst 0, 1) := by decide +kernel
theorem dL_areHeld_108 : decode cL_areHeld 108 = .ok (.iadd, 1) := by decide +kernel
theorem dL_areHeld_109 : decode cL_areHeld 109 = .ok (.istore 10, 2) := by decide +kernel
theorem dL_areHeld_111 : decode cL_areHeld 111 = .ok (.iload 11, 2) := by decide +kernel
theorem dL_areHeld_113 : decode cL_areHeld 113 = .ok (.iload 15, 2) := by decide +kernel
theorem dL_areHeld_115 : decode cL_areHeld 115 = .ok (.ifCond .ne 15, 3) := by decide +kernel
theorem dL_areHeld_118 : decode cL_areHeld 118 = .ok (.aload_n 0, 1) := by decide +kernel
theorem dL_areHeld_119 : decode cL_areHeld 119 = .ok (.iload 14, 2) := by decide +kernel
theorem dL_areHeld_121 : decode cL_areHeld 121 = .ok (.iconst 1, 1) := by decide +kernel
theorem dL_areHeld_122 : decode cL_areHeld 122 = .ok (.invokevirtual 42, 3) := by decide +kernel
theorem dL_areHeld_125 : decode cL_areHeld 125 = .ok (.iload 9, 2) := by decide +kernel
theorem dL_areHeld_127 : decode cL_areHeld 127 = .ok (.if_icmp .ne 7, 3) := by decide +kernel
theorem dL_areHeld_130 : decode cL_areHeld 130 = .ok (.iconst 1, 1) := by decide +kernel
theorem dL_areHeld_131 : decode cL_areHeld 131 = .ok (.goto 4, 3) := by decide +kernel
theorem dL_areHeld_134 : decode cL_areHeld 134 = .ok (.iconst 0, 1) := by decide +kernel
theorem dL_areHeld_135 : decode cL_areHeld 135 = .ok (.iadd, 1) := by decide +kernel
theorem dL_areHeld_136 : decode cL_areHeld 136 = .ok (.istore 11, 2) := by decide +kernel
theorem dL_areHeld_138 : decode cL_areHeld 138 = .ok (.iload 12, 2) := by decide +kernel
theorem dL_areHeld_140 : decode cL_areHeld 140 = .ok (.iload 15, 2) := by decide +kernel
theorem dL_areHeld_142 : decode cL_areHeld 142 = .ok (.ifCond .eq 15, 3) := by decide +kernel
theorem dL_areHeld_145 : decode cL_areHeld 145 = .ok (.iconst 1, 1) := by decide +kernel
theorem dL_areHeld_146 : decode cL_areHeld 146 = .ok (.aload_n 0, 1) := by decide +kernel
theorem dL_areHeld_147 : decode cL_areHeld 147 = .ok (.iload 14, 2) := by decide +kernel
theorem dL_areHeld_149 : decode cL_areHeld 149 = .ok (.iconst 1, 1) := by decide +kernel
theorem dL_areHeld_150 : decode cL_areHeld 150 = .ok (.invokevirtual 42, 3) := by decide +kernel
theorem dL_areHeld_153 : decode cL_areHeld 153 = .ok (.ishl, 1) := by decide +kernel
theorem dL_areHeld_154 : decode cL_areHeld 154 = .ok (.goto 28, 3) := by decide +kernel
theorem dL_areHeld_157 : decode cL_areHeld 157 = .ok (.aload_n 0, 1) := by decide +kernel
theorem dL_areHeld_158 : decode cL_areHeld 158 = .ok (.iload 14, 2) := by decide +kernel
theorem dL_areHeld_160 : decode cL_areHeld 160 = .ok (.iconst 1, 1) := by decide +kernel
theorem dL_areHeld_161 : decode cL_areHeld 161 = .ok (.invokevirtual 42, 3) := by decide +kernel
theorem dL_areHeld_164 : decode cL_areHeld 164 = .ok (.iload 9, 2) := by decide +kernel
theorem dL_areHeld_166 : decode cL_areHeld 166 = .ok (.if_icmp .ne 15, 3) := by decide +kernel
theorem dL_areHeld_169 : decode cL_areHeld 169 = .ok (.iconst 1, 1) := by decide +kernel
theorem dL_areHeld_170 : decode cL_areHeld 170 = .ok (.aload_n 0, 1) := by decide +kernel
theorem dL_areHeld_171 : decode cL_areHeld 171 = .ok (.iload 14, 2) := by decide +kernel
theorem dL_areHeld_173 : decode cL_areHeld 173 = .ok (.iconst 0, 1) := by decide +kernel
theorem dL_areHeld_174 : decode cL_areHeld 174 = .ok (.invokevirtual 42, 3) := by decide +kernel
theorem dL_areHeld_177 : decode cL_areHeld 177 = .ok (.ishl, 1) := by decide +kernel
theorem dL_areHeld_178 : decode cL_areHeld 178 = .ok (.goto 4, 3) := by decide +kernel
theorem dL_areHeld_181 : decode cL_areHeld 181 = .ok (.iconst 0, 1) := by decide +kernel
theorem dL_areHeld_182 : decode cL_areHeld 182 = .ok (.ior, 1) := by decide +kernel
theorem dL_areHeld_183 : decode cL_areHeld 183 = .ok (.istore 12, 2) := by decide +kernel
theorem dL_areHeld_185 : decode cL_areHeld 185 = .ok (.iinc 13 1, 3) := by decide +kernel
theorem dL_areHeld_188 : decode cL_areHeld 188 = .ok (.goto (-136), 3) := by decide +kernel
theorem dL_areHeld_191 : decode cL_areHeld 191 = .ok (.iconst 0, 1) := by decide +kernel
theorem dL_areHeld_192 : decode cL_areHeld 192 = .ok (.istore 13, 2) := by decide +kernel
theorem dL_areHeld_194 : decode cL_areHeld 194 = .ok (.iconst 0, 1) := by decide +kernel
theorem dL_areHeld_195 : decode cL_areHeld 195 = .ok (.istore 14, 2) := by decide +kernel
theorem dL_areHeld_197 : decode cL_areHeld 197 = .ok (.iload 14, 2) := by decide +kernel
theorem dL_areHeld_199 : decode cL_areHeld 199 = .ok (.iload_n 1, 1) := by decide +kernel
theorem dL_areHeld_200 : decode cL_areHeld 200 = .ok (.if_icmp .ge 21, 3) := by decide +kernel
theorem dL_areHeld_203 : decode cL_areHeld 203 = .ok (.iload 13, 2) := by decide +kernel
theorem dL_areHeld_205 : decode cL_areHeld 205 = .ok (.iload 12, 2) := by decide +kernel
theorem dL_areHeld_207 : decode cL_areHeld 207 = .ok (.iload 14, 2) := by decide +kernel
theorem dL_areHeld_209 : decode cL_areHeld 209 = .ok (.ishr, 1) := by decide +kernel
theorem dL_areHeld_210 : decode cL_areHeld 210 = .ok (.iconst 1, 1) := by decide +kernel
theorem dL_areHeld_211 : decode cL_areHeld 211 = .ok (.iand, 1) := by decide +kernel
theorem dL_areHeld_212 : decode cL_areHeld 212 = .ok (.iadd, 1) := by decide +kernel
theorem dL_areHeld_213 : decode cL_areHeld 213 = .ok (.istore 13, 2) := by decide +kernel
theorem dL_areHeld_215 : decode cL_areHeld 215 = .ok (.iinc 14 1, 3) := by decide +kernel
theorem dL_areHeld_218 : decode cL_areHeld 218 = .ok (.goto (-21), 3) := by decide +kernel
theorem dL_areHeld_221 : decode cL_areHeld 221 = .ok (.iload 10, 2) := by decide +kernel
theorem dL_areHeld_223 : decode cL_areHeld 223 = .ok (.aload_n 0, 1) := by decide +kernel
theorem dL_areHeld_224 : decode cL_areHeld 224 = .ok (.iload 9, 2) := by decide +kernel
theorem dL_areHeld_226 : decode cL_areHeld 226 = .ok (.iconst 0, 1) := by decide +kernel
theorem dL_areHeld_227 : decode cL_areHeld 227 = .ok (.invokevirtual 39, 3) := by decide +kernel
theorem dL_areHeld_230 : decode cL_areHeld 230 = .ok (.if_icmp .ne 31, 3) := by decide +kernel
theorem dL_areHeld_233 : decode cL_areHeld 233 = .ok (.iload 11, 2) := by decide +kernel
theorem dL_areHeld_235 : decode cL_areHeld 235 = .ok (.aload_n 0, 1) := by decide +kernel
theorem dL_areHeld_236 : decode cL_areHeld 236 = .ok (.iload 9, 2) := by decide +kernel
theorem dL_areHeld_238 : decode cL_areHeld 238 = .ok (.iconst 1, 1) := by decide +kernel
theorem dL_areHeld_239 : decode cL_areHeld 239 = .ok (.invokevirtual 39, 3) := by decide +kernel
theorem dL_areHeld_242 : decode cL_areHeld 242 = .ok (.if_icmp .ne 19, 3) := by decide +kernel
theorem dL_areHeld_245 : decode cL_areHeld 245 = .ok (.iload 13, 2) := by decide +kernel
theorem dL_areHeld_247 : decode cL_areHeld 247 = .ok (.aload_n 0, 1) := by decide +kernel
theorem dL_areHeld_248 : decode cL_areHeld 248 = .ok (.iload 9, 2) := by decide +kernel
theorem dL_areHeld_250 : decode cL_areHeld 250 = .ok (.iconst 3, 1) := by decide +kernel
theorem dL_areHeld_251 : decode cL_areHeld 251 = .ok (.invokevirtual 39, 3) := by decide +kernel
theorem dL_areHeld_254 : decode cL_areHeld 254 = .ok (.if_icmp .ne 7, 3) := by decide +kernel
theorem dL_areHeld_257 : decode cL_areHeld 257 = .ok (.iconst 1, 1) := by decide +kernel
theorem dL_areHeld_258 : decode cL_areHeld 258 = .ok (.goto 4, 3) := by decide +kernel
theorem dL_areHeld_261 : decode cL_areHeld 261 = .ok (.iconst 0, 1) := by decide +kernel
theorem dL_areHeld_262 : decode cL_areHeld 262 = .ok (.istore 8, 2) := by decide +kernel
theorem dL_areHeld_264 : decode cL_areHeld 264 = .ok (.iload_n 2, 1) := by decide +kernel
theorem dL_areHeld_265 : decode cL_areHeld 265 = .ok (.iload 10, 2) := by decide +kernel
theorem dL_areHeld_267 : decode cL_areHeld 267 = .ok (.iadd, 1) := by decide +kernel
theorem dL_areHeld_268 : decode cL_areHeld 268 = .ok (.istore_n 2, 1) := by decide +kernel
theorem dL_areHeld_269 : decode cL_areHeld 269 = .ok (.iload_n 3, 1) := by decide +kernel
theorem dL_areHeld_270 : decode cL_areHeld 270 = .ok (.iload 11, 2) := by decide +kernel
theorem dL_areHeld_272 : decode cL_areHeld 272 = .ok (.iadd, 1) := by decide +kernel
theorem dL_areHeld_273 : decode cL_areHeld 273 = .ok (.istore_n 3, 1) := by decide +kernel
theorem dL_areHeld_274 : decode cL_areHeld 274 = .ok (.iload 4, 2) := by decide +kernel
theorem dL_areHeld_276 : decode cL_areHeld 276 = .ok (.iload 10, 2) := by decide +kernel
theorem dL_areHeld_278 : decode cL_areHeld 278 = .ok (.iload 10, 2) := by decide +kernel
theorem dL_areHeld_280 : decode cL_areHeld 280 = .ok (.imul, 1) := by decide +kernel
theorem dL_areHeld_281 : decode cL_areHeld 281 = .ok (.iadd, 1) := by decide +kernel
theorem dL_areHeld_282 : decode cL_areHeld 282 = .ok (.istore 4, 2) := by decide +kernel
theorem dL_areHeld_284 : decode cL_areHeld 284 = .ok (.iload 10, 2) := by decide +kernel
theorem dL_areHeld_286 : decode cL_areHeld 286 = .ok (.iload 5, 2) := by decide +kernel
theorem dL_areHeld_288 : decode cL_areHeld 288 = .ok (.if_icmp .le 8, 3) := by decide +kernel
theorem dL_areHeld_291 : decode cL_areHeld 291 = .ok (.iload 10, 2) := by decide +kernel
theorem dL_areHeld_293 : decode cL_areHeld 293 = .ok (.goto 5, 3) := by decide +kernel
theorem dL_areHeld_296 : decode cL_areHeld 296 = .ok (.iload 5, 2) := by decide +kernel
theorem dL_areHeld_298 : decode cL_areHeld 298 = .ok (.istore 5, 2) := by decide +kernel
theorem dL_areHeld_300 : decode cL_areHeld 300 = .ok (.iload 10, 2) := by decide +kernel
theorem dL_areHeld_302 : decode cL_areHeld 302 = .ok (.iload 6, 2) := by decide +kernel
theorem dL_areHeld_304 : decode cL_areHeld 304 = .ok (.if_icmp .ge 8, 3) := by decide +kernel
theorem dL_areHeld_307 : decode cL_areHeld 307 = .ok (.iload 10, 2) := by decide +kernel
theorem dL_areHeld_309 : decode cL_areHeld 309 = .ok (.goto 5, 3) := by decide +kernel
theorem dL_areHeld_312 : decode cL_areHeld 312 = .ok (.iload 6, 2) := by decide +kernel
theorem dL_areHeld_314 : decode cL_areHeld 314 = .ok (.istore 6, 2) := by decide +kernel
theorem dL_areHeld_316 : decode cL_areHeld 316 = .ok (.iload 7, 2) := by decide +kernel
theorem dL_areHeld_318 : decode cL_areHeld 318 = .ok (.iload 10, 2) := by decide +kernel
theorem dL_areHeld_320 : decode cL_areHeld 320 = .ok (.aload_n 0, 1) := by decide +kernel
theorem dL_areHeld_321 : decode cL_areHeld 321 = .ok (.iload 9, 2) := by decide +kernel
theorem dL_areHeld_323 : decode cL_areHeld 323 = .ok (.iconst 2, 1) := by decide +kernel
theorem dL_areHeld_324 : decode cL_areHeld 324 = .ok (.invokevirtual 39, 3) := by decide +kernel
theorem dL_areHeld_327 : decode cL_areHeld 327 = .ok (.if_icmp .le 7, 3) := by decide +kernel
theorem dL_areHeld_330 : decode cL_areHeld 330 = .ok (.iconst 1, 1) := by decide +kernel
theorem dL_areHeld_331 : decode cL_areHeld 331 = .ok (.goto 4, 3) := by decide +kernel
theorem dL_areHeld_334 : decode cL_areHeld 334 = .ok (.iconst 0, 1) := by decide +kernel
theorem dL_areHeld_335 : decode cL_areHeld 335 = .ok (.iadd, 1) := by decide +kernel
theorem dL_areHeld_336 : decode cL_areHeld 336 = .ok (.istore 7, 2) := by decide +kernel
theorem dL_areHeld_338 : decode cL_areHeld 338 = .ok (.iinc 9 1, 3) := by decide +kernel
theorem dL_areHeld_341 : decode cL_areHeld 341 = .ok (.goto (-312), 3) := by decide +kernel
theorem dL_areHeld_344 : decode cL_areHeld 344 = .ok (.iconst 0, 1) := by decide +kernel
theorem dL_areHeld_345 : decode cL_areHeld 345 = .ok (.istore 9, 2) := by decide +kernel
theorem dL_areHeld_347 : decode cL_areHeld 347 = .ok (.iconst 0, 1) := by decide +kernel
theorem dL_areHeld_348 : decode cL_areHeld 348 = .ok (.istore 10, 2) := by decide +kernel
theorem dL_areHeld_350 : decode cL_areHeld 350 = .ok (.iload 10, 2) := by decide +kernel
theorem dL_areHeld_352 : decode cL_areHeld 352 = .ok (.aload_n 0, 1) := by decide +kernel
theorem dL_areHeld_353 : decode cL_areHeld 353 = .ok (.iconst 1, 1) := by decide +kernel
theorem dL_areHeld_354 : decode cL_areHeld 354 = .ok (.invokevirtual 48, 3) := by decide +kernel
theorem dL_areHeld_357 : decode cL_areHeld 357 = .ok (.if_icmp .ge 121, 3) := by decide +kernel
theorem dL_areHeld_360 : decode cL_areHeld 360 = .ok (.iload 8, 2) := by decide +kernel
theorem dL_areHeld_362 : decode cL_areHeld 362 = .ok (.ifCond .eq 116, 3) := by decide +kernel
theorem dL_areHeld_365 : decode cL_areHeld 365 = .ok (.aload_n 0, 1) := by decide +kernel
theorem dL_areHeld_366 : decode cL_areHeld 366 = .ok (.iload 10, 2) := by decide +kernel
theorem dL_areHeld_368 : decode cL_areHeld 368 = .ok (.invokevirtual 45, 3) := by decide +kernel
theorem dL_areHeld_371 : decode cL_areHeld 371 = .ok (.istore 11, 2) := by decide +kernel
theorem dL_areHeld_373 : decode cL_areHeld 373 = .ok (.iload 9, 2) := by decide +kernel
theorem dL_areHeld_375 : decode cL_areHeld 375 = .ok (.aload_n 0, 1) := by decide +kernel
theorem dL_areHeld_376 : decode cL_areHeld 376 = .ok (.iload 11, 2) := by decide +kernel
theorem dL_areHeld_378 : decode cL_areHeld 378 = .ok (.iconst 3, 1) := by decide +kernel
theorem dL_areHeld_379 : decode cL_areHeld 379 = .ok (.invokevirtual 42, 3) := by decide +kernel
theorem dL_areHeld_382 : decode cL_areHeld 382 = .ok (.iadd, 1) := by decide +kernel
theorem dL_areHeld_383 : decode cL_areHeld 383 = .ok (.istore 9, 2) := by decide +kernel
theorem dL_areHeld_385 : decode cL_areHeld 385 = .ok (.aload_n 0, 1) := by decide +kernel
theorem dL_areHeld_386 : decode cL_areHeld 386 = .ok (.iload 11, 2) := by decide +kernel
theorem dL_areHeld_388 : decode cL_areHeld 388 = .ok (.iconst 0, 1) := by decide +kernel
theorem dL_areHeld_389 : decode cL_areHeld 389 = .ok (.invokevirtual 42, 3) := by decide +kernel
theorem dL_areHeld_392 : decode cL_areHeld 392 = .ok (.aload_n 0, 1) := by decide +kernel
theorem dL_areHeld_393 : decode cL_areHeld 393 = .ok (.iload 11, 2) := by decide +kernel
theorem dL_areHeld_395 : decode cL_areHeld 395 = .ok (.iconst 1, 1) := by decide +kernel
theorem dL_areHeld_396 : decode cL_areHeld 396 = .ok (.invokevirtual 42, 3) := by decide +kernel
theorem dL_areHeld_399 : decode cL_areHeld 399 = .ok (.if_icmp .eq 70, 3) := by decide +kernel
theorem dL_areHeld_402 : decode cL_areHeld 402 = .ok (.aload_n 0, 1) := by decide +kernel
theorem dL_areHeld_403 : decode cL_areHeld 403 = .ok (.iload 11, 2) := by decide +kernel
theorem dL_areHeld_405 : decode cL_areHeld 405 = .ok (.iconst 2, 1) := by decide +kernel
theorem dL_areHeld_406 : decode cL_areHeld 406 = .ok (.invokevirtual 42, 3) := by decide +kernel
theorem dL_areHeld_409 : decode cL_areHeld 409 = .ok (.aload_n 0, 1) := by decide +kernel
theorem dL_areHeld_410 : decode cL_areHeld 410 = .ok (.iload 11, 2) := by decide +kernel
theorem dL_areHeld_412 : decode cL_areHeld 412 = .ok (.iconst 0, 1) := by decide +kernel
theorem dL_areHeld_413 : decode cL_areHeld 413 = .ok (.invokevirtual 42, 3) := by decide +kernel
theorem dL_areHeld_416 : decode cL_areHeld 416 = .ok (.if_icmp .eq 20, 3) := by decide +kernel
theorem dL_areHeld_419 : decode cL_areHeld 419 = .ok (.aload_n 0, 1) := by decide +kernel
theorem dL_areHeld_420 : decode cL_areHeld 420 = .ok (.iload 11, 2) := by decide +kernel
theorem dL_areHeld_422 : decode cL_areHeld 422 = .ok (.iconst 2, 1) := by decide +kernel
theorem dL_areHeld_423 : decode cL_areHeld 423 = .ok (.invokevirtual 42, 3) := by decide +kernel
theorem dL_areHeld_426 : decode cL_areHeld 426 = .ok (.aload_n 0, 1) := by decide +kernel
theorem dL_areHeld_427 : decode cL_areHeld 427 = .ok (.iload 11, 2) := by decide +kernel
theorem dL_areHeld_429 : decode cL_areHeld 429 = .ok (.iconst 1, 1) := by decide +kernel
theorem dL_areHeld_430 : decode cL_areHeld 430 = .ok (.invokevirtual 42, 3) := by decide +kernel
theorem dL_areHeld_433 : decode cL_areHeld 433 = .ok (.if_icmp .ne 36, 3) := by decide +kernel
theorem dL_areHeld_436 : decode cL_areHeld 436 = .ok (.iload 11, 2) := by decide +kernel
theorem dL_areHeld_438 : decode cL_areHeld 438 = .ok (.aload_n 0, 1) := by decide +kernel
theorem dL_areHeld_439 : decode cL_areHeld 439 = .ok (.bipush 6, 2) := by decide +kernel
theorem dL_areHeld_441 : decode cL_areHeld 441 = .ok (.invokevirtual 48, 3) := by decide +kernel
theorem dL_areHeld_444 : decode cL_areHeld 444 = .ok (.if_icmp .ge 25, 3) := by decide +kernel
theorem dL_areHeld_447 : decode cL_areHeld 447 = .ok (.iload 10, 2) := by decide +kernel
theorem dL_areHeld_449 : decode cL_areHeld 449 = .ok (.ifCond .eq 16, 3) := by decide +kernel
theorem dL_areHeld_452 : decode cL_areHeld 452 = .ok (.iload 11, 2) := by decide +kernel
theorem dL_areHeld_454 : decode cL_areHeld 454 = .ok (.aload_n 0, 1) := by decide +kernel
theorem dL_areHeld_455 : decode cL_areHeld 455 = .ok (.iload 10, 2) := by decide +kernel
theorem dL_areHeld_457 : decode cL_areHeld 457 = .ok (.iconst 1, 1) := by decide +kernel
theorem dL_areHeld_458 : decode cL_areHeld 458 = .ok (.isub, 1) := by decide +kernel
theorem dL_areHeld_459 : decode cL_areHeld 459 = .ok (.invokevirtual 45, 3) := by decide +kernel
theorem dL_areHeld_462 : decode cL_areHeld 462 = .ok (.if_icmp .le 7, 3) := by decide +kernel
theorem dL_areHeld_465 : decode cL_areHeld 465 = .ok (.iconst 1, 1) := by decide +kernel
theorem dL_areHeld_466 : decode cL_areHeld 466 = .ok (.goto 4, 3) := by decide +kernel
theorem dL_areHeld_469 : decode cL_areHeld 469 = .ok (.iconst 0, 1) := by decide +kernel
theorem dL_areHeld_470 : decode cL_areHeld 470 = .ok (.istore 8, 2) := by decide +kernel
theorem dL_areHeld_472 : decode cL_areHeld 472 = .ok (.iinc 10 1, 3) := by decide +kernel
theorem dL_areHeld_475 : decode cL_areHeld 475 = .ok (.goto (-125), 3) := by decide +kernel
theorem dL_areHeld_478 : decode cL_areHeld 478 = .ok (.iload 8, 2) := by decide +kernel
theorem dL_areHeld_480 : decode cL_areHeld 480 = .ok (.ifCond .eq 74, 3) := by decide +kernel
theorem dL_areHeld_483 : decode cL_areHeld 483 = .ok (.iload_n 2, 1) := by decide +kernel
theorem dL_areHeld_484 : decode cL_areHeld 484 = .ok (.aload_n 0, 1) := by decide +kernel
theorem dL_areHeld_485 : decode cL_areHeld 485 = .ok (.iconst 1, 1) := by decide +kernel
theorem dL_areHeld_486 : decode cL_areHeld 486 = .ok (.invokevirtual 48, 3) := by decide +kernel
theorem dL_areHeld_489 : decode cL_areHeld 489 = .ok (.if_icmp .ne 65, 3) := by decide +kernel
theorem dL_areHeld_492 : decode cL_areHeld 492 = .ok (.iload_n 3, 1) := by decide +kernel
theorem dL_areHeld_493 : decode cL_areHeld 493 = .ok (.iconst 2, 1) := by decide +kernel
theorem dL_areHeld_494 : decode cL_areHeld 494 = .ok (.iload_n 2, 1) := by decide +kernel
theorem dL_areHeld_495 : decode cL_areHeld 495 = .ok (.imul, 1) := by decide +kernel
theorem dL_areHeld_496 : decode cL_areHeld 496 = .ok (.if_icmp .ne 58, 3) := by decide +kernel
theorem dL_areHeld_499 : decode cL_areHeld 499 = .ok (.iload 5, 2) := by decide +kernel
theorem dL_areHeld_501 : decode cL_areHeld 501 = .ok (.aload_n 0, 1) := by decide +kernel
theorem dL_areHeld_502 : decode cL_areHeld 502 = .ok (.iconst 2, 1) := by decide +kernel
theorem dL_areHeld_503 : decode cL_areHeld 503 = .ok (.invokevirtual 48, 3) := by decide +kernel
theorem dL_areHeld_506 : decode cL_areHeld 506 = .ok (.if_icmp .ne 48, 3) := by decide +kernel
theorem dL_areHeld_509 : decode cL_areHeld 509 = .ok (.iload 6, 2) := by decide +kernel
theorem dL_areHeld_511 : decode cL_areHeld 511 = .ok (.aload_n 0, 1) := by decide +kernel
theorem dL_areHeld_512 : decode cL_areHeld 512 = .ok (.iconst 3, 1) := by decide +kernel
theorem dL_areHeld_513 : decode cL_areHeld 513 = .ok (.invokevirtual 48, 3) := by decide +kernel
theorem dL_areHeld_516 : decode cL_areHeld 516 = .ok (.if_icmp .ne 38, 3) := by decide +kernel
theorem dL_areHeld_519 : decode cL_areHeld 519 = .ok (.iload 4, 2) := by decide +kernel
theorem dL_areHeld_521 : decode cL_areHeld 521 = .ok (.aload_n 0, 1) := by decide +kernel
theorem dL_areHeld_522 : decode cL_areHeld 522 = .ok (.iconst 4, 1) := by decide +kernel
theorem dL_areHeld_523 : decode cL_areHeld 523 = .ok (.invokevirtual 48, 3) := by decide +kernel
theorem dL_areHeld_526 : decode cL_areHeld 526 = .ok (.if_icmp .ne 28, 3) := by decide +kernel
theorem dL_areHeld_529 : decode cL_areHeld 529 = .ok (.iload 7, 2) := by decide +kernel
theorem dL_areHeld_531 : decode cL_areHeld 531 = .ok (.aload_n 0, 1) := by decide +kernel
theorem dL_areHeld_532 : decode cL_areHeld 532 = .ok (.bipush 7, 2) := by decide +kernel
theorem dL_areHeld_534 : decode cL_areHeld 534 = .ok (.invokevirtual 48, 3) := by decide +kernel
theorem dL_areHeld_537 : decode cL_areHeld 537 = .ok (.if_icmp .ne 17, 3) := by decide +kernel
theorem dL_areHeld_540 : decode cL_areHeld 540 = .ok (.iload 9, 2) := by decide +kernel
theorem dL_areHeld_542 : decode cL_areHeld 542 = .ok (.aload_n 0, 1) := by decide +kernel
theorem dL_areHeld_543 : decode cL_areHeld 543 = .ok (.iconst 5, 1) := by decide +kernel
theorem dL_areHeld_544 : decode cL_areHeld 544 = .ok (.invokevirtual 48, 3) := by decide +kernel
theorem dL_areHeld_547 : decode cL_areHeld 547 = .ok (.if_icmp .gt 7, 3) := by decide +kernel
theorem dL_areHeld_550 : decode cL_areHeld 550 = .ok (.iconst 1, 1) := by decide +kernel
theorem dL_areHeld_551 : decode cL_areHeld 551 = .ok (.goto 4, 3) := by decide +kernel
theorem dL_areHeld_554 : decode cL_areHeld 554 = .ok (.iconst 0, 1) := by decide +kernel
theorem dL_areHeld_555 : decode cL_areHeld 555 = .ok (.ireturn, 1) := by decide +kernel
theorem dL_isPath_0 : decode cL_isPath 0 = .ok (.aload_n 0, 1) := by decide +kernel
theorem dL_isPath_1 : decode cL_isPath 1 = .ok (.iload_n 1, 1) := by decide +kernel
theorem dL_isPath_2 : decode cL_isPath 2 = .ok (.iload_n 2, 1) := by decide +kernel
theorem dL_isPath_3 : decode cL_isPath 3 = .ok (.invokevirtual 51, 3) := by decide +kernel
theorem dL_isPath_6 : decode cL_isPath 6 = .ok (.istore_n 3, 1) := by decide +kernel
theorem dL_isPath_7 : decode cL_isPath 7 = .ok (.aload_n 0, 1) := by decide +kernel
theorem dL_isPath_8 : decode cL_isPath 8 = .ok (.iload_n 1, 1) := by decide +kernel
theorem dL_isPath_9 : decode cL_isPath 9 = .ok (.iconst 4, 1) := by decide +kernel
theorem dL_isPath_10 : decode cL_isPath 10 = .ok (.invokevirtual 39, 3) := by decide +kernel
theorem dL_isPath_13 : decode cL_isPath 13 = .ok (.istore 4, 2) := by decide +kernel
theorem dL_isPath_15 : decode cL_isPath 15 = .ok (.iload_n 3, 1) := by decide +kernel
theorem dL_isPath_16 : decode cL_isPath 16 = .ok (.iconst (-1), 1) := by decide +kernel
theorem dL_isPath_17 : decode cL_isPath 17 = .ok (.if_icmp .ne 31, 3) := by decide +kernel
theorem dL_isPath_20 : decode cL_isPath 20 = .ok (.iload 4, 2) := by decide +kernel
theorem dL_isPath_22 : decode cL_isPath 22 = .ok (.iload_n 2, 1) := by decide +kernel
theorem dL_isPath_23 : decode cL_isPath 23 = .ok (.ishr, 1) := by decide +kernel
theorem dL_isPath_24 : decode cL_isPath 24 = .ok (.iconst 1, 1) := by decide +kernel
theorem dL_isPath_25 : decode cL_isPath 25 = .ok (.iand, 1) := by decide +kernel
theorem dL_isPath_26 : decode cL_isPath 26 = .ok (.ifCond .ne 20, 3) := by decide +kernel
theorem dL_isPath_29 : decode cL_isPath 29 = .ok (.aload_n 0, 1) := by decide +kernel
theorem dL_isPath_30 : decode cL_isPath 30 = .ok (.iload_n 1, 1) := by decide +kernel
theorem dL_isPath_31 : decode cL_isPath 31 = .ok (.iload_n 2, 1) := by decide +kernel
theorem dL_isPath_32 : decode cL_isPath 32 = .ok (.iconst 0, 1) := by decide +kernel
theorem dL_isPath_33 : decode cL_isPath 33 = .ok (.invokestatic 108, 3) := by decide +kernel
theorem dL_isPath_36 : decode cL_isPath 36 = .ok (.sipush (-2053), 3) := by decide +kernel
theorem dL_isPath_39 : decode cL_isPath 39 = .ok (.if_icmp .ne 7, 3) := by decide +kernel
theorem dL_isPath_42 : decode cL_isPath 42 = .ok (.iconst 1, 1) := by decide +kernel
theorem dL_isPath_43 : decode cL_isPath 43 = .ok (.goto 4, 3) := by decide +kernel
theorem dL_isPath_46 : decode cL_isPath 46 = .ok (.iconst 0, 1) := by decide +kernel
theorem dL_isPath_47 : decode cL_isPath 47 = .ok (.ireturn, 1) := by decide +kernel
theorem dL_isPath_48 : decode cL_isPath 48 = .ok (.iload_n 1, 1) := by decide +kernel
theorem dL_isPath_49 : decode cL_isPath 49 = .ok (.istore 5, 2) := by decide +kernel
theorem dL_isPath_51 : decode cL_isPath 51 = .ok (.iload 4, 2) := by decide +kernel
theorem dL_isPath_53 : decode cL_isPath 53 = .ok (.iload_n 2, 1) := by decide +kernel
theorem dL_isPath_54 : decode cL_isPath 54 = .ok (.ishr, 1) := by decide +kernel
theorem dL_isPath_55 : decode cL_isPath 55 = .ok (.iconst 1, 1) := by decide +kernel
theorem dL_isPath_56 : decode cL_isPath 56 = .ok (.iand, 1) := by decide +kernel
theorem dL_isPath_57 : decode cL_isPath 57 = .ok (.iconst 1, 1) := by decide +kernel
theorem dL_isPath_58 : decode cL_isPath 58 = .ok (.if_icmp .ne 29, 3) := by decide +kernel
theorem dL_isPath_61 : decode cL_isPath 61 = .ok (.iload_n 3, 1) := by decide +kernel
theorem dL_isPath_62 : decode cL_isPath 62 = .ok (.ifCond .ne 7, 3) := by decide +kernel
theorem dL_isPath_65 : decode cL_isPath 65 = .ok (.iconst 1, 1) := by decide +kernel
theorem dL_isPath_66 : decode cL_isPath 66 = .ok (.goto 4, 3) := by decide +kernel
theorem dL_isPath_69 : decode cL_isPath 69 = .ok (.iconst 0, 1) := by decide +kernel
theorem dL_isPath_70 : decode cL_isPath 70 = .ok (.iload_n 1, 1) := by decide +kernel
theorem dL_isPath_71 : decode cL_isPath 71 = .ok (.iload_n 2, 1) := by decide +kernel
theorem dL_isPath_72 : decode cL_isPath 72 = .ok (.if_icmp .ne 7, 3) := by decide +kernel
theorem dL_isPath_75 : decode cL_isPath 75 = .ok (.iconst 1, 1) := by decide +kernel
theorem dL_isPath_76 : decode cL_isPath 76 = .ok (.goto 4, 3) := by decide +kernel
theorem dL_isPath_79 : decode cL_isPath 79 = .ok (.iconst 0, 1) := by decide +kernel
theorem dL_isPath_80 : decode cL_isPath 80 = .ok (.if_icmp .ne 7, 3) := by decide +kernel
theorem dL_isPath_83 : decode cL_isPath 83 = .ok (.iconst 1, 1) := by decide +kernel
theorem dL_isPath_84 : decode cL_isPath 84 = .ok (.goto 4, 3) := by decide +kernel
theorem dL_isPath_87 : decode cL_isPath 87 = .ok (.iconst 0, 1) := by decide +kernel
theorem dL_isPath_88 : decode cL_isPath 88 = .ok (.istore 6, 2) := by decide +kernel
theorem dL_isPath_90 : decode cL_isPath 90 = .ok (.iconst 0, 1) := by decide +kernel
theorem dL_isPath_91 : decode cL_isPath 91 = .ok (.istore 7, 2) := by decide +kernel
theorem dL_isPath_93 : decode cL_isPath 93 = .ok (.iload 7, 2) := by decide +kernel
theorem dL_isPath_95 : decode cL_isPath 95 = .ok (.iload_n 3, 1) := by decide +kernel
theorem dL_isPath_96 : decode cL_isPath 96 = .ok (.if_icmp .ge 111, 3) := by decide +kernel
theorem dL_isPath_99 : decode cL_isPath 99 = .ok (.iload 6, 2) := by decide +kernel
theorem dL_isPath_101 : decode cL_isPath 101 = .ok (.ifCond .eq 106, 3) := by decide +kernel
theorem dL_isPath_104 : decode cL_isPath 104 = .ok (.aload_n 0, 1) := by decide +kernel
theorem dL_isPath_105 : decode cL_isPath 105 = .ok (.iload_n 1, 1) := by decide +kernel
theorem dL_isPath_106 : decode cL_isPath 106 = .ok (.iload_n 2, 1) := by decide +kernel
theorem dL_isPath_107 : decode cL_isPath 107 = .ok (.iload 7, 2) := by decide +kernel
theorem dL_isPath_109 : decode cL_isPath 109 = .ok (.invokevirtual 54, 3) := by decide +kernel
theorem dL_isPath_112 : decode cL_isPath 112 = .ok (.istore 8, 2) := by decide +kernel
theorem dL_isPath_114 : decode cL_isPath 114 = .ok (.aload_n 0, 1) := by decide +kernel
theorem dL_isPath_115 : decode cL_isPath 115 = .ok (.iload 8, 2) := by decide +kernel
theorem dL_isPath_117 : decode cL_isPath 117 = .ok (.iconst 2, 1) := by decide +kernel
theorem dL_isPath_118 : decode cL_isPath 118 = .ok (.invokevirtual 42, 3) := by decide +kernel
theorem dL_isPath_121 : decode cL_isPath 121 = .ok (.iload 5, 2) := by decide +kernel
theorem dL_isPath_123 : decode cL_isPath 123 = .ok (.if_icmp .ne 7, 3) := by decide +kernel
theorem dL_isPath_126 : decode cL_isPath 126 = .ok (.iconst 1, 1) := by decide +kernel
theorem dL_isPath_127 : decode cL_isPath 127 = .ok (.goto 4, 3) := by decide +kernel
theorem dL_isPath_130 : decode cL_isPath 130 = .ok (.iconst 0, 1) := by decide +kernel
theorem dL_isPath_131 : decode cL_isPath 131 = .ok (.istore 6, 2) := by decide +kernel
theorem dL_isPath_133 : decode cL_isPath 133 = .ok (.aload_n 0, 1) := by decide +kernel
theorem dL_isPath_134 : decode cL_isPath 134 = .ok (.iload 8, 2) := by decide +kernel
theorem dL_isPath_136 : decode cL_isPath 136 = .ok (.iconst 0, 1) := by decide +kernel
theorem dL_isPath_137 : decode cL_isPath 137 = .ok (.invokevirtual 42, 3) := by decide +kernel
theorem dL_isPath_140 : decode cL_isPath 140 = .ok (.iload 5, 2) := by decide +kernel
theorem dL_isPath_142 : decode cL_isPath 142 = .ok (.if_icmp .ne 13, 3) := by decide +kernel
theorem dL_isPath_145 : decode cL_isPath 145 = .ok (.aload_n 0, 1) := by decide +kernel
theorem dL_isPath_146 : decode cL_isPath 146 = .ok (.iload 8, 2) := by decide +kernel
theorem dL_isPath_148 : decode cL_isPath 148 = .ok (.iconst 1, 1) := by decide +kernel
theorem dL_isPath_149 : decode cL_isPath 149 = .ok (.invokevirtual 42, 3) := by decide +kernel
theorem dL_isPath_152 : decode cL_isPath 152 = .ok (.goto 10, 3) := by decide +kernel
theorem dL_isPath_155 : decode cL_isPath 155 = .ok (.aload_n 0, 1) := by decide +kernel
theorem dL_isPath_156 : decode cL_isPath 156 = .ok (.iload 8, 2) := by decide +kernel
theorem dL_isPath_158 : decode cL_isPath 158 = .ok (.iconst 0, 1) := by decide +kernel
theorem dL_isPath_159 : decode cL_isPath 159 = .ok (.invokevirtual 42, 3) := by decide +kernel
theorem dL_isPath_162 : decode cL_isPath 162 = .ok (.istore 5, 2) := by decide +kernel
theorem dL_isPath_164 : decode cL_isPath 164 = .ok (.iload 6, 2) := by decide +kernel
theorem dL_isPath_166 : decode cL_isPath 166 = .ok (.ifCond .eq 32, 3) := by decide +kernel
theorem dL_isPath_169 : decode cL_isPath 169 = .ok (.iload 4, 2) := by decide +kernel
theorem dL_isPath_171 : decode cL_isPath 171 = .ok (.iload 5, 2) := by decide +kernel
theorem dL_isPath_173 : decode cL_isPath 173 = .ok (.ishr, 1) := by decide +kernel
theorem dL_isPath_174 : decode cL_isPath 174 = .ok (.iconst 1, 1) := by decide +kernel
theorem dL_isPath_175 : decode cL_isPath 175 = .ok (.iand, 1) := by decide +kernel
theorem dL_isPath_176 : decode cL_isPath 176 = .ok (.iconst 1, 1) := by decide +kernel
theorem dL_isPath_177 : decode cL_isPath 177 = .ok (.if_icmp .ne 21, 3) := by decide +kernel
theorem dL_isPath_180 : decode cL_isPath 180 = .ok (.aload_n 0, 1) := by decide +kernel
theorem dL_isPath_181 : decode cL_isPath 181 = .ok (.iload_n 1, 1) := by decide +kernel
theorem dL_isPath_182 : decode cL_isPath 182 = .ok (.iload 5, 2) := by decide +kernel
theorem dL_isPath_184 : decode cL_isPath 184 = .ok (.invokevirtual 51, 3) := by decide +kernel
theorem dL_isPath_187 : decode cL_isPath 187 = .ok (.iload 7, 2) := by decide +kernel
theorem dL_isPath_189 : decode cL_isPath 189 = .ok (.iconst 1, 1) := by decide +kernel
theorem dL_isPath_190 : decode cL_isPath 190 = .ok (.iadd, 1) := by decide +kernel
theorem dL_isPath_191 : decode cL_isPath 191 = .ok (.if_icmp .ne 7, 3) := by decide +kernel
theorem dL_isPath_194 : decode cL_isPath 194 = .ok (.iconst 1, 1) := by decide +kernel
theorem dL_isPath_195 : decode cL_isPath 195 = .ok (.goto 4, 3) := by decide +kernel
theorem dL_isPath_198 : decode cL_isPath 198 = .ok (.iconst 0, 1) := by decide +kernel
theorem dL_isPath_199 : decode cL_isPath 199 = .ok (.istore 6, 2) := by decide +kernel
theorem dL_isPath_201 : decode cL_isPath 201 = .ok (.iinc 7 1, 3) := by decide +kernel
theorem dL_isPath_204 : decode cL_isPath 204 = .ok (.goto (-111), 3) := by decide +kernel
theorem dL_isPath_207 : decode cL_isPath 207 = .ok (.iload 6, 2) := by decide +kernel
theorem dL_isPath_209 : decode cL_isPath 209 = .ok (.ifCond .eq 39, 3) := by decide +kernel
theorem dL_isPath_212 : decode cL_isPath 212 = .ok (.iload 5, 2) := by decide +kernel
theorem dL_isPath_214 : decode cL_isPath 214 = .ok (.iload_n 2, 1) := by decide +kernel
theorem dL_isPath_215 : decode cL_isPath 215 = .ok (.if_icmp .ne 33, 3) := by decide +kernel
theorem dL_isPath_218 : decode cL_isPath 218 = .ok (.aload_n 0, 1) := by decide +kernel
theorem dL_isPath_219 : decode cL_isPath 219 = .ok (.iload_n 1, 1) := by decide +kernel
theorem dL_isPath_220 : decode cL_isPath 220 = .ok (.iload_n 2, 1) := by decide +kernel
theorem dL_isPath_221 : decode cL_isPath 221 = .ok (.iload_n 3, 1) := by decide +kernel
theorem dL_isPath_222 : decode cL_isPath 222 = .ok (.invokestatic 108, 3) := by decide +kernel
theorem dL_isPath_225 : decode cL_isPath 225 = .ok (.sipush (-2053), 3) := by decide +kernel
theorem dL_isPath_228 : decode cL_isPath 228 = .ok (.if_icmp .ne 20, 3) := by decide +kernel
theorem dL_isPath_231 : decode cL_isPath 231 = .ok (.aload_n 0, 1) := by decide +kernel
theorem dL_isPath_232 : decode cL_isPath 232 = .ok (.iload_n 1, 1) := by decide +kernel
theorem dL_isPath_233 : decode cL_isPath 233 = .ok (.iload_n 2, 1) := by decide +kernel
theorem dL_isPath_234 : decode cL_isPath 234 = .ok (.iconst (-1), 1) := by decide +kernel
theorem dL_isPath_235 : decode cL_isPath 235 = .ok (.invokestatic 108, 3) := by decide +kernel
theorem dL_isPath_238 : decode cL_isPath 238 = .ok (.sipush (-2053), 3) := by decide +kernel
theorem dL_isPath_241 : decode cL_isPath 241 = .ok (.if_icmp .ne 7, 3) := by decide +kernel
theorem dL_isPath_244 : decode cL_isPath 244 = .ok (.iconst 1, 1) := by decide +kernel
theorem dL_isPath_245 : decode cL_isPath 245 = .ok (.goto 4, 3) := by decide +kernel
theorem dL_isPath_248 : decode cL_isPath 248 = .ok (.iconst 0, 1) := by decide +kernel
theorem dL_isPath_249 : decode cL_isPath 249 = .ok (.ireturn, 1) := by decide +kernel
theorem dL_isDense_0 : decode cL_isDense 0 = .ok (.aload_n 0, 1) := by decide +kernel
theorem dL_isDense_1 : decode cL_isDense 1 = .ok (.invokevirtual 119, 3) := by decide +kernel
theorem dL_isDense_4 : decode cL_isDense 4 = .ok (.istore_n 2, 1) := by decide +kernel
theorem dL_isDense_5 : decode cL_isDense 5 = .ok (.iconst 0, 1) := by decide +kernel
theorem dL_isDense_6 : decode cL_isDense 6 = .ok (.istore_n 3, 1) := by decide +kernel
theorem dL_isDense_7 : decode cL_isDense 7 = .ok (.iconst 0, 1) := by decide +kernel
theorem dL_isDense_8 : decode cL_isDense 8 = .ok (.istore 4, 2) := by decide +kernel
theorem dL_isDense_10 : decode cL_isDense 10 = .ok (.iconst 0, 1) := by decide +kernel
theorem dL_isDense_11 : decode cL_isDense 11 = .ok (.istore 5, 2) := by decide +kernel
theorem dL_isDense_13 : decode cL_isDense 13 = .ok (.aload_n 0, 1) := by decide +kernel
theorem dL_isDense_14 : decode cL_isDense 14 = .ok (.invokevirtual 122, 3) := by decide +kernel
theorem dL_isDense_17 : decode cL_isDense 17 = .ok (.istore 6, 2) := by decide +kernel
theorem dL_isDense_19 : decode cL_isDense 19 = .ok (.iconst 0, 1) := by decide +kernel
theorem dL_isDense_20 : decode cL_isDense 20 = .ok (.istore 7, 2) := by decide +kernel
theorem dL_isDense_22 : decode cL_isDense 22 = .ok (.iload 7, 2) := by decide +kernel
theorem dL_isDense_24 : decode cL_isDense 24 = .ok (.aload_n 0, 1) := by decide +kernel
theorem dL_isDense_25 : decode cL_isDense 25 = .ok (.iconst 0, 1) := by decide +kernel
theorem dL_isDense_26 : decode cL_isDense 26 = .ok (.invokevirtual 48, 3) := by decide +kernel
theorem dL_isDense_29 : decode cL_isDense 29 = .ok (.if_icmp .ge 61, 3) := by decide +kernel
theorem dL_isDense_32 : decode cL_isDense 32 = .ok (.iload_n 3, 1) := by decide +kernel
theorem dL_isDense_33 : decode cL_isDense 33 = .ok (.iload_n 2, 1) := by decide +kernel
theorem dL_isDense_34 : decode cL_isDense 34 = .ok (.iload 7, 2) := by decide +kernel
theorem dL_isDense_36 : decode cL_isDense 36 = .ok (.ishr, 1) := by decide +kernel
theorem dL_isDense_37 : decode cL_isDense 37 = .ok (.iconst 1, 1) := by decide +kernel
theorem dL_isDense_38 : decode cL_isDense 38 = .ok (.iand, 1) := by decide +kernel
theorem dL_isDense_39 : decode cL_isDense 39 = .ok (.iadd, 1) := by decide +kernel
theorem dL_isDense_40 : decode cL_isDense 40 = .ok (.istore_n 3, 1) := by decide +kernel
theorem dL_isDense_41 : decode cL_isDense 41 = .ok (.iload 4, 2) := by decide +kernel
theorem dL_isDense_43 : decode cL_isDense 43 = .ok (.iload_n 1, 1) := by decide +kernel
theorem dL_isDense_44 : decode cL_isDense 44 = .ok (.iload 7, 2) := by decide +kernel
theorem dL_isDense_46 : decode cL_isDense 46 = .ok (.ishr, 1) := by decide +kernel
theorem dL_isDense_47 : decode cL_isDense 47 = .ok (.iconst 1, 1) := by decide +kernel
theorem dL_isDense_48 : decode cL_isDense 48 = .ok (.iand, 1) := by decide +kernel
theorem dL_isDense_49 : decode cL_isDense 49 = .ok (.iadd, 1) := by decide +kernel
theorem dL_isDense_50 : decode cL_isDense 50 = .ok (.istore 4, 2) := by decide +kernel
theorem dL_isDense_52 : decode cL_isDense 52 = .ok (.iload 5, 2) := by decide +kernel
theorem dL_isDense_54 : decode cL_isDense 54 = .ok (.iload 6, 2) := by decide +kernel
theorem dL_isDense_56 : decode cL_isDense 56 = .ok (.ifCond .lt 24, 3) := by decide +kernel
theorem dL_isDense_59 : decode cL_isDense 59 = .ok (.iload 6, 2) := by decide +kernel
theorem dL_isDense_61 : decode cL_isDense 61 = .ok (.iload 7, 2) := by decide +kernel
theorem dL_isDense_63 : decode cL_isDense 63 = .ok (.ishr, 1) := by decide +kernel
theorem dL_isDense_64 : decode cL_isDense 64 = .ok (.iconst 1, 1) := by decide +kernel
theorem dL_isDense_65 : decode cL_isDense 65 = .ok (.iand, 1) := by decide +kernel
theorem dL_isDense_66 : decode cL_isDense 66 = .ok (.iconst 1, 1) := by decide +kernel
theorem dL_isDense_67 : decode cL_isDense 67 = .ok (.if_icmp .ne 13, 3) := by decide +kernel
theorem dL_isDense_70 : decode cL_isDense 70 = .ok (.aload_n 0, 1) := by decide +kernel
theorem dL_isDense_71 : decode cL_isDense 71 = .ok (.iload 7, 2) := by decide +kernel
theorem dL_isDense_73 : decode cL_isDense 73 = .ok (.iconst 2, 1) := by decide +kernel
theorem dL_isDense_74 : decode cL_isDense 74 = .ok (.invokevirtual 39, 3) := by decide +kernel
theorem dL_isDense_77 : decode cL_isDense 77 = .ok (.goto 4, 3) := by decide +kernel
theorem dL_isDense_80 : decode cL_isDense 80 = .ok (.iconst 0, 1) := by decide +kernel
theorem dL_isDense_81 : decode cL_isDense 81 = .ok (.iadd, 1) := by decide +kernel
theorem dL_isDense_82 : decode cL_isDense 82 = .ok (.istore 5, 2) := by decide +kernel
theorem dL_isDense_84 : decode cL_isDense 84 = .ok (.iinc 7 1, 3) := by decide +kernel
theorem dL_isDense_87 : decode cL_isDense 87 = .ok (.goto (-65), 3) := by decide +kernel
theorem dL_isDense_90 : decode cL_isDense 90 = .ok (.aload_n 0, 1) := by decide +kernel
theorem dL_isDense_91 : decode cL_isDense 91 = .ok (.iload_n 2, 1) := by decide +kernel
theorem dL_isDense_92 : decode cL_isDense 92 = .ok (.invokevirtual 58, 3) := by decide +kernel
theorem dL_isDense_95 : decode cL_isDense 95 = .ok (.istore 7, 2) := by decide +kernel
theorem dL_isDense_97 : decode cL_isDense 97 = .ok (.aload_n 0, 1) := by decide +kernel
theorem dL_isDense_98 : decode cL_isDense 98 = .ok (.iload_n 1, 1) := by decide +kernel
theorem dL_isDense_99 : decode cL_isDense 99 = .ok (.invokevirtual 58, 3) := by decide +kernel
theorem dL_isDense_102 : decode cL_isDense 102 = .ok (.iload_n 3, 1) := by decide +kernel
theorem dL_isDense_103 : decode cL_isDense 103 = .ok (.imul, 1) := by decide +kernel
theorem dL_isDense_104 : decode cL_isDense 104 = .ok (.iload 7, 2) := by decide +kernel
theorem dL_isDense_106 : decode cL_isDense 106 = .ok (.iload 4, 2) := by decide +kernel
theorem dL_isDense_108 : decode cL_isDense 108 = .ok (.imul, 1) := by decide +kernel
theorem dL_isDense_109 : decode cL_isDense 109 = .ok (.if_icmp .gt 134, 3) := by decide +kernel
theorem dL_isDense_112 : decode cL_isDense 112 = .ok (.aload_n 0, 1) := by decide +kernel
theorem dL_isDense_113 : decode cL_isDense 113 = .ok (.invokevirtual 125, 3) := by decide +kernel
theorem dL_isDense_116 : decode cL_isDense 116 = .ok (.iload 7, 2) := by decide +kernel
theorem dL_isDense_118 : decode cL_isDense 118 = .ok (.iload_n 3, 1) := by decide +kernel
theorem dL_isDense_119 : decode cL_isDense 119 = .ok (.iadd, 1) := by decide +kernel
theorem dL_isDense_120 : decode cL_isDense 120 = .ok (.iconst 1, 1) := by decide +kernel
theorem dL_isDense_121 : decode cL_isDense 121 = .ok (.isub, 1) := by decide +kernel
theorem dL_isDense_122 : decode cL_isDense 122 = .ok (.iload_n 3, 1) := by decide +kernel
theorem dL_isDense_123 : decode cL_isDense 123 = .ok (.idiv, 1) := by decide +kernel
theorem dL_isDense_124 : decode cL_isDense 124 = .ok (.if_icmp .ne 119, 3) := by decide +kernel
theorem dL_isDense_127 : decode cL_isDense 127 = .ok (.aload_n 0, 1) := by decide +kernel
theorem dL_isDense_128 : decode cL_isDense 128 = .ok (.invokevirtual 128, 3) := by decide +kernel
theorem dL_isDense_131 : decode cL_isDense 131 = .ok (.iload_n 3, 1) := by decide +kernel
theorem dL_isDense_132 : decode cL_isDense 132 = .ok (.i2d, 1) := by decide +kernel
theorem dL_isDense_133 : decode cL_isDense 133 = .ok (.dmul, 1) := by decide +kernel
theorem dL_isDense_134 : decode cL_isDense 134 = .ok (.iload 7, 2) := by decide +kernel
theorem dL_isDense_136 : decode cL_isDense 136 = .ok (.i2d, 1) := by decide +kernel
theorem dL_isDense_137 : decode cL_isDense 137 = .ok (.ldc2_w 132, 3) := by decide +kernel
theorem dL_isDense_140 : decode cL_isDense 140 = .ok (.dsub, 1) := by decide +kernel
theorem dL_isDense_141 : decode cL_isDense 141 = .ok (.dcmp .l, 1) := by decide +kernel
theorem dL_isDense_142 : decode cL_isDense 142 = .ok (.ifCond .le 101, 3) := by decide +kernel
theorem dL_isDense_145 : decode cL_isDense 145 = .ok (.aload_n 0, 1) := by decide +kernel
theorem dL_isDense_146 : decode cL_isDense 146 = .ok (.invokevirtual 128, 3) := by decide +kernel
theorem dL_isDense_149 : decode cL_isDense 149 = .ok (.iload_n 3, 1) := by decide +kernel
theorem dL_isDense_150 : decode cL_isDense 150 = .ok (.i2d, 1) := by decide +kernel
theorem dL_isDense_151 : decode cL_isDense 151 = .ok (.dmul, 1) := by decide +kernel
theorem dL_isDense_152 : decode cL_isDense 152 = .ok (.iload 7, 2) := by decide +kernel
theorem dL_isDense_154 : decode cL_isDense 154 = .ok (.i2d, 1) := by decide +kernel
theorem dL_isDense_155 : decode cL_isDense 155 = .ok (.ldc2_w 132, 3) := by decide +kernel
theorem dL_isDense_158 : decode cL_isDense 158 = .ok (.dadd, 1) := by decide +kernel
theorem dL_isDense_159 : decode cL_isDense 159 = .ok (.dcmp .g, 1) := by decide +kernel
theorem dL_isDense_160 : decode cL_isDense 160 = .ok (.ifCond .ge 83, 3) := by decide +kernel
theorem dL_isDense_163 : decode cL_isDense 163 = .ok (.aload_n 0, 1) := by decide +kernel
theorem dL_isDense_164 : decode cL_isDense 164 = .ok (.iconst 2, 1) := by decide +kernel
theorem dL_isDense_165 : decode cL_isDense 165 = .ok (.invokevirtual 48, 3) := by decide +kernel
theorem dL_isDense_168 : decode cL_isDense 168 = .ok (.aload_n 0, 1) := by decide +kernel
theorem dL_isDense_169 : decode cL_isDense 169 = .ok (.invokevirtual 125, 3) := by decide +kernel
theorem dL_isDense_172 : decode cL_isDense 172 = .ok (.if_icmp .lt 71, 3) := by decide +kernel
theorem dL_isDense_175 : decode cL_isDense 175 = .ok (.aload_n 0, 1) := by decide +kernel
theorem dL_isDense_176 : decode cL_isDense 176 = .ok (.invokevirtual 134, 3) := by decide +kernel
theorem dL_isDense_179 : decode cL_isDense 179 = .ok (.aload_n 0, 1) := by decide +kernel
theorem dL_isDense_180 : decode cL_isDense 180 = .ok (.invokevirtual 125, 3) := by decide +kernel
theorem dL_isDense_183 : decode cL_isDense 183 = .ok (.if_icmp .ne 60, 3) := by decide +kernel
theorem dL_isDense_186 : decode cL_isDense 186 = .ok (.aload_n 0, 1) := by decide +kernel
theorem dL_isDense_187 : decode cL_isDense 187 = .ok (.iconst 1, 1) := by decide +kernel
theorem dL_isDense_188 : decode cL_isDense 188 = .ok (.aload_n 0, 1) := by decide +kernel
theorem dL_isDense_189 : decode cL_isDense 189 = .ok (.iconst 0, 1) := by decide +kernel
theorem dL_isDense_190 : decode cL_isDense 190 = .ok (.invokevirtual 48, 3) := by decide +kernel
theorem dL_isDense_193 : decode cL_isDense 193 = .ok (.ishl, 1) := by decide +kernel
theorem dL_isDense_194 : decode cL_isDense 194 = .ok (.iconst 1, 1) := by decide +kernel
theorem dL_isDense_195 : decode cL_isDense 195 = .ok (.isub, 1) := by decide +kernel
theorem dL_isDense_196 : decode cL_isDense 196 = .ok (.invokevirtual 58, 3) := by decide +kernel
theorem dL_isDense_199 : decode cL_isDense 199 = .ok (.aload_n 0, 1) := by decide +kernel
theorem dL_isDense_200 : decode cL_isDense 200 = .ok (.iconst 1, 1) := by decide +kernel
theorem dL_isDense_201 : decode cL_isDense 201 = .ok (.invokevirtual 48, 3) := by decide +kernel
theorem dL_isDense_204 : decode cL_isDense 204 = .ok (.if_icmp .ne 39, 3) := by decide +kernel
theorem dL_isDense_207 : decode cL_isDense 207 = .ok (.iload 6, 2) := by decide +kernel
theorem dL_isDense_209 : decode cL_isDense 209 = .ok (.iconst (-1), 1) := by decide +kernel
theorem dL_isDense_210 : decode cL_isDense 210 = .ok (.if_icmp .eq 14, 3) := by decide +kernel
theorem dL_isDense_213 : decode cL_isDense 213 = .ok (.aload_n 0, 1) := by decide +kernel
theorem dL_isDense_214 : decode cL_isDense 214 = .ok (.iload 6, 2) := by decide +kernel
theorem dL_isDense_216 : decode cL_isDense 216 = .ok (.invokevirtual 58, 3) := by decide +kernel
theorem dL_isDense_219 : decode cL_isDense 219 = .ok (.iload 5, 2) := by decide +kernel
theorem dL_isDense_221 : decode cL_isDense 221 = .ok (.if_icmp .le 22, 3) := by decide +kernel
theorem dL_isDense_224 : decode cL_isDense 224 = .ok (.aload_n 0, 1) := by decide +kernel
theorem dL_isDense_225 : decode cL_isDense 225 = .ok (.bipush 7, 2) := by decide +kernel
theorem dL_isDense_227 : decode cL_isDense 227 = .ok (.invokevirtual 48, 3) := by decide +kernel
theorem dL_isDense_230 : decode cL_isDense 230 = .ok (.ifCond .gt 9, 3) := by decide +kernel
theorem dL_isDense_233 : decode cL_isDense 233 = .ok (.iload 6, 2) := by decide +kernel
theorem dL_isDense_235 : decode cL_isDense 235 = .ok (.iconst (-1), 1) := by decide +kernel
theorem dL_isDense_236 : decode cL_isDense 236 = .ok (.if_icmp .ne 7, 3) := by decide +kernel
theorem dL_isDense_239 : decode cL_isDense 239 = .ok (.iconst 1, 1) := by decide +kernel
theorem dL_isDense_240 : decode cL_isDense 240 = .ok (.goto 4, 3) := by decide +kernel
theorem dL_isDense_243 : decode cL_isDense 243 = .ok (.iconst 0, 1) := by decide +kernel
theorem dL_isDense_244 : decode cL_isDense 244 = .ok (.ireturn, 1) := by decide +kernel
theorem dL_isAhead_0 : decode cL_isAhead 0 = .ok (.aload_n 0, 1) := by decide +kernel
theorem dL_isAhead_1 : decode cL_isAhead 1 = .ok (.invokestatic 78, 3) := by decide +kernel
theorem dL_isAhead_4 : decode cL_isAhead 4 = .ok (.lstore_n 3, 1) := by decide +kernel
theorem dL_isAhead_5 : decode cL_isAhead 5 = .ok (.aload_n 0, 1) := by decide +kernel
theorem dL_isAhead_6 : decode cL_isAhead 6 = .ok (.invokevirtual 125, 3) := by decide +kernel
theorem dL_isAhead_9 : decode cL_isAhead 9 = .ok (.istore 5, 2) := by decide +kernel
theorem dL_isAhead_11 : decode cL_isAhead 11 = .ok (.aload_n 0, 1) := by decide +kernel
theorem dL_isAhead_12 : decode cL_isAhead 12 = .ok (.iload_n 1, 1) := by decide +kernel
theorem dL_isAhead_13 : decode cL_isAhead 13 = .ok (.iload_n 2, 1) := by decide +kernel
theorem dL_isAhead_14 : decode cL_isAhead 14 = .ok (.invokevirtual 61, 3) := by decide +kernel
theorem dL_isAhead_17 : decode cL_isAhead 17 = .ok (.istore 6, 2) := by decide +kernel
theorem dL_isAhead_19 : decode cL_isAhead 19 = .ok (.aload_n 0, 1) := by decide +kernel
theorem dL_isAhead_20 : decode cL_isAhead 20 = .ok (.invokevirtual 137, 3) := by decide +kernel
theorem dL_isAhead_23 : decode cL_isAhead 23 = .ok (.istore 7, 2) := by decide +kernel
theorem dL_isAhead_25 : decode cL_isAhead 25 = .ok (.aload_n 0, 1) := by decide +kernel
theorem dL_isAhead_26 : decode cL_isAhead 26 = .ok (.iconst 5, 1) := by decide +kernel
theorem dL_isAhead_27 : decode cL_isAhead 27 = .ok (.invokevirtual 48, 3) := by decide +kernel
theorem dL_isAhead_30 : decode cL_isAhead 30 = .ok (.istore 8, 2) := by decide +kernel
theorem dL_isAhead_32 : decode cL_isAhead 32 = .ok (.iload 6, 2) := by decide +kernel
theorem dL_isAhead_34 : decode cL_isAhead 34 = .ok (.iload 5, 2) := by decide +kernel
theorem dL_isAhead_36 : decode cL_isAhead 36 = .ok (.if_icmp .lt 16, 3) := by decide +kernel
theorem dL_isAhead_39 : decode cL_isAhead 39 = .ok (.iload 6, 2) := by decide +kernel
theorem dL_isAhead_41 : decode cL_isAhead 41 = .ok (.iload 5, 2) := by decide +kernel
theorem dL_isAhead_43 : decode cL_isAhead 43 = .ok (.iconst 1, 1) := by decide +kernel
theorem dL_isAhead_44 : decode cL_isAhead 44 = .ok (.iadd, 1) := by decide +kernel
theorem dL_isAhead_45 : decode cL_isAhead 45 = .ok (.if_icmp .gt 7, 3) := by decide +kernel
theorem dL_isAhead_48 : decode cL_isAhead 48 = .ok (.iconst 1, 1) := by decide +kernel
theorem dL_isAhead_49 : decode cL_isAhead 49 = .ok (.goto 4, 3) := by decide +kernel
theorem dL_isAhead_52 : decode cL_isAhead 52 = .ok (.iconst 0, 1) := by decide +kernel
theorem dL_isAhead_53 : decode cL_isAhead 53 = .ok (.istore 9, 2) := by decide +kernel
theorem dL_isAhead_55 : decode cL_isAhead 55 = .ok (.aload_n 0, 1) := by decide +kernel
theorem dL_isAhead_56 : decode cL_isAhead 56 = .ok (.iload_n 1, 1) := by decide +kernel
theorem dL_isAhead_57 : decode cL_isAhead 57 = .ok (.iload_n 2, 1) := by decide +kernel
theorem dL_isAhead_58 : decode cL_isAhead 58 = .ok (.invokestatic 87, 3) := by decide +kernel
theorem dL_isAhead_61 : decode cL_isAhead 61 = .ok (.istore 10, 2) := by decide +kernel
theorem dL_isAhead_63 : decode cL_isAhead 63 = .ok (.iload 9, 2) := by decide +kernel
theorem dL_isAhead_65 : decode cL_isAhead 65 = .ok (.ifCond .eq 113, 3) := by decide +kernel
theorem dL_isAhead_68 : decode cL_isAhead 68 = .ok (.iload 10, 2) := by decide +kernel
theorem dL_isAhead_70 : decode cL_isAhead 70 = .ok (.sipush (-2052), 3) := by decide +kernel
theorem dL_isAhead_73 : decode cL_isAhead 73 = .ok (.if_icmp .eq 30, 3) := by decide +kernel
theorem dL_isAhead_76 : decode cL_isAhead 76 = .ok (.aload_n 0, 1) := by decide +kernel
theorem dL_isAhead_77 : decode cL_isAhead 77 = .ok (.invokevirtual 125, 3) := by decide +kernel
theorem dL_isAhead_80 : decode cL_isAhead 80 = .ok (.iload 6, 2) := by decide +kernel
theorem dL_isAhead_82 : decode cL_isAhead 82 = .ok (.if_icmp .ne 96, 3) := by decide +kernel
theorem dL_isAhead_85 : decode cL_isAhead 85 = .ok (.aload_n 0, 1) := by decide +kernel
theorem dL_isAhead_86 : decode cL_isAhead 86 = .ok (.iload 10, 2) := by decide +kernel
theorem dL_isAhead_88 : decode cL_isAhead 88 = .ok (.invokevirtual 64, 3) := by decide +kernel
theorem dL_isAhead_91 : decode cL_isAhead 91 = .ok (.iload 5, 2) := by decide +kernel
theorem dL_isAhead_93 : decode cL_isAhead 93 = .ok (.if_icmp .ne 85, 3) := by decide +kernel
theorem dL_isAhead_96 : decode cL_isAhead 96 = .ok (.aload_n 0, 1) := by decide +kernel
theorem dL_isAhead_97 : decode cL_isAhead 97 = .ok (.invokestatic 140, 3) := by decide +kernel
theorem dL_isAhead_100 : decode cL_isAhead 100 = .ok (.ifCond .lt 78, 3) := by decide +kernel
theorem dL_isAhead_103 : decode cL_isAhead 103 = .ok (.aload_n 0, 1) := by decide +kernel
theorem dL_isAhead_104 : decode cL_isAhead 104 = .ok (.invokestatic 78, 3) := by decide +kernel
theorem dL_isAhead_107 : decode cL_isAhead 107 = .ok (.lload_n 3, 1) := by decide +kernel
theorem dL_isAhead_108 : decode cL_isAhead 108 = .ok (.lcmp, 1) := by decide +kernel
theorem dL_isAhead_109 : decode cL_isAhead 109 = .ok (.ifCond .ne 69, 3) := by decide +kernel
theorem dL_isAhead_112 : decode cL_isAhead 112 = .ok (.aload_n 0, 1) := by decide +kernel
theorem dL_isAhead_113 : decode cL_isAhead 113 = .ok (.invokevirtual 143, 3) := by decide +kernel
theorem dL_isAhead_116 : decode cL_isAhead 116 = .ok (.ifCond .lt 62, 3) := by decide +kernel
theorem dL_isAhead_119 : decode cL_isAhead 119 = .ok (.aload_n 0, 1) := by decide +kernel
theorem dL_isAhead_120 : decode cL_isAhead 120 = .ok (.iconst 2, 1) := by decide +kernel
theorem dL_isAhead_121 : decode cL_isAhead 121 = .ok (.invokevirtual 48, 3) := by decide +kernel
theorem dL_isAhead_124 : decode cL_isAhead 124 = .ok (.iload 5, 2) := by decide +kernel
theorem dL_isAhead_126 : decode cL_isAhead 126 = .ok (.if_icmp .ne 52, 3) := by decide +kernel
theorem dL_isAhead_129 : decode cL_isAhead 129 = .ok (.aload_n 0, 1) := by decide +kernel
theorem dL_isAhead_130 : decode cL_isAhead 130 = .ok (.iconst 5, 1) := by decide +kernel
theorem dL_isAhead_131 : decode cL_isAhead 131 = .ok (.invokevirtual 48, 3) := by decide +kernel
theorem dL_isAhead_134 : decode cL_isAhead 134 = .ok (.iload 8, 2) := by decide +kernel
theorem dL_isAhead_136 : decode cL_isAhead 136 = .ok (.iload 7, 2) := by decide +kernel
theorem dL_isAhead_138 : decode cL_isAhead 138 = .ok (.iadd, 1) := by decide +kernel
theorem dL_isAhead_139 : decode cL_isAhead 139 = .ok (.if_icmp .ne 39, 3) := by decide +kernel
theorem dL_isAhead_142 : decode cL_isAhead 142 = .ok (.aload_n 0, 1) := by decide +kernel
theorem dL_isAhead_143 : decode cL_isAhead 143 = .ok (.invokevirtual 137, 3) := by decide +kernel
theorem dL_isAhead_146 : decode cL_isAhead 146 = .ok (.ifCond .ne 32, 3) := by decide +kernel
theorem dL_isAhead_149 : decode cL_isAhead 149 = .ok (.aload_n 0, 1) := by decide +kernel
theorem dL_isAhead_150 : decode cL_isAhead 150 = .ok (.invokevirtual 125, 3) := by decide +kernel
theorem dL_isAhead_153 : decode cL_isAhead 153 = .ok (.iload 5, 2) := by decide +kernel
theorem dL_isAhead_155 : decode cL_isAhead 155 = .ok (.if_icmp .ne 23, 3) := by decide +kernel
theorem dL_isAhead_158 : decode cL_isAhead 158 = .ok (.aload_n 0, 1) := by decide +kernel
theorem dL_isAhead_159 : decode cL_isAhead 159 = .ok (.invokestatic 140, 3) := by decide +kernel
theorem dL_isAhead_162 : decode cL_isAhead 162 = .ok (.ifCond .lt 16, 3) := by decide +kernel
theorem dL_isAhead_165 : decode cL_isAhead 165 = .ok (.aload_n 0, 1) := by decide +kernel
theorem dL_isAhead_166 : decode cL_isAhead 166 = .ok (.invokestatic 78, 3) := by decide +kernel
theorem dL_isAhead_169 : decode cL_isAhead 169 = .ok (.lload_n 3, 1) := by decide +kernel
theorem dL_isAhead_170 : decode cL_isAhead 170 = .ok (.lcmp, 1) := by decide +kernel
theorem dL_isAhead_171 : decode cL_isAhead 171 = .ok (.ifCond .ne 7, 3) := by decide +kernel
theorem dL_isAhead_174 : decode cL_isAhead 174 = .ok (.iconst 1, 1) := by decide +kernel
theorem dL_isAhead_175 : decode cL_isAhead 175 = .ok (.goto 4, 3) := by decide +kernel
theorem dL_isAhead_178 : decode cL_isAhead 178 = .ok (.iconst 0, 1) := by decide +kernel
theorem dL_isAhead_179 : decode cL_isAhead 179 = .ok (.istore 9, 2) := by decide +kernel
theorem dL_isAhead_181 : decode cL_isAhead 181 = .ok (.aload_n 0, 1) := by decide +kernel
theorem dL_isAhead_182 : decode cL_isAhead 182 = .ok (.invokevirtual 146, 3) := by decide +kernel
theorem dL_isAhead_185 : decode cL_isAhead 185 = .ok (.istore 11, 2) := by decide +kernel
theorem dL_isAhead_187 : decode cL_isAhead 187 = .ok (.iload 9, 2) := by decide +kernel
theorem dL_isAhead_189 : decode cL_isAhead 189 = .ok (.ifCond .eq 120, 3) := by decide +kernel
theorem dL_isAhead_192 : decode cL_isAhead 192 = .ok (.aload_n 0, 1) := by decide +kernel
theorem dL_isAhead_193 : decode cL_isAhead 193 = .ok (.iconst 1, 1) := by decide +kernel
theorem dL_isAhead_194 : decode cL_isAhead 194 = .ok (.invokevirtual 48, 3) := by decide +kernel
theorem dL_isAhead_197 : decode cL_isAhead 197 = .ok (.ifCond .le 112, 3) := by decide +kernel
theorem dL_isAhead_200 : decode cL_isAhead 200 = .ok (.aload_n 0, 1) := by decide +kernel
theorem dL_isAhead_201 : decode cL_isAhead 201 = .ok (.iconst 0, 1) := by decide +kernel
theorem dL_isAhead_202 : decode cL_isAhead 202 = .ok (.invokevirtual 45, 3) := by decide +kernel
theorem dL_isAhead_205 : decode cL_isAhead 205 = .ok (.istore 12, 2) := by decide +kernel
theorem dL_isAhead_207 : decode cL_isAhead 207 = .ok (.aload_n 0, 1) := by decide +kernel
theorem dL_isAhead_208 : decode cL_isAhead 208 = .ok (.iload 12, 2) := by decide +kernel
theorem dL_isAhead_210 : decode cL_isAhead 210 = .ok (.invokevirtual 64, 3) := by decide +kernel
theorem dL_isAhead_213 : decode cL_isAhead 213 = .ok (.istore 13, 2) := by decide +kernel
theorem dL_isAhead_215 : decode cL_isAhead 215 = .ok (.iload 13, 2) := by decide +kernel
theorem dL_isAhead_217 : decode cL_isAhead 217 = .ok (.iload 5, 2) := by decide +kernel
theorem dL_isAhead_219 : decode cL_isAhead 219 = .ok (.if_icmp .eq 12, 3) := by decide +kernel
theorem dL_isAhead_222 : decode cL_isAhead 222 = .ok (.iload 13, 2) := by decide +kernel
theorem dL_isAhead_224 : decode cL_isAhead 224 = .ok (.iload 5, 2) := by decide +kernel
theorem dL_isAhead_226 : decode cL_isAhead 226 = .ok (.iconst 1, 1) := by decide +kernel
theorem dL_isAhead_227 : decode cL_isAhead 227 = .ok (.isub, 1) := by decide +kernel
theorem dL_isAhead_228 : decode cL_isAhead 228 = .ok (.if_icmp .ne 78, 3) := by decide +kernel
theorem dL_isAhead_231 : decode cL_isAhead 231 = .ok (.iload 11, 2) := by decide +kernel
theorem dL_isAhead_233 : decode cL_isAhead 233 = .ok (.iload 12, 2) := by decide +kernel
theorem dL_isAhead_235 : decode cL_isAhead 235 = .ok (.if_icmp .ne 7, 3) := by decide +kernel
theorem dL_isAhead_238 : decode cL_isAhead 238 = .ok (.iconst 1, 1) := by decide +kernel
theorem dL_isAhead_239 : decode cL_isAhead 239 = .ok (.goto 4, 3) := by decide +kernel
theorem dL_isAhead_242 : decode cL_isAhead 242 = .ok (.iconst 0, 1) := by decide +kernel
theorem dL_isAhead_243 : decode cL_isAhead 243 = .ok (.iload 13, 2) := by decide +kernel
theorem dL_isAhead_245 : decode cL_isAhead 245 = .ok (.iload 5, 2) := by decide +kernel
theorem dL_isAhead_247 : decode cL_isAhead 247 = .ok (.if_icmp .ge 7, 3) := by decide +kernel
theorem dL_isAhead_250 : decode cL_isAhead 250 = .ok (.iconst 1, 1) := by decide +kernel
theorem dL_isAhead_251 : decode cL_isAhead 251 = .ok (.goto 4, 3) := by decide +kernel
theorem dL_isAhead_254 : decode cL_isAhead 254 = .ok (.iconst 0, 1) := by decide +kernel
theorem dL_isAhead_255 : decode cL_isAhead 255 = .ok (.if_icmp .ne 51, 3) := by decide +kernel
theorem dL_isAhead_258 : decode cL_isAhead 258 = .ok (.iload 11, 2) := by decide +kernel
theorem dL_isAhead_260 : decode cL_isAhead 260 = .ok (.iconst (-1), 1) := by decide +kernel
theorem dL_isAhead_261 : decode cL_isAhead 261 = .ok (.if_icmp .eq 16, 3) := by decide +kernel
theorem dL_isAhead_264 : decode cL_isAhead 264 = .ok (.aload_n 0, 1) := by decide +kernel
theorem dL_isAhead_265 : decode cL_isAhead 265 = .ok (.iload 11, 2) := by decide +kernel
theorem dL_isAhead_267 : decode cL_isAhead 267 = .ok (.invokevirtual 64, 3) := by decide +kernel
theorem dL_isAhead_270 : decode cL_isAhead 270 = .ok (.iload 5, 2) := by decide +kernel
theorem dL_isAhead_272 : decode cL_isAhead 272 = .ok (.iconst 1, 1) := by decide +kernel
theorem dL_isAhead_273 : decode cL_isAhead 273 = .ok (.isub, 1) := by decide +kernel
theorem dL_isAhead_274 : decode cL_isAhead 274 = .ok (.if_icmp .ne 32, 3) := by decide +kernel
theorem dL_isAhead_277 : decode cL_isAhead 277 = .ok (.aload_n 0, 1) := by decide +kernel
theorem dL_isAhead_278 : decode cL_isAhead 278 = .ok (.iload 12, 2) := by decide +kernel
theorem dL_isAhead_280 : decode cL_isAhead 280 = .ok (.invokestatic 90, 3) := by decide +kernel
theorem dL_isAhead_283 : decode cL_isAhead 283 = .ok (.ifCond .lt 23, 3) := by decide +kernel
theorem dL_isAhead_286 : decode cL_isAhead 286 = .ok (.aload_n 0, 1) := by decide +kernel
theorem dL_isAhead_287 : decode cL_isAhead 287 = .ok (.invokevirtual 125, 3) := by decide +kernel
theorem dL_isAhead_290 : decode cL_isAhead 290 = .ok (.iload 13, 2) := by decide +kernel
theorem dL_isAhead_292 : decode cL_isAhead 292 = .ok (.if_icmp .ne 14, 3) := by decide +kernel
theorem dL_isAhead_295 : decode cL_isAhead 295 = .ok (.aload_n 0, 1) := by decide +kernel
theorem dL_isAhead_296 : decode cL_isAhead 296 = .ok (.invokestatic 140, 3) := by decide +kernel
theorem dL_isAhead_299 : decode cL_isAhead 299 = .ok (.ifCond .lt 7, 3) := by decide +kernel
theorem dL_isAhead_302 : decode cL_isAhead 302 = .ok (.iconst 1, 1) := by decide +kernel
theorem dL_isAhead_303 : decode cL_isAhead 303 = .ok (.goto 4, 3) := by decide +kernel
theorem dL_isAhead_306 : decode cL_isAhead 306 = .ok (.iconst 0, 1) := by decide +kernel
theorem dL_isAhead_307 : decode cL_isAhead 307 = .ok (.istore 9, 2) := by decide +kernel
theorem dL_isAhead_309 : decode cL_isAhead 309 = .ok (.iload 9, 2) := by decide +kernel
theorem dL_isAhead_311 : decode cL_isAhead 311 = .ok (.ifCond .eq 30, 3) := by decide +kernel
theorem dL_isAhead_314 : decode cL_isAhead 314 = .ok (.aload_n 0, 1) := by decide +kernel
theorem dL_isAhead_315 : decode cL_isAhead 315 = .ok (.iconst 1, 1) := by decide +kernel
theorem dL_isAhead_316 : decode cL_isAhead 316 = .ok (.invokevirtual 48, 3) := by decide +kernel
theorem dL_isAhead_319 : decode cL_isAhead 319 = .ok (.ifCond .gt 9, 3) := by decide +kernel
theorem dL_isAhead_322 : decode cL_isAhead 322 = .ok (.iload 11, 2) := by decide +kernel
theorem dL_isAhead_324 : decode cL_isAhead 324 = .ok (.iconst (-1), 1) := by decide +kernel
theorem dL_isAhead_325 : decode cL_isAhead 325 = .ok (.if_icmp .ne 16, 3) := by decide +kernel
theorem dL_isAhead_328 : decode cL_isAhead 328 = .ok (.aload_n 0, 1) := by decide +kernel
theorem dL_isAhead_329 : decode cL_isAhead 329 = .ok (.invokestatic 78, 3) := by decide +kernel
theorem dL_isAhead_332 : decode cL_isAhead 332 = .ok (.lload_n 3, 1) := by decide +kernel
theorem dL_isAhead_333 : decode cL_isAhead 333 = .ok (.lcmp, 1) := by decide +kernel
theorem dL_isAhead_334 : decode cL_isAhead 334 = .ok (.ifCond .ne 7, 3) := by decide +kernel
theorem dL_isAhead_337 : decode cL_isAhead 337 = .ok (.iconst 1, 1) := by decide +kernel
theorem dL_isAhead_338 : decode cL_isAhead 338 = .ok (.goto 4, 3) := by decide +kernel
theorem dL_isAhead_341 : decode cL_isAhead 341 = .ok (.iconst 0, 1) := by decide +kernel
theorem dL_isAhead_342 : decode cL_isAhead 342 = .ok (.ireturn, 1) := by decide +kernel
theorem dL_law_0 : decode cL_law 0 = .ok (.new 10, 3) := by decide +kernel
theorem dL_law_3 : decode cL_law 3 = .ok (.dup, 1) := by decide +kernel
theorem dL_law_4 : decode cL_law 4 = .ok (.invokespecial 149, 3) := by decide +kernel
theorem dL_law_7 : decode cL_law 7 = .ok (.astore_n 1, 1) := by decide +kernel
theorem dL_law_8 : decode cL_law 8 = .ok (.aload_n 1, 1) := by decide +kernel
theorem dL_law_9 : decode cL_law 9 = .ok (.invokestatic 140, 3) := by decide +kernel
theorem dL_law_12 : decode cL_law 12 = .ok (.sipush (-2052), 3) := by decide +kernel
theorem dL_law_15 : decode cL_law 15 = .ok (.if_icmp .ne 79, 3) := by decide +kernel
theorem dL_law_18 : decode cL_law 18 = .ok (.aload_n 1, 1) := by decide +kernel
theorem dL_law_19 : decode cL_law 19 = .ok (.iconst 0, 1) := by decide +kernel
theorem dL_law_20 : decode cL_law 20 = .ok (.invokevirtual 48, 3) := by decide +kernel
theorem dL_law_23 : decode cL_law 23 = .ok (.bipush 6, 2) := by decide +kernel
theorem dL_law_25 : decode cL_law 25 = .ok (.if_icmp .ne 69, 3) := by decide +kernel
theorem dL_law_28 : decode cL_law 28 = .ok (.aload_n 1, 1) := by decide +kernel
theorem dL_law_29 : decode cL_law 29 = .ok (.iconst 1, 1) := by decide +kernel
theorem dL_law_30 : decode cL_law 30 = .ok (.invokevirtual 48, 3) := by decide +kernel
theorem dL_law_33 : decode cL_law 33 = .ok (.ifCond .ne 61, 3) := by decide +kernel
theorem dL_law_36 : decode cL_law 36 = .ok (.aload_n 1, 1) := by decide +kernel
theorem dL_law_37 : decode cL_law 37 = .ok (.invokevirtual 119, 3) := by decide +kernel
theorem dL_law_40 : decode cL_law 40 = .ok (.bipush 63, 2) := by decide +kernel
theorem dL_law_42 : decode cL_law 42 = .ok (.if_icmp .ne 52, 3) := by decide +kernel
theorem dL_law_45 : decode cL_law 45 = .ok (.aload_n 1, 1) := by decide +kernel
theorem dL_law_46 : decode cL_law 46 = .ok (.invokevirtual 125, 3) := by decide +kernel
theorem dL_law_49 : decode cL_law 49 = .ok (.ifCond .ne 45, 3) := by decide +kernel
theorem dL_law_52 : decode cL_law 52 = .ok (.aload_n 1, 1) := by decide +kernel
theorem dL_law_53 : decode cL_law 53 = .ok (.invokevirtual 128, 3) := by decide +kernel
theorem dL_law_56 : decode cL_law 56 = .ok (.dconst 0, 1) := by decide +kernel
theorem dL_law_57 : decode cL_law 57 = .ok (.dcmp .l, 1) := by decide +kernel
theorem dL_law_58 : decode cL_law 58 = .ok (.ifCond .ne 36, 3) := by decide +kernel
theorem dL_law_61 : decode cL_law 61 = .ok (.aload_n 1, 1) := by decide +kernel
theorem dL_law_62 : decode cL_law 62 = .ok (.invokevirtual 146, 3) := by decide +kernel
theorem dL_law_65 : decode cL_law 65 = .ok (.iconst (-1), 1) := by decide +kernel
theorem dL_law_66 : decode cL_law 66 = .ok (.if_icmp .ne 28, 3) := by decide +kernel
theorem dL_law_69 : decode cL_law 69 = .ok (.aload_n 1, 1) := by decide +kernel
theorem dL_law_70 : decode cL_law 70 = .ok (.invokevirtual 150, 3) := by decide +kernel
theorem dL_law_73 : decode cL_law 73 = .ok (.ifCond .ne 21, 3) := by decide +kernel
theorem dL_law_76 : decode cL_law 76 = .ok (.aload_n 1, 1) := by decide +kernel
theorem dL_law_77 : decode cL_law 77 = .ok (.invokestatic 140, 3) := by decide +kernel
theorem dL_law_80 : decode cL_law 80 = .ok (.ifCond .ne 14, 3) := by decide +kernel
theorem dL_law_83 : decode cL_law 83 = .ok (.aload_n 1, 1) := by decide +kernel
theorem dL_law_84 : decode cL_law 84 = .ok (.invokestatic 153, 3) := by decide +kernel
theorem dL_law_87 : decode cL_law 87 = .ok (.ifCond .eq 7, 3) := by decide +kernel
theorem dL_law_90 : decode cL_law 90 = .ok (.iconst 1, 1) := by decide +kernel
theorem dL_law_91 : decode cL_law 91 = .ok (.goto 4, 3) := by decide +kernel
theorem dL_law_94 : decode cL_law 94 = .ok (.iconst 0, 1) := by decide +kernel
theorem dL_law_95 : decode cL_law 95 = .ok (.istore_n 2, 1) := by decide +kernel
theorem dL_law_96 : decode cL_law 96 = .ok (.iconst 0, 1) := by decide +kernel
theorem dL_law_97 : decode cL_law 97 = .ok (.istore_n 3, 1) := by decide +kernel
theorem dL_law_98 : decode cL_law 98 = .ok (.iload_n 3, 1) := by decide +kernel
theorem dL_law_99 : decode cL_law 99 = .ok (.bipush 26, 2) := by decide +kernel
theorem dL_law_101 : decode cL_law 101 = .ok (.if_icmp .ge 800, 3) := by decide +kernel
theorem dL_law_104 : decode cL_law 104 = .ok (.iload_n 2, 1) := by decide +kernel
theorem dL_law_105 : decode cL_law 105 = .ok (.ifCond .eq 796, 3) := by decide +kernel
theorem dL_law_108 : decode cL_law 108 = .ok (.aload_n 0, 1) := by decide +kernel
theorem dL_law_109 : decode cL_law 109 = .ok (.iload_n 3, 1) := by decide +kernel
theorem dL_law_110 : decode cL_law 110 = .ok (.invokestatic 157, 3) := by decide +kernel
theorem dL_law_113 : decode cL_law 113 = .ok (.istore 4, 2) := by decide +kernel
theorem dL_law_115 : decode cL_law 115 = .ok (.aload_n 1, 1) := by decide +kernel
theorem dL_law_116 : decode cL_law 116 = .ok (.iconst 0, 1) := by decide +kernel
theorem dL_law_117 : decode cL_law 117 = .ok (.invokevirtual 48, 3) := by decide +kernel
theorem dL_law_120 : decode cL_law 120 = .ok (.istore 5, 2) := by decide +kernel
theorem dL_law_122 : decode cL_law 122 = .ok (.iload 4, 2) := by decide +kernel
theorem dL_law_124 : decode cL_law 124 = .ok (.iconst 5, 1) := by decide +kernel
theorem dL_law_125 : decode cL_law 125 = .ok (.ishr, 1) := by decide +kernel
theorem dL_law_126 : decode cL_law 126 = .ok (.sipush 8192, 3) := by decide +kernel
theorem dL_law_129 : decode cL_law 129 = .ok (.invokestatic 161, 3) := by decide +kernel
theorem dL_law_132 : decode cL_law 132 = .ok (.istore 6, 2) := by decide +kernel
theorem dL_law_134 : decode cL_law 134 = .ok (.iload 4, 2) := by decide +kernel
theorem dL_law_136 : decode cL_law 136 = .ok (.bipush 11, 2) := by decide +kernel
theorem dL_law_138 : decode cL_law 138 = .ok (.ishr, 1) := by decide +kernel
theorem dL_law_139 : decode cL_law 139 = .ok (.sipush 8192, 3) := by decide +kernel
theorem dL_law_142 : decode cL_law 142 = .ok (.invokestatic 161, 3) := by decide +kernel
theorem dL_law_145 : decode cL_law 145 = .ok (.istore 7, 2) := by decide +kernel
theorem dL_law_147 : decode cL_law 147 = .ok (.iload 6, 2) := by decide +kernel
theorem dL_law_149 : decode cL_law 149 = .ok (.iload 5, 2) := by decide +kernel
theorem dL_law_151 : decode cL_law 151 = .ok (.irem, 1) := by decide +kernel
theorem dL_law_152 : decode cL_law 152 = .ok (.istore 8, 2) := by decide +kernel
theorem dL_law_154 : decode cL_law 154 = .ok (.iload 8, 2) := by decide +kernel
theorem dL_law_156 : decode cL_law 156 = .ok (.iconst 1, 1) := by decide +kernel
theorem dL_law_157 : decode cL_law 157 = .ok (.iadd, 1) := by decide +kernel
theorem dL_law_158 : decode cL_law 158 = .ok (.iload 7, 2) := by decide +kernel
theorem dL_law_160 : decode cL_law 160 = .ok (.iload 5, 2) := by decide +kernel
theorem dL_law_162 : decode cL_law 162 = .ok (.iconst 1, 1) := by decide +kernel
theorem dL_law_163 : decode cL_law 163 = .ok (.isub, 1) := by decide +kernel
theorem dL_law_164 : decode cL_law 164 = .ok (.irem, 1) := by decide +kernel
theorem dL_law_165 : decode cL_law 165 = .ok (.iadd, 1) := by decide +kernel
theorem dL_law_166 : decode cL_law 166 = .ok (.iload 5, 2) := by decide +kernel
theorem dL_law_168 : decode cL_law 168 = .ok (.irem, 1) := by decide +kernel
theorem dL_law_169 : decode cL_law 169 = .ok (.istore 9, 2) := by decide +kernel
theorem dL_law_171 : decode cL_law 171 = .ok (.aload_n 1, 1) := by decide +kernel
theorem dL_law_172 : decode cL_law 172 = .ok (.iconst 1, 1) := by decide +kernel
theorem dL_law_173 : decode cL_law 173 = .ok (.invokevirtual 48, 3) := by decide +kernel
theorem dL_law_176 : decode cL_law 176 = .ok (.ifCond .ne 7, 3) := by decide +kernel
theorem dL_law_179 : decode cL_law 179 = .ok (.iconst 0, 1) := by decide +kernel
theorem dL_law_180 : decode cL_law 180 = .ok (.goto 15, 3) := by decide +kernel
theorem dL_law_183 : decode cL_law 183 = .ok (.aload_n 1, 1) := by decide +kernel
theorem dL_law_184 : decode cL_law 184 = .ok (.iload 7, 2) := by decide +kernel
theorem dL_law_186 : decode cL_law 186 = .ok (.aload_n 1, 1) := by decide +kernel
theorem dL_law_187 : decode cL_law 187 = .ok (.iconst 1, 1) := by decide +kernel
theorem dL_law_188 : decode cL_law 188 = .ok (.invokevirtual 48, 3) := by decide +kernel
theorem dL_law_191 : decode cL_law 191 = .ok (.irem, 1) := by decide +kernel
theorem dL_law_192 : decode cL_law 192 = .ok (.invokevirtual 45, 3) := by decide +kernel
theorem dL_law_195 : decode cL_law 195 = .ok (.istore 10, 2) := by decide +kernel
theorem dL_law_197 : decode cL_law 197 = .ok (.aload_n 1, 1) := by decide +kernel
theorem dL_law_198 : decode cL_law 198 = .ok (.iload 8, 2) := by decide +kernel
theorem dL_law_200 : decode cL_law 200 = .ok (.iconst 0, 1) := by decide +kernel
theorem dL_law_201 : decode cL_law 201 = .ok (.invokevirtual 39, 3) := by decide +kernel
theorem dL_law_204 : decode cL_law 204 = .ok (.istore 11, 2) := by decide +kernel
theorem dL_law_206 : decode cL_law 206 = .ok (.aload_n 1, 1) := by decide +kernel
theorem dL_law_207 : decode cL_law 207 = .ok (.iload 9, 2) := by decide +kernel
theorem dL_law_209 : decode cL_law 209 = .ok (.iconst 0, 1) := by decide +kernel
theorem dL_law_210 : decode cL_law 210 = .ok (.invokevirtual 39, 3) := by decide +kernel
theorem dL_law_213 : decode cL_law 213 = .ok (.istore 12, 2) := by decide +kernel
theorem dL_law_215 : decode cL_law 215 = .ok (.aload_n 1, 1) := by decide +kernel
theorem dL_law_216 : decode cL_law 216 = .ok (.iconst 4, 1) := by decide +kernel
theorem dL_law_217 : decode cL_law 217 = .ok (.invokevirtual 48, 3) := by decide +kernel
theorem dL_law_220 : decode cL_law 220 = .ok (.istore 13, 2) := by decide +kernel
theorem dL_law_222 : decode cL_law 222 = .ok (.iconst 0, 1) := by decide +kernel
theorem dL_law_223 : decode cL_law 223 = .ok (.istore 14, 2) := by decide +kernel
theorem dL_law_225 : decode cL_law 225 = .ok (.iload 4, 2) := by decide +kernel
theorem dL_law_227 : decode cL_law 227 = .ok (.bipush 20, 2) := by decide +kernel
theorem dL_law_229 : decode cL_law 229 = .ok (.invokestatic 161, 3) := by decide +kernel
theorem dL_law_232 : decode cL_law 232 = .ok (.tableswitch 505 0 17 #[88, 112, 112, 112, 112, 112, 112, 112, 176, 187, 187, 187, 268, 268, 322, 354, 354, 389], 88) := by decide +kernel
theorem dL_law_320 : decode cL_law 320 = .ok (.iload_n 3, 1) := by decide +kernel
theorem dL_law_321 : decode cL_law 321 = .ok (.iconst 3, 1) := by decide +kernel
theorem dL_law_322 : decode cL_law 322 = .ok (.if_icmp .le 7, 3) := by decide +kernel
theorem dL_law_325 : decode cL_law 325 = .ok (.iconst 0, 1) := by decide +kernel
theorem dL_law_326 : decode cL_law 326 = .ok (.goto 13, 3) := by decide +kernel
theorem dL_law_329 : decode cL_law 329 = .ok (.aload_n 1, 1) := by decide +kernel
theorem dL_law_330 : decode cL_law 330 = .ok (.iconst 2, 1) := by decide +kernel
theorem dL_law_331 : decode cL_law 331 = .ok (.iload 6, 2) := by decide +kernel
theorem dL_law_333 : decode cL_law 333 = .ok (.iconst 5, 1) := by decide +kernel
theorem dL_law_334 : decode cL_law 334 = .ok (.irem, 1) := by decide +kernel
theorem dL_law_335 : decode cL_law 335 = .ok (.iadd, 1) := by decide +kernel
theorem dL_law_336 : decode cL_law 336 = .ok (.invokestatic 84, 3) := by decide +kernel
theorem dL_law_339 : decode cL_law 339 = .ok (.istore 14, 2) := by decide +kernel
theorem dL_law_341 : decode cL_law 341 = .ok (.goto 402, 3) := by decide +kernel
theorem dL_law_344 : decode cL_law 344 = .ok (.aload_n 1, 1) := by decide +kernel
theorem dL_law_345 : decode cL_law 345 = .ok (.iload 8, 2) := by decide +kernel
theorem dL_law_347 : decode cL_law 347 = .ok (.iload 9, 2) := by decide +kernel
theorem dL_law_349 : decode cL_law 349 = .ok (.invokestatic 87, 3) := by decide +kernel
theorem dL_law_352 : decode cL_law 352 = .ok (.istore 14, 2) := by decide +kernel
theorem dL_law_354 : decode cL_law 354 = .ok (.iload 14, 2) := by decide +kernel
theorem dL_law_356 : decode cL_law 356 = .ok (.sipush (-2052), 3) := by decide +kernel
theorem dL_law_359 : decode cL_law 359 = .ok (.if_icmp .eq 40, 3) := by decide +kernel
theorem dL_law_362 : decode cL_law 362 = .ok (.aload_n 1, 1) := by decide +kernel
theorem dL_law_363 : decode cL_law 363 = .ok (.iload 14, 2) := by decide +kernel
theorem dL_law_365 : decode cL_law 365 = .ok (.iconst 2, 1) := by decide +kernel
theorem dL_law_366 : decode cL_law 366 = .ok (.invokevirtual 42, 3) := by decide +kernel
theorem dL_law_369 : decode cL_law 369 = .ok (.iload 12, 2) := by decide +kernel
theorem dL_law_371 : decode cL_law 371 = .ok (.iload 11, 2) := by decide +kernel
theorem dL_law_373 : decode cL_law 373 = .ok (.if_icmp .ge 8, 3) := by decide +kernel
theorem dL_law_376 : decode cL_law 376 = .ok (.iload 9, 2) := by decide +kernel
theorem dL_law_378 : decode cL_law 378 = .ok (.goto 5, 3) := by decide +kernel
theorem dL_law_381 : decode cL_law 381 = .ok (.iload 8, 2) := by decide +kernel
theorem dL_law_383 : decode cL_law 383 = .ok (.if_icmp .ne 20, 3) := by decide +kernel
theorem dL_law_386 : decode cL_law 386 = .ok (.aload_n 1, 1) := by decide +kernel
theorem dL_law_387 : decode cL_law 387 = .ok (.bipush 6, 2) := by decide +kernel
theorem dL_law_389 : decode cL_law 389 = .ok (.invokevirtual 48, 3) := by decide +kernel
theorem dL_law_392 : decode cL_law 392 = .ok (.iload 14, 2) := by decide +kernel
theorem dL_law_394 : decode cL_law 394 = .ok (.iconst 1, 1) := by decide +kernel
theorem dL_law_395 : decode cL_law 395 = .ok (.iadd, 1) := by decide +kernel
theorem dL_law_396 : decode cL_law 396 = .ok (.if_icmp .ne 7, 3) := by decide +kernel
theorem dL_law_399 : decode cL_law 399 = .ok (.iconst 1, 1) := by decide +kernel
theorem dL_law_400 : decode cL_law 400 = .ok (.goto 4, 3) := by decide +kernel
theorem dL_law_403 : decode cL_law 403 = .ok (.iconst 0, 1) := by decide +kernel
theorem dL_law_404 : decode cL_law 404 = .ok (.istore_n 2, 1) := by decide +kernel
theorem dL_law_405 : decode cL_law 405 = .ok (.goto 338, 3) := by decide +kernel
theorem dL_law_408 : decode cL_law 408 = .ok (.aload_n 1, 1) := by decide +kernel
theorem dL_law_409 : decode cL_law 409 = .ok (.iload 10, 2) := by decide +kernel
theorem dL_law_411 : decode cL_law 411 = .ok (.invokestatic 90, 3) := by decide +kernel
theorem dL_law_414 : decode cL_law 414 = .ok (.istore 14, 2) := by decide +kernel
theorem dL_law_416 : decode cL_law 416 = .ok (.goto 327, 3) := by decide +kernel
theorem dL_law_419 : decode cL_law 419 = .ok (.aload_n 1, 1) := by decide +kernel
theorem dL_law_420 : decode cL_law 420 = .ok (.iconst 1, 1) := by decide +kernel
theorem dL_law_421 : decode cL_law 421 = .ok (.invokevirtual 48, 3) := by decide +kernel
theorem dL_law_424 : decode cL_law 424 = .ok (.ifCond .ne 7, 3) := by decide +kernel
theorem dL_law_427 : decode cL_law 427 = .ok (.iconst 0, 1) := by decide +kernel
theorem dL_law_428 : decode cL_law 428 = .ok (.goto 10, 3) := by decide +kernel
theorem dL_law_431 : decode cL_law 431 = .ok (.aload_n 1, 1) := by decide +kernel
theorem dL_law_432 : decode cL_law 432 = .ok (.iload 10, 2) := by decide +kernel
theorem dL_law_434 : decode cL_law 434 = .ok (.iconst 2, 1) := by decide +kernel
theorem dL_law_435 : decode cL_law 435 = .ok (.invokevirtual 42, 3) := by decide +kernel
theorem dL_law_438 : decode cL_law 438 = .ok (.istore 15, 2) := by decide +kernel
theorem dL_law_440 : decode cL_law 440 = .ok (.aload_n 1, 1) := by decide +kernel
theorem dL_law_441 : decode cL_law 441 = .ok (.iload 10, 2) := by decide +kernel
theorem dL_law_443 : decode cL_law 443 = .ok (.invokestatic 92, 3) := by decide +kernel
theorem dL_law_446 : decode cL_law 446 = .ok (.istore 14, 2) := by decide +kernel
theorem dL_law_448 : decode cL_law 448 = .ok (.iload 14, 2) := by decide +kernel
theorem dL_law_450 : decode cL_law 450 = .ok (.sipush (-2054), 3) := by decide +kernel
theorem dL_law_453 : decode cL_law 453 = .ok (.if_icmp .ne 19, 3) := by decide +kernel
theorem dL_law_456 : decode cL_law 456 = .ok (.aload_n 1, 1) := by decide +kernel
theorem dL_law_457 : decode cL_law 457 = .ok (.iconst 1, 1) := by decide +kernel
theorem dL_law_458 : decode cL_law 458 = .ok (.invokevirtual 48, 3) := by decide +kernel
theorem dL_law_461 : decode cL_law 461 = .ok (.ifCond .ne 7, 3) := by decide +kernel
theorem dL_law_464 : decode cL_law 464 = .ok (.iconst 1, 1) := by decide +kernel
theorem dL_law_465 : decode cL_law 465 = .ok (.goto 31, 3) := by decide +kernel
theorem dL_law_468 : decode cL_law 468 = .ok (.iconst 0, 1) := by decide +kernel
theorem dL_law_469 : decode cL_law 469 = .ok (.goto 27, 3) := by decide +kernel
theorem dL_law_472 : decode cL_law 472 = .ok (.iload 14, 2) := by decide +kernel
theorem dL_law_474 : decode cL_law 474 = .ok (.iload 15, 2) := by decide +kernel
theorem dL_law_476 : decode cL_law 476 = .ok (.if_icmp .eq 19, 3) := by decide +kernel
theorem dL_law_479 : decode cL_law 479 = .ok (.aload_n 1, 1) := by decide +kernel
theorem dL_law_480 : decode cL_law 480 = .ok (.iload 10, 2) := by decide +kernel
theorem dL_law_482 : decode cL_law 482 = .ok (.iconst 2, 1) := by decide +kernel
theorem dL_law_483 : decode cL_law 483 = .ok (.invokevirtual 42, 3) := by decide +kernel
theorem dL_law_486 : decode cL_law 486 = .ok (.iload 14, 2) := by decide +kernel
theorem dL_law_488 : decode cL_law 488 = .ok (.if_icmp .ne 7, 3) := by decide +kernel
theorem dL_law_491 : decode cL_law 491 = .ok (.iconst 1, 1) := by decide +kernel
theorem dL_law_492 : decode cL_law 492 = .ok (.goto 4, 3) := by decide +kernel
theorem dL_law_495 : decode cL_law 495 = .ok (.iconst 0, 1) := by decide +kernel
theorem dL_law_496 : decode cL_law 496 = .ok (.istore_n 2, 1) := by decide +kernel
theorem dL_law_497 : decode cL_law 497 = .ok (.goto 246, 3) := by decide +kernel
theorem dL_law_500 : decode cL_law 500 = .ok (.aload_n 1, 1) := by decide +kernel
theorem dL_law_501 : decode cL_law 501 = .ok (.iload 8, 2) := by decide +kernel
theorem dL_law_503 : decode cL_law 503 = .ok (.invokestatic 94, 3) := by decide +kernel
theorem dL_law_506 : decode cL_law 506 = .ok (.istore 14, 2) := by decide +kernel
theorem dL_law_508 : decode cL_law 508 = .ok (.iload 14, 2) := by decide +kernel
theorem dL_law_510 : decode cL_law 510 = .ok (.sipush (-2052), 3) := by decide +kernel
theorem dL_law_513 : decode cL_law 513 = .ok (.if_icmp .eq 32, 3) := by decide +kernel
theorem dL_law_516 : decode cL_law 516 = .ok (.iload 14, 2) := by decide +kernel
theorem dL_law_518 : decode cL_law 518 = .ok (.ifCond .le 31, 3) := by decide +kernel
theorem dL_law_521 : decode cL_law 521 = .ok (.aload_n 1, 1) := by decide +kernel
theorem dL_law_522 : decode cL_law 522 = .ok (.iload 8, 2) := by decide +kernel
theorem dL_law_524 : decode cL_law 524 = .ok (.iconst 0, 1) := by decide +kernel
theorem dL_law_525 : decode cL_law 525 = .ok (.invokevirtual 39, 3) := by decide +kernel
theorem dL_law_528 : decode cL_law 528 = .ok (.iload 11, 2) := by decide +kernel
theorem dL_law_530 : decode cL_law 530 = .ok (.iconst 1, 1) := by decide +kernel
theorem dL_law_531 : decode cL_law 531 = .ok (.isub, 1) := by decide +kernel
theorem dL_law_532 : decode cL_law 532 = .ok (.if_icmp .ne 17, 3) := by decide +kernel
theorem dL_law_535 : decode cL_law 535 = .ok (.aload_n 1, 1) := by decide +kernel
theorem dL_law_536 : decode cL_law 536 = .ok (.iconst 4, 1) := by decide +kernel
theorem dL_law_537 : decode cL_law 537 = .ok (.invokevirtual 48, 3) := by decide +kernel
theorem dL_law_540 : decode cL_law 540 = .ok (.iload 13, 2) := by decide +kernel
theorem dL_law_542 : decode cL_law 542 = .ok (.if_icmp .ge 7, 3) := by decide +kernel
theorem dL_law_545 : decode cL_law 545 = .ok (.iconst 1, 1) := by decide +kernel
theorem dL_law_546 : decode cL_law 546 = .ok (.goto 4, 3) := by decide +kernel
theorem dL_law_549 : decode cL_law 549 = .ok (.iconst 0, 1) := by decide +kernel
theorem dL_law_550 : decode cL_law 550 = .ok (.istore_n 2, 1) := by decide +kernel
theorem dL_law_551 : decode cL_law 551 = .ok (.goto 192, 3) := by decide +kernel
theorem dL_law_554 : decode cL_law 554 = .ok (.aload_n 1, 1) := by decide +kernel
theorem dL_law_555 : decode cL_law 555 = .ok (.invokevirtual 143, 3) := by decide +kernel
theorem dL_law_558 : decode cL_law 558 = .ok (.istore 14, 2) := by decide +kernel
theorem dL_law_560 : decode cL_law 560 = .ok (.aload_n 1, 1) := by decide +kernel
theorem dL_law_561 : decode cL_law 561 = .ok (.iconst 2, 1) := by decide +kernel
theorem dL_law_562 : decode cL_law 562 = .ok (.invokevirtual 48, 3) := by decide +kernel
theorem dL_law_565 : decode cL_law 565 = .ok (.aload_n 1, 1) := by decide +kernel
theorem dL_law_566 : decode cL_law 566 = .ok (.invokevirtual 125, 3) := by decide +kernel
theorem dL_law_569 : decode cL_law 569 = .ok (.if_icmp .ne 12, 3) := by decide +kernel
theorem dL_law_572 : decode cL_law 572 = .ok (.iload 14, 2) := by decide +kernel
theorem dL_law_574 : decode cL_law 574 = .ok (.ifCond .lt 7, 3) := by decide +kernel
theorem dL_law_577 : decode cL_law 577 = .ok (.iconst 1, 1) := by decide +kernel
theorem dL_law_578 : decode cL_law 578 = .ok (.goto 4, 3) := by decide +kernel
theorem dL_law_581 : decode cL_law 581 = .ok (.iconst 0, 1) := by decide +kernel
theorem dL_law_582 : decode cL_law 582 = .ok (.istore_n 2, 1) := by decide +kernel
theorem dL_law_583 : decode cL_law 583 = .ok (.goto 160, 3) := by decide +kernel
theorem dL_law_586 : decode cL_law 586 = .ok (.aload_n 1, 1) := by decide +kernel
theorem dL_law_587 : decode cL_law 587 = .ok (.iload 8, 2) := by decide +kernel
theorem dL_law_589 : decode cL_law 589 = .ok (.iload 7, 2) := by decide +kernel
theorem dL_law_591 : decode cL_law 591 = .ok (.iconst 5, 1) := by decide +kernel
theorem dL_law_592 : decode cL_law 592 = .ok (.irem, 1) := by decide +kernel
theorem dL_law_593 : decode cL_law 593 = .ok (.invokestatic 96, 3) := by decide +kernel
theorem dL_law_596 : decode cL_law 596 = .ok (.istore 14, 2) := by decide +kernel
theorem dL_law_598 : decode cL_law 598 = .ok (.aload_n 1, 1) := by decide +kernel
theorem dL_law_599 : decode cL_law 599 = .ok (.iload 8, 2) := by decide +kernel
theorem dL_law_601 : decode cL_law 601 = .ok (.iconst 2, 1) := by decide +kernel
theorem dL_law_602 : decode cL_law 602 = .ok (.invokevirtual 39, 3) := by decide +kernel
theorem dL_law_605 : decode cL_law 605 = .ok (.iload 7, 2) := by decide +kernel
theorem dL_law_607 : decode cL_law 607 = .ok (.iconst 5, 1) := by decide +kernel
theorem dL_law_608 : decode cL_law 608 = .ok (.irem, 1) := by decide +kernel
theorem dL_law_609 : decode cL_law 609 = .ok (.if_icmp .ne 7, 3) := by decide +kernel
theorem dL_law_612 : decode cL_law 612 = .ok (.iconst 1, 1) := by decide +kernel
theorem dL_law_613 : decode cL_law 613 = .ok (.goto 4, 3) := by decide +kernel
theorem dL_law_616 : decode cL_law 616 = .ok (.iconst 0, 1) := by decide +kernel
theorem dL_law_617 : decode cL_law 617 = .ok (.istore_n 2, 1) := by decide +kernel
theorem dL_law_618 : decode cL_law 618 = .ok (.goto 125, 3) := by decide +kernel
theorem dL_law_621 : decode cL_law 621 = .ok (.aload_n 1, 1) := by decide +kernel
theorem dL_law_622 : decode cL_law 622 = .ok (.iload 8, 2) := by decide +kernel
theorem dL_law_624 : decode cL_law 624 = .ok (.iload 9, 2) := by decide +kernel
theorem dL_law_626 : decode cL_law 626 = .ok (.invokevirtual 51, 3) := by decide +kernel
theorem dL_law_629 : decode cL_law 629 = .ok (.istore 15, 2) := by decide +kernel
theorem dL_law_631 : decode cL_law 631 = .ok (.bipush 12, 2) := by decide +kernel
theorem dL_law_633 : decode cL_law 633 = .ok (.newarray .int, 2) := by decide +kernel
theorem dL_law_635 : decode cL_law 635 = .ok (.astore 16, 2) := by decide +kernel
theorem dL_law_637 : decode cL_law 637 = .ok (.iconst 0, 1) := by decide +kernel
theorem dL_law_638 : decode cL_law 638 = .ok (.istore 17, 2) := by decide +kernel
theorem dL_law_640 : decode cL_law 640 = .ok (.iload 17, 2) := by decide +kernel
theorem dL_law_642 : decode cL_law 642 = .ok (.iload 15, 2) := by decide +kernel
theorem dL_law_644 : decode cL_law 644 = .ok (.if_icmp .ge 24, 3) := by decide +kernel
theorem dL_law_647 : decode cL_law 647 = .ok (.aload 16, 2) := by decide +kernel
theorem dL_law_649 : decode cL_law 649 = .ok (.iload 17, 2) := by decide +kernel
theorem dL_law_651 : decode cL_law 651 = .ok (.aload_n 1, 1) := by decide +kernel
theorem dL_law_652 : decode cL_law 652 = .ok (.iload 8, 2) := by decide +kernel
theorem dL_law_654 : decode cL_law 654 = .ok (.iload 9, 2) := by decide +kernel
theorem dL_law_656 : decode cL_law 656 = .ok (.iload 17, 2) := by decide +kernel
theorem dL_law_658 : decode cL_law 658 = .ok (.invokevirtual 54, 3) := by decide +kernel
theorem dL_law_661 : decode cL_law 661 = .ok (.iastore, 1) := by decide +kernel
theorem dL_law_662 : decode cL_law 662 = .ok (.iinc 17 1, 3) := by decide +kernel
theorem dL_law_665 : decode cL_law 665 = .ok (.goto (-25), 3) := by decide +kernel
theorem dL_law_668 : decode cL_law 668 = .ok (.iconst 0, 1) := by decide +kernel
theorem dL_law_669 : decode cL_law 669 = .ok (.istore 17, 2) := by decide +kernel
theorem dL_law_671 : decode cL_law 671 = .ok (.iload 17, 2) := by decide +kernel
theorem dL_law_673 : decode cL_law 673 = .ok (.iload 15, 2) := by decide +kernel
theorem dL_law_675 : decode cL_law 675 = .ok (.if_icmp .ge 20, 3) := by decide +kernel
theorem dL_law_678 : decode cL_law 678 = .ok (.aload_n 1, 1) := by decide +kernel
theorem dL_law_679 : decode cL_law 679 = .ok (.aload 16, 2) := by decide +kernel
theorem dL_law_681 : decode cL_law 681 = .ok (.iload 17, 2) := by decide +kernel
theorem dL_law_683 : decode cL_law 683 = .ok (.iaload, 1) := by decide +kernel
theorem dL_law_684 : decode cL_law 684 = .ok (.invokestatic 92, 3) := by decide +kernel
theorem dL_law_687 : decode cL_law 687 = .ok (.istore 14, 2) := by decide +kernel
theorem dL_law_689 : decode cL_law 689 = .ok (.iinc 17 1, 3) := by decide +kernel
theorem dL_law_692 : decode cL_law 692 = .ok (.goto (-21), 3) := by decide +kernel
theorem dL_law_695 : decode cL_law 695 = .ok (.iload 15, 2) := by decide +kernel
theorem dL_law_697 : decode cL_law 697 = .ok (.ifCond .le 31, 3) := by decide +kernel
theorem dL_law_700 : decode cL_law 700 = .ok (.aload_n 1, 1) := by decide +kernel
theorem dL_law_701 : decode cL_law 701 = .ok (.iload 8, 2) := by decide +kernel
theorem dL_law_703 : decode cL_law 703 = .ok (.iconst 0, 1) := by decide +kernel
theorem dL_law_704 : decode cL_law 704 = .ok (.invokevirtual 39, 3) := by decide +kernel
theorem dL_law_707 : decode cL_law 707 = .ok (.iload 11, 2) := by decide +kernel
theorem dL_law_709 : decode cL_law 709 = .ok (.iconst 1, 1) := by decide +kernel
theorem dL_law_710 : decode cL_law 710 = .ok (.isub, 1) := by decide +kernel
theorem dL_law_711 : decode cL_law 711 = .ok (.if_icmp .ne 21, 3) := by decide +kernel
theorem dL_law_714 : decode cL_law 714 = .ok (.aload_n 1, 1) := by decide +kernel
theorem dL_law_715 : decode cL_law 715 = .ok (.iload 9, 2) := by decide +kernel
theorem dL_law_717 : decode cL_law 717 = .ok (.iconst 0, 1) := by decide +kernel
theorem dL_law_718 : decode cL_law 718 = .ok (.invokevirtual 39, 3) := by decide +kernel
theorem dL_law_721 : decode cL_law 721 = .ok (.iload 12, 2) := by decide +kernel
theorem dL_law_723 : decode cL_law 723 = .ok (.iconst 1, 1) := by decide +kernel
theorem dL_law_724 : decode cL_law 724 = .ok (.iadd, 1) := by decide +kernel
theorem dL_law_725 : decode cL_law 725 = .ok (.if_icmp .ne 7, 3) := by decide +kernel
theorem dL_law_728 : decode cL_law 728 = .ok (.iconst 1, 1) := by decide +kernel
theorem dL_law_729 : decode cL_law 729 = .ok (.goto 4, 3) := by decide +kernel
theorem dL_law_732 : decode cL_law 732 = .ok (.iconst 0, 1) := by decide +kernel
theorem dL_law_733 : decode cL_law 733 = .ok (.istore_n 2, 1) := by decide +kernel
theorem dL_law_734 : decode cL_law 734 = .ok (.goto 9, 3) := by decide +kernel
theorem dL_law_737 : decode cL_law 737 = .ok (.aload_n 1, 1) := by decide +kernel
theorem dL_law_738 : decode cL_law 738 = .ok (.invokestatic 140, 3) := by decide +kernel
theorem dL_law_741 : decode cL_law 741 = .ok (.istore 14, 2) := by decide +kernel
theorem dL_law_743 : decode cL_law 743 = .ok (.aload_n 1, 1) := by decide +kernel
theorem dL_law_744 : decode cL_law 744 = .ok (.iconst 0, 1) := by decide +kernel
theorem dL_law_745 : decode cL_law 745 = .ok (.invokevirtual 48, 3) := by decide +kernel
theorem dL_law_748 : decode cL_law 748 = .ok (.istore 5, 2) := by decide +kernel
theorem dL_law_750 : decode cL_law 750 = .ok (.iload_n 2, 1) := by decide +kernel
theorem dL_law_751 : decode cL_law 751 = .ok (.ifCond .eq 142, 3) := by decide +kernel
theorem dL_law_754 : decode cL_law 754 = .ok (.iload 14, 2) := by decide +kernel
theorem dL_law_756 : decode cL_law 756 = .ok (.ifCond .ge 19, 3) := by decide +kernel
theorem dL_law_759 : decode cL_law 759 = .ok (.iload 14, 2) := by decide +kernel
theorem dL_law_761 : decode cL_law 761 = .ok (.sipush (-2052), 3) := by decide +kernel
theorem dL_law_764 : decode cL_law 764 = .ok (.if_icmp .eq 11, 3) := by decide +kernel
theorem dL_law_767 : decode cL_law 767 = .ok (.iload 14, 2) := by decide +kernel
theorem dL_law_769 : decode cL_law 769 = .ok (.sipush (-2054), 3) := by decide +kernel
theorem dL_law_772 : decode cL_law 772 = .ok (.if_icmp .ne 121, 3) := by decide +kernel
theorem dL_law_775 : decode cL_law 775 = .ok (.iload_n 3, 1) := by decide +kernel
theorem dL_law_776 : decode cL_law 776 = .ok (.iconst 3, 1) := by decide +kernel
theorem dL_law_777 : decode cL_law 777 = .ok (.irem, 1) := by decide +kernel
theorem dL_law_778 : decode cL_law 778 = .ok (.iconst 2, 1) := by decide +kernel
theorem dL_law_779 : decode cL_law 779 = .ok (.if_icmp .ne 10, 3) := by decide +kernel
theorem dL_law_782 : decode cL_law 782 = .ok (.aload_n 1, 1) := by decide +kernel
theorem dL_law_783 : decode cL_law 783 = .ok (.invokestatic 164, 3) := by decide +kernel
theorem dL_law_786 : decode cL_law 786 = .ok (.ifCond .eq 107, 3) := by decide +kernel
theorem dL_law_789 : decode cL_law 789 = .ok (.aload_n 1, 1) := by decide +kernel
theorem dL_law_790 : decode cL_law 790 = .ok (.iload 6, 2) := by decide +kernel
theorem dL_law_792 : decode cL_law 792 = .ok (.iload 5, 2) := by decide +kernel
theorem dL_law_794 : decode cL_law 794 = .ok (.irem, 1) := by decide +kernel
theorem dL_law_795 : decode cL_law 795 = .ok (.iload 7, 2) := by decide +kernel
theorem dL_law_797 : decode cL_law 797 = .ok (.iload 5, 2) := by decide +kernel
theorem dL_law_799 : decode cL_law 799 = .ok (.irem, 1) := by decide +kernel
theorem dL_law_800 : decode cL_law 800 = .ok (.invokestatic 167, 3) := by decide +kernel
theorem dL_law_803 : decode cL_law 803 = .ok (.ifCond .eq 90, 3) := by decide +kernel
theorem dL_law_806 : decode cL_law 806 = .ok (.iload_n 3, 1) := by decide +kernel
theorem dL_law_807 : decode cL_law 807 = .ok (.iconst 4, 1) := by decide +kernel
theorem dL_law_808 : decode cL_law 808 = .ok (.irem, 1) := by decide +kernel
theorem dL_law_809 : decode cL_law 809 = .ok (.iconst 1, 1) := by decide +kernel
theorem dL_law_810 : decode cL_law 810 = .ok (.if_icmp .ne 26, 3) := by decide +kernel
theorem dL_law_813 : decode cL_law 813 = .ok (.aload_n 1, 1) := by decide +kernel
theorem dL_law_814 : decode cL_law 814 = .ok (.iconst 1, 1) := by decide +kernel
theorem dL_law_815 : decode cL_law 815 = .ok (.iload 4, 2) := by decide +kernel
theorem dL_law_817 : decode cL_law 817 = .ok (.bipush 7, 2) := by decide +kernel
theorem dL_law_819 : decode cL_law 819 = .ok (.ishr, 1) := by decide +kernel
theorem dL_law_820 : decode cL_law 820 = .ok (.iconst 1, 1) := by decide +kernel
theorem dL_law_821 : decode cL_law 821 = .ok (.iload 5, 2) := by decide +kernel
theorem dL_law_823 : decode cL_law 823 = .ok (.ishl, 1) := by decide +kernel
theorem dL_law_824 : decode cL_law 824 = .ok (.iconst 1, 1) := by decide +kernel
theorem dL_law_825 : decode cL_law 825 = .ok (.isub, 1) := by decide +kernel
theorem dL_law_826 : decode cL_law 826 = .ok (.invokestatic 161, 3) := by decide +kernel
theorem dL_law_829 : decode cL_law 829 = .ok (.iadd, 1) := by decide +kernel
theorem dL_law_830 : decode cL_law 830 = .ok (.invokestatic 171, 3) := by decide +kernel
theorem dL_law_833 : decode cL_law 833 = .ok (.ifCond .eq 60, 3) := by decide +kernel
theorem dL_law_836 : decode cL_law 836 = .ok (.iload_n 3, 1) := by decide +kernel
theorem dL_law_837 : decode cL_law 837 = .ok (.bipush 8, 2) := by decide +kernel
theorem dL_law_839 : decode cL_law 839 = .ok (.irem, 1) := by decide +kernel
theorem dL_law_840 : decode cL_law 840 = .ok (.iconst 3, 1) := by decide +kernel
theorem dL_law_841 : decode cL_law 841 = .ok (.if_icmp .ne 33, 3) := by decide +kernel
theorem dL_law_844 : decode cL_law 844 = .ok (.aload_n 1, 1) := by decide +kernel
theorem dL_law_845 : decode cL_law 845 = .ok (.iload 6, 2) := by decide +kernel
theorem dL_law_847 : decode cL_law 847 = .ok (.iload 5, 2) := by decide +kernel
theorem dL_law_849 : decode cL_law 849 = .ok (.irem, 1) := by decide +kernel
theorem dL_law_850 : decode cL_law 850 = .ok (.iload 6, 2) := by decide +kernel
theorem dL_law_852 : decode cL_law 852 = .ok (.iload 5, 2) := by decide +kernel
theorem dL_law_854 : decode cL_law 854 = .ok (.irem, 1) := by decide +kernel
theorem dL_law_855 : decode cL_law 855 = .ok (.iconst 1, 1) := by decide +kernel
theorem dL_law_856 : decode cL_law 856 = .ok (.iadd, 1) := by decide +kernel
theorem dL_law_857 : decode cL_law 857 = .ok (.iload 7, 2) := by decide +kernel
theorem dL_law_859 : decode cL_law 859 = .ok (.iload 5, 2) := by decide +kernel
theorem dL_law_861 : decode cL_law 861 = .ok (.iconst 1, 1) := by decide +kernel
theorem dL_law_862 : decode cL_law 862 = .ok (.isub, 1) := by decide +kernel
theorem dL_law_863 : decode cL_law 863 = .ok (.irem, 1) := by decide +kernel
theorem dL_law_864 : decode cL_law 864 = .ok (.iadd, 1) := by decide +kernel
theorem dL_law_865 : decode cL_law 865 = .ok (.iload 5, 2) := by decide +kernel
theorem dL_law_867 : decode cL_law 867 = .ok (.irem, 1) := by decide +kernel
theorem dL_law_868 : decode cL_law 868 = .ok (.invokestatic 175, 3) := by decide +kernel
theorem dL_law_871 : decode cL_law 871 = .ok (.ifCond .eq 22, 3) := by decide +kernel
theorem dL_law_874 : decode cL_law 874 = .ok (.iload_n 3, 1) := by decide +kernel
theorem dL_law_875 : decode cL_law 875 = .ok (.bipush 9, 2) := by decide +kernel
theorem dL_law_877 : decode cL_law 877 = .ok (.irem, 1) := by decide +kernel
theorem dL_law_878 : decode cL_law 878 = .ok (.iconst 5, 1) := by decide +kernel
theorem dL_law_879 : decode cL_law 879 = .ok (.if_icmp .ne 10, 3) := by decide +kernel
theorem dL_law_882 : decode cL_law 882 = .ok (.aload_n 1, 1) := by decide +kernel
theorem dL_law_883 : decode cL_law 883 = .ok (.invokestatic 153, 3) := by decide +kernel
theorem dL_law_886 : decode cL_law 886 = .ok (.ifCond .eq 7, 3) := by decide +kernel
theorem dL_law_889 : decode cL_law 889 = .ok (.iconst 1, 1) := by decide +kernel
theorem dL_law_890 : decode cL_law 890 = .ok (.goto 4, 3) := by decide +kernel
theorem dL_law_893 : decode cL_law 893 = .ok (.iconst 0, 1) := by decide +kernel
theorem dL_law_894 : decode cL_law 894 = .ok (.istore_n 2, 1) := by decide +kernel
theorem dL_law_895 : decode cL_law 895 = .ok (.iinc 3 1, 3) := by decide +kernel
theorem dL_law_898 : decode cL_law 898 = .ok (.goto (-800), 3) := by decide +kernel
theorem dL_law_901 : decode cL_law 901 = .ok (.iload_n 2, 1) := by decide +kernel
theorem dL_law_902 : decode cL_law 902 = .ok (.ifCond .eq 21, 3) := by decide +kernel
theorem dL_law_905 : decode cL_law 905 = .ok (.aload_n 1, 1) := by decide +kernel
theorem dL_law_906 : decode cL_law 906 = .ok (.invokestatic 164, 3) := by decide +kernel
theorem dL_law_909 : decode cL_law 909 = .ok (.ifCond .eq 14, 3) := by decide +kernel
theorem dL_law_912 : decode cL_law 912 = .ok (.aload_n 1, 1) := by decide +kernel
theorem dL_law_913 : decode cL_law 913 = .ok (.invokestatic 153, 3) := by decide +kernel
theorem dL_law_916 : decode cL_law 916 = .ok (.ifCond .eq 7, 3) := by decide +kernel
theorem dL_law_919 : decode cL_law 919 = .ok (.iconst 1, 1) := by decide +kernel
theorem dL_law_920 : decode cL_law 920 = .ok (.goto 4, 3) := by decide +kernel
theorem dL_law_923 : decode cL_law 923 = .ok (.iconst 0, 1) := by decide +kernel
theorem dL_law_924 : decode cL_law 924 = .ok (.ireturn, 1) := by decide +kernel
