theorem dL_cell_0 : decode cL_cell 0 = .ok (.iload_n 1, 1) := by decide +kernel
theorem dL_cell_1 : decode cL_cell 1 = .ok (.aload_n 0, 1) := by decide +kernel
theorem dL_cell_2 : decode cL_cell 2 = .ok (.arraylength, 1) := by decide +kernel
theorem dL_cell_3 : decode cL_cell 3 = .ok (.if_icmp .ge 9, 3) := by decide +kernel
theorem dL_cell_6 : decode cL_cell 6 = .ok (.aload_n 0, 1) := by decide +kernel
theorem dL_cell_7 : decode cL_cell 7 = .ok (.iload_n 1, 1) := by decide +kernel
theorem dL_cell_8 : decode cL_cell 8 = .ok (.iaload, 1) := by decide +kernel
theorem dL_cell_9 : decode cL_cell 9 = .ok (.goto 10, 3) := by decide +kernel
theorem dL_cell_12 : decode cL_cell 12 = .ok (.ldc 7, 2) := by decide +kernel
theorem dL_cell_14 : decode cL_cell 14 = .ok (.iload_n 1, 1) := by decide +kernel
theorem dL_cell_15 : decode cL_cell 15 = .ok (.imul, 1) := by decide +kernel
theorem dL_cell_16 : decode cL_cell 16 = .ok (.ldc 8, 2) := by decide +kernel
theorem dL_cell_18 : decode cL_cell 18 = .ok (.iadd, 1) := by decide +kernel
theorem dL_cell_19 : decode cL_cell 19 = .ok (.ireturn, 1) := by decide +kernel
theorem dL_low_0 : decode cL_low 0 = .ok (.iload_n 0, 1) := by decide +kernel
theorem dL_low_1 : decode cL_low 1 = .ok (.ldc 9, 2) := by decide +kernel
theorem dL_low_3 : decode cL_low 3 = .ok (.iand, 1) := by decide +kernel
theorem dL_low_4 : decode cL_low 4 = .ok (.iload_n 1, 1) := by decide +kernel
theorem dL_low_5 : decode cL_low 5 = .ok (.irem, 1) := by decide +kernel
theorem dL_low_6 : decode cL_low 6 = .ok (.ireturn, 1) := by decide +kernel
theorem dL_drawing_0 : decode cL_drawing 0 = .ok (.aload_n 1, 1) := by decide +kernel
theorem dL_drawing_1 : decode cL_drawing 1 = .ok (.iload_n 2, 1) := by decide +kernel
theorem dL_drawing_2 : decode cL_drawing 2 = .ok (.invokestatic 10, 3) := by decide +kernel
theorem dL_drawing_5 : decode cL_drawing 5 = .ok (.istore 5, 2) := by decide +kernel
theorem dL_drawing_7 : decode cL_drawing 7 = .ok (.iconst 0, 1) := by decide +kernel
theorem dL_drawing_8 : decode cL_drawing 8 = .ok (.istore 6, 2) := by decide +kernel
theorem dL_drawing_10 : decode cL_drawing 10 = .ok (.iconst 0, 1) := by decide +kernel
theorem dL_drawing_11 : decode cL_drawing 11 = .ok (.istore 7, 2) := by decide +kernel
theorem dL_drawing_13 : decode cL_drawing 13 = .ok (.iload 7, 2) := by decide +kernel
theorem dL_drawing_15 : decode cL_drawing 15 = .ok (.iconst 2, 1) := by decide +kernel
theorem dL_drawing_16 : decode cL_drawing 16 = .ok (.iload_n 3, 1) := by decide +kernel
theorem dL_drawing_17 : decode cL_drawing 17 = .ok (.imul, 1) := by decide +kernel
theorem dL_drawing_18 : decode cL_drawing 18 = .ok (.if_icmp .ge 157, 3) := by decide +kernel
theorem dL_drawing_21 : decode cL_drawing 21 = .ok (.iload 6, 2) := by decide +kernel
theorem dL_drawing_23 : decode cL_drawing 23 = .ok (.iload_n 3, 1) := by decide +kernel
theorem dL_drawing_24 : decode cL_drawing 24 = .ok (.if_icmp .ge 151, 3) := by decide +kernel
theorem dL_drawing_27 : decode cL_drawing 27 = .ok (.aload_n 1, 1) := by decide +kernel
theorem dL_drawing_28 : decode cL_drawing 28 = .ok (.iload_n 2, 1) := by decide +kernel
theorem dL_drawing_29 : decode cL_drawing 29 = .ok (.iconst 1, 1) := by decide +kernel
theorem dL_drawing_30 : decode cL_drawing 30 = .ok (.iadd, 1) := by decide +kernel
theorem dL_drawing_31 : decode cL_drawing 31 = .ok (.iload 7, 2) := by decide +kernel
theorem dL_drawing_33 : decode cL_drawing 33 = .ok (.iadd, 1) := by decide +kernel
theorem dL_drawing_34 : decode cL_drawing 34 = .ok (.invokestatic 10, 3) := by decide +kernel
theorem dL_drawing_37 : decode cL_drawing 37 = .ok (.istore 8, 2) := by decide +kernel
theorem dL_drawing_39 : decode cL_drawing 39 = .ok (.iload 8, 2) := by decide +kernel
theorem dL_drawing_41 : decode cL_drawing 41 = .ok (.iload 5, 2) := by decide +kernel
theorem dL_drawing_43 : decode cL_drawing 43 = .ok (.iconst 3, 1) := by decide +kernel
theorem dL_drawing_44 : decode cL_drawing 44 = .ok (.invokestatic 16, 3) := by decide +kernel
theorem dL_drawing_47 : decode cL_drawing 47 = .ok (.ifCond .ne 9, 3) := by decide +kernel
theorem dL_drawing_50 : decode cL_drawing 50 = .ok (.sipush 301, 3) := by decide +kernel
theorem dL_drawing_53 : decode cL_drawing 53 = .ok (.goto 5, 3) := by decide +kernel
theorem dL_drawing_56 : decode cL_drawing 56 = .ok (.bipush 50, 2) := by decide +kernel
theorem dL_drawing_58 : decode cL_drawing 58 = .ok (.invokestatic 16, 3) := by decide +kernel
theorem dL_drawing_61 : decode cL_drawing 61 = .ok (.istore 9, 2) := by decide +kernel
theorem dL_drawing_63 : decode cL_drawing 63 = .ok (.iconst 0, 1) := by decide +kernel
theorem dL_drawing_64 : decode cL_drawing 64 = .ok (.istore 10, 2) := by decide +kernel
theorem dL_drawing_66 : decode cL_drawing 66 = .ok (.iconst 0, 1) := by decide +kernel
theorem dL_drawing_67 : decode cL_drawing 67 = .ok (.istore 11, 2) := by decide +kernel
theorem dL_drawing_69 : decode cL_drawing 69 = .ok (.iconst 0, 1) := by decide +kernel
theorem dL_drawing_70 : decode cL_drawing 70 = .ok (.istore 12, 2) := by decide +kernel
theorem dL_drawing_72 : decode cL_drawing 72 = .ok (.iload 12, 2) := by decide +kernel
theorem dL_drawing_74 : decode cL_drawing 74 = .ok (.iload 6, 2) := by decide +kernel
theorem dL_drawing_76 : decode cL_drawing 76 = .ok (.if_icmp .ge 55, 3) := by decide +kernel
theorem dL_drawing_79 : decode cL_drawing 79 = .ok (.iload 10, 2) := by decide +kernel
theorem dL_drawing_81 : decode cL_drawing 81 = .ok (.aload_n 0, 1) := by decide +kernel
theorem dL_drawing_82 : decode cL_drawing 82 = .ok (.iload 12, 2) := by decide +kernel
theorem dL_drawing_84 : decode cL_drawing 84 = .ok (.iconst 0, 1) := by decide +kernel
theorem dL_drawing_85 : decode cL_drawing 85 = .ok (.invokevirtual 20, 3) := by decide +kernel
theorem dL_drawing_88 : decode cL_drawing 88 = .ok (.iload 9, 2) := by decide +kernel
theorem dL_drawing_90 : decode cL_drawing 90 = .ok (.if_icmp .ge 7, 3) := by decide +kernel
theorem dL_drawing_93 : decode cL_drawing 93 = .ok (.iconst 1, 1) := by decide +kernel
theorem dL_drawing_94 : decode cL_drawing 94 = .ok (.goto 4, 3) := by decide +kernel
theorem dL_drawing_97 : decode cL_drawing 97 = .ok (.iconst 0, 1) := by decide +kernel
theorem dL_drawing_98 : decode cL_drawing 98 = .ok (.iadd, 1) := by decide +kernel
theorem dL_drawing_99 : decode cL_drawing 99 = .ok (.istore 10, 2) := by decide +kernel
theorem dL_drawing_101 : decode cL_drawing 101 = .ok (.iload 11, 2) := by decide +kernel
theorem dL_drawing_103 : decode cL_drawing 103 = .ok (.ifCond .ne 15, 3) := by decide +kernel
theorem dL_drawing_106 : decode cL_drawing 106 = .ok (.aload_n 0, 1) := by decide +kernel
theorem dL_drawing_107 : decode cL_drawing 107 = .ok (.iload 12, 2) := by decide +kernel
theorem dL_drawing_109 : decode cL_drawing 109 = .ok (.iconst 0, 1) := by decide +kernel
theorem dL_drawing_110 : decode cL_drawing 110 = .ok (.invokevirtual 20, 3) := by decide +kernel
theorem dL_drawing_113 : decode cL_drawing 113 = .ok (.iload 9, 2) := by decide +kernel
theorem dL_drawing_115 : decode cL_drawing 115 = .ok (.if_icmp .ne 7, 3) := by decide +kernel
theorem dL_drawing_118 : decode cL_drawing 118 = .ok (.iconst 1, 1) := by decide +kernel
theorem dL_drawing_119 : decode cL_drawing 119 = .ok (.goto 4, 3) := by decide +kernel
theorem dL_drawing_122 : decode cL_drawing 122 = .ok (.iconst 0, 1) := by decide +kernel
theorem dL_drawing_123 : decode cL_drawing 123 = .ok (.istore 11, 2) := by decide +kernel
theorem dL_drawing_125 : decode cL_drawing 125 = .ok (.iinc 12 1, 3) := by decide +kernel
theorem dL_drawing_128 : decode cL_drawing 128 = .ok (.goto (-56), 3) := by decide +kernel
theorem dL_drawing_131 : decode cL_drawing 131 = .ok (.aload_n 0, 1) := by decide +kernel
theorem dL_drawing_132 : decode cL_drawing 132 = .ok (.iload 9, 2) := by decide +kernel
theorem dL_drawing_134 : decode cL_drawing 134 = .ok (.invokevirtual 25, 3) := by decide +kernel
theorem dL_drawing_137 : decode cL_drawing 137 = .ok (.iload 11, 2) := by decide +kernel
theorem dL_drawing_139 : decode cL_drawing 139 = .ok (.ifCond .eq 8, 3) := by decide +kernel
theorem dL_drawing_142 : decode cL_drawing 142 = .ok (.bipush (-2), 2) := by decide +kernel
theorem dL_drawing_144 : decode cL_drawing 144 = .ok (.goto 5, 3) := by decide +kernel
theorem dL_drawing_147 : decode cL_drawing 147 = .ok (.iload 10, 2) := by decide +kernel
theorem dL_drawing_149 : decode cL_drawing 149 = .ok (.if_icmp .eq 5, 3) := by decide +kernel
theorem dL_drawing_152 : decode cL_drawing 152 = .ok (.iconst 0, 1) := by decide +kernel
theorem dL_drawing_153 : decode cL_drawing 153 = .ok (.ireturn, 1) := by decide +kernel
theorem dL_drawing_154 : decode cL_drawing 154 = .ok (.iload 6, 2) := by decide +kernel
theorem dL_drawing_156 : decode cL_drawing 156 = .ok (.iload 11, 2) := by decide +kernel
theorem dL_drawing_158 : decode cL_drawing 158 = .ok (.ifCond .eq 7, 3) := by decide +kernel
theorem dL_drawing_161 : decode cL_drawing 161 = .ok (.iconst 0, 1) := by decide +kernel
theorem dL_drawing_162 : decode cL_drawing 162 = .ok (.goto 4, 3) := by decide +kernel
theorem dL_drawing_165 : decode cL_drawing 165 = .ok (.iconst 1, 1) := by decide +kernel
theorem dL_drawing_166 : decode cL_drawing 166 = .ok (.iadd, 1) := by decide +kernel
theorem dL_drawing_167 : decode cL_drawing 167 = .ok (.istore 6, 2) := by decide +kernel
theorem dL_drawing_169 : decode cL_drawing 169 = .ok (.iinc 7 1, 3) := by decide +kernel
theorem dL_drawing_172 : decode cL_drawing 172 = .ok (.goto (-159), 3) := by decide +kernel
theorem dL_drawing_175 : decode cL_drawing 175 = .ok (.iconst 0, 1) := by decide +kernel
theorem dL_drawing_176 : decode cL_drawing 176 = .ok (.istore 7, 2) := by decide +kernel
theorem dL_drawing_178 : decode cL_drawing 178 = .ok (.iconst 0, 1) := by decide +kernel
theorem dL_drawing_179 : decode cL_drawing 179 = .ok (.istore 8, 2) := by decide +kernel
theorem dL_drawing_181 : decode cL_drawing 181 = .ok (.iload 8, 2) := by decide +kernel
theorem dL_drawing_183 : decode cL_drawing 183 = .ok (.iload 4, 2) := by decide +kernel
theorem dL_drawing_185 : decode cL_drawing 185 = .ok (.if_icmp .ge 222, 3) := by decide +kernel
theorem dL_drawing_188 : decode cL_drawing 188 = .ok (.aload_n 1, 1) := by decide +kernel
theorem dL_drawing_189 : decode cL_drawing 189 = .ok (.iload_n 2, 1) := by decide +kernel
theorem dL_drawing_190 : decode cL_drawing 190 = .ok (.bipush 13, 2) := by decide +kernel
theorem dL_drawing_192 : decode cL_drawing 192 = .ok (.iadd, 1) := by decide +kernel
theorem dL_drawing_193 : decode cL_drawing 193 = .ok (.iload 8, 2) := by decide +kernel
theorem dL_drawing_195 : decode cL_drawing 195 = .ok (.iadd, 1) := by decide +kernel
theorem dL_drawing_196 : decode cL_drawing 196 = .ok (.invokestatic 10, 3) := by decide +kernel
theorem dL_drawing_199 : decode cL_drawing 199 = .ok (.istore 9, 2) := by decide +kernel
theorem dL_drawing_201 : decode cL_drawing 201 = .ok (.iload 9, 2) := by decide +kernel
theorem dL_drawing_203 : decode cL_drawing 203 = .ok (.iload 6, 2) := by decide +kernel
theorem dL_drawing_205 : decode cL_drawing 205 = .ok (.invokestatic 16, 3) := by decide +kernel
theorem dL_drawing_208 : decode cL_drawing 208 = .ok (.istore 10, 2) := by decide +kernel
theorem dL_drawing_210 : decode cL_drawing 210 = .ok (.iload 9, 2) := by decide +kernel
theorem dL_drawing_212 : decode cL_drawing 212 = .ok (.iconst 4, 1) := by decide +kernel
theorem dL_drawing_213 : decode cL_drawing 213 = .ok (.ishr, 1) := by decide +kernel
theorem dL_drawing_214 : decode cL_drawing 214 = .ok (.iconst 3, 1) := by decide +kernel
theorem dL_drawing_215 : decode cL_drawing 215 = .ok (.invokestatic 16, 3) := by decide +kernel
theorem dL_drawing_218 : decode cL_drawing 218 = .ok (.ifCond .ne 16, 3) := by decide +kernel
theorem dL_drawing_221 : decode cL_drawing 221 = .ok (.iload 9, 2) := by decide +kernel
theorem dL_drawing_223 : decode cL_drawing 223 = .ok (.bipush 6, 2) := by decide +kernel
theorem dL_drawing_225 : decode cL_drawing 225 = .ok (.ishr, 1) := by decide +kernel
theorem dL_drawing_226 : decode cL_drawing 226 = .ok (.iload 6, 2) := by decide +kernel
theorem dL_drawing_228 : decode cL_drawing 228 = .ok (.invokestatic 16, 3) := by decide +kernel
theorem dL_drawing_231 : decode cL_drawing 231 = .ok (.goto 10, 3) := by decide +kernel
theorem dL_drawing_234 : decode cL_drawing 234 = .ok (.iload 10, 2) := by decide +kernel
theorem dL_drawing_236 : decode cL_drawing 236 = .ok (.iconst 1, 1) := by decide +kernel
theorem dL_drawing_237 : decode cL_drawing 237 = .ok (.iadd, 1) := by decide +kernel
theorem dL_drawing_238 : decode cL_drawing 238 = .ok (.iload 6, 2) := by decide +kernel
theorem dL_drawing_240 : decode cL_drawing 240 = .ok (.irem, 1) := by decide +kernel
theorem dL_drawing_241 : decode cL_drawing 241 = .ok (.istore 11, 2) := by decide +kernel
theorem dL_drawing_243 : decode cL_drawing 243 = .ok (.aload_n 0, 1) := by decide +kernel
theorem dL_drawing_244 : decode cL_drawing 244 = .ok (.iload 10, 2) := by decide +kernel
theorem dL_drawing_246 : decode cL_drawing 246 = .ok (.iload 11, 2) := by decide +kernel
theorem dL_drawing_248 : decode cL_drawing 248 = .ok (.invokevirtual 29, 3) := by decide +kernel
theorem dL_drawing_251 : decode cL_drawing 251 = .ok (.iload 10, 2) := by decide +kernel
theorem dL_drawing_253 : decode cL_drawing 253 = .ok (.iload 11, 2) := by decide +kernel
theorem dL_drawing_255 : decode cL_drawing 255 = .ok (.if_icmp .ne 7, 3) := by decide +kernel
theorem dL_drawing_258 : decode cL_drawing 258 = .ok (.iconst (-1), 1) := by decide +kernel
theorem dL_drawing_259 : decode cL_drawing 259 = .ok (.goto 5, 3) := by decide +kernel
theorem dL_drawing_262 : decode cL_drawing 262 = .ok (.iload 7, 2) := by decide +kernel
theorem dL_drawing_264 : decode cL_drawing 264 = .ok (.if_icmp .eq 5, 3) := by decide +kernel
theorem dL_drawing_267 : decode cL_drawing 267 = .ok (.iconst 0, 1) := by decide +kernel
theorem dL_drawing_268 : decode cL_drawing 268 = .ok (.ireturn, 1) := by decide +kernel
theorem dL_drawing_269 : decode cL_drawing 269 = .ok (.iload 10, 2) := by decide +kernel
theorem dL_drawing_271 : decode cL_drawing 271 = .ok (.iload 11, 2) := by decide +kernel
theorem dL_drawing_273 : decode cL_drawing 273 = .ok (.if_icmp .eq 128, 3) := by decide +kernel
theorem dL_drawing_276 : decode cL_drawing 276 = .ok (.iload 9, 2) := by decide +kernel
theorem dL_drawing_278 : decode cL_drawing 278 = .ok (.bipush 10, 2) := by decide +kernel
theorem dL_drawing_280 : decode cL_drawing 280 = .ok (.ishr, 1) := by decide +kernel
theorem dL_drawing_281 : decode cL_drawing 281 = .ok (.iconst 3, 1) := by decide +kernel
theorem dL_drawing_282 : decode cL_drawing 282 = .ok (.invokestatic 16, 3) := by decide +kernel
theorem dL_drawing_285 : decode cL_drawing 285 = .ok (.ifCond .ne 16, 3) := by decide +kernel
theorem dL_drawing_288 : decode cL_drawing 288 = .ok (.iload 9, 2) := by decide +kernel
theorem dL_drawing_290 : decode cL_drawing 290 = .ok (.bipush 12, 2) := by decide +kernel
theorem dL_drawing_292 : decode cL_drawing 292 = .ok (.ishr, 1) := by decide +kernel
theorem dL_drawing_293 : decode cL_drawing 293 = .ok (.bipush 21, 2) := by decide +kernel
theorem dL_drawing_295 : decode cL_drawing 295 = .ok (.invokestatic 16, 3) := by decide +kernel
theorem dL_drawing_298 : decode cL_drawing 298 = .ok (.goto 12, 3) := by decide +kernel
theorem dL_drawing_301 : decode cL_drawing 301 = .ok (.iload 9, 2) := by decide +kernel
theorem dL_drawing_303 : decode cL_drawing 303 = .ok (.bipush 12, 2) := by decide +kernel
theorem dL_drawing_305 : decode cL_drawing 305 = .ok (.ishr, 1) := by decide +kernel
theorem dL_drawing_306 : decode cL_drawing 306 = .ok (.iconst 4, 1) := by decide +kernel
theorem dL_drawing_307 : decode cL_drawing 307 = .ok (.invokestatic 16, 3) := by decide +kernel
theorem dL_drawing_310 : decode cL_drawing 310 = .ok (.istore 12, 2) := by decide +kernel
theorem dL_drawing_312 : decode cL_drawing 312 = .ok (.aload_n 0, 1) := by decide +kernel
theorem dL_drawing_313 : decode cL_drawing 313 = .ok (.iload 7, 2) := by decide +kernel
theorem dL_drawing_315 : decode cL_drawing 315 = .ok (.iload 12, 2) := by decide +kernel
theorem dL_drawing_317 : decode cL_drawing 317 = .ok (.iload 9, 2) := by decide +kernel
theorem dL_drawing_319 : decode cL_drawing 319 = .ok (.bipush 15, 2) := by decide +kernel
theorem dL_drawing_321 : decode cL_drawing 321 = .ok (.ishr, 1) := by decide +kernel
theorem dL_drawing_322 : decode cL_drawing 322 = .ok (.bipush 6, 2) := by decide +kernel
theorem dL_drawing_324 : decode cL_drawing 324 = .ok (.invokestatic 16, 3) := by decide +kernel
theorem dL_drawing_327 : decode cL_drawing 327 = .ok (.invokevirtual 32, 3) := by decide +kernel
theorem dL_drawing_330 : decode cL_drawing 330 = .ok (.ifCond .ne 66, 3) := by decide +kernel
theorem dL_drawing_333 : decode cL_drawing 333 = .ok (.aload_n 0, 1) := by decide +kernel
theorem dL_drawing_334 : decode cL_drawing 334 = .ok (.iload 7, 2) := by decide +kernel
theorem dL_drawing_336 : decode cL_drawing 336 = .ok (.iload 9, 2) := by decide +kernel
theorem dL_drawing_338 : decode cL_drawing 338 = .ok (.bipush 18, 2) := by decide +kernel
theorem dL_drawing_340 : decode cL_drawing 340 = .ok (.ishr, 1) := by decide +kernel
theorem dL_drawing_341 : decode cL_drawing 341 = .ok (.iconst 2, 1) := by decide +kernel
theorem dL_drawing_342 : decode cL_drawing 342 = .ok (.invokestatic 16, 3) := by decide +kernel
theorem dL_drawing_345 : decode cL_drawing 345 = .ok (.iload 9, 2) := by decide +kernel
theorem dL_drawing_347 : decode cL_drawing 347 = .ok (.bipush 19, 2) := by decide +kernel
theorem dL_drawing_349 : decode cL_drawing 349 = .ok (.ishr, 1) := by decide +kernel
theorem dL_drawing_350 : decode cL_drawing 350 = .ok (.iconst 3, 1) := by decide +kernel
theorem dL_drawing_351 : decode cL_drawing 351 = .ok (.invokestatic 16, 3) := by decide +kernel
theorem dL_drawing_354 : decode cL_drawing 354 = .ok (.imul, 1) := by decide +kernel
theorem dL_drawing_355 : decode cL_drawing 355 = .ok (.invokevirtual 36, 3) := by decide +kernel
theorem dL_drawing_358 : decode cL_drawing 358 = .ok (.ifCond .ne 38, 3) := by decide +kernel
theorem dL_drawing_361 : decode cL_drawing 361 = .ok (.aload_n 0, 1) := by decide +kernel
theorem dL_drawing_362 : decode cL_drawing 362 = .ok (.iload 7, 2) := by decide +kernel
theorem dL_drawing_364 : decode cL_drawing 364 = .ok (.iload 9, 2) := by decide +kernel
theorem dL_drawing_366 : decode cL_drawing 366 = .ok (.bipush 22, 2) := by decide +kernel
theorem dL_drawing_368 : decode cL_drawing 368 = .ok (.ishr, 1) := by decide +kernel
theorem dL_drawing_369 : decode cL_drawing 369 = .ok (.bipush 6, 2) := by decide +kernel
theorem dL_drawing_371 : decode cL_drawing 371 = .ok (.invokestatic 16, 3) := by decide +kernel
theorem dL_drawing_374 : decode cL_drawing 374 = .ok (.ifCond .ne 15, 3) := by decide +kernel
theorem dL_drawing_377 : decode cL_drawing 377 = .ok (.iload 9, 2) := by decide +kernel
theorem dL_drawing_379 : decode cL_drawing 379 = .ok (.bipush 24, 2) := by decide +kernel
theorem dL_drawing_381 : decode cL_drawing 381 = .ok (.ishr, 1) := by decide +kernel
theorem dL_drawing_382 : decode cL_drawing 382 = .ok (.iconst 4, 1) := by decide +kernel
theorem dL_drawing_383 : decode cL_drawing 383 = .ok (.invokestatic 16, 3) := by decide +kernel
theorem dL_drawing_386 : decode cL_drawing 386 = .ok (.goto 4, 3) := by decide +kernel
theorem dL_drawing_389 : decode cL_drawing 389 = .ok (.iconst 0, 1) := by decide +kernel
theorem dL_drawing_390 : decode cL_drawing 390 = .ok (.invokevirtual 39, 3) := by decide +kernel
theorem dL_drawing_393 : decode cL_drawing 393 = .ok (.ifCond .eq 5, 3) := by decide +kernel
theorem dL_drawing_396 : decode cL_drawing 396 = .ok (.iconst 0, 1) := by decide +kernel
theorem dL_drawing_397 : decode cL_drawing 397 = .ok (.ireturn, 1) := by decide +kernel
theorem dL_drawing_398 : decode cL_drawing 398 = .ok (.iinc 7 1, 3) := by decide +kernel
theorem dL_drawing_401 : decode cL_drawing 401 = .ok (.iinc 8 1, 3) := by decide +kernel
theorem dL_drawing_404 : decode cL_drawing 404 = .ok (.goto (-223), 3) := by decide +kernel
theorem dL_drawing_407 : decode cL_drawing 407 = .ok (.aload_n 0, 1) := by decide +kernel
theorem dL_drawing_408 : decode cL_drawing 408 = .ok (.iconst 0, 1) := by decide +kernel
theorem dL_drawing_409 : decode cL_drawing 409 = .ok (.invokevirtual 42, 3) := by decide +kernel
theorem dL_drawing_412 : decode cL_drawing 412 = .ok (.iload 6, 2) := by decide +kernel
theorem dL_drawing_414 : decode cL_drawing 414 = .ok (.if_icmp .ne 17, 3) := by decide +kernel
theorem dL_drawing_417 : decode cL_drawing 417 = .ok (.aload_n 0, 1) := by decide +kernel
theorem dL_drawing_418 : decode cL_drawing 418 = .ok (.iconst 1, 1) := by decide +kernel
theorem dL_drawing_419 : decode cL_drawing 419 = .ok (.invokevirtual 42, 3) := by decide +kernel
theorem dL_drawing_422 : decode cL_drawing 422 = .ok (.iload 7, 2) := by decide +kernel
theorem dL_drawing_424 : decode cL_drawing 424 = .ok (.if_icmp .ne 7, 3) := by decide +kernel
theorem dL_drawing_427 : decode cL_drawing 427 = .ok (.iconst 1, 1) := by decide +kernel
theorem dL_drawing_428 : decode cL_drawing 428 = .ok (.goto 4, 3) := by decide +kernel
theorem dL_drawing_431 : decode cL_drawing 431 = .ok (.iconst 0, 1) := by decide +kernel
theorem dL_drawing_432 : decode cL_drawing 432 = .ok (.ireturn, 1) := by decide +kernel
theorem dL_position_0 : decode cL_position 0 = .ok (.aload_n 0, 1) := by decide +kernel
theorem dL_position_1 : decode cL_position 1 = .ok (.aload_n 0, 1) := by decide +kernel
theorem dL_position_2 : decode cL_position 2 = .ok (.iload_n 1, 1) := by decide +kernel
theorem dL_position_3 : decode cL_position 3 = .ok (.iload_n 2, 1) := by decide +kernel
theorem dL_position_4 : decode cL_position 4 = .ok (.invokevirtual 45, 3) := by decide +kernel
theorem dL_position_7 : decode cL_position 7 = .ok (.iconst 0, 1) := by decide +kernel
theorem dL_position_8 : decode cL_position 8 = .ok (.invokevirtual 20, 3) := by decide +kernel
theorem dL_position_11 : decode cL_position 11 = .ok (.ireturn, 1) := by decide +kernel
theorem dL_fitted_0 : decode cL_fitted 0 = .ok (.aload_n 0, 1) := by decide +kernel
theorem dL_fitted_1 : decode cL_fitted 1 = .ok (.iload_n 1, 1) := by decide +kernel
theorem dL_fitted_2 : decode cL_fitted 2 = .ok (.iconst 0, 1) := by decide +kernel
theorem dL_fitted_3 : decode cL_fitted 3 = .ok (.invokestatic 48, 3) := by decide +kernel
theorem dL_fitted_6 : decode cL_fitted 6 = .ok (.istore_n 2, 1) := by decide +kernel
theorem dL_fitted_7 : decode cL_fitted 7 = .ok (.aload_n 0, 1) := by decide +kernel
theorem dL_fitted_8 : decode cL_fitted 8 = .ok (.iload_n 1, 1) := by decide +kernel
theorem dL_fitted_9 : decode cL_fitted 9 = .ok (.iconst 1, 1) := by decide +kernel
theorem dL_fitted_10 : decode cL_fitted 10 = .ok (.invokestatic 48, 3) := by decide +kernel
theorem dL_fitted_13 : decode cL_fitted 13 = .ok (.istore_n 3, 1) := by decide +kernel
theorem dL_fitted_14 : decode cL_fitted 14 = .ok (.iload_n 3, 1) := by decide +kernel
theorem dL_fitted_15 : decode cL_fitted 15 = .ok (.iload_n 2, 1) := by decide +kernel
theorem dL_fitted_16 : decode cL_fitted 16 = .ok (.isub, 1) := by decide +kernel
theorem dL_fitted_17 : decode cL_fitted 17 = .ok (.istore 4, 2) := by decide +kernel
theorem dL_fitted_19 : decode cL_fitted 19 = .ok (.iconst 1, 1) := by decide +kernel
theorem dL_fitted_20 : decode cL_fitted 20 = .ok (.istore 5, 2) := by decide +kernel
theorem dL_fitted_22 : decode cL_fitted 22 = .ok (.iload 4, 2) := by decide +kernel
theorem dL_fitted_24 : decode cL_fitted 24 = .ok (.bipush 10, 2) := by decide +kernel
theorem dL_fitted_26 : decode cL_fitted 26 = .ok (.idiv, 1) := by decide +kernel
theorem dL_fitted_27 : decode cL_fitted 27 = .ok (.istore 6, 2) := by decide +kernel
theorem dL_fitted_29 : decode cL_fitted 29 = .ok (.iload 6, 2) := by decide +kernel
theorem dL_fitted_31 : decode cL_fitted 31 = .ok (.ifCond .le 16, 3) := by decide +kernel
theorem dL_fitted_34 : decode cL_fitted 34 = .ok (.iinc 5 1, 3) := by decide +kernel
theorem dL_fitted_37 : decode cL_fitted 37 = .ok (.iload 6, 2) := by decide +kernel
theorem dL_fitted_39 : decode cL_fitted 39 = .ok (.bipush 10, 2) := by decide +kernel
theorem dL_fitted_41 : decode cL_fitted 41 = .ok (.idiv, 1) := by decide +kernel
theorem dL_fitted_42 : decode cL_fitted 42 = .ok (.istore 6, 2) := by decide +kernel
theorem dL_fitted_44 : decode cL_fitted 44 = .ok (.goto (-15), 3) := by decide +kernel
theorem dL_fitted_47 : decode cL_fitted 47 = .ok (.iload 5, 2) := by decide +kernel
theorem dL_fitted_49 : decode cL_fitted 49 = .ok (.aload_n 0, 1) := by decide +kernel
theorem dL_fitted_50 : decode cL_fitted 50 = .ok (.bipush 7, 2) := by decide +kernel
theorem dL_fitted_52 : decode cL_fitted 52 = .ok (.invokevirtual 42, 3) := by decide +kernel
theorem dL_fitted_55 : decode cL_fitted 55 = .ok (.imul, 1) := by decide +kernel
theorem dL_fitted_56 : decode cL_fitted 56 = .ok (.istore 6, 2) := by decide +kernel
theorem dL_fitted_58 : decode cL_fitted 58 = .ok (.aload_n 0, 1) := by decide +kernel
theorem dL_fitted_59 : decode cL_fitted 59 = .ok (.bipush 8, 2) := by decide +kernel
theorem dL_fitted_61 : decode cL_fitted 61 = .ok (.invokevirtual 42, 3) := by decide +kernel
theorem dL_fitted_64 : decode cL_fitted 64 = .ok (.istore 7, 2) := by decide +kernel
theorem dL_fitted_66 : decode cL_fitted 66 = .ok (.iload 4, 2) := by decide +kernel
theorem dL_fitted_68 : decode cL_fitted 68 = .ok (.iload 6, 2) := by decide +kernel
theorem dL_fitted_70 : decode cL_fitted 70 = .ok (.iconst 2, 1) := by decide +kernel
theorem dL_fitted_71 : decode cL_fitted 71 = .ok (.iload 7, 2) := by decide +kernel
theorem dL_fitted_73 : decode cL_fitted 73 = .ok (.imul, 1) := by decide +kernel
theorem dL_fitted_74 : decode cL_fitted 74 = .ok (.iadd, 1) := by decide +kernel
theorem dL_fitted_75 : decode cL_fitted 75 = .ok (.if_icmp .lt 7, 3) := by decide +kernel
theorem dL_fitted_78 : decode cL_fitted 78 = .ok (.iconst 0, 1) := by decide +kernel
theorem dL_fitted_79 : decode cL_fitted 79 = .ok (.goto 15, 3) := by decide +kernel
theorem dL_fitted_82 : decode cL_fitted 82 = .ok (.iload 4, 2) := by decide +kernel
theorem dL_fitted_84 : decode cL_fitted 84 = .ok (.iload 6, 2) := by decide +kernel
theorem dL_fitted_86 : decode cL_fitted 86 = .ok (.if_icmp .lt 7, 3) := by decide +kernel
theorem dL_fitted_89 : decode cL_fitted 89 = .ok (.iconst 1, 1) := by decide +kernel
theorem dL_fitted_90 : decode cL_fitted 90 = .ok (.goto 4, 3) := by decide +kernel
theorem dL_fitted_93 : decode cL_fitted 93 = .ok (.iconst 2, 1) := by decide +kernel
theorem dL_fitted_94 : decode cL_fitted 94 = .ok (.istore 8, 2) := by decide +kernel
theorem dL_fitted_96 : decode cL_fitted 96 = .ok (.iload 8, 2) := by decide +kernel
theorem dL_fitted_98 : decode cL_fitted 98 = .ok (.ifCond .ne 7, 3) := by decide +kernel
theorem dL_fitted_101 : decode cL_fitted 101 = .ok (.iconst 0, 1) := by decide +kernel
theorem dL_fitted_102 : decode cL_fitted 102 = .ok (.goto 5, 3) := by decide +kernel
theorem dL_fitted_105 : decode cL_fitted 105 = .ok (.iload 7, 2) := by decide +kernel
theorem dL_fitted_107 : decode cL_fitted 107 = .ok (.istore 9, 2) := by decide +kernel
theorem dL_fitted_109 : decode cL_fitted 109 = .ok (.iload 4, 2) := by decide +kernel
theorem dL_fitted_111 : decode cL_fitted 111 = .ok (.ifCond .le 71, 3) := by decide +kernel
theorem dL_fitted_114 : decode cL_fitted 114 = .ok (.aload_n 0, 1) := by decide +kernel
theorem dL_fitted_115 : decode cL_fitted 115 = .ok (.iload_n 1, 1) := by decide +kernel
theorem dL_fitted_116 : decode cL_fitted 116 = .ok (.iconst 2, 1) := by decide +kernel
theorem dL_fitted_117 : decode cL_fitted 117 = .ok (.invokevirtual 45, 3) := by decide +kernel
theorem dL_fitted_120 : decode cL_fitted 120 = .ok (.iload 4, 2) := by decide +kernel
theorem dL_fitted_122 : decode cL_fitted 122 = .ok (.if_icmp .ne 60, 3) := by decide +kernel
theorem dL_fitted_125 : decode cL_fitted 125 = .ok (.aload_n 0, 1) := by decide +kernel
theorem dL_fitted_126 : decode cL_fitted 126 = .ok (.iload_n 1, 1) := by decide +kernel
theorem dL_fitted_127 : decode cL_fitted 127 = .ok (.bipush 7, 2) := by decide +kernel
theorem dL_fitted_129 : decode cL_fitted 129 = .ok (.invokevirtual 45, 3) := by decide +kernel
theorem dL_fitted_132 : decode cL_fitted 132 = .ok (.iload 8, 2) := by decide +kernel
theorem dL_fitted_134 : decode cL_fitted 134 = .ok (.if_icmp .ne 48, 3) := by decide +kernel
theorem dL_fitted_137 : decode cL_fitted 137 = .ok (.aload_n 0, 1) := by decide +kernel
theorem dL_fitted_138 : decode cL_fitted 138 = .ok (.iload_n 1, 1) := by decide +kernel
theorem dL_fitted_139 : decode cL_fitted 139 = .ok (.bipush 8, 2) := by decide +kernel
theorem dL_fitted_141 : decode cL_fitted 141 = .ok (.invokevirtual 45, 3) := by decide +kernel
theorem dL_fitted_144 : decode cL_fitted 144 = .ok (.iload_n 2, 1) := by decide +kernel
theorem dL_fitted_145 : decode cL_fitted 145 = .ok (.iload 9, 2) := by decide +kernel
theorem dL_fitted_147 : decode cL_fitted 147 = .ok (.isub, 1) := by decide +kernel
theorem dL_fitted_148 : decode cL_fitted 148 = .ok (.if_icmp .ne 34, 3) := by decide +kernel
theorem dL_fitted_151 : decode cL_fitted 151 = .ok (.aload_n 0, 1) := by decide +kernel
theorem dL_fitted_152 : decode cL_fitted 152 = .ok (.iload_n 1, 1) := by decide +kernel
theorem dL_fitted_153 : decode cL_fitted 153 = .ok (.bipush 9, 2) := by decide +kernel
theorem dL_fitted_155 : decode cL_fitted 155 = .ok (.invokevirtual 45, 3) := by decide +kernel
theorem dL_fitted_158 : decode cL_fitted 158 = .ok (.iload_n 3, 1) := by decide +kernel
theorem dL_fitted_159 : decode cL_fitted 159 = .ok (.iload 9, 2) := by decide +kernel
theorem dL_fitted_161 : decode cL_fitted 161 = .ok (.iadd, 1) := by decide +kernel
theorem dL_fitted_162 : decode cL_fitted 162 = .ok (.iload 8, 2) := by decide +kernel
theorem dL_fitted_164 : decode cL_fitted 164 = .ok (.iconst 2, 1) := by decide +kernel
theorem dL_fitted_165 : decode cL_fitted 165 = .ok (.if_icmp .ne 8, 3) := by decide +kernel
theorem dL_fitted_168 : decode cL_fitted 168 = .ok (.iload 6, 2) := by decide +kernel
theorem dL_fitted_170 : decode cL_fitted 170 = .ok (.goto 4, 3) := by decide +kernel
theorem dL_fitted_173 : decode cL_fitted 173 = .ok (.iconst 0, 1) := by decide +kernel
theorem dL_fitted_174 : decode cL_fitted 174 = .ok (.iadd, 1) := by decide +kernel
theorem dL_fitted_175 : decode cL_fitted 175 = .ok (.if_icmp .ne 7, 3) := by decide +kernel
theorem dL_fitted_178 : decode cL_fitted 178 = .ok (.iconst 1, 1) := by decide +kernel
theorem dL_fitted_179 : decode cL_fitted 179 = .ok (.goto 4, 3) := by decide +kernel
theorem dL_fitted_182 : decode cL_fitted 182 = .ok (.iconst 0, 1) := by decide +kernel
theorem dL_fitted_183 : decode cL_fitted 183 = .ok (.ireturn, 1) := by decide +kernel
theorem dL_unit_0 : decode cL_unit 0 = .ok (.aload_n 0, 1) := by decide +kernel
theorem dL_unit_1 : decode cL_unit 1 = .ok (.iload_n 1, 1) := by decide +kernel
theorem dL_unit_2 : decode cL_unit 2 = .ok (.iconst 5, 1) := by decide +kernel
theorem dL_unit_3 : decode cL_unit 3 = .ok (.invokevirtual 45, 3) := by decide +kernel
theorem dL_unit_6 : decode cL_unit 6 = .ok (.istore_n 2, 1) := by decide +kernel
theorem dL_unit_7 : decode cL_unit 7 = .ok (.iconst 0, 1) := by decide +kernel
theorem dL_unit_8 : decode cL_unit 8 = .ok (.istore_n 3, 1) := by decide +kernel
theorem dL_unit_9 : decode cL_unit 9 = .ok (.iload_n 2, 1) := by decide +kernel
theorem dL_unit_10 : decode cL_unit 10 = .ok (.ifCond .le 16, 3) := by decide +kernel
theorem dL_unit_13 : decode cL_unit 13 = .ok (.aload_n 0, 1) := by decide +kernel
theorem dL_unit_14 : decode cL_unit 14 = .ok (.iload_n 3, 1) := by decide +kernel
theorem dL_unit_15 : decode cL_unit 15 = .ok (.iconst 5, 1) := by decide +kernel
theorem dL_unit_16 : decode cL_unit 16 = .ok (.invokevirtual 45, 3) := by decide +kernel
theorem dL_unit_19 : decode cL_unit 19 = .ok (.iload_n 2, 1) := by decide +kernel
theorem dL_unit_20 : decode cL_unit 20 = .ok (.if_icmp .eq 17, 3) := by decide +kernel
theorem dL_unit_23 : decode cL_unit 23 = .ok (.goto 8, 3) := by decide +kernel
theorem dL_unit_26 : decode cL_unit 26 = .ok (.iload_n 3, 1) := by decide +kernel
theorem dL_unit_27 : decode cL_unit 27 = .ok (.iload_n 1, 1) := by decide +kernel
theorem dL_unit_28 : decode cL_unit 28 = .ok (.if_icmp .eq 9, 3) := by decide +kernel
theorem dL_unit_31 : decode cL_unit 31 = .ok (.iinc 3 1, 3) := by decide +kernel
theorem dL_unit_34 : decode cL_unit 34 = .ok (.goto (-25), 3) := by decide +kernel
theorem dL_unit_37 : decode cL_unit 37 = .ok (.iload_n 3, 1) := by decide +kernel
theorem dL_unit_38 : decode cL_unit 38 = .ok (.ireturn, 1) := by decide +kernel
theorem dL_span_0 : decode cL_span 0 = .ok (.iload_n 2, 1) := by decide +kernel
theorem dL_span_1 : decode cL_span 1 = .ok (.ifCond .ne 9, 3) := by decide +kernel
theorem dL_span_4 : decode cL_span 4 = .ok (.sipush 1000, 3) := by decide +kernel
theorem dL_span_7 : decode cL_span 7 = .ok (.goto 4, 3) := by decide +kernel
theorem dL_span_10 : decode cL_span 10 = .ok (.iconst 0, 1) := by decide +kernel
theorem dL_span_11 : decode cL_span 11 = .ok (.istore_n 3, 1) := by decide +kernel
theorem dL_span_12 : decode cL_span 12 = .ok (.iconst 0, 1) := by decide +kernel
theorem dL_span_13 : decode cL_span 13 = .ok (.istore 4, 2) := by decide +kernel
theorem dL_span_15 : decode cL_span 15 = .ok (.iload 4, 2) := by decide +kernel
theorem dL_span_17 : decode cL_span 17 = .ok (.aload_n 0, 1) := by decide +kernel
theorem dL_span_18 : decode cL_span 18 = .ok (.iconst 1, 1) := by decide +kernel
theorem dL_span_19 : decode cL_span 19 = .ok (.invokevirtual 42, 3) := by decide +kernel
theorem dL_span_22 : decode cL_span 22 = .ok (.if_icmp .ge 76, 3) := by decide +kernel
theorem dL_span_25 : decode cL_span 25 = .ok (.aload_n 0, 1) := by decide +kernel
theorem dL_span_26 : decode cL_span 26 = .ok (.iload 4, 2) := by decide +kernel
theorem dL_span_28 : decode cL_span 28 = .ok (.invokestatic 52, 3) := by decide +kernel
theorem dL_span_31 : decode cL_span 31 = .ok (.iload_n 1, 1) := by decide +kernel
theorem dL_span_32 : decode cL_span 32 = .ok (.if_icmp .ne 60, 3) := by decide +kernel
theorem dL_span_35 : decode cL_span 35 = .ok (.iload_n 2, 1) := by decide +kernel
theorem dL_span_36 : decode cL_span 36 = .ok (.iconst 2, 1) := by decide +kernel
theorem dL_span_37 : decode cL_span 37 = .ok (.if_icmp .ne 14, 3) := by decide +kernel
theorem dL_span_40 : decode cL_span 40 = .ok (.aload_n 0, 1) := by decide +kernel
theorem dL_span_41 : decode cL_span 41 = .ok (.iload 4, 2) := by decide +kernel
theorem dL_span_43 : decode cL_span 43 = .ok (.bipush 6, 2) := by decide +kernel
theorem dL_span_45 : decode cL_span 45 = .ok (.invokevirtual 45, 3) := by decide +kernel
theorem dL_span_48 : decode cL_span 48 = .ok (.goto 10, 3) := by decide +kernel
theorem dL_span_51 : decode cL_span 51 = .ok (.aload_n 0, 1) := by decide +kernel
theorem dL_span_52 : decode cL_span 52 = .ok (.iload 4, 2) := by decide +kernel
theorem dL_span_54 : decode cL_span 54 = .ok (.iload_n 2, 1) := by decide +kernel
theorem dL_span_55 : decode cL_span 55 = .ok (.invokestatic 48, 3) := by decide +kernel
theorem dL_span_58 : decode cL_span 58 = .ok (.istore 5, 2) := by decide +kernel
theorem dL_span_60 : decode cL_span 60 = .ok (.iload_n 2, 1) := by decide +kernel
theorem dL_span_61 : decode cL_span 61 = .ok (.ifCond .ne 18, 3) := by decide +kernel
theorem dL_span_64 : decode cL_span 64 = .ok (.iload 5, 2) := by decide +kernel
theorem dL_span_66 : decode cL_span 66 = .ok (.iload_n 3, 1) := by decide +kernel
theorem dL_span_67 : decode cL_span 67 = .ok (.if_icmp .ge 8, 3) := by decide +kernel
theorem dL_span_70 : decode cL_span 70 = .ok (.iload 5, 2) := by decide +kernel
theorem dL_span_72 : decode cL_span 72 = .ok (.goto 19, 3) := by decide +kernel
theorem dL_span_75 : decode cL_span 75 = .ok (.iload_n 3, 1) := by decide +kernel
theorem dL_span_76 : decode cL_span 76 = .ok (.goto 15, 3) := by decide +kernel
theorem dL_span_79 : decode cL_span 79 = .ok (.iload 5, 2) := by decide +kernel
theorem dL_span_81 : decode cL_span 81 = .ok (.iload_n 3, 1) := by decide +kernel
theorem dL_span_82 : decode cL_span 82 = .ok (.if_icmp .le 8, 3) := by decide +kernel
theorem dL_span_85 : decode cL_span 85 = .ok (.iload 5, 2) := by decide +kernel
theorem dL_span_87 : decode cL_span 87 = .ok (.goto 4, 3) := by decide +kernel
theorem dL_span_90 : decode cL_span 90 = .ok (.iload_n 3, 1) := by decide +kernel
theorem dL_span_91 : decode cL_span 91 = .ok (.istore_n 3, 1) := by decide +kernel
theorem dL_span_92 : decode cL_span 92 = .ok (.iinc 4 1, 3) := by decide +kernel
theorem dL_span_95 : decode cL_span 95 = .ok (.goto (-80), 3) := by decide +kernel
theorem dL_span_98 : decode cL_span 98 = .ok (.iload_n 3, 1) := by decide +kernel
theorem dL_span_99 : decode cL_span 99 = .ok (.ireturn, 1) := by decide +kernel
theorem dL_lanes_0 : decode cL_lanes 0 = .ok (.aload_n 0, 1) := by decide +kernel
theorem dL_lanes_1 : decode cL_lanes 1 = .ok (.iconst 1, 1) := by decide +kernel
theorem dL_lanes_2 : decode cL_lanes 2 = .ok (.invokevirtual 42, 3) := by decide +kernel
theorem dL_lanes_5 : decode cL_lanes 5 = .ok (.istore_n 1, 1) := by decide +kernel
theorem dL_lanes_6 : decode cL_lanes 6 = .ok (.bipush 16, 2) := by decide +kernel
theorem dL_lanes_8 : decode cL_lanes 8 = .ok (.newarray .int, 2) := by decide +kernel
theorem dL_lanes_10 : decode cL_lanes 10 = .ok (.astore_n 2, 1) := by decide +kernel
theorem dL_lanes_11 : decode cL_lanes 11 = .ok (.iconst 0, 1) := by decide +kernel
theorem dL_lanes_12 : decode cL_lanes 12 = .ok (.istore_n 3, 1) := by decide +kernel
theorem dL_lanes_13 : decode cL_lanes 13 = .ok (.iconst 0, 1) := by decide +kernel
theorem dL_lanes_14 : decode cL_lanes 14 = .ok (.istore 4, 2) := by decide +kernel
theorem dL_lanes_16 : decode cL_lanes 16 = .ok (.iconst 0, 1) := by decide +kernel
theorem dL_lanes_17 : decode cL_lanes 17 = .ok (.istore 5, 2) := by decide +kernel
theorem dL_lanes_19 : decode cL_lanes 19 = .ok (.iload 5, 2) := by decide +kernel
theorem dL_lanes_21 : decode cL_lanes 21 = .ok (.iload_n 1, 1) := by decide +kernel
theorem dL_lanes_22 : decode cL_lanes 22 = .ok (.if_icmp .ge 30, 3) := by decide +kernel
theorem dL_lanes_25 : decode cL_lanes 25 = .ok (.iload 4, 2) := by decide +kernel
theorem dL_lanes_27 : decode cL_lanes 27 = .ok (.aload_n 0, 1) := by decide +kernel
theorem dL_lanes_28 : decode cL_lanes 28 = .ok (.iload 5, 2) := by decide +kernel
theorem dL_lanes_30 : decode cL_lanes 30 = .ok (.invokestatic 52, 3) := by decide +kernel
theorem dL_lanes_33 : decode cL_lanes 33 = .ok (.iload 5, 2) := by decide +kernel
theorem dL_lanes_35 : decode cL_lanes 35 = .ok (.if_icmp .ne 7, 3) := by decide +kernel
theorem dL_lanes_38 : decode cL_lanes 38 = .ok (.iconst 1, 1) := by decide +kernel
theorem dL_lanes_39 : decode cL_lanes 39 = .ok (.goto 4, 3) := by decide +kernel
theorem dL_lanes_42 : decode cL_lanes 42 = .ok (.iconst 0, 1) := by decide +kernel
theorem dL_lanes_43 : decode cL_lanes 43 = .ok (.iadd, 1) := by decide +kernel
theorem dL_lanes_44 : decode cL_lanes 44 = .ok (.istore 4, 2) := by decide +kernel
theorem dL_lanes_46 : decode cL_lanes 46 = .ok (.iinc 5 1, 3) := by decide +kernel
theorem dL_lanes_49 : decode cL_lanes 49 = .ok (.goto (-30), 3) := by decide +kernel
theorem dL_lanes_52 : decode cL_lanes 52 = .ok (.iconst 0, 1) := by decide +kernel
theorem dL_lanes_53 : decode cL_lanes 53 = .ok (.istore 5, 2) := by decide +kernel
theorem dL_lanes_55 : decode cL_lanes 55 = .ok (.iconst 0, 1) := by decide +kernel
theorem dL_lanes_56 : decode cL_lanes 56 = .ok (.istore 6, 2) := by decide +kernel
theorem dL_lanes_58 : decode cL_lanes 58 = .ok (.iload 6, 2) := by decide +kernel
theorem dL_lanes_60 : decode cL_lanes 60 = .ok (.iload 4, 2) := by decide +kernel
theorem dL_lanes_62 : decode cL_lanes 62 = .ok (.if_icmp .ge 307, 3) := by decide +kernel
theorem dL_lanes_65 : decode cL_lanes 65 = .ok (.iconst (-1), 1) := by decide +kernel
theorem dL_lanes_66 : decode cL_lanes 66 = .ok (.istore 7, 2) := by decide +kernel
theorem dL_lanes_68 : decode cL_lanes 68 = .ok (.iconst 0, 1) := by decide +kernel
theorem dL_lanes_69 : decode cL_lanes 69 = .ok (.istore 8, 2) := by decide +kernel
theorem dL_lanes_71 : decode cL_lanes 71 = .ok (.iconst 0, 1) := by decide +kernel
theorem dL_lanes_72 : decode cL_lanes 72 = .ok (.istore 9, 2) := by decide +kernel
theorem dL_lanes_74 : decode cL_lanes 74 = .ok (.iload 9, 2) := by decide +kernel
theorem dL_lanes_76 : decode cL_lanes 76 = .ok (.iload_n 1, 1) := by decide +kernel
theorem dL_lanes_77 : decode cL_lanes 77 = .ok (.if_icmp .ge 132, 3) := by decide +kernel
theorem dL_lanes_80 : decode cL_lanes 80 = .ok (.aload_n 0, 1) := by decide +kernel
theorem dL_lanes_81 : decode cL_lanes 81 = .ok (.iload 9, 2) := by decide +kernel
theorem dL_lanes_83 : decode cL_lanes 83 = .ok (.invokestatic 52, 3) := by decide +kernel
theorem dL_lanes_86 : decode cL_lanes 86 = .ok (.iload 9, 2) := by decide +kernel
theorem dL_lanes_88 : decode cL_lanes 88 = .ok (.if_icmp .ne 115, 3) := by decide +kernel
theorem dL_lanes_91 : decode cL_lanes 91 = .ok (.iload_n 3, 1) := by decide +kernel
theorem dL_lanes_92 : decode cL_lanes 92 = .ok (.iload 9, 2) := by decide +kernel
theorem dL_lanes_94 : decode cL_lanes 94 = .ok (.ishr, 1) := by decide +kernel
theorem dL_lanes_95 : decode cL_lanes 95 = .ok (.iconst 1, 1) := by decide +kernel
theorem dL_lanes_96 : decode cL_lanes 96 = .ok (.iand, 1) := by decide +kernel
theorem dL_lanes_97 : decode cL_lanes 97 = .ok (.ifCond .ne 106, 3) := by decide +kernel
theorem dL_lanes_100 : decode cL_lanes 100 = .ok (.sipush 1000, 3) := by decide +kernel
theorem dL_lanes_103 : decode cL_lanes 103 = .ok (.aload_n 0, 1) := by decide +kernel
theorem dL_lanes_104 : decode cL_lanes 104 = .ok (.iload 9, 2) := by decide +kernel
theorem dL_lanes_106 : decode cL_lanes 106 = .ok (.iconst 1, 1) := by decide +kernel
theorem dL_lanes_107 : decode cL_lanes 107 = .ok (.invokestatic 56, 3) := by decide +kernel
theorem dL_lanes_110 : decode cL_lanes 110 = .ok (.aload_n 0, 1) := by decide +kernel
theorem dL_lanes_111 : decode cL_lanes 111 = .ok (.iload 9, 2) := by decide +kernel
theorem dL_lanes_113 : decode cL_lanes 113 = .ok (.iconst 0, 1) := by decide +kernel
theorem dL_lanes_114 : decode cL_lanes 114 = .ok (.invokestatic 56, 3) := by decide +kernel
theorem dL_lanes_117 : decode cL_lanes 117 = .ok (.isub, 1) := by decide +kernel
theorem dL_lanes_118 : decode cL_lanes 118 = .ok (.imul, 1) := by decide +kernel
theorem dL_lanes_119 : decode cL_lanes 119 = .ok (.aload_n 0, 1) := by decide +kernel
theorem dL_lanes_120 : decode cL_lanes 120 = .ok (.iload 9, 2) := by decide +kernel
theorem dL_lanes_122 : decode cL_lanes 122 = .ok (.iconst 0, 1) := by decide +kernel
theorem dL_lanes_123 : decode cL_lanes 123 = .ok (.invokestatic 56, 3) := by decide +kernel
theorem dL_lanes_126 : decode cL_lanes 126 = .ok (.iadd, 1) := by decide +kernel
theorem dL_lanes_127 : decode cL_lanes 127 = .ok (.istore 10, 2) := by decide +kernel
theorem dL_lanes_129 : decode cL_lanes 129 = .ok (.iload 7, 2) := by decide +kernel
theorem dL_lanes_131 : decode cL_lanes 131 = .ok (.ifCond .lt 10, 3) := by decide +kernel
theorem dL_lanes_134 : decode cL_lanes 134 = .ok (.iload 10, 2) := by decide +kernel
theorem dL_lanes_136 : decode cL_lanes 136 = .ok (.iload 8, 2) := by decide +kernel
theorem dL_lanes_138 : decode cL_lanes 138 = .ok (.if_icmp .ge 8, 3) := by decide +kernel
theorem dL_lanes_141 : decode cL_lanes 141 = .ok (.iload 10, 2) := by decide +kernel
theorem dL_lanes_143 : decode cL_lanes 143 = .ok (.goto 5, 3) := by decide +kernel
theorem dL_lanes_146 : decode cL_lanes 146 = .ok (.iload 8, 2) := by decide +kernel
theorem dL_lanes_148 : decode cL_lanes 148 = .ok (.istore 8, 2) := by decide +kernel
theorem dL_lanes_150 : decode cL_lanes 150 = .ok (.iload 7, 2) := by decide +kernel
theorem dL_lanes_152 : decode cL_lanes 152 = .ok (.ifCond .lt 42, 3) := by decide +kernel
theorem dL_lanes_155 : decode cL_lanes 155 = .ok (.iload 10, 2) := by decide +kernel
theorem dL_lanes_157 : decode cL_lanes 157 = .ok (.iload 8, 2) := by decide +kernel
theorem dL_lanes_159 : decode cL_lanes 159 = .ok (.if_icmp .ne 40, 3) := by decide +kernel
theorem dL_lanes_162 : decode cL_lanes 162 = .ok (.iload 10, 2) := by decide +kernel
theorem dL_lanes_164 : decode cL_lanes 164 = .ok (.sipush 1000, 3) := by decide +kernel
theorem dL_lanes_167 : decode cL_lanes 167 = .ok (.aload_n 0, 1) := by decide +kernel
theorem dL_lanes_168 : decode cL_lanes 168 = .ok (.iload 7, 2) := by decide +kernel
theorem dL_lanes_170 : decode cL_lanes 170 = .ok (.iconst 1, 1) := by decide +kernel
theorem dL_lanes_171 : decode cL_lanes 171 = .ok (.invokestatic 56, 3) := by decide +kernel
theorem dL_lanes_174 : decode cL_lanes 174 = .ok (.aload_n 0, 1) := by decide +kernel
theorem dL_lanes_175 : decode cL_lanes 175 = .ok (.iload 7, 2) := by decide +kernel
theorem dL_lanes_177 : decode cL_lanes 177 = .ok (.iconst 0, 1) := by decide +kernel
theorem dL_lanes_178 : decode cL_lanes 178 = .ok (.invokestatic 56, 3) := by decide +kernel
theorem dL_lanes_181 : decode cL_lanes 181 = .ok (.isub, 1) := by decide +kernel
theorem dL_lanes_182 : decode cL_lanes 182 = .ok (.imul, 1) := by decide +kernel
theorem dL_lanes_183 : decode cL_lanes 183 = .ok (.aload_n 0, 1) := by decide +kernel
theorem dL_lanes_184 : decode cL_lanes 184 = .ok (.iload 7, 2) := by decide +kernel
theorem dL_lanes_186 : decode cL_lanes 186 = .ok (.iconst 0, 1) := by decide +kernel
theorem dL_lanes_187 : decode cL_lanes 187 = .ok (.invokestatic 56, 3) := by decide +kernel
theorem dL_lanes_190 : decode cL_lanes 190 = .ok (.iadd, 1) := by decide +kernel
theorem dL_lanes_191 : decode cL_lanes 191 = .ok (.if_icmp .ge 8, 3) := by decide +kernel
theorem dL_lanes_194 : decode cL_lanes 194 = .ok (.iload 9, 2) := by decide +kernel
theorem dL_lanes_196 : decode cL_lanes 196 = .ok (.goto 5, 3) := by decide +kernel
theorem dL_lanes_199 : decode cL_lanes 199 = .ok (.iload 7, 2) := by decide +kernel
theorem dL_lanes_201 : decode cL_lanes 201 = .ok (.istore 7, 2) := by decide +kernel
theorem dL_lanes_203 : decode cL_lanes 203 = .ok (.iinc 9 1, 3) := by decide +kernel
theorem dL_lanes_206 : decode cL_lanes 206 = .ok (.goto (-132), 3) := by decide +kernel
theorem dL_lanes_209 : decode cL_lanes 209 = .ok (.aload_n 0, 1) := by decide +kernel
theorem dL_lanes_210 : decode cL_lanes 210 = .ok (.iload 7, 2) := by decide +kernel
theorem dL_lanes_212 : decode cL_lanes 212 = .ok (.iconst 2, 1) := by decide +kernel
theorem dL_lanes_213 : decode cL_lanes 213 = .ok (.invokestatic 56, 3) := by decide +kernel
theorem dL_lanes_216 : decode cL_lanes 216 = .ok (.istore 9, 2) := by decide +kernel
theorem dL_lanes_218 : decode cL_lanes 218 = .ok (.iconst 0, 1) := by decide +kernel
theorem dL_lanes_219 : decode cL_lanes 219 = .ok (.istore 10, 2) := by decide +kernel
theorem dL_lanes_221 : decode cL_lanes 221 = .ok (.iload 10, 2) := by decide +kernel
theorem dL_lanes_223 : decode cL_lanes 223 = .ok (.iload_n 1, 1) := by decide +kernel
theorem dL_lanes_224 : decode cL_lanes 224 = .ok (.if_icmp .ge 87, 3) := by decide +kernel
theorem dL_lanes_227 : decode cL_lanes 227 = .ok (.iload_n 3, 1) := by decide +kernel
theorem dL_lanes_228 : decode cL_lanes 228 = .ok (.iload 10, 2) := by decide +kernel
theorem dL_lanes_230 : decode cL_lanes 230 = .ok (.ishr, 1) := by decide +kernel
theorem dL_lanes_231 : decode cL_lanes 231 = .ok (.iconst 1, 1) := by decide +kernel
theorem dL_lanes_232 : decode cL_lanes 232 = .ok (.iand, 1) := by decide +kernel
theorem dL_lanes_233 : decode cL_lanes 233 = .ok (.iconst 1, 1) := by decide +kernel
theorem dL_lanes_234 : decode cL_lanes 234 = .ok (.if_icmp .ne 41, 3) := by decide +kernel
theorem dL_lanes_237 : decode cL_lanes 237 = .ok (.aload_n 0, 1) := by decide +kernel
theorem dL_lanes_238 : decode cL_lanes 238 = .ok (.iload 7, 2) := by decide +kernel
theorem dL_lanes_240 : decode cL_lanes 240 = .ok (.iconst 0, 1) := by decide +kernel
theorem dL_lanes_241 : decode cL_lanes 241 = .ok (.invokestatic 56, 3) := by decide +kernel
theorem dL_lanes_244 : decode cL_lanes 244 = .ok (.aload_n 0, 1) := by decide +kernel
theorem dL_lanes_245 : decode cL_lanes 245 = .ok (.iload 10, 2) := by decide +kernel
theorem dL_lanes_247 : decode cL_lanes 247 = .ok (.iconst 0, 1) := by decide +kernel
theorem dL_lanes_248 : decode cL_lanes 248 = .ok (.invokestatic 56, 3) := by decide +kernel
theorem dL_lanes_251 : decode cL_lanes 251 = .ok (.if_icmp .gt 24, 3) := by decide +kernel
theorem dL_lanes_254 : decode cL_lanes 254 = .ok (.aload_n 0, 1) := by decide +kernel
theorem dL_lanes_255 : decode cL_lanes 255 = .ok (.iload 7, 2) := by decide +kernel
theorem dL_lanes_257 : decode cL_lanes 257 = .ok (.iconst 1, 1) := by decide +kernel
theorem dL_lanes_258 : decode cL_lanes 258 = .ok (.invokestatic 56, 3) := by decide +kernel
theorem dL_lanes_261 : decode cL_lanes 261 = .ok (.aload_n 0, 1) := by decide +kernel
theorem dL_lanes_262 : decode cL_lanes 262 = .ok (.iload 10, 2) := by decide +kernel
theorem dL_lanes_264 : decode cL_lanes 264 = .ok (.iconst 1, 1) := by decide +kernel
theorem dL_lanes_265 : decode cL_lanes 265 = .ok (.invokestatic 56, 3) := by decide +kernel
theorem dL_lanes_268 : decode cL_lanes 268 = .ok (.if_icmp .lt 7, 3) := by decide +kernel
theorem dL_lanes_271 : decode cL_lanes 271 = .ok (.iconst 1, 1) := by decide +kernel
theorem dL_lanes_272 : decode cL_lanes 272 = .ok (.goto 4, 3) := by decide +kernel
theorem dL_lanes_275 : decode cL_lanes 275 = .ok (.iconst 0, 1) := by decide +kernel
theorem dL_lanes_276 : decode cL_lanes 276 = .ok (.istore 11, 2) := by decide +kernel
theorem dL_lanes_278 : decode cL_lanes 278 = .ok (.iload 11, 2) := by decide +kernel
theorem dL_lanes_280 : decode cL_lanes 280 = .ok (.ifCond .eq 21, 3) := by decide +kernel
theorem dL_lanes_283 : decode cL_lanes 283 = .ok (.aload_n 2, 1) := by decide +kernel
theorem dL_lanes_284 : decode cL_lanes 284 = .ok (.iload 10, 2) := by decide +kernel
theorem dL_lanes_286 : decode cL_lanes 286 = .ok (.iaload, 1) := by decide +kernel
theorem dL_lanes_287 : decode cL_lanes 287 = .ok (.iload 9, 2) := by decide +kernel
theorem dL_lanes_289 : decode cL_lanes 289 = .ok (.if_icmp .lt 12, 3) := by decide +kernel
theorem dL_lanes_292 : decode cL_lanes 292 = .ok (.aload_n 2, 1) := by decide +kernel
theorem dL_lanes_293 : decode cL_lanes 293 = .ok (.iload 10, 2) := by decide +kernel
theorem dL_lanes_295 : decode cL_lanes 295 = .ok (.iaload, 1) := by decide +kernel
theorem dL_lanes_296 : decode cL_lanes 296 = .ok (.iconst 1, 1) := by decide +kernel
theorem dL_lanes_297 : decode cL_lanes 297 = .ok (.iadd, 1) := by decide +kernel
theorem dL_lanes_298 : decode cL_lanes 298 = .ok (.goto 5, 3) := by decide +kernel
theorem dL_lanes_301 : decode cL_lanes 301 = .ok (.iload 9, 2) := by decide +kernel
theorem dL_lanes_303 : decode cL_lanes 303 = .ok (.istore 9, 2) := by decide +kernel
theorem dL_lanes_305 : decode cL_lanes 305 = .ok (.iinc 10 1, 3) := by decide +kernel
theorem dL_lanes_308 : decode cL_lanes 308 = .ok (.goto (-87), 3) := by decide +kernel
theorem dL_lanes_311 : decode cL_lanes 311 = .ok (.aload_n 0, 1) := by decide +kernel
theorem dL_lanes_312 : decode cL_lanes 312 = .ok (.iload 7, 2) := by decide +kernel
theorem dL_lanes_314 : decode cL_lanes 314 = .ok (.iload 9, 2) := by decide +kernel
theorem dL_lanes_316 : decode cL_lanes 316 = .ok (.iload_n 3, 1) := by decide +kernel
theorem dL_lanes_317 : decode cL_lanes 317 = .ok (.aload_n 2, 1) := by decide +kernel
theorem dL_lanes_318 : decode cL_lanes 318 = .ok (.invokestatic 59, 3) := by decide +kernel
theorem dL_lanes_321 : decode cL_lanes 321 = .ok (.ifCond .eq 9, 3) := by decide +kernel
theorem dL_lanes_324 : decode cL_lanes 324 = .ok (.iinc 9 1, 3) := by decide +kernel
theorem dL_lanes_327 : decode cL_lanes 327 = .ok (.goto (-16), 3) := by decide +kernel
theorem dL_lanes_330 : decode cL_lanes 330 = .ok (.aload_n 2, 1) := by decide +kernel
theorem dL_lanes_331 : decode cL_lanes 331 = .ok (.iload 7, 2) := by decide +kernel
theorem dL_lanes_333 : decode cL_lanes 333 = .ok (.iload 9, 2) := by decide +kernel
theorem dL_lanes_335 : decode cL_lanes 335 = .ok (.iastore, 1) := by decide +kernel
theorem dL_lanes_336 : decode cL_lanes 336 = .ok (.iload_n 3, 1) := by decide +kernel
theorem dL_lanes_337 : decode cL_lanes 337 = .ok (.iconst 1, 1) := by decide +kernel
theorem dL_lanes_338 : decode cL_lanes 338 = .ok (.iload 7, 2) := by decide +kernel
theorem dL_lanes_340 : decode cL_lanes 340 = .ok (.ishl, 1) := by decide +kernel
theorem dL_lanes_341 : decode cL_lanes 341 = .ok (.ior, 1) := by decide +kernel
theorem dL_lanes_342 : decode cL_lanes 342 = .ok (.istore_n 3, 1) := by decide +kernel
theorem dL_lanes_343 : decode cL_lanes 343 = .ok (.iload 9, 2) := by decide +kernel
theorem dL_lanes_345 : decode cL_lanes 345 = .ok (.iconst 1, 1) := by decide +kernel
theorem dL_lanes_346 : decode cL_lanes 346 = .ok (.iadd, 1) := by decide +kernel
theorem dL_lanes_347 : decode cL_lanes 347 = .ok (.iload 5, 2) := by decide +kernel
theorem dL_lanes_349 : decode cL_lanes 349 = .ok (.if_icmp .le 10, 3) := by decide +kernel
theorem dL_lanes_352 : decode cL_lanes 352 = .ok (.iload 9, 2) := by decide +kernel
theorem dL_lanes_354 : decode cL_lanes 354 = .ok (.iconst 1, 1) := by decide +kernel
theorem dL_lanes_355 : decode cL_lanes 355 = .ok (.iadd, 1) := by decide +kernel
theorem dL_lanes_356 : decode cL_lanes 356 = .ok (.goto 5, 3) := by decide +kernel
theorem dL_lanes_359 : decode cL_lanes 359 = .ok (.iload 5, 2) := by decide +kernel
theorem dL_lanes_361 : decode cL_lanes 361 = .ok (.istore 5, 2) := by decide +kernel
theorem dL_lanes_363 : decode cL_lanes 363 = .ok (.iinc 6 1, 3) := by decide +kernel
theorem dL_lanes_366 : decode cL_lanes 366 = .ok (.goto (-308), 3) := by decide +kernel
theorem dL_lanes_369 : decode cL_lanes 369 = .ok (.iconst 0, 1) := by decide +kernel
theorem dL_lanes_370 : decode cL_lanes 370 = .ok (.istore 6, 2) := by decide +kernel
theorem dL_lanes_372 : decode cL_lanes 372 = .ok (.iload 6, 2) := by decide +kernel
theorem dL_lanes_374 : decode cL_lanes 374 = .ok (.iload_n 1, 1) := by decide +kernel
theorem dL_lanes_375 : decode cL_lanes 375 = .ok (.if_icmp .ge 30, 3) := by decide +kernel
theorem dL_lanes_378 : decode cL_lanes 378 = .ok (.aload_n 0, 1) := by decide +kernel
theorem dL_lanes_379 : decode cL_lanes 379 = .ok (.iload 6, 2) := by decide +kernel
theorem dL_lanes_381 : decode cL_lanes 381 = .ok (.bipush 10, 2) := by decide +kernel
theorem dL_lanes_383 : decode cL_lanes 383 = .ok (.invokevirtual 45, 3) := by decide +kernel
theorem dL_lanes_386 : decode cL_lanes 386 = .ok (.aload_n 2, 1) := by decide +kernel
theorem dL_lanes_387 : decode cL_lanes 387 = .ok (.aload_n 0, 1) := by decide +kernel
theorem dL_lanes_388 : decode cL_lanes 388 = .ok (.iload 6, 2) := by decide +kernel
theorem dL_lanes_390 : decode cL_lanes 390 = .ok (.invokestatic 52, 3) := by decide +kernel
theorem dL_lanes_393 : decode cL_lanes 393 = .ok (.iaload, 1) := by decide +kernel
theorem dL_lanes_394 : decode cL_lanes 394 = .ok (.if_icmp .eq 5, 3) := by decide +kernel
theorem dL_lanes_397 : decode cL_lanes 397 = .ok (.iconst 0, 1) := by decide +kernel
theorem dL_lanes_398 : decode cL_lanes 398 = .ok (.ireturn, 1) := by decide +kernel
theorem dL_lanes_399 : decode cL_lanes 399 = .ok (.iinc 6 1, 3) := by decide +kernel
theorem dL_lanes_402 : decode cL_lanes 402 = .ok (.goto (-30), 3) := by decide +kernel
theorem dL_lanes_405 : decode cL_lanes 405 = .ok (.aload_n 0, 1) := by decide +kernel
theorem dL_lanes_406 : decode cL_lanes 406 = .ok (.iconst 2, 1) := by decide +kernel
theorem dL_lanes_407 : decode cL_lanes 407 = .ok (.invokevirtual 42, 3) := by decide +kernel
theorem dL_lanes_410 : decode cL_lanes 410 = .ok (.iload 4, 2) := by decide +kernel
theorem dL_lanes_412 : decode cL_lanes 412 = .ok (.if_icmp .ne 17, 3) := by decide +kernel
theorem dL_lanes_415 : decode cL_lanes 415 = .ok (.aload_n 0, 1) := by decide +kernel
theorem dL_lanes_416 : decode cL_lanes 416 = .ok (.iconst 3, 1) := by decide +kernel
theorem dL_lanes_417 : decode cL_lanes 417 = .ok (.invokevirtual 42, 3) := by decide +kernel
theorem dL_lanes_420 : decode cL_lanes 420 = .ok (.iload 5, 2) := by decide +kernel
theorem dL_lanes_422 : decode cL_lanes 422 = .ok (.if_icmp .ne 7, 3) := by decide +kernel
theorem dL_lanes_425 : decode cL_lanes 425 = .ok (.iconst 1, 1) := by decide +kernel
theorem dL_lanes_426 : decode cL_lanes 426 = .ok (.goto 4, 3) := by decide +kernel
theorem dL_lanes_429 : decode cL_lanes 429 = .ok (.iconst 0, 1) := by decide +kernel
theorem dL_lanes_430 : decode cL_lanes 430 = .ok (.ireturn, 1) := by decide +kernel
theorem dL_isTaken_0 : decode cL_isTaken 0 = .ok (.iconst 0, 1) := by decide +kernel
theorem dL_isTaken_1 : decode cL_isTaken 1 = .ok (.istore 5, 2) := by decide +kernel
theorem dL_isTaken_3 : decode cL_isTaken 3 = .ok (.iconst 0, 1) := by decide +kernel
theorem dL_isTaken_4 : decode cL_isTaken 4 = .ok (.istore 6, 2) := by decide +kernel
theorem dL_isTaken_6 : decode cL_isTaken 6 = .ok (.iload 6, 2) := by decide +kernel
theorem dL_isTaken_8 : decode cL_isTaken 8 = .ok (.aload_n 0, 1) := by decide +kernel
theorem dL_isTaken_9 : decode cL_isTaken 9 = .ok (.iconst 1, 1) := by decide +kernel
theorem dL_isTaken_10 : decode cL_isTaken 10 = .ok (.invokevirtual 42, 3) := by decide +kernel
theorem dL_isTaken_13 : decode cL_isTaken 13 = .ok (.if_icmp .ge 127, 3) := by decide +kernel
theorem dL_isTaken_16 : decode cL_isTaken 16 = .ok (.iconst 0, 1) := by decide +kernel
theorem dL_isTaken_17 : decode cL_isTaken 17 = .ok (.istore 7, 2) := by decide +kernel
theorem dL_isTaken_19 : decode cL_isTaken 19 = .ok (.iload 7, 2) := by decide +kernel
theorem dL_isTaken_21 : decode cL_isTaken 21 = .ok (.aload_n 0, 1) := by decide +kernel
theorem dL_isTaken_22 : decode cL_isTaken 22 = .ok (.iconst 1, 1) := by decide +kernel
theorem dL_isTaken_23 : decode cL_isTaken 23 = .ok (.invokevirtual 42, 3) := by decide +kernel
theorem dL_isTaken_26 : decode cL_isTaken 26 = .ok (.if_icmp .ge 108, 3) := by decide +kernel
theorem dL_isTaken_29 : decode cL_isTaken 29 = .ok (.aload_n 0, 1) := by decide +kernel
theorem dL_isTaken_30 : decode cL_isTaken 30 = .ok (.iload 7, 2) := by decide +kernel
theorem dL_isTaken_32 : decode cL_isTaken 32 = .ok (.invokestatic 52, 3) := by decide +kernel
theorem dL_isTaken_35 : decode cL_isTaken 35 = .ok (.istore 8, 2) := by decide +kernel
theorem dL_isTaken_37 : decode cL_isTaken 37 = .ok (.aload_n 0, 1) := by decide +kernel
theorem dL_isTaken_38 : decode cL_isTaken 38 = .ok (.iload 6, 2) := by decide +kernel
theorem dL_isTaken_40 : decode cL_isTaken 40 = .ok (.invokestatic 52, 3) := by decide +kernel
theorem dL_isTaken_43 : decode cL_isTaken 43 = .ok (.iload_n 1, 1) := by decide +kernel
theorem dL_isTaken_44 : decode cL_isTaken 44 = .ok (.if_icmp .ne 26, 3) := by decide +kernel
theorem dL_isTaken_47 : decode cL_isTaken 47 = .ok (.iload_n 3, 1) := by decide +kernel
theorem dL_isTaken_48 : decode cL_isTaken 48 = .ok (.iload 8, 2) := by decide +kernel
theorem dL_isTaken_50 : decode cL_isTaken 50 = .ok (.ishr, 1) := by decide +kernel
theorem dL_isTaken_51 : decode cL_isTaken 51 = .ok (.iconst 1, 1) := by decide +kernel
theorem dL_isTaken_52 : decode cL_isTaken 52 = .ok (.iand, 1) := by decide +kernel
theorem dL_isTaken_53 : decode cL_isTaken 53 = .ok (.iconst 1, 1) := by decide +kernel
theorem dL_isTaken_54 : decode cL_isTaken 54 = .ok (.if_icmp .ne 16, 3) := by decide +kernel
theorem dL_isTaken_57 : decode cL_isTaken 57 = .ok (.aload 4, 2) := by decide +kernel
theorem dL_isTaken_59 : decode cL_isTaken 59 = .ok (.iload 8, 2) := by decide +kernel
theorem dL_isTaken_61 : decode cL_isTaken 61 = .ok (.iaload, 1) := by decide +kernel
theorem dL_isTaken_62 : decode cL_isTaken 62 = .ok (.iload_n 2, 1) := by decide +kernel
theorem dL_isTaken_63 : decode cL_isTaken 63 = .ok (.if_icmp .ne 7, 3) := by decide +kernel
theorem dL_isTaken_66 : decode cL_isTaken 66 = .ok (.iconst 1, 1) := by decide +kernel
theorem dL_isTaken_67 : decode cL_isTaken 67 = .ok (.goto 4, 3) := by decide +kernel
theorem dL_isTaken_70 : decode cL_isTaken 70 = .ok (.iconst 0, 1) := by decide +kernel
theorem dL_isTaken_71 : decode cL_isTaken 71 = .ok (.istore 9, 2) := by decide +kernel
theorem dL_isTaken_73 : decode cL_isTaken 73 = .ok (.iload 5, 2) := by decide +kernel
theorem dL_isTaken_75 : decode cL_isTaken 75 = .ok (.ifCond .ne 46, 3) := by decide +kernel
theorem dL_isTaken_78 : decode cL_isTaken 78 = .ok (.iload 9, 2) := by decide +kernel
theorem dL_isTaken_80 : decode cL_isTaken 80 = .ok (.ifCond .eq 45, 3) := by decide +kernel
theorem dL_isTaken_83 : decode cL_isTaken 83 = .ok (.aload_n 0, 1) := by decide +kernel
theorem dL_isTaken_84 : decode cL_isTaken 84 = .ok (.iload 6, 2) := by decide +kernel
theorem dL_isTaken_86 : decode cL_isTaken 86 = .ok (.bipush 8, 2) := by decide +kernel
theorem dL_isTaken_88 : decode cL_isTaken 88 = .ok (.invokevirtual 45, 3) := by decide +kernel
theorem dL_isTaken_91 : decode cL_isTaken 91 = .ok (.aload_n 0, 1) := by decide +kernel
theorem dL_isTaken_92 : decode cL_isTaken 92 = .ok (.iload 7, 2) := by decide +kernel
theorem dL_isTaken_94 : decode cL_isTaken 94 = .ok (.bipush 9, 2) := by decide +kernel
theorem dL_isTaken_96 : decode cL_isTaken 96 = .ok (.invokevirtual 45, 3) := by decide +kernel
theorem dL_isTaken_99 : decode cL_isTaken 99 = .ok (.if_icmp .gt 26, 3) := by decide +kernel
theorem dL_isTaken_102 : decode cL_isTaken 102 = .ok (.aload_n 0, 1) := by decide +kernel
theorem dL_isTaken_103 : decode cL_isTaken 103 = .ok (.iload 7, 2) := by decide +kernel
theorem dL_isTaken_105 : decode cL_isTaken 105 = .ok (.bipush 8, 2) := by decide +kernel
theorem dL_isTaken_107 : decode cL_isTaken 107 = .ok (.invokevirtual 45, 3) := by decide +kernel
theorem dL_isTaken_110 : decode cL_isTaken 110 = .ok (.aload_n 0, 1) := by decide +kernel
theorem dL_isTaken_111 : decode cL_isTaken 111 = .ok (.iload 6, 2) := by decide +kernel
theorem dL_isTaken_113 : decode cL_isTaken 113 = .ok (.bipush 9, 2) := by decide +kernel
theorem dL_isTaken_115 : decode cL_isTaken 115 = .ok (.invokevirtual 45, 3) := by decide +kernel
theorem dL_isTaken_118 : decode cL_isTaken 118 = .ok (.if_icmp .gt 7, 3) := by decide +kernel
theorem dL_isTaken_121 : decode cL_isTaken 121 = .ok (.iconst 1, 1) := by decide +kernel
theorem dL_isTaken_122 : decode cL_isTaken 122 = .ok (.goto 4, 3) := by decide +kernel
theorem dL_isTaken_125 : decode cL_isTaken 125 = .ok (.iconst 0, 1) := by decide +kernel
theorem dL_isTaken_126 : decode cL_isTaken 126 = .ok (.istore 5, 2) := by decide +kernel
theorem dL_isTaken_128 : decode cL_isTaken 128 = .ok (.iinc 7 1, 3) := by decide +kernel
theorem dL_isTaken_131 : decode cL_isTaken 131 = .ok (.goto (-112), 3) := by decide +kernel
theorem dL_isTaken_134 : decode cL_isTaken 134 = .ok (.iinc 6 1, 3) := by decide +kernel
theorem dL_isTaken_137 : decode cL_isTaken 137 = .ok (.goto (-131), 3) := by decide +kernel
theorem dL_isTaken_140 : decode cL_isTaken 140 = .ok (.iload 5, 2) := by decide +kernel
theorem dL_isTaken_142 : decode cL_isTaken 142 = .ok (.ireturn, 1) := by decide +kernel
theorem dL_witnesses_0 : decode cL_witnesses 0 = .ok (.iconst 0, 1) := by decide +kernel
theorem dL_witnesses_1 : decode cL_witnesses 1 = .ok (.istore_n 1, 1) := by decide +kernel
theorem dL_witnesses_2 : decode cL_witnesses 2 = .ok (.bipush 16, 2) := by decide +kernel
theorem dL_witnesses_4 : decode cL_witnesses 4 = .ok (.newarray .int, 2) := by decide +kernel
theorem dL_witnesses_6 : decode cL_witnesses 6 = .ok (.astore_n 2, 1) := by decide +kernel
theorem dL_witnesses_7 : decode cL_witnesses 7 = .ok (.iconst 0, 1) := by decide +kernel
theorem dL_witnesses_8 : decode cL_witnesses 8 = .ok (.istore_n 3, 1) := by decide +kernel
theorem dL_witnesses_9 : decode cL_witnesses 9 = .ok (.iload_n 3, 1) := by decide +kernel
theorem dL_witnesses_10 : decode cL_witnesses 10 = .ok (.aload_n 0, 1) := by decide +kernel
theorem dL_witnesses_11 : decode cL_witnesses 11 = .ok (.iconst 0, 1) := by decide +kernel
theorem dL_witnesses_12 : decode cL_witnesses 12 = .ok (.invokevirtual 42, 3) := by decide +kernel
theorem dL_witnesses_15 : decode cL_witnesses 15 = .ok (.if_icmp .ge 249, 3) := by decide +kernel
theorem dL_witnesses_18 : decode cL_witnesses 18 = .ok (.iconst 0, 1) := by decide +kernel
theorem dL_witnesses_19 : decode cL_witnesses 19 = .ok (.istore 4, 2) := by decide +kernel
theorem dL_witnesses_21 : decode cL_witnesses 21 = .ok (.sipush (-999), 3) := by decide +kernel
theorem dL_witnesses_24 : decode cL_witnesses 24 = .ok (.istore 5, 2) := by decide +kernel
theorem dL_witnesses_26 : decode cL_witnesses 26 = .ok (.iconst 0, 1) := by decide +kernel
theorem dL_witnesses_27 : decode cL_witnesses 27 = .ok (.istore 6, 2) := by decide +kernel
theorem dL_witnesses_29 : decode cL_witnesses 29 = .ok (.iload 6, 2) := by decide +kernel
theorem dL_witnesses_31 : decode cL_witnesses 31 = .ok (.aload_n 0, 1) := by decide +kernel
theorem dL_witnesses_32 : decode cL_witnesses 32 = .ok (.iconst 1, 1) := by decide +kernel
theorem dL_witnesses_33 : decode cL_witnesses 33 = .ok (.invokevirtual 42, 3) := by decide +kernel
theorem dL_witnesses_36 : decode cL_witnesses 36 = .ok (.if_icmp .ge 86, 3) := by decide +kernel
theorem dL_witnesses_39 : decode cL_witnesses 39 = .ok (.aload_n 0, 1) := by decide +kernel
theorem dL_witnesses_40 : decode cL_witnesses 40 = .ok (.iload 6, 2) := by decide +kernel
theorem dL_witnesses_42 : decode cL_witnesses 42 = .ok (.iconst 0, 1) := by decide +kernel
theorem dL_witnesses_43 : decode cL_witnesses 43 = .ok (.invokevirtual 45, 3) := by decide +kernel
theorem dL_witnesses_46 : decode cL_witnesses 46 = .ok (.iload_n 3, 1) := by decide +kernel
theorem dL_witnesses_47 : decode cL_witnesses 47 = .ok (.if_icmp .eq 14, 3) := by decide +kernel
theorem dL_witnesses_50 : decode cL_witnesses 50 = .ok (.aload_n 0, 1) := by decide +kernel
theorem dL_witnesses_51 : decode cL_witnesses 51 = .ok (.iload 6, 2) := by decide +kernel
theorem dL_witnesses_53 : decode cL_witnesses 53 = .ok (.iconst 1, 1) := by decide +kernel
theorem dL_witnesses_54 : decode cL_witnesses 54 = .ok (.invokevirtual 45, 3) := by decide +kernel
theorem dL_witnesses_57 : decode cL_witnesses 57 = .ok (.iload_n 3, 1) := by decide +kernel
theorem dL_witnesses_58 : decode cL_witnesses 58 = .ok (.if_icmp .ne 7, 3) := by decide +kernel
theorem dL_witnesses_61 : decode cL_witnesses 61 = .ok (.iconst 1, 1) := by decide +kernel
theorem dL_witnesses_62 : decode cL_witnesses 62 = .ok (.goto 4, 3) := by decide +kernel
theorem dL_witnesses_65 : decode cL_witnesses 65 = .ok (.iconst 0, 1) := by decide +kernel
theorem dL_witnesses_66 : decode cL_witnesses 66 = .ok (.istore 7, 2) := by decide +kernel
theorem dL_witnesses_68 : decode cL_witnesses 68 = .ok (.iload 4, 2) := by decide +kernel
theorem dL_witnesses_70 : decode cL_witnesses 70 = .ok (.iload 7, 2) := by decide +kernel
theorem dL_witnesses_72 : decode cL_witnesses 72 = .ok (.ifCond .eq 7, 3) := by decide +kernel
theorem dL_witnesses_75 : decode cL_witnesses 75 = .ok (.iconst 1, 1) := by decide +kernel
theorem dL_witnesses_76 : decode cL_witnesses 76 = .ok (.goto 4, 3) := by decide +kernel
theorem dL_witnesses_79 : decode cL_witnesses 79 = .ok (.iconst 0, 1) := by decide +kernel
theorem dL_witnesses_80 : decode cL_witnesses 80 = .ok (.iadd, 1) := by decide +kernel
theorem dL_witnesses_81 : decode cL_witnesses 81 = .ok (.istore 4, 2) := by decide +kernel
theorem dL_witnesses_83 : decode cL_witnesses 83 = .ok (.iload 7, 2) := by decide +kernel
theorem dL_witnesses_85 : decode cL_witnesses 85 = .ok (.ifCond .eq 27, 3) := by decide +kernel
theorem dL_witnesses_88 : decode cL_witnesses 88 = .ok (.aload_n 0, 1) := by decide +kernel
theorem dL_witnesses_89 : decode cL_witnesses 89 = .ok (.iload 6, 2) := by decide +kernel
theorem dL_witnesses_91 : decode cL_witnesses 91 = .ok (.bipush 10, 2) := by decide +kernel
theorem dL_witnesses_93 : decode cL_witnesses 93 = .ok (.invokevirtual 45, 3) := by decide +kernel
theorem dL_witnesses_96 : decode cL_witnesses 96 = .ok (.iload 5, 2) := by decide +kernel
theorem dL_witnesses_98 : decode cL_witnesses 98 = .ok (.if_icmp .le 14, 3) := by decide +kernel
theorem dL_witnesses_101 : decode cL_witnesses 101 = .ok (.aload_n 0, 1) := by decide +kernel
theorem dL_witnesses_102 : decode cL_witnesses 102 = .ok (.iload 6, 2) := by decide +kernel
theorem dL_witnesses_104 : decode cL_witnesses 104 = .ok (.bipush 10, 2) := by decide +kernel
theorem dL_witnesses_106 : decode cL_witnesses 106 = .ok (.invokevirtual 45, 3) := by decide +kernel
theorem dL_witnesses_109 : decode cL_witnesses 109 = .ok (.goto 5, 3) := by decide +kernel
theorem dL_witnesses_112 : decode cL_witnesses 112 = .ok (.iload 5, 2) := by decide +kernel
theorem dL_witnesses_114 : decode cL_witnesses 114 = .ok (.istore 5, 2) := by decide +kernel
theorem dL_witnesses_116 : decode cL_witnesses 116 = .ok (.iinc 6 1, 3) := by decide +kernel
theorem dL_witnesses_119 : decode cL_witnesses 119 = .ok (.goto (-90), 3) := by decide +kernel
theorem dL_witnesses_122 : decode cL_witnesses 122 = .ok (.iconst 0, 1) := by decide +kernel
theorem dL_witnesses_123 : decode cL_witnesses 123 = .ok (.istore 6, 2) := by decide +kernel
theorem dL_witnesses_125 : decode cL_witnesses 125 = .ok (.iconst 0, 1) := by decide +kernel
theorem dL_witnesses_126 : decode cL_witnesses 126 = .ok (.istore 7, 2) := by decide +kernel
theorem dL_witnesses_128 : decode cL_witnesses 128 = .ok (.iload 7, 2) := by decide +kernel
theorem dL_witnesses_130 : decode cL_witnesses 130 = .ok (.aload_n 0, 1) := by decide +kernel
theorem dL_witnesses_131 : decode cL_witnesses 131 = .ok (.iconst 1, 1) := by decide +kernel
theorem dL_witnesses_132 : decode cL_witnesses 132 = .ok (.invokevirtual 42, 3) := by decide +kernel
theorem dL_witnesses_135 : decode cL_witnesses 135 = .ok (.if_icmp .ge 83, 3) := by decide +kernel
theorem dL_witnesses_138 : decode cL_witnesses 138 = .ok (.aload_n 0, 1) := by decide +kernel
theorem dL_witnesses_139 : decode cL_witnesses 139 = .ok (.iload 7, 2) := by decide +kernel
theorem dL_witnesses_141 : decode cL_witnesses 141 = .ok (.bipush 10, 2) := by decide +kernel
theorem dL_witnesses_143 : decode cL_witnesses 143 = .ok (.invokevirtual 45, 3) := by decide +kernel
theorem dL_witnesses_146 : decode cL_witnesses 146 = .ok (.iload 5, 2) := by decide +kernel
theorem dL_witnesses_148 : decode cL_witnesses 148 = .ok (.if_icmp .ge 29, 3) := by decide +kernel
theorem dL_witnesses_151 : decode cL_witnesses 151 = .ok (.aload_n 0, 1) := by decide +kernel
theorem dL_witnesses_152 : decode cL_witnesses 152 = .ok (.iload 7, 2) := by decide +kernel
theorem dL_witnesses_154 : decode cL_witnesses 154 = .ok (.iconst 0, 1) := by decide +kernel
theorem dL_witnesses_155 : decode cL_witnesses 155 = .ok (.invokevirtual 45, 3) := by decide +kernel
theorem dL_witnesses_158 : decode cL_witnesses 158 = .ok (.iload_n 3, 1) := by decide +kernel
theorem dL_witnesses_159 : decode cL_witnesses 159 = .ok (.if_icmp .ge 18, 3) := by decide +kernel
theorem dL_witnesses_162 : decode cL_witnesses 162 = .ok (.aload_n 0, 1) := by decide +kernel
theorem dL_witnesses_163 : decode cL_witnesses 163 = .ok (.iload 7, 2) := by decide +kernel
theorem dL_witnesses_165 : decode cL_witnesses 165 = .ok (.iconst 1, 1) := by decide +kernel
theorem dL_witnesses_166 : decode cL_witnesses 166 = .ok (.invokevirtual 45, 3) := by decide +kernel
theorem dL_witnesses_169 : decode cL_witnesses 169 = .ok (.iload_n 3, 1) := by decide +kernel
theorem dL_witnesses_170 : decode cL_witnesses 170 = .ok (.if_icmp .le 7, 3) := by decide +kernel
theorem dL_witnesses_173 : decode cL_witnesses 173 = .ok (.iconst 1, 1) := by decide +kernel
theorem dL_witnesses_174 : decode cL_witnesses 174 = .ok (.goto 4, 3) := by decide +kernel
theorem dL_witnesses_177 : decode cL_witnesses 177 = .ok (.iconst 0, 1) := by decide +kernel
theorem dL_witnesses_178 : decode cL_witnesses 178 = .ok (.istore 8, 2) := by decide +kernel
theorem dL_witnesses_180 : decode cL_witnesses 180 = .ok (.iload 6, 2) := by decide +kernel
theorem dL_witnesses_182 : decode cL_witnesses 182 = .ok (.iload 8, 2) := by decide +kernel
theorem dL_witnesses_184 : decode cL_witnesses 184 = .ok (.ifCond .eq 7, 3) := by decide +kernel
theorem dL_witnesses_187 : decode cL_witnesses 187 = .ok (.iconst 1, 1) := by decide +kernel
theorem dL_witnesses_188 : decode cL_witnesses 188 = .ok (.goto 4, 3) := by decide +kernel
theorem dL_witnesses_191 : decode cL_witnesses 191 = .ok (.iconst 0, 1) := by decide +kernel
theorem dL_witnesses_192 : decode cL_witnesses 192 = .ok (.iadd, 1) := by decide +kernel
theorem dL_witnesses_193 : decode cL_witnesses 193 = .ok (.istore 6, 2) := by decide +kernel
theorem dL_witnesses_195 : decode cL_witnesses 195 = .ok (.aload_n 2, 1) := by decide +kernel
theorem dL_witnesses_196 : decode cL_witnesses 196 = .ok (.iload 7, 2) := by decide +kernel
theorem dL_witnesses_198 : decode cL_witnesses 198 = .ok (.dup2, 1) := by decide +kernel
theorem dL_witnesses_199 : decode cL_witnesses 199 = .ok (.iaload, 1) := by decide +kernel
theorem dL_witnesses_200 : decode cL_witnesses 200 = .ok (.iload 8, 2) := by decide +kernel
theorem dL_witnesses_202 : decode cL_witnesses 202 = .ok (.ifCond .eq 7, 3) := by decide +kernel
theorem dL_witnesses_205 : decode cL_witnesses 205 = .ok (.iconst 1, 1) := by decide +kernel
theorem dL_witnesses_206 : decode cL_witnesses 206 = .ok (.goto 4, 3) := by decide +kernel
theorem dL_witnesses_209 : decode cL_witnesses 209 = .ok (.iconst 0, 1) := by decide +kernel
theorem dL_witnesses_210 : decode cL_witnesses 210 = .ok (.iadd, 1) := by decide +kernel
theorem dL_witnesses_211 : decode cL_witnesses 211 = .ok (.iastore, 1) := by decide +kernel
theorem dL_witnesses_212 : decode cL_witnesses 212 = .ok (.iinc 7 1, 3) := by decide +kernel
theorem dL_witnesses_215 : decode cL_witnesses 215 = .ok (.goto (-87), 3) := by decide +kernel
theorem dL_witnesses_218 : decode cL_witnesses 218 = .ok (.iload_n 1, 1) := by decide +kernel
theorem dL_witnesses_219 : decode cL_witnesses 219 = .ok (.iload 6, 2) := by decide +kernel
theorem dL_witnesses_221 : decode cL_witnesses 221 = .ok (.iadd, 1) := by decide +kernel
theorem dL_witnesses_222 : decode cL_witnesses 222 = .ok (.istore_n 1, 1) := by decide +kernel
theorem dL_witnesses_223 : decode cL_witnesses 223 = .ok (.aload_n 0, 1) := by decide +kernel
theorem dL_witnesses_224 : decode cL_witnesses 224 = .ok (.iload_n 3, 1) := by decide +kernel
theorem dL_witnesses_225 : decode cL_witnesses 225 = .ok (.iconst 1, 1) := by decide +kernel
theorem dL_witnesses_226 : decode cL_witnesses 226 = .ok (.invokevirtual 20, 3) := by decide +kernel
theorem dL_witnesses_229 : decode cL_witnesses 229 = .ok (.iload 4, 2) := by decide +kernel
theorem dL_witnesses_231 : decode cL_witnesses 231 = .ok (.if_icmp .ne 25, 3) := by decide +kernel
theorem dL_witnesses_234 : decode cL_witnesses 234 = .ok (.aload_n 0, 1) := by decide +kernel
theorem dL_witnesses_235 : decode cL_witnesses 235 = .ok (.iload_n 3, 1) := by decide +kernel
theorem dL_witnesses_236 : decode cL_witnesses 236 = .ok (.iconst 2, 1) := by decide +kernel
theorem dL_witnesses_237 : decode cL_witnesses 237 = .ok (.invokevirtual 20, 3) := by decide +kernel
theorem dL_witnesses_240 : decode cL_witnesses 240 = .ok (.iload 5, 2) := by decide +kernel
theorem dL_witnesses_242 : decode cL_witnesses 242 = .ok (.if_icmp .ne 14, 3) := by decide +kernel
theorem dL_witnesses_245 : decode cL_witnesses 245 = .ok (.aload_n 0, 1) := by decide +kernel
theorem dL_witnesses_246 : decode cL_witnesses 246 = .ok (.iload_n 3, 1) := by decide +kernel
theorem dL_witnesses_247 : decode cL_witnesses 247 = .ok (.iconst 3, 1) := by decide +kernel
theorem dL_witnesses_248 : decode cL_witnesses 248 = .ok (.invokevirtual 20, 3) := by decide +kernel
theorem dL_witnesses_251 : decode cL_witnesses 251 = .ok (.iload 6, 2) := by decide +kernel
theorem dL_witnesses_253 : decode cL_witnesses 253 = .ok (.if_icmp .eq 5, 3) := by decide +kernel
theorem dL_witnesses_256 : decode cL_witnesses 256 = .ok (.iconst 0, 1) := by decide +kernel
theorem dL_witnesses_257 : decode cL_witnesses 257 = .ok (.ireturn, 1) := by decide +kernel
theorem dL_witnesses_258 : decode cL_witnesses 258 = .ok (.iinc 3 1, 3) := by decide +kernel
theorem dL_witnesses_261 : decode cL_witnesses 261 = .ok (.goto (-252), 3) := by decide +kernel
theorem dL_witnesses_264 : decode cL_witnesses 264 = .ok (.iconst 0, 1) := by decide +kernel
theorem dL_witnesses_265 : decode cL_witnesses 265 = .ok (.istore_n 3, 1) := by decide +kernel
theorem dL_witnesses_266 : decode cL_witnesses 266 = .ok (.iload_n 3, 1) := by decide +kernel
theorem dL_witnesses_267 : decode cL_witnesses 267 = .ok (.aload_n 0, 1) := by decide +kernel
theorem dL_witnesses_268 : decode cL_witnesses 268 = .ok (.iconst 1, 1) := by decide +kernel
theorem dL_witnesses_269 : decode cL_witnesses 269 = .ok (.invokevirtual 42, 3) := by decide +kernel
theorem dL_witnesses_272 : decode cL_witnesses 272 = .ok (.if_icmp .ge 24, 3) := by decide +kernel
theorem dL_witnesses_275 : decode cL_witnesses 275 = .ok (.aload_n 0, 1) := by decide +kernel
theorem dL_witnesses_276 : decode cL_witnesses 276 = .ok (.iload_n 3, 1) := by decide +kernel
theorem dL_witnesses_277 : decode cL_witnesses 277 = .ok (.bipush 12, 2) := by decide +kernel
theorem dL_witnesses_279 : decode cL_witnesses 279 = .ok (.invokevirtual 45, 3) := by decide +kernel
theorem dL_witnesses_282 : decode cL_witnesses 282 = .ok (.aload_n 2, 1) := by decide +kernel
theorem dL_witnesses_283 : decode cL_witnesses 283 = .ok (.iload_n 3, 1) := by decide +kernel
theorem dL_witnesses_284 : decode cL_witnesses 284 = .ok (.iaload, 1) := by decide +kernel
theorem dL_witnesses_285 : decode cL_witnesses 285 = .ok (.if_icmp .eq 5, 3) := by decide +kernel
theorem dL_witnesses_288 : decode cL_witnesses 288 = .ok (.iconst 0, 1) := by decide +kernel
theorem dL_witnesses_289 : decode cL_witnesses 289 = .ok (.ireturn, 1) := by decide +kernel
theorem dL_witnesses_290 : decode cL_witnesses 290 = .ok (.iinc 3 1, 3) := by decide +kernel
theorem dL_witnesses_293 : decode cL_witnesses 293 = .ok (.goto (-27), 3) := by decide +kernel
theorem dL_witnesses_296 : decode cL_witnesses 296 = .ok (.aload_n 0, 1) := by decide +kernel
theorem dL_witnesses_297 : decode cL_witnesses 297 = .ok (.iconst 4, 1) := by decide +kernel
theorem dL_witnesses_298 : decode cL_witnesses 298 = .ok (.invokevirtual 42, 3) := by decide +kernel
theorem dL_witnesses_301 : decode cL_witnesses 301 = .ok (.iload_n 1, 1) := by decide +kernel
theorem dL_witnesses_302 : decode cL_witnesses 302 = .ok (.if_icmp .ne 7, 3) := by decide +kernel
theorem dL_witnesses_305 : decode cL_witnesses 305 = .ok (.iconst 1, 1) := by decide +kernel
theorem dL_witnesses_306 : decode cL_witnesses 306 = .ok (.goto 4, 3) := by decide +kernel
theorem dL_witnesses_309 : decode cL_witnesses 309 = .ok (.iconst 0, 1) := by decide +kernel
theorem dL_witnesses_310 : decode cL_witnesses 310 = .ok (.ireturn, 1) := by decide +kernel
theorem dL_reach_0 : decode cL_reach 0 = .ok (.iconst 0, 1) := by decide +kernel
theorem dL_reach_1 : decode cL_reach 1 = .ok (.istore 5, 2) := by decide +kernel
theorem dL_reach_3 : decode cL_reach 3 = .ok (.iload 5, 2) := by decide +kernel
theorem dL_reach_5 : decode cL_reach 5 = .ok (.bipush 12, 2) := by decide +kernel
theorem dL_reach_7 : decode cL_reach 7 = .ok (.if_icmp .ge 26, 3) := by decide +kernel
theorem dL_reach_10 : decode cL_reach 10 = .ok (.aload 4, 2) := by decide +kernel
theorem dL_reach_12 : decode cL_reach 12 = .ok (.iload 5, 2) := by decide +kernel
theorem dL_reach_14 : decode cL_reach 14 = .ok (.iload 5, 2) := by decide +kernel
theorem dL_reach_16 : decode cL_reach 16 = .ok (.iload_n 1, 1) := by decide +kernel
theorem dL_reach_17 : decode cL_reach 17 = .ok (.if_icmp .ne 7, 3) := by decide +kernel
theorem dL_reach_20 : decode cL_reach 20 = .ok (.iconst 0, 1) := by decide +kernel
theorem dL_reach_21 : decode cL_reach 21 = .ok (.goto 5, 3) := by decide +kernel
theorem dL_reach_24 : decode cL_reach 24 = .ok (.ldc 63, 2) := by decide +kernel
theorem dL_reach_26 : decode cL_reach 26 = .ok (.iastore, 1) := by decide +kernel
theorem dL_reach_27 : decode cL_reach 27 = .ok (.iinc 5 1, 3) := by decide +kernel
theorem dL_reach_30 : decode cL_reach 30 = .ok (.goto (-27), 3) := by decide +kernel
theorem dL_reach_33 : decode cL_reach 33 = .ok (.iconst 0, 1) := by decide +kernel
theorem dL_reach_34 : decode cL_reach 34 = .ok (.istore 5, 2) := by decide +kernel
theorem dL_reach_36 : decode cL_reach 36 = .ok (.iload 5, 2) := by decide +kernel
theorem dL_reach_38 : decode cL_reach 38 = .ok (.aload_n 0, 1) := by decide +kernel
theorem dL_reach_39 : decode cL_reach 39 = .ok (.iconst 0, 1) := by decide +kernel
theorem dL_reach_40 : decode cL_reach 40 = .ok (.invokevirtual 42, 3) := by decide +kernel
theorem dL_reach_43 : decode cL_reach 43 = .ok (.if_icmp .ge 188, 3) := by decide +kernel
theorem dL_reach_46 : decode cL_reach 46 = .ok (.iconst 0, 1) := by decide +kernel
theorem dL_reach_47 : decode cL_reach 47 = .ok (.istore 6, 2) := by decide +kernel
theorem dL_reach_49 : decode cL_reach 49 = .ok (.iload 6, 2) := by decide +kernel
theorem dL_reach_51 : decode cL_reach 51 = .ok (.aload_n 0, 1) := by decide +kernel
theorem dL_reach_52 : decode cL_reach 52 = .ok (.iconst 1, 1) := by decide +kernel
theorem dL_reach_53 : decode cL_reach 53 = .ok (.invokevirtual 42, 3) := by decide +kernel
theorem dL_reach_56 : decode cL_reach 56 = .ok (.if_icmp .ge 169, 3) := by decide +kernel
theorem dL_reach_59 : decode cL_reach 59 = .ok (.iload 6, 2) := by decide +kernel
theorem dL_reach_61 : decode cL_reach 61 = .ok (.iload_n 2, 1) := by decide +kernel
theorem dL_reach_62 : decode cL_reach 62 = .ok (.if_icmp .eq 157, 3) := by decide +kernel
theorem dL_reach_65 : decode cL_reach 65 = .ok (.aload_n 0, 1) := by decide +kernel
theorem dL_reach_66 : decode cL_reach 66 = .ok (.iload 6, 2) := by decide +kernel
theorem dL_reach_68 : decode cL_reach 68 = .ok (.iconst 0, 1) := by decide +kernel
theorem dL_reach_69 : decode cL_reach 69 = .ok (.invokevirtual 45, 3) := by decide +kernel
theorem dL_reach_72 : decode cL_reach 72 = .ok (.istore 7, 2) := by decide +kernel
theorem dL_reach_74 : decode cL_reach 74 = .ok (.aload_n 0, 1) := by decide +kernel
theorem dL_reach_75 : decode cL_reach 75 = .ok (.iload 6, 2) := by decide +kernel
theorem dL_reach_77 : decode cL_reach 77 = .ok (.iconst 1, 1) := by decide +kernel
theorem dL_reach_78 : decode cL_reach 78 = .ok (.invokevirtual 45, 3) := by decide +kernel
theorem dL_reach_81 : decode cL_reach 81 = .ok (.istore 8, 2) := by decide +kernel
theorem dL_reach_83 : decode cL_reach 83 = .ok (.aload 4, 2) := by decide +kernel
theorem dL_reach_85 : decode cL_reach 85 = .ok (.iload 7, 2) := by decide +kernel
theorem dL_reach_87 : decode cL_reach 87 = .ok (.iaload, 1) := by decide +kernel
theorem dL_reach_88 : decode cL_reach 88 = .ok (.aload_n 0, 1) := by decide +kernel
theorem dL_reach_89 : decode cL_reach 89 = .ok (.iload 6, 2) := by decide +kernel
theorem dL_reach_91 : decode cL_reach 91 = .ok (.iconst 2, 1) := by decide +kernel
theorem dL_reach_92 : decode cL_reach 92 = .ok (.invokevirtual 45, 3) := by decide +kernel
theorem dL_reach_95 : decode cL_reach 95 = .ok (.iadd, 1) := by decide +kernel
theorem dL_reach_96 : decode cL_reach 96 = .ok (.iload 6, 2) := by decide +kernel
theorem dL_reach_98 : decode cL_reach 98 = .ok (.iload_n 3, 1) := by decide +kernel
theorem dL_reach_99 : decode cL_reach 99 = .ok (.if_icmp .ne 7, 3) := by decide +kernel
theorem dL_reach_102 : decode cL_reach 102 = .ok (.iconst 0, 1) := by decide +kernel
theorem dL_reach_103 : decode cL_reach 103 = .ok (.goto 10, 3) := by decide +kernel
theorem dL_reach_106 : decode cL_reach 106 = .ok (.aload_n 0, 1) := by decide +kernel
theorem dL_reach_107 : decode cL_reach 107 = .ok (.iload 6, 2) := by decide +kernel
theorem dL_reach_109 : decode cL_reach 109 = .ok (.iconst 4, 1) := by decide +kernel
theorem dL_reach_110 : decode cL_reach 110 = .ok (.invokevirtual 45, 3) := by decide +kernel
theorem dL_reach_113 : decode cL_reach 113 = .ok (.iadd, 1) := by decide +kernel
theorem dL_reach_114 : decode cL_reach 114 = .ok (.istore 9, 2) := by decide +kernel
theorem dL_reach_116 : decode cL_reach 116 = .ok (.aload 4, 2) := by decide +kernel
theorem dL_reach_118 : decode cL_reach 118 = .ok (.iload 8, 2) := by decide +kernel
theorem dL_reach_120 : decode cL_reach 120 = .ok (.iaload, 1) := by decide +kernel
theorem dL_reach_121 : decode cL_reach 121 = .ok (.aload_n 0, 1) := by decide +kernel
theorem dL_reach_122 : decode cL_reach 122 = .ok (.iload 6, 2) := by decide +kernel
theorem dL_reach_124 : decode cL_reach 124 = .ok (.iconst 2, 1) := by decide +kernel
theorem dL_reach_125 : decode cL_reach 125 = .ok (.invokevirtual 45, 3) := by decide +kernel
theorem dL_reach_128 : decode cL_reach 128 = .ok (.isub, 1) := by decide +kernel
theorem dL_reach_129 : decode cL_reach 129 = .ok (.iload 6, 2) := by decide +kernel
theorem dL_reach_131 : decode cL_reach 131 = .ok (.iload_n 3, 1) := by decide +kernel
theorem dL_reach_132 : decode cL_reach 132 = .ok (.if_icmp .ne 7, 3) := by decide +kernel
theorem dL_reach_135 : decode cL_reach 135 = .ok (.iconst 0, 1) := by decide +kernel
theorem dL_reach_136 : decode cL_reach 136 = .ok (.goto 10, 3) := by decide +kernel
theorem dL_reach_139 : decode cL_reach 139 = .ok (.aload_n 0, 1) := by decide +kernel
theorem dL_reach_140 : decode cL_reach 140 = .ok (.iload 6, 2) := by decide +kernel
theorem dL_reach_142 : decode cL_reach 142 = .ok (.iconst 3, 1) := by decide +kernel
theorem dL_reach_143 : decode cL_reach 143 = .ok (.invokevirtual 45, 3) := by decide +kernel
theorem dL_reach_146 : decode cL_reach 146 = .ok (.iadd, 1) := by decide +kernel
theorem dL_reach_147 : decode cL_reach 147 = .ok (.istore 10, 2) := by decide +kernel
theorem dL_reach_149 : decode cL_reach 149 = .ok (.aload 4, 2) := by decide +kernel
theorem dL_reach_151 : decode cL_reach 151 = .ok (.iload 8, 2) := by decide +kernel
theorem dL_reach_153 : decode cL_reach 153 = .ok (.aload 4, 2) := by decide +kernel
theorem dL_reach_155 : decode cL_reach 155 = .ok (.iload 7, 2) := by decide +kernel
theorem dL_reach_157 : decode cL_reach 157 = .ok (.iaload, 1) := by decide +kernel
theorem dL_reach_158 : decode cL_reach 158 = .ok (.ldc 63, 2) := by decide +kernel
theorem dL_reach_160 : decode cL_reach 160 = .ok (.if_icmp .ge 18, 3) := by decide +kernel
theorem dL_reach_163 : decode cL_reach 163 = .ok (.iload 9, 2) := by decide +kernel
theorem dL_reach_165 : decode cL_reach 165 = .ok (.aload 4, 2) := by decide +kernel
theorem dL_reach_167 : decode cL_reach 167 = .ok (.iload 8, 2) := by decide +kernel
theorem dL_reach_169 : decode cL_reach 169 = .ok (.iaload, 1) := by decide +kernel
theorem dL_reach_170 : decode cL_reach 170 = .ok (.if_icmp .ge 8, 3) := by decide +kernel
theorem dL_reach_173 : decode cL_reach 173 = .ok (.iload 9, 2) := by decide +kernel
theorem dL_reach_175 : decode cL_reach 175 = .ok (.goto 8, 3) := by decide +kernel
theorem dL_reach_178 : decode cL_reach 178 = .ok (.aload 4, 2) := by decide +kernel
theorem dL_reach_180 : decode cL_reach 180 = .ok (.iload 8, 2) := by decide +kernel
theorem dL_reach_182 : decode cL_reach 182 = .ok (.iaload, 1) := by decide +kernel
theorem dL_reach_183 : decode cL_reach 183 = .ok (.iastore, 1) := by decide +kernel
theorem dL_reach_184 : decode cL_reach 184 = .ok (.aload 4, 2) := by decide +kernel
theorem dL_reach_186 : decode cL_reach 186 = .ok (.iload 7, 2) := by decide +kernel
theorem dL_reach_188 : decode cL_reach 188 = .ok (.aload 4, 2) := by decide +kernel
theorem dL_reach_190 : decode cL_reach 190 = .ok (.iload 8, 2) := by decide +kernel
theorem dL_reach_192 : decode cL_reach 192 = .ok (.iaload, 1) := by decide +kernel
theorem dL_reach_193 : decode cL_reach 193 = .ok (.ldc 63, 2) := by decide +kernel
theorem dL_reach_195 : decode cL_reach 195 = .ok (.if_icmp .ge 18, 3) := by decide +kernel
theorem dL_reach_198 : decode cL_reach 198 = .ok (.iload 10, 2) := by decide +kernel
theorem dL_reach_200 : decode cL_reach 200 = .ok (.aload 4, 2) := by decide +kernel
theorem dL_reach_202 : decode cL_reach 202 = .ok (.iload 7, 2) := by decide +kernel
theorem dL_reach_204 : decode cL_reach 204 = .ok (.iaload, 1) := by decide +kernel
theorem dL_reach_205 : decode cL_reach 205 = .ok (.if_icmp .ge 8, 3) := by decide +kernel
theorem dL_reach_208 : decode cL_reach 208 = .ok (.iload 10, 2) := by decide +kernel
theorem dL_reach_210 : decode cL_reach 210 = .ok (.goto 8, 3) := by decide +kernel
theorem dL_reach_213 : decode cL_reach 213 = .ok (.aload 4, 2) := by decide +kernel
theorem dL_reach_215 : decode cL_reach 215 = .ok (.iload 7, 2) := by decide +kernel
theorem dL_reach_217 : decode cL_reach 217 = .ok (.iaload, 1) := by decide +kernel
theorem dL_reach_218 : decode cL_reach 218 = .ok (.iastore, 1) := by decide +kernel
theorem dL_reach_219 : decode cL_reach 219 = .ok (.iinc 6 1, 3) := by decide +kernel
theorem dL_reach_222 : decode cL_reach 222 = .ok (.goto (-173), 3) := by decide +kernel
theorem dL_reach_225 : decode cL_reach 225 = .ok (.iinc 5 1, 3) := by decide +kernel
theorem dL_reach_228 : decode cL_reach 228 = .ok (.goto (-192), 3) := by decide +kernel
theorem dL_reach_231 : decode cL_reach 231 = .ok (.return_, 1) := by decide +kernel
theorem dL_isSuperfluous_0 : decode cL_isSuperfluous 0 = .ok (.bipush 12, 2) := by decide +kernel
theorem dL_isSuperfluous_2 : decode cL_isSuperfluous 2 = .ok (.newarray .int, 2) := by decide +kernel
theorem dL_isSuperfluous_4 : decode cL_isSuperfluous 4 = .ok (.astore_n 2, 1) := by decide +kernel
theorem dL_isSuperfluous_5 : decode cL_isSuperfluous 5 = .ok (.aload_n 0, 1) := by decide +kernel
theorem dL_isSuperfluous_6 : decode cL_isSuperfluous 6 = .ok (.iload_n 1, 1) := by decide +kernel
theorem dL_isSuperfluous_7 : decode cL_isSuperfluous 7 = .ok (.iconst 0, 1) := by decide +kernel
theorem dL_isSuperfluous_8 : decode cL_isSuperfluous 8 = .ok (.invokevirtual 45, 3) := by decide +kernel
theorem dL_isSuperfluous_11 : decode cL_isSuperfluous 11 = .ok (.istore_n 3, 1) := by decide +kernel
theorem dL_isSuperfluous_12 : decode cL_isSuperfluous 12 = .ok (.aload_n 0, 1) := by decide +kernel
theorem dL_isSuperfluous_13 : decode cL_isSuperfluous 13 = .ok (.iload_n 1, 1) := by decide +kernel
theorem dL_isSuperfluous_14 : decode cL_isSuperfluous 14 = .ok (.iconst 1, 1) := by decide +kernel
theorem dL_isSuperfluous_15 : decode cL_isSuperfluous 15 = .ok (.invokevirtual 45, 3) := by decide +kernel
theorem dL_isSuperfluous_18 : decode cL_isSuperfluous 18 = .ok (.istore 4, 2) := by decide +kernel
theorem dL_isSuperfluous_20 : decode cL_isSuperfluous 20 = .ok (.aload_n 0, 1) := by decide +kernel
theorem dL_isSuperfluous_21 : decode cL_isSuperfluous 21 = .ok (.iload_n 3, 1) := by decide +kernel
theorem dL_isSuperfluous_22 : decode cL_isSuperfluous 22 = .ok (.iload_n 1, 1) := by decide +kernel
theorem dL_isSuperfluous_23 : decode cL_isSuperfluous 23 = .ok (.iconst (-1), 1) := by decide +kernel
theorem dL_isSuperfluous_24 : decode cL_isSuperfluous 24 = .ok (.aload_n 2, 1) := by decide +kernel
theorem dL_isSuperfluous_25 : decode cL_isSuperfluous 25 = .ok (.invokestatic 64, 3) := by decide +kernel
theorem dL_isSuperfluous_28 : decode cL_isSuperfluous 28 = .ok (.aload_n 2, 1) := by decide +kernel
theorem dL_isSuperfluous_29 : decode cL_isSuperfluous 29 = .ok (.iload 4, 2) := by decide +kernel
theorem dL_isSuperfluous_31 : decode cL_isSuperfluous 31 = .ok (.iaload, 1) := by decide +kernel
theorem dL_isSuperfluous_32 : decode cL_isSuperfluous 32 = .ok (.istore 5, 2) := by decide +kernel
theorem dL_isSuperfluous_34 : decode cL_isSuperfluous 34 = .ok (.aload_n 0, 1) := by decide +kernel
theorem dL_isSuperfluous_35 : decode cL_isSuperfluous 35 = .ok (.iload 4, 2) := by decide +kernel
theorem dL_isSuperfluous_37 : decode cL_isSuperfluous 37 = .ok (.iload_n 1, 1) := by decide +kernel
theorem dL_isSuperfluous_38 : decode cL_isSuperfluous 38 = .ok (.iconst (-1), 1) := by decide +kernel
theorem dL_isSuperfluous_39 : decode cL_isSuperfluous 39 = .ok (.aload_n 2, 1) := by decide +kernel
theorem dL_isSuperfluous_40 : decode cL_isSuperfluous 40 = .ok (.invokestatic 64, 3) := by decide +kernel
theorem dL_isSuperfluous_43 : decode cL_isSuperfluous 43 = .ok (.iload 5, 2) := by decide +kernel
theorem dL_isSuperfluous_45 : decode cL_isSuperfluous 45 = .ok (.ldc 63, 2) := by decide +kernel
theorem dL_isSuperfluous_47 : decode cL_isSuperfluous 47 = .ok (.if_icmp .ge 45, 3) := by decide +kernel
theorem dL_isSuperfluous_50 : decode cL_isSuperfluous 50 = .ok (.iload 5, 2) := by decide +kernel
theorem dL_isSuperfluous_52 : decode cL_isSuperfluous 52 = .ok (.aload_n 0, 1) := by decide +kernel
theorem dL_isSuperfluous_53 : decode cL_isSuperfluous 53 = .ok (.iload_n 1, 1) := by decide +kernel
theorem dL_isSuperfluous_54 : decode cL_isSuperfluous 54 = .ok (.iconst 2, 1) := by decide +kernel
theorem dL_isSuperfluous_55 : decode cL_isSuperfluous 55 = .ok (.invokevirtual 45, 3) := by decide +kernel
theorem dL_isSuperfluous_58 : decode cL_isSuperfluous 58 = .ok (.aload_n 0, 1) := by decide +kernel
theorem dL_isSuperfluous_59 : decode cL_isSuperfluous 59 = .ok (.iload_n 1, 1) := by decide +kernel
theorem dL_isSuperfluous_60 : decode cL_isSuperfluous 60 = .ok (.iconst 4, 1) := by decide +kernel
theorem dL_isSuperfluous_61 : decode cL_isSuperfluous 61 = .ok (.invokevirtual 45, 3) := by decide +kernel
theorem dL_isSuperfluous_64 : decode cL_isSuperfluous 64 = .ok (.iadd, 1) := by decide +kernel
theorem dL_isSuperfluous_65 : decode cL_isSuperfluous 65 = .ok (.if_icmp .gt 27, 3) := by decide +kernel
theorem dL_isSuperfluous_68 : decode cL_isSuperfluous 68 = .ok (.aload_n 2, 1) := by decide +kernel
theorem dL_isSuperfluous_69 : decode cL_isSuperfluous 69 = .ok (.iload_n 3, 1) := by decide +kernel
theorem dL_isSuperfluous_70 : decode cL_isSuperfluous 70 = .ok (.iaload, 1) := by decide +kernel
theorem dL_isSuperfluous_71 : decode cL_isSuperfluous 71 = .ok (.ineg, 1) := by decide +kernel
theorem dL_isSuperfluous_72 : decode cL_isSuperfluous 72 = .ok (.aload_n 0, 1) := by decide +kernel
theorem dL_isSuperfluous_73 : decode cL_isSuperfluous 73 = .ok (.iload_n 1, 1) := by decide +kernel
theorem dL_isSuperfluous_74 : decode cL_isSuperfluous 74 = .ok (.iconst 2, 1) := by decide +kernel
theorem dL_isSuperfluous_75 : decode cL_isSuperfluous 75 = .ok (.invokevirtual 45, 3) := by decide +kernel
theorem dL_isSuperfluous_78 : decode cL_isSuperfluous 78 = .ok (.aload_n 0, 1) := by decide +kernel
theorem dL_isSuperfluous_79 : decode cL_isSuperfluous 79 = .ok (.iload_n 1, 1) := by decide +kernel
theorem dL_isSuperfluous_80 : decode cL_isSuperfluous 80 = .ok (.iconst 3, 1) := by decide +kernel
theorem dL_isSuperfluous_81 : decode cL_isSuperfluous 81 = .ok (.invokevirtual 45, 3) := by decide +kernel
theorem dL_isSuperfluous_84 : decode cL_isSuperfluous 84 = .ok (.isub, 1) := by decide +kernel
theorem dL_isSuperfluous_85 : decode cL_isSuperfluous 85 = .ok (.if_icmp .lt 7, 3) := by decide +kernel
theorem dL_isSuperfluous_88 : decode cL_isSuperfluous 88 = .ok (.iconst 1, 1) := by decide +kernel
theorem dL_isSuperfluous_89 : decode cL_isSuperfluous 89 = .ok (.goto 4, 3) := by decide +kernel
theorem dL_isSuperfluous_92 : decode cL_isSuperfluous 92 = .ok (.iconst 0, 1) := by decide +kernel
theorem dL_isSuperfluous_93 : decode cL_isSuperfluous 93 = .ok (.ireturn, 1) := by decide +kernel
theorem dL_tolerances_0 : decode cL_tolerances 0 = .ok (.aload_n 0, 1) := by decide +kernel
theorem dL_tolerances_1 : decode cL_tolerances 1 = .ok (.iconst 0, 1) := by decide +kernel
theorem dL_tolerances_2 : decode cL_tolerances 2 = .ok (.invokevirtual 42, 3) := by decide +kernel
theorem dL_tolerances_5 : decode cL_tolerances 5 = .ok (.istore_n 2, 1) := by decide +kernel
theorem dL_tolerances_6 : decode cL_tolerances 6 = .ok (.bipush 12, 2) := by decide +kernel
theorem dL_tolerances_8 : decode cL_tolerances 8 = .ok (.newarray .int, 2) := by decide +kernel
theorem dL_tolerances_10 : decode cL_tolerances 10 = .ok (.astore_n 3, 1) := by decide +kernel
theorem dL_tolerances_11 : decode cL_tolerances 11 = .ok (.bipush 12, 2) := by decide +kernel
theorem dL_tolerances_13 : decode cL_tolerances 13 = .ok (.newarray .int, 2) := by decide +kernel
theorem dL_tolerances_15 : decode cL_tolerances 15 = .ok (.astore 4, 2) := by decide +kernel
theorem dL_tolerances_17 : decode cL_tolerances 17 = .ok (.bipush 12, 2) := by decide +kernel
theorem dL_tolerances_19 : decode cL_tolerances 19 = .ok (.newarray .int, 2) := by decide +kernel
theorem dL_tolerances_21 : decode cL_tolerances 21 = .ok (.astore 5, 2) := by decide +kernel
theorem dL_tolerances_23 : decode cL_tolerances 23 = .ok (.iconst 0, 1) := by decide +kernel
theorem dL_tolerances_24 : decode cL_tolerances 24 = .ok (.istore 6, 2) := by decide +kernel
theorem dL_tolerances_26 : decode cL_tolerances 26 = .ok (.iconst 0, 1) := by decide +kernel
theorem dL_tolerances_27 : decode cL_tolerances 27 = .ok (.istore 7, 2) := by decide +kernel
theorem dL_tolerances_29 : decode cL_tolerances 29 = .ok (.iload 7, 2) := by decide +kernel
theorem dL_tolerances_31 : decode cL_tolerances 31 = .ok (.aload_n 0, 1) := by decide +kernel
theorem dL_tolerances_32 : decode cL_tolerances 32 = .ok (.iconst 1, 1) := by decide +kernel
theorem dL_tolerances_33 : decode cL_tolerances 33 = .ok (.invokevirtual 42, 3) := by decide +kernel
theorem dL_tolerances_36 : decode cL_tolerances 36 = .ok (.if_icmp .ge 55, 3) := by decide +kernel
theorem dL_tolerances_39 : decode cL_tolerances 39 = .ok (.aload_n 0, 1) := by decide +kernel
theorem dL_tolerances_40 : decode cL_tolerances 40 = .ok (.iload 7, 2) := by decide +kernel
theorem dL_tolerances_42 : decode cL_tolerances 42 = .ok (.invokestatic 68, 3) := by decide +kernel
theorem dL_tolerances_45 : decode cL_tolerances 45 = .ok (.istore 8, 2) := by decide +kernel
theorem dL_tolerances_47 : decode cL_tolerances 47 = .ok (.iload 6, 2) := by decide +kernel
theorem dL_tolerances_49 : decode cL_tolerances 49 = .ok (.iload 8, 2) := by decide +kernel
theorem dL_tolerances_51 : decode cL_tolerances 51 = .ok (.ifCond .eq 7, 3) := by decide +kernel
theorem dL_tolerances_54 : decode cL_tolerances 54 = .ok (.iconst 1, 1) := by decide +kernel
theorem dL_tolerances_55 : decode cL_tolerances 55 = .ok (.goto 4, 3) := by decide +kernel
theorem dL_tolerances_58 : decode cL_tolerances 58 = .ok (.iconst 0, 1) := by decide +kernel
theorem dL_tolerances_59 : decode cL_tolerances 59 = .ok (.iadd, 1) := by decide +kernel
theorem dL_tolerances_60 : decode cL_tolerances 60 = .ok (.istore 6, 2) := by decide +kernel
theorem dL_tolerances_62 : decode cL_tolerances 62 = .ok (.aload_n 0, 1) := by decide +kernel
theorem dL_tolerances_63 : decode cL_tolerances 63 = .ok (.iload 7, 2) := by decide +kernel
theorem dL_tolerances_65 : decode cL_tolerances 65 = .ok (.bipush 11, 2) := by decide +kernel
theorem dL_tolerances_67 : decode cL_tolerances 67 = .ok (.invokevirtual 45, 3) := by decide +kernel
theorem dL_tolerances_70 : decode cL_tolerances 70 = .ok (.iload 8, 2) := by decide +kernel
theorem dL_tolerances_72 : decode cL_tolerances 72 = .ok (.ifCond .eq 7, 3) := by decide +kernel
theorem dL_tolerances_75 : decode cL_tolerances 75 = .ok (.iconst 1, 1) := by decide +kernel
theorem dL_tolerances_76 : decode cL_tolerances 76 = .ok (.goto 4, 3) := by decide +kernel
theorem dL_tolerances_79 : decode cL_tolerances 79 = .ok (.iconst 0, 1) := by decide +kernel
theorem dL_tolerances_80 : decode cL_tolerances 80 = .ok (.if_icmp .eq 5, 3) := by decide +kernel
theorem dL_tolerances_83 : decode cL_tolerances 83 = .ok (.iconst 0, 1) := by decide +kernel
theorem dL_tolerances_84 : decode cL_tolerances 84 = .ok (.ireturn, 1) := by decide +kernel
theorem dL_tolerances_85 : decode cL_tolerances 85 = .ok (.iinc 7 1, 3) := by decide +kernel
theorem dL_tolerances_88 : decode cL_tolerances 88 = .ok (.goto (-59), 3) := by decide +kernel
theorem dL_tolerances_91 : decode cL_tolerances 91 = .ok (.iconst 0, 1) := by decide +kernel
theorem dL_tolerances_92 : decode cL_tolerances 92 = .ok (.istore 7, 2) := by decide +kernel
theorem dL_tolerances_94 : decode cL_tolerances 94 = .ok (.iconst 0, 1) := by decide +kernel
theorem dL_tolerances_95 : decode cL_tolerances 95 = .ok (.istore 8, 2) := by decide +kernel
theorem dL_tolerances_97 : decode cL_tolerances 97 = .ok (.iload 8, 2) := by decide +kernel
theorem dL_tolerances_99 : decode cL_tolerances 99 = .ok (.iload_n 2, 1) := by decide +kernel
theorem dL_tolerances_100 : decode cL_tolerances 100 = .ok (.if_icmp .ge 200, 3) := by decide +kernel
theorem dL_tolerances_103 : decode cL_tolerances 103 = .ok (.aload_n 0, 1) := by decide +kernel
theorem dL_tolerances_104 : decode cL_tolerances 104 = .ok (.iload 8, 2) := by decide +kernel
theorem dL_tolerances_106 : decode cL_tolerances 106 = .ok (.iconst (-1), 1) := by decide +kernel
theorem dL_tolerances_107 : decode cL_tolerances 107 = .ok (.iconst (-1), 1) := by decide +kernel
theorem dL_tolerances_108 : decode cL_tolerances 108 = .ok (.aload_n 3, 1) := by decide +kernel
theorem dL_tolerances_109 : decode cL_tolerances 109 = .ok (.invokestatic 64, 3) := by decide +kernel
theorem dL_tolerances_112 : decode cL_tolerances 112 = .ok (.iconst (-1), 1) := by decide +kernel
theorem dL_tolerances_113 : decode cL_tolerances 113 = .ok (.istore 9, 2) := by decide +kernel
theorem dL_tolerances_115 : decode cL_tolerances 115 = .ok (.iconst 0, 1) := by decide +kernel
theorem dL_tolerances_116 : decode cL_tolerances 116 = .ok (.istore 10, 2) := by decide +kernel
theorem dL_tolerances_118 : decode cL_tolerances 118 = .ok (.iload 10, 2) := by decide +kernel
theorem dL_tolerances_120 : decode cL_tolerances 120 = .ok (.iload_n 2, 1) := by decide +kernel
theorem dL_tolerances_121 : decode cL_tolerances 121 = .ok (.if_icmp .ge 134, 3) := by decide +kernel
theorem dL_tolerances_124 : decode cL_tolerances 124 = .ok (.iload 8, 2) := by decide +kernel
theorem dL_tolerances_126 : decode cL_tolerances 126 = .ok (.iload 10, 2) := by decide +kernel
theorem dL_tolerances_128 : decode cL_tolerances 128 = .ok (.if_icmp .ne 6, 3) := by decide +kernel
theorem dL_tolerances_131 : decode cL_tolerances 131 = .ok (.goto 118, 3) := by decide +kernel
theorem dL_tolerances_134 : decode cL_tolerances 134 = .ok (.aload_n 0, 1) := by decide +kernel
theorem dL_tolerances_135 : decode cL_tolerances 135 = .ok (.iload 10, 2) := by decide +kernel
theorem dL_tolerances_137 : decode cL_tolerances 137 = .ok (.iconst (-1), 1) := by decide +kernel
theorem dL_tolerances_138 : decode cL_tolerances 138 = .ok (.iconst (-1), 1) := by decide +kernel
theorem dL_tolerances_139 : decode cL_tolerances 139 = .ok (.aload 4, 2) := by decide +kernel
theorem dL_tolerances_141 : decode cL_tolerances 141 = .ok (.invokestatic 64, 3) := by decide +kernel
theorem dL_tolerances_144 : decode cL_tolerances 144 = .ok (.aload_n 3, 1) := by decide +kernel
theorem dL_tolerances_145 : decode cL_tolerances 145 = .ok (.iload 10, 2) := by decide +kernel
theorem dL_tolerances_147 : decode cL_tolerances 147 = .ok (.iaload, 1) := by decide +kernel
theorem dL_tolerances_148 : decode cL_tolerances 148 = .ok (.ldc 63, 2) := by decide +kernel
theorem dL_tolerances_150 : decode cL_tolerances 150 = .ok (.if_icmp .ge 7, 3) := by decide +kernel
theorem dL_tolerances_153 : decode cL_tolerances 153 = .ok (.iconst 1, 1) := by decide +kernel
theorem dL_tolerances_154 : decode cL_tolerances 154 = .ok (.goto 4, 3) := by decide +kernel
theorem dL_tolerances_157 : decode cL_tolerances 157 = .ok (.iconst 0, 1) := by decide +kernel
theorem dL_tolerances_158 : decode cL_tolerances 158 = .ok (.istore 11, 2) := by decide +kernel
theorem dL_tolerances_160 : decode cL_tolerances 160 = .ok (.iload 11, 2) := by decide +kernel
theorem dL_tolerances_162 : decode cL_tolerances 162 = .ok (.ifCond .eq 25, 3) := by decide +kernel
theorem dL_tolerances_165 : decode cL_tolerances 165 = .ok (.iload 10, 2) := by decide +kernel
theorem dL_tolerances_167 : decode cL_tolerances 167 = .ok (.iload 8, 2) := by decide +kernel
theorem dL_tolerances_169 : decode cL_tolerances 169 = .ok (.if_icmp .ge 18, 3) := by decide +kernel
theorem dL_tolerances_172 : decode cL_tolerances 172 = .ok (.iload 9, 2) := by decide +kernel
theorem dL_tolerances_174 : decode cL_tolerances 174 = .ok (.ifCond .ge 13, 3) := by decide +kernel
theorem dL_tolerances_177 : decode cL_tolerances 177 = .ok (.aload_n 0, 1) := by decide +kernel
theorem dL_tolerances_178 : decode cL_tolerances 178 = .ok (.iload 10, 2) := by decide +kernel
theorem dL_tolerances_180 : decode cL_tolerances 180 = .ok (.iconst 4, 1) := by decide +kernel
theorem dL_tolerances_181 : decode cL_tolerances 181 = .ok (.invokevirtual 20, 3) := by decide +kernel
theorem dL_tolerances_184 : decode cL_tolerances 184 = .ok (.goto 5, 3) := by decide +kernel
theorem dL_tolerances_187 : decode cL_tolerances 187 = .ok (.iload 9, 2) := by decide +kernel
theorem dL_tolerances_189 : decode cL_tolerances 189 = .ok (.istore 9, 2) := by decide +kernel
theorem dL_tolerances_191 : decode cL_tolerances 191 = .ok (.aload_n 0, 1) := by decide +kernel
theorem dL_tolerances_192 : decode cL_tolerances 192 = .ok (.iload 8, 2) := by decide +kernel
theorem dL_tolerances_194 : decode cL_tolerances 194 = .ok (.iload 10, 2) := by decide +kernel
theorem dL_tolerances_196 : decode cL_tolerances 196 = .ok (.iconst 1, 1) := by decide +kernel
theorem dL_tolerances_197 : decode cL_tolerances 197 = .ok (.invokevirtual 72, 3) := by decide +kernel
theorem dL_tolerances_200 : decode cL_tolerances 200 = .ok (.iload 11, 2) := by decide +kernel
theorem dL_tolerances_202 : decode cL_tolerances 202 = .ok (.ifCond .eq 10, 3) := by decide +kernel
theorem dL_tolerances_205 : decode cL_tolerances 205 = .ok (.aload_n 3, 1) := by decide +kernel
theorem dL_tolerances_206 : decode cL_tolerances 206 = .ok (.iload 10, 2) := by decide +kernel
theorem dL_tolerances_208 : decode cL_tolerances 208 = .ok (.iaload, 1) := by decide +kernel
theorem dL_tolerances_209 : decode cL_tolerances 209 = .ok (.goto 6, 3) := by decide +kernel
theorem dL_tolerances_212 : decode cL_tolerances 212 = .ok (.sipush (-999), 3) := by decide +kernel
theorem dL_tolerances_215 : decode cL_tolerances 215 = .ok (.if_icmp .ne 32, 3) := by decide +kernel
theorem dL_tolerances_218 : decode cL_tolerances 218 = .ok (.aload_n 0, 1) := by decide +kernel
theorem dL_tolerances_219 : decode cL_tolerances 219 = .ok (.iload 8, 2) := by decide +kernel
theorem dL_tolerances_221 : decode cL_tolerances 221 = .ok (.iload 10, 2) := by decide +kernel
theorem dL_tolerances_223 : decode cL_tolerances 223 = .ok (.iconst 0, 1) := by decide +kernel
theorem dL_tolerances_224 : decode cL_tolerances 224 = .ok (.invokevirtual 72, 3) := by decide +kernel
theorem dL_tolerances_227 : decode cL_tolerances 227 = .ok (.iload 11, 2) := by decide +kernel
theorem dL_tolerances_229 : decode cL_tolerances 229 = .ok (.ifCond .eq 12, 3) := by decide +kernel
theorem dL_tolerances_232 : decode cL_tolerances 232 = .ok (.aload 4, 2) := by decide +kernel
theorem dL_tolerances_234 : decode cL_tolerances 234 = .ok (.iload 8, 2) := by decide +kernel
theorem dL_tolerances_236 : decode cL_tolerances 236 = .ok (.iaload, 1) := by decide +kernel
theorem dL_tolerances_237 : decode cL_tolerances 237 = .ok (.ineg, 1) := by decide +kernel
theorem dL_tolerances_238 : decode cL_tolerances 238 = .ok (.goto 6, 3) := by decide +kernel
theorem dL_tolerances_241 : decode cL_tolerances 241 = .ok (.sipush (-999), 3) := by decide +kernel
theorem dL_tolerances_244 : decode cL_tolerances 244 = .ok (.if_icmp .eq 5, 3) := by decide +kernel
theorem dL_tolerances_247 : decode cL_tolerances 247 = .ok (.iconst 0, 1) := by decide +kernel
theorem dL_tolerances_248 : decode cL_tolerances 248 = .ok (.ireturn, 1) := by decide +kernel
theorem dL_tolerances_249 : decode cL_tolerances 249 = .ok (.iinc 10 1, 3) := by decide +kernel
theorem dL_tolerances_252 : decode cL_tolerances 252 = .ok (.goto (-134), 3) := by decide +kernel
theorem dL_tolerances_255 : decode cL_tolerances 255 = .ok (.aload_n 0, 1) := by decide +kernel
theorem dL_tolerances_256 : decode cL_tolerances 256 = .ok (.iload 8, 2) := by decide +kernel
theorem dL_tolerances_258 : decode cL_tolerances 258 = .ok (.iconst 4, 1) := by decide +kernel
theorem dL_tolerances_259 : decode cL_tolerances 259 = .ok (.invokevirtual 20, 3) := by decide +kernel
theorem dL_tolerances_262 : decode cL_tolerances 262 = .ok (.iload 9, 2) := by decide +kernel
theorem dL_tolerances_264 : decode cL_tolerances 264 = .ok (.ifCond .ge 8, 3) := by decide +kernel
theorem dL_tolerances_267 : decode cL_tolerances 267 = .ok (.iload 7, 2) := by decide +kernel
theorem dL_tolerances_269 : decode cL_tolerances 269 = .ok (.goto 5, 3) := by decide +kernel
theorem dL_tolerances_272 : decode cL_tolerances 272 = .ok (.iload 9, 2) := by decide +kernel
theorem dL_tolerances_274 : decode cL_tolerances 274 = .ok (.if_icmp .eq 5, 3) := by decide +kernel
theorem dL_tolerances_277 : decode cL_tolerances 277 = .ok (.iconst 0, 1) := by decide +kernel
theorem dL_tolerances_278 : decode cL_tolerances 278 = .ok (.ireturn, 1) := by decide +kernel
theorem dL_tolerances_279 : decode cL_tolerances 279 = .ok (.iload 7, 2) := by decide +kernel
theorem dL_tolerances_281 : decode cL_tolerances 281 = .ok (.iload 9, 2) := by decide +kernel
theorem dL_tolerances_283 : decode cL_tolerances 283 = .ok (.ifCond .ge 7, 3) := by decide +kernel
theorem dL_tolerances_286 : decode cL_tolerances 286 = .ok (.iconst 1, 1) := by decide +kernel
theorem dL_tolerances_287 : decode cL_tolerances 287 = .ok (.goto 4, 3) := by decide +kernel
theorem dL_tolerances_290 : decode cL_tolerances 290 = .ok (.iconst 0, 1) := by decide +kernel
theorem dL_tolerances_291 : decode cL_tolerances 291 = .ok (.iadd, 1) := by decide +kernel
theorem dL_tolerances_292 : decode cL_tolerances 292 = .ok (.istore 7, 2) := by decide +kernel
theorem dL_tolerances_294 : decode cL_tolerances 294 = .ok (.iinc 8 1, 3) := by decide +kernel
theorem dL_tolerances_297 : decode cL_tolerances 297 = .ok (.goto (-200), 3) := by decide +kernel
theorem dL_tolerances_300 : decode cL_tolerances 300 = .ok (.aload_n 0, 1) := by decide +kernel
theorem dL_tolerances_301 : decode cL_tolerances 301 = .ok (.iconst 5, 1) := by decide +kernel
theorem dL_tolerances_302 : decode cL_tolerances 302 = .ok (.invokevirtual 42, 3) := by decide +kernel
theorem dL_tolerances_305 : decode cL_tolerances 305 = .ok (.iload 7, 2) := by decide +kernel
theorem dL_tolerances_307 : decode cL_tolerances 307 = .ok (.if_icmp .ne 37, 3) := by decide +kernel
theorem dL_tolerances_310 : decode cL_tolerances 310 = .ok (.aload_n 0, 1) := by decide +kernel
theorem dL_tolerances_311 : decode cL_tolerances 311 = .ok (.bipush 6, 2) := by decide +kernel
theorem dL_tolerances_313 : decode cL_tolerances 313 = .ok (.invokevirtual 42, 3) := by decide +kernel
theorem dL_tolerances_316 : decode cL_tolerances 316 = .ok (.iload 6, 2) := by decide +kernel
theorem dL_tolerances_318 : decode cL_tolerances 318 = .ok (.if_icmp .ne 26, 3) := by decide +kernel
theorem dL_tolerances_321 : decode cL_tolerances 321 = .ok (.aload_n 0, 1) := by decide +kernel
theorem dL_tolerances_322 : decode cL_tolerances 322 = .ok (.invokevirtual 76, 3) := by decide +kernel
theorem dL_tolerances_325 : decode cL_tolerances 325 = .ok (.iload_n 2, 1) := by decide +kernel
theorem dL_tolerances_326 : decode cL_tolerances 326 = .ok (.iload 7, 2) := by decide +kernel
theorem dL_tolerances_328 : decode cL_tolerances 328 = .ok (.isub, 1) := by decide +kernel
theorem dL_tolerances_329 : decode cL_tolerances 329 = .ok (.if_icmp .lt 15, 3) := by decide +kernel
theorem dL_tolerances_332 : decode cL_tolerances 332 = .ok (.aload_n 0, 1) := by decide +kernel
theorem dL_tolerances_333 : decode cL_tolerances 333 = .ok (.invokevirtual 76, 3) := by decide +kernel
theorem dL_tolerances_336 : decode cL_tolerances 336 = .ok (.aload_n 0, 1) := by decide +kernel
theorem dL_tolerances_337 : decode cL_tolerances 337 = .ok (.iconst 1, 1) := by decide +kernel
theorem dL_tolerances_338 : decode cL_tolerances 338 = .ok (.invokevirtual 42, 3) := by decide +kernel
theorem dL_tolerances_341 : decode cL_tolerances 341 = .ok (.if_icmp .le 5, 3) := by decide +kernel
theorem dL_tolerances_344 : decode cL_tolerances 344 = .ok (.iconst 0, 1) := by decide +kernel
theorem dL_tolerances_345 : decode cL_tolerances 345 = .ok (.ireturn, 1) := by decide +kernel
theorem dL_tolerances_346 : decode cL_tolerances 346 = .ok (.iload_n 1, 1) := by decide +kernel
theorem dL_tolerances_347 : decode cL_tolerances 347 = .ok (.iload_n 2, 1) := by decide +kernel
theorem dL_tolerances_348 : decode cL_tolerances 348 = .ok (.invokestatic 16, 3) := by decide +kernel
theorem dL_tolerances_351 : decode cL_tolerances 351 = .ok (.istore 8, 2) := by decide +kernel
theorem dL_tolerances_353 : decode cL_tolerances 353 = .ok (.iload_n 1, 1) := by decide +kernel
theorem dL_tolerances_354 : decode cL_tolerances 354 = .ok (.iconst 4, 1) := by decide +kernel
theorem dL_tolerances_355 : decode cL_tolerances 355 = .ok (.ishr, 1) := by decide +kernel
theorem dL_tolerances_356 : decode cL_tolerances 356 = .ok (.iload_n 2, 1) := by decide +kernel
theorem dL_tolerances_357 : decode cL_tolerances 357 = .ok (.invokestatic 16, 3) := by decide +kernel
theorem dL_tolerances_360 : decode cL_tolerances 360 = .ok (.istore 9, 2) := by decide +kernel
theorem dL_tolerances_362 : decode cL_tolerances 362 = .ok (.iload 8, 2) := by decide +kernel
theorem dL_tolerances_364 : decode cL_tolerances 364 = .ok (.iload 9, 2) := by decide +kernel
theorem dL_tolerances_366 : decode cL_tolerances 366 = .ok (.if_icmp .eq 18, 3) := by decide +kernel
theorem dL_tolerances_369 : decode cL_tolerances 369 = .ok (.aload_n 0, 1) := by decide +kernel
theorem dL_tolerances_370 : decode cL_tolerances 370 = .ok (.iload 8, 2) := by decide +kernel
theorem dL_tolerances_372 : decode cL_tolerances 372 = .ok (.iload 9, 2) := by decide +kernel
theorem dL_tolerances_374 : decode cL_tolerances 374 = .ok (.iconst 1, 1) := by decide +kernel
theorem dL_tolerances_375 : decode cL_tolerances 375 = .ok (.invokevirtual 72, 3) := by decide +kernel
theorem dL_tolerances_378 : decode cL_tolerances 378 = .ok (.sipush (-999), 3) := by decide +kernel
theorem dL_tolerances_381 : decode cL_tolerances 381 = .ok (.if_icmp .ne 34, 3) := by decide +kernel
theorem dL_tolerances_384 : decode cL_tolerances 384 = .ok (.aload_n 0, 1) := by decide +kernel
theorem dL_tolerances_385 : decode cL_tolerances 385 = .ok (.iload 8, 2) := by decide +kernel
theorem dL_tolerances_387 : decode cL_tolerances 387 = .ok (.iload 9, 2) := by decide +kernel
theorem dL_tolerances_389 : decode cL_tolerances 389 = .ok (.invokevirtual 80, 3) := by decide +kernel
theorem dL_tolerances_392 : decode cL_tolerances 392 = .ok (.iload 8, 2) := by decide +kernel
theorem dL_tolerances_394 : decode cL_tolerances 394 = .ok (.iload 9, 2) := by decide +kernel
theorem dL_tolerances_396 : decode cL_tolerances 396 = .ok (.if_icmp .ne 7, 3) := by decide +kernel
theorem dL_tolerances_399 : decode cL_tolerances 399 = .ok (.iconst (-1), 1) := by decide +kernel
theorem dL_tolerances_400 : decode cL_tolerances 400 = .ok (.goto 6, 3) := by decide +kernel
theorem dL_tolerances_403 : decode cL_tolerances 403 = .ok (.sipush (-999), 3) := by decide +kernel
theorem dL_tolerances_406 : decode cL_tolerances 406 = .ok (.if_icmp .ne 7, 3) := by decide +kernel
theorem dL_tolerances_409 : decode cL_tolerances 409 = .ok (.iconst 1, 1) := by decide +kernel
theorem dL_tolerances_410 : decode cL_tolerances 410 = .ok (.goto 4, 3) := by decide +kernel
theorem dL_tolerances_413 : decode cL_tolerances 413 = .ok (.iconst 0, 1) := by decide +kernel
theorem dL_tolerances_414 : decode cL_tolerances 414 = .ok (.ireturn, 1) := by decide +kernel
theorem dL_tolerances_415 : decode cL_tolerances 415 = .ok (.sipush (-999), 3) := by decide +kernel
theorem dL_tolerances_418 : decode cL_tolerances 418 = .ok (.istore 10, 2) := by decide +kernel
theorem dL_tolerances_420 : decode cL_tolerances 420 = .ok (.iconst (-1), 1) := by decide +kernel
theorem dL_tolerances_421 : decode cL_tolerances 421 = .ok (.istore 11, 2) := by decide +kernel
theorem dL_tolerances_423 : decode cL_tolerances 423 = .ok (.iconst 0, 1) := by decide +kernel
theorem dL_tolerances_424 : decode cL_tolerances 424 = .ok (.istore 12, 2) := by decide +kernel
theorem dL_tolerances_426 : decode cL_tolerances 426 = .ok (.iload 12, 2) := by decide +kernel
theorem dL_tolerances_428 : decode cL_tolerances 428 = .ok (.aload_n 0, 1) := by decide +kernel
theorem dL_tolerances_429 : decode cL_tolerances 429 = .ok (.iconst 1, 1) := by decide +kernel
theorem dL_tolerances_430 : decode cL_tolerances 430 = .ok (.invokevirtual 42, 3) := by decide +kernel
theorem dL_tolerances_433 : decode cL_tolerances 433 = .ok (.if_icmp .ge 116, 3) := by decide +kernel
theorem dL_tolerances_436 : decode cL_tolerances 436 = .ok (.aload_n 0, 1) := by decide +kernel
theorem dL_tolerances_437 : decode cL_tolerances 437 = .ok (.iload 8, 2) := by decide +kernel
theorem dL_tolerances_439 : decode cL_tolerances 439 = .ok (.iconst (-1), 1) := by decide +kernel
theorem dL_tolerances_440 : decode cL_tolerances 440 = .ok (.iload 12, 2) := by decide +kernel
theorem dL_tolerances_442 : decode cL_tolerances 442 = .ok (.aload_n 3, 1) := by decide +kernel
theorem dL_tolerances_443 : decode cL_tolerances 443 = .ok (.invokestatic 64, 3) := by decide +kernel
theorem dL_tolerances_446 : decode cL_tolerances 446 = .ok (.aload_n 0, 1) := by decide +kernel
theorem dL_tolerances_447 : decode cL_tolerances 447 = .ok (.iload 9, 2) := by decide +kernel
theorem dL_tolerances_449 : decode cL_tolerances 449 = .ok (.iconst (-1), 1) := by decide +kernel
theorem dL_tolerances_450 : decode cL_tolerances 450 = .ok (.iload 12, 2) := by decide +kernel
theorem dL_tolerances_452 : decode cL_tolerances 452 = .ok (.aload 5, 2) := by decide +kernel
theorem dL_tolerances_454 : decode cL_tolerances 454 = .ok (.invokestatic 64, 3) := by decide +kernel
theorem dL_tolerances_457 : decode cL_tolerances 457 = .ok (.aload_n 0, 1) := by decide +kernel
theorem dL_tolerances_458 : decode cL_tolerances 458 = .ok (.iload 8, 2) := by decide +kernel
theorem dL_tolerances_460 : decode cL_tolerances 460 = .ok (.iload 9, 2) := by decide +kernel
theorem dL_tolerances_462 : decode cL_tolerances 462 = .ok (.iconst 1, 1) := by decide +kernel
theorem dL_tolerances_463 : decode cL_tolerances 463 = .ok (.invokevirtual 72, 3) := by decide +kernel
theorem dL_tolerances_466 : decode cL_tolerances 466 = .ok (.aload_n 0, 1) := by decide +kernel
theorem dL_tolerances_467 : decode cL_tolerances 467 = .ok (.iload 8, 2) := by decide +kernel
theorem dL_tolerances_469 : decode cL_tolerances 469 = .ok (.iload 9, 2) := by decide +kernel
theorem dL_tolerances_471 : decode cL_tolerances 471 = .ok (.iconst 0, 1) := by decide +kernel
theorem dL_tolerances_472 : decode cL_tolerances 472 = .ok (.invokevirtual 72, 3) := by decide +kernel
theorem dL_tolerances_475 : decode cL_tolerances 475 = .ok (.isub, 1) := by decide +kernel
theorem dL_tolerances_476 : decode cL_tolerances 476 = .ok (.aload_n 3, 1) := by decide +kernel
theorem dL_tolerances_477 : decode cL_tolerances 477 = .ok (.iload 9, 2) := by decide +kernel
theorem dL_tolerances_479 : decode cL_tolerances 479 = .ok (.iaload, 1) := by decide +kernel
theorem dL_tolerances_480 : decode cL_tolerances 480 = .ok (.isub, 1) := by decide +kernel
theorem dL_tolerances_481 : decode cL_tolerances 481 = .ok (.aload 5, 2) := by decide +kernel
theorem dL_tolerances_483 : decode cL_tolerances 483 = .ok (.iload 8, 2) := by decide +kernel
theorem dL_tolerances_485 : decode cL_tolerances 485 = .ok (.iaload, 1) := by decide +kernel
theorem dL_tolerances_486 : decode cL_tolerances 486 = .ok (.isub, 1) := by decide +kernel
theorem dL_tolerances_487 : decode cL_tolerances 487 = .ok (.istore 13, 2) := by decide +kernel
theorem dL_tolerances_489 : decode cL_tolerances 489 = .ok (.iload 13, 2) := by decide +kernel
theorem dL_tolerances_491 : decode cL_tolerances 491 = .ok (.iload 11, 2) := by decide +kernel
theorem dL_tolerances_493 : decode cL_tolerances 493 = .ok (.if_icmp .le 8, 3) := by decide +kernel
theorem dL_tolerances_496 : decode cL_tolerances 496 = .ok (.iload 12, 2) := by decide +kernel
theorem dL_tolerances_498 : decode cL_tolerances 498 = .ok (.goto 5, 3) := by decide +kernel
theorem dL_tolerances_501 : decode cL_tolerances 501 = .ok (.iload 10, 2) := by decide +kernel
theorem dL_tolerances_503 : decode cL_tolerances 503 = .ok (.istore 10, 2) := by decide +kernel
theorem dL_tolerances_505 : decode cL_tolerances 505 = .ok (.iload 13, 2) := by decide +kernel
theorem dL_tolerances_507 : decode cL_tolerances 507 = .ok (.iload 11, 2) := by decide +kernel
theorem dL_tolerances_509 : decode cL_tolerances 509 = .ok (.if_icmp .le 8, 3) := by decide +kernel
theorem dL_tolerances_512 : decode cL_tolerances 512 = .ok (.iload 13, 2) := by decide +kernel
theorem dL_tolerances_514 : decode cL_tolerances 514 = .ok (.goto 5, 3) := by decide +kernel
theorem dL_tolerances_517 : decode cL_tolerances 517 = .ok (.iload 11, 2) := by decide +kernel
theorem dL_tolerances_519 : decode cL_tolerances 519 = .ok (.istore 11, 2) := by decide +kernel
theorem dL_tolerances_521 : decode cL_tolerances 521 = .ok (.aload_n 0, 1) := by decide +kernel
theorem dL_tolerances_522 : decode cL_tolerances 522 = .ok (.iload 12, 2) := by decide +kernel
theorem dL_tolerances_524 : decode cL_tolerances 524 = .ok (.iload 8, 2) := by decide +kernel
theorem dL_tolerances_526 : decode cL_tolerances 526 = .ok (.iload 9, 2) := by decide +kernel
theorem dL_tolerances_528 : decode cL_tolerances 528 = .ok (.invokevirtual 83, 3) := by decide +kernel
theorem dL_tolerances_531 : decode cL_tolerances 531 = .ok (.iload 13, 2) := by decide +kernel
theorem dL_tolerances_533 : decode cL_tolerances 533 = .ok (.if_icmp .ne 8, 3) := by decide +kernel
theorem dL_tolerances_536 : decode cL_tolerances 536 = .ok (.iload 13, 2) := by decide +kernel
theorem dL_tolerances_538 : decode cL_tolerances 538 = .ok (.ifCond .ge 5, 3) := by decide +kernel
theorem dL_tolerances_541 : decode cL_tolerances 541 = .ok (.iconst 0, 1) := by decide +kernel
theorem dL_tolerances_542 : decode cL_tolerances 542 = .ok (.ireturn, 1) := by decide +kernel
theorem dL_tolerances_543 : decode cL_tolerances 543 = .ok (.iinc 12 1, 3) := by decide +kernel
theorem dL_tolerances_546 : decode cL_tolerances 546 = .ok (.goto (-120), 3) := by decide +kernel
theorem dL_tolerances_549 : decode cL_tolerances 549 = .ok (.aload_n 0, 1) := by decide +kernel
theorem dL_tolerances_550 : decode cL_tolerances 550 = .ok (.iload 8, 2) := by decide +kernel
theorem dL_tolerances_552 : decode cL_tolerances 552 = .ok (.iload 9, 2) := by decide +kernel
theorem dL_tolerances_554 : decode cL_tolerances 554 = .ok (.invokevirtual 80, 3) := by decide +kernel
theorem dL_tolerances_557 : decode cL_tolerances 557 = .ok (.iload 10, 2) := by decide +kernel
theorem dL_tolerances_559 : decode cL_tolerances 559 = .ok (.if_icmp .ne 7, 3) := by decide +kernel
theorem dL_tolerances_562 : decode cL_tolerances 562 = .ok (.iconst 1, 1) := by decide +kernel
theorem dL_tolerances_563 : decode cL_tolerances 563 = .ok (.goto 4, 3) := by decide +kernel
theorem dL_tolerances_566 : decode cL_tolerances 566 = .ok (.iconst 0, 1) := by decide +kernel
theorem dL_tolerances_567 : decode cL_tolerances 567 = .ok (.ireturn, 1) := by decide +kernel
theorem dL_law_0 : decode cL_law 0 = .ok (.new 21, 3) := by decide +kernel
theorem dL_law_3 : decode cL_law 3 = .ok (.dup, 1) := by decide +kernel
theorem dL_law_4 : decode cL_law 4 = .ok (.invokespecial 86, 3) := by decide +kernel
theorem dL_law_7 : decode cL_law 7 = .ok (.astore_n 1, 1) := by decide +kernel
theorem dL_law_8 : decode cL_law 8 = .ok (.aload_n 1, 1) := by decide +kernel
theorem dL_law_9 : decode cL_law 9 = .ok (.aload_n 0, 1) := by decide +kernel
theorem dL_law_10 : decode cL_law 10 = .ok (.iconst 1, 1) := by decide +kernel
theorem dL_law_11 : decode cL_law 11 = .ok (.iconst 2, 1) := by decide +kernel
theorem dL_law_12 : decode cL_law 12 = .ok (.aload_n 0, 1) := by decide +kernel
theorem dL_law_13 : decode cL_law 13 = .ok (.iconst 0, 1) := by decide +kernel
theorem dL_law_14 : decode cL_law 14 = .ok (.invokestatic 10, 3) := by decide +kernel
theorem dL_law_17 : decode cL_law 17 = .ok (.iconst 5, 1) := by decide +kernel
theorem dL_law_18 : decode cL_law 18 = .ok (.invokestatic 16, 3) := by decide +kernel
theorem dL_law_21 : decode cL_law 21 = .ok (.iadd, 1) := by decide +kernel
theorem dL_law_22 : decode cL_law 22 = .ok (.iconst 1, 1) := by decide +kernel
theorem dL_law_23 : decode cL_law 23 = .ok (.aload_n 0, 1) := by decide +kernel
theorem dL_law_24 : decode cL_law 24 = .ok (.iconst 0, 1) := by decide +kernel
theorem dL_law_25 : decode cL_law 25 = .ok (.invokestatic 10, 3) := by decide +kernel
theorem dL_law_28 : decode cL_law 28 = .ok (.iconst 4, 1) := by decide +kernel
theorem dL_law_29 : decode cL_law 29 = .ok (.ishr, 1) := by decide +kernel
theorem dL_law_30 : decode cL_law 30 = .ok (.bipush 8, 2) := by decide +kernel
theorem dL_law_32 : decode cL_law 32 = .ok (.invokestatic 16, 3) := by decide +kernel
theorem dL_law_35 : decode cL_law 35 = .ok (.iadd, 1) := by decide +kernel
theorem dL_law_36 : decode cL_law 36 = .ok (.invokestatic 87, 3) := by decide +kernel
theorem dL_law_39 : decode cL_law 39 = .ok (.ifCond .ne 5, 3) := by decide +kernel
theorem dL_law_42 : decode cL_law 42 = .ok (.iconst 0, 1) := by decide +kernel
theorem dL_law_43 : decode cL_law 43 = .ok (.ireturn, 1) := by decide +kernel
theorem dL_law_44 : decode cL_law 44 = .ok (.aload_n 0, 1) := by decide +kernel
theorem dL_law_45 : decode cL_law 45 = .ok (.bipush 30, 2) := by decide +kernel
theorem dL_law_47 : decode cL_law 47 = .ok (.invokestatic 10, 3) := by decide +kernel
theorem dL_law_50 : decode cL_law 50 = .ok (.istore_n 2, 1) := by decide +kernel
theorem dL_law_51 : decode cL_law 51 = .ok (.iload_n 2, 1) := by decide +kernel
theorem dL_law_52 : decode cL_law 52 = .ok (.iconst 3, 1) := by decide +kernel
theorem dL_law_53 : decode cL_law 53 = .ok (.invokestatic 16, 3) := by decide +kernel
theorem dL_law_56 : decode cL_law 56 = .ok (.ifCond .ne 21, 3) := by decide +kernel
theorem dL_law_59 : decode cL_law 59 = .ok (.aload_n 1, 1) := by decide +kernel
theorem dL_law_60 : decode cL_law 60 = .ok (.iconst 1, 1) := by decide +kernel
theorem dL_law_61 : decode cL_law 61 = .ok (.iload_n 2, 1) := by decide +kernel
theorem dL_law_62 : decode cL_law 62 = .ok (.iconst 2, 1) := by decide +kernel
theorem dL_law_63 : decode cL_law 63 = .ok (.ishr, 1) := by decide +kernel
theorem dL_law_64 : decode cL_law 64 = .ok (.bipush 9, 2) := by decide +kernel
theorem dL_law_66 : decode cL_law 66 = .ok (.invokestatic 16, 3) := by decide +kernel
theorem dL_law_69 : decode cL_law 69 = .ok (.iadd, 1) := by decide +kernel
theorem dL_law_70 : decode cL_law 70 = .ok (.invokevirtual 91, 3) := by decide +kernel
theorem dL_law_73 : decode cL_law 73 = .ok (.iconst 3, 1) := by decide +kernel
theorem dL_law_74 : decode cL_law 74 = .ok (.if_icmp .ne 33, 3) := by decide +kernel
theorem dL_law_77 : decode cL_law 77 = .ok (.iload_n 2, 1) := by decide +kernel
theorem dL_law_78 : decode cL_law 78 = .ok (.bipush 6, 2) := by decide +kernel
theorem dL_law_80 : decode cL_law 80 = .ok (.ishr, 1) := by decide +kernel
theorem dL_law_81 : decode cL_law 81 = .ok (.iconst 3, 1) := by decide +kernel
theorem dL_law_82 : decode cL_law 82 = .ok (.invokestatic 16, 3) := by decide +kernel
theorem dL_law_85 : decode cL_law 85 = .ok (.ifCond .ne 24, 3) := by decide +kernel
theorem dL_law_88 : decode cL_law 88 = .ok (.aload_n 1, 1) := by decide +kernel
theorem dL_law_89 : decode cL_law 89 = .ok (.iconst 1, 1) := by decide +kernel
theorem dL_law_90 : decode cL_law 90 = .ok (.iload_n 2, 1) := by decide +kernel
theorem dL_law_91 : decode cL_law 91 = .ok (.bipush 8, 2) := by decide +kernel
theorem dL_law_93 : decode cL_law 93 = .ok (.ishr, 1) := by decide +kernel
theorem dL_law_94 : decode cL_law 94 = .ok (.bipush 9, 2) := by decide +kernel
theorem dL_law_96 : decode cL_law 96 = .ok (.invokestatic 16, 3) := by decide +kernel
theorem dL_law_99 : decode cL_law 99 = .ok (.iadd, 1) := by decide +kernel
theorem dL_law_100 : decode cL_law 100 = .ok (.invokevirtual 94, 3) := by decide +kernel
theorem dL_law_103 : decode cL_law 103 = .ok (.iconst 4, 1) := by decide +kernel
theorem dL_law_104 : decode cL_law 104 = .ok (.if_icmp .eq 5, 3) := by decide +kernel
theorem dL_law_107 : decode cL_law 107 = .ok (.iconst 0, 1) := by decide +kernel
theorem dL_law_108 : decode cL_law 108 = .ok (.ireturn, 1) := by decide +kernel
theorem dL_law_109 : decode cL_law 109 = .ok (.iconst 0, 1) := by decide +kernel
theorem dL_law_110 : decode cL_law 110 = .ok (.istore_n 3, 1) := by decide +kernel
theorem dL_law_111 : decode cL_law 111 = .ok (.iload_n 3, 1) := by decide +kernel
theorem dL_law_112 : decode cL_law 112 = .ok (.aload_n 1, 1) := by decide +kernel
theorem dL_law_113 : decode cL_law 113 = .ok (.iconst 1, 1) := by decide +kernel
theorem dL_law_114 : decode cL_law 114 = .ok (.invokevirtual 42, 3) := by decide +kernel
theorem dL_law_117 : decode cL_law 117 = .ok (.if_icmp .ge 19, 3) := by decide +kernel
theorem dL_law_120 : decode cL_law 120 = .ok (.aload_n 1, 1) := by decide +kernel
theorem dL_law_121 : decode cL_law 121 = .ok (.iload_n 3, 1) := by decide +kernel
theorem dL_law_122 : decode cL_law 122 = .ok (.invokestatic 97, 3) := by decide +kernel
theorem dL_law_125 : decode cL_law 125 = .ok (.ifCond .ne 5, 3) := by decide +kernel
theorem dL_law_128 : decode cL_law 128 = .ok (.iconst 0, 1) := by decide +kernel
theorem dL_law_129 : decode cL_law 129 = .ok (.ireturn, 1) := by decide +kernel
theorem dL_law_130 : decode cL_law 130 = .ok (.iinc 3 1, 3) := by decide +kernel
theorem dL_law_133 : decode cL_law 133 = .ok (.goto (-22), 3) := by decide +kernel
theorem dL_law_136 : decode cL_law 136 = .ok (.aload_n 1, 1) := by decide +kernel
theorem dL_law_137 : decode cL_law 137 = .ok (.invokestatic 100, 3) := by decide +kernel
theorem dL_law_140 : decode cL_law 140 = .ok (.ifCond .eq 23, 3) := by decide +kernel
theorem dL_law_143 : decode cL_law 143 = .ok (.aload_n 1, 1) := by decide +kernel
theorem dL_law_144 : decode cL_law 144 = .ok (.invokestatic 104, 3) := by decide +kernel
theorem dL_law_147 : decode cL_law 147 = .ok (.ifCond .eq 16, 3) := by decide +kernel
theorem dL_law_150 : decode cL_law 150 = .ok (.aload_n 1, 1) := by decide +kernel
theorem dL_law_151 : decode cL_law 151 = .ok (.aload_n 0, 1) := by decide +kernel
theorem dL_law_152 : decode cL_law 152 = .ok (.bipush 31, 2) := by decide +kernel
theorem dL_law_154 : decode cL_law 154 = .ok (.invokestatic 10, 3) := by decide +kernel
theorem dL_law_157 : decode cL_law 157 = .ok (.invokestatic 107, 3) := by decide +kernel
theorem dL_law_160 : decode cL_law 160 = .ok (.ifCond .ne 5, 3) := by decide +kernel
theorem dL_law_163 : decode cL_law 163 = .ok (.iconst 0, 1) := by decide +kernel
theorem dL_law_164 : decode cL_law 164 = .ok (.ireturn, 1) := by decide +kernel
theorem dL_law_165 : decode cL_law 165 = .ok (.aload_n 1, 1) := by decide +kernel
theorem dL_law_166 : decode cL_law 166 = .ok (.invokevirtual 76, 3) := by decide +kernel
theorem dL_law_169 : decode cL_law 169 = .ok (.istore_n 3, 1) := by decide +kernel
theorem dL_law_170 : decode cL_law 170 = .ok (.aload_n 1, 1) := by decide +kernel
theorem dL_law_171 : decode cL_law 171 = .ok (.iconst 1, 1) := by decide +kernel
theorem dL_law_172 : decode cL_law 172 = .ok (.invokevirtual 42, 3) := by decide +kernel
theorem dL_law_175 : decode cL_law 175 = .ok (.iconst 1, 1) := by decide +kernel
theorem dL_law_176 : decode cL_law 176 = .ok (.isub, 1) := by decide +kernel
theorem dL_law_177 : decode cL_law 177 = .ok (.istore 4, 2) := by decide +kernel
theorem dL_law_179 : decode cL_law 179 = .ok (.iload 4, 2) := by decide +kernel
theorem dL_law_181 : decode cL_law 181 = .ok (.ifCond .lt 77, 3) := by decide +kernel
theorem dL_law_184 : decode cL_law 184 = .ok (.aload_n 1, 1) := by decide +kernel
theorem dL_law_185 : decode cL_law 185 = .ok (.iload 4, 2) := by decide +kernel
theorem dL_law_187 : decode cL_law 187 = .ok (.bipush 11, 2) := by decide +kernel
theorem dL_law_189 : decode cL_law 189 = .ok (.invokevirtual 45, 3) := by decide +kernel
theorem dL_law_192 : decode cL_law 192 = .ok (.iconst 1, 1) := by decide +kernel
theorem dL_law_193 : decode cL_law 193 = .ok (.if_icmp .ne 7, 3) := by decide +kernel
theorem dL_law_196 : decode cL_law 196 = .ok (.iconst 1, 1) := by decide +kernel
theorem dL_law_197 : decode cL_law 197 = .ok (.goto 4, 3) := by decide +kernel
theorem dL_law_200 : decode cL_law 200 = .ok (.iconst 0, 1) := by decide +kernel
theorem dL_law_201 : decode cL_law 201 = .ok (.istore 5, 2) := by decide +kernel
theorem dL_law_203 : decode cL_law 203 = .ok (.aload_n 1, 1) := by decide +kernel
theorem dL_law_204 : decode cL_law 204 = .ok (.iconst 0, 1) := by decide +kernel
theorem dL_law_205 : decode cL_law 205 = .ok (.aload_n 1, 1) := by decide +kernel
theorem dL_law_206 : decode cL_law 206 = .ok (.iconst 0, 1) := by decide +kernel
theorem dL_law_207 : decode cL_law 207 = .ok (.invokevirtual 42, 3) := by decide +kernel
theorem dL_law_210 : decode cL_law 210 = .ok (.iconst 1, 1) := by decide +kernel
theorem dL_law_211 : decode cL_law 211 = .ok (.isub, 1) := by decide +kernel
theorem dL_law_212 : decode cL_law 212 = .ok (.iconst 1, 1) := by decide +kernel
theorem dL_law_213 : decode cL_law 213 = .ok (.invokevirtual 72, 3) := by decide +kernel
theorem dL_law_216 : decode cL_law 216 = .ok (.istore 6, 2) := by decide +kernel
theorem dL_law_218 : decode cL_law 218 = .ok (.iload 5, 2) := by decide +kernel
theorem dL_law_220 : decode cL_law 220 = .ok (.ifCond .eq 32, 3) := by decide +kernel
theorem dL_law_223 : decode cL_law 223 = .ok (.aload_n 1, 1) := by decide +kernel
theorem dL_law_224 : decode cL_law 224 = .ok (.iload 4, 2) := by decide +kernel
theorem dL_law_226 : decode cL_law 226 = .ok (.invokevirtual 110, 3) := by decide +kernel
theorem dL_law_229 : decode cL_law 229 = .ok (.ifCond .lt 21, 3) := by decide +kernel
theorem dL_law_232 : decode cL_law 232 = .ok (.aload_n 1, 1) := by decide +kernel
theorem dL_law_233 : decode cL_law 233 = .ok (.iconst 0, 1) := by decide +kernel
theorem dL_law_234 : decode cL_law 234 = .ok (.aload_n 1, 1) := by decide +kernel
theorem dL_law_235 : decode cL_law 235 = .ok (.iconst 0, 1) := by decide +kernel
theorem dL_law_236 : decode cL_law 236 = .ok (.invokevirtual 42, 3) := by decide +kernel
theorem dL_law_239 : decode cL_law 239 = .ok (.iconst 1, 1) := by decide +kernel
theorem dL_law_240 : decode cL_law 240 = .ok (.isub, 1) := by decide +kernel
theorem dL_law_241 : decode cL_law 241 = .ok (.iconst 1, 1) := by decide +kernel
theorem dL_law_242 : decode cL_law 242 = .ok (.invokevirtual 72, 3) := by decide +kernel
theorem dL_law_245 : decode cL_law 245 = .ok (.iload 6, 2) := by decide +kernel
theorem dL_law_247 : decode cL_law 247 = .ok (.if_icmp .eq 5, 3) := by decide +kernel
theorem dL_law_250 : decode cL_law 250 = .ok (.iconst 0, 1) := by decide +kernel
theorem dL_law_251 : decode cL_law 251 = .ok (.ireturn, 1) := by decide +kernel
theorem dL_law_252 : decode cL_law 252 = .ok (.iinc 4 (-1), 3) := by decide +kernel
theorem dL_law_255 : decode cL_law 255 = .ok (.goto (-76), 3) := by decide +kernel
theorem dL_law_258 : decode cL_law 258 = .ok (.aload_n 1, 1) := by decide +kernel
theorem dL_law_259 : decode cL_law 259 = .ok (.iconst 1, 1) := by decide +kernel
theorem dL_law_260 : decode cL_law 260 = .ok (.invokevirtual 42, 3) := by decide +kernel
theorem dL_law_263 : decode cL_law 263 = .ok (.iload_n 3, 1) := by decide +kernel
theorem dL_law_264 : decode cL_law 264 = .ok (.if_icmp .ne 24, 3) := by decide +kernel
theorem dL_law_267 : decode cL_law 267 = .ok (.aload_n 1, 1) := by decide +kernel
theorem dL_law_268 : decode cL_law 268 = .ok (.bipush 6, 2) := by decide +kernel
theorem dL_law_270 : decode cL_law 270 = .ok (.invokevirtual 42, 3) := by decide +kernel
theorem dL_law_273 : decode cL_law 273 = .ok (.ifCond .ne 15, 3) := by decide +kernel
theorem dL_law_276 : decode cL_law 276 = .ok (.aload_n 1, 1) := by decide +kernel
theorem dL_law_277 : decode cL_law 277 = .ok (.invokevirtual 76, 3) := by decide +kernel
theorem dL_law_280 : decode cL_law 280 = .ok (.iload_n 3, 1) := by decide +kernel
theorem dL_law_281 : decode cL_law 281 = .ok (.if_icmp .ne 7, 3) := by decide +kernel
theorem dL_law_284 : decode cL_law 284 = .ok (.iconst 1, 1) := by decide +kernel
theorem dL_law_285 : decode cL_law 285 = .ok (.goto 4, 3) := by decide +kernel
theorem dL_law_288 : decode cL_law 288 = .ok (.iconst 0, 1) := by decide +kernel
theorem dL_law_289 : decode cL_law 289 = .ok (.ireturn, 1) := by decide +kernel
