theorem dL_isEdited_40 : decode cL_isEdited 40 = .ok (.irem, 1) := by decide +kernel
theorem dL_isEdited_41 : decode cL_isEdited 41 = .ok (.invokevirtual 50, 3) := by decide +kernel
theorem dL_isEdited_44 : decode cL_isEdited 44 = .ok (.istore 8, 2) := by decide +kernel
theorem dL_isEdited_46 : decode cL_isEdited 46 = .ok (.iconst 1, 1) := by decide +kernel
theorem dL_isEdited_47 : decode cL_isEdited 47 = .ok (.istore 9, 2) := by decide +kernel
theorem dL_isEdited_49 : decode cL_isEdited 49 = .ok (.iload_n 3, 1) := by decide +kernel
theorem dL_isEdited_50 : decode cL_isEdited 50 = .ok (.iconst 2, 1) := by decide +kernel
theorem dL_isEdited_51 : decode cL_isEdited 51 = .ok (.if_icmp .ge 54, 3) := by decide +kernel
theorem dL_isEdited_54 : decode cL_isEdited 54 = .ok (.aload_n 0, 1) := by decide +kernel
theorem dL_isEdited_55 : decode cL_isEdited 55 = .ok (.iconst 0, 1) := by decide +kernel
theorem dL_isEdited_56 : decode cL_isEdited 56 = .ok (.iload_n 2, 1) := by decide +kernel
theorem dL_isEdited_57 : decode cL_isEdited 57 = .ok (.iconst 0, 1) := by decide +kernel
theorem dL_isEdited_58 : decode cL_isEdited 58 = .ok (.iconst 0, 1) := by decide +kernel
theorem dL_isEdited_59 : decode cL_isEdited 59 = .ok (.invokestatic 108, 3) := by decide +kernel
theorem dL_isEdited_62 : decode cL_isEdited 62 = .ok (.iload 5, 2) := by decide +kernel
theorem dL_isEdited_64 : decode cL_isEdited 64 = .ok (.if_icmp .ne 35, 3) := by decide +kernel
theorem dL_isEdited_67 : decode cL_isEdited 67 = .ok (.aload_n 0, 1) := by decide +kernel
theorem dL_isEdited_68 : decode cL_isEdited 68 = .ok (.iconst (-1), 1) := by decide +kernel
theorem dL_isEdited_69 : decode cL_isEdited 69 = .ok (.iload_n 2, 1) := by decide +kernel
theorem dL_isEdited_70 : decode cL_isEdited 70 = .ok (.invokevirtual 47, 3) := by decide +kernel
theorem dL_isEdited_73 : decode cL_isEdited 73 = .ok (.iconst 1, 1) := by decide +kernel
theorem dL_isEdited_74 : decode cL_isEdited 74 = .ok (.if_icmp .ne 25, 3) := by decide +kernel
theorem dL_isEdited_77 : decode cL_isEdited 77 = .ok (.aload_n 0, 1) := by decide +kernel
theorem dL_isEdited_78 : decode cL_isEdited 78 = .ok (.iconst (-1), 1) := by decide +kernel
theorem dL_isEdited_79 : decode cL_isEdited 79 = .ok (.iload_n 2, 1) := by decide +kernel
theorem dL_isEdited_80 : decode cL_isEdited 80 = .ok (.invokestatic 83, 3) := by decide +kernel
theorem dL_isEdited_83 : decode cL_isEdited 83 = .ok (.ifCond .ne 16, 3) := by decide +kernel
theorem dL_isEdited_86 : decode cL_isEdited 86 = .ok (.aload_n 0, 1) := by decide +kernel
theorem dL_isEdited_87 : decode cL_isEdited 87 = .ok (.iconst (-1), 1) := by decide +kernel
theorem dL_isEdited_88 : decode cL_isEdited 88 = .ok (.iload_n 2, 1) := by decide +kernel
theorem dL_isEdited_89 : decode cL_isEdited 89 = .ok (.invokevirtual 53, 3) := by decide +kernel
theorem dL_isEdited_92 : decode cL_isEdited 92 = .ok (.ifCond .ne 7, 3) := by decide +kernel
theorem dL_isEdited_95 : decode cL_isEdited 95 = .ok (.iconst 1, 1) := by decide +kernel
theorem dL_isEdited_96 : decode cL_isEdited 96 = .ok (.goto 4, 3) := by decide +kernel
theorem dL_isEdited_99 : decode cL_isEdited 99 = .ok (.iconst 0, 1) := by decide +kernel
theorem dL_isEdited_100 : decode cL_isEdited 100 = .ok (.istore 9, 2) := by decide +kernel
theorem dL_isEdited_102 : decode cL_isEdited 102 = .ok (.goto 520, 3) := by decide +kernel
theorem dL_isEdited_105 : decode cL_isEdited 105 = .ok (.iload_n 3, 1) := by decide +kernel
theorem dL_isEdited_106 : decode cL_isEdited 106 = .ok (.iconst 2, 1) := by decide +kernel
theorem dL_isEdited_107 : decode cL_isEdited 107 = .ok (.if_icmp .ne 74, 3) := by decide +kernel
theorem dL_isEdited_110 : decode cL_isEdited 110 = .ok (.aload_n 0, 1) := by decide +kernel
theorem dL_isEdited_111 : decode cL_isEdited 111 = .ok (.iconst 1, 1) := by decide +kernel
theorem dL_isEdited_112 : decode cL_isEdited 112 = .ok (.iload_n 2, 1) := by decide +kernel
theorem dL_isEdited_113 : decode cL_isEdited 113 = .ok (.iload 4, 2) := by decide +kernel
theorem dL_isEdited_115 : decode cL_isEdited 115 = .ok (.bipush 6, 2) := by decide +kernel
theorem dL_isEdited_117 : decode cL_isEdited 117 = .ok (.irem, 1) := by decide +kernel
theorem dL_isEdited_118 : decode cL_isEdited 118 = .ok (.iconst 0, 1) := by decide +kernel
theorem dL_isEdited_119 : decode cL_isEdited 119 = .ok (.invokestatic 108, 3) := by decide +kernel
theorem dL_isEdited_122 : decode cL_isEdited 122 = .ok (.iload 5, 2) := by decide +kernel
theorem dL_isEdited_124 : decode cL_isEdited 124 = .ok (.if_icmp .ne 51, 3) := by decide +kernel
theorem dL_isEdited_127 : decode cL_isEdited 127 = .ok (.aload_n 0, 1) := by decide +kernel
theorem dL_isEdited_128 : decode cL_isEdited 128 = .ok (.iconst (-1), 1) := by decide +kernel
theorem dL_isEdited_129 : decode cL_isEdited 129 = .ok (.iload_n 2, 1) := by decide +kernel
theorem dL_isEdited_130 : decode cL_isEdited 130 = .ok (.invokevirtual 47, 3) := by decide +kernel
theorem dL_isEdited_133 : decode cL_isEdited 133 = .ok (.iconst 2, 1) := by decide +kernel
theorem dL_isEdited_134 : decode cL_isEdited 134 = .ok (.if_icmp .ne 41, 3) := by decide +kernel
theorem dL_isEdited_137 : decode cL_isEdited 137 = .ok (.aload_n 0, 1) := by decide +kernel
theorem dL_isEdited_138 : decode cL_isEdited 138 = .ok (.iconst (-1), 1) := by decide +kernel
theorem dL_isEdited_139 : decode cL_isEdited 139 = .ok (.iload_n 2, 1) := by decide +kernel
theorem dL_isEdited_140 : decode cL_isEdited 140 = .ok (.iconst 0, 1) := by decide +kernel
theorem dL_isEdited_141 : decode cL_isEdited 141 = .ok (.invokevirtual 50, 3) := by decide +kernel
theorem dL_isEdited_144 : decode cL_isEdited 144 = .ok (.iload 4, 2) := by decide +kernel
theorem dL_isEdited_146 : decode cL_isEdited 146 = .ok (.bipush 6, 2) := by decide +kernel
theorem dL_isEdited_148 : decode cL_isEdited 148 = .ok (.irem, 1) := by decide +kernel
theorem dL_isEdited_149 : decode cL_isEdited 149 = .ok (.if_icmp .ne 26, 3) := by decide +kernel
theorem dL_isEdited_152 : decode cL_isEdited 152 = .ok (.aload_n 0, 1) := by decide +kernel
theorem dL_isEdited_153 : decode cL_isEdited 153 = .ok (.iconst (-1), 1) := by decide +kernel
theorem dL_isEdited_154 : decode cL_isEdited 154 = .ok (.iload_n 2, 1) := by decide +kernel
theorem dL_isEdited_155 : decode cL_isEdited 155 = .ok (.invokestatic 83, 3) := by decide +kernel
theorem dL_isEdited_158 : decode cL_isEdited 158 = .ok (.iconst 1, 1) := by decide +kernel
theorem dL_isEdited_159 : decode cL_isEdited 159 = .ok (.if_icmp .ne 16, 3) := by decide +kernel
theorem dL_isEdited_162 : decode cL_isEdited 162 = .ok (.aload_n 0, 1) := by decide +kernel
theorem dL_isEdited_163 : decode cL_isEdited 163 = .ok (.iconst (-1), 1) := by decide +kernel
theorem dL_isEdited_164 : decode cL_isEdited 164 = .ok (.iload_n 2, 1) := by decide +kernel
theorem dL_isEdited_165 : decode cL_isEdited 165 = .ok (.invokevirtual 53, 3) := by decide +kernel
theorem dL_isEdited_168 : decode cL_isEdited 168 = .ok (.ifCond .ne 7, 3) := by decide +kernel
theorem dL_isEdited_171 : decode cL_isEdited 171 = .ok (.iconst 1, 1) := by decide +kernel
theorem dL_isEdited_172 : decode cL_isEdited 172 = .ok (.goto 4, 3) := by decide +kernel
theorem dL_isEdited_175 : decode cL_isEdited 175 = .ok (.iconst 0, 1) := by decide +kernel
theorem dL_isEdited_176 : decode cL_isEdited 176 = .ok (.istore 9, 2) := by decide +kernel
theorem dL_isEdited_178 : decode cL_isEdited 178 = .ok (.goto 444, 3) := by decide +kernel
theorem dL_isEdited_181 : decode cL_isEdited 181 = .ok (.iload_n 3, 1) := by decide +kernel
theorem dL_isEdited_182 : decode cL_isEdited 182 = .ok (.iconst 3, 1) := by decide +kernel
theorem dL_isEdited_183 : decode cL_isEdited 183 = .ok (.if_icmp .ne 53, 3) := by decide +kernel
theorem dL_isEdited_186 : decode cL_isEdited 186 = .ok (.aload_n 0, 1) := by decide +kernel
theorem dL_isEdited_187 : decode cL_isEdited 187 = .ok (.iconst 2, 1) := by decide +kernel
theorem dL_isEdited_188 : decode cL_isEdited 188 = .ok (.iload_n 2, 1) := by decide +kernel
theorem dL_isEdited_189 : decode cL_isEdited 189 = .ok (.iconst 0, 1) := by decide +kernel
theorem dL_isEdited_190 : decode cL_isEdited 190 = .ok (.iconst 0, 1) := by decide +kernel
theorem dL_isEdited_191 : decode cL_isEdited 191 = .ok (.invokestatic 108, 3) := by decide +kernel
theorem dL_isEdited_194 : decode cL_isEdited 194 = .ok (.iload 5, 2) := by decide +kernel
theorem dL_isEdited_196 : decode cL_isEdited 196 = .ok (.if_icmp .ne 34, 3) := by decide +kernel
theorem dL_isEdited_199 : decode cL_isEdited 199 = .ok (.aload_n 0, 1) := by decide +kernel
theorem dL_isEdited_200 : decode cL_isEdited 200 = .ok (.iconst (-1), 1) := by decide +kernel
theorem dL_isEdited_201 : decode cL_isEdited 201 = .ok (.iload_n 2, 1) := by decide +kernel
theorem dL_isEdited_202 : decode cL_isEdited 202 = .ok (.invokevirtual 47, 3) := by decide +kernel
theorem dL_isEdited_205 : decode cL_isEdited 205 = .ok (.ifCond .ne 25, 3) := by decide +kernel
theorem dL_isEdited_208 : decode cL_isEdited 208 = .ok (.aload_n 0, 1) := by decide +kernel
theorem dL_isEdited_209 : decode cL_isEdited 209 = .ok (.iconst (-1), 1) := by decide +kernel
theorem dL_isEdited_210 : decode cL_isEdited 210 = .ok (.iload_n 2, 1) := by decide +kernel
theorem dL_isEdited_211 : decode cL_isEdited 211 = .ok (.invokevirtual 53, 3) := by decide +kernel
theorem dL_isEdited_214 : decode cL_isEdited 214 = .ok (.ifCond .ne 16, 3) := by decide +kernel
theorem dL_isEdited_217 : decode cL_isEdited 217 = .ok (.aload_n 0, 1) := by decide +kernel
theorem dL_isEdited_218 : decode cL_isEdited 218 = .ok (.iconst (-1), 1) := by decide +kernel
theorem dL_isEdited_219 : decode cL_isEdited 219 = .ok (.iload_n 2, 1) := by decide +kernel
theorem dL_isEdited_220 : decode cL_isEdited 220 = .ok (.invokestatic 83, 3) := by decide +kernel
theorem dL_isEdited_223 : decode cL_isEdited 223 = .ok (.ifCond .ne 7, 3) := by decide +kernel
theorem dL_isEdited_226 : decode cL_isEdited 226 = .ok (.iconst 1, 1) := by decide +kernel
theorem dL_isEdited_227 : decode cL_isEdited 227 = .ok (.goto 4, 3) := by decide +kernel
theorem dL_isEdited_230 : decode cL_isEdited 230 = .ok (.iconst 0, 1) := by decide +kernel
theorem dL_isEdited_231 : decode cL_isEdited 231 = .ok (.istore 9, 2) := by decide +kernel
theorem dL_isEdited_233 : decode cL_isEdited 233 = .ok (.goto 389, 3) := by decide +kernel
theorem dL_isEdited_236 : decode cL_isEdited 236 = .ok (.iload_n 3, 1) := by decide +kernel
theorem dL_isEdited_237 : decode cL_isEdited 237 = .ok (.bipush 17, 2) := by decide +kernel
theorem dL_isEdited_239 : decode cL_isEdited 239 = .ok (.if_icmp .ge 179, 3) := by decide +kernel
theorem dL_isEdited_242 : decode cL_isEdited 242 = .ok (.iload 4, 2) := by decide +kernel
theorem dL_isEdited_244 : decode cL_isEdited 244 = .ok (.iload 7, 2) := by decide +kernel
theorem dL_isEdited_246 : decode cL_isEdited 246 = .ok (.iconst 1, 1) := by decide +kernel
theorem dL_isEdited_247 : decode cL_isEdited 247 = .ok (.iadd, 1) := by decide +kernel
theorem dL_isEdited_248 : decode cL_isEdited 248 = .ok (.irem, 1) := by decide +kernel
theorem dL_isEdited_249 : decode cL_isEdited 249 = .ok (.istore 10, 2) := by decide +kernel
theorem dL_isEdited_251 : decode cL_isEdited 251 = .ok (.iload 4, 2) := by decide +kernel
theorem dL_isEdited_253 : decode cL_isEdited 253 = .ok (.bipush 13, 2) := by decide +kernel
theorem dL_isEdited_255 : decode cL_isEdited 255 = .ok (.idiv, 1) := by decide +kernel
theorem dL_isEdited_256 : decode cL_isEdited 256 = .ok (.iload 4, 2) := by decide +kernel
theorem dL_isEdited_258 : decode cL_isEdited 258 = .ok (.iconst 5, 1) := by decide +kernel
theorem dL_isEdited_259 : decode cL_isEdited 259 = .ok (.irem, 1) := by decide +kernel
theorem dL_isEdited_260 : decode cL_isEdited 260 = .ok (.ifCond .ne 8, 3) := by decide +kernel
theorem dL_isEdited_263 : decode cL_isEdited 263 = .ok (.bipush 10, 2) := by decide +kernel
theorem dL_isEdited_265 : decode cL_isEdited 265 = .ok (.goto 4, 3) := by decide +kernel
theorem dL_isEdited_268 : decode cL_isEdited 268 = .ok (.iconst 3, 1) := by decide +kernel
theorem dL_isEdited_269 : decode cL_isEdited 269 = .ok (.irem, 1) := by decide +kernel
theorem dL_isEdited_270 : decode cL_isEdited 270 = .ok (.istore 11, 2) := by decide +kernel
theorem dL_isEdited_272 : decode cL_isEdited 272 = .ok (.aload_n 0, 1) := by decide +kernel
theorem dL_isEdited_273 : decode cL_isEdited 273 = .ok (.iconst 3, 1) := by decide +kernel
theorem dL_isEdited_274 : decode cL_isEdited 274 = .ok (.iload_n 2, 1) := by decide +kernel
theorem dL_isEdited_275 : decode cL_isEdited 275 = .ok (.iload 10, 2) := by decide +kernel
theorem dL_isEdited_277 : decode cL_isEdited 277 = .ok (.iload 11, 2) := by decide +kernel
theorem dL_isEdited_279 : decode cL_isEdited 279 = .ok (.invokestatic 108, 3) := by decide +kernel
theorem dL_isEdited_282 : decode cL_isEdited 282 = .ok (.istore 12, 2) := by decide +kernel
theorem dL_isEdited_284 : decode cL_isEdited 284 = .ok (.iload 5, 2) := by decide +kernel
theorem dL_isEdited_286 : decode cL_isEdited 286 = .ok (.iconst 1, 1) := by decide +kernel
theorem dL_isEdited_287 : decode cL_isEdited 287 = .ok (.if_icmp .ne 10, 3) := by decide +kernel
theorem dL_isEdited_290 : decode cL_isEdited 290 = .ok (.iload 7, 2) := by decide +kernel
theorem dL_isEdited_292 : decode cL_isEdited 292 = .ok (.bipush 12, 2) := by decide +kernel
theorem dL_isEdited_294 : decode cL_isEdited 294 = .ok (.if_icmp .ne 26, 3) := by decide +kernel
theorem dL_isEdited_297 : decode cL_isEdited 297 = .ok (.iload 12, 2) := by decide +kernel
theorem dL_isEdited_299 : decode cL_isEdited 299 = .ok (.sipush (-1163), 3) := by decide +kernel
theorem dL_isEdited_302 : decode cL_isEdited 302 = .ok (.if_icmp .ne 16, 3) := by decide +kernel
theorem dL_isEdited_305 : decode cL_isEdited 305 = .ok (.aload_n 0, 1) := by decide +kernel
theorem dL_isEdited_306 : decode cL_isEdited 306 = .ok (.aload_n 1, 1) := by decide +kernel
theorem dL_isEdited_307 : decode cL_isEdited 307 = .ok (.iconst (-1), 1) := by decide +kernel
theorem dL_isEdited_308 : decode cL_isEdited 308 = .ok (.invokestatic 115, 3) := by decide +kernel
theorem dL_isEdited_311 : decode cL_isEdited 311 = .ok (.ifCond .eq 7, 3) := by decide +kernel
theorem dL_isEdited_314 : decode cL_isEdited 314 = .ok (.iconst 1, 1) := by decide +kernel
theorem dL_isEdited_315 : decode cL_isEdited 315 = .ok (.goto 4, 3) := by decide +kernel
theorem dL_isEdited_318 : decode cL_isEdited 318 = .ok (.iconst 0, 1) := by decide +kernel
theorem dL_isEdited_319 : decode cL_isEdited 319 = .ok (.ireturn, 1) := by decide +kernel
theorem dL_isEdited_320 : decode cL_isEdited 320 = .ok (.aload_n 0, 1) := by decide +kernel
theorem dL_isEdited_321 : decode cL_isEdited 321 = .ok (.iconst (-1), 1) := by decide +kernel
theorem dL_isEdited_322 : decode cL_isEdited 322 = .ok (.iload_n 2, 1) := by decide +kernel
theorem dL_isEdited_323 : decode cL_isEdited 323 = .ok (.iload 10, 2) := by decide +kernel
theorem dL_isEdited_325 : decode cL_isEdited 325 = .ok (.invokevirtual 50, 3) := by decide +kernel
theorem dL_isEdited_328 : decode cL_isEdited 328 = .ok (.istore 13, 2) := by decide +kernel
theorem dL_isEdited_330 : decode cL_isEdited 330 = .ok (.iload 12, 2) := by decide +kernel
theorem dL_isEdited_332 : decode cL_isEdited 332 = .ok (.iload 7, 2) := by decide +kernel
theorem dL_isEdited_334 : decode cL_isEdited 334 = .ok (.iconst 1, 1) := by decide +kernel
theorem dL_isEdited_335 : decode cL_isEdited 335 = .ok (.iadd, 1) := by decide +kernel
theorem dL_isEdited_336 : decode cL_isEdited 336 = .ok (.if_icmp .ne 76, 3) := by decide +kernel
theorem dL_isEdited_339 : decode cL_isEdited 339 = .ok (.iload 13, 2) := by decide +kernel
theorem dL_isEdited_341 : decode cL_isEdited 341 = .ok (.iload 11, 2) := by decide +kernel
theorem dL_isEdited_343 : decode cL_isEdited 343 = .ok (.if_icmp .ne 69, 3) := by decide +kernel
theorem dL_isEdited_346 : decode cL_isEdited 346 = .ok (.aload_n 0, 1) := by decide +kernel
theorem dL_isEdited_347 : decode cL_isEdited 347 = .ok (.iconst (-1), 1) := by decide +kernel
theorem dL_isEdited_348 : decode cL_isEdited 348 = .ok (.iload_n 2, 1) := by decide +kernel
theorem dL_isEdited_349 : decode cL_isEdited 349 = .ok (.invokestatic 83, 3) := by decide +kernel
theorem dL_isEdited_352 : decode cL_isEdited 352 = .ok (.iload 7, 2) := by decide +kernel
theorem dL_isEdited_354 : decode cL_isEdited 354 = .ok (.iconst 1, 1) := by decide +kernel
theorem dL_isEdited_355 : decode cL_isEdited 355 = .ok (.iadd, 1) := by decide +kernel
theorem dL_isEdited_356 : decode cL_isEdited 356 = .ok (.if_icmp .ne 56, 3) := by decide +kernel
theorem dL_isEdited_359 : decode cL_isEdited 359 = .ok (.iload 10, 2) := by decide +kernel
theorem dL_isEdited_361 : decode cL_isEdited 361 = .ok (.iload 7, 2) := by decide +kernel
theorem dL_isEdited_363 : decode cL_isEdited 363 = .ok (.if_icmp .eq 45, 3) := by decide +kernel
theorem dL_isEdited_366 : decode cL_isEdited 366 = .ok (.aload_n 0, 1) := by decide +kernel
theorem dL_isEdited_367 : decode cL_isEdited 367 = .ok (.iconst 4, 1) := by decide +kernel
theorem dL_isEdited_368 : decode cL_isEdited 368 = .ok (.iload_n 2, 1) := by decide +kernel
theorem dL_isEdited_369 : decode cL_isEdited 369 = .ok (.iload 10, 2) := by decide +kernel
theorem dL_isEdited_371 : decode cL_isEdited 371 = .ok (.iconst 0, 1) := by decide +kernel
theorem dL_isEdited_372 : decode cL_isEdited 372 = .ok (.invokestatic 108, 3) := by decide +kernel
theorem dL_isEdited_375 : decode cL_isEdited 375 = .ok (.iload 11, 2) := by decide +kernel
theorem dL_isEdited_377 : decode cL_isEdited 377 = .ok (.if_icmp .ne 35, 3) := by decide +kernel
theorem dL_isEdited_380 : decode cL_isEdited 380 = .ok (.aload_n 0, 1) := by decide +kernel
theorem dL_isEdited_381 : decode cL_isEdited 381 = .ok (.iconst (-1), 1) := by decide +kernel
theorem dL_isEdited_382 : decode cL_isEdited 382 = .ok (.iload_n 2, 1) := by decide +kernel
theorem dL_isEdited_383 : decode cL_isEdited 383 = .ok (.invokestatic 63, 3) := by decide +kernel
theorem dL_isEdited_386 : decode cL_isEdited 386 = .ok (.aload_n 1, 1) := by decide +kernel
theorem dL_isEdited_387 : decode cL_isEdited 387 = .ok (.iload_n 2, 1) := by decide +kernel
theorem dL_isEdited_388 : decode cL_isEdited 388 = .ok (.laload, 1) := by decide +kernel
theorem dL_isEdited_389 : decode cL_isEdited 389 = .ok (.lcmp, 1) := by decide +kernel
theorem dL_isEdited_390 : decode cL_isEdited 390 = .ok (.ifCond .ne 22, 3) := by decide +kernel
theorem dL_isEdited_393 : decode cL_isEdited 393 = .ok (.aload_n 0, 1) := by decide +kernel
theorem dL_isEdited_394 : decode cL_isEdited 394 = .ok (.iconst 3, 1) := by decide +kernel
theorem dL_isEdited_395 : decode cL_isEdited 395 = .ok (.iload_n 2, 1) := by decide +kernel
theorem dL_isEdited_396 : decode cL_isEdited 396 = .ok (.iload 10, 2) := by decide +kernel
theorem dL_isEdited_398 : decode cL_isEdited 398 = .ok (.iload 11, 2) := by decide +kernel
theorem dL_isEdited_400 : decode cL_isEdited 400 = .ok (.invokestatic 108, 3) := by decide +kernel
theorem dL_isEdited_403 : decode cL_isEdited 403 = .ok (.iload 12, 2) := by decide +kernel
theorem dL_isEdited_405 : decode cL_isEdited 405 = .ok (.if_icmp .ne 7, 3) := by decide +kernel
theorem dL_isEdited_408 : decode cL_isEdited 408 = .ok (.iconst 1, 1) := by decide +kernel
theorem dL_isEdited_409 : decode cL_isEdited 409 = .ok (.goto 4, 3) := by decide +kernel
theorem dL_isEdited_412 : decode cL_isEdited 412 = .ok (.iconst 0, 1) := by decide +kernel
theorem dL_isEdited_413 : decode cL_isEdited 413 = .ok (.istore 9, 2) := by decide +kernel
theorem dL_isEdited_415 : decode cL_isEdited 415 = .ok (.goto 207, 3) := by decide +kernel
theorem dL_isEdited_418 : decode cL_isEdited 418 = .ok (.iload_n 3, 1) := by decide +kernel
theorem dL_isEdited_419 : decode cL_isEdited 419 = .ok (.bipush 21, 2) := by decide +kernel
theorem dL_isEdited_421 : decode cL_isEdited 421 = .ok (.if_icmp .ge 131, 3) := by decide +kernel
theorem dL_isEdited_424 : decode cL_isEdited 424 = .ok (.iload 7, 2) := by decide +kernel
theorem dL_isEdited_426 : decode cL_isEdited 426 = .ok (.ifCond .ne 7, 3) := by decide +kernel
theorem dL_isEdited_429 : decode cL_isEdited 429 = .ok (.iconst 0, 1) := by decide +kernel
theorem dL_isEdited_430 : decode cL_isEdited 430 = .ok (.goto 8, 3) := by decide +kernel
theorem dL_isEdited_433 : decode cL_isEdited 433 = .ok (.iload 4, 2) := by decide +kernel
theorem dL_isEdited_435 : decode cL_isEdited 435 = .ok (.iload 7, 2) := by decide +kernel
theorem dL_isEdited_437 : decode cL_isEdited 437 = .ok (.irem, 1) := by decide +kernel
theorem dL_isEdited_438 : decode cL_isEdited 438 = .ok (.istore 10, 2) := by decide +kernel
theorem dL_isEdited_440 : decode cL_isEdited 440 = .ok (.iload 5, 2) := by decide +kernel
theorem dL_isEdited_442 : decode cL_isEdited 442 = .ok (.iconst 1, 1) := by decide +kernel
theorem dL_isEdited_443 : decode cL_isEdited 443 = .ok (.if_icmp .ne 19, 3) := by decide +kernel
theorem dL_isEdited_446 : decode cL_isEdited 446 = .ok (.iload 7, 2) := by decide +kernel
theorem dL_isEdited_448 : decode cL_isEdited 448 = .ok (.ifCond .le 14, 3) := by decide +kernel
theorem dL_isEdited_451 : decode cL_isEdited 451 = .ok (.aload_n 0, 1) := by decide +kernel
theorem dL_isEdited_452 : decode cL_isEdited 452 = .ok (.iconst (-1), 1) := by decide +kernel
theorem dL_isEdited_453 : decode cL_isEdited 453 = .ok (.iload_n 2, 1) := by decide +kernel
theorem dL_isEdited_454 : decode cL_isEdited 454 = .ok (.iload 10, 2) := by decide +kernel
theorem dL_isEdited_456 : decode cL_isEdited 456 = .ok (.invokevirtual 50, 3) := by decide +kernel
theorem dL_isEdited_459 : decode cL_isEdited 459 = .ok (.goto 4, 3) := by decide +kernel
theorem dL_isEdited_462 : decode cL_isEdited 462 = .ok (.iconst (-1), 1) := by decide +kernel
theorem dL_isEdited_463 : decode cL_isEdited 463 = .ok (.istore 11, 2) := by decide +kernel
theorem dL_isEdited_465 : decode cL_isEdited 465 = .ok (.aload_n 0, 1) := by decide +kernel
theorem dL_isEdited_466 : decode cL_isEdited 466 = .ok (.iconst 4, 1) := by decide +kernel
theorem dL_isEdited_467 : decode cL_isEdited 467 = .ok (.iload_n 2, 1) := by decide +kernel
theorem dL_isEdited_468 : decode cL_isEdited 468 = .ok (.iload 10, 2) := by decide +kernel
theorem dL_isEdited_470 : decode cL_isEdited 470 = .ok (.iconst 0, 1) := by decide +kernel
theorem dL_isEdited_471 : decode cL_isEdited 471 = .ok (.invokestatic 108, 3) := by decide +kernel
theorem dL_isEdited_474 : decode cL_isEdited 474 = .ok (.istore 12, 2) := by decide +kernel
theorem dL_isEdited_476 : decode cL_isEdited 476 = .ok (.iload 5, 2) := by decide +kernel
theorem dL_isEdited_478 : decode cL_isEdited 478 = .ok (.iconst 1, 1) := by decide +kernel
theorem dL_isEdited_479 : decode cL_isEdited 479 = .ok (.if_icmp .ne 8, 3) := by decide +kernel
theorem dL_isEdited_482 : decode cL_isEdited 482 = .ok (.iload 7, 2) := by decide +kernel
theorem dL_isEdited_484 : decode cL_isEdited 484 = .ok (.ifCond .ne 38, 3) := by decide +kernel
theorem dL_isEdited_487 : decode cL_isEdited 487 = .ok (.iload 12, 2) := by decide +kernel
theorem dL_isEdited_489 : decode cL_isEdited 489 = .ok (.iload 5, 2) := by decide +kernel
theorem dL_isEdited_491 : decode cL_isEdited 491 = .ok (.iconst 1, 1) := by decide +kernel
theorem dL_isEdited_492 : decode cL_isEdited 492 = .ok (.if_icmp .eq 9, 3) := by decide +kernel
theorem dL_isEdited_495 : decode cL_isEdited 495 = .ok (.sipush (-1163), 3) := by decide +kernel
theorem dL_isEdited_498 : decode cL_isEdited 498 = .ok (.goto 6, 3) := by decide +kernel
theorem dL_isEdited_501 : decode cL_isEdited 501 = .ok (.sipush (-1162), 3) := by decide +kernel
theorem dL_isEdited_504 : decode cL_isEdited 504 = .ok (.if_icmp .ne 16, 3) := by decide +kernel
theorem dL_isEdited_507 : decode cL_isEdited 507 = .ok (.aload_n 0, 1) := by decide +kernel
theorem dL_isEdited_508 : decode cL_isEdited 508 = .ok (.aload_n 1, 1) := by decide +kernel
theorem dL_isEdited_509 : decode cL_isEdited 509 = .ok (.iconst (-1), 1) := by decide +kernel
theorem dL_isEdited_510 : decode cL_isEdited 510 = .ok (.invokestatic 115, 3) := by decide +kernel
theorem dL_isEdited_513 : decode cL_isEdited 513 = .ok (.ifCond .eq 7, 3) := by decide +kernel
theorem dL_isEdited_516 : decode cL_isEdited 516 = .ok (.iconst 1, 1) := by decide +kernel
theorem dL_isEdited_517 : decode cL_isEdited 517 = .ok (.goto 4, 3) := by decide +kernel
theorem dL_isEdited_520 : decode cL_isEdited 520 = .ok (.iconst 0, 1) := by decide +kernel
theorem dL_isEdited_521 : decode cL_isEdited 521 = .ok (.ireturn, 1) := by decide +kernel
theorem dL_isEdited_522 : decode cL_isEdited 522 = .ok (.iload 12, 2) := by decide +kernel
theorem dL_isEdited_524 : decode cL_isEdited 524 = .ok (.iload 11, 2) := by decide +kernel
theorem dL_isEdited_526 : decode cL_isEdited 526 = .ok (.if_icmp .ne 20, 3) := by decide +kernel
theorem dL_isEdited_529 : decode cL_isEdited 529 = .ok (.aload_n 0, 1) := by decide +kernel
theorem dL_isEdited_530 : decode cL_isEdited 530 = .ok (.iconst (-1), 1) := by decide +kernel
theorem dL_isEdited_531 : decode cL_isEdited 531 = .ok (.iload_n 2, 1) := by decide +kernel
theorem dL_isEdited_532 : decode cL_isEdited 532 = .ok (.invokestatic 83, 3) := by decide +kernel
theorem dL_isEdited_535 : decode cL_isEdited 535 = .ok (.iload 7, 2) := by decide +kernel
theorem dL_isEdited_537 : decode cL_isEdited 537 = .ok (.iconst 1, 1) := by decide +kernel
theorem dL_isEdited_538 : decode cL_isEdited 538 = .ok (.isub, 1) := by decide +kernel
theorem dL_isEdited_539 : decode cL_isEdited 539 = .ok (.if_icmp .ne 7, 3) := by decide +kernel
theorem dL_isEdited_542 : decode cL_isEdited 542 = .ok (.iconst 1, 1) := by decide +kernel
theorem dL_isEdited_543 : decode cL_isEdited 543 = .ok (.goto 4, 3) := by decide +kernel
theorem dL_isEdited_546 : decode cL_isEdited 546 = .ok (.iconst 0, 1) := by decide +kernel
theorem dL_isEdited_547 : decode cL_isEdited 547 = .ok (.istore 9, 2) := by decide +kernel
theorem dL_isEdited_549 : decode cL_isEdited 549 = .ok (.goto 73, 3) := by decide +kernel
theorem dL_isEdited_552 : decode cL_isEdited 552 = .ok (.aload_n 0, 1) := by decide +kernel
theorem dL_isEdited_553 : decode cL_isEdited 553 = .ok (.iconst 5, 1) := by decide +kernel
theorem dL_isEdited_554 : decode cL_isEdited 554 = .ok (.iload_n 2, 1) := by decide +kernel
theorem dL_isEdited_555 : decode cL_isEdited 555 = .ok (.iload 4, 2) := by decide +kernel
theorem dL_isEdited_557 : decode cL_isEdited 557 = .ok (.bipush 8, 2) := by decide +kernel
theorem dL_isEdited_559 : decode cL_isEdited 559 = .ok (.irem, 1) := by decide +kernel
theorem dL_isEdited_560 : decode cL_isEdited 560 = .ok (.iconst 0, 1) := by decide +kernel
theorem dL_isEdited_561 : decode cL_isEdited 561 = .ok (.invokestatic 108, 3) := by decide +kernel
theorem dL_isEdited_564 : decode cL_isEdited 564 = .ok (.iload 5, 2) := by decide +kernel
theorem dL_isEdited_566 : decode cL_isEdited 566 = .ok (.ifCond .ne 9, 3) := by decide +kernel
theorem dL_isEdited_569 : decode cL_isEdited 569 = .ok (.sipush (-1163), 3) := by decide +kernel
theorem dL_isEdited_572 : decode cL_isEdited 572 = .ok (.goto 5, 3) := by decide +kernel
theorem dL_isEdited_575 : decode cL_isEdited 575 = .ok (.iload 6, 2) := by decide +kernel
theorem dL_isEdited_577 : decode cL_isEdited 577 = .ok (.if_icmp .ne 42, 3) := by decide +kernel
theorem dL_isEdited_580 : decode cL_isEdited 580 = .ok (.iload 5, 2) := by decide +kernel
theorem dL_isEdited_582 : decode cL_isEdited 582 = .ok (.ifCond .eq 33, 3) := by decide +kernel
theorem dL_isEdited_585 : decode cL_isEdited 585 = .ok (.aload_n 0, 1) := by decide +kernel
theorem dL_isEdited_586 : decode cL_isEdited 586 = .ok (.iconst (-1), 1) := by decide +kernel
theorem dL_isEdited_587 : decode cL_isEdited 587 = .ok (.iload_n 2, 1) := by decide +kernel
theorem dL_isEdited_588 : decode cL_isEdited 588 = .ok (.invokevirtual 53, 3) := by decide +kernel
theorem dL_isEdited_591 : decode cL_isEdited 591 = .ok (.iload 4, 2) := by decide +kernel
theorem dL_isEdited_593 : decode cL_isEdited 593 = .ok (.bipush 8, 2) := by decide +kernel
theorem dL_isEdited_595 : decode cL_isEdited 595 = .ok (.irem, 1) := by decide +kernel
theorem dL_isEdited_596 : decode cL_isEdited 596 = .ok (.if_icmp .ne 23, 3) := by decide +kernel
theorem dL_isEdited_599 : decode cL_isEdited 599 = .ok (.aload_n 0, 1) := by decide +kernel
theorem dL_isEdited_600 : decode cL_isEdited 600 = .ok (.iconst (-1), 1) := by decide +kernel
theorem dL_isEdited_601 : decode cL_isEdited 601 = .ok (.iload_n 2, 1) := by decide +kernel
theorem dL_isEdited_602 : decode cL_isEdited 602 = .ok (.iload 4, 2) := by decide +kernel
theorem dL_isEdited_604 : decode cL_isEdited 604 = .ok (.bipush 12, 2) := by decide +kernel
theorem dL_isEdited_606 : decode cL_isEdited 606 = .ok (.irem, 1) := by decide +kernel
theorem dL_isEdited_607 : decode cL_isEdited 607 = .ok (.invokevirtual 50, 3) := by decide +kernel
theorem dL_isEdited_610 : decode cL_isEdited 610 = .ok (.iload 8, 2) := by decide +kernel
theorem dL_isEdited_612 : decode cL_isEdited 612 = .ok (.if_icmp .ne 7, 3) := by decide +kernel
theorem dL_isEdited_615 : decode cL_isEdited 615 = .ok (.iconst 1, 1) := by decide +kernel
theorem dL_isEdited_616 : decode cL_isEdited 616 = .ok (.goto 4, 3) := by decide +kernel
theorem dL_isEdited_619 : decode cL_isEdited 619 = .ok (.iconst 0, 1) := by decide +kernel
theorem dL_isEdited_620 : decode cL_isEdited 620 = .ok (.istore 9, 2) := by decide +kernel
theorem dL_isEdited_622 : decode cL_isEdited 622 = .ok (.iload 9, 2) := by decide +kernel
theorem dL_isEdited_624 : decode cL_isEdited 624 = .ok (.ifCond .eq 16, 3) := by decide +kernel
theorem dL_isEdited_627 : decode cL_isEdited 627 = .ok (.aload_n 0, 1) := by decide +kernel
theorem dL_isEdited_628 : decode cL_isEdited 628 = .ok (.aload_n 1, 1) := by decide +kernel
theorem dL_isEdited_629 : decode cL_isEdited 629 = .ok (.iload_n 2, 1) := by decide +kernel
theorem dL_isEdited_630 : decode cL_isEdited 630 = .ok (.invokestatic 115, 3) := by decide +kernel
theorem dL_isEdited_633 : decode cL_isEdited 633 = .ok (.ifCond .eq 7, 3) := by decide +kernel
theorem dL_isEdited_636 : decode cL_isEdited 636 = .ok (.iconst 1, 1) := by decide +kernel
theorem dL_isEdited_637 : decode cL_isEdited 637 = .ok (.goto 4, 3) := by decide +kernel
theorem dL_isEdited_640 : decode cL_isEdited 640 = .ok (.iconst 0, 1) := by decide +kernel
theorem dL_isEdited_641 : decode cL_isEdited 641 = .ok (.ireturn, 1) := by decide +kernel
set_option maxRecDepth 20000 in
theorem ggL_isRun_X1_needs : GoodIn wsL_isRun wsX1_needs := goodIn_r _ [5, 6, 7, 8, 4, 9, 10, 11, 12, 13, 14, 15, 16, 17, 18, 19, 20, 21, 22, 23, 24, 25, 26, 27, 28, 156, 157, 158, 159, 160, 161, 162, 163, 164] rfl (by decide +kernel)
set_option maxRecDepth 20000 in
theorem gL_isRun_X1_needs : GoodIn wsL_isRun (wsV RL 80 RX1 yX1_needs wsX1_needs) := goodIn_app (goodIn_of _ (by decide +kernel)) ggL_isRun_X1_needs
set_option maxRecDepth 20000 in
theorem ggL_isRun_X1_size : GoodIn wsL_isRun wsX1_size := goodIn_r _ [32, 33, 12, 34, 35, 36, 4, 37, 11, 38, 39, 40, 13, 14, 15, 16, 17, 18, 19, 20, 21, 22, 23, 24, 25, 26, 27, 28, 41, 42, 43, 44, 45, 46, 47, 48, 49, 50, 156, 157, 158, 159, 160, 161, 162, 163, 164] rfl (by decide +kernel)
set_option maxRecDepth 20000 in
theorem gL_isRun_X1_size : GoodIn wsL_isRun (wsV RL 91 RX1 yX1_size wsX1_size) := goodIn_app (goodIn_of _ (by decide +kernel)) ggL_isRun_X1_size
set_option maxRecDepth 20000 in
theorem ggL_isRun_L_act : GoodIn wsL_isRun wsL_act := goodIn_ca (goodIn_ca (goodIn_ca (goodIn_r _ [54, 55, 56, 57, 58, 59, 60, 4, 61, 62, 63, 19, 64, 65, 66, 67, 68, 69, 70, 71, 72, 73, 74, 75, 21, 22, 23, 76, 77, 78, 79, 10, 39, 80, 81, 82, 83, 84, 85, 86, 87, 88, 89, 90, 91, 92, 93, 94, 95, 40, 38, 96, 97, 98, 99, 100, 101, 102, 103, 104, 105, 106, 107, 108, 109, 110, 111, 112, 113, 12, 114, 115, 11, 116, 117, 118, 119, 6, 7, 8, 9, 13, 14, 15, 16, 17, 18, 20, 24, 25, 26, 27, 28, 120, 121, 122, 123, 33, 124, 125, 126, 127, 128, 129, 130, 131, 162, 163, 164, 156, 157, 158, 159, 160, 161] rfl (by decide +kernel)) (goodIn_sub (fun _ h => List.mem_cons_of_mem _ (List.mem_append_left _ (List.mem_append_left _ (List.mem_append_right _ h)))) (by decide +kernel))) (goodIn_sub (fun _ h => List.mem_cons_of_mem _ (List.mem_append_left _ (List.mem_append_right _ h))) (by decide +kernel))) (goodIn_sub (fun _ h => List.mem_cons_of_mem _ (List.mem_append_right _ h)) (by decide +kernel))
set_option maxRecDepth 20000 in
theorem gL_isRun_L_act : GoodIn wsL_isRun (va_wsS RL 108 yL_act wsL_act) := goodIn_app (goodIn_of _ (by decide +kernel)) ggL_isRun_L_act
set_option maxRecDepth 20000 in
theorem ggL_isRun_L_isOnly : GoodIn wsL_isRun wsL_isOnly := goodIn_ca (goodIn_r _ [134, 135, 136, 53, 137, 138, 139, 140, 141, 142, 4, 143, 39, 144, 145, 146, 147, 10, 11, 128, 129, 130, 131, 68, 69, 33, 12, 65, 66, 67, 13, 14, 15, 148, 149, 150, 151, 38, 152, 153, 154, 155, 40, 162, 163, 164, 156, 157, 158, 159, 160, 161] rfl (by decide +kernel)) (goodIn_sub (fun _ h => List.mem_cons_of_mem _ (List.mem_append_left _ (List.mem_append_left _ (List.mem_append_right _ h)))) (by decide +kernel))
set_option maxRecDepth 20000 in
theorem gL_isRun_L_isOnly : GoodIn wsL_isRun (va_wsS RL 115 yL_isOnly wsL_isOnly) := goodIn_app (goodIn_of _ (by decide +kernel)) ggL_isRun_L_isOnly
theorem dL_isRun_0 : decode cL_isRun 0 = .ok (.aload_n 0, 1) := by decide +kernel
theorem dL_isRun_1 : decode cL_isRun 1 = .ok (.invokevirtual 80, 3) := by decide +kernel
theorem dL_isRun_4 : decode cL_isRun 4 = .ok (.istore 5, 2) := by decide +kernel
theorem dL_isRun_6 : decode cL_isRun 6 = .ok (.aload_n 0, 1) := by decide +kernel
theorem dL_isRun_7 : decode cL_isRun 7 = .ok (.invokevirtual 91, 3) := by decide +kernel
theorem dL_isRun_10 : decode cL_isRun 10 = .ok (.istore 6, 2) := by decide +kernel
theorem dL_isRun_12 : decode cL_isRun 12 = .ok (.iload 4, 2) := by decide +kernel
theorem dL_isRun_14 : decode cL_isRun 14 = .ok (.iload 5, 2) := by decide +kernel
theorem dL_isRun_16 : decode cL_isRun 16 = .ok (.if_icmp .lt 7, 3) := by decide +kernel
theorem dL_isRun_19 : decode cL_isRun 19 = .ok (.iconst 1, 1) := by decide +kernel
theorem dL_isRun_20 : decode cL_isRun 20 = .ok (.goto 4, 3) := by decide +kernel
theorem dL_isRun_23 : decode cL_isRun 23 = .ok (.iconst 0, 1) := by decide +kernel
theorem dL_isRun_24 : decode cL_isRun 24 = .ok (.istore 7, 2) := by decide +kernel
theorem dL_isRun_26 : decode cL_isRun 26 = .ok (.aload_n 0, 1) := by decide +kernel
theorem dL_isRun_27 : decode cL_isRun 27 = .ok (.bipush 6, 2) := by decide +kernel
theorem dL_isRun_29 : decode cL_isRun 29 = .ok (.iload 4, 2) := by decide +kernel
theorem dL_isRun_31 : decode cL_isRun 31 = .ok (.iconst 0, 1) := by decide +kernel
theorem dL_isRun_32 : decode cL_isRun 32 = .ok (.iconst 0, 1) := by decide +kernel
theorem dL_isRun_33 : decode cL_isRun 33 = .ok (.invokestatic 108, 3) := by decide +kernel
theorem dL_isRun_36 : decode cL_isRun 36 = .ok (.istore 8, 2) := by decide +kernel
theorem dL_isRun_38 : decode cL_isRun 38 = .ok (.aload_n 3, 1) := by decide +kernel
theorem dL_isRun_39 : decode cL_isRun 39 = .ok (.iconst 2, 1) := by decide +kernel
theorem dL_isRun_40 : decode cL_isRun 40 = .ok (.iload 7, 2) := by decide +kernel
theorem dL_isRun_42 : decode cL_isRun 42 = .ok (.ifCond .eq 7, 3) := by decide +kernel
theorem dL_isRun_45 : decode cL_isRun 45 = .ok (.iconst (-1), 1) := by decide +kernel
theorem dL_isRun_46 : decode cL_isRun 46 = .ok (.goto 5, 3) := by decide +kernel
theorem dL_isRun_49 : decode cL_isRun 49 = .ok (.iload 4, 2) := by decide +kernel
theorem dL_isRun_51 : decode cL_isRun 51 = .ok (.iastore, 1) := by decide +kernel
theorem dL_isRun_52 : decode cL_isRun 52 = .ok (.aload_n 3, 1) := by decide +kernel
theorem dL_isRun_53 : decode cL_isRun 53 = .ok (.iconst 0, 1) := by decide +kernel
theorem dL_isRun_54 : decode cL_isRun 54 = .ok (.dup2, 1) := by decide +kernel
theorem dL_isRun_55 : decode cL_isRun 55 = .ok (.iaload, 1) := by decide +kernel
theorem dL_isRun_56 : decode cL_isRun 56 = .ok (.iload 7, 2) := by decide +kernel
theorem dL_isRun_58 : decode cL_isRun 58 = .ok (.ifCond .eq 7, 3) := by decide +kernel
theorem dL_isRun_61 : decode cL_isRun 61 = .ok (.iconst 1, 1) := by decide +kernel
theorem dL_isRun_62 : decode cL_isRun 62 = .ok (.goto 4, 3) := by decide +kernel
theorem dL_isRun_65 : decode cL_isRun 65 = .ok (.iconst 0, 1) := by decide +kernel
theorem dL_isRun_66 : decode cL_isRun 66 = .ok (.iadd, 1) := by decide +kernel
theorem dL_isRun_67 : decode cL_isRun 67 = .ok (.iastore, 1) := by decide +kernel
theorem dL_isRun_68 : decode cL_isRun 68 = .ok (.iconst 0, 1) := by decide +kernel
theorem dL_isRun_69 : decode cL_isRun 69 = .ok (.istore 9, 2) := by decide +kernel
theorem dL_isRun_71 : decode cL_isRun 71 = .ok (.iload 9, 2) := by decide +kernel
theorem dL_isRun_73 : decode cL_isRun 73 = .ok (.bipush 6, 2) := by decide +kernel
theorem dL_isRun_75 : decode cL_isRun 75 = .ok (.if_icmp .ge 32, 3) := by decide +kernel
theorem dL_isRun_78 : decode cL_isRun 78 = .ok (.iload 7, 2) := by decide +kernel
theorem dL_isRun_80 : decode cL_isRun 80 = .ok (.ifCond .eq 27, 3) := by decide +kernel
theorem dL_isRun_83 : decode cL_isRun 83 = .ok (.aload_n 1, 1) := by decide +kernel
theorem dL_isRun_84 : decode cL_isRun 84 = .ok (.bipush 6, 2) := by decide +kernel
theorem dL_isRun_86 : decode cL_isRun 86 = .ok (.aload_n 3, 1) := by decide +kernel
theorem dL_isRun_87 : decode cL_isRun 87 = .ok (.iconst 0, 1) := by decide +kernel
theorem dL_isRun_88 : decode cL_isRun 88 = .ok (.iaload, 1) := by decide +kernel
theorem dL_isRun_89 : decode cL_isRun 89 = .ok (.bipush 10, 2) := by decide +kernel
theorem dL_isRun_91 : decode cL_isRun 91 = .ok (.irem, 1) := by decide +kernel
theorem dL_isRun_92 : decode cL_isRun 92 = .ok (.imul, 1) := by decide +kernel
theorem dL_isRun_93 : decode cL_isRun 93 = .ok (.iload 9, 2) := by decide +kernel
theorem dL_isRun_95 : decode cL_isRun 95 = .ok (.iadd, 1) := by decide +kernel
theorem dL_isRun_96 : decode cL_isRun 96 = .ok (.aload_n 2, 1) := by decide +kernel
theorem dL_isRun_97 : decode cL_isRun 97 = .ok (.iload 9, 2) := by decide +kernel
theorem dL_isRun_99 : decode cL_isRun 99 = .ok (.laload, 1) := by decide +kernel
theorem dL_isRun_100 : decode cL_isRun 100 = .ok (.lastore, 1) := by decide +kernel
theorem dL_isRun_101 : decode cL_isRun 101 = .ok (.iinc 9 1, 3) := by decide +kernel
theorem dL_isRun_104 : decode cL_isRun 104 = .ok (.goto (-33), 3) := by decide +kernel
theorem dL_isRun_107 : decode cL_isRun 107 = .ok (.iload 8, 2) := by decide +kernel
theorem dL_isRun_109 : decode cL_isRun 109 = .ok (.iload 7, 2) := by decide +kernel
theorem dL_isRun_111 : decode cL_isRun 111 = .ok (.ifCond .eq 9, 3) := by decide +kernel
theorem dL_isRun_114 : decode cL_isRun 114 = .ok (.aload_n 3, 1) := by decide +kernel
theorem dL_isRun_115 : decode cL_isRun 115 = .ok (.iconst 0, 1) := by decide +kernel
theorem dL_isRun_116 : decode cL_isRun 116 = .ok (.iaload, 1) := by decide +kernel
theorem dL_isRun_117 : decode cL_isRun 117 = .ok (.goto 4, 3) := by decide +kernel
theorem dL_isRun_120 : decode cL_isRun 120 = .ok (.iconst (-1), 1) := by decide +kernel
theorem dL_isRun_121 : decode cL_isRun 121 = .ok (.if_icmp .ne 72, 3) := by decide +kernel
theorem dL_isRun_124 : decode cL_isRun 124 = .ok (.aload_n 0, 1) := by decide +kernel
theorem dL_isRun_125 : decode cL_isRun 125 = .ok (.aload_n 2, 1) := by decide +kernel
theorem dL_isRun_126 : decode cL_isRun 126 = .ok (.iconst (-1), 1) := by decide +kernel
theorem dL_isRun_127 : decode cL_isRun 127 = .ok (.invokestatic 115, 3) := by decide +kernel
theorem dL_isRun_130 : decode cL_isRun 130 = .ok (.ifCond .eq 63, 3) := by decide +kernel
theorem dL_isRun_133 : decode cL_isRun 133 = .ok (.iload 7, 2) := by decide +kernel
theorem dL_isRun_135 : decode cL_isRun 135 = .ok (.ifCond .eq 36, 3) := by decide +kernel
theorem dL_isRun_138 : decode cL_isRun 138 = .ok (.aload_n 0, 1) := by decide +kernel
theorem dL_isRun_139 : decode cL_isRun 139 = .ok (.invokevirtual 80, 3) := by decide +kernel
theorem dL_isRun_142 : decode cL_isRun 142 = .ok (.ifCond .ne 51, 3) := by decide +kernel
theorem dL_isRun_145 : decode cL_isRun 145 = .ok (.aload_n 0, 1) := by decide +kernel
theorem dL_isRun_146 : decode cL_isRun 146 = .ok (.invokevirtual 91, 3) := by decide +kernel
theorem dL_isRun_149 : decode cL_isRun 149 = .ok (.iload 6, 2) := by decide +kernel
theorem dL_isRun_151 : decode cL_isRun 151 = .ok (.if_icmp .lt 42, 3) := by decide +kernel
theorem dL_isRun_154 : decode cL_isRun 154 = .ok (.iload 5, 2) := by decide +kernel
theorem dL_isRun_156 : decode cL_isRun 156 = .ok (.ifCond .gt 33, 3) := by decide +kernel
theorem dL_isRun_159 : decode cL_isRun 159 = .ok (.aload_n 0, 1) := by decide +kernel
theorem dL_isRun_160 : decode cL_isRun 160 = .ok (.invokevirtual 91, 3) := by decide +kernel
theorem dL_isRun_163 : decode cL_isRun 163 = .ok (.iload 6, 2) := by decide +kernel
theorem dL_isRun_165 : decode cL_isRun 165 = .ok (.if_icmp .ne 28, 3) := by decide +kernel
theorem dL_isRun_168 : decode cL_isRun 168 = .ok (.goto 21, 3) := by decide +kernel
theorem dL_isRun_171 : decode cL_isRun 171 = .ok (.aload_n 0, 1) := by decide +kernel
theorem dL_isRun_172 : decode cL_isRun 172 = .ok (.invokevirtual 80, 3) := by decide +kernel
theorem dL_isRun_175 : decode cL_isRun 175 = .ok (.iload 5, 2) := by decide +kernel
theorem dL_isRun_177 : decode cL_isRun 177 = .ok (.if_icmp .ne 16, 3) := by decide +kernel
theorem dL_isRun_180 : decode cL_isRun 180 = .ok (.aload_n 0, 1) := by decide +kernel
theorem dL_isRun_181 : decode cL_isRun 181 = .ok (.invokevirtual 91, 3) := by decide +kernel
theorem dL_isRun_184 : decode cL_isRun 184 = .ok (.iload 6, 2) := by decide +kernel
theorem dL_isRun_186 : decode cL_isRun 186 = .ok (.if_icmp .ne 7, 3) := by decide +kernel
theorem dL_isRun_189 : decode cL_isRun 189 = .ok (.iconst 1, 1) := by decide +kernel
theorem dL_isRun_190 : decode cL_isRun 190 = .ok (.goto 4, 3) := by decide +kernel
theorem dL_isRun_193 : decode cL_isRun 193 = .ok (.iconst 0, 1) := by decide +kernel
theorem dL_isRun_194 : decode cL_isRun 194 = .ok (.ireturn, 1) := by decide +kernel
set_option maxRecDepth 20000 in
theorem ggL_law_X1_init : GoodIn wsL_law wsX1_init := goodIn_r _ [7, 8, 9, 10, 11, 12, 13, 4, 14, 15, 16, 17, 18, 19, 20, 21, 22, 23, 24, 25, 26, 231, 232, 233, 225, 226, 227, 228, 229, 230] rfl (by decide +kernel)
set_option maxRecDepth 20000 in
theorem gL_law_X1_init : GoodIn wsL_law (wsX1_init) := ggL_law_X1_init
set_option maxRecDepth 20000 in
theorem ggL_law_L_takes : GoodIn wsL_law wsL_takes := goodIn_ca (goodIn_r _ [30, 31, 32, 29, 33, 34, 35, 36, 37, 38, 2, 39, 40, 41, 42, 43, 44, 14, 15, 45, 46, 47, 48, 49, 50, 16, 17, 51, 52, 53, 54, 55, 56, 57, 58, 59, 60, 61, 62, 63, 64, 65, 66, 231, 232, 233, 225, 226, 227, 228, 229, 230] rfl (by decide +kernel)) (goodIn_sub (fun _ h => List.mem_append_left _ (List.mem_append_left _ (List.mem_append_right _ h))) (by decide +kernel))
set_option maxRecDepth 20000 in
theorem gL_law_L_takes : GoodIn wsL_law (va_wsS RL 120 yL_takes wsL_takes) := goodIn_app (goodIn_of _ (by decide +kernel)) ggL_law_L_takes
set_option maxRecDepth 20000 in
theorem ggL_law_L_isRefused : GoodIn wsL_law wsL_isRefused := goodIn_ca (goodIn_ca (goodIn_ca (goodIn_r _ [69, 70, 71, 29, 72, 73, 74, 75, 76, 77, 78, 79, 80, 2, 81, 17, 82, 83, 84, 85, 16, 86, 87, 88, 89, 90, 91, 92, 93, 14, 15, 54, 55, 56, 94, 95, 96, 13, 97, 24, 25, 26, 98, 99, 100, 101, 102, 103, 104, 105, 106, 107, 108, 109, 110, 61, 40, 66, 111, 112, 113, 114, 115, 116, 117, 118, 119, 120, 121, 122, 123, 124, 18, 31, 32, 33, 34, 35, 36, 37, 38, 39, 41, 42, 43, 44, 45, 46, 47, 48, 49, 50, 51, 52, 53, 57, 58, 59, 60, 62, 63, 64, 65, 125, 126, 127, 128, 129, 130, 131, 132, 133, 134, 11, 12, 4, 20, 21, 22, 23, 9, 10, 135, 136, 137, 138, 139, 140, 141, 142, 143, 144, 145, 146, 147, 148, 149, 150, 151, 152, 153, 154, 155, 156, 157, 158, 159, 160, 161, 162, 163, 164, 165, 166, 167, 168, 169, 170, 171, 172, 19, 173, 174, 175, 176, 177, 178, 179, 180, 181, 182, 183, 184, 185, 186, 187, 188, 189, 190, 191, 192, 193, 194, 225, 226, 227, 228, 229, 230, 231, 232, 233] rfl (by decide +kernel)) (goodIn_sub (fun _ h => List.mem_append_left _ (List.mem_append_left _ (List.mem_append_right _ h))) (by decide +kernel))) (goodIn_sub (fun _ h => List.mem_append_left _ (List.mem_append_right _ h)) (by decide +kernel))) (goodIn_sub (fun _ h => List.mem_append_right _ h) (by decide +kernel))
set_option maxRecDepth 20000 in
theorem gL_law_L_isRefused : GoodIn wsL_law (va_wsS RL 124 yL_isRefused wsL_isRefused) := goodIn_app (goodIn_of _ (by decide +kernel)) ggL_law_L_isRefused
set_option maxRecDepth 20000 in
theorem ggL_law_X1_mend : GoodIn wsL_law wsX1_mend := goodIn_r _ [198, 173, 174, 175, 2, 176, 19, 18, 225, 226, 227, 228, 229, 230] rfl (by decide +kernel)
set_option maxRecDepth 20000 in
theorem gL_law_X1_mend : GoodIn wsL_law (wsV RL 128 RX1 yX1_mend wsX1_mend) := goodIn_app (goodIn_of _ (by decide +kernel)) ggL_law_X1_mend
set_option maxRecDepth 20000 in
theorem ggL_law_L_dice : GoodIn wsL_law wsL_dice := goodIn_r _ [201, 202, 203] rfl (by decide +kernel)
set_option maxRecDepth 20000 in
theorem gL_law_L_dice : GoodIn wsL_law (va_wsS RL 131 yL_dice wsL_dice) := goodIn_app (goodIn_of _ (by decide +kernel)) ggL_law_L_dice
set_option maxRecDepth 20000 in
theorem ggL_law_L_isEdited : GoodIn wsL_law wsL_isEdited := goodIn_ca (goodIn_ca (goodIn_ca (goodIn_r _ [206, 36, 37, 38, 2, 39, 40, 41, 42, 43, 44, 14, 15, 45, 46, 47, 48, 49, 50, 16, 17, 51, 52, 53, 54, 55, 56, 57, 58, 59, 60, 61, 192, 193, 29, 194, 62, 63, 64, 65, 66, 125, 126, 127, 128, 129, 130, 131, 132, 133, 134, 11, 12, 13, 4, 20, 21, 22, 23, 9, 10, 24, 25, 26, 135, 136, 137, 138, 139, 140, 141, 142, 143, 144, 145, 146, 147, 148, 149, 150, 151, 152, 153, 154, 155, 156, 157, 158, 159, 160, 161, 162, 163, 164, 165, 166, 167, 168, 169, 170, 171, 172, 18, 19, 173, 174, 175, 176, 90, 91, 92, 93, 94, 95, 96, 97, 98, 99, 100, 101, 102, 177, 178, 179, 180, 181, 182, 183, 184, 207, 208, 209, 31, 32, 33, 34, 35, 231, 232, 233, 225, 226, 227, 228, 229, 230] rfl (by decide +kernel)) (goodIn_sub (fun _ h => List.mem_append_left _ (List.mem_append_left _ (List.mem_append_right _ h))) (by decide +kernel))) (goodIn_sub (fun _ h => List.mem_append_left _ (List.mem_append_right _ h)) (by decide +kernel))) (goodIn_sub (fun _ h => List.mem_append_right _ h) (by decide +kernel))
set_option maxRecDepth 20000 in
theorem gL_law_L_isEdited : GoodIn wsL_law (va_wsS RL 135 yL_isEdited wsL_isEdited) := goodIn_app (goodIn_of _ (by decide +kernel)) ggL_law_L_isEdited
set_option maxRecDepth 20000 in
theorem ggL_law_L_isRun : GoodIn wsL_law wsL_isRun := goodIn_ca (goodIn_ca (goodIn_ca (goodIn_r _ [212, 86, 87, 88, 2, 89, 90, 91, 92, 93, 14, 15, 17, 54, 55, 56, 94, 95, 96, 13, 97, 24, 25, 26, 98, 99, 100, 101, 102, 103, 104, 105, 106, 16, 107, 108, 109, 110, 61, 40, 66, 111, 112, 113, 114, 115, 116, 117, 118, 119, 120, 125, 126, 29, 127, 128, 129, 130, 131, 132, 133, 134, 11, 12, 4, 51, 52, 53, 49, 50, 20, 21, 22, 23, 9, 10, 135, 136, 137, 138, 139, 140, 141, 142, 143, 144, 145, 146, 147, 148, 149, 150, 151, 152, 153, 154, 155, 156, 157, 158, 159, 160, 161, 162, 163, 164, 165, 166, 167, 168, 169, 170, 171, 172, 18, 19, 173, 174, 175, 176, 177, 178, 179, 180, 181, 182, 183, 184, 45, 46, 47, 48, 207, 208, 209, 31, 32, 33, 34, 35, 36, 37, 38, 39, 41, 42, 43, 44, 57, 58, 59, 60, 62, 63, 64, 65, 225, 226, 227, 228, 229, 230, 231, 232, 233] rfl (by decide +kernel)) (goodIn_sub (fun _ h => List.mem_append_left _ (List.mem_append_left _ (List.mem_append_right _ h))) (by decide +kernel))) (goodIn_sub (fun _ h => List.mem_append_left _ (List.mem_append_right _ h)) (by decide +kernel))) (goodIn_sub (fun _ h => List.mem_append_right _ h) (by decide +kernel))
set_option maxRecDepth 20000 in
theorem gL_law_L_isRun : GoodIn wsL_law (va_wsS RL 139 yL_isRun wsL_isRun) := goodIn_app (goodIn_of _ (by decide +kernel)) ggL_law_L_isRun
set_option maxRecDepth 20000 in
theorem ggL_law_L_isOnly : GoodIn wsL_law wsL_isOnly := goodIn_ca (goodIn_r _ [209, 31, 32, 29, 33, 34, 35, 36, 37, 38, 2, 39, 40, 41, 42, 43, 44, 14, 15, 45, 46, 47, 48, 49, 50, 16, 17, 51, 52, 53, 54, 55, 56, 57, 58, 59, 60, 61, 62, 63, 64, 65, 66, 231, 232, 233, 225, 226, 227, 228, 229, 230] rfl (by decide +kernel)) (goodIn_sub (fun _ h => List.mem_append_left _ (List.mem_append_left _ (List.mem_append_right _ h))) (by decide +kernel))
set_option maxRecDepth 20000 in
theorem gL_law_L_isOnly : GoodIn wsL_law (va_wsS RL 115 yL_isOnly wsL_isOnly) := goodIn_app (goodIn_of _ (by decide +kernel)) ggL_law_L_isOnly
set_option maxRecDepth 20000 in
theorem ggL_law_L_act : GoodIn wsL_law wsL_act := goodIn_ca (goodIn_ca (goodIn_ca (goodIn_r _ [127, 128, 129, 130, 131, 132, 133, 2, 134, 11, 12, 13, 4, 51, 52, 53, 49, 50, 20, 21, 22, 23, 9, 10, 24, 25, 26, 135, 136, 137, 138, 14, 40, 139, 140, 141, 142, 143, 144, 145, 146, 147, 148, 149, 150, 151, 152, 153, 154, 66, 61, 155, 156, 157, 158, 159, 160, 161, 162, 163, 164, 165, 166, 167, 168, 169, 170, 171, 172, 17, 18, 19, 15, 173, 174, 175, 176, 90, 91, 92, 93, 54, 55, 56, 94, 95, 96, 97, 98, 99, 100, 101, 102, 177, 178, 179, 180, 16, 181, 182, 183, 184, 45, 46, 47, 48, 231, 232, 233, 225, 226, 227, 228, 229, 230] rfl (by decide +kernel)) (goodIn_sub (fun _ h => List.mem_append_left _ (List.mem_append_left _ (List.mem_append_right _ h))) (by decide +kernel))) (goodIn_sub (fun _ h => List.mem_append_left _ (List.mem_append_right _ h)) (by decide +kernel))) (goodIn_sub (fun _ h => List.mem_append_right _ h) (by decide +kernel))
set_option maxRecDepth 20000 in
theorem gL_law_L_act : GoodIn wsL_law (va_wsS RL 108 yL_act wsL_act) := goodIn_app (goodIn_of _ (by decide +kernel)) ggL_law_L_act
set_option maxRecDepth 20000 in
theorem ggL_law_L_told : GoodIn wsL_law wsL_told := goodIn_ca (goodIn_r _ [33, 34, 35, 36, 37, 38, 2, 39, 40, 41, 42, 43, 44, 14, 15, 45, 46, 47, 48, 49, 50, 16, 17, 51, 52, 53, 54, 55, 56, 57, 58, 59, 60, 61, 62, 63, 64, 65, 66, 231, 232, 233, 225, 226, 227, 228, 229, 230] rfl (by decide +kernel)) (goodIn_sub (fun _ h => List.mem_append_left _ (List.mem_append_left _ (List.mem_append_right _ h))) (by decide +kernel))
set_option maxRecDepth 20000 in
theorem gL_law_L_told : GoodIn wsL_law (va_wsS RL 63 yL_told wsL_told) := goodIn_app (goodIn_of _ (by decide +kernel)) ggL_law_L_told
set_option maxRecDepth 20000 in
theorem ggL_law_L_isHead : GoodIn wsL_law wsL_isHead := goodIn_ca (goodIn_r _ [215, 31, 32, 29, 33, 34, 35, 36, 37, 38, 2, 39, 40, 41, 42, 43, 44, 14, 15, 45, 46, 47, 48, 49, 50, 16, 17, 51, 52, 53, 54, 55, 56, 57, 58, 59, 60, 61, 62, 63, 64, 65, 66, 78, 79, 80, 81, 82, 83, 84, 85, 121, 122, 123, 124, 18, 86, 87, 88, 89, 90, 91, 92, 93, 94, 95, 96, 13, 97, 24, 25, 26, 98, 99, 100, 101, 102, 231, 232, 233, 225, 226, 227, 228, 229, 230] rfl (by decide +kernel)) (goodIn_sub (fun _ h => List.mem_append_left _ (List.mem_append_left _ (List.mem_append_right _ h))) (by decide +kernel))
set_option maxRecDepth 20000 in
theorem gL_law_L_isHead : GoodIn wsL_law (va_wsS RL 143 yL_isHead wsL_isHead) := goodIn_app (goodIn_of _ (by decide +kernel)) ggL_law_L_isHead
set_option maxRecDepth 20000 in
theorem ggL_law_L_isDate : GoodIn wsL_law wsL_isDate := goodIn_ca (goodIn_r _ [218, 36, 37, 38, 2, 39, 40, 41, 42, 43, 44, 14, 15, 45, 46, 47, 48, 49, 50, 16, 17, 51, 52, 53, 54, 55, 56, 31, 32, 29, 33, 34, 35, 57, 58, 59, 60, 61, 62, 63, 64, 65, 66, 192, 193, 194, 188, 189, 190, 191, 107, 108, 109, 110, 94, 95, 96, 13, 97, 24, 25, 26, 98, 99, 100, 101, 102, 111, 112, 113, 114, 115, 116, 117, 118, 119, 120, 219, 220, 221, 231, 232, 233, 225, 226, 227, 228, 229, 230] rfl (by decide +kernel)) (goodIn_sub (fun _ h => List.mem_append_left _ (List.mem_append_left _ (List.mem_append_right _ h))) (by decide +kernel))
set_option maxRecDepth 20000 in
theorem gL_law_L_isDate : GoodIn wsL_law (va_wsS RL 147 yL_isDate wsL_isDate) := goodIn_app (goodIn_of _ (by decide +kernel)) ggL_law_L_isDate
set_option maxRecDepth 20000 in
theorem ggL_law_L_isSum : GoodIn wsL_law wsL_isSum := goodIn_ca (goodIn_r _ [224, 82, 83, 84, 2, 85, 16, 78, 79, 80, 81, 17, 188, 189, 190, 191, 45, 46, 47, 48, 49, 50, 51, 52, 53, 107, 108, 109, 110, 15, 61, 40, 66, 54, 55, 56, 94, 95, 96, 13, 97, 24, 25, 26, 98, 99, 100, 101, 102, 111, 112, 113, 114, 115, 116, 117, 118, 119, 120, 103, 104, 105, 106, 225, 226, 227, 228, 229, 230, 231, 232, 233] rfl (by decide +kernel)) (goodIn_sub (fun _ h => List.mem_append_left _ (List.mem_append_left _ (List.mem_append_right _ h))) (by decide +kernel))
set_option maxRecDepth 20000 in
theorem gL_law_L_isSum : GoodIn wsL_law (va_wsS RL 151 yL_isSum wsL_isSum) := goodIn_app (goodIn_of _ (by decide +kernel)) ggL_law_L_isSum
theorem dL_law_0 : decode cL_law 0 = .ok (.new 10, 3) := by decide +kernel
theorem dL_law_3 : decode cL_law 3 = .ok (.dup, 1) := by decide +kernel
theorem dL_law_4 : decode cL_law 4 = .ok (.invokespecial 119, 3) := by decide +kernel
theorem dL_law_7 : decode cL_law 7 = .ok (.astore_n 1, 1) := by decide +kernel
theorem dL_law_8 : decode cL_law 8 = .ok (.bipush 60, 2) := by decide +kernel
theorem dL_law_10 : decode cL_law 10 = .ok (.newarray .long, 2) := by decide +kernel
theorem dL_law_12 : decode cL_law 12 = .ok (.astore_n 2, 1) := by decide +kernel
theorem dL_law_13 : decode cL_law 13 = .ok (.bipush 6, 2) := by decide +kernel
theorem dL_law_15 : decode cL_law 15 = .ok (.newarray .long, 2) := by decide +kernel
theorem dL_law_17 : decode cL_law 17 = .ok (.astore_n 3, 1) := by decide +kernel
theorem dL_law_18 : decode cL_law 18 = .ok (.iconst 3, 1) := by decide +kernel
theorem dL_law_19 : decode cL_law 19 = .ok (.newarray .int, 2) := by decide +kernel
theorem dL_law_21 : decode cL_law 21 = .ok (.astore 4, 2) := by decide +kernel
theorem dL_law_23 : decode cL_law 23 = .ok (.aload 4, 2) := by decide +kernel
theorem dL_law_25 : decode cL_law 25 = .ok (.iconst 2, 1) := by decide +kernel
theorem dL_law_26 : decode cL_law 26 = .ok (.iconst (-1), 1) := by decide +kernel
theorem dL_law_27 : decode cL_law 27 = .ok (.iastore, 1) := by decide +kernel
theorem dL_law_28 : decode cL_law 28 = .ok (.aload_n 1, 1) := by decide +kernel
theorem dL_law_29 : decode cL_law 29 = .ok (.aload_n 3, 1) := by decide +kernel
theorem dL_law_30 : decode cL_law 30 = .ok (.invokestatic 120, 3) := by decide +kernel
theorem dL_law_33 : decode cL_law 33 = .ok (.iconst 0, 1) := by decide +kernel
theorem dL_law_34 : decode cL_law 34 = .ok (.istore 5, 2) := by decide +kernel
theorem dL_law_36 : decode cL_law 36 = .ok (.iload 5, 2) := by decide +kernel
theorem dL_law_38 : decode cL_law 38 = .ok (.bipush 6, 2) := by decide +kernel
theorem dL_law_40 : decode cL_law 40 = .ok (.if_icmp .ge 17, 3) := by decide +kernel
theorem dL_law_43 : decode cL_law 43 = .ok (.aload_n 2, 1) := by decide +kernel
theorem dL_law_44 : decode cL_law 44 = .ok (.iload 5, 2) := by decide +kernel
theorem dL_law_46 : decode cL_law 46 = .ok (.aload_n 3, 1) := by decide +kernel
theorem dL_law_47 : decode cL_law 47 = .ok (.iload 5, 2) := by decide +kernel
theorem dL_law_49 : decode cL_law 49 = .ok (.laload, 1) := by decide +kernel
theorem dL_law_50 : decode cL_law 50 = .ok (.lastore, 1) := by decide +kernel
theorem dL_law_51 : decode cL_law 51 = .ok (.iinc 5 1, 3) := by decide +kernel
theorem dL_law_54 : decode cL_law 54 = .ok (.goto (-18), 3) := by decide +kernel
theorem dL_law_57 : decode cL_law 57 = .ok (.aload_n 1, 1) := by decide +kernel
theorem dL_law_58 : decode cL_law 58 = .ok (.aload 4, 2) := by decide +kernel
theorem dL_law_60 : decode cL_law 60 = .ok (.iconst 0, 1) := by decide +kernel
theorem dL_law_61 : decode cL_law 61 = .ok (.invokestatic 124, 3) := by decide +kernel
theorem dL_law_64 : decode cL_law 64 = .ok (.ifCond .eq 24, 3) := by decide +kernel
theorem dL_law_67 : decode cL_law 67 = .ok (.aload_n 1, 1) := by decide +kernel
theorem dL_law_68 : decode cL_law 68 = .ok (.aload 4, 2) := by decide +kernel
theorem dL_law_70 : decode cL_law 70 = .ok (.iconst 1, 1) := by decide +kernel
theorem dL_law_71 : decode cL_law 71 = .ok (.invokestatic 124, 3) := by decide +kernel
theorem dL_law_74 : decode cL_law 74 = .ok (.ifCond .eq 14, 3) := by decide +kernel
theorem dL_law_77 : decode cL_law 77 = .ok (.aload_n 1, 1) := by decide +kernel
theorem dL_law_78 : decode cL_law 78 = .ok (.invokevirtual 128, 3) := by decide +kernel
theorem dL_law_81 : decode cL_law 81 = .ok (.ifCond .ne 7, 3) := by decide +kernel
theorem dL_law_84 : decode cL_law 84 = .ok (.iconst 1, 1) := by decide +kernel
theorem dL_law_85 : decode cL_law 85 = .ok (.goto 4, 3) := by decide +kernel
theorem dL_law_88 : decode cL_law 88 = .ok (.iconst 0, 1) := by decide +kernel
theorem dL_law_89 : decode cL_law 89 = .ok (.istore 5, 2) := by decide +kernel
theorem dL_law_91 : decode cL_law 91 = .ok (.iconst 0, 1) := by decide +kernel
theorem dL_law_92 : decode cL_law 92 = .ok (.istore 6, 2) := by decide +kernel
theorem dL_law_94 : decode cL_law 94 = .ok (.iload 6, 2) := by decide +kernel
theorem dL_law_96 : decode cL_law 96 = .ok (.bipush 90, 2) := by decide +kernel
theorem dL_law_98 : decode cL_law 98 = .ok (.if_icmp .ge 589, 3) := by decide +kernel
theorem dL_law_101 : decode cL_law 101 = .ok (.iload 5, 2) := by decide +kernel
theorem dL_law_103 : decode cL_law 103 = .ok (.ifCond .eq 584, 3) := by decide +kernel
theorem dL_law_106 : decode cL_law 106 = .ok (.aload_n 0, 1) := by decide +kernel
theorem dL_law_107 : decode cL_law 107 = .ok (.iload 6, 2) := by decide +kernel
theorem dL_law_109 : decode cL_law 109 = .ok (.invokestatic 131, 3) := by decide +kernel
theorem dL_law_112 : decode cL_law 112 = .ok (.istore 7, 2) := by decide +kernel
theorem dL_law_114 : decode cL_law 114 = .ok (.iload 7, 2) := by decide +kernel
theorem dL_law_116 : decode cL_law 116 = .ok (.bipush 32, 2) := by decide +kernel
theorem dL_law_118 : decode cL_law 118 = .ok (.idiv, 1) := by decide +kernel
theorem dL_law_119 : decode cL_law 119 = .ok (.istore 8, 2) := by decide +kernel
theorem dL_law_121 : decode cL_law 121 = .ok (.iload 7, 2) := by decide +kernel
theorem dL_law_123 : decode cL_law 123 = .ok (.bipush 32, 2) := by decide +kernel
theorem dL_law_125 : decode cL_law 125 = .ok (.irem, 1) := by decide +kernel
theorem dL_law_126 : decode cL_law 126 = .ok (.istore 9, 2) := by decide +kernel
theorem dL_law_128 : decode cL_law 128 = .ok (.iload 8, 2) := by decide +kernel
theorem dL_law_130 : decode cL_law 130 = .ok (.bipush 12, 2) := by decide +kernel
theorem dL_law_132 : decode cL_law 132 = .ok (.idiv, 1) := by decide +kernel
theorem dL_law_133 : decode cL_law 133 = .ok (.istore 10, 2) := by decide +kernel
theorem dL_law_135 : decode cL_law 135 = .ok (.aload_n 1, 1) := by decide +kernel
theorem dL_law_136 : decode cL_law 136 = .ok (.aload_n 3, 1) := by decide +kernel
theorem dL_law_137 : decode cL_law 137 = .ok (.invokestatic 120, 3) := by decide +kernel
theorem dL_law_140 : decode cL_law 140 = .ok (.iload 9, 2) := by decide +kernel
theorem dL_law_142 : decode cL_law 142 = .ok (.bipush 22, 2) := by decide +kernel
theorem dL_law_144 : decode cL_law 144 = .ok (.if_icmp .ge 41, 3) := by decide +kernel
theorem dL_law_147 : decode cL_law 147 = .ok (.aload_n 1, 1) := by decide +kernel
theorem dL_law_148 : decode cL_law 148 = .ok (.aload_n 3, 1) := by decide +kernel
theorem dL_law_149 : decode cL_law 149 = .ok (.iload 8, 2) := by decide +kernel
theorem dL_law_151 : decode cL_law 151 = .ok (.iconst 4, 1) := by decide +kernel
theorem dL_law_152 : decode cL_law 152 = .ok (.irem, 1) := by decide +kernel
theorem dL_law_153 : decode cL_law 153 = .ok (.iconst 3, 1) := by decide +kernel
theorem dL_law_154 : decode cL_law 154 = .ok (.if_icmp .ge 12, 3) := by decide +kernel
theorem dL_law_157 : decode cL_law 157 = .ok (.iload 8, 2) := by decide +kernel
theorem dL_law_159 : decode cL_law 159 = .ok (.iconst 4, 1) := by decide +kernel
theorem dL_law_160 : decode cL_law 160 = .ok (.idiv, 1) := by decide +kernel
theorem dL_law_161 : decode cL_law 161 = .ok (.iconst 3, 1) := by decide +kernel
theorem dL_law_162 : decode cL_law 162 = .ok (.irem, 1) := by decide +kernel
theorem dL_law_163 : decode cL_law 163 = .ok (.goto 10, 3) := by decide +kernel
theorem dL_law_166 : decode cL_law 166 = .ok (.iload 8, 2) := by decide +kernel
theorem dL_law_168 : decode cL_law 168 = .ok (.iconst 4, 1) := by decide +kernel
theorem dL_law_169 : decode cL_law 169 = .ok (.idiv, 1) := by decide +kernel
theorem dL_law_170 : decode cL_law 170 = .ok (.bipush 6, 2) := by decide +kernel
theorem dL_law_172 : decode cL_law 172 = .ok (.irem, 1) := by decide +kernel
theorem dL_law_173 : decode cL_law 173 = .ok (.iload 9, 2) := by decide +kernel
theorem dL_law_175 : decode cL_law 175 = .ok (.iload 10, 2) := by decide +kernel
theorem dL_law_177 : decode cL_law 177 = .ok (.invokestatic 135, 3) := by decide +kernel
theorem dL_law_180 : decode cL_law 180 = .ok (.istore 5, 2) := by decide +kernel
theorem dL_law_182 : decode cL_law 182 = .ok (.goto 405, 3) := by decide +kernel
theorem dL_law_185 : decode cL_law 185 = .ok (.iload 9, 2) := by decide +kernel
theorem dL_law_187 : decode cL_law 187 = .ok (.bipush 27, 2) := by decide +kernel
theorem dL_law_189 : decode cL_law 189 = .ok (.if_icmp .ge 66, 3) := by decide +kernel
theorem dL_law_192 : decode cL_law 192 = .ok (.aload 4, 2) := by decide +kernel
theorem dL_law_194 : decode cL_law 194 = .ok (.iconst 0, 1) := by decide +kernel
theorem dL_law_195 : decode cL_law 195 = .ok (.iaload, 1) := by decide +kernel
theorem dL_law_196 : decode cL_law 196 = .ok (.aload 4, 2) := by decide +kernel
theorem dL_law_198 : decode cL_law 198 = .ok (.iconst 1, 1) := by decide +kernel
theorem dL_law_199 : decode cL_law 199 = .ok (.iaload, 1) := by decide +kernel
theorem dL_law_200 : decode cL_law 200 = .ok (.isub, 1) := by decide +kernel
theorem dL_law_201 : decode cL_law 201 = .ok (.bipush 8, 2) := by decide +kernel
theorem dL_law_203 : decode cL_law 203 = .ok (.if_icmp .gt 42, 3) := by decide +kernel
theorem dL_law_206 : decode cL_law 206 = .ok (.aload 4, 2) := by decide +kernel
theorem dL_law_208 : decode cL_law 208 = .ok (.iconst 0, 1) := by decide +kernel
theorem dL_law_209 : decode cL_law 209 = .ok (.iaload, 1) := by decide +kernel
theorem dL_law_210 : decode cL_law 210 = .ok (.bipush 40, 2) := by decide +kernel
theorem dL_law_212 : decode cL_law 212 = .ok (.if_icmp .eq 33, 3) := by decide +kernel
theorem dL_law_215 : decode cL_law 215 = .ok (.aload_n 1, 1) := by decide +kernel
theorem dL_law_216 : decode cL_law 216 = .ok (.aload_n 2, 1) := by decide +kernel
theorem dL_law_217 : decode cL_law 217 = .ok (.aload_n 3, 1) := by decide +kernel
theorem dL_law_218 : decode cL_law 218 = .ok (.aload 4, 2) := by decide +kernel
theorem dL_law_220 : decode cL_law 220 = .ok (.iload 10, 2) := by decide +kernel
theorem dL_law_222 : decode cL_law 222 = .ok (.iconst 3, 1) := by decide +kernel
theorem dL_law_223 : decode cL_law 223 = .ok (.irem, 1) := by decide +kernel
theorem dL_law_224 : decode cL_law 224 = .ok (.ifCond .ne 13, 3) := by decide +kernel
theorem dL_law_227 : decode cL_law 227 = .ok (.iload 10, 2) := by decide +kernel
theorem dL_law_229 : decode cL_law 229 = .ok (.iconst 3, 1) := by decide +kernel
theorem dL_law_230 : decode cL_law 230 = .ok (.idiv, 1) := by decide +kernel
theorem dL_law_231 : decode cL_law 231 = .ok (.bipush 7, 2) := by decide +kernel
theorem dL_law_233 : decode cL_law 233 = .ok (.irem, 1) := by decide +kernel
theorem dL_law_234 : decode cL_law 234 = .ok (.goto 5, 3) := by decide +kernel
theorem dL_law_237 : decode cL_law 237 = .ok (.bipush 6, 2) := by decide +kernel
theorem dL_law_239 : decode cL_law 239 = .ok (.invokestatic 139, 3) := by decide +kernel
theorem dL_law_242 : decode cL_law 242 = .ok (.ifCond .eq 7, 3) := by decide +kernel
theorem dL_law_245 : decode cL_law 245 = .ok (.iconst 1, 1) := by decide +kernel
theorem dL_law_246 : decode cL_law 246 = .ok (.goto 4, 3) := by decide +kernel
theorem dL_law_249 : decode cL_law 249 = .ok (.iconst 0, 1) := by decide +kernel
theorem dL_law_250 : decode cL_law 250 = .ok (.istore 5, 2) := by decide +kernel
theorem dL_law_252 : decode cL_law 252 = .ok (.goto 335, 3) := by decide +kernel
theorem dL_law_255 : decode cL_law 255 = .ok (.iload 9, 2) := by decide +kernel
theorem dL_law_257 : decode cL_law 257 = .ok (.bipush 29, 2) := by decide +kernel
theorem dL_law_259 : decode cL_law 259 = .ok (.if_icmp .ge 60, 3) := by decide +kernel
theorem dL_law_262 : decode cL_law 262 = .ok (.aload 4, 2) := by decide +kernel
theorem dL_law_264 : decode cL_law 264 = .ok (.iconst 2, 1) := by decide +kernel
theorem dL_law_265 : decode cL_law 265 = .ok (.iaload, 1) := by decide +kernel
theorem dL_law_266 : decode cL_law 266 = .ok (.ifCond .ge 7, 3) := by decide +kernel
theorem dL_law_269 : decode cL_law 269 = .ok (.iconst 0, 1) := by decide +kernel
theorem dL_law_270 : decode cL_law 270 = .ok (.goto 7, 3) := by decide +kernel
theorem dL_law_273 : decode cL_law 273 = .ok (.aload 4, 2) := by decide +kernel
theorem dL_law_275 : decode cL_law 275 = .ok (.iconst 2, 1) := by decide +kernel
theorem dL_law_276 : decode cL_law 276 = .ok (.iaload, 1) := by decide +kernel
theorem dL_law_277 : decode cL_law 277 = .ok (.istore 11, 2) := by decide +kernel
theorem dL_law_279 : decode cL_law 279 = .ok (.aload 4, 2) := by decide +kernel
theorem dL_law_281 : decode cL_law 281 = .ok (.iconst 2, 1) := by decide +kernel
theorem dL_law_282 : decode cL_law 282 = .ok (.iconst (-1), 1) := by decide +kernel
theorem dL_law_283 : decode cL_law 283 = .ok (.iastore, 1) := by decide +kernel
theorem dL_law_284 : decode cL_law 284 = .ok (.aload_n 1, 1) := by decide +kernel
theorem dL_law_285 : decode cL_law 285 = .ok (.invokevirtual 128, 3) := by decide +kernel
theorem dL_law_288 : decode cL_law 288 = .ok (.iload 11, 2) := by decide +kernel
theorem dL_law_290 : decode cL_law 290 = .ok (.if_icmp .ne 23, 3) := by decide +kernel
theorem dL_law_293 : decode cL_law 293 = .ok (.aload_n 1, 1) := by decide +kernel
theorem dL_law_294 : decode cL_law 294 = .ok (.aload_n 3, 1) := by decide +kernel
theorem dL_law_295 : decode cL_law 295 = .ok (.iconst (-1), 1) := by decide +kernel
theorem dL_law_296 : decode cL_law 296 = .ok (.invokestatic 115, 3) := by decide +kernel
theorem dL_law_299 : decode cL_law 299 = .ok (.ifCond .eq 14, 3) := by decide +kernel
theorem dL_law_302 : decode cL_law 302 = .ok (.aload_n 1, 1) := by decide +kernel
theorem dL_law_303 : decode cL_law 303 = .ok (.invokevirtual 128, 3) := by decide +kernel
theorem dL_law_306 : decode cL_law 306 = .ok (.ifCond .ne 7, 3) := by decide +kernel
theorem dL_law_309 : decode cL_law 309 = .ok (.iconst 1, 1) := by decide +kernel
theorem dL_law_310 : decode cL_law 310 = .ok (.goto 4, 3) := by decide +kernel
theorem dL_law_313 : decode cL_law 313 = .ok (.iconst 0, 1) := by decide +kernel
theorem dL_law_314 : decode cL_law 314 = .ok (.istore 5, 2) := by decide +kernel
theorem dL_law_316 : decode cL_law 316 = .ok (.goto 271, 3) := by decide +kernel
theorem dL_law_319 : decode cL_law 319 = .ok (.iload 9, 2) := by decide +kernel
theorem dL_law_321 : decode cL_law 321 = .ok (.bipush 29, 2) := by decide +kernel
theorem dL_law_323 : decode cL_law 323 = .ok (.if_icmp .ne 114, 3) := by decide +kernel
theorem dL_law_326 : decode cL_law 326 = .ok (.iconst 1, 1) := by decide +kernel
theorem dL_law_327 : decode cL_law 327 = .ok (.iload 10, 2) := by decide +kernel
theorem dL_law_329 : decode cL_law 329 = .ok (.iconst 3, 1) := by decide +kernel
theorem dL_law_330 : decode cL_law 330 = .ok (.irem, 1) := by decide +kernel
theorem dL_law_331 : decode cL_law 331 = .ok (.iadd, 1) := by decide +kernel
theorem dL_law_332 : decode cL_law 332 = .ok (.istore 11, 2) := by decide +kernel
theorem dL_law_334 : decode cL_law 334 = .ok (.aload 4, 2) := by decide +kernel
theorem dL_law_336 : decode cL_law 336 = .ok (.iconst 1, 1) := by decide +kernel
theorem dL_law_337 : decode cL_law 337 = .ok (.iaload, 1) := by decide +kernel
theorem dL_law_338 : decode cL_law 338 = .ok (.iload 11, 2) := by decide +kernel
theorem dL_law_340 : decode cL_law 340 = .ok (.iadd, 1) := by decide +kernel
theorem dL_law_341 : decode cL_law 341 = .ok (.aload 4, 2) := by decide +kernel
theorem dL_law_343 : decode cL_law 343 = .ok (.iconst 0, 1) := by decide +kernel
theorem dL_law_344 : decode cL_law 344 = .ok (.iaload, 1) := by decide +kernel
theorem dL_law_345 : decode cL_law 345 = .ok (.if_icmp .gt 7, 3) := by decide +kernel
theorem dL_law_348 : decode cL_law 348 = .ok (.iconst 1, 1) := by decide +kernel
theorem dL_law_349 : decode cL_law 349 = .ok (.goto 4, 3) := by decide +kernel
theorem dL_law_352 : decode cL_law 352 = .ok (.iconst 0, 1) := by decide +kernel
theorem dL_law_353 : decode cL_law 353 = .ok (.istore 12, 2) := by decide +kernel
theorem dL_law_355 : decode cL_law 355 = .ok (.aload 4, 2) := by decide +kernel
theorem dL_law_357 : decode cL_law 357 = .ok (.iconst 1, 1) := by decide +kernel
theorem dL_law_358 : decode cL_law 358 = .ok (.dup2, 1) := by decide +kernel
theorem dL_law_359 : decode cL_law 359 = .ok (.iaload, 1) := by decide +kernel
theorem dL_law_360 : decode cL_law 360 = .ok (.iload 12, 2) := by decide +kernel
theorem dL_law_362 : decode cL_law 362 = .ok (.ifCond .eq 8, 3) := by decide +kernel
theorem dL_law_365 : decode cL_law 365 = .ok (.iload 11, 2) := by decide +kernel
theorem dL_law_367 : decode cL_law 367 = .ok (.goto 4, 3) := by decide +kernel
theorem dL_law_370 : decode cL_law 370 = .ok (.iconst 0, 1) := by decide +kernel
theorem dL_law_371 : decode cL_law 371 = .ok (.iadd, 1) := by decide +kernel
theorem dL_law_372 : decode cL_law 372 = .ok (.iastore, 1) := by decide +kernel
theorem dL_law_373 : decode cL_law 373 = .ok (.aload 4, 2) := by decide +kernel
theorem dL_law_375 : decode cL_law 375 = .ok (.iconst 2, 1) := by decide +kernel
theorem dL_law_376 : decode cL_law 376 = .ok (.iload 12, 2) := by decide +kernel
theorem dL_law_378 : decode cL_law 378 = .ok (.ifCond .eq 7, 3) := by decide +kernel
theorem dL_law_381 : decode cL_law 381 = .ok (.iconst (-1), 1) := by decide +kernel
theorem dL_law_382 : decode cL_law 382 = .ok (.goto 7, 3) := by decide +kernel
theorem dL_law_385 : decode cL_law 385 = .ok (.aload 4, 2) := by decide +kernel
theorem dL_law_387 : decode cL_law 387 = .ok (.iconst 2, 1) := by decide +kernel
theorem dL_law_388 : decode cL_law 388 = .ok (.iaload, 1) := by decide +kernel
theorem dL_law_389 : decode cL_law 389 = .ok (.iastore, 1) := by decide +kernel
theorem dL_law_390 : decode cL_law 390 = .ok (.aload_n 1, 1) := by decide +kernel
theorem dL_law_391 : decode cL_law 391 = .ok (.bipush 7, 2) := by decide +kernel
theorem dL_law_393 : decode cL_law 393 = .ok (.iload 11, 2) := by decide +kernel
theorem dL_law_395 : decode cL_law 395 = .ok (.iconst 0, 1) := by decide +kernel
theorem dL_law_396 : decode cL_law 396 = .ok (.iconst 0, 1) := by decide +kernel
theorem dL_law_397 : decode cL_law 397 = .ok (.invokestatic 108, 3) := by decide +kernel
theorem dL_law_400 : decode cL_law 400 = .ok (.iload 12, 2) := by decide +kernel
theorem dL_law_402 : decode cL_law 402 = .ok (.ifCond .eq 10, 3) := by decide +kernel
theorem dL_law_405 : decode cL_law 405 = .ok (.aload 4, 2) := by decide +kernel
theorem dL_law_407 : decode cL_law 407 = .ok (.iconst 1, 1) := by decide +kernel
theorem dL_law_408 : decode cL_law 408 = .ok (.iaload, 1) := by decide +kernel
theorem dL_law_409 : decode cL_law 409 = .ok (.goto 6, 3) := by decide +kernel
theorem dL_law_412 : decode cL_law 412 = .ok (.sipush (-1163), 3) := by decide +kernel
theorem dL_law_415 : decode cL_law 415 = .ok (.if_icmp .ne 16, 3) := by decide +kernel
theorem dL_law_418 : decode cL_law 418 = .ok (.aload_n 1, 1) := by decide +kernel
theorem dL_law_419 : decode cL_law 419 = .ok (.aload_n 3, 1) := by decide +kernel
theorem dL_law_420 : decode cL_law 420 = .ok (.iconst (-1), 1) := by decide +kernel
theorem dL_law_421 : decode cL_law 421 = .ok (.invokestatic 115, 3) := by decide +kernel
theorem dL_law_424 : decode cL_law 424 = .ok (.ifCond .eq 7, 3) := by decide +kernel
theorem dL_law_427 : decode cL_law 427 = .ok (.iconst 1, 1) := by decide +kernel
theorem dL_law_428 : decode cL_law 428 = .ok (.goto 4, 3) := by decide +kernel
theorem dL_law_431 : decode cL_law 431 = .ok (.iconst 0, 1) := by decide +kernel
theorem dL_law_432 : decode cL_law 432 = .ok (.istore 5, 2) := by decide +kernel
theorem dL_law_434 : decode cL_law 434 = .ok (.goto 153, 3) := by decide +kernel
theorem dL_law_437 : decode cL_law 437 = .ok (.aload 4, 2) := by decide +kernel
theorem dL_law_439 : decode cL_law 439 = .ok (.iconst 1, 1) := by decide +kernel
theorem dL_law_440 : decode cL_law 440 = .ok (.iaload, 1) := by decide +kernel
theorem dL_law_441 : decode cL_law 441 = .ok (.iload 10, 2) := by decide +kernel
theorem dL_law_443 : decode cL_law 443 = .ok (.aload 4, 2) := by decide +kernel
theorem dL_law_445 : decode cL_law 445 = .ok (.iconst 0, 1) := by decide +kernel
theorem dL_law_446 : decode cL_law 446 = .ok (.iaload, 1) := by decide +kernel
theorem dL_law_447 : decode cL_law 447 = .ok (.aload 4, 2) := by decide +kernel
theorem dL_law_449 : decode cL_law 449 = .ok (.iconst 1, 1) := by decide +kernel
theorem dL_law_450 : decode cL_law 450 = .ok (.iaload, 1) := by decide +kernel
theorem dL_law_451 : decode cL_law 451 = .ok (.isub, 1) := by decide +kernel
theorem dL_law_452 : decode cL_law 452 = .ok (.iconst 1, 1) := by decide +kernel
theorem dL_law_453 : decode cL_law 453 = .ok (.iadd, 1) := by decide +kernel
theorem dL_law_454 : decode cL_law 454 = .ok (.irem, 1) := by decide +kernel
theorem dL_law_455 : decode cL_law 455 = .ok (.iadd, 1) := by decide +kernel
theorem dL_law_456 : decode cL_law 456 = .ok (.istore 11, 2) := by decide +kernel
theorem dL_law_458 : decode cL_law 458 = .ok (.iconst 0, 1) := by decide +kernel
theorem dL_law_459 : decode cL_law 459 = .ok (.istore 12, 2) := by decide +kernel
theorem dL_law_461 : decode cL_law 461 = .ok (.iconst 0, 1) := by decide +kernel
theorem dL_law_462 : decode cL_law 462 = .ok (.istore 13, 2) := by decide +kernel
theorem dL_law_464 : decode cL_law 464 = .ok (.iload 13, 2) := by decide +kernel
theorem dL_law_466 : decode cL_law 466 = .ok (.bipush 6, 2) := by decide +kernel
theorem dL_law_468 : decode cL_law 468 = .ok (.if_icmp .ge 40, 3) := by decide +kernel
theorem dL_law_471 : decode cL_law 471 = .ok (.iload 12, 2) := by decide +kernel
theorem dL_law_473 : decode cL_law 473 = .ok (.aload_n 2, 1) := by decide +kernel
theorem dL_law_474 : decode cL_law 474 = .ok (.bipush 6, 2) := by decide +kernel
theorem dL_law_476 : decode cL_law 476 = .ok (.iload 11, 2) := by decide +kernel
theorem dL_law_478 : decode cL_law 478 = .ok (.bipush 10, 2) := by decide +kernel
theorem dL_law_480 : decode cL_law 480 = .ok (.irem, 1) := by decide +kernel
theorem dL_law_481 : decode cL_law 481 = .ok (.imul, 1) := by decide +kernel
theorem dL_law_482 : decode cL_law 482 = .ok (.iload 13, 2) := by decide +kernel
theorem dL_law_484 : decode cL_law 484 = .ok (.iadd, 1) := by decide +kernel
theorem dL_law_485 : decode cL_law 485 = .ok (.laload, 1) := by decide +kernel
theorem dL_law_486 : decode cL_law 486 = .ok (.aload_n 3, 1) := by decide +kernel
theorem dL_law_487 : decode cL_law 487 = .ok (.iload 13, 2) := by decide +kernel
theorem dL_law_489 : decode cL_law 489 = .ok (.laload, 1) := by decide +kernel
theorem dL_law_490 : decode cL_law 490 = .ok (.lcmp, 1) := by decide +kernel
theorem dL_law_491 : decode cL_law 491 = .ok (.ifCond .ne 7, 3) := by decide +kernel
theorem dL_law_494 : decode cL_law 494 = .ok (.iconst 0, 1) := by decide +kernel
theorem dL_law_495 : decode cL_law 495 = .ok (.goto 4, 3) := by decide +kernel
theorem dL_law_498 : decode cL_law 498 = .ok (.iconst 1, 1) := by decide +kernel
theorem dL_law_499 : decode cL_law 499 = .ok (.iadd, 1) := by decide +kernel
theorem dL_law_500 : decode cL_law 500 = .ok (.istore 12, 2) := by decide +kernel
theorem dL_law_502 : decode cL_law 502 = .ok (.iinc 13 1, 3) := by decide +kernel
theorem dL_law_505 : decode cL_law 505 = .ok (.goto (-41), 3) := by decide +kernel
theorem dL_law_508 : decode cL_law 508 = .ok (.aload 4, 2) := by decide +kernel
theorem dL_law_510 : decode cL_law 510 = .ok (.iconst 2, 1) := by decide +kernel
theorem dL_law_511 : decode cL_law 511 = .ok (.iconst (-1), 1) := by decide +kernel
theorem dL_law_512 : decode cL_law 512 = .ok (.iastore, 1) := by decide +kernel
theorem dL_law_513 : decode cL_law 513 = .ok (.aload_n 1, 1) := by decide +kernel
theorem dL_law_514 : decode cL_law 514 = .ok (.bipush 8, 2) := by decide +kernel
theorem dL_law_516 : decode cL_law 516 = .ok (.iload 11, 2) := by decide +kernel
theorem dL_law_518 : decode cL_law 518 = .ok (.iconst 0, 1) := by decide +kernel
theorem dL_law_519 : decode cL_law 519 = .ok (.iconst 0, 1) := by decide +kernel
theorem dL_law_520 : decode cL_law 520 = .ok (.invokestatic 108, 3) := by decide +kernel
theorem dL_law_523 : decode cL_law 523 = .ok (.iload 12, 2) := by decide +kernel
theorem dL_law_525 : decode cL_law 525 = .ok (.if_icmp .ne 7, 3) := by decide +kernel
theorem dL_law_528 : decode cL_law 528 = .ok (.iconst 1, 1) := by decide +kernel
theorem dL_law_529 : decode cL_law 529 = .ok (.goto 4, 3) := by decide +kernel
theorem dL_law_532 : decode cL_law 532 = .ok (.iconst 0, 1) := by decide +kernel
theorem dL_law_533 : decode cL_law 533 = .ok (.istore 5, 2) := by decide +kernel
theorem dL_law_535 : decode cL_law 535 = .ok (.iconst 0, 1) := by decide +kernel
theorem dL_law_536 : decode cL_law 536 = .ok (.istore 13, 2) := by decide +kernel
theorem dL_law_538 : decode cL_law 538 = .ok (.iload 13, 2) := by decide +kernel
theorem dL_law_540 : decode cL_law 540 = .ok (.bipush 6, 2) := by decide +kernel
theorem dL_law_542 : decode cL_law 542 = .ok (.if_icmp .ge 45, 3) := by decide +kernel
theorem dL_law_545 : decode cL_law 545 = .ok (.iload 5, 2) := by decide +kernel
theorem dL_law_547 : decode cL_law 547 = .ok (.ifCond .eq 40, 3) := by decide +kernel
theorem dL_law_550 : decode cL_law 550 = .ok (.aload_n 1, 1) := by decide +kernel
theorem dL_law_551 : decode cL_law 551 = .ok (.iconst (-1), 1) := by decide +kernel
theorem dL_law_552 : decode cL_law 552 = .ok (.iload 13, 2) := by decide +kernel
theorem dL_law_554 : decode cL_law 554 = .ok (.invokestatic 63, 3) := by decide +kernel
theorem dL_law_557 : decode cL_law 557 = .ok (.aload_n 2, 1) := by decide +kernel
theorem dL_law_558 : decode cL_law 558 = .ok (.bipush 6, 2) := by decide +kernel
theorem dL_law_560 : decode cL_law 560 = .ok (.iload 11, 2) := by decide +kernel
theorem dL_law_562 : decode cL_law 562 = .ok (.bipush 10, 2) := by decide +kernel
theorem dL_law_564 : decode cL_law 564 = .ok (.irem, 1) := by decide +kernel
theorem dL_law_565 : decode cL_law 565 = .ok (.imul, 1) := by decide +kernel
theorem dL_law_566 : decode cL_law 566 = .ok (.iload 13, 2) := by decide +kernel
theorem dL_law_568 : decode cL_law 568 = .ok (.iadd, 1) := by decide +kernel
theorem dL_law_569 : decode cL_law 569 = .ok (.laload, 1) := by decide +kernel
theorem dL_law_570 : decode cL_law 570 = .ok (.lcmp, 1) := by decide +kernel
theorem dL_law_571 : decode cL_law 571 = .ok (.ifCond .ne 7, 3) := by decide +kernel
theorem dL_law_574 : decode cL_law 574 = .ok (.iconst 1, 1) := by decide +kernel
theorem dL_law_575 : decode cL_law 575 = .ok (.goto 4, 3) := by decide +kernel
theorem dL_law_578 : decode cL_law 578 = .ok (.iconst 0, 1) := by decide +kernel
theorem dL_law_579 : decode cL_law 579 = .ok (.istore 5, 2) := by decide +kernel
theorem dL_law_581 : decode cL_law 581 = .ok (.iinc 13 1, 3) := by decide +kernel
theorem dL_law_584 : decode cL_law 584 = .ok (.goto (-46), 3) := by decide +kernel
theorem dL_law_587 : decode cL_law 587 = .ok (.iload 5, 2) := by decide +kernel
theorem dL_law_589 : decode cL_law 589 = .ok (.ifCond .eq 89, 3) := by decide +kernel
theorem dL_law_592 : decode cL_law 592 = .ok (.aload_n 1, 1) := by decide +kernel
theorem dL_law_593 : decode cL_law 593 = .ok (.aload_n 2, 1) := by decide +kernel
theorem dL_law_594 : decode cL_law 594 = .ok (.aload 4, 2) := by decide +kernel
theorem dL_law_596 : decode cL_law 596 = .ok (.invokestatic 143, 3) := by decide +kernel
theorem dL_law_599 : decode cL_law 599 = .ok (.ifCond .eq 79, 3) := by decide +kernel
theorem dL_law_602 : decode cL_law 602 = .ok (.iload 6, 2) := by decide +kernel
theorem dL_law_604 : decode cL_law 604 = .ok (.iconst 3, 1) := by decide +kernel
theorem dL_law_605 : decode cL_law 605 = .ok (.irem, 1) := by decide +kernel
theorem dL_law_606 : decode cL_law 606 = .ok (.ifCond .gt 32, 3) := by decide +kernel
theorem dL_law_609 : decode cL_law 609 = .ok (.aload_n 1, 1) := by decide +kernel
theorem dL_law_610 : decode cL_law 610 = .ok (.aload_n 2, 1) := by decide +kernel
theorem dL_law_611 : decode cL_law 611 = .ok (.aload 4, 2) := by decide +kernel
theorem dL_law_613 : decode cL_law 613 = .ok (.aload 4, 2) := by decide +kernel
theorem dL_law_615 : decode cL_law 615 = .ok (.iconst 1, 1) := by decide +kernel
theorem dL_law_616 : decode cL_law 616 = .ok (.iaload, 1) := by decide +kernel
theorem dL_law_617 : decode cL_law 617 = .ok (.iload 8, 2) := by decide +kernel
theorem dL_law_619 : decode cL_law 619 = .ok (.aload 4, 2) := by decide +kernel
theorem dL_law_621 : decode cL_law 621 = .ok (.iconst 0, 1) := by decide +kernel
theorem dL_law_622 : decode cL_law 622 = .ok (.iaload, 1) := by decide +kernel
theorem dL_law_623 : decode cL_law 623 = .ok (.aload 4, 2) := by decide +kernel
theorem dL_law_625 : decode cL_law 625 = .ok (.iconst 1, 1) := by decide +kernel
theorem dL_law_626 : decode cL_law 626 = .ok (.iaload, 1) := by decide +kernel
theorem dL_law_627 : decode cL_law 627 = .ok (.isub, 1) := by decide +kernel
theorem dL_law_628 : decode cL_law 628 = .ok (.iconst 1, 1) := by decide +kernel
theorem dL_law_629 : decode cL_law 629 = .ok (.iadd, 1) := by decide +kernel
theorem dL_law_630 : decode cL_law 630 = .ok (.irem, 1) := by decide +kernel
theorem dL_law_631 : decode cL_law 631 = .ok (.iadd, 1) := by decide +kernel
theorem dL_law_632 : decode cL_law 632 = .ok (.invokestatic 147, 3) := by decide +kernel
theorem dL_law_635 : decode cL_law 635 = .ok (.ifCond .eq 43, 3) := by decide +kernel
theorem dL_law_638 : decode cL_law 638 = .ok (.iload 6, 2) := by decide +kernel
theorem dL_law_640 : decode cL_law 640 = .ok (.bipush 6, 2) := by decide +kernel
theorem dL_law_642 : decode cL_law 642 = .ok (.irem, 1) := by decide +kernel
theorem dL_law_643 : decode cL_law 643 = .ok (.ifCond .gt 10, 3) := by decide +kernel
theorem dL_law_646 : decode cL_law 646 = .ok (.aload_n 1, 1) := by decide +kernel
theorem dL_law_647 : decode cL_law 647 = .ok (.invokestatic 151, 3) := by decide +kernel
theorem dL_law_650 : decode cL_law 650 = .ok (.ifCond .eq 28, 3) := by decide +kernel
theorem dL_law_653 : decode cL_law 653 = .ok (.iload 6, 2) := by decide +kernel
theorem dL_law_655 : decode cL_law 655 = .ok (.bipush 20, 2) := by decide +kernel
theorem dL_law_657 : decode cL_law 657 = .ok (.irem, 1) := by decide +kernel
theorem dL_law_658 : decode cL_law 658 = .ok (.ifCond .gt 16, 3) := by decide +kernel
theorem dL_law_661 : decode cL_law 661 = .ok (.aload_n 1, 1) := by decide +kernel
theorem dL_law_662 : decode cL_law 662 = .ok (.aload 4, 2) := by decide +kernel
theorem dL_law_664 : decode cL_law 664 = .ok (.iload 7, 2) := by decide +kernel
theorem dL_law_666 : decode cL_law 666 = .ok (.iconst 3, 1) := by decide +kernel
theorem dL_law_667 : decode cL_law 667 = .ok (.idiv, 1) := by decide +kernel
theorem dL_law_668 : decode cL_law 668 = .ok (.invokestatic 124, 3) := by decide +kernel
theorem dL_law_671 : decode cL_law 671 = .ok (.ifCond .eq 7, 3) := by decide +kernel
theorem dL_law_674 : decode cL_law 674 = .ok (.iconst 1, 1) := by decide +kernel
theorem dL_law_675 : decode cL_law 675 = .ok (.goto 4, 3) := by decide +kernel
theorem dL_law_678 : decode cL_law 678 = .ok (.iconst 0, 1) := by decide +kernel
theorem dL_law_679 : decode cL_law 679 = .ok (.istore 5, 2) := by decide +kernel
theorem dL_law_681 : decode cL_law 681 = .ok (.iinc 6 1, 3) := by decide +kernel
theorem dL_law_684 : decode cL_law 684 = .ok (.goto (-590), 3) := by decide +kernel
theorem dL_law_687 : decode cL_law 687 = .ok (.iload 5, 2) := by decide +kernel
theorem dL_law_689 : decode cL_law 689 = .ok (.ifCond .eq 14, 3) := by decide +kernel
theorem dL_law_692 : decode cL_law 692 = .ok (.aload_n 1, 1) := by decide +kernel
theorem dL_law_693 : decode cL_law 693 = .ok (.invokestatic 151, 3) := by decide +kernel
theorem dL_law_696 : decode cL_law 696 = .ok (.ifCond .eq 7, 3) := by decide +kernel
theorem dL_law_699 : decode cL_law 699 = .ok (.iconst 1, 1) := by decide +kernel
theorem dL_law_700 : decode cL_law 700 = .ok (.goto 4, 3) := by decide +kernel
theorem dL_law_703 : decode cL_law 703 = .ok (.iconst 0, 1) := by decide +kernel
theorem dL_law_704 : decode cL_law 704 = .ok (.ireturn, 1) := by decide +kernel
abbrev vwCl : List vw_C := [(RX0, TX0, 3), (RX1, TX1, 6)]
