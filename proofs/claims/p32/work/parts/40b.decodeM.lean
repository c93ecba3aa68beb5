theorem dL_act_0 : decode cL_act 0 = .ok (.iload_n 2, 1) := by decide +kernel
theorem dL_act_1 : decode cL_act 1 = .ok (.iload_n 2, 1) := by decide +kernel
theorem dL_act_2 : decode cL_act 2 = .ok (.bipush 9, 2) := by decide +kernel
theorem dL_act_4 : decode cL_act 4 = .ok (.ishr, 1) := by decide +kernel
theorem dL_act_5 : decode cL_act 5 = .ok (.bipush 7, 2) := by decide +kernel
theorem dL_act_7 : decode cL_act 7 = .ok (.iand, 1) := by decide +kernel
theorem dL_act_8 : decode cL_act 8 = .ok (.ifCond .ne 8, 3) := by decide +kernel
theorem dL_act_11 : decode cL_act 11 = .ok (.bipush 9, 2) := by decide +kernel
theorem dL_act_13 : decode cL_act 13 = .ok (.goto 4, 3) := by decide +kernel
theorem dL_act_16 : decode cL_act 16 = .ok (.iconst 5, 1) := by decide +kernel
theorem dL_act_17 : decode cL_act 17 = .ok (.invokestatic 100, 3) := by decide +kernel
theorem dL_act_20 : decode cL_act 20 = .ok (.istore 7, 2) := by decide +kernel
theorem dL_act_22 : decode cL_act 22 = .ok (.iload_n 1, 1) := by decide +kernel
theorem dL_act_23 : decode cL_act 23 = .ok (.bipush 14, 2) := by decide +kernel
theorem dL_act_25 : decode cL_act 25 = .ok (.invokestatic 100, 3) := by decide +kernel
theorem dL_act_28 : decode cL_act 28 = .ok (.istore 8, 2) := by decide +kernel
theorem dL_act_30 : decode cL_act 30 = .ok (.iload 7, 2) := by decide +kernel
theorem dL_act_32 : decode cL_act 32 = .ok (.bipush 8, 2) := by decide +kernel
theorem dL_act_34 : decode cL_act 34 = .ok (.if_icmp .ne 164, 3) := by decide +kernel
theorem dL_act_37 : decode cL_act 37 = .ok (.aload_n 0, 1) := by decide +kernel
theorem dL_act_38 : decode cL_act 38 = .ok (.bipush 8, 2) := by decide +kernel
theorem dL_act_40 : decode cL_act 40 = .ok (.invokestatic 103, 3) := by decide +kernel
theorem dL_act_43 : decode cL_act 43 = .ok (.bipush (-31), 2) := by decide +kernel
theorem dL_act_45 : decode cL_act 45 = .ok (.if_icmp .ne 151, 3) := by decide +kernel
theorem dL_act_48 : decode cL_act 48 = .ok (.aload_n 0, 1) := by decide +kernel
theorem dL_act_49 : decode cL_act 49 = .ok (.bipush 8, 2) := by decide +kernel
theorem dL_act_51 : decode cL_act 51 = .ok (.bipush 10, 2) := by decide +kernel
theorem dL_act_53 : decode cL_act 53 = .ok (.iconst 3, 1) := by decide +kernel
theorem dL_act_54 : decode cL_act 54 = .ok (.invokestatic 106, 3) := by decide +kernel
theorem dL_act_57 : decode cL_act 57 = .ok (.bipush (-31), 2) := by decide +kernel
theorem dL_act_59 : decode cL_act 59 = .ok (.if_icmp .ne 137, 3) := by decide +kernel
theorem dL_act_62 : decode cL_act 62 = .ok (.aload_n 0, 1) := by decide +kernel
theorem dL_act_63 : decode cL_act 63 = .ok (.iconst 0, 1) := by decide +kernel
theorem dL_act_64 : decode cL_act 64 = .ok (.bipush 10, 2) := by decide +kernel
theorem dL_act_66 : decode cL_act 66 = .ok (.iconst 3, 1) := by decide +kernel
theorem dL_act_67 : decode cL_act 67 = .ok (.invokestatic 106, 3) := by decide +kernel
theorem dL_act_70 : decode cL_act 70 = .ok (.bipush (-31), 2) := by decide +kernel
theorem dL_act_72 : decode cL_act 72 = .ok (.if_icmp .ne 124, 3) := by decide +kernel
theorem dL_act_75 : decode cL_act 75 = .ok (.aload_n 0, 1) := by decide +kernel
theorem dL_act_76 : decode cL_act 76 = .ok (.iconst 0, 1) := by decide +kernel
theorem dL_act_77 : decode cL_act 77 = .ok (.iconst 0, 1) := by decide +kernel
theorem dL_act_78 : decode cL_act 78 = .ok (.iconst 3, 1) := by decide +kernel
theorem dL_act_79 : decode cL_act 79 = .ok (.invokestatic 106, 3) := by decide +kernel
theorem dL_act_82 : decode cL_act 82 = .ok (.bipush (-32), 2) := by decide +kernel
theorem dL_act_84 : decode cL_act 84 = .ok (.if_icmp .ne 112, 3) := by decide +kernel
theorem dL_act_87 : decode cL_act 87 = .ok (.aload_n 0, 1) := by decide +kernel
theorem dL_act_88 : decode cL_act 88 = .ok (.bipush 7, 2) := by decide +kernel
theorem dL_act_90 : decode cL_act 90 = .ok (.bipush 9, 2) := by decide +kernel
theorem dL_act_92 : decode cL_act 92 = .ok (.iconst 0, 1) := by decide +kernel
theorem dL_act_93 : decode cL_act 93 = .ok (.invokestatic 106, 3) := by decide +kernel
theorem dL_act_96 : decode cL_act 96 = .ok (.bipush (-32), 2) := by decide +kernel
theorem dL_act_98 : decode cL_act 98 = .ok (.if_icmp .ne 98, 3) := by decide +kernel
theorem dL_act_101 : decode cL_act 101 = .ok (.aload_n 0, 1) := by decide +kernel
theorem dL_act_102 : decode cL_act 102 = .ok (.iconst (-1), 1) := by decide +kernel
theorem dL_act_103 : decode cL_act 103 = .ok (.iconst 0, 1) := by decide +kernel
theorem dL_act_104 : decode cL_act 104 = .ok (.invokestatic 109, 3) := by decide +kernel
theorem dL_act_107 : decode cL_act 107 = .ok (.bipush (-31), 2) := by decide +kernel
theorem dL_act_109 : decode cL_act 109 = .ok (.if_icmp .ne 87, 3) := by decide +kernel
theorem dL_act_112 : decode cL_act 112 = .ok (.aload_n 0, 1) := by decide +kernel
theorem dL_act_113 : decode cL_act 113 = .ok (.iconst 0, 1) := by decide +kernel
theorem dL_act_114 : decode cL_act 114 = .ok (.sipush 1001, 3) := by decide +kernel
theorem dL_act_117 : decode cL_act 117 = .ok (.invokestatic 109, 3) := by decide +kernel
theorem dL_act_120 : decode cL_act 120 = .ok (.bipush (-32), 2) := by decide +kernel
theorem dL_act_122 : decode cL_act 122 = .ok (.if_icmp .ne 74, 3) := by decide +kernel
theorem dL_act_125 : decode cL_act 125 = .ok (.aload_n 0, 1) := by decide +kernel
theorem dL_act_126 : decode cL_act 126 = .ok (.bipush 8, 2) := by decide +kernel
theorem dL_act_128 : decode cL_act 128 = .ok (.invokestatic 112, 3) := by decide +kernel
theorem dL_act_131 : decode cL_act 131 = .ok (.bipush (-31), 2) := by decide +kernel
theorem dL_act_133 : decode cL_act 133 = .ok (.if_icmp .ne 63, 3) := by decide +kernel
theorem dL_act_136 : decode cL_act 136 = .ok (.aload_n 0, 1) := by decide +kernel
theorem dL_act_137 : decode cL_act 137 = .ok (.bipush 8, 2) := by decide +kernel
theorem dL_act_139 : decode cL_act 139 = .ok (.invokestatic 114, 3) := by decide +kernel
theorem dL_act_142 : decode cL_act 142 = .ok (.bipush (-31), 2) := by decide +kernel
theorem dL_act_144 : decode cL_act 144 = .ok (.if_icmp .ne 52, 3) := by decide +kernel
theorem dL_act_147 : decode cL_act 147 = .ok (.aload_n 0, 1) := by decide +kernel
theorem dL_act_148 : decode cL_act 148 = .ok (.bipush 8, 2) := by decide +kernel
theorem dL_act_150 : decode cL_act 150 = .ok (.invokestatic 116, 3) := by decide +kernel
theorem dL_act_153 : decode cL_act 153 = .ok (.bipush (-31), 2) := by decide +kernel
theorem dL_act_155 : decode cL_act 155 = .ok (.if_icmp .ne 41, 3) := by decide +kernel
theorem dL_act_158 : decode cL_act 158 = .ok (.aload_n 0, 1) := by decide +kernel
theorem dL_act_159 : decode cL_act 159 = .ok (.bipush 8, 2) := by decide +kernel
theorem dL_act_161 : decode cL_act 161 = .ok (.invokestatic 118, 3) := by decide +kernel
theorem dL_act_164 : decode cL_act 164 = .ok (.bipush (-31), 2) := by decide +kernel
theorem dL_act_166 : decode cL_act 166 = .ok (.if_icmp .ne 30, 3) := by decide +kernel
theorem dL_act_169 : decode cL_act 169 = .ok (.aload_n 0, 1) := by decide +kernel
theorem dL_act_170 : decode cL_act 170 = .ok (.bipush 10, 2) := by decide +kernel
theorem dL_act_172 : decode cL_act 172 = .ok (.iconst 0, 1) := by decide +kernel
theorem dL_act_173 : decode cL_act 173 = .ok (.invokestatic 120, 3) := by decide +kernel
theorem dL_act_176 : decode cL_act 176 = .ok (.bipush (-31), 2) := by decide +kernel
theorem dL_act_178 : decode cL_act 178 = .ok (.if_icmp .ne 18, 3) := by decide +kernel
theorem dL_act_181 : decode cL_act 181 = .ok (.aload_n 0, 1) := by decide +kernel
theorem dL_act_182 : decode cL_act 182 = .ok (.iconst 0, 1) := by decide +kernel
theorem dL_act_183 : decode cL_act 183 = .ok (.iconst (-1), 1) := by decide +kernel
theorem dL_act_184 : decode cL_act 184 = .ok (.invokestatic 120, 3) := by decide +kernel
theorem dL_act_187 : decode cL_act 187 = .ok (.bipush (-31), 2) := by decide +kernel
theorem dL_act_189 : decode cL_act 189 = .ok (.if_icmp .ne 7, 3) := by decide +kernel
theorem dL_act_192 : decode cL_act 192 = .ok (.iconst 1, 1) := by decide +kernel
theorem dL_act_193 : decode cL_act 193 = .ok (.goto 4, 3) := by decide +kernel
theorem dL_act_196 : decode cL_act 196 = .ok (.iconst 0, 1) := by decide +kernel
theorem dL_act_197 : decode cL_act 197 = .ok (.ireturn, 1) := by decide +kernel
theorem dL_act_198 : decode cL_act 198 = .ok (.aload_n 3, 1) := by decide +kernel
theorem dL_act_199 : decode cL_act 199 = .ok (.bipush 6, 2) := by decide +kernel
theorem dL_act_201 : decode cL_act 201 = .ok (.iload 7, 2) := by decide +kernel
theorem dL_act_203 : decode cL_act 203 = .ok (.imul, 1) := by decide +kernel
theorem dL_act_204 : decode cL_act 204 = .ok (.iaload, 1) := by decide +kernel
theorem dL_act_205 : decode cL_act 205 = .ok (.istore 9, 2) := by decide +kernel
theorem dL_act_207 : decode cL_act 207 = .ok (.iload 8, 2) := by decide +kernel
theorem dL_act_209 : decode cL_act 209 = .ok (.iconst 2, 1) := by decide +kernel
theorem dL_act_210 : decode cL_act 210 = .ok (.if_icmp .lt 15, 3) := by decide +kernel
theorem dL_act_213 : decode cL_act 213 = .ok (.iload 9, 2) := by decide +kernel
theorem dL_act_215 : decode cL_act 215 = .ok (.ifCond .ne 105, 3) := by decide +kernel
theorem dL_act_218 : decode cL_act 218 = .ok (.iload 8, 2) := by decide +kernel
theorem dL_act_220 : decode cL_act 220 = .ok (.bipush 9, 2) := by decide +kernel
theorem dL_act_222 : decode cL_act 222 = .ok (.if_icmp .ge 98, 3) := by decide +kernel
theorem dL_act_225 : decode cL_act 225 = .ok (.iload 9, 2) := by decide +kernel
theorem dL_act_227 : decode cL_act 227 = .ok (.ifCond .eq 20, 3) := by decide +kernel
theorem dL_act_230 : decode cL_act 230 = .ok (.aload_n 0, 1) := by decide +kernel
theorem dL_act_231 : decode cL_act 231 = .ok (.iload 7, 2) := by decide +kernel
theorem dL_act_233 : decode cL_act 233 = .ok (.invokestatic 103, 3) := by decide +kernel
theorem dL_act_236 : decode cL_act 236 = .ok (.bipush (-33), 2) := by decide +kernel
theorem dL_act_238 : decode cL_act 238 = .ok (.if_icmp .ne 7, 3) := by decide +kernel
theorem dL_act_241 : decode cL_act 241 = .ok (.iconst 1, 1) := by decide +kernel
theorem dL_act_242 : decode cL_act 242 = .ok (.goto 4, 3) := by decide +kernel
theorem dL_act_245 : decode cL_act 245 = .ok (.iconst 0, 1) := by decide +kernel
theorem dL_act_246 : decode cL_act 246 = .ok (.ireturn, 1) := by decide +kernel
theorem dL_act_247 : decode cL_act 247 = .ok (.aload_n 3, 1) := by decide +kernel
theorem dL_act_248 : decode cL_act 248 = .ok (.bipush 6, 2) := by decide +kernel
theorem dL_act_250 : decode cL_act 250 = .ok (.iload 7, 2) := by decide +kernel
theorem dL_act_252 : decode cL_act 252 = .ok (.imul, 1) := by decide +kernel
theorem dL_act_253 : decode cL_act 253 = .ok (.iconst 1, 1) := by decide +kernel
theorem dL_act_254 : decode cL_act 254 = .ok (.iastore, 1) := by decide +kernel
theorem dL_act_255 : decode cL_act 255 = .ok (.aload_n 3, 1) := by decide +kernel
theorem dL_act_256 : decode cL_act 256 = .ok (.bipush 6, 2) := by decide +kernel
theorem dL_act_258 : decode cL_act 258 = .ok (.iload 7, 2) := by decide +kernel
theorem dL_act_260 : decode cL_act 260 = .ok (.imul, 1) := by decide +kernel
theorem dL_act_261 : decode cL_act 261 = .ok (.iconst 1, 1) := by decide +kernel
theorem dL_act_262 : decode cL_act 262 = .ok (.iadd, 1) := by decide +kernel
theorem dL_act_263 : decode cL_act 263 = .ok (.iconst 0, 1) := by decide +kernel
theorem dL_act_264 : decode cL_act 264 = .ok (.iastore, 1) := by decide +kernel
theorem dL_act_265 : decode cL_act 265 = .ok (.aload_n 3, 1) := by decide +kernel
theorem dL_act_266 : decode cL_act 266 = .ok (.bipush 6, 2) := by decide +kernel
theorem dL_act_268 : decode cL_act 268 = .ok (.iload 7, 2) := by decide +kernel
theorem dL_act_270 : decode cL_act 270 = .ok (.imul, 1) := by decide +kernel
theorem dL_act_271 : decode cL_act 271 = .ok (.iconst 2, 1) := by decide +kernel
theorem dL_act_272 : decode cL_act 272 = .ok (.iadd, 1) := by decide +kernel
theorem dL_act_273 : decode cL_act 273 = .ok (.iconst 0, 1) := by decide +kernel
theorem dL_act_274 : decode cL_act 274 = .ok (.iastore, 1) := by decide +kernel
theorem dL_act_275 : decode cL_act 275 = .ok (.aload_n 3, 1) := by decide +kernel
theorem dL_act_276 : decode cL_act 276 = .ok (.bipush 6, 2) := by decide +kernel
theorem dL_act_278 : decode cL_act 278 = .ok (.iload 7, 2) := by decide +kernel
theorem dL_act_280 : decode cL_act 280 = .ok (.imul, 1) := by decide +kernel
theorem dL_act_281 : decode cL_act 281 = .ok (.iconst 3, 1) := by decide +kernel
theorem dL_act_282 : decode cL_act 282 = .ok (.iadd, 1) := by decide +kernel
theorem dL_act_283 : decode cL_act 283 = .ok (.aload 6, 2) := by decide +kernel
theorem dL_act_285 : decode cL_act 285 = .ok (.iconst 0, 1) := by decide +kernel
theorem dL_act_286 : decode cL_act 286 = .ok (.iaload, 1) := by decide +kernel
theorem dL_act_287 : decode cL_act 287 = .ok (.iastore, 1) := by decide +kernel
theorem dL_act_288 : decode cL_act 288 = .ok (.aload 6, 2) := by decide +kernel
theorem dL_act_290 : decode cL_act 290 = .ok (.iconst 0, 1) := by decide +kernel
theorem dL_act_291 : decode cL_act 291 = .ok (.dup2, 1) := by decide +kernel
theorem dL_act_292 : decode cL_act 292 = .ok (.iaload, 1) := by decide +kernel
theorem dL_act_293 : decode cL_act 293 = .ok (.iconst 1, 1) := by decide +kernel
theorem dL_act_294 : decode cL_act 294 = .ok (.iadd, 1) := by decide +kernel
theorem dL_act_295 : decode cL_act 295 = .ok (.iastore, 1) := by decide +kernel
theorem dL_act_296 : decode cL_act 296 = .ok (.aload_n 0, 1) := by decide +kernel
theorem dL_act_297 : decode cL_act 297 = .ok (.iload 7, 2) := by decide +kernel
theorem dL_act_299 : decode cL_act 299 = .ok (.invokestatic 103, 3) := by decide +kernel
theorem dL_act_302 : decode cL_act 302 = .ok (.aload_n 3, 1) := by decide +kernel
theorem dL_act_303 : decode cL_act 303 = .ok (.bipush 6, 2) := by decide +kernel
theorem dL_act_305 : decode cL_act 305 = .ok (.iload 7, 2) := by decide +kernel
theorem dL_act_307 : decode cL_act 307 = .ok (.imul, 1) := by decide +kernel
theorem dL_act_308 : decode cL_act 308 = .ok (.iconst 3, 1) := by decide +kernel
theorem dL_act_309 : decode cL_act 309 = .ok (.iadd, 1) := by decide +kernel
theorem dL_act_310 : decode cL_act 310 = .ok (.iaload, 1) := by decide +kernel
theorem dL_act_311 : decode cL_act 311 = .ok (.if_icmp .ne 7, 3) := by decide +kernel
theorem dL_act_314 : decode cL_act 314 = .ok (.iconst 1, 1) := by decide +kernel
theorem dL_act_315 : decode cL_act 315 = .ok (.goto 4, 3) := by decide +kernel
theorem dL_act_318 : decode cL_act 318 = .ok (.iconst 0, 1) := by decide +kernel
theorem dL_act_319 : decode cL_act 319 = .ok (.ireturn, 1) := by decide +kernel
theorem dL_act_320 : decode cL_act 320 = .ok (.iload 8, 2) := by decide +kernel
theorem dL_act_322 : decode cL_act 322 = .ok (.bipush 9, 2) := by decide +kernel
theorem dL_act_324 : decode cL_act 324 = .ok (.if_icmp .ge 177, 3) := by decide +kernel
theorem dL_act_327 : decode cL_act 327 = .ok (.iload_n 2, 1) := by decide +kernel
theorem dL_act_328 : decode cL_act 328 = .ok (.iconst 3, 1) := by decide +kernel
theorem dL_act_329 : decode cL_act 329 = .ok (.ishr, 1) := by decide +kernel
theorem dL_act_330 : decode cL_act 330 = .ok (.iload_n 2, 1) := by decide +kernel
theorem dL_act_331 : decode cL_act 331 = .ok (.bipush 12, 2) := by decide +kernel
theorem dL_act_333 : decode cL_act 333 = .ok (.ishr, 1) := by decide +kernel
theorem dL_act_334 : decode cL_act 334 = .ok (.bipush 7, 2) := by decide +kernel
theorem dL_act_336 : decode cL_act 336 = .ok (.iand, 1) := by decide +kernel
theorem dL_act_337 : decode cL_act 337 = .ok (.ifCond .ne 8, 3) := by decide +kernel
theorem dL_act_340 : decode cL_act 340 = .ok (.bipush 10, 2) := by decide +kernel
theorem dL_act_342 : decode cL_act 342 = .ok (.goto 4, 3) := by decide +kernel
theorem dL_act_345 : decode cL_act 345 = .ok (.iconst 3, 1) := by decide +kernel
theorem dL_act_346 : decode cL_act 346 = .ok (.invokestatic 100, 3) := by decide +kernel
theorem dL_act_349 : decode cL_act 349 = .ok (.istore 10, 2) := by decide +kernel
theorem dL_act_351 : decode cL_act 351 = .ok (.iconst 1, 1) := by decide +kernel
theorem dL_act_352 : decode cL_act 352 = .ok (.iload_n 2, 1) := by decide +kernel
theorem dL_act_353 : decode cL_act 353 = .ok (.bipush 6, 2) := by decide +kernel
theorem dL_act_355 : decode cL_act 355 = .ok (.ishr, 1) := by decide +kernel
theorem dL_act_356 : decode cL_act 356 = .ok (.iconst 1, 1) := by decide +kernel
theorem dL_act_357 : decode cL_act 357 = .ok (.iand, 1) := by decide +kernel
theorem dL_act_358 : decode cL_act 358 = .ok (.iadd, 1) := by decide +kernel
theorem dL_act_359 : decode cL_act 359 = .ok (.istore 11, 2) := by decide +kernel
theorem dL_act_361 : decode cL_act 361 = .ok (.iload 9, 2) := by decide +kernel
theorem dL_act_363 : decode cL_act 363 = .ok (.iconst 1, 1) := by decide +kernel
theorem dL_act_364 : decode cL_act 364 = .ok (.if_icmp .eq 51, 3) := by decide +kernel
theorem dL_act_367 : decode cL_act 367 = .ok (.aload_n 0, 1) := by decide +kernel
theorem dL_act_368 : decode cL_act 368 = .ok (.iload 7, 2) := by decide +kernel
theorem dL_act_370 : decode cL_act 370 = .ok (.iload 10, 2) := by decide +kernel
theorem dL_act_372 : decode cL_act 372 = .ok (.iload 11, 2) := by decide +kernel
theorem dL_act_374 : decode cL_act 374 = .ok (.invokestatic 106, 3) := by decide +kernel
theorem dL_act_377 : decode cL_act 377 = .ok (.bipush (-33), 2) := by decide +kernel
theorem dL_act_379 : decode cL_act 379 = .ok (.if_icmp .ne 34, 3) := by decide +kernel
theorem dL_act_382 : decode cL_act 382 = .ok (.aload_n 0, 1) := by decide +kernel
theorem dL_act_383 : decode cL_act 383 = .ok (.iload 7, 2) := by decide +kernel
theorem dL_act_385 : decode cL_act 385 = .ok (.iload 10, 2) := by decide +kernel
theorem dL_act_387 : decode cL_act 387 = .ok (.iload 11, 2) := by decide +kernel
theorem dL_act_389 : decode cL_act 389 = .ok (.invokestatic 122, 3) := by decide +kernel
theorem dL_act_392 : decode cL_act 392 = .ok (.iconst (-1), 1) := by decide +kernel
theorem dL_act_393 : decode cL_act 393 = .ok (.if_icmp .ne 20, 3) := by decide +kernel
theorem dL_act_396 : decode cL_act 396 = .ok (.aload_n 0, 1) := by decide +kernel
theorem dL_act_397 : decode cL_act 397 = .ok (.iload 7, 2) := by decide +kernel
theorem dL_act_399 : decode cL_act 399 = .ok (.iload 10, 2) := by decide +kernel
theorem dL_act_401 : decode cL_act 401 = .ok (.iload 11, 2) := by decide +kernel
theorem dL_act_403 : decode cL_act 403 = .ok (.invokestatic 124, 3) := by decide +kernel
theorem dL_act_406 : decode cL_act 406 = .ok (.ifCond .ne 7, 3) := by decide +kernel
theorem dL_act_409 : decode cL_act 409 = .ok (.iconst 1, 1) := by decide +kernel
theorem dL_act_410 : decode cL_act 410 = .ok (.goto 4, 3) := by decide +kernel
theorem dL_act_413 : decode cL_act 413 = .ok (.iconst 0, 1) := by decide +kernel
theorem dL_act_414 : decode cL_act 414 = .ok (.ireturn, 1) := by decide +kernel
theorem dL_act_415 : decode cL_act 415 = .ok (.aload_n 0, 1) := by decide +kernel
theorem dL_act_416 : decode cL_act 416 = .ok (.iload 7, 2) := by decide +kernel
theorem dL_act_418 : decode cL_act 418 = .ok (.iload 10, 2) := by decide +kernel
theorem dL_act_420 : decode cL_act 420 = .ok (.iload 11, 2) := by decide +kernel
theorem dL_act_422 : decode cL_act 422 = .ok (.invokestatic 122, 3) := by decide +kernel
theorem dL_act_425 : decode cL_act 425 = .ok (.istore 12, 2) := by decide +kernel
theorem dL_act_427 : decode cL_act 427 = .ok (.aload_n 0, 1) := by decide +kernel
theorem dL_act_428 : decode cL_act 428 = .ok (.iload 7, 2) := by decide +kernel
theorem dL_act_430 : decode cL_act 430 = .ok (.iload 10, 2) := by decide +kernel
theorem dL_act_432 : decode cL_act 432 = .ok (.iload 11, 2) := by decide +kernel
theorem dL_act_434 : decode cL_act 434 = .ok (.invokestatic 124, 3) := by decide +kernel
theorem dL_act_437 : decode cL_act 437 = .ok (.istore 13, 2) := by decide +kernel
theorem dL_act_439 : decode cL_act 439 = .ok (.aload_n 3, 1) := by decide +kernel
theorem dL_act_440 : decode cL_act 440 = .ok (.aload 4, 2) := by decide +kernel
theorem dL_act_442 : decode cL_act 442 = .ok (.aload 5, 2) := by decide +kernel
theorem dL_act_444 : decode cL_act 444 = .ok (.aload 6, 2) := by decide +kernel
theorem dL_act_446 : decode cL_act 446 = .ok (.iload 7, 2) := by decide +kernel
theorem dL_act_448 : decode cL_act 448 = .ok (.iload 10, 2) := by decide +kernel
theorem dL_act_450 : decode cL_act 450 = .ok (.iload 11, 2) := by decide +kernel
theorem dL_act_452 : decode cL_act 452 = .ok (.invokestatic 126, 3) := by decide +kernel
theorem dL_act_455 : decode cL_act 455 = .ok (.istore 14, 2) := by decide +kernel
theorem dL_act_457 : decode cL_act 457 = .ok (.iload 12, 2) := by decide +kernel
theorem dL_act_459 : decode cL_act 459 = .ok (.iload 14, 2) := by decide +kernel
theorem dL_act_461 : decode cL_act 461 = .ok (.bipush 8, 2) := by decide +kernel
theorem dL_act_463 : decode cL_act 463 = .ok (.irem, 1) := by decide +kernel
theorem dL_act_464 : decode cL_act 464 = .ok (.if_icmp .ne 35, 3) := by decide +kernel
theorem dL_act_467 : decode cL_act 467 = .ok (.iload 13, 2) := by decide +kernel
theorem dL_act_469 : decode cL_act 469 = .ok (.iload 14, 2) := by decide +kernel
theorem dL_act_471 : decode cL_act 471 = .ok (.bipush 8, 2) := by decide +kernel
theorem dL_act_473 : decode cL_act 473 = .ok (.idiv, 1) := by decide +kernel
theorem dL_act_474 : decode cL_act 474 = .ok (.if_icmp .ne 25, 3) := by decide +kernel
theorem dL_act_477 : decode cL_act 477 = .ok (.aload_n 0, 1) := by decide +kernel
theorem dL_act_478 : decode cL_act 478 = .ok (.iload 7, 2) := by decide +kernel
theorem dL_act_480 : decode cL_act 480 = .ok (.iload 10, 2) := by decide +kernel
theorem dL_act_482 : decode cL_act 482 = .ok (.iload 11, 2) := by decide +kernel
theorem dL_act_484 : decode cL_act 484 = .ok (.invokestatic 106, 3) := by decide +kernel
theorem dL_act_487 : decode cL_act 487 = .ok (.iload 14, 2) := by decide +kernel
theorem dL_act_489 : decode cL_act 489 = .ok (.bipush 8, 2) := by decide +kernel
theorem dL_act_491 : decode cL_act 491 = .ok (.irem, 1) := by decide +kernel
theorem dL_act_492 : decode cL_act 492 = .ok (.if_icmp .ne 7, 3) := by decide +kernel
theorem dL_act_495 : decode cL_act 495 = .ok (.iconst 1, 1) := by decide +kernel
theorem dL_act_496 : decode cL_act 496 = .ok (.goto 4, 3) := by decide +kernel
theorem dL_act_499 : decode cL_act 499 = .ok (.iconst 0, 1) := by decide +kernel
theorem dL_act_500 : decode cL_act 500 = .ok (.ireturn, 1) := by decide +kernel
theorem dL_act_501 : decode cL_act 501 = .ok (.iload 8, 2) := by decide +kernel
theorem dL_act_503 : decode cL_act 503 = .ok (.bipush 9, 2) := by decide +kernel
theorem dL_act_505 : decode cL_act 505 = .ok (.if_icmp .ne 94, 3) := by decide +kernel
theorem dL_act_508 : decode cL_act 508 = .ok (.iconst 1, 1) := by decide +kernel
theorem dL_act_509 : decode cL_act 509 = .ok (.iload_n 2, 1) := by decide +kernel
theorem dL_act_510 : decode cL_act 510 = .ok (.iconst 3, 1) := by decide +kernel
theorem dL_act_511 : decode cL_act 511 = .ok (.ishr, 1) := by decide +kernel
theorem dL_act_512 : decode cL_act 512 = .ok (.iload_n 2, 1) := by decide +kernel
theorem dL_act_513 : decode cL_act 513 = .ok (.bipush 12, 2) := by decide +kernel
theorem dL_act_515 : decode cL_act 515 = .ok (.ishr, 1) := by decide +kernel
theorem dL_act_516 : decode cL_act 516 = .ok (.iconst 3, 1) := by decide +kernel
theorem dL_act_517 : decode cL_act 517 = .ok (.iand, 1) := by decide +kernel
theorem dL_act_518 : decode cL_act 518 = .ok (.ifCond .ne 9, 3) := by decide +kernel
theorem dL_act_521 : decode cL_act 521 = .ok (.sipush 1000, 3) := by decide +kernel
theorem dL_act_524 : decode cL_act 524 = .ok (.goto 4, 3) := by decide +kernel
theorem dL_act_527 : decode cL_act 527 = .ok (.iconst 4, 1) := by decide +kernel
theorem dL_act_528 : decode cL_act 528 = .ok (.invokestatic 100, 3) := by decide +kernel
theorem dL_act_531 : decode cL_act 531 = .ok (.iadd, 1) := by decide +kernel
theorem dL_act_532 : decode cL_act 532 = .ok (.istore 10, 2) := by decide +kernel
theorem dL_act_534 : decode cL_act 534 = .ok (.iload 9, 2) := by decide +kernel
theorem dL_act_536 : decode cL_act 536 = .ok (.iconst 1, 1) := by decide +kernel
theorem dL_act_537 : decode cL_act 537 = .ok (.if_icmp .eq 22, 3) := by decide +kernel
theorem dL_act_540 : decode cL_act 540 = .ok (.aload_n 0, 1) := by decide +kernel
theorem dL_act_541 : decode cL_act 541 = .ok (.iload 7, 2) := by decide +kernel
theorem dL_act_543 : decode cL_act 543 = .ok (.iload 10, 2) := by decide +kernel
theorem dL_act_545 : decode cL_act 545 = .ok (.invokestatic 109, 3) := by decide +kernel
theorem dL_act_548 : decode cL_act 548 = .ok (.bipush (-33), 2) := by decide +kernel
theorem dL_act_550 : decode cL_act 550 = .ok (.if_icmp .ne 7, 3) := by decide +kernel
theorem dL_act_553 : decode cL_act 553 = .ok (.iconst 1, 1) := by decide +kernel
theorem dL_act_554 : decode cL_act 554 = .ok (.goto 4, 3) := by decide +kernel
theorem dL_act_557 : decode cL_act 557 = .ok (.iconst 0, 1) := by decide +kernel
theorem dL_act_558 : decode cL_act 558 = .ok (.ireturn, 1) := by decide +kernel
theorem dL_act_559 : decode cL_act 559 = .ok (.aload_n 3, 1) := by decide +kernel
theorem dL_act_560 : decode cL_act 560 = .ok (.bipush 6, 2) := by decide +kernel
theorem dL_act_562 : decode cL_act 562 = .ok (.iload 7, 2) := by decide +kernel
theorem dL_act_564 : decode cL_act 564 = .ok (.imul, 1) := by decide +kernel
theorem dL_act_565 : decode cL_act 565 = .ok (.iconst 1, 1) := by decide +kernel
theorem dL_act_566 : decode cL_act 566 = .ok (.iadd, 1) := by decide +kernel
theorem dL_act_567 : decode cL_act 567 = .ok (.dup2, 1) := by decide +kernel
theorem dL_act_568 : decode cL_act 568 = .ok (.iaload, 1) := by decide +kernel
theorem dL_act_569 : decode cL_act 569 = .ok (.iload 10, 2) := by decide +kernel
theorem dL_act_571 : decode cL_act 571 = .ok (.iadd, 1) := by decide +kernel
theorem dL_act_572 : decode cL_act 572 = .ok (.iastore, 1) := by decide +kernel
theorem dL_act_573 : decode cL_act 573 = .ok (.aload_n 0, 1) := by decide +kernel
theorem dL_act_574 : decode cL_act 574 = .ok (.iload 7, 2) := by decide +kernel
theorem dL_act_576 : decode cL_act 576 = .ok (.iload 10, 2) := by decide +kernel
theorem dL_act_578 : decode cL_act 578 = .ok (.invokestatic 109, 3) := by decide +kernel
theorem dL_act_581 : decode cL_act 581 = .ok (.aload_n 3, 1) := by decide +kernel
theorem dL_act_582 : decode cL_act 582 = .ok (.bipush 6, 2) := by decide +kernel
theorem dL_act_584 : decode cL_act 584 = .ok (.iload 7, 2) := by decide +kernel
theorem dL_act_586 : decode cL_act 586 = .ok (.imul, 1) := by decide +kernel
theorem dL_act_587 : decode cL_act 587 = .ok (.iconst 1, 1) := by decide +kernel
theorem dL_act_588 : decode cL_act 588 = .ok (.iadd, 1) := by decide +kernel
theorem dL_act_589 : decode cL_act 589 = .ok (.iaload, 1) := by decide +kernel
theorem dL_act_590 : decode cL_act 590 = .ok (.if_icmp .ne 7, 3) := by decide +kernel
theorem dL_act_593 : decode cL_act 593 = .ok (.iconst 1, 1) := by decide +kernel
theorem dL_act_594 : decode cL_act 594 = .ok (.goto 4, 3) := by decide +kernel
theorem dL_act_597 : decode cL_act 597 = .ok (.iconst 0, 1) := by decide +kernel
theorem dL_act_598 : decode cL_act 598 = .ok (.ireturn, 1) := by decide +kernel
theorem dL_act_599 : decode cL_act 599 = .ok (.iload 8, 2) := by decide +kernel
theorem dL_act_601 : decode cL_act 601 = .ok (.bipush 10, 2) := by decide +kernel
theorem dL_act_603 : decode cL_act 603 = .ok (.if_icmp .ne 61, 3) := by decide +kernel
theorem dL_act_606 : decode cL_act 606 = .ok (.iload 9, 2) := by decide +kernel
theorem dL_act_608 : decode cL_act 608 = .ok (.iconst 2, 1) := by decide +kernel
theorem dL_act_609 : decode cL_act 609 = .ok (.if_icmp .eq 20, 3) := by decide +kernel
theorem dL_act_612 : decode cL_act 612 = .ok (.aload_n 0, 1) := by decide +kernel
theorem dL_act_613 : decode cL_act 613 = .ok (.iload 7, 2) := by decide +kernel
theorem dL_act_615 : decode cL_act 615 = .ok (.invokestatic 112, 3) := by decide +kernel
theorem dL_act_618 : decode cL_act 618 = .ok (.bipush (-33), 2) := by decide +kernel
theorem dL_act_620 : decode cL_act 620 = .ok (.if_icmp .ne 7, 3) := by decide +kernel
theorem dL_act_623 : decode cL_act 623 = .ok (.iconst 1, 1) := by decide +kernel
theorem dL_act_624 : decode cL_act 624 = .ok (.goto 4, 3) := by decide +kernel
theorem dL_act_627 : decode cL_act 627 = .ok (.iconst 0, 1) := by decide +kernel
theorem dL_act_628 : decode cL_act 628 = .ok (.ireturn, 1) := by decide +kernel
theorem dL_act_629 : decode cL_act 629 = .ok (.aload_n 3, 1) := by decide +kernel
theorem dL_act_630 : decode cL_act 630 = .ok (.aload 5, 2) := by decide +kernel
theorem dL_act_632 : decode cL_act 632 = .ok (.iload 7, 2) := by decide +kernel
theorem dL_act_634 : decode cL_act 634 = .ok (.invokestatic 73, 3) := by decide +kernel
theorem dL_act_637 : decode cL_act 637 = .ok (.aload_n 3, 1) := by decide +kernel
theorem dL_act_638 : decode cL_act 638 = .ok (.aload 4, 2) := by decide +kernel
theorem dL_act_640 : decode cL_act 640 = .ok (.aload 5, 2) := by decide +kernel
theorem dL_act_642 : decode cL_act 642 = .ok (.invokestatic 96, 3) := by decide +kernel
theorem dL_act_645 : decode cL_act 645 = .ok (.istore 10, 2) := by decide +kernel
theorem dL_act_647 : decode cL_act 647 = .ok (.aload_n 0, 1) := by decide +kernel
theorem dL_act_648 : decode cL_act 648 = .ok (.iload 7, 2) := by decide +kernel
theorem dL_act_650 : decode cL_act 650 = .ok (.invokestatic 112, 3) := by decide +kernel
theorem dL_act_653 : decode cL_act 653 = .ok (.iload 10, 2) := by decide +kernel
theorem dL_act_655 : decode cL_act 655 = .ok (.if_icmp .ne 7, 3) := by decide +kernel
theorem dL_act_658 : decode cL_act 658 = .ok (.iconst 1, 1) := by decide +kernel
theorem dL_act_659 : decode cL_act 659 = .ok (.goto 4, 3) := by decide +kernel
theorem dL_act_662 : decode cL_act 662 = .ok (.iconst 0, 1) := by decide +kernel
theorem dL_act_663 : decode cL_act 663 = .ok (.ireturn, 1) := by decide +kernel
theorem dL_act_664 : decode cL_act 664 = .ok (.iload 8, 2) := by decide +kernel
theorem dL_act_666 : decode cL_act 666 = .ok (.bipush 13, 2) := by decide +kernel
theorem dL_act_668 : decode cL_act 668 = .ok (.if_icmp .ge 55, 3) := by decide +kernel
theorem dL_act_671 : decode cL_act 671 = .ok (.iload 9, 2) := by decide +kernel
theorem dL_act_673 : decode cL_act 673 = .ok (.iconst 1, 1) := by decide +kernel
theorem dL_act_674 : decode cL_act 674 = .ok (.if_icmp .eq 20, 3) := by decide +kernel
theorem dL_act_677 : decode cL_act 677 = .ok (.aload_n 0, 1) := by decide +kernel
theorem dL_act_678 : decode cL_act 678 = .ok (.iload 7, 2) := by decide +kernel
theorem dL_act_680 : decode cL_act 680 = .ok (.invokestatic 114, 3) := by decide +kernel
theorem dL_act_683 : decode cL_act 683 = .ok (.bipush (-33), 2) := by decide +kernel
theorem dL_act_685 : decode cL_act 685 = .ok (.if_icmp .ne 7, 3) := by decide +kernel
theorem dL_act_688 : decode cL_act 688 = .ok (.iconst 1, 1) := by decide +kernel
theorem dL_act_689 : decode cL_act 689 = .ok (.goto 4, 3) := by decide +kernel
theorem dL_act_692 : decode cL_act 692 = .ok (.iconst 0, 1) := by decide +kernel
theorem dL_act_693 : decode cL_act 693 = .ok (.ireturn, 1) := by decide +kernel
theorem dL_act_694 : decode cL_act 694 = .ok (.aload_n 3, 1) := by decide +kernel
theorem dL_act_695 : decode cL_act 695 = .ok (.aload 4, 2) := by decide +kernel
theorem dL_act_697 : decode cL_act 697 = .ok (.aload 5, 2) := by decide +kernel
theorem dL_act_699 : decode cL_act 699 = .ok (.iload 7, 2) := by decide +kernel
theorem dL_act_701 : decode cL_act 701 = .ok (.invokestatic 130, 3) := by decide +kernel
theorem dL_act_704 : decode cL_act 704 = .ok (.istore 10, 2) := by decide +kernel
theorem dL_act_706 : decode cL_act 706 = .ok (.aload_n 0, 1) := by decide +kernel
theorem dL_act_707 : decode cL_act 707 = .ok (.iload 7, 2) := by decide +kernel
theorem dL_act_709 : decode cL_act 709 = .ok (.invokestatic 114, 3) := by decide +kernel
theorem dL_act_712 : decode cL_act 712 = .ok (.iload 10, 2) := by decide +kernel
theorem dL_act_714 : decode cL_act 714 = .ok (.if_icmp .ne 7, 3) := by decide +kernel
theorem dL_act_717 : decode cL_act 717 = .ok (.iconst 1, 1) := by decide +kernel
theorem dL_act_718 : decode cL_act 718 = .ok (.goto 4, 3) := by decide +kernel
theorem dL_act_721 : decode cL_act 721 = .ok (.iconst 0, 1) := by decide +kernel
theorem dL_act_722 : decode cL_act 722 = .ok (.ireturn, 1) := by decide +kernel
theorem dL_act_723 : decode cL_act 723 = .ok (.iload 9, 2) := by decide +kernel
theorem dL_act_725 : decode cL_act 725 = .ok (.ifCond .ne 20, 3) := by decide +kernel
theorem dL_act_728 : decode cL_act 728 = .ok (.aload_n 0, 1) := by decide +kernel
theorem dL_act_729 : decode cL_act 729 = .ok (.iload 7, 2) := by decide +kernel
theorem dL_act_731 : decode cL_act 731 = .ok (.invokestatic 116, 3) := by decide +kernel
theorem dL_act_734 : decode cL_act 734 = .ok (.bipush (-33), 2) := by decide +kernel
theorem dL_act_736 : decode cL_act 736 = .ok (.if_icmp .ne 7, 3) := by decide +kernel
theorem dL_act_739 : decode cL_act 739 = .ok (.iconst 1, 1) := by decide +kernel
theorem dL_act_740 : decode cL_act 740 = .ok (.goto 4, 3) := by decide +kernel
theorem dL_act_743 : decode cL_act 743 = .ok (.iconst 0, 1) := by decide +kernel
theorem dL_act_744 : decode cL_act 744 = .ok (.ireturn, 1) := by decide +kernel
theorem dL_act_745 : decode cL_act 745 = .ok (.aload_n 3, 1) := by decide +kernel
theorem dL_act_746 : decode cL_act 746 = .ok (.aload 4, 2) := by decide +kernel
theorem dL_act_748 : decode cL_act 748 = .ok (.aload 5, 2) := by decide +kernel
theorem dL_act_750 : decode cL_act 750 = .ok (.iload 7, 2) := by decide +kernel
theorem dL_act_752 : decode cL_act 752 = .ok (.invokestatic 130, 3) := by decide +kernel
theorem dL_act_755 : decode cL_act 755 = .ok (.istore 10, 2) := by decide +kernel
theorem dL_act_757 : decode cL_act 757 = .ok (.aload_n 0, 1) := by decide +kernel
theorem dL_act_758 : decode cL_act 758 = .ok (.iload 7, 2) := by decide +kernel
theorem dL_act_760 : decode cL_act 760 = .ok (.invokestatic 116, 3) := by decide +kernel
theorem dL_act_763 : decode cL_act 763 = .ok (.iload 10, 2) := by decide +kernel
theorem dL_act_765 : decode cL_act 765 = .ok (.if_icmp .ne 7, 3) := by decide +kernel
theorem dL_act_768 : decode cL_act 768 = .ok (.iconst 1, 1) := by decide +kernel
theorem dL_act_769 : decode cL_act 769 = .ok (.goto 4, 3) := by decide +kernel
theorem dL_act_772 : decode cL_act 772 = .ok (.iconst 0, 1) := by decide +kernel
theorem dL_act_773 : decode cL_act 773 = .ok (.ireturn, 1) := by decide +kernel
theorem dL_isSo_0 : decode cL_isSo 0 = .ok (.iconst 0, 1) := by decide +kernel
theorem dL_isSo_1 : decode cL_isSo 1 = .ok (.istore 5, 2) := by decide +kernel
theorem dL_isSo_3 : decode cL_isSo 3 = .ok (.iconst 0, 1) := by decide +kernel
theorem dL_isSo_4 : decode cL_isSo 4 = .ok (.istore 6, 2) := by decide +kernel
theorem dL_isSo_6 : decode cL_isSo 6 = .ok (.iload 6, 2) := by decide +kernel
theorem dL_isSo_8 : decode cL_isSo 8 = .ok (.bipush 8, 2) := by decide +kernel
theorem dL_isSo_10 : decode cL_isSo 10 = .ok (.if_icmp .ge 238, 3) := by decide +kernel
theorem dL_isSo_13 : decode cL_isSo 13 = .ok (.aload_n 0, 1) := by decide +kernel
theorem dL_isSo_14 : decode cL_isSo 14 = .ok (.iload 6, 2) := by decide +kernel
theorem dL_isSo_16 : decode cL_isSo 16 = .ok (.invokevirtual 47, 3) := by decide +kernel
theorem dL_isSo_19 : decode cL_isSo 19 = .ok (.aload_n 1, 1) := by decide +kernel
theorem dL_isSo_20 : decode cL_isSo 20 = .ok (.bipush 6, 2) := by decide +kernel
theorem dL_isSo_22 : decode cL_isSo 22 = .ok (.iload 6, 2) := by decide +kernel
theorem dL_isSo_24 : decode cL_isSo 24 = .ok (.imul, 1) := by decide +kernel
theorem dL_isSo_25 : decode cL_isSo 25 = .ok (.iaload, 1) := by decide +kernel
theorem dL_isSo_26 : decode cL_isSo 26 = .ok (.if_icmp .ne 92, 3) := by decide +kernel
theorem dL_isSo_29 : decode cL_isSo 29 = .ok (.aload_n 0, 1) := by decide +kernel
theorem dL_isSo_30 : decode cL_isSo 30 = .ok (.iload 6, 2) := by decide +kernel
theorem dL_isSo_32 : decode cL_isSo 32 = .ok (.invokevirtual 133, 3) := by decide +kernel
theorem dL_isSo_35 : decode cL_isSo 35 = .ok (.aload_n 1, 1) := by decide +kernel
theorem dL_isSo_36 : decode cL_isSo 36 = .ok (.bipush 6, 2) := by decide +kernel
theorem dL_isSo_38 : decode cL_isSo 38 = .ok (.iload 6, 2) := by decide +kernel
theorem dL_isSo_40 : decode cL_isSo 40 = .ok (.imul, 1) := by decide +kernel
theorem dL_isSo_41 : decode cL_isSo 41 = .ok (.iconst 1, 1) := by decide +kernel
theorem dL_isSo_42 : decode cL_isSo 42 = .ok (.iadd, 1) := by decide +kernel
theorem dL_isSo_43 : decode cL_isSo 43 = .ok (.iaload, 1) := by decide +kernel
theorem dL_isSo_44 : decode cL_isSo 44 = .ok (.if_icmp .ne 74, 3) := by decide +kernel
theorem dL_isSo_47 : decode cL_isSo 47 = .ok (.aload_n 0, 1) := by decide +kernel
theorem dL_isSo_48 : decode cL_isSo 48 = .ok (.iload 6, 2) := by decide +kernel
theorem dL_isSo_50 : decode cL_isSo 50 = .ok (.invokevirtual 136, 3) := by decide +kernel
theorem dL_isSo_53 : decode cL_isSo 53 = .ok (.aload_n 1, 1) := by decide +kernel
theorem dL_isSo_54 : decode cL_isSo 54 = .ok (.bipush 6, 2) := by decide +kernel
theorem dL_isSo_56 : decode cL_isSo 56 = .ok (.iload 6, 2) := by decide +kernel
theorem dL_isSo_58 : decode cL_isSo 58 = .ok (.imul, 1) := by decide +kernel
theorem dL_isSo_59 : decode cL_isSo 59 = .ok (.iconst 2, 1) := by decide +kernel
theorem dL_isSo_60 : decode cL_isSo 60 = .ok (.iadd, 1) := by decide +kernel
theorem dL_isSo_61 : decode cL_isSo 61 = .ok (.iaload, 1) := by decide +kernel
theorem dL_isSo_62 : decode cL_isSo 62 = .ok (.if_icmp .ne 56, 3) := by decide +kernel
theorem dL_isSo_65 : decode cL_isSo 65 = .ok (.aload_n 0, 1) := by decide +kernel
theorem dL_isSo_66 : decode cL_isSo 66 = .ok (.iload 6, 2) := by decide +kernel
theorem dL_isSo_68 : decode cL_isSo 68 = .ok (.invokevirtual 139, 3) := by decide +kernel
theorem dL_isSo_71 : decode cL_isSo 71 = .ok (.aload_n 1, 1) := by decide +kernel
theorem dL_isSo_72 : decode cL_isSo 72 = .ok (.bipush 6, 2) := by decide +kernel
theorem dL_isSo_74 : decode cL_isSo 74 = .ok (.iload 6, 2) := by decide +kernel
theorem dL_isSo_76 : decode cL_isSo 76 = .ok (.imul, 1) := by decide +kernel
theorem dL_isSo_77 : decode cL_isSo 77 = .ok (.iconst 3, 1) := by decide +kernel
theorem dL_isSo_78 : decode cL_isSo 78 = .ok (.iadd, 1) := by decide +kernel
theorem dL_isSo_79 : decode cL_isSo 79 = .ok (.iaload, 1) := by decide +kernel
theorem dL_isSo_80 : decode cL_isSo 80 = .ok (.if_icmp .ne 38, 3) := by decide +kernel
theorem dL_isSo_83 : decode cL_isSo 83 = .ok (.aload_n 0, 1) := by decide +kernel
theorem dL_isSo_84 : decode cL_isSo 84 = .ok (.iload 6, 2) := by decide +kernel
theorem dL_isSo_86 : decode cL_isSo 86 = .ok (.invokevirtual 142, 3) := by decide +kernel
theorem dL_isSo_89 : decode cL_isSo 89 = .ok (.aload_n 1, 1) := by decide +kernel
theorem dL_isSo_90 : decode cL_isSo 90 = .ok (.bipush 6, 2) := by decide +kernel
theorem dL_isSo_92 : decode cL_isSo 92 = .ok (.iload 6, 2) := by decide +kernel
theorem dL_isSo_94 : decode cL_isSo 94 = .ok (.imul, 1) := by decide +kernel
theorem dL_isSo_95 : decode cL_isSo 95 = .ok (.iconst 4, 1) := by decide +kernel
theorem dL_isSo_96 : decode cL_isSo 96 = .ok (.iadd, 1) := by decide +kernel
theorem dL_isSo_97 : decode cL_isSo 97 = .ok (.iaload, 1) := by decide +kernel
theorem dL_isSo_98 : decode cL_isSo 98 = .ok (.if_icmp .ne 20, 3) := by decide +kernel
theorem dL_isSo_101 : decode cL_isSo 101 = .ok (.aload_n 0, 1) := by decide +kernel
theorem dL_isSo_102 : decode cL_isSo 102 = .ok (.iload 6, 2) := by decide +kernel
theorem dL_isSo_104 : decode cL_isSo 104 = .ok (.invokevirtual 145, 3) := by decide +kernel
theorem dL_isSo_107 : decode cL_isSo 107 = .ok (.aload_n 1, 1) := by decide +kernel
theorem dL_isSo_108 : decode cL_isSo 108 = .ok (.aload_n 2, 1) := by decide +kernel
theorem dL_isSo_109 : decode cL_isSo 109 = .ok (.aload_n 3, 1) := by decide +kernel
theorem dL_isSo_110 : decode cL_isSo 110 = .ok (.iload 6, 2) := by decide +kernel
theorem dL_isSo_112 : decode cL_isSo 112 = .ok (.invokestatic 81, 3) := by decide +kernel
theorem dL_isSo_115 : decode cL_isSo 115 = .ok (.if_icmp .eq 5, 3) := by decide +kernel
theorem dL_isSo_118 : decode cL_isSo 118 = .ok (.iconst 0, 1) := by decide +kernel
theorem dL_isSo_119 : decode cL_isSo 119 = .ok (.ireturn, 1) := by decide +kernel
theorem dL_isSo_120 : decode cL_isSo 120 = .ok (.iconst 0, 1) := by decide +kernel
theorem dL_isSo_121 : decode cL_isSo 121 = .ok (.istore 7, 2) := by decide +kernel
theorem dL_isSo_123 : decode cL_isSo 123 = .ok (.iconst 0, 1) := by decide +kernel
theorem dL_isSo_124 : decode cL_isSo 124 = .ok (.istore 8, 2) := by decide +kernel
theorem dL_isSo_126 : decode cL_isSo 126 = .ok (.iload 8, 2) := by decide +kernel
theorem dL_isSo_128 : decode cL_isSo 128 = .ok (.bipush 8, 2) := by decide +kernel
theorem dL_isSo_130 : decode cL_isSo 130 = .ok (.if_icmp .ge 41, 3) := by decide +kernel
theorem dL_isSo_133 : decode cL_isSo 133 = .ok (.iload 7, 2) := by decide +kernel
theorem dL_isSo_135 : decode cL_isSo 135 = .ok (.iload 8, 2) := by decide +kernel
theorem dL_isSo_137 : decode cL_isSo 137 = .ok (.iload 6, 2) := by decide +kernel
theorem dL_isSo_139 : decode cL_isSo 139 = .ok (.if_icmp .eq 22, 3) := by decide +kernel
theorem dL_isSo_142 : decode cL_isSo 142 = .ok (.aload_n 1, 1) := by decide +kernel
theorem dL_isSo_143 : decode cL_isSo 143 = .ok (.aload_n 2, 1) := by decide +kernel
theorem dL_isSo_144 : decode cL_isSo 144 = .ok (.aload_n 3, 1) := by decide +kernel
theorem dL_isSo_145 : decode cL_isSo 145 = .ok (.iload 6, 2) := by decide +kernel
theorem dL_isSo_147 : decode cL_isSo 147 = .ok (.iload 8, 2) := by decide +kernel
theorem dL_isSo_149 : decode cL_isSo 149 = .ok (.invokestatic 85, 3) := by decide +kernel
theorem dL_isSo_152 : decode cL_isSo 152 = .ok (.bipush 99, 2) := by decide +kernel
theorem dL_isSo_154 : decode cL_isSo 154 = .ok (.if_icmp .ge 7, 3) := by decide +kernel
theorem dL_isSo_157 : decode cL_isSo 157 = .ok (.iconst 1, 1) := by decide +kernel
theorem dL_isSo_158 : decode cL_isSo 158 = .ok (.goto 4, 3) := by decide +kernel
theorem dL_isSo_161 : decode cL_isSo 161 = .ok (.iconst 0, 1) := by decide +kernel
theorem dL_isSo_162 : decode cL_isSo 162 = .ok (.iadd, 1) := by decide +kernel
theorem dL_isSo_163 : decode cL_isSo 163 = .ok (.istore 7, 2) := by decide +kernel
theorem dL_isSo_165 : decode cL_isSo 165 = .ok (.iinc 8 1, 3) := by decide +kernel
theorem dL_isSo_168 : decode cL_isSo 168 = .ok (.goto (-42), 3) := by decide +kernel
theorem dL_isSo_171 : decode cL_isSo 171 = .ok (.aload_n 0, 1) := by decide +kernel
theorem dL_isSo_172 : decode cL_isSo 172 = .ok (.iload 6, 2) := by decide +kernel
theorem dL_isSo_174 : decode cL_isSo 174 = .ok (.invokevirtual 147, 3) := by decide +kernel
theorem dL_isSo_177 : decode cL_isSo 177 = .ok (.iload 7, 2) := by decide +kernel
theorem dL_isSo_179 : decode cL_isSo 179 = .ok (.if_icmp .eq 5, 3) := by decide +kernel
theorem dL_isSo_182 : decode cL_isSo 182 = .ok (.iconst 0, 1) := by decide +kernel
theorem dL_isSo_183 : decode cL_isSo 183 = .ok (.ireturn, 1) := by decide +kernel
theorem dL_isSo_184 : decode cL_isSo 184 = .ok (.iconst 0, 1) := by decide +kernel
theorem dL_isSo_185 : decode cL_isSo 185 = .ok (.istore 8, 2) := by decide +kernel
theorem dL_isSo_187 : decode cL_isSo 187 = .ok (.iload 8, 2) := by decide +kernel
theorem dL_isSo_189 : decode cL_isSo 189 = .ok (.bipush 10, 2) := by decide +kernel
theorem dL_isSo_191 : decode cL_isSo 191 = .ok (.if_icmp .ge 51, 3) := by decide +kernel
theorem dL_isSo_194 : decode cL_isSo 194 = .ok (.aload_n 0, 1) := by decide +kernel
theorem dL_isSo_195 : decode cL_isSo 195 = .ok (.iload 6, 2) := by decide +kernel
theorem dL_isSo_197 : decode cL_isSo 197 = .ok (.iload 8, 2) := by decide +kernel
theorem dL_isSo_199 : decode cL_isSo 199 = .ok (.invokevirtual 150, 3) := by decide +kernel
theorem dL_isSo_202 : decode cL_isSo 202 = .ok (.aload_n 2, 1) := by decide +kernel
theorem dL_isSo_203 : decode cL_isSo 203 = .ok (.iload 6, 2) := by decide +kernel
theorem dL_isSo_205 : decode cL_isSo 205 = .ok (.iload 8, 2) := by decide +kernel
theorem dL_isSo_207 : decode cL_isSo 207 = .ok (.invokestatic 62, 3) := by decide +kernel
theorem dL_isSo_210 : decode cL_isSo 210 = .ok (.if_icmp .eq 5, 3) := by decide +kernel
theorem dL_isSo_213 : decode cL_isSo 213 = .ok (.iconst 0, 1) := by decide +kernel
theorem dL_isSo_214 : decode cL_isSo 214 = .ok (.ireturn, 1) := by decide +kernel
theorem dL_isSo_215 : decode cL_isSo 215 = .ok (.iload 5, 2) := by decide +kernel
theorem dL_isSo_217 : decode cL_isSo 217 = .ok (.aload_n 2, 1) := by decide +kernel
theorem dL_isSo_218 : decode cL_isSo 218 = .ok (.iload 6, 2) := by decide +kernel
theorem dL_isSo_220 : decode cL_isSo 220 = .ok (.iload 8, 2) := by decide +kernel
theorem dL_isSo_222 : decode cL_isSo 222 = .ok (.invokestatic 62, 3) := by decide +kernel
theorem dL_isSo_225 : decode cL_isSo 225 = .ok (.ifCond .le 7, 3) := by decide +kernel
theorem dL_isSo_228 : decode cL_isSo 228 = .ok (.iconst 1, 1) := by decide +kernel
theorem dL_isSo_229 : decode cL_isSo 229 = .ok (.goto 4, 3) := by decide +kernel
theorem dL_isSo_232 : decode cL_isSo 232 = .ok (.iconst 0, 1) := by decide +kernel
theorem dL_isSo_233 : decode cL_isSo 233 = .ok (.iadd, 1) := by decide +kernel
theorem dL_isSo_234 : decode cL_isSo 234 = .ok (.istore 5, 2) := by decide +kernel
theorem dL_isSo_236 : decode cL_isSo 236 = .ok (.iinc 8 1, 3) := by decide +kernel
theorem dL_isSo_239 : decode cL_isSo 239 = .ok (.goto (-52), 3) := by decide +kernel
theorem dL_isSo_242 : decode cL_isSo 242 = .ok (.iinc 6 1, 3) := by decide +kernel
theorem dL_isSo_245 : decode cL_isSo 245 = .ok (.goto (-239), 3) := by decide +kernel
theorem dL_isSo_248 : decode cL_isSo 248 = .ok (.iconst 0, 1) := by decide +kernel
theorem dL_isSo_249 : decode cL_isSo 249 = .ok (.istore 6, 2) := by decide +kernel
theorem dL_isSo_251 : decode cL_isSo 251 = .ok (.iload 6, 2) := by decide +kernel
theorem dL_isSo_253 : decode cL_isSo 253 = .ok (.bipush 10, 2) := by decide +kernel
theorem dL_isSo_255 : decode cL_isSo 255 = .ok (.if_icmp .ge 155, 3) := by decide +kernel
theorem dL_isSo_258 : decode cL_isSo 258 = .ok (.iconst 0, 1) := by decide +kernel
theorem dL_isSo_259 : decode cL_isSo 259 = .ok (.istore 7, 2) := by decide +kernel
theorem dL_isSo_261 : decode cL_isSo 261 = .ok (.aload_n 3, 1) := by decide +kernel
theorem dL_isSo_262 : decode cL_isSo 262 = .ok (.iload 6, 2) := by decide +kernel
theorem dL_isSo_264 : decode cL_isSo 264 = .ok (.laload, 1) := by decide +kernel
theorem dL_isSo_265 : decode cL_isSo 265 = .ok (.invokestatic 52, 3) := by decide +kernel
theorem dL_isSo_268 : decode cL_isSo 268 = .ok (.istore 8, 2) := by decide +kernel
theorem dL_isSo_270 : decode cL_isSo 270 = .ok (.iconst 0, 1) := by decide +kernel
theorem dL_isSo_271 : decode cL_isSo 271 = .ok (.istore 9, 2) := by decide +kernel
theorem dL_isSo_273 : decode cL_isSo 273 = .ok (.iload 9, 2) := by decide +kernel
theorem dL_isSo_275 : decode cL_isSo 275 = .ok (.bipush 8, 2) := by decide +kernel
theorem dL_isSo_277 : decode cL_isSo 277 = .ok (.if_icmp .ge 33, 3) := by decide +kernel
theorem dL_isSo_280 : decode cL_isSo 280 = .ok (.iload 7, 2) := by decide +kernel
theorem dL_isSo_282 : decode cL_isSo 282 = .ok (.aload_n 2, 1) := by decide +kernel
theorem dL_isSo_283 : decode cL_isSo 283 = .ok (.iload 9, 2) := by decide +kernel
theorem dL_isSo_285 : decode cL_isSo 285 = .ok (.iload 6, 2) := by decide +kernel
theorem dL_isSo_287 : decode cL_isSo 287 = .ok (.invokestatic 62, 3) := by decide +kernel
theorem dL_isSo_290 : decode cL_isSo 290 = .ok (.ifCond .le 10, 3) := by decide +kernel
theorem dL_isSo_293 : decode cL_isSo 293 = .ok (.iconst 1, 1) := by decide +kernel
theorem dL_isSo_294 : decode cL_isSo 294 = .ok (.iload 9, 2) := by decide +kernel
theorem dL_isSo_296 : decode cL_isSo 296 = .ok (.ishl, 1) := by decide +kernel
theorem dL_isSo_297 : decode cL_isSo 297 = .ok (.goto 4, 3) := by decide +kernel
theorem dL_isSo_300 : decode cL_isSo 300 = .ok (.iconst 0, 1) := by decide +kernel
theorem dL_isSo_301 : decode cL_isSo 301 = .ok (.ior, 1) := by decide +kernel
theorem dL_isSo_302 : decode cL_isSo 302 = .ok (.istore 7, 2) := by decide +kernel
theorem dL_isSo_304 : decode cL_isSo 304 = .ok (.iinc 9 1, 3) := by decide +kernel
theorem dL_isSo_307 : decode cL_isSo 307 = .ok (.goto (-34), 3) := by decide +kernel
theorem dL_isSo_310 : decode cL_isSo 310 = .ok (.iconst 0, 1) := by decide +kernel
theorem dL_isSo_311 : decode cL_isSo 311 = .ok (.istore 9, 2) := by decide +kernel
theorem dL_isSo_313 : decode cL_isSo 313 = .ok (.iload 9, 2) := by decide +kernel
theorem dL_isSo_315 : decode cL_isSo 315 = .ok (.iload 8, 2) := by decide +kernel
theorem dL_isSo_317 : decode cL_isSo 317 = .ok (.if_icmp .ge 51, 3) := by decide +kernel
theorem dL_isSo_320 : decode cL_isSo 320 = .ok (.aload_n 0, 1) := by decide +kernel
theorem dL_isSo_321 : decode cL_isSo 321 = .ok (.iload 6, 2) := by decide +kernel
theorem dL_isSo_323 : decode cL_isSo 323 = .ok (.iload 9, 2) := by decide +kernel
theorem dL_isSo_325 : decode cL_isSo 325 = .ok (.invokevirtual 44, 3) := by decide +kernel
theorem dL_isSo_328 : decode cL_isSo 328 = .ok (.bipush 10, 2) := by decide +kernel
theorem dL_isSo_330 : decode cL_isSo 330 = .ok (.aload_n 3, 1) := by decide +kernel
theorem dL_isSo_331 : decode cL_isSo 331 = .ok (.iload 6, 2) := by decide +kernel
theorem dL_isSo_333 : decode cL_isSo 333 = .ok (.laload, 1) := by decide +kernel
theorem dL_isSo_334 : decode cL_isSo 334 = .ok (.iload 9, 2) := by decide +kernel
theorem dL_isSo_336 : decode cL_isSo 336 = .ok (.invokestatic 58, 3) := by decide +kernel
theorem dL_isSo_339 : decode cL_isSo 339 = .ok (.imul, 1) := by decide +kernel
theorem dL_isSo_340 : decode cL_isSo 340 = .ok (.aload_n 1, 1) := by decide +kernel
theorem dL_isSo_341 : decode cL_isSo 341 = .ok (.bipush 6, 2) := by decide +kernel
theorem dL_isSo_343 : decode cL_isSo 343 = .ok (.aload_n 3, 1) := by decide +kernel
theorem dL_isSo_344 : decode cL_isSo 344 = .ok (.iload 6, 2) := by decide +kernel
theorem dL_isSo_346 : decode cL_isSo 346 = .ok (.laload, 1) := by decide +kernel
theorem dL_isSo_347 : decode cL_isSo 347 = .ok (.iload 9, 2) := by decide +kernel
theorem dL_isSo_349 : decode cL_isSo 349 = .ok (.invokestatic 58, 3) := by decide +kernel
theorem dL_isSo_352 : decode cL_isSo 352 = .ok (.imul, 1) := by decide +kernel
theorem dL_isSo_353 : decode cL_isSo 353 = .ok (.iconst 5, 1) := by decide +kernel
theorem dL_isSo_354 : decode cL_isSo 354 = .ok (.iadd, 1) := by decide +kernel
theorem dL_isSo_355 : decode cL_isSo 355 = .ok (.iaload, 1) := by decide +kernel
theorem dL_isSo_356 : decode cL_isSo 356 = .ok (.iadd, 1) := by decide +kernel
theorem dL_isSo_357 : decode cL_isSo 357 = .ok (.if_icmp .eq 5, 3) := by decide +kernel
theorem dL_isSo_360 : decode cL_isSo 360 = .ok (.iconst 0, 1) := by decide +kernel
theorem dL_isSo_361 : decode cL_isSo 361 = .ok (.ireturn, 1) := by decide +kernel
theorem dL_isSo_362 : decode cL_isSo 362 = .ok (.iinc 9 1, 3) := by decide +kernel
theorem dL_isSo_365 : decode cL_isSo 365 = .ok (.goto (-52), 3) := by decide +kernel
theorem dL_isSo_368 : decode cL_isSo 368 = .ok (.aload_n 0, 1) := by decide +kernel
theorem dL_isSo_369 : decode cL_isSo 369 = .ok (.iload 6, 2) := by decide +kernel
theorem dL_isSo_371 : decode cL_isSo 371 = .ok (.invokevirtual 153, 3) := by decide +kernel
theorem dL_isSo_374 : decode cL_isSo 374 = .ok (.iload 7, 2) := by decide +kernel
theorem dL_isSo_376 : decode cL_isSo 376 = .ok (.if_icmp .ne 26, 3) := by decide +kernel
theorem dL_isSo_379 : decode cL_isSo 379 = .ok (.aload_n 0, 1) := by decide +kernel
theorem dL_isSo_380 : decode cL_isSo 380 = .ok (.iload 6, 2) := by decide +kernel
theorem dL_isSo_382 : decode cL_isSo 382 = .ok (.invokevirtual 156, 3) := by decide +kernel
theorem dL_isSo_385 : decode cL_isSo 385 = .ok (.iload 8, 2) := by decide +kernel
theorem dL_isSo_387 : decode cL_isSo 387 = .ok (.if_icmp .ne 15, 3) := by decide +kernel
theorem dL_isSo_390 : decode cL_isSo 390 = .ok (.aload_n 0, 1) := by decide +kernel
theorem dL_isSo_391 : decode cL_isSo 391 = .ok (.iload 6, 2) := by decide +kernel
theorem dL_isSo_393 : decode cL_isSo 393 = .ok (.iload 8, 2) := by decide +kernel
theorem dL_isSo_395 : decode cL_isSo 395 = .ok (.invokevirtual 44, 3) := by decide +kernel
theorem dL_isSo_398 : decode cL_isSo 398 = .ok (.iconst (-1), 1) := by decide +kernel
theorem dL_isSo_399 : decode cL_isSo 399 = .ok (.if_icmp .eq 5, 3) := by decide +kernel
theorem dL_isSo_402 : decode cL_isSo 402 = .ok (.iconst 0, 1) := by decide +kernel
theorem dL_isSo_403 : decode cL_isSo 403 = .ok (.ireturn, 1) := by decide +kernel
theorem dL_isSo_404 : decode cL_isSo 404 = .ok (.iinc 6 1, 3) := by decide +kernel
theorem dL_isSo_407 : decode cL_isSo 407 = .ok (.goto (-156), 3) := by decide +kernel
theorem dL_isSo_410 : decode cL_isSo 410 = .ok (.aload_n 0, 1) := by decide +kernel
theorem dL_isSo_411 : decode cL_isSo 411 = .ok (.invokevirtual 159, 3) := by decide +kernel
theorem dL_isSo_414 : decode cL_isSo 414 = .ok (.iload 5, 2) := by decide +kernel
theorem dL_isSo_416 : decode cL_isSo 416 = .ok (.if_icmp .ne 38, 3) := by decide +kernel
theorem dL_isSo_419 : decode cL_isSo 419 = .ok (.aload_n 0, 1) := by decide +kernel
theorem dL_isSo_420 : decode cL_isSo 420 = .ok (.invokevirtual 163, 3) := by decide +kernel
theorem dL_isSo_423 : decode cL_isSo 423 = .ok (.aload 4, 2) := by decide +kernel
theorem dL_isSo_425 : decode cL_isSo 425 = .ok (.iconst 1, 1) := by decide +kernel
theorem dL_isSo_426 : decode cL_isSo 426 = .ok (.iaload, 1) := by decide +kernel
theorem dL_isSo_427 : decode cL_isSo 427 = .ok (.if_icmp .ne 27, 3) := by decide +kernel
theorem dL_isSo_430 : decode cL_isSo 430 = .ok (.aload_n 0, 1) := by decide +kernel
theorem dL_isSo_431 : decode cL_isSo 431 = .ok (.invokevirtual 166, 3) := by decide +kernel
theorem dL_isSo_434 : decode cL_isSo 434 = .ok (.aload 4, 2) := by decide +kernel
theorem dL_isSo_436 : decode cL_isSo 436 = .ok (.iconst 2, 1) := by decide +kernel
theorem dL_isSo_437 : decode cL_isSo 437 = .ok (.iaload, 1) := by decide +kernel
theorem dL_isSo_438 : decode cL_isSo 438 = .ok (.if_icmp .ne 16, 3) := by decide +kernel
theorem dL_isSo_441 : decode cL_isSo 441 = .ok (.aload_n 0, 1) := by decide +kernel
theorem dL_isSo_442 : decode cL_isSo 442 = .ok (.invokevirtual 169, 3) := by decide +kernel
theorem dL_isSo_445 : decode cL_isSo 445 = .ok (.bipush 8, 2) := by decide +kernel
theorem dL_isSo_447 : decode cL_isSo 447 = .ok (.if_icmp .gt 7, 3) := by decide +kernel
theorem dL_isSo_450 : decode cL_isSo 450 = .ok (.iconst 1, 1) := by decide +kernel
theorem dL_isSo_451 : decode cL_isSo 451 = .ok (.goto 4, 3) := by decide +kernel
theorem dL_isSo_454 : decode cL_isSo 454 = .ok (.iconst 0, 1) := by decide +kernel
theorem dL_isSo_455 : decode cL_isSo 455 = .ok (.ireturn, 1) := by decide +kernel
theorem dL_law_0 : decode cL_law 0 = .ok (.new 10, 3) := by decide +kernel
theorem dL_law_3 : decode cL_law 3 = .ok (.dup, 1) := by decide +kernel
theorem dL_law_4 : decode cL_law 4 = .ok (.invokespecial 172, 3) := by decide +kernel
theorem dL_law_7 : decode cL_law 7 = .ok (.astore_n 1, 1) := by decide +kernel
theorem dL_law_8 : decode cL_law 8 = .ok (.iconst 3, 1) := by decide +kernel
theorem dL_law_9 : decode cL_law 9 = .ok (.newarray .int, 2) := by decide +kernel
theorem dL_law_11 : decode cL_law 11 = .ok (.astore_n 2, 1) := by decide +kernel
theorem dL_law_12 : decode cL_law 12 = .ok (.bipush 48, 2) := by decide +kernel
theorem dL_law_14 : decode cL_law 14 = .ok (.newarray .int, 2) := by decide +kernel
theorem dL_law_16 : decode cL_law 16 = .ok (.astore_n 3, 1) := by decide +kernel
theorem dL_law_17 : decode cL_law 17 = .ok (.bipush 10, 2) := by decide +kernel
theorem dL_law_19 : decode cL_law 19 = .ok (.newarray .int, 2) := by decide +kernel
theorem dL_law_21 : decode cL_law 21 = .ok (.astore 4, 2) := by decide +kernel
theorem dL_law_23 : decode cL_law 23 = .ok (.bipush 10, 2) := by decide +kernel
theorem dL_law_25 : decode cL_law 25 = .ok (.newarray .long, 2) := by decide +kernel
theorem dL_law_27 : decode cL_law 27 = .ok (.astore 5, 2) := by decide +kernel
theorem dL_law_29 : decode cL_law 29 = .ok (.iconst 0, 1) := by decide +kernel
theorem dL_law_30 : decode cL_law 30 = .ok (.istore 6, 2) := by decide +kernel
theorem dL_law_32 : decode cL_law 32 = .ok (.iload 6, 2) := by decide +kernel
theorem dL_law_34 : decode cL_law 34 = .ok (.bipush 8, 2) := by decide +kernel
theorem dL_law_36 : decode cL_law 36 = .ok (.if_icmp .ge 35, 3) := by decide +kernel
theorem dL_law_39 : decode cL_law 39 = .ok (.iconst 1, 1) := by decide +kernel
theorem dL_law_40 : decode cL_law 40 = .ok (.istore 7, 2) := by decide +kernel
theorem dL_law_42 : decode cL_law 42 = .ok (.iload 7, 2) := by decide +kernel
theorem dL_law_44 : decode cL_law 44 = .ok (.iconst 5, 1) := by decide +kernel
theorem dL_law_45 : decode cL_law 45 = .ok (.if_icmp .ge 20, 3) := by decide +kernel
theorem dL_law_48 : decode cL_law 48 = .ok (.aload_n 3, 1) := by decide +kernel
theorem dL_law_49 : decode cL_law 49 = .ok (.bipush 6, 2) := by decide +kernel
theorem dL_law_51 : decode cL_law 51 = .ok (.iload 6, 2) := by decide +kernel
theorem dL_law_53 : decode cL_law 53 = .ok (.imul, 1) := by decide +kernel
theorem dL_law_54 : decode cL_law 54 = .ok (.iload 7, 2) := by decide +kernel
theorem dL_law_56 : decode cL_law 56 = .ok (.iadd, 1) := by decide +kernel
theorem dL_law_57 : decode cL_law 57 = .ok (.iconst (-1), 1) := by decide +kernel
theorem dL_law_58 : decode cL_law 58 = .ok (.iastore, 1) := by decide +kernel
theorem dL_law_59 : decode cL_law 59 = .ok (.iinc 7 1, 3) := by decide +kernel
theorem dL_law_62 : decode cL_law 62 = .ok (.goto (-20), 3) := by decide +kernel
theorem dL_law_65 : decode cL_law 65 = .ok (.iinc 6 1, 3) := by decide +kernel
theorem dL_law_68 : decode cL_law 68 = .ok (.goto (-36), 3) := by decide +kernel
theorem dL_law_71 : decode cL_law 71 = .ok (.aload_n 1, 1) := by decide +kernel
theorem dL_law_72 : decode cL_law 72 = .ok (.aload_n 3, 1) := by decide +kernel
theorem dL_law_73 : decode cL_law 73 = .ok (.aload 4, 2) := by decide +kernel
theorem dL_law_75 : decode cL_law 75 = .ok (.aload 5, 2) := by decide +kernel
theorem dL_law_77 : decode cL_law 77 = .ok (.aload_n 2, 1) := by decide +kernel
theorem dL_law_78 : decode cL_law 78 = .ok (.invokestatic 173, 3) := by decide +kernel
theorem dL_law_81 : decode cL_law 81 = .ok (.ifCond .ne 5, 3) := by decide +kernel
theorem dL_law_84 : decode cL_law 84 = .ok (.iconst 0, 1) := by decide +kernel
theorem dL_law_85 : decode cL_law 85 = .ok (.ireturn, 1) := by decide +kernel
theorem dL_law_86 : decode cL_law 86 = .ok (.iconst 0, 1) := by decide +kernel
theorem dL_law_87 : decode cL_law 87 = .ok (.istore 6, 2) := by decide +kernel
theorem dL_law_89 : decode cL_law 89 = .ok (.iload 6, 2) := by decide +kernel
theorem dL_law_91 : decode cL_law 91 = .ok (.bipush 52, 2) := by decide +kernel
theorem dL_law_93 : decode cL_law 93 = .ok (.if_icmp .ge 102, 3) := by decide +kernel
theorem dL_law_96 : decode cL_law 96 = .ok (.aload_n 0, 1) := by decide +kernel
theorem dL_law_97 : decode cL_law 97 = .ok (.iconst 2, 1) := by decide +kernel
theorem dL_law_98 : decode cL_law 98 = .ok (.iload 6, 2) := by decide +kernel
theorem dL_law_100 : decode cL_law 100 = .ok (.imul, 1) := by decide +kernel
theorem dL_law_101 : decode cL_law 101 = .ok (.invokestatic 177, 3) := by decide +kernel
theorem dL_law_104 : decode cL_law 104 = .ok (.istore 7, 2) := by decide +kernel
theorem dL_law_106 : decode cL_law 106 = .ok (.aload_n 0, 1) := by decide +kernel
theorem dL_law_107 : decode cL_law 107 = .ok (.iconst 2, 1) := by decide +kernel
theorem dL_law_108 : decode cL_law 108 = .ok (.iload 6, 2) := by decide +kernel
theorem dL_law_110 : decode cL_law 110 = .ok (.imul, 1) := by decide +kernel
theorem dL_law_111 : decode cL_law 111 = .ok (.iconst 1, 1) := by decide +kernel
theorem dL_law_112 : decode cL_law 112 = .ok (.iadd, 1) := by decide +kernel
theorem dL_law_113 : decode cL_law 113 = .ok (.invokestatic 177, 3) := by decide +kernel
theorem dL_law_116 : decode cL_law 116 = .ok (.istore 8, 2) := by decide +kernel
theorem dL_law_118 : decode cL_law 118 = .ok (.iload 6, 2) := by decide +kernel
theorem dL_law_120 : decode cL_law 120 = .ok (.iconst 4, 1) := by decide +kernel
theorem dL_law_121 : decode cL_law 121 = .ok (.if_icmp .ge 32, 3) := by decide +kernel
theorem dL_law_124 : decode cL_law 124 = .ok (.aload_n 1, 1) := by decide +kernel
theorem dL_law_125 : decode cL_law 125 = .ok (.iconst 0, 1) := by decide +kernel
theorem dL_law_126 : decode cL_law 126 = .ok (.iconst 5, 1) := by decide +kernel
theorem dL_law_127 : decode cL_law 127 = .ok (.iload 8, 2) := by decide +kernel
theorem dL_law_129 : decode cL_law 129 = .ok (.iconst 4, 1) := by decide +kernel
theorem dL_law_130 : decode cL_law 130 = .ok (.ishr, 1) := by decide +kernel
theorem dL_law_131 : decode cL_law 131 = .ok (.sipush 255, 3) := by decide +kernel
theorem dL_law_134 : decode cL_law 134 = .ok (.iand, 1) := by decide +kernel
theorem dL_law_135 : decode cL_law 135 = .ok (.imul, 1) := by decide +kernel
theorem dL_law_136 : decode cL_law 136 = .ok (.iconst 4, 1) := by decide +kernel
theorem dL_law_137 : decode cL_law 137 = .ok (.ishl, 1) := by decide +kernel
theorem dL_law_138 : decode cL_law 138 = .ok (.iload 6, 2) := by decide +kernel
theorem dL_law_140 : decode cL_law 140 = .ok (.ior, 1) := by decide +kernel
theorem dL_law_141 : decode cL_law 141 = .ok (.aload_n 3, 1) := by decide +kernel
theorem dL_law_142 : decode cL_law 142 = .ok (.aload 4, 2) := by decide +kernel
theorem dL_law_144 : decode cL_law 144 = .ok (.aload 5, 2) := by decide +kernel
theorem dL_law_146 : decode cL_law 146 = .ok (.aload_n 2, 1) := by decide +kernel
theorem dL_law_147 : decode cL_law 147 = .ok (.invokestatic 181, 3) := by decide +kernel
theorem dL_law_150 : decode cL_law 150 = .ok (.goto 17, 3) := by decide +kernel
theorem dL_law_153 : decode cL_law 153 = .ok (.aload_n 1, 1) := by decide +kernel
theorem dL_law_154 : decode cL_law 154 = .ok (.iload 7, 2) := by decide +kernel
theorem dL_law_156 : decode cL_law 156 = .ok (.iload 8, 2) := by decide +kernel
theorem dL_law_158 : decode cL_law 158 = .ok (.aload_n 3, 1) := by decide +kernel
theorem dL_law_159 : decode cL_law 159 = .ok (.aload 4, 2) := by decide +kernel
theorem dL_law_161 : decode cL_law 161 = .ok (.aload 5, 2) := by decide +kernel
theorem dL_law_163 : decode cL_law 163 = .ok (.aload_n 2, 1) := by decide +kernel
theorem dL_law_164 : decode cL_law 164 = .ok (.invokestatic 181, 3) := by decide +kernel
theorem dL_law_167 : decode cL_law 167 = .ok (.istore 9, 2) := by decide +kernel
theorem dL_law_169 : decode cL_law 169 = .ok (.iload 9, 2) := by decide +kernel
theorem dL_law_171 : decode cL_law 171 = .ok (.ifCond .eq 16, 3) := by decide +kernel
theorem dL_law_174 : decode cL_law 174 = .ok (.aload_n 1, 1) := by decide +kernel
theorem dL_law_175 : decode cL_law 175 = .ok (.aload_n 3, 1) := by decide +kernel
theorem dL_law_176 : decode cL_law 176 = .ok (.aload 4, 2) := by decide +kernel
theorem dL_law_178 : decode cL_law 178 = .ok (.aload 5, 2) := by decide +kernel
theorem dL_law_180 : decode cL_law 180 = .ok (.aload_n 2, 1) := by decide +kernel
theorem dL_law_181 : decode cL_law 181 = .ok (.invokestatic 173, 3) := by decide +kernel
theorem dL_law_184 : decode cL_law 184 = .ok (.ifCond .ne 5, 3) := by decide +kernel
theorem dL_law_187 : decode cL_law 187 = .ok (.iconst 0, 1) := by decide +kernel
theorem dL_law_188 : decode cL_law 188 = .ok (.ireturn, 1) := by decide +kernel
theorem dL_law_189 : decode cL_law 189 = .ok (.iinc 6 1, 3) := by decide +kernel
theorem dL_law_192 : decode cL_law 192 = .ok (.goto (-103), 3) := by decide +kernel
theorem dL_law_195 : decode cL_law 195 = .ok (.iconst 1, 1) := by decide +kernel
theorem dL_law_196 : decode cL_law 196 = .ok (.ireturn, 1) := by decide +kernel
