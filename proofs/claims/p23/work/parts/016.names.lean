theorem dL_areTasksRight_65 : decode cL_areTasksRight 65 = .ok (.iconst 0, 1) := by decide +kernel
theorem dL_areTasksRight_66 : decode cL_areTasksRight 66 = .ok (.iastore, 1) := by decide +kernel
theorem dL_areTasksRight_67 : decode cL_areTasksRight 67 = .ok (.dup, 1) := by decide +kernel
theorem dL_areTasksRight_68 : decode cL_areTasksRight 68 = .ok (.bipush 12, 2) := by decide +kernel
theorem dL_areTasksRight_70 : decode cL_areTasksRight 70 = .ok (.iconst 1, 1) := by decide +kernel
theorem dL_areTasksRight_71 : decode cL_areTasksRight 71 = .ok (.iastore, 1) := by decide +kernel
theorem dL_areTasksRight_72 : decode cL_areTasksRight 72 = .ok (.dup, 1) := by decide +kernel
theorem dL_areTasksRight_73 : decode cL_areTasksRight 73 = .ok (.bipush 13, 2) := by decide +kernel
theorem dL_areTasksRight_75 : decode cL_areTasksRight 75 = .ok (.iconst 2, 1) := by decide +kernel
theorem dL_areTasksRight_76 : decode cL_areTasksRight 76 = .ok (.iastore, 1) := by decide +kernel
theorem dL_areTasksRight_77 : decode cL_areTasksRight 77 = .ok (.dup, 1) := by decide +kernel
theorem dL_areTasksRight_78 : decode cL_areTasksRight 78 = .ok (.bipush 14, 2) := by decide +kernel
theorem dL_areTasksRight_80 : decode cL_areTasksRight 80 = .ok (.iconst 0, 1) := by decide +kernel
theorem dL_areTasksRight_81 : decode cL_areTasksRight 81 = .ok (.iastore, 1) := by decide +kernel
theorem dL_areTasksRight_82 : decode cL_areTasksRight 82 = .ok (.dup, 1) := by decide +kernel
theorem dL_areTasksRight_83 : decode cL_areTasksRight 83 = .ok (.bipush 15, 2) := by decide +kernel
theorem dL_areTasksRight_85 : decode cL_areTasksRight 85 = .ok (.iconst 3, 1) := by decide +kernel
theorem dL_areTasksRight_86 : decode cL_areTasksRight 86 = .ok (.iastore, 1) := by decide +kernel
theorem dL_areTasksRight_87 : decode cL_areTasksRight 87 = .ok (.dup, 1) := by decide +kernel
theorem dL_areTasksRight_88 : decode cL_areTasksRight 88 = .ok (.bipush 16, 2) := by decide +kernel
theorem dL_areTasksRight_90 : decode cL_areTasksRight 90 = .ok (.iconst 4, 1) := by decide +kernel
theorem dL_areTasksRight_91 : decode cL_areTasksRight 91 = .ok (.iastore, 1) := by decide +kernel
theorem dL_areTasksRight_92 : decode cL_areTasksRight 92 = .ok (.dup, 1) := by decide +kernel
theorem dL_areTasksRight_93 : decode cL_areTasksRight 93 = .ok (.bipush 17, 2) := by decide +kernel
theorem dL_areTasksRight_95 : decode cL_areTasksRight 95 = .ok (.iconst 0, 1) := by decide +kernel
theorem dL_areTasksRight_96 : decode cL_areTasksRight 96 = .ok (.iastore, 1) := by decide +kernel
theorem dL_areTasksRight_97 : decode cL_areTasksRight 97 = .ok (.dup, 1) := by decide +kernel
theorem dL_areTasksRight_98 : decode cL_areTasksRight 98 = .ok (.bipush 18, 2) := by decide +kernel
theorem dL_areTasksRight_100 : decode cL_areTasksRight 100 = .ok (.iconst 4, 1) := by decide +kernel
theorem dL_areTasksRight_101 : decode cL_areTasksRight 101 = .ok (.iastore, 1) := by decide +kernel
theorem dL_areTasksRight_102 : decode cL_areTasksRight 102 = .ok (.astore 4, 2) := by decide +kernel
theorem dL_areTasksRight_104 : decode cL_areTasksRight 104 = .ok (.iconst 0, 1) := by decide +kernel
theorem dL_areTasksRight_105 : decode cL_areTasksRight 105 = .ok (.istore 5, 2) := by decide +kernel
theorem dL_areTasksRight_107 : decode cL_areTasksRight 107 = .ok (.iload 5, 2) := by decide +kernel
theorem dL_areTasksRight_109 : decode cL_areTasksRight 109 = .ok (.aload_n 0, 1) := by decide +kernel
theorem dL_areTasksRight_110 : decode cL_areTasksRight 110 = .ok (.iconst 1, 1) := by decide +kernel
theorem dL_areTasksRight_111 : decode cL_areTasksRight 111 = .ok (.invokevirtual 43, 3) := by decide +kernel
theorem dL_areTasksRight_114 : decode cL_areTasksRight 114 = .ok (.if_icmp .ge 338, 3) := by decide +kernel
theorem dL_areTasksRight_117 : decode cL_areTasksRight 117 = .ok (.aload_n 0, 1) := by decide +kernel
theorem dL_areTasksRight_118 : decode cL_areTasksRight 118 = .ok (.iload 5, 2) := by decide +kernel
theorem dL_areTasksRight_120 : decode cL_areTasksRight 120 = .ok (.iconst 1, 1) := by decide +kernel
theorem dL_areTasksRight_121 : decode cL_areTasksRight 121 = .ok (.invokevirtual 47, 3) := by decide +kernel
theorem dL_areTasksRight_124 : decode cL_areTasksRight 124 = .ok (.istore 6, 2) := by decide +kernel
theorem dL_areTasksRight_126 : decode cL_areTasksRight 126 = .ok (.aload_n 0, 1) := by decide +kernel
theorem dL_areTasksRight_127 : decode cL_areTasksRight 127 = .ok (.iload 5, 2) := by decide +kernel
theorem dL_areTasksRight_129 : decode cL_areTasksRight 129 = .ok (.bipush 6, 2) := by decide +kernel
theorem dL_areTasksRight_131 : decode cL_areTasksRight 131 = .ok (.invokevirtual 47, 3) := by decide +kernel
theorem dL_areTasksRight_134 : decode cL_areTasksRight 134 = .ok (.istore 7, 2) := by decide +kernel
theorem dL_areTasksRight_136 : decode cL_areTasksRight 136 = .ok (.aload_n 0, 1) := by decide +kernel
theorem dL_areTasksRight_137 : decode cL_areTasksRight 137 = .ok (.iload 5, 2) := by decide +kernel
theorem dL_areTasksRight_139 : decode cL_areTasksRight 139 = .ok (.bipush 8, 2) := by decide +kernel
theorem dL_areTasksRight_141 : decode cL_areTasksRight 141 = .ok (.invokevirtual 47, 3) := by decide +kernel
theorem dL_areTasksRight_144 : decode cL_areTasksRight 144 = .ok (.istore 8, 2) := by decide +kernel
theorem dL_areTasksRight_146 : decode cL_areTasksRight 146 = .ok (.aload_n 0, 1) := by decide +kernel
theorem dL_areTasksRight_147 : decode cL_areTasksRight 147 = .ok (.iload 5, 2) := by decide +kernel
theorem dL_areTasksRight_149 : decode cL_areTasksRight 149 = .ok (.iconst 2, 1) := by decide +kernel
theorem dL_areTasksRight_150 : decode cL_areTasksRight 150 = .ok (.invokevirtual 47, 3) := by decide +kernel
theorem dL_areTasksRight_153 : decode cL_areTasksRight 153 = .ok (.istore 9, 2) := by decide +kernel
theorem dL_areTasksRight_155 : decode cL_areTasksRight 155 = .ok (.aload_n 2, 1) := by decide +kernel
theorem dL_areTasksRight_156 : decode cL_areTasksRight 156 = .ok (.iload 6, 2) := by decide +kernel
theorem dL_areTasksRight_158 : decode cL_areTasksRight 158 = .ok (.dup2, 1) := by decide +kernel
theorem dL_areTasksRight_159 : decode cL_areTasksRight 159 = .ok (.iaload, 1) := by decide +kernel
theorem dL_areTasksRight_160 : decode cL_areTasksRight 160 = .ok (.iconst 1, 1) := by decide +kernel
theorem dL_areTasksRight_161 : decode cL_areTasksRight 161 = .ok (.iadd, 1) := by decide +kernel
theorem dL_areTasksRight_162 : decode cL_areTasksRight 162 = .ok (.iastore, 1) := by decide +kernel
theorem dL_areTasksRight_163 : decode cL_areTasksRight 163 = .ok (.iload 7, 2) := by decide +kernel
theorem dL_areTasksRight_165 : decode cL_areTasksRight 165 = .ok (.ifCond .lt 7, 3) := by decide +kernel
theorem dL_areTasksRight_168 : decode cL_areTasksRight 168 = .ok (.iconst 1, 1) := by decide +kernel
theorem dL_areTasksRight_169 : decode cL_areTasksRight 169 = .ok (.goto 4, 3) := by decide +kernel
theorem dL_areTasksRight_172 : decode cL_areTasksRight 172 = .ok (.iconst 0, 1) := by decide +kernel
theorem dL_areTasksRight_173 : decode cL_areTasksRight 173 = .ok (.iload 6, 2) := by decide +kernel
theorem dL_areTasksRight_175 : decode cL_areTasksRight 175 = .ok (.ifCond .ne 7, 3) := by decide +kernel
theorem dL_areTasksRight_178 : decode cL_areTasksRight 178 = .ok (.iconst 1, 1) := by decide +kernel
theorem dL_areTasksRight_179 : decode cL_areTasksRight 179 = .ok (.goto 4, 3) := by decide +kernel
theorem dL_areTasksRight_182 : decode cL_areTasksRight 182 = .ok (.iconst 0, 1) := by decide +kernel
theorem dL_areTasksRight_183 : decode cL_areTasksRight 183 = .ok (.if_icmp .ne 100, 3) := by decide +kernel
theorem dL_areTasksRight_186 : decode cL_areTasksRight 186 = .ok (.iload 7, 2) := by decide +kernel
theorem dL_areTasksRight_188 : decode cL_areTasksRight 188 = .ok (.aload_n 0, 1) := by decide +kernel
theorem dL_areTasksRight_189 : decode cL_areTasksRight 189 = .ok (.iconst 2, 1) := by decide +kernel
theorem dL_areTasksRight_190 : decode cL_areTasksRight 190 = .ok (.invokevirtual 43, 3) := by decide +kernel
theorem dL_areTasksRight_193 : decode cL_areTasksRight 193 = .ok (.if_icmp .ge 90, 3) := by decide +kernel
theorem dL_areTasksRight_196 : decode cL_areTasksRight 196 = .ok (.iload 7, 2) := by decide +kernel
theorem dL_areTasksRight_198 : decode cL_areTasksRight 198 = .ok (.ifCond .lt 10, 3) := by decide +kernel
theorem dL_areTasksRight_201 : decode cL_areTasksRight 201 = .ok (.aload_n 3, 1) := by decide +kernel
theorem dL_areTasksRight_202 : decode cL_areTasksRight 202 = .ok (.iload 7, 2) := by decide +kernel
theorem dL_areTasksRight_204 : decode cL_areTasksRight 204 = .ok (.baload, 1) := by decide +kernel
theorem dL_areTasksRight_205 : decode cL_areTasksRight 205 = .ok (.ifCond .ne 78, 3) := by decide +kernel
theorem dL_areTasksRight_208 : decode cL_areTasksRight 208 = .ok (.iload 8, 2) := by decide +kernel
theorem dL_areTasksRight_210 : decode cL_areTasksRight 210 = .ok (.ifCond .le 7, 3) := by decide +kernel
theorem dL_areTasksRight_213 : decode cL_areTasksRight 213 = .ok (.iconst 1, 1) := by decide +kernel
theorem dL_areTasksRight_214 : decode cL_areTasksRight 214 = .ok (.goto 4, 3) := by decide +kernel
theorem dL_areTasksRight_217 : decode cL_areTasksRight 217 = .ok (.iconst 0, 1) := by decide +kernel
theorem dL_areTasksRight_218 : decode cL_areTasksRight 218 = .ok (.iload 6, 2) := by decide +kernel
theorem dL_areTasksRight_220 : decode cL_areTasksRight 220 = .ok (.iconst 1, 1) := by decide +kernel
theorem dL_areTasksRight_221 : decode cL_areTasksRight 221 = .ok (.if_icmp .ne 7, 3) := by decide +kernel
theorem dL_areTasksRight_224 : decode cL_areTasksRight 224 = .ok (.iconst 1, 1) := by decide +kernel
theorem dL_areTasksRight_225 : decode cL_areTasksRight 225 = .ok (.goto 4, 3) := by decide +kernel
theorem dL_areTasksRight_228 : decode cL_areTasksRight 228 = .ok (.iconst 0, 1) := by decide +kernel
theorem dL_areTasksRight_229 : decode cL_areTasksRight 229 = .ok (.if_icmp .ne 54, 3) := by decide +kernel
theorem dL_areTasksRight_232 : decode cL_areTasksRight 232 = .ok (.iload 9, 2) := by decide +kernel
theorem dL_areTasksRight_234 : decode cL_areTasksRight 234 = .ok (.ifCond .ge 7, 3) := by decide +kernel
theorem dL_areTasksRight_237 : decode cL_areTasksRight 237 = .ok (.iconst 1, 1) := by decide +kernel
theorem dL_areTasksRight_238 : decode cL_areTasksRight 238 = .ok (.goto 4, 3) := by decide +kernel
theorem dL_areTasksRight_241 : decode cL_areTasksRight 241 = .ok (.iconst 0, 1) := by decide +kernel
theorem dL_areTasksRight_242 : decode cL_areTasksRight 242 = .ok (.iload 6, 2) := by decide +kernel
theorem dL_areTasksRight_244 : decode cL_areTasksRight 244 = .ok (.iconst 1, 1) := by decide +kernel
theorem dL_areTasksRight_245 : decode cL_areTasksRight 245 = .ok (.if_icmp .le 7, 3) := by decide +kernel
theorem dL_areTasksRight_248 : decode cL_areTasksRight 248 = .ok (.iconst 1, 1) := by decide +kernel
theorem dL_areTasksRight_249 : decode cL_areTasksRight 249 = .ok (.goto 4, 3) := by decide +kernel
theorem dL_areTasksRight_252 : decode cL_areTasksRight 252 = .ok (.iconst 0, 1) := by decide +kernel
theorem dL_areTasksRight_253 : decode cL_areTasksRight 253 = .ok (.if_icmp .ne 30, 3) := by decide +kernel
theorem dL_areTasksRight_256 : decode cL_areTasksRight 256 = .ok (.iload 6, 2) := by decide +kernel
theorem dL_areTasksRight_258 : decode cL_areTasksRight 258 = .ok (.iconst 1, 1) := by decide +kernel
theorem dL_areTasksRight_259 : decode cL_areTasksRight 259 = .ok (.if_icmp .le 26, 3) := by decide +kernel
theorem dL_areTasksRight_262 : decode cL_areTasksRight 262 = .ok (.aload_n 0, 1) := by decide +kernel
theorem dL_areTasksRight_263 : decode cL_areTasksRight 263 = .ok (.iload 5, 2) := by decide +kernel
theorem dL_areTasksRight_265 : decode cL_areTasksRight 265 = .ok (.iconst 5, 1) := by decide +kernel
theorem dL_areTasksRight_266 : decode cL_areTasksRight 266 = .ok (.invokevirtual 47, 3) := by decide +kernel
theorem dL_areTasksRight_269 : decode cL_areTasksRight 269 = .ok (.ifCond .ne 14, 3) := by decide +kernel
theorem dL_areTasksRight_272 : decode cL_areTasksRight 272 = .ok (.aload_n 0, 1) := by decide +kernel
theorem dL_areTasksRight_273 : decode cL_areTasksRight 273 = .ok (.iload 5, 2) := by decide +kernel
theorem dL_areTasksRight_275 : decode cL_areTasksRight 275 = .ok (.bipush 7, 2) := by decide +kernel
theorem dL_areTasksRight_277 : decode cL_areTasksRight 277 = .ok (.invokevirtual 47, 3) := by decide +kernel
theorem dL_areTasksRight_280 : decode cL_areTasksRight 280 = .ok (.ifCond .eq 5, 3) := by decide +kernel
theorem dL_areTasksRight_283 : decode cL_areTasksRight 283 = .ok (.iconst 0, 1) := by decide +kernel
theorem dL_areTasksRight_284 : decode cL_areTasksRight 284 = .ok (.ireturn, 1) := by decide +kernel
theorem dL_areTasksRight_285 : decode cL_areTasksRight 285 = .ok (.iload 7, 2) := by decide +kernel
theorem dL_areTasksRight_287 : decode cL_areTasksRight 287 = .ok (.ifCond .lt 8, 3) := by decide +kernel
theorem dL_areTasksRight_290 : decode cL_areTasksRight 290 = .ok (.aload_n 3, 1) := by decide +kernel
theorem dL_areTasksRight_291 : decode cL_areTasksRight 291 = .ok (.iload 7, 2) := by decide +kernel
theorem dL_areTasksRight_293 : decode cL_areTasksRight 293 = .ok (.iconst 1, 1) := by decide +kernel
theorem dL_areTasksRight_294 : decode cL_areTasksRight 294 = .ok (.bastore, 1) := by decide +kernel
theorem dL_areTasksRight_295 : decode cL_areTasksRight 295 = .ok (.iload 8, 2) := by decide +kernel
theorem dL_areTasksRight_297 : decode cL_areTasksRight 297 = .ok (.ifCond .le 48, 3) := by decide +kernel
theorem dL_areTasksRight_300 : decode cL_areTasksRight 300 = .ok (.iload 8, 2) := by decide +kernel
theorem dL_areTasksRight_302 : decode cL_areTasksRight 302 = .ok (.iconst 5, 1) := by decide +kernel
theorem dL_areTasksRight_303 : decode cL_areTasksRight 303 = .ok (.if_icmp .ge 42, 3) := by decide +kernel
theorem dL_areTasksRight_306 : decode cL_areTasksRight 306 = .ok (.aload_n 0, 1) := by decide +kernel
theorem dL_areTasksRight_307 : decode cL_areTasksRight 307 = .ok (.iload 5, 2) := by decide +kernel
theorem dL_areTasksRight_309 : decode cL_areTasksRight 309 = .ok (.bipush 7, 2) := by decide +kernel
theorem dL_areTasksRight_311 : decode cL_areTasksRight 311 = .ok (.invokevirtual 47, 3) := by decide +kernel
theorem dL_areTasksRight_314 : decode cL_areTasksRight 314 = .ok (.iconst 1, 1) := by decide +kernel
theorem dL_areTasksRight_315 : decode cL_areTasksRight 315 = .ok (.if_icmp .eq 28, 3) := by decide +kernel
theorem dL_areTasksRight_318 : decode cL_areTasksRight 318 = .ok (.aload 4, 2) := by decide +kernel
theorem dL_areTasksRight_320 : decode cL_areTasksRight 320 = .ok (.aload_n 1, 1) := by decide +kernel
theorem dL_areTasksRight_321 : decode cL_areTasksRight 321 = .ok (.getfield 99, 3) := by decide +kernel
theorem dL_areTasksRight_324 : decode cL_areTasksRight 324 = .ok (.aload_n 0, 1) := by decide +kernel
theorem dL_areTasksRight_325 : decode cL_areTasksRight 325 = .ok (.iload 5, 2) := by decide +kernel
theorem dL_areTasksRight_327 : decode cL_areTasksRight 327 = .ok (.iconst 0, 1) := by decide +kernel
theorem dL_areTasksRight_328 : decode cL_areTasksRight 328 = .ok (.invokevirtual 47, 3) := by decide +kernel
theorem dL_areTasksRight_331 : decode cL_areTasksRight 331 = .ok (.aaload, 1) := by decide +kernel
theorem dL_areTasksRight_332 : decode cL_areTasksRight 332 = .ok (.iload 9, 2) := by decide +kernel
theorem dL_areTasksRight_334 : decode cL_areTasksRight 334 = .ok (.aaload, 1) := by decide +kernel
theorem dL_areTasksRight_335 : decode cL_areTasksRight 335 = .ok (.iconst 0, 1) := by decide +kernel
theorem dL_areTasksRight_336 : decode cL_areTasksRight 336 = .ok (.iaload, 1) := by decide +kernel
theorem dL_areTasksRight_337 : decode cL_areTasksRight 337 = .ok (.iaload, 1) := by decide +kernel
theorem dL_areTasksRight_338 : decode cL_areTasksRight 338 = .ok (.iload 8, 2) := by decide +kernel
theorem dL_areTasksRight_340 : decode cL_areTasksRight 340 = .ok (.if_icmp .eq 5, 3) := by decide +kernel
theorem dL_areTasksRight_343 : decode cL_areTasksRight 343 = .ok (.iconst 0, 1) := by decide +kernel
theorem dL_areTasksRight_344 : decode cL_areTasksRight 344 = .ok (.ireturn, 1) := by decide +kernel
theorem dL_areTasksRight_345 : decode cL_areTasksRight 345 = .ok (.iload 8, 2) := by decide +kernel
theorem dL_areTasksRight_347 : decode cL_areTasksRight 347 = .ok (.iconst 5, 1) := by decide +kernel
theorem dL_areTasksRight_348 : decode cL_areTasksRight 348 = .ok (.if_icmp .ne 13, 3) := by decide +kernel
theorem dL_areTasksRight_351 : decode cL_areTasksRight 351 = .ok (.aload_n 0, 1) := by decide +kernel
theorem dL_areTasksRight_352 : decode cL_areTasksRight 352 = .ok (.iload 5, 2) := by decide +kernel
theorem dL_areTasksRight_354 : decode cL_areTasksRight 354 = .ok (.iconst 5, 1) := by decide +kernel
theorem dL_areTasksRight_355 : decode cL_areTasksRight 355 = .ok (.invokevirtual 47, 3) := by decide +kernel
theorem dL_areTasksRight_358 : decode cL_areTasksRight 358 = .ok (.ifCond .eq 35, 3) := by decide +kernel
theorem dL_areTasksRight_361 : decode cL_areTasksRight 361 = .ok (.aload_n 0, 1) := by decide +kernel
theorem dL_areTasksRight_362 : decode cL_areTasksRight 362 = .ok (.iload 5, 2) := by decide +kernel
theorem dL_areTasksRight_364 : decode cL_areTasksRight 364 = .ok (.iconst 3, 1) := by decide +kernel
theorem dL_areTasksRight_365 : decode cL_areTasksRight 365 = .ok (.invokevirtual 47, 3) := by decide +kernel
theorem dL_areTasksRight_368 : decode cL_areTasksRight 368 = .ok (.invokestatic 103, 3) := by decide +kernel
theorem dL_areTasksRight_371 : decode cL_areTasksRight 371 = .ok (.sipush 9999, 3) := by decide +kernel
theorem dL_areTasksRight_374 : decode cL_areTasksRight 374 = .ok (.if_icmp .gt 19, 3) := by decide +kernel
theorem dL_areTasksRight_377 : decode cL_areTasksRight 377 = .ok (.aload_n 0, 1) := by decide +kernel
theorem dL_areTasksRight_378 : decode cL_areTasksRight 378 = .ok (.iload 5, 2) := by decide +kernel
theorem dL_areTasksRight_380 : decode cL_areTasksRight 380 = .ok (.iconst 4, 1) := by decide +kernel
theorem dL_areTasksRight_381 : decode cL_areTasksRight 381 = .ok (.invokevirtual 47, 3) := by decide +kernel
theorem dL_areTasksRight_384 : decode cL_areTasksRight 384 = .ok (.aload_n 0, 1) := by decide +kernel
theorem dL_areTasksRight_385 : decode cL_areTasksRight 385 = .ok (.bipush 7, 2) := by decide +kernel
theorem dL_areTasksRight_387 : decode cL_areTasksRight 387 = .ok (.invokevirtual 43, 3) := by decide +kernel
theorem dL_areTasksRight_390 : decode cL_areTasksRight 390 = .ok (.if_icmp .lt 5, 3) := by decide +kernel
theorem dL_areTasksRight_393 : decode cL_areTasksRight 393 = .ok (.iconst 0, 1) := by decide +kernel
theorem dL_areTasksRight_394 : decode cL_areTasksRight 394 = .ok (.ireturn, 1) := by decide +kernel
theorem dL_areTasksRight_395 : decode cL_areTasksRight 395 = .ok (.aload_n 0, 1) := by decide +kernel
theorem dL_areTasksRight_396 : decode cL_areTasksRight 396 = .ok (.iload 5, 2) := by decide +kernel
theorem dL_areTasksRight_398 : decode cL_areTasksRight 398 = .ok (.iconst 4, 1) := by decide +kernel
theorem dL_areTasksRight_399 : decode cL_areTasksRight 399 = .ok (.invokevirtual 47, 3) := by decide +kernel
theorem dL_areTasksRight_402 : decode cL_areTasksRight 402 = .ok (.ifCond .lt 44, 3) := by decide +kernel
theorem dL_areTasksRight_405 : decode cL_areTasksRight 405 = .ok (.aload_n 0, 1) := by decide +kernel
theorem dL_areTasksRight_406 : decode cL_areTasksRight 406 = .ok (.aload_n 0, 1) := by decide +kernel
theorem dL_areTasksRight_407 : decode cL_areTasksRight 407 = .ok (.iload 5, 2) := by decide +kernel
theorem dL_areTasksRight_409 : decode cL_areTasksRight 409 = .ok (.iconst 4, 1) := by decide +kernel
theorem dL_areTasksRight_410 : decode cL_areTasksRight 410 = .ok (.invokevirtual 47, 3) := by decide +kernel
theorem dL_areTasksRight_413 : decode cL_areTasksRight 413 = .ok (.iconst 0, 1) := by decide +kernel
theorem dL_areTasksRight_414 : decode cL_areTasksRight 414 = .ok (.invokevirtual 50, 3) := by decide +kernel
theorem dL_areTasksRight_417 : decode cL_areTasksRight 417 = .ok (.iload 5, 2) := by decide +kernel
theorem dL_areTasksRight_419 : decode cL_areTasksRight 419 = .ok (.if_icmp .ge 25, 3) := by decide +kernel
theorem dL_areTasksRight_422 : decode cL_areTasksRight 422 = .ok (.aload_n 0, 1) := by decide +kernel
theorem dL_areTasksRight_423 : decode cL_areTasksRight 423 = .ok (.aload_n 0, 1) := by decide +kernel
theorem dL_areTasksRight_424 : decode cL_areTasksRight 424 = .ok (.iload 5, 2) := by decide +kernel
theorem dL_areTasksRight_426 : decode cL_areTasksRight 426 = .ok (.iconst 4, 1) := by decide +kernel
theorem dL_areTasksRight_427 : decode cL_areTasksRight 427 = .ok (.invokevirtual 47, 3) := by decide +kernel
theorem dL_areTasksRight_430 : decode cL_areTasksRight 430 = .ok (.iconst 1, 1) := by decide +kernel
theorem dL_areTasksRight_431 : decode cL_areTasksRight 431 = .ok (.invokevirtual 50, 3) := by decide +kernel
theorem dL_areTasksRight_434 : decode cL_areTasksRight 434 = .ok (.iconst 2, 1) := by decide +kernel
theorem dL_areTasksRight_435 : decode cL_areTasksRight 435 = .ok (.if_icmp .ne 11, 3) := by decide +kernel
theorem dL_areTasksRight_438 : decode cL_areTasksRight 438 = .ok (.iload 6, 2) := by decide +kernel
theorem dL_areTasksRight_440 : decode cL_areTasksRight 440 = .ok (.iconst 2, 1) := by decide +kernel
theorem dL_areTasksRight_441 : decode cL_areTasksRight 441 = .ok (.if_icmp .ge 5, 3) := by decide +kernel
theorem dL_areTasksRight_444 : decode cL_areTasksRight 444 = .ok (.iconst 0, 1) := by decide +kernel
theorem dL_areTasksRight_445 : decode cL_areTasksRight 445 = .ok (.ireturn, 1) := by decide +kernel
theorem dL_areTasksRight_446 : decode cL_areTasksRight 446 = .ok (.iinc 5 1, 3) := by decide +kernel
theorem dL_areTasksRight_449 : decode cL_areTasksRight 449 = .ok (.goto (-342), 3) := by decide +kernel
theorem dL_areTasksRight_452 : decode cL_areTasksRight 452 = .ok (.aload_n 0, 1) := by decide +kernel
theorem dL_areTasksRight_453 : decode cL_areTasksRight 453 = .ok (.iconst 2, 1) := by decide +kernel
theorem dL_areTasksRight_454 : decode cL_areTasksRight 454 = .ok (.invokevirtual 43, 3) := by decide +kernel
theorem dL_areTasksRight_457 : decode cL_areTasksRight 457 = .ok (.aload_n 2, 1) := by decide +kernel
theorem dL_areTasksRight_458 : decode cL_areTasksRight 458 = .ok (.iconst 0, 1) := by decide +kernel
theorem dL_areTasksRight_459 : decode cL_areTasksRight 459 = .ok (.iaload, 1) := by decide +kernel
theorem dL_areTasksRight_460 : decode cL_areTasksRight 460 = .ok (.if_icmp .ne 75, 3) := by decide +kernel
theorem dL_areTasksRight_463 : decode cL_areTasksRight 463 = .ok (.aload_n 0, 1) := by decide +kernel
theorem dL_areTasksRight_464 : decode cL_areTasksRight 464 = .ok (.iconst 3, 1) := by decide +kernel
theorem dL_areTasksRight_465 : decode cL_areTasksRight 465 = .ok (.invokevirtual 43, 3) := by decide +kernel
theorem dL_areTasksRight_468 : decode cL_areTasksRight 468 = .ok (.aload_n 2, 1) := by decide +kernel
theorem dL_areTasksRight_469 : decode cL_areTasksRight 469 = .ok (.iconst 1, 1) := by decide +kernel
theorem dL_areTasksRight_470 : decode cL_areTasksRight 470 = .ok (.iaload, 1) := by decide +kernel
theorem dL_areTasksRight_471 : decode cL_areTasksRight 471 = .ok (.if_icmp .ne 64, 3) := by decide +kernel
theorem dL_areTasksRight_474 : decode cL_areTasksRight 474 = .ok (.aload_n 0, 1) := by decide +kernel
theorem dL_areTasksRight_475 : decode cL_areTasksRight 475 = .ok (.iconst 4, 1) := by decide +kernel
theorem dL_areTasksRight_476 : decode cL_areTasksRight 476 = .ok (.invokevirtual 43, 3) := by decide +kernel
theorem dL_areTasksRight_479 : decode cL_areTasksRight 479 = .ok (.aload_n 2, 1) := by decide +kernel
theorem dL_areTasksRight_480 : decode cL_areTasksRight 480 = .ok (.iconst 2, 1) := by decide +kernel
theorem dL_areTasksRight_481 : decode cL_areTasksRight 481 = .ok (.iaload, 1) := by decide +kernel
theorem dL_areTasksRight_482 : decode cL_areTasksRight 482 = .ok (.if_icmp .ne 53, 3) := by decide +kernel
theorem dL_areTasksRight_485 : decode cL_areTasksRight 485 = .ok (.aload_n 0, 1) := by decide +kernel
theorem dL_areTasksRight_486 : decode cL_areTasksRight 486 = .ok (.iconst 5, 1) := by decide +kernel
theorem dL_areTasksRight_487 : decode cL_areTasksRight 487 = .ok (.invokevirtual 43, 3) := by decide +kernel
theorem dL_areTasksRight_490 : decode cL_areTasksRight 490 = .ok (.aload_n 2, 1) := by decide +kernel
theorem dL_areTasksRight_491 : decode cL_areTasksRight 491 = .ok (.iconst 3, 1) := by decide +kernel
theorem dL_areTasksRight_492 : decode cL_areTasksRight 492 = .ok (.iaload, 1) := by decide +kernel
theorem dL_areTasksRight_493 : decode cL_areTasksRight 493 = .ok (.if_icmp .ne 42, 3) := by decide +kernel
theorem dL_areTasksRight_496 : decode cL_areTasksRight 496 = .ok (.aload_n 0, 1) := by decide +kernel
theorem dL_areTasksRight_497 : decode cL_areTasksRight 497 = .ok (.bipush 6, 2) := by decide +kernel
theorem dL_areTasksRight_499 : decode cL_areTasksRight 499 = .ok (.invokevirtual 43, 3) := by decide +kernel
theorem dL_areTasksRight_502 : decode cL_areTasksRight 502 = .ok (.aload_n 2, 1) := by decide +kernel
theorem dL_areTasksRight_503 : decode cL_areTasksRight 503 = .ok (.iconst 4, 1) := by decide +kernel
theorem dL_areTasksRight_504 : decode cL_areTasksRight 504 = .ok (.iaload, 1) := by decide +kernel
theorem dL_areTasksRight_505 : decode cL_areTasksRight 505 = .ok (.if_icmp .ne 30, 3) := by decide +kernel
theorem dL_areTasksRight_508 : decode cL_areTasksRight 508 = .ok (.aload_n 0, 1) := by decide +kernel
theorem dL_areTasksRight_509 : decode cL_areTasksRight 509 = .ok (.invokevirtual 106, 3) := by decide +kernel
theorem dL_areTasksRight_512 : decode cL_areTasksRight 512 = .ok (.ifCond .eq 19, 3) := by decide +kernel
theorem dL_areTasksRight_515 : decode cL_areTasksRight 515 = .ok (.aload_n 0, 1) := by decide +kernel
theorem dL_areTasksRight_516 : decode cL_areTasksRight 516 = .ok (.invokevirtual 106, 3) := by decide +kernel
theorem dL_areTasksRight_519 : decode cL_areTasksRight 519 = .ok (.aload_n 2, 1) := by decide +kernel
theorem dL_areTasksRight_520 : decode cL_areTasksRight 520 = .ok (.iconst 1, 1) := by decide +kernel
theorem dL_areTasksRight_521 : decode cL_areTasksRight 521 = .ok (.iaload, 1) := by decide +kernel
theorem dL_areTasksRight_522 : decode cL_areTasksRight 522 = .ok (.if_icmp .ne 13, 3) := by decide +kernel
theorem dL_areTasksRight_525 : decode cL_areTasksRight 525 = .ok (.aload_n 2, 1) := by decide +kernel
theorem dL_areTasksRight_526 : decode cL_areTasksRight 526 = .ok (.iconst 0, 1) := by decide +kernel
theorem dL_areTasksRight_527 : decode cL_areTasksRight 527 = .ok (.iaload, 1) := by decide +kernel
theorem dL_areTasksRight_528 : decode cL_areTasksRight 528 = .ok (.ifCond .ne 7, 3) := by decide +kernel
theorem dL_areTasksRight_531 : decode cL_areTasksRight 531 = .ok (.iconst 1, 1) := by decide +kernel
theorem dL_areTasksRight_532 : decode cL_areTasksRight 532 = .ok (.goto 4, 3) := by decide +kernel
theorem dL_areTasksRight_535 : decode cL_areTasksRight 535 = .ok (.iconst 0, 1) := by decide +kernel
theorem dL_areTasksRight_536 : decode cL_areTasksRight 536 = .ok (.ireturn, 1) := by decide +kernel
set_option maxRecDepth 20000 in
theorem ggL_areScopesRight_X8_many : GoodIn wsL_areScopesRight wsX8_many := goodIn_ca (goodIn_r _ [6, 7, 8, 9, 5, 10, 11, 12, 13, 14, 15, 16, 17, 18, 19, 20, 21, 22, 23, 24, 25, 26, 27, 28, 29, 30, 31, 32, 33, 34, 35, 36, 37, 38, 39, 40, 41, 42, 43, 44, 45, 46, 47, 48, 120, 121, 122, 123, 124, 125, 126, 127, 128, 129, 130, 131, 132, 133, 134, 135, 136, 137, 138, 139, 140, 141, 142, 143, 144, 145, 146, 147, 148, 149, 150, 151, 152, 153, 154, 155, 156, 157, 158, 159, 160, 161, 162, 163, 164, 165, 166, 167, 168, 169, 170, 171, 172, 173, 174, 175, 176] (by decide +kernel) (by decide +kernel)) (goodIn_sub (fun _ h => List.mem_cons_of_mem _ (List.mem_append_left _ (List.mem_append_right _ h))) (by decide +kernel))
set_option maxRecDepth 20000 in
theorem gL_areScopesRight_X8_many : GoodIn wsL_areScopesRight (wsV RL 43 RX8 yX8_many wsX8_many) := goodIn_app (goodIn_of _ (by decide +kernel)) ggL_areScopesRight_X8_many
set_option maxRecDepth 20000 in
theorem ggL_areScopesRight_X8_ofTask : GoodIn wsL_areScopesRight wsX8_ofTask := goodIn_ca (goodIn_ca (goodIn_r _ [52, 53, 54, 7, 55, 56, 5, 57, 58, 59, 8, 9, 10, 11, 12, 60, 61, 62, 16, 63, 20, 64, 31, 65, 66, 67, 68, 69, 70, 71, 72, 73, 74, 75, 76, 77, 78, 79, 80, 81, 82, 83, 84, 85, 86, 87, 88, 89, 90, 91, 92, 93, 94, 95, 96, 97, 98, 99, 120, 121, 122, 123, 124, 125, 126, 134, 135, 136, 137, 138, 139, 140, 141, 142, 143, 144, 145, 127, 128, 146, 147, 148, 149, 150, 151, 152, 153, 154, 155, 156, 157, 158, 159, 160, 161, 162, 163, 164, 165, 166, 167, 168, 169, 170, 171, 172, 173, 174, 175, 176] (by decide +kernel) (by decide +kernel)) (goodIn_sub (fun _ h => List.mem_cons_of_mem _ (List.mem_append_right _ h)) (by decide +kernel))) (goodIn_sub (fun _ h => List.mem_cons_of_mem _ (List.mem_append_left _ (List.mem_append_right _ h))) (by decide +kernel))
set_option maxRecDepth 20000 in
theorem gL_areScopesRight_X8_ofTask : GoodIn wsL_areScopesRight (wsV RL 47 RX8 yX8_ofTask wsX8_ofTask) := goodIn_app (goodIn_of _ (by decide +kernel)) ggL_areScopesRight_X8_ofTask
set_option maxRecDepth 20000 in
theorem ggL_areScopesRight_X8_ofScope : GoodIn wsL_areScopesRight wsX8_ofScope := goodIn_ca (goodIn_ca (goodIn_r _ [103, 53, 104, 7, 55, 56, 5, 57, 58, 59, 8, 9, 10, 11, 12, 105, 106, 107, 16, 108, 20, 109, 47, 48, 110, 111, 112, 113, 114, 115, 116, 117, 118, 73, 119, 95, 120, 121, 122, 123, 124, 125, 126, 134, 135, 136, 137, 138, 139, 140, 141, 142, 143, 144, 145, 127, 128, 163, 164, 165, 166, 167, 168, 169, 170, 171, 172, 173, 174, 175, 176] (by decide +kernel) (by decide +kernel)) (goodIn_sub (fun _ h => List.mem_cons_of_mem _ (List.mem_append_right _ h)) (by decide +kernel))) (goodIn_sub (fun _ h => List.mem_cons_of_mem _ (List.mem_append_left _ (List.mem_append_right _ h))) (by decide +kernel))
set_option maxRecDepth 20000 in
theorem gL_areScopesRight_X8_ofScope : GoodIn wsL_areScopesRight (wsV RL 50 RX8 yX8_ofScope wsX8_ofScope) := goodIn_app (goodIn_of _ (by decide +kernel)) ggL_areScopesRight_X8_ofScope
theorem dL_areScopesRight_0 : decode cL_areScopesRight 0 = .ok (.iconst 0, 1) := by decide +kernel
theorem dL_areScopesRight_1 : decode cL_areScopesRight 1 = .ok (.istore_n 1, 1) := by decide +kernel
theorem dL_areScopesRight_2 : decode cL_areScopesRight 2 = .ok (.iconst 0, 1) := by decide +kernel
theorem dL_areScopesRight_3 : decode cL_areScopesRight 3 = .ok (.istore_n 2, 1) := by decide +kernel
theorem dL_areScopesRight_4 : decode cL_areScopesRight 4 = .ok (.bipush 24, 2) := by decide +kernel
theorem dL_areScopesRight_6 : decode cL_areScopesRight 6 = .ok (.newarray .int, 2) := by decide +kernel
theorem dL_areScopesRight_8 : decode cL_areScopesRight 8 = .ok (.astore_n 3, 1) := by decide +kernel
theorem dL_areScopesRight_9 : decode cL_areScopesRight 9 = .ok (.iconst 0, 1) := by decide +kernel
theorem dL_areScopesRight_10 : decode cL_areScopesRight 10 = .ok (.istore 4, 2) := by decide +kernel
theorem dL_areScopesRight_12 : decode cL_areScopesRight 12 = .ok (.iload 4, 2) := by decide +kernel
theorem dL_areScopesRight_14 : decode cL_areScopesRight 14 = .ok (.aload_n 0, 1) := by decide +kernel
theorem dL_areScopesRight_15 : decode cL_areScopesRight 15 = .ok (.bipush 7, 2) := by decide +kernel
theorem dL_areScopesRight_17 : decode cL_areScopesRight 17 = .ok (.invokevirtual 43, 3) := by decide +kernel
theorem dL_areScopesRight_20 : decode cL_areScopesRight 20 = .ok (.if_icmp .ge 369, 3) := by decide +kernel
theorem dL_areScopesRight_23 : decode cL_areScopesRight 23 = .ok (.iconst 0, 1) := by decide +kernel
theorem dL_areScopesRight_24 : decode cL_areScopesRight 24 = .ok (.istore 5, 2) := by decide +kernel
theorem dL_areScopesRight_26 : decode cL_areScopesRight 26 = .ok (.iconst 0, 1) := by decide +kernel
theorem dL_areScopesRight_27 : decode cL_areScopesRight 27 = .ok (.istore 6, 2) := by decide +kernel
theorem dL_areScopesRight_29 : decode cL_areScopesRight 29 = .ok (.iconst 0, 1) := by decide +kernel
theorem dL_areScopesRight_30 : decode cL_areScopesRight 30 = .ok (.istore 7, 2) := by decide +kernel
theorem dL_areScopesRight_32 : decode cL_areScopesRight 32 = .ok (.iconst 0, 1) := by decide +kernel
theorem dL_areScopesRight_33 : decode cL_areScopesRight 33 = .ok (.istore 8, 2) := by decide +kernel
theorem dL_areScopesRight_35 : decode cL_areScopesRight 35 = .ok (.iload 8, 2) := by decide +kernel
theorem dL_areScopesRight_37 : decode cL_areScopesRight 37 = .ok (.aload_n 0, 1) := by decide +kernel
theorem dL_areScopesRight_38 : decode cL_areScopesRight 38 = .ok (.iconst 1, 1) := by decide +kernel
theorem dL_areScopesRight_39 : decode cL_areScopesRight 39 = .ok (.invokevirtual 43, 3) := by decide +kernel
theorem dL_areScopesRight_42 : decode cL_areScopesRight 42 = .ok (.if_icmp .ge 69, 3) := by decide +kernel
theorem dL_areScopesRight_45 : decode cL_areScopesRight 45 = .ok (.aload_n 0, 1) := by decide +kernel
theorem dL_areScopesRight_46 : decode cL_areScopesRight 46 = .ok (.iload 8, 2) := by decide +kernel
theorem dL_areScopesRight_48 : decode cL_areScopesRight 48 = .ok (.iconst 4, 1) := by decide +kernel
theorem dL_areScopesRight_49 : decode cL_areScopesRight 49 = .ok (.invokevirtual 47, 3) := by decide +kernel
theorem dL_areScopesRight_52 : decode cL_areScopesRight 52 = .ok (.iload 4, 2) := by decide +kernel
theorem dL_areScopesRight_54 : decode cL_areScopesRight 54 = .ok (.if_icmp .eq 6, 3) := by decide +kernel
theorem dL_areScopesRight_57 : decode cL_areScopesRight 57 = .ok (.goto 48, 3) := by decide +kernel
theorem dL_areScopesRight_60 : decode cL_areScopesRight 60 = .ok (.iinc 5 1, 3) := by decide +kernel
theorem dL_areScopesRight_63 : decode cL_areScopesRight 63 = .ok (.iload 6, 2) := by decide +kernel
theorem dL_areScopesRight_65 : decode cL_areScopesRight 65 = .ok (.aload_n 0, 1) := by decide +kernel
theorem dL_areScopesRight_66 : decode cL_areScopesRight 66 = .ok (.iload 8, 2) := by decide +kernel
theorem dL_areScopesRight_68 : decode cL_areScopesRight 68 = .ok (.iconst 1, 1) := by decide +kernel
theorem dL_areScopesRight_69 : decode cL_areScopesRight 69 = .ok (.invokevirtual 47, 3) := by decide +kernel
theorem dL_areScopesRight_72 : decode cL_areScopesRight 72 = .ok (.iconst 1, 1) := by decide +kernel
theorem dL_areScopesRight_73 : decode cL_areScopesRight 73 = .ok (.if_icmp .le 7, 3) := by decide +kernel
theorem dL_areScopesRight_76 : decode cL_areScopesRight 76 = .ok (.iconst 1, 1) := by decide +kernel
theorem dL_areScopesRight_77 : decode cL_areScopesRight 77 = .ok (.goto 4, 3) := by decide +kernel
theorem dL_areScopesRight_80 : decode cL_areScopesRight 80 = .ok (.iconst 0, 1) := by decide +kernel
theorem dL_areScopesRight_81 : decode cL_areScopesRight 81 = .ok (.iadd, 1) := by decide +kernel
theorem dL_areScopesRight_82 : decode cL_areScopesRight 82 = .ok (.istore 6, 2) := by decide +kernel
theorem dL_areScopesRight_84 : decode cL_areScopesRight 84 = .ok (.iload 7, 2) := by decide +kernel
theorem dL_areScopesRight_86 : decode cL_areScopesRight 86 = .ok (.aload_n 0, 1) := by decide +kernel
theorem dL_areScopesRight_87 : decode cL_areScopesRight 87 = .ok (.iload 8, 2) := by decide +kernel
theorem dL_areScopesRight_89 : decode cL_areScopesRight 89 = .ok (.iconst 1, 1) := by decide +kernel
theorem dL_areScopesRight_90 : decode cL_areScopesRight 90 = .ok (.invokevirtual 47, 3) := by decide +kernel
theorem dL_areScopesRight_93 : decode cL_areScopesRight 93 = .ok (.iconst 3, 1) := by decide +kernel
theorem dL_areScopesRight_94 : decode cL_areScopesRight 94 = .ok (.if_icmp .ne 7, 3) := by decide +kernel
theorem dL_areScopesRight_97 : decode cL_areScopesRight 97 = .ok (.iconst 1, 1) := by decide +kernel
theorem dL_areScopesRight_98 : decode cL_areScopesRight 98 = .ok (.goto 4, 3) := by decide +kernel
theorem dL_areScopesRight_101 : decode cL_areScopesRight 101 = .ok (.iconst 0, 1) := by decide +kernel
theorem dL_areScopesRight_102 : decode cL_areScopesRight 102 = .ok (.iadd, 1) := by decide +kernel
theorem dL_areScopesRight_103 : decode cL_areScopesRight 103 = .ok (.istore 7, 2) := by decide +kernel
theorem dL_areScopesRight_105 : decode cL_areScopesRight 105 = .ok (.iinc 8 1, 3) := by decide +kernel
theorem dL_areScopesRight_108 : decode cL_areScopesRight 108 = .ok (.goto (-73), 3) := by decide +kernel
theorem dL_areScopesRight_111 : decode cL_areScopesRight 111 = .ok (.aload_n 0, 1) := by decide +kernel
theorem dL_areScopesRight_112 : decode cL_areScopesRight 112 = .ok (.iload 4, 2) := by decide +kernel
theorem dL_areScopesRight_114 : decode cL_areScopesRight 114 = .ok (.bipush 8, 2) := by decide +kernel
theorem dL_areScopesRight_116 : decode cL_areScopesRight 116 = .ok (.invokevirtual 50, 3) := by decide +kernel
theorem dL_areScopesRight_119 : decode cL_areScopesRight 119 = .ok (.istore 8, 2) := by decide +kernel
theorem dL_areScopesRight_121 : decode cL_areScopesRight 121 = .ok (.aload_n 0, 1) := by decide +kernel
theorem dL_areScopesRight_122 : decode cL_areScopesRight 122 = .ok (.iload 4, 2) := by decide +kernel
theorem dL_areScopesRight_124 : decode cL_areScopesRight 124 = .ok (.iconst 5, 1) := by decide +kernel
theorem dL_areScopesRight_125 : decode cL_areScopesRight 125 = .ok (.invokevirtual 50, 3) := by decide +kernel
theorem dL_areScopesRight_128 : decode cL_areScopesRight 128 = .ok (.iload 5, 2) := by decide +kernel
theorem dL_areScopesRight_130 : decode cL_areScopesRight 130 = .ok (.if_icmp .ne 90, 3) := by decide +kernel
theorem dL_areScopesRight_133 : decode cL_areScopesRight 133 = .ok (.aload_n 0, 1) := by decide +kernel
theorem dL_areScopesRight_134 : decode cL_areScopesRight 134 = .ok (.iload 4, 2) := by decide +kernel
theorem dL_areScopesRight_136 : decode cL_areScopesRight 136 = .ok (.bipush 6, 2) := by decide +kernel
theorem dL_areScopesRight_138 : decode cL_areScopesRight 138 = .ok (.invokevirtual 50, 3) := by decide +kernel
theorem dL_areScopesRight_141 : decode cL_areScopesRight 141 = .ok (.iload 6, 2) := by decide +kernel
theorem dL_areScopesRight_143 : decode cL_areScopesRight 143 = .ok (.if_icmp .ne 77, 3) := by decide +kernel
theorem dL_areScopesRight_146 : decode cL_areScopesRight 146 = .ok (.aload_n 0, 1) := by decide +kernel
theorem dL_areScopesRight_147 : decode cL_areScopesRight 147 = .ok (.iload 4, 2) := by decide +kernel
theorem dL_areScopesRight_149 : decode cL_areScopesRight 149 = .ok (.bipush 7, 2) := by decide +kernel
theorem dL_areScopesRight_151 : decode cL_areScopesRight 151 = .ok (.invokevirtual 50, 3) := by decide +kernel
theorem dL_areScopesRight_154 : decode cL_areScopesRight 154 = .ok (.iload 7, 2) := by decide +kernel
theorem dL_areScopesRight_156 : decode cL_areScopesRight 156 = .ok (.if_icmp .ne 64, 3) := by decide +kernel
theorem dL_areScopesRight_159 : decode cL_areScopesRight 159 = .ok (.iload 8, 2) := by decide +kernel
theorem dL_areScopesRight_161 : decode cL_areScopesRight 161 = .ok (.ifCond .lt 7, 3) := by decide +kernel
theorem dL_areScopesRight_164 : decode cL_areScopesRight 164 = .ok (.iconst 1, 1) := by decide +kernel
theorem dL_areScopesRight_165 : decode cL_areScopesRight 165 = .ok (.goto 4, 3) := by decide +kernel
theorem dL_areScopesRight_168 : decode cL_areScopesRight 168 = .ok (.iconst 0, 1) := by decide +kernel
theorem dL_areScopesRight_169 : decode cL_areScopesRight 169 = .ok (.iload 7, 2) := by decide +kernel
theorem dL_areScopesRight_171 : decode cL_areScopesRight 171 = .ok (.ifCond .le 7, 3) := by decide +kernel
theorem dL_areScopesRight_174 : decode cL_areScopesRight 174 = .ok (.iconst 1, 1) := by decide +kernel
theorem dL_areScopesRight_175 : decode cL_areScopesRight 175 = .ok (.goto 4, 3) := by decide +kernel
theorem dL_areScopesRight_178 : decode cL_areScopesRight 178 = .ok (.iconst 0, 1) := by decide +kernel
theorem dL_areScopesRight_179 : decode cL_areScopesRight 179 = .ok (.if_icmp .ne 41, 3) := by decide +kernel
theorem dL_areScopesRight_182 : decode cL_areScopesRight 182 = .ok (.iload 8, 2) := by decide +kernel
theorem dL_areScopesRight_184 : decode cL_areScopesRight 184 = .ok (.ifCond .lt 38, 3) := by decide +kernel
theorem dL_areScopesRight_187 : decode cL_areScopesRight 187 = .ok (.aload_n 0, 1) := by decide +kernel
theorem dL_areScopesRight_188 : decode cL_areScopesRight 188 = .ok (.iload 8, 2) := by decide +kernel
theorem dL_areScopesRight_190 : decode cL_areScopesRight 190 = .ok (.iconst 4, 1) := by decide +kernel
theorem dL_areScopesRight_191 : decode cL_areScopesRight 191 = .ok (.invokevirtual 47, 3) := by decide +kernel
theorem dL_areScopesRight_194 : decode cL_areScopesRight 194 = .ok (.iload 4, 2) := by decide +kernel
theorem dL_areScopesRight_196 : decode cL_areScopesRight 196 = .ok (.if_icmp .ne 24, 3) := by decide +kernel
theorem dL_areScopesRight_199 : decode cL_areScopesRight 199 = .ok (.aload_n 0, 1) := by decide +kernel
theorem dL_areScopesRight_200 : decode cL_areScopesRight 200 = .ok (.iload 8, 2) := by decide +kernel
theorem dL_areScopesRight_202 : decode cL_areScopesRight 202 = .ok (.iconst 1, 1) := by decide +kernel
theorem dL_areScopesRight_203 : decode cL_areScopesRight 203 = .ok (.invokevirtual 47, 3) := by decide +kernel
theorem dL_areScopesRight_206 : decode cL_areScopesRight 206 = .ok (.iconst 3, 1) := by decide +kernel
theorem dL_areScopesRight_207 : decode cL_areScopesRight 207 = .ok (.if_icmp .ne 13, 3) := by decide +kernel
theorem dL_areScopesRight_210 : decode cL_areScopesRight 210 = .ok (.aload_n 0, 1) := by decide +kernel
theorem dL_areScopesRight_211 : decode cL_areScopesRight 211 = .ok (.iload 4, 2) := by decide +kernel
theorem dL_areScopesRight_213 : decode cL_areScopesRight 213 = .ok (.iconst 2, 1) := by decide +kernel
theorem dL_areScopesRight_214 : decode cL_areScopesRight 214 = .ok (.invokevirtual 50, 3) := by decide +kernel
theorem dL_areScopesRight_217 : decode cL_areScopesRight 217 = .ok (.ifCond .ne 5, 3) := by decide +kernel
theorem dL_areScopesRight_220 : decode cL_areScopesRight 220 = .ok (.iconst 0, 1) := by decide +kernel
theorem dL_areScopesRight_221 : decode cL_areScopesRight 221 = .ok (.ireturn, 1) := by decide +kernel
theorem dL_areScopesRight_222 : decode cL_areScopesRight 222 = .ok (.aload_n 0, 1) := by decide +kernel
theorem dL_areScopesRight_223 : decode cL_areScopesRight 223 = .ok (.iload 4, 2) := by decide +kernel
theorem dL_areScopesRight_225 : decode cL_areScopesRight 225 = .ok (.iconst 1, 1) := by decide +kernel
theorem dL_areScopesRight_226 : decode cL_areScopesRight 226 = .ok (.invokevirtual 50, 3) := by decide +kernel
theorem dL_areScopesRight_229 : decode cL_areScopesRight 229 = .ok (.iconst 2, 1) := by decide +kernel
theorem dL_areScopesRight_230 : decode cL_areScopesRight 230 = .ok (.if_icmp .ne 10, 3) := by decide +kernel
theorem dL_areScopesRight_233 : decode cL_areScopesRight 233 = .ok (.iload 6, 2) := by decide +kernel
theorem dL_areScopesRight_235 : decode cL_areScopesRight 235 = .ok (.iload 5, 2) := by decide +kernel
theorem dL_areScopesRight_237 : decode cL_areScopesRight 237 = .ok (.if_icmp .lt 43, 3) := by decide +kernel
theorem dL_areScopesRight_240 : decode cL_areScopesRight 240 = .ok (.aload_n 0, 1) := by decide +kernel
theorem dL_areScopesRight_241 : decode cL_areScopesRight 241 = .ok (.iload 4, 2) := by decide +kernel
theorem dL_areScopesRight_243 : decode cL_areScopesRight 243 = .ok (.iconst 1, 1) := by decide +kernel
theorem dL_areScopesRight_244 : decode cL_areScopesRight 244 = .ok (.invokevirtual 50, 3) := by decide +kernel
theorem dL_areScopesRight_247 : decode cL_areScopesRight 247 = .ok (.iconst 1, 1) := by decide +kernel
theorem dL_areScopesRight_248 : decode cL_areScopesRight 248 = .ok (.if_icmp .ne 10, 3) := by decide +kernel
theorem dL_areScopesRight_251 : decode cL_areScopesRight 251 = .ok (.iload 6, 2) := by decide +kernel
theorem dL_areScopesRight_253 : decode cL_areScopesRight 253 = .ok (.iload 5, 2) := by decide +kernel
theorem dL_areScopesRight_255 : decode cL_areScopesRight 255 = .ok (.if_icmp .eq 25, 3) := by decide +kernel
theorem dL_areScopesRight_258 : decode cL_areScopesRight 258 = .ok (.aload_n 0, 1) := by decide +kernel
theorem dL_areScopesRight_259 : decode cL_areScopesRight 259 = .ok (.iload 4, 2) := by decide +kernel
theorem dL_areScopesRight_261 : decode cL_areScopesRight 261 = .ok (.iconst 4, 1) := by decide +kernel
theorem dL_areScopesRight_262 : decode cL_areScopesRight 262 = .ok (.invokevirtual 50, 3) := by decide +kernel
theorem dL_areScopesRight_265 : decode cL_areScopesRight 265 = .ok (.iconst 1, 1) := by decide +kernel
theorem dL_areScopesRight_266 : decode cL_areScopesRight 266 = .ok (.if_icmp .ne 16, 3) := by decide +kernel
theorem dL_areScopesRight_269 : decode cL_areScopesRight 269 = .ok (.aload_n 0, 1) := by decide +kernel
theorem dL_areScopesRight_270 : decode cL_areScopesRight 270 = .ok (.iload 4, 2) := by decide +kernel
theorem dL_areScopesRight_272 : decode cL_areScopesRight 272 = .ok (.iconst 3, 1) := by decide +kernel
theorem dL_areScopesRight_273 : decode cL_areScopesRight 273 = .ok (.invokevirtual 50, 3) := by decide +kernel
theorem dL_areScopesRight_276 : decode cL_areScopesRight 276 = .ok (.iconst (-1), 1) := by decide +kernel
theorem dL_areScopesRight_277 : decode cL_areScopesRight 277 = .ok (.if_icmp .eq 5, 3) := by decide +kernel
theorem dL_areScopesRight_280 : decode cL_areScopesRight 280 = .ok (.iconst 0, 1) := by decide +kernel
theorem dL_areScopesRight_281 : decode cL_areScopesRight 281 = .ok (.ireturn, 1) := by decide +kernel
theorem dL_areScopesRight_282 : decode cL_areScopesRight 282 = .ok (.aload_n 0, 1) := by decide +kernel
theorem dL_areScopesRight_283 : decode cL_areScopesRight 283 = .ok (.iload 4, 2) := by decide +kernel
theorem dL_areScopesRight_285 : decode cL_areScopesRight 285 = .ok (.iconst 1, 1) := by decide +kernel
theorem dL_areScopesRight_286 : decode cL_areScopesRight 286 = .ok (.invokevirtual 50, 3) := by decide +kernel
theorem dL_areScopesRight_289 : decode cL_areScopesRight 289 = .ok (.iconst 2, 1) := by decide +kernel
theorem dL_areScopesRight_290 : decode cL_areScopesRight 290 = .ok (.if_icmp .ge 16, 3) := by decide +kernel
theorem dL_areScopesRight_293 : decode cL_areScopesRight 293 = .ok (.aload_n 3, 1) := by decide +kernel
theorem dL_areScopesRight_294 : decode cL_areScopesRight 294 = .ok (.aload_n 0, 1) := by decide +kernel
theorem dL_areScopesRight_295 : decode cL_areScopesRight 295 = .ok (.iload 4, 2) := by decide +kernel
theorem dL_areScopesRight_297 : decode cL_areScopesRight 297 = .ok (.iconst 0, 1) := by decide +kernel
theorem dL_areScopesRight_298 : decode cL_areScopesRight 298 = .ok (.invokevirtual 50, 3) := by decide +kernel
theorem dL_areScopesRight_301 : decode cL_areScopesRight 301 = .ok (.dup2, 1) := by decide +kernel
theorem dL_areScopesRight_302 : decode cL_areScopesRight 302 = .ok (.iaload, 1) := by decide +kernel
theorem dL_areScopesRight_303 : decode cL_areScopesRight 303 = .ok (.iconst 1, 1) := by decide +kernel
theorem dL_areScopesRight_304 : decode cL_areScopesRight 304 = .ok (.iadd, 1) := by decide +kernel
theorem dL_areScopesRight_305 : decode cL_areScopesRight 305 = .ok (.iastore, 1) := by decide +kernel
theorem dL_areScopesRight_306 : decode cL_areScopesRight 306 = .ok (.iload_n 1, 1) := by decide +kernel
theorem dL_areScopesRight_307 : decode cL_areScopesRight 307 = .ok (.aload_n 0, 1) := by decide +kernel
theorem dL_areScopesRight_308 : decode cL_areScopesRight 308 = .ok (.iload 4, 2) := by decide +kernel
theorem dL_areScopesRight_310 : decode cL_areScopesRight 310 = .ok (.iconst 1, 1) := by decide +kernel
theorem dL_areScopesRight_311 : decode cL_areScopesRight 311 = .ok (.invokevirtual 50, 3) := by decide +kernel
theorem dL_areScopesRight_314 : decode cL_areScopesRight 314 = .ok (.iconst 2, 1) := by decide +kernel
theorem dL_areScopesRight_315 : decode cL_areScopesRight 315 = .ok (.if_icmp .ge 7, 3) := by decide +kernel
theorem dL_areScopesRight_318 : decode cL_areScopesRight 318 = .ok (.iconst 1, 1) := by decide +kernel
theorem dL_areScopesRight_319 : decode cL_areScopesRight 319 = .ok (.goto 4, 3) := by decide +kernel
theorem dL_areScopesRight_322 : decode cL_areScopesRight 322 = .ok (.iconst 0, 1) := by decide +kernel
theorem dL_areScopesRight_323 : decode cL_areScopesRight 323 = .ok (.iadd, 1) := by decide +kernel
theorem dL_areScopesRight_324 : decode cL_areScopesRight 324 = .ok (.istore_n 1, 1) := by decide +kernel
theorem dL_areScopesRight_325 : decode cL_areScopesRight 325 = .ok (.iload_n 2, 1) := by decide +kernel
theorem dL_areScopesRight_326 : decode cL_areScopesRight 326 = .ok (.aload_n 0, 1) := by decide +kernel
theorem dL_areScopesRight_327 : decode cL_areScopesRight 327 = .ok (.iload 4, 2) := by decide +kernel
theorem dL_areScopesRight_329 : decode cL_areScopesRight 329 = .ok (.iconst 2, 1) := by decide +kernel
theorem dL_areScopesRight_330 : decode cL_areScopesRight 330 = .ok (.invokevirtual 50, 3) := by decide +kernel
theorem dL_areScopesRight_333 : decode cL_areScopesRight 333 = .ok (.iadd, 1) := by decide +kernel
theorem dL_areScopesRight_334 : decode cL_areScopesRight 334 = .ok (.istore_n 2, 1) := by decide +kernel
theorem dL_areScopesRight_335 : decode cL_areScopesRight 335 = .ok (.aload_n 0, 1) := by decide +kernel
theorem dL_areScopesRight_336 : decode cL_areScopesRight 336 = .ok (.iload 4, 2) := by decide +kernel
theorem dL_areScopesRight_338 : decode cL_areScopesRight 338 = .ok (.iconst 3, 1) := by decide +kernel
theorem dL_areScopesRight_339 : decode cL_areScopesRight 339 = .ok (.invokevirtual 50, 3) := by decide +kernel
theorem dL_areScopesRight_342 : decode cL_areScopesRight 342 = .ok (.istore 9, 2) := by decide +kernel
theorem dL_areScopesRight_344 : decode cL_areScopesRight 344 = .ok (.iload 9, 2) := by decide +kernel
theorem dL_areScopesRight_346 : decode cL_areScopesRight 346 = .ok (.ifCond .lt 37, 3) := by decide +kernel
theorem dL_areScopesRight_349 : decode cL_areScopesRight 349 = .ok (.iload 9, 2) := by decide +kernel
theorem dL_areScopesRight_351 : decode cL_areScopesRight 351 = .ok (.aload_n 0, 1) := by decide +kernel
theorem dL_areScopesRight_352 : decode cL_areScopesRight 352 = .ok (.bipush 10, 2) := by decide +kernel
theorem dL_areScopesRight_354 : decode cL_areScopesRight 354 = .ok (.invokevirtual 43, 3) := by decide +kernel
theorem dL_areScopesRight_357 : decode cL_areScopesRight 357 = .ok (.if_icmp .gt 26, 3) := by decide +kernel
theorem dL_areScopesRight_360 : decode cL_areScopesRight 360 = .ok (.aload_n 0, 1) := by decide +kernel
theorem dL_areScopesRight_361 : decode cL_areScopesRight 361 = .ok (.iload 4, 2) := by decide +kernel
theorem dL_areScopesRight_363 : decode cL_areScopesRight 363 = .ok (.iconst 1, 1) := by decide +kernel
theorem dL_areScopesRight_364 : decode cL_areScopesRight 364 = .ok (.invokevirtual 50, 3) := by decide +kernel
theorem dL_areScopesRight_367 : decode cL_areScopesRight 367 = .ok (.iconst 2, 1) := by decide +kernel
theorem dL_areScopesRight_368 : decode cL_areScopesRight 368 = .ok (.if_icmp .ge 15, 3) := by decide +kernel
theorem dL_areScopesRight_371 : decode cL_areScopesRight 371 = .ok (.aload_n 0, 1) := by decide +kernel
theorem dL_areScopesRight_372 : decode cL_areScopesRight 372 = .ok (.iload 4, 2) := by decide +kernel
theorem dL_areScopesRight_374 : decode cL_areScopesRight 374 = .ok (.iconst 2, 1) := by decide +kernel
theorem dL_areScopesRight_375 : decode cL_areScopesRight 375 = .ok (.invokevirtual 50, 3) := by decide +kernel
theorem dL_areScopesRight_378 : decode cL_areScopesRight 378 = .ok (.ifCond .ne 5, 3) := by decide +kernel
theorem dL_areScopesRight_381 : decode cL_areScopesRight 381 = .ok (.iconst 0, 1) := by decide +kernel
theorem dL_areScopesRight_382 : decode cL_areScopesRight 382 = .ok (.ireturn, 1) := by decide +kernel
theorem dL_areScopesRight_383 : decode cL_areScopesRight 383 = .ok (.iinc 4 1, 3) := by decide +kernel
theorem dL_areScopesRight_386 : decode cL_areScopesRight 386 = .ok (.goto (-374), 3) := by decide +kernel
theorem dL_areScopesRight_389 : decode cL_areScopesRight 389 = .ok (.iconst 0, 1) := by decide +kernel
theorem dL_areScopesRight_390 : decode cL_areScopesRight 390 = .ok (.istore 4, 2) := by decide +kernel
theorem dL_areScopesRight_392 : decode cL_areScopesRight 392 = .ok (.iload 4, 2) := by decide +kernel
theorem dL_areScopesRight_394 : decode cL_areScopesRight 394 = .ok (.aload_n 0, 1) := by decide +kernel
theorem dL_areScopesRight_395 : decode cL_areScopesRight 395 = .ok (.iconst 1, 1) := by decide +kernel
theorem dL_areScopesRight_396 : decode cL_areScopesRight 396 = .ok (.invokevirtual 43, 3) := by decide +kernel
theorem dL_areScopesRight_399 : decode cL_areScopesRight 399 = .ok (.if_icmp .ge 55, 3) := by decide +kernel
theorem dL_areScopesRight_402 : decode cL_areScopesRight 402 = .ok (.aload_n 0, 1) := by decide +kernel
theorem dL_areScopesRight_403 : decode cL_areScopesRight 403 = .ok (.iload 4, 2) := by decide +kernel
theorem dL_areScopesRight_405 : decode cL_areScopesRight 405 = .ok (.iconst 5, 1) := by decide +kernel
theorem dL_areScopesRight_406 : decode cL_areScopesRight 406 = .ok (.invokevirtual 47, 3) := by decide +kernel
theorem dL_areScopesRight_409 : decode cL_areScopesRight 409 = .ok (.aload_n 3, 1) := by decide +kernel
theorem dL_areScopesRight_410 : decode cL_areScopesRight 410 = .ok (.iload 4, 2) := by decide +kernel
theorem dL_areScopesRight_412 : decode cL_areScopesRight 412 = .ok (.iaload, 1) := by decide +kernel
theorem dL_areScopesRight_413 : decode cL_areScopesRight 413 = .ok (.if_icmp .lt 33, 3) := by decide +kernel
theorem dL_areScopesRight_416 : decode cL_areScopesRight 416 = .ok (.aload_n 0, 1) := by decide +kernel
theorem dL_areScopesRight_417 : decode cL_areScopesRight 417 = .ok (.iload 4, 2) := by decide +kernel
theorem dL_areScopesRight_419 : decode cL_areScopesRight 419 = .ok (.iconst 5, 1) := by decide +kernel
theorem dL_areScopesRight_420 : decode cL_areScopesRight 420 = .ok (.invokevirtual 47, 3) := by decide +kernel
theorem dL_areScopesRight_423 : decode cL_areScopesRight 423 = .ok (.aload_n 3, 1) := by decide +kernel
theorem dL_areScopesRight_424 : decode cL_areScopesRight 424 = .ok (.iload 4, 2) := by decide +kernel
theorem dL_areScopesRight_426 : decode cL_areScopesRight 426 = .ok (.iaload, 1) := by decide +kernel
theorem dL_areScopesRight_427 : decode cL_areScopesRight 427 = .ok (.aload_n 0, 1) := by decide +kernel
theorem dL_areScopesRight_428 : decode cL_areScopesRight 428 = .ok (.iload 4, 2) := by decide +kernel
theorem dL_areScopesRight_430 : decode cL_areScopesRight 430 = .ok (.iconst 1, 1) := by decide +kernel
theorem dL_areScopesRight_431 : decode cL_areScopesRight 431 = .ok (.invokevirtual 47, 3) := by decide +kernel
theorem dL_areScopesRight_434 : decode cL_areScopesRight 434 = .ok (.ifCond .ne 7, 3) := by decide +kernel
theorem dL_areScopesRight_437 : decode cL_areScopesRight 437 = .ok (.iconst 1, 1) := by decide +kernel
theorem dL_areScopesRight_438 : decode cL_areScopesRight 438 = .ok (.goto 4, 3) := by decide +kernel
theorem dL_areScopesRight_441 : decode cL_areScopesRight 441 = .ok (.iconst 0, 1) := by decide +kernel
theorem dL_areScopesRight_442 : decode cL_areScopesRight 442 = .ok (.iadd, 1) := by decide +kernel
theorem dL_areScopesRight_443 : decode cL_areScopesRight 443 = .ok (.if_icmp .le 5, 3) := by decide +kernel
theorem dL_areScopesRight_446 : decode cL_areScopesRight 446 = .ok (.iconst 0, 1) := by decide +kernel
theorem dL_areScopesRight_447 : decode cL_areScopesRight 447 = .ok (.ireturn, 1) := by decide +kernel
theorem dL_areScopesRight_448 : decode cL_areScopesRight 448 = .ok (.iinc 4 1, 3) := by decide +kernel
theorem dL_areScopesRight_451 : decode cL_areScopesRight 451 = .ok (.goto (-59), 3) := by decide +kernel
theorem dL_areScopesRight_454 : decode cL_areScopesRight 454 = .ok (.aload_n 0, 1) := by decide +kernel
theorem dL_areScopesRight_455 : decode cL_areScopesRight 455 = .ok (.bipush 8, 2) := by decide +kernel
theorem dL_areScopesRight_457 : decode cL_areScopesRight 457 = .ok (.invokevirtual 43, 3) := by decide +kernel
theorem dL_areScopesRight_460 : decode cL_areScopesRight 460 = .ok (.iload_n 1, 1) := by decide +kernel
theorem dL_areScopesRight_461 : decode cL_areScopesRight 461 = .ok (.if_icmp .ne 17, 3) := by decide +kernel
theorem dL_areScopesRight_464 : decode cL_areScopesRight 464 = .ok (.aload_n 0, 1) := by decide +kernel
theorem dL_areScopesRight_465 : decode cL_areScopesRight 465 = .ok (.bipush 9, 2) := by decide +kernel
theorem dL_areScopesRight_467 : decode cL_areScopesRight 467 = .ok (.invokevirtual 43, 3) := by decide +kernel
theorem dL_areScopesRight_470 : decode cL_areScopesRight 470 = .ok (.iload_n 2, 1) := by decide +kernel
theorem dL_areScopesRight_471 : decode cL_areScopesRight 471 = .ok (.if_icmp .ne 7, 3) := by decide +kernel
theorem dL_areScopesRight_474 : decode cL_areScopesRight 474 = .ok (.iconst 1, 1) := by decide +kernel
theorem dL_areScopesRight_475 : decode cL_areScopesRight 475 = .ok (.goto 4, 3) := by decide +kernel
theorem dL_areScopesRight_478 : decode cL_areScopesRight 478 = .ok (.iconst 0, 1) := by decide +kernel
theorem dL_areScopesRight_479 : decode cL_areScopesRight 479 = .ok (.ireturn, 1) := by decide +kernel
set_option maxRecDepth 20000 in
theorem ggL_areOthersRight_X8_many : GoodIn wsL_areOthersRight wsX8_many := goodIn_ca (goodIn_r _ [10, 11, 12, 13, 9, 14, 15, 16, 17, 18, 19, 20, 21, 22, 23, 24, 25, 26, 27, 28, 29, 30, 31, 32, 33, 34, 35, 36, 37, 38, 39, 40, 41, 42, 43, 44, 45, 46, 47, 48, 49, 50, 51, 52, 165, 166, 167, 168, 169, 170, 171, 172, 173, 174, 175, 176, 177, 178, 179, 180, 181, 182, 183, 184, 185, 186, 187, 188, 189, 190, 191, 192, 193, 194, 195, 196, 197, 198, 199, 200, 201, 202, 203, 204, 205, 206, 207, 208, 209, 210, 211, 212, 213, 214, 215, 216, 217, 218, 219, 220, 221] (by decide +kernel) (by decide +kernel)) (goodIn_sub (fun _ h => List.mem_cons_of_mem _ (List.mem_append_left _ (List.mem_append_right _ h))) (by decide +kernel))
set_option maxRecDepth 20000 in
theorem gL_areOthersRight_X8_many : GoodIn wsL_areOthersRight (wsV RL 43 RX8 yX8_many wsX8_many) := goodIn_app (goodIn_of _ (by decide +kernel)) ggL_areOthersRight_X8_many
set_option maxRecDepth 20000 in
theorem ggL_areOthersRight_X8_ofTask : GoodIn wsL_areOthersRight wsX8_ofTask := goodIn_ca (goodIn_ca (goodIn_r _ [56, 57, 58, 11, 59, 60, 9, 61, 62, 63, 12, 13, 14, 15, 16, 64, 65, 66, 20, 67, 24, 68, 35, 69, 70, 71, 72, 73, 74, 75, 76, 77, 78, 79, 80, 81, 82, 83, 84, 85, 86, 87, 88, 89, 90, 91, 92, 93, 94, 95, 96, 97, 98, 99, 100, 101, 102, 103, 165, 166, 167, 168, 169, 170, 171, 179, 180, 181, 182, 183, 184, 185, 186, 187, 188, 189, 190, 172, 173, 191, 192, 193, 194, 195, 196, 197, 198, 199, 200, 201, 202, 203, 204, 205, 206, 207, 208, 209, 210, 211, 212, 213, 214, 215, 216, 217, 218, 219, 220, 221] (by decide +kernel) (by decide +kernel)) (goodIn_sub (fun _ h => List.mem_cons_of_mem _ (List.mem_append_right _ h)) (by decide +kernel))) (goodIn_sub (fun _ h => List.mem_cons_of_mem _ (List.mem_append_left _ (List.mem_append_right _ h))) (by decide +kernel))
set_option maxRecDepth 20000 in
theorem gL_areOthersRight_X8_ofTask : GoodIn wsL_areOthersRight (wsV RL 47 RX8 yX8_ofTask wsX8_ofTask) := goodIn_app (goodIn_of _ (by decide +kernel)) ggL_areOthersRight_X8_ofTask
set_option maxRecDepth 20000 in
theorem ggL_areOthersRight_X8_ofLock : GoodIn wsL_areOthersRight wsX8_ofLock := goodIn_ca (goodIn_ca (goodIn_r _ [107, 11, 59, 60, 9, 61, 62, 63, 12, 13, 14, 15, 16, 108, 109, 110, 20, 111, 24, 112, 92, 113, 114, 115, 116, 77, 117, 118, 119, 120, 121, 122, 79, 123, 124, 125, 126, 127, 128, 129, 130, 131, 34, 132, 133, 134, 135, 136, 137, 138, 83, 139, 85, 140, 165, 166, 167, 168, 169, 170, 171, 172, 173, 222, 223, 224, 191, 192, 193, 194, 195, 196, 197, 198, 199, 200, 201, 202, 203, 204, 205, 206, 207, 179, 180, 181, 182, 183, 184, 185, 186, 187, 188, 189, 190] (by decide +kernel) (by decide +kernel)) (goodIn_sub (fun _ h => List.mem_cons_of_mem _ (List.mem_append_right _ h)) (by decide +kernel))) (goodIn_sub (fun _ h => List.mem_cons_of_mem _ (List.mem_append_left _ (List.mem_append_right _ h))) (by decide +kernel))
set_option maxRecDepth 20000 in
theorem gL_areOthersRight_X8_ofLock : GoodIn wsL_areOthersRight (wsV RL 110 RX8 yX8_ofLock wsX8_ofLock) := goodIn_app (goodIn_of _ (by decide +kernel)) ggL_areOthersRight_X8_ofLock
set_option maxRecDepth 20000 in
theorem ggL_areOthersRight_X8_ofChannel : GoodIn wsL_areOthersRight wsX8_ofChannel := goodIn_ca (goodIn_ca (goodIn_r _ [144, 11, 59, 60, 9, 61, 62, 63, 12, 13, 14, 15, 16, 145, 146, 147, 20, 148, 24, 149, 150, 151, 152, 153, 154, 155, 77, 156, 157, 158, 159, 160, 161, 162, 163, 164, 128, 129, 130, 131, 34, 132, 133, 134, 135, 125, 126, 136, 137, 138, 83, 139, 85, 140, 165, 166, 167, 168, 169, 170, 171, 172, 173, 225, 226, 227, 228, 229, 179, 180, 181, 182, 183, 184, 185, 186, 187, 188, 189, 190, 191, 192, 193, 194, 195, 196, 197, 198, 199, 200, 201, 202, 203, 204, 205, 206, 207] (by decide +kernel) (by decide +kernel)) (goodIn_sub (fun _ h => List.mem_cons_of_mem _ (List.mem_append_right _ h)) (by decide +kernel))) (goodIn_sub (fun _ h => List.mem_cons_of_mem _ (List.mem_append_left _ (List.mem_append_right _ h))) (by decide +kernel))
set_option maxRecDepth 20000 in
theorem gL_areOthersRight_X8_ofChannel : GoodIn wsL_areOthersRight (wsV RL 113 RX8 yX8_ofChannel wsX8_ofChannel) := goodIn_app (goodIn_of _ (by decide +kernel)) ggL_areOthersRight_X8_ofChannel
theorem dL_areOthersRight_0 : decode cL_areOthersRight 0 = .ok (.iconst 5, 1) := by decide +kernel
theorem dL_areOthersRight_1 : decode cL_areOthersRight 1 = .ok (.newarray .int, 2) := by decide +kernel
theorem dL_areOthersRight_3 : decode cL_areOthersRight 3 = .ok (.astore_n 1, 1) := by decide +kernel
theorem dL_areOthersRight_4 : decode cL_areOthersRight 4 = .ok (.iconst 0, 1) := by decide +kernel
theorem dL_areOthersRight_5 : decode cL_areOthersRight 5 = .ok (.istore_n 2, 1) := by decide +kernel
theorem dL_areOthersRight_6 : decode cL_areOthersRight 6 = .ok (.iload_n 2, 1) := by decide +kernel
theorem dL_areOthersRight_7 : decode cL_areOthersRight 7 = .ok (.aload_n 0, 1) := by decide +kernel
theorem dL_areOthersRight_8 : decode cL_areOthersRight 8 = .ok (.iconst 1, 1) := by decide +kernel
theorem dL_areOthersRight_9 : decode cL_areOthersRight 9 = .ok (.invokevirtual 43, 3) := by decide +kernel
theorem dL_areOthersRight_12 : decode cL_areOthersRight 12 = .ok (.if_icmp .ge 33, 3) := by decide +kernel
theorem dL_areOthersRight_15 : decode cL_areOthersRight 15 = .ok (.aload_n 0, 1) := by decide +kernel
theorem dL_areOthersRight_16 : decode cL_areOthersRight 16 = .ok (.iload_n 2, 1) := by decide +kernel
theorem dL_areOthersRight_17 : decode cL_areOthersRight 17 = .ok (.bipush 8, 2) := by decide +kernel
theorem dL_areOthersRight_19 : decode cL_areOthersRight 19 = .ok (.invokevirtual 47, 3) := by decide +kernel
theorem dL_areOthersRight_22 : decode cL_areOthersRight 22 = .ok (.iconst 5, 1) := by decide +kernel
theorem dL_areOthersRight_23 : decode cL_areOthersRight 23 = .ok (.if_icmp .ge 16, 3) := by decide +kernel
theorem dL_areOthersRight_26 : decode cL_areOthersRight 26 = .ok (.aload_n 1, 1) := by decide +kernel
theorem dL_areOthersRight_27 : decode cL_areOthersRight 27 = .ok (.aload_n 0, 1) := by decide +kernel
theorem dL_areOthersRight_28 : decode cL_areOthersRight 28 = .ok (.iload_n 2, 1) := by decide +kernel
theorem dL_areOthersRight_29 : decode cL_areOthersRight 29 = .ok (.bipush 8, 2) := by decide +kernel
theorem dL_areOthersRight_31 : decode cL_areOthersRight 31 = .ok (.invokevirtual 47, 3) := by decide +kernel
theorem dL_areOthersRight_34 : decode cL_areOthersRight 34 = .ok (.dup2, 1) := by decide +kernel
theorem dL_areOthersRight_35 : decode cL_areOthersRight 35 = .ok (.iaload, 1) := by decide +kernel
theorem dL_areOthersRight_36 : decode cL_areOthersRight 36 = .ok (.iconst 1, 1) := by decide +kernel
theorem dL_areOthersRight_37 : decode cL_areOthersRight 37 = .ok (.iadd, 1) := by decide +kernel
theorem dL_areOthersRight_38 : decode cL_areOthersRight 38 = .ok (.iastore, 1) := by decide +kernel
theorem dL_areOthersRight_39 : decode cL_areOthersRight 39 = .ok (.iinc 2 1, 3) := by decide +kernel
theorem dL_areOthersRight_42 : decode cL_areOthersRight 42 = .ok (.goto (-36), 3) := by decide +kernel
theorem dL_areOthersRight_45 : decode cL_areOthersRight 45 = .ok (.iconst 0, 1) := by decide +kernel
theorem dL_areOthersRight_46 : decode cL_areOthersRight 46 = .ok (.istore_n 2, 1) := by decide +kernel
theorem dL_areOthersRight_47 : decode cL_areOthersRight 47 = .ok (.iconst 0, 1) := by decide +kernel
theorem dL_areOthersRight_48 : decode cL_areOthersRight 48 = .ok (.istore_n 3, 1) := by decide +kernel
theorem dL_areOthersRight_49 : decode cL_areOthersRight 49 = .ok (.iconst 0, 1) := by decide +kernel
theorem dL_areOthersRight_50 : decode cL_areOthersRight 50 = .ok (.istore 4, 2) := by decide +kernel
theorem dL_areOthersRight_52 : decode cL_areOthersRight 52 = .ok (.iload 4, 2) := by decide +kernel
theorem dL_areOthersRight_54 : decode cL_areOthersRight 54 = .ok (.iconst 2, 1) := by decide +kernel
theorem dL_areOthersRight_55 : decode cL_areOthersRight 55 = .ok (.if_icmp .ge 224, 3) := by decide +kernel
theorem dL_areOthersRight_58 : decode cL_areOthersRight 58 = .ok (.aload_n 0, 1) := by decide +kernel
theorem dL_areOthersRight_59 : decode cL_areOthersRight 59 = .ok (.iload 4, 2) := by decide +kernel
theorem dL_areOthersRight_61 : decode cL_areOthersRight 61 = .ok (.iconst 0, 1) := by decide +kernel
theorem dL_areOthersRight_62 : decode cL_areOthersRight 62 = .ok (.invokevirtual 110, 3) := by decide +kernel
theorem dL_areOthersRight_65 : decode cL_areOthersRight 65 = .ok (.istore 5, 2) := by decide +kernel
theorem dL_areOthersRight_67 : decode cL_areOthersRight 67 = .ok (.iload 5, 2) := by decide +kernel
theorem dL_areOthersRight_69 : decode cL_areOthersRight 69 = .ok (.ifCond .lt 14, 3) := by decide +kernel
theorem dL_areOthersRight_72 : decode cL_areOthersRight 72 = .ok (.aload_n 0, 1) := by decide +kernel
theorem dL_areOthersRight_73 : decode cL_areOthersRight 73 = .ok (.iload 5, 2) := by decide +kernel
theorem dL_areOthersRight_75 : decode cL_areOthersRight 75 = .ok (.iconst 1, 1) := by decide +kernel
theorem dL_areOthersRight_76 : decode cL_areOthersRight 76 = .ok (.invokevirtual 47, 3) := by decide +kernel
theorem dL_areOthersRight_79 : decode cL_areOthersRight 79 = .ok (.iconst 1, 1) := by decide +kernel
theorem dL_areOthersRight_80 : decode cL_areOthersRight 80 = .ok (.if_icmp .gt 90, 3) := by decide +kernel
theorem dL_areOthersRight_83 : decode cL_areOthersRight 83 = .ok (.iload 5, 2) := by decide +kernel
theorem dL_areOthersRight_85 : decode cL_areOthersRight 85 = .ok (.ifCond .ge 13, 3) := by decide +kernel
theorem dL_areOthersRight_88 : decode cL_areOthersRight 88 = .ok (.aload_n 0, 1) := by decide +kernel
theorem dL_areOthersRight_89 : decode cL_areOthersRight 89 = .ok (.iload 4, 2) := by decide +kernel
theorem dL_areOthersRight_91 : decode cL_areOthersRight 91 = .ok (.iconst 1, 1) := by decide +kernel
theorem dL_areOthersRight_92 : decode cL_areOthersRight 92 = .ok (.invokevirtual 110, 3) := by decide +kernel
theorem dL_areOthersRight_95 : decode cL_areOthersRight 95 = .ok (.ifCond .gt 75, 3) := by decide +kernel
theorem dL_areOthersRight_98 : decode cL_areOthersRight 98 = .ok (.aload_n 0, 1) := by decide +kernel
theorem dL_areOthersRight_99 : decode cL_areOthersRight 99 = .ok (.iload 4, 2) := by decide +kernel
theorem dL_areOthersRight_101 : decode cL_areOthersRight 101 = .ok (.iconst 1, 1) := by decide +kernel
theorem dL_areOthersRight_102 : decode cL_areOthersRight 102 = .ok (.invokevirtual 110, 3) := by decide +kernel
theorem dL_areOthersRight_105 : decode cL_areOthersRight 105 = .ok (.ifCond .le 7, 3) := by decide +kernel
theorem dL_areOthersRight_108 : decode cL_areOthersRight 108 = .ok (.iconst 1, 1) := by decide +kernel
theorem dL_areOthersRight_109 : decode cL_areOthersRight 109 = .ok (.goto 4, 3) := by decide +kernel
theorem dL_areOthersRight_112 : decode cL_areOthersRight 112 = .ok (.iconst 0, 1) := by decide +kernel
theorem dL_areOthersRight_113 : decode cL_areOthersRight 113 = .ok (.aload_n 0, 1) := by decide +kernel
theorem dL_areOthersRight_114 : decode cL_areOthersRight 114 = .ok (.iload 4, 2) := by decide +kernel
theorem dL_areOthersRight_116 : decode cL_areOthersRight 116 = .ok (.iconst 2, 1) := by decide +kernel
theorem dL_areOthersRight_117 : decode cL_areOthersRight 117 = .ok (.invokevirtual 110, 3) := by decide +kernel
theorem dL_areOthersRight_120 : decode cL_areOthersRight 120 = .ok (.ifCond .lt 7, 3) := by decide +kernel
theorem dL_areOthersRight_123 : decode cL_areOthersRight 123 = .ok (.iconst 1, 1) := by decide +kernel
theorem dL_areOthersRight_124 : decode cL_areOthersRight 124 = .ok (.goto 4, 3) := by decide +kernel
theorem dL_areOthersRight_127 : decode cL_areOthersRight 127 = .ok (.iconst 0, 1) := by decide +kernel
theorem dL_areOthersRight_128 : decode cL_areOthersRight 128 = .ok (.if_icmp .ne 42, 3) := by decide +kernel
theorem dL_areOthersRight_131 : decode cL_areOthersRight 131 = .ok (.aload_n 0, 1) := by decide +kernel
theorem dL_areOthersRight_132 : decode cL_areOthersRight 132 = .ok (.iload 4, 2) := by decide +kernel
theorem dL_areOthersRight_134 : decode cL_areOthersRight 134 = .ok (.iconst 2, 1) := by decide +kernel
theorem dL_areOthersRight_135 : decode cL_areOthersRight 135 = .ok (.invokevirtual 110, 3) := by decide +kernel
theorem dL_areOthersRight_138 : decode cL_areOthersRight 138 = .ok (.ifCond .lt 34, 3) := by decide +kernel
theorem dL_areOthersRight_141 : decode cL_areOthersRight 141 = .ok (.aload_n 0, 1) := by decide +kernel
theorem dL_areOthersRight_142 : decode cL_areOthersRight 142 = .ok (.aload_n 0, 1) := by decide +kernel
theorem dL_areOthersRight_143 : decode cL_areOthersRight 143 = .ok (.iload 4, 2) := by decide +kernel
theorem dL_areOthersRight_145 : decode cL_areOthersRight 145 = .ok (.iconst 2, 1) := by decide +kernel
theorem dL_areOthersRight_146 : decode cL_areOthersRight 146 = .ok (.invokevirtual 110, 3) := by decide +kernel
theorem dL_areOthersRight_149 : decode cL_areOthersRight 149 = .ok (.bipush 8, 2) := by decide +kernel
theorem dL_areOthersRight_151 : decode cL_areOthersRight 151 = .ok (.invokevirtual 47, 3) := by decide +kernel
theorem dL_areOthersRight_154 : decode cL_areOthersRight 154 = .ok (.iconst 2, 1) := by decide +kernel
theorem dL_areOthersRight_155 : decode cL_areOthersRight 155 = .ok (.if_icmp .ne 15, 3) := by decide +kernel
theorem dL_areOthersRight_158 : decode cL_areOthersRight 158 = .ok (.aload_n 0, 1) := by decide +kernel
theorem dL_areOthersRight_159 : decode cL_areOthersRight 159 = .ok (.iload 4, 2) := by decide +kernel
theorem dL_areOthersRight_161 : decode cL_areOthersRight 161 = .ok (.iconst 2, 1) := by decide +kernel
theorem dL_areOthersRight_162 : decode cL_areOthersRight 162 = .ok (.invokevirtual 110, 3) := by decide +kernel
theorem dL_areOthersRight_165 : decode cL_areOthersRight 165 = .ok (.iload 5, 2) := by decide +kernel
theorem dL_areOthersRight_167 : decode cL_areOthersRight 167 = .ok (.if_icmp .ne 5, 3) := by decide +kernel
theorem dL_areOthersRight_170 : decode cL_areOthersRight 170 = .ok (.iconst 0, 1) := by decide +kernel
theorem dL_areOthersRight_171 : decode cL_areOthersRight 171 = .ok (.ireturn, 1) := by decide +kernel
theorem dL_areOthersRight_172 : decode cL_areOthersRight 172 = .ok (.iload_n 2, 1) := by decide +kernel
theorem dL_areOthersRight_173 : decode cL_areOthersRight 173 = .ok (.aload_n 0, 1) := by decide +kernel
theorem dL_areOthersRight_174 : decode cL_areOthersRight 174 = .ok (.iload 4, 2) := by decide +kernel
theorem dL_areOthersRight_176 : decode cL_areOthersRight 176 = .ok (.iconst 1, 1) := by decide +kernel
theorem dL_areOthersRight_177 : decode cL_areOthersRight 177 = .ok (.invokevirtual 110, 3) := by decide +kernel
theorem dL_areOthersRight_180 : decode cL_areOthersRight 180 = .ok (.iadd, 1) := by decide +kernel
theorem dL_areOthersRight_181 : decode cL_areOthersRight 181 = .ok (.istore_n 2, 1) := by decide +kernel
theorem dL_areOthersRight_182 : decode cL_areOthersRight 182 = .ok (.iload_n 3, 1) := by decide +kernel
theorem dL_areOthersRight_183 : decode cL_areOthersRight 183 = .ok (.aload_n 0, 1) := by decide +kernel
theorem dL_areOthersRight_184 : decode cL_areOthersRight 184 = .ok (.iload 4, 2) := by decide +kernel
theorem dL_areOthersRight_186 : decode cL_areOthersRight 186 = .ok (.iconst 3, 1) := by decide +kernel
theorem dL_areOthersRight_187 : decode cL_areOthersRight 187 = .ok (.invokevirtual 113, 3) := by decide +kernel
theorem dL_areOthersRight_190 : decode cL_areOthersRight 190 = .ok (.iadd, 1) := by decide +kernel
theorem dL_areOthersRight_191 : decode cL_areOthersRight 191 = .ok (.istore_n 3, 1) := by decide +kernel
theorem dL_areOthersRight_192 : decode cL_areOthersRight 192 = .ok (.aload_n 0, 1) := by decide +kernel
theorem dL_areOthersRight_193 : decode cL_areOthersRight 193 = .ok (.iload 4, 2) := by decide +kernel
theorem dL_areOthersRight_195 : decode cL_areOthersRight 195 = .ok (.iconst 3, 1) := by decide +kernel
theorem dL_areOthersRight_196 : decode cL_areOthersRight 196 = .ok (.invokevirtual 113, 3) := by decide +kernel
theorem dL_areOthersRight_199 : decode cL_areOthersRight 199 = .ok (.ifCond .le 41, 3) := by decide +kernel
theorem dL_areOthersRight_202 : decode cL_areOthersRight 202 = .ok (.aload_n 0, 1) := by decide +kernel
theorem dL_areOthersRight_203 : decode cL_areOthersRight 203 = .ok (.iload 4, 2) := by decide +kernel
theorem dL_areOthersRight_205 : decode cL_areOthersRight 205 = .ok (.iconst 1, 1) := by decide +kernel
theorem dL_areOthersRight_206 : decode cL_areOthersRight 206 = .ok (.invokevirtual 113, 3) := by decide +kernel
theorem dL_areOthersRight_209 : decode cL_areOthersRight 209 = .ok (.aload_n 0, 1) := by decide +kernel
theorem dL_areOthersRight_210 : decode cL_areOthersRight 210 = .ok (.iload 4, 2) := by decide +kernel
theorem dL_areOthersRight_212 : decode cL_areOthersRight 212 = .ok (.iconst 0, 1) := by decide +kernel
theorem dL_areOthersRight_213 : decode cL_areOthersRight 213 = .ok (.invokevirtual 113, 3) := by decide +kernel
theorem dL_areOthersRight_216 : decode cL_areOthersRight 216 = .ok (.if_icmp .lt 55, 3) := by decide +kernel
theorem dL_areOthersRight_219 : decode cL_areOthersRight 219 = .ok (.aload_n 0, 1) := by decide +kernel
theorem dL_areOthersRight_220 : decode cL_areOthersRight 220 = .ok (.iload 4, 2) := by decide +kernel
theorem dL_areOthersRight_222 : decode cL_areOthersRight 222 = .ok (.iconst 4, 1) := by decide +kernel
theorem dL_areOthersRight_223 : decode cL_areOthersRight 223 = .ok (.invokevirtual 113, 3) := by decide +kernel
theorem dL_areOthersRight_226 : decode cL_areOthersRight 226 = .ok (.ifCond .gt 45, 3) := by decide +kernel
theorem dL_areOthersRight_229 : decode cL_areOthersRight 229 = .ok (.aload_n 0, 1) := by decide +kernel
theorem dL_areOthersRight_230 : decode cL_areOthersRight 230 = .ok (.iload 4, 2) := by decide +kernel
theorem dL_areOthersRight_232 : decode cL_areOthersRight 232 = .ok (.iconst 5, 1) := by decide +kernel
theorem dL_areOthersRight_233 : decode cL_areOthersRight 233 = .ok (.invokevirtual 113, 3) := by decide +kernel
theorem dL_areOthersRight_236 : decode cL_areOthersRight 236 = .ok (.iconst 1, 1) := by decide +kernel
theorem dL_areOthersRight_237 : decode cL_areOthersRight 237 = .ok (.if_icmp .eq 34, 3) := by decide +kernel
theorem dL_areOthersRight_240 : decode cL_areOthersRight 240 = .ok (.aload_n 0, 1) := by decide +kernel
theorem dL_areOthersRight_241 : decode cL_areOthersRight 241 = .ok (.iload 4, 2) := by decide +kernel
theorem dL_areOthersRight_243 : decode cL_areOthersRight 243 = .ok (.iconst 4, 1) := by decide +kernel
theorem dL_areOthersRight_244 : decode cL_areOthersRight 244 = .ok (.invokevirtual 113, 3) := by decide +kernel
theorem dL_areOthersRight_247 : decode cL_areOthersRight 247 = .ok (.ifCond .le 13, 3) := by decide +kernel
theorem dL_areOthersRight_250 : decode cL_areOthersRight 250 = .ok (.aload_n 0, 1) := by decide +kernel
theorem dL_areOthersRight_251 : decode cL_areOthersRight 251 = .ok (.iload 4, 2) := by decide +kernel
theorem dL_areOthersRight_253 : decode cL_areOthersRight 253 = .ok (.iconst 1, 1) := by decide +kernel
theorem dL_areOthersRight_254 : decode cL_areOthersRight 254 = .ok (.invokevirtual 113, 3) := by decide +kernel
theorem dL_areOthersRight_257 : decode cL_areOthersRight 257 = .ok (.ifCond .gt 14, 3) := by decide +kernel
theorem dL_areOthersRight_260 : decode cL_areOthersRight 260 = .ok (.aload_n 0, 1) := by decide +kernel
theorem dL_areOthersRight_261 : decode cL_areOthersRight 261 = .ok (.iload 4, 2) := by decide +kernel
theorem dL_areOthersRight_263 : decode cL_areOthersRight 263 = .ok (.bipush 6, 2) := by decide +kernel
theorem dL_areOthersRight_265 : decode cL_areOthersRight 265 = .ok (.invokevirtual 113, 3) := by decide +kernel
theorem dL_areOthersRight_268 : decode cL_areOthersRight 268 = .ok (.ifCond .ge 5, 3) := by decide +kernel
theorem dL_areOthersRight_271 : decode cL_areOthersRight 271 = .ok (.iconst 0, 1) := by decide +kernel
theorem dL_areOthersRight_272 : decode cL_areOthersRight 272 = .ok (.ireturn, 1) := by decide +kernel
theorem dL_areOthersRight_273 : decode cL_areOthersRight 273 = .ok (.iinc 4 1, 3) := by decide +kernel
theorem dL_areOthersRight_276 : decode cL_areOthersRight 276 = .ok (.goto (-224), 3) := by decide +kernel
theorem dL_areOthersRight_279 : decode cL_areOthersRight 279 = .ok (.aload_n 0, 1) := by decide +kernel
theorem dL_areOthersRight_280 : decode cL_areOthersRight 280 = .ok (.iconst 0, 1) := by decide +kernel
theorem dL_areOthersRight_281 : decode cL_areOthersRight 281 = .ok (.iconst 4, 1) := by decide +kernel
theorem dL_areOthersRight_282 : decode cL_areOthersRight 282 = .ok (.invokevirtual 113, 3) := by decide +kernel
theorem dL_areOthersRight_285 : decode cL_areOthersRight 285 = .ok (.aload_n 0, 1) := by decide +kernel
theorem dL_areOthersRight_286 : decode cL_areOthersRight 286 = .ok (.iconst 1, 1) := by decide +kernel
theorem dL_areOthersRight_287 : decode cL_areOthersRight 287 = .ok (.iconst 4, 1) := by decide +kernel
theorem dL_areOthersRight_288 : decode cL_areOthersRight 288 = .ok (.invokevirtual 113, 3) := by decide +kernel
theorem dL_areOthersRight_291 : decode cL_areOthersRight 291 = .ok (.invokestatic 77, 3) := by decide +kernel
theorem dL_areOthersRight_294 : decode cL_areOthersRight 294 = .ok (.istore 4, 2) := by decide +kernel
theorem dL_areOthersRight_296 : decode cL_areOthersRight 296 = .ok (.iload_n 2, 1) := by decide +kernel
theorem dL_areOthersRight_297 : decode cL_areOthersRight 297 = .ok (.aload_n 1, 1) := by decide +kernel
theorem dL_areOthersRight_298 : decode cL_areOthersRight 298 = .ok (.iconst 2, 1) := by decide +kernel
theorem dL_areOthersRight_299 : decode cL_areOthersRight 299 = .ok (.iaload, 1) := by decide +kernel
theorem dL_areOthersRight_300 : decode cL_areOthersRight 300 = .ok (.if_icmp .ne 41, 3) := by decide +kernel
theorem dL_areOthersRight_303 : decode cL_areOthersRight 303 = .ok (.iload_n 3, 1) := by decide +kernel
theorem dL_areOthersRight_304 : decode cL_areOthersRight 304 = .ok (.aload_n 1, 1) := by decide +kernel
theorem dL_areOthersRight_305 : decode cL_areOthersRight 305 = .ok (.iconst 3, 1) := by decide +kernel
theorem dL_areOthersRight_306 : decode cL_areOthersRight 306 = .ok (.iaload, 1) := by decide +kernel
theorem dL_areOthersRight_307 : decode cL_areOthersRight 307 = .ok (.if_icmp .ne 34, 3) := by decide +kernel
theorem dL_areOthersRight_310 : decode cL_areOthersRight 310 = .ok (.iload 4, 2) := by decide +kernel
theorem dL_areOthersRight_312 : decode cL_areOthersRight 312 = .ok (.aload_n 1, 1) := by decide +kernel
theorem dL_areOthersRight_313 : decode cL_areOthersRight 313 = .ok (.iconst 4, 1) := by decide +kernel
theorem dL_areOthersRight_314 : decode cL_areOthersRight 314 = .ok (.iaload, 1) := by decide +kernel
theorem dL_areOthersRight_315 : decode cL_areOthersRight 315 = .ok (.if_icmp .gt 26, 3) := by decide +kernel
theorem dL_areOthersRight_318 : decode cL_areOthersRight 318 = .ok (.aload_n 0, 1) := by decide +kernel
theorem dL_areOthersRight_319 : decode cL_areOthersRight 319 = .ok (.iconst 0, 1) := by decide +kernel
theorem dL_areOthersRight_320 : decode cL_areOthersRight 320 = .ok (.iconst 4, 1) := by decide +kernel
theorem dL_areOthersRight_321 : decode cL_areOthersRight 321 = .ok (.invokevirtual 113, 3) := by decide +kernel
theorem dL_areOthersRight_324 : decode cL_areOthersRight 324 = .ok (.aload_n 0, 1) := by decide +kernel
theorem dL_areOthersRight_325 : decode cL_areOthersRight 325 = .ok (.iconst 1, 1) := by decide +kernel
theorem dL_areOthersRight_326 : decode cL_areOthersRight 326 = .ok (.iconst 4, 1) := by decide +kernel
theorem dL_areOthersRight_327 : decode cL_areOthersRight 327 = .ok (.invokevirtual 113, 3) := by decide +kernel
theorem dL_areOthersRight_330 : decode cL_areOthersRight 330 = .ok (.iadd, 1) := by decide +kernel
theorem dL_areOthersRight_331 : decode cL_areOthersRight 331 = .ok (.aload_n 1, 1) := by decide +kernel
theorem dL_areOthersRight_332 : decode cL_areOthersRight 332 = .ok (.iconst 4, 1) := by decide +kernel
theorem dL_areOthersRight_333 : decode cL_areOthersRight 333 = .ok (.iaload, 1) := by decide +kernel
theorem dL_areOthersRight_334 : decode cL_areOthersRight 334 = .ok (.if_icmp .lt 7, 3) := by decide +kernel
theorem dL_areOthersRight_337 : decode cL_areOthersRight 337 = .ok (.iconst 1, 1) := by decide +kernel
theorem dL_areOthersRight_338 : decode cL_areOthersRight 338 = .ok (.goto 4, 3) := by decide +kernel
theorem dL_areOthersRight_341 : decode cL_areOthersRight 341 = .ok (.iconst 0, 1) := by decide +kernel
theorem dL_areOthersRight_342 : decode cL_areOthersRight 342 = .ok (.ireturn, 1) := by decide +kernel
abbrev vwCl : List vw_C := [(RX0, TX0, 2), (RX1, TX1, 5), (RX2, TX2, 3), (RX3, TX3, 5), (RX4, TX4, 3), (RX5, TX5, 14), (RX6, TX6, 12), (RX7, TX7, 17), (RX8, TX8, 7), (RX9, TX9, 3)]
