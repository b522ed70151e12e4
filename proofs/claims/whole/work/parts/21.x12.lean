theorem dX12_route_0 : decode cX12_route 0 = .ok (.aload_n 0, 1) := by decide +kernel
theorem dX12_route_1 : decode cX12_route 1 = .ok (.iconst 0, 1) := by decide +kernel
theorem dX12_route_2 : decode cX12_route 2 = .ok (.putfield 1, 3) := by decide +kernel
theorem dX12_route_5 : decode cX12_route 5 = .ok (.iload_n 1, 1) := by decide +kernel
theorem dX12_route_6 : decode cX12_route 6 = .ok (.invokestatic 105, 3) := by decide +kernel
theorem dX12_route_9 : decode cX12_route 9 = .ok (.ifCond .eq 40, 3) := by decide +kernel
theorem dX12_route_12 : decode cX12_route 12 = .ok (.iload_n 2, 1) := by decide +kernel
theorem dX12_route_13 : decode cX12_route 13 = .ok (.invokestatic 105, 3) := by decide +kernel
theorem dX12_route_16 : decode cX12_route 16 = .ok (.ifCond .eq 33, 3) := by decide +kernel
theorem dX12_route_19 : decode cX12_route 19 = .ok (.iload_n 1, 1) := by decide +kernel
theorem dX12_route_20 : decode cX12_route 20 = .ok (.iload_n 2, 1) := by decide +kernel
theorem dX12_route_21 : decode cX12_route 21 = .ok (.if_icmp .eq 28, 3) := by decide +kernel
theorem dX12_route_24 : decode cX12_route 24 = .ok (.iload_n 3, 1) := by decide +kernel
theorem dX12_route_25 : decode cX12_route 25 = .ok (.i2l, 1) := by decide +kernel
theorem dX12_route_26 : decode cX12_route 26 = .ok (.lconst 0, 1) := by decide +kernel
theorem dX12_route_27 : decode cX12_route 27 = .ok (.ldc2_w 111, 3) := by decide +kernel
theorem dX12_route_30 : decode cX12_route 30 = .ok (.invokestatic 93, 3) := by decide +kernel
theorem dX12_route_33 : decode cX12_route 33 = .ok (.ifCond .eq 16, 3) := by decide +kernel
theorem dX12_route_36 : decode cX12_route 36 = .ok (.iload 4, 2) := by decide +kernel
theorem dX12_route_38 : decode cX12_route 38 = .ok (.i2l, 1) := by decide +kernel
theorem dX12_route_39 : decode cX12_route 39 = .ok (.lconst 1, 1) := by decide +kernel
theorem dX12_route_40 : decode cX12_route 40 = .ok (.ldc2_w 157, 3) := by decide +kernel
theorem dX12_route_43 : decode cX12_route 43 = .ok (.invokestatic 93, 3) := by decide +kernel
theorem dX12_route_46 : decode cX12_route 46 = .ok (.ifCond .ne 5, 3) := by decide +kernel
theorem dX12_route_49 : decode cX12_route 49 = .ok (.iconst (-1), 1) := by decide +kernel
theorem dX12_route_50 : decode cX12_route 50 = .ok (.ireturn, 1) := by decide +kernel
theorem dX12_route_51 : decode cX12_route 51 = .ok (.iload_n 1, 1) := by decide +kernel
theorem dX12_route_52 : decode cX12_route 52 = .ok (.iload_n 2, 1) := by decide +kernel
theorem dX12_route_53 : decode cX12_route 53 = .ok (.invokestatic 150, 3) := by decide +kernel
theorem dX12_route_56 : decode cX12_route 56 = .ok (.istore 5, 2) := by decide +kernel
theorem dX12_route_58 : decode cX12_route 58 = .ok (.iload_n 3, 1) := by decide +kernel
theorem dX12_route_59 : decode cX12_route 59 = .ok (.iload 4, 2) := by decide +kernel
theorem dX12_route_61 : decode cX12_route 61 = .ok (.iload 5, 2) := by decide +kernel
theorem dX12_route_63 : decode cX12_route 63 = .ok (.imul, 1) := by decide +kernel
theorem dX12_route_64 : decode cX12_route 64 = .ok (.isub, 1) := by decide +kernel
theorem dX12_route_65 : decode cX12_route 65 = .ok (.ifCond .ge 6, 3) := by decide +kernel
theorem dX12_route_68 : decode cX12_route 68 = .ok (.bipush (-3), 2) := by decide +kernel
theorem dX12_route_70 : decode cX12_route 70 = .ok (.ireturn, 1) := by decide +kernel
theorem dX12_route_71 : decode cX12_route 71 = .ok (.iconst 0, 1) := by decide +kernel
theorem dX12_route_72 : decode cX12_route 72 = .ok (.istore 6, 2) := by decide +kernel
theorem dX12_route_74 : decode cX12_route 74 = .ok (.iload 6, 2) := by decide +kernel
theorem dX12_route_76 : decode cX12_route 76 = .ok (.iload 5, 2) := by decide +kernel
theorem dX12_route_78 : decode cX12_route 78 = .ok (.if_icmp .gt 197, 3) := by decide +kernel
theorem dX12_route_81 : decode cX12_route 81 = .ok (.iconst 0, 1) := by decide +kernel
theorem dX12_route_82 : decode cX12_route 82 = .ok (.istore 7, 2) := by decide +kernel
theorem dX12_route_84 : decode cX12_route 84 = .ok (.iload 7, 2) := by decide +kernel
theorem dX12_route_86 : decode cX12_route 86 = .ok (.bipush 100, 2) := by decide +kernel
theorem dX12_route_88 : decode cX12_route 88 = .ok (.if_icmp .ge 181, 3) := by decide +kernel
theorem dX12_route_91 : decode cX12_route 91 = .ok (.iload 7, 2) := by decide +kernel
theorem dX12_route_93 : decode cX12_route 93 = .ok (.iload_n 2, 1) := by decide +kernel
theorem dX12_route_94 : decode cX12_route 94 = .ok (.invokestatic 150, 3) := by decide +kernel
theorem dX12_route_97 : decode cX12_route 97 = .ok (.iload 6, 2) := by decide +kernel
theorem dX12_route_99 : decode cX12_route 99 = .ok (.if_icmp .ne 164, 3) := by decide +kernel
theorem dX12_route_102 : decode cX12_route 102 = .ok (.iload 7, 2) := by decide +kernel
theorem dX12_route_104 : decode cX12_route 104 = .ok (.iload_n 1, 1) := by decide +kernel
theorem dX12_route_105 : decode cX12_route 105 = .ok (.invokestatic 150, 3) := by decide +kernel
theorem dX12_route_108 : decode cX12_route 108 = .ok (.iload 6, 2) := by decide +kernel
theorem dX12_route_110 : decode cX12_route 110 = .ok (.iadd, 1) := by decide +kernel
theorem dX12_route_111 : decode cX12_route 111 = .ok (.iload 5, 2) := by decide +kernel
theorem dX12_route_113 : decode cX12_route 113 = .ok (.if_icmp .eq 6, 3) := by decide +kernel
theorem dX12_route_116 : decode cX12_route 116 = .ok (.goto 147, 3) := by decide +kernel
theorem dX12_route_119 : decode cX12_route 119 = .ok (.aload_n 0, 1) := by decide +kernel
theorem dX12_route_120 : decode cX12_route 120 = .ok (.getfield 23, 3) := by decide +kernel
theorem dX12_route_123 : decode cX12_route 123 = .ok (.iload 7, 2) := by decide +kernel
theorem dX12_route_125 : decode cX12_route 125 = .ok (.ldc 172, 2) := by decide +kernel
theorem dX12_route_127 : decode cX12_route 127 = .ok (.iastore, 1) := by decide +kernel
theorem dX12_route_128 : decode cX12_route 128 = .ok (.aload_n 0, 1) := by decide +kernel
theorem dX12_route_129 : decode cX12_route 129 = .ok (.iload 7, 2) := by decide +kernel
theorem dX12_route_131 : decode cX12_route 131 = .ok (.iconst 4, 1) := by decide +kernel
theorem dX12_route_132 : decode cX12_route 132 = .ok (.invokevirtual 117, 3) := by decide +kernel
theorem dX12_route_135 : decode cX12_route 135 = .ok (.iconst 1, 1) := by decide +kernel
theorem dX12_route_136 : decode cX12_route 136 = .ok (.if_icmp .ne 12, 3) := by decide +kernel
theorem dX12_route_139 : decode cX12_route 139 = .ok (.iload 7, 2) := by decide +kernel
theorem dX12_route_141 : decode cX12_route 141 = .ok (.iload_n 2, 1) := by decide +kernel
theorem dX12_route_142 : decode cX12_route 142 = .ok (.if_icmp .eq 6, 3) := by decide +kernel
theorem dX12_route_145 : decode cX12_route 145 = .ok (.goto 118, 3) := by decide +kernel
theorem dX12_route_148 : decode cX12_route 148 = .ok (.iload 6, 2) := by decide +kernel
theorem dX12_route_150 : decode cX12_route 150 = .ok (.ifCond .ne 7, 3) := by decide +kernel
theorem dX12_route_153 : decode cX12_route 153 = .ok (.iconst 0, 1) := by decide +kernel
theorem dX12_route_154 : decode cX12_route 154 = .ok (.goto 5, 3) := by decide +kernel
theorem dX12_route_157 : decode cX12_route 157 = .ok (.ldc 172, 2) := by decide +kernel
theorem dX12_route_159 : decode cX12_route 159 = .ok (.istore 8, 2) := by decide +kernel
theorem dX12_route_161 : decode cX12_route 161 = .ok (.iconst 0, 1) := by decide +kernel
theorem dX12_route_162 : decode cX12_route 162 = .ok (.istore 9, 2) := by decide +kernel
theorem dX12_route_164 : decode cX12_route 164 = .ok (.iload 9, 2) := by decide +kernel
theorem dX12_route_166 : decode cX12_route 166 = .ok (.iconst 4, 1) := by decide +kernel
theorem dX12_route_167 : decode cX12_route 167 = .ok (.if_icmp .ge 63, 3) := by decide +kernel
theorem dX12_route_170 : decode cX12_route 170 = .ok (.iload 7, 2) := by decide +kernel
theorem dX12_route_172 : decode cX12_route 172 = .ok (.iload 9, 2) := by decide +kernel
theorem dX12_route_174 : decode cX12_route 174 = .ok (.invokestatic 173, 3) := by decide +kernel
theorem dX12_route_177 : decode cX12_route 177 = .ok (.istore 10, 2) := by decide +kernel
theorem dX12_route_179 : decode cX12_route 179 = .ok (.iload 10, 2) := by decide +kernel
theorem dX12_route_181 : decode cX12_route 181 = .ok (.iconst (-1), 1) := by decide +kernel
theorem dX12_route_182 : decode cX12_route 182 = .ok (.if_icmp .eq 42, 3) := by decide +kernel
theorem dX12_route_185 : decode cX12_route 185 = .ok (.iload 6, 2) := by decide +kernel
theorem dX12_route_187 : decode cX12_route 187 = .ok (.ifCond .le 37, 3) := by decide +kernel
theorem dX12_route_190 : decode cX12_route 190 = .ok (.iload 10, 2) := by decide +kernel
theorem dX12_route_192 : decode cX12_route 192 = .ok (.iload_n 2, 1) := by decide +kernel
theorem dX12_route_193 : decode cX12_route 193 = .ok (.invokestatic 150, 3) := by decide +kernel
theorem dX12_route_196 : decode cX12_route 196 = .ok (.iload 6, 2) := by decide +kernel
theorem dX12_route_198 : decode cX12_route 198 = .ok (.iconst 1, 1) := by decide +kernel
theorem dX12_route_199 : decode cX12_route 199 = .ok (.isub, 1) := by decide +kernel
theorem dX12_route_200 : decode cX12_route 200 = .ok (.if_icmp .ne 24, 3) := by decide +kernel
theorem dX12_route_203 : decode cX12_route 203 = .ok (.aload_n 0, 1) := by decide +kernel
theorem dX12_route_204 : decode cX12_route 204 = .ok (.getfield 23, 3) := by decide +kernel
theorem dX12_route_207 : decode cX12_route 207 = .ok (.iload 10, 2) := by decide +kernel
theorem dX12_route_209 : decode cX12_route 209 = .ok (.iaload, 1) := by decide +kernel
theorem dX12_route_210 : decode cX12_route 210 = .ok (.iload 8, 2) := by decide +kernel
theorem dX12_route_212 : decode cX12_route 212 = .ok (.if_icmp .ge 12, 3) := by decide +kernel
theorem dX12_route_215 : decode cX12_route 215 = .ok (.aload_n 0, 1) := by decide +kernel
theorem dX12_route_216 : decode cX12_route 216 = .ok (.getfield 23, 3) := by decide +kernel
theorem dX12_route_219 : decode cX12_route 219 = .ok (.iload 10, 2) := by decide +kernel
theorem dX12_route_221 : decode cX12_route 221 = .ok (.iaload, 1) := by decide +kernel
theorem dX12_route_222 : decode cX12_route 222 = .ok (.istore 8, 2) := by decide +kernel
theorem dX12_route_224 : decode cX12_route 224 = .ok (.iinc 9 1, 3) := by decide +kernel
theorem dX12_route_227 : decode cX12_route 227 = .ok (.goto (-63), 3) := by decide +kernel
theorem dX12_route_230 : decode cX12_route 230 = .ok (.iload 8, 2) := by decide +kernel
theorem dX12_route_232 : decode cX12_route 232 = .ok (.ldc 172, 2) := by decide +kernel
theorem dX12_route_234 : decode cX12_route 234 = .ok (.if_icmp .ge 29, 3) := by decide +kernel
theorem dX12_route_237 : decode cX12_route 237 = .ok (.aload_n 0, 1) := by decide +kernel
theorem dX12_route_238 : decode cX12_route 238 = .ok (.getfield 23, 3) := by decide +kernel
theorem dX12_route_241 : decode cX12_route 241 = .ok (.iload 7, 2) := by decide +kernel
theorem dX12_route_243 : decode cX12_route 243 = .ok (.iload 8, 2) := by decide +kernel
theorem dX12_route_245 : decode cX12_route 245 = .ok (.aload_n 0, 1) := by decide +kernel
theorem dX12_route_246 : decode cX12_route 246 = .ok (.iload 7, 2) := by decide +kernel
theorem dX12_route_248 : decode cX12_route 248 = .ok (.iload_n 3, 1) := by decide +kernel
theorem dX12_route_249 : decode cX12_route 249 = .ok (.iload 4, 2) := by decide +kernel
theorem dX12_route_251 : decode cX12_route 251 = .ok (.iload 5, 2) := by decide +kernel
theorem dX12_route_253 : decode cX12_route 253 = .ok (.iload 6, 2) := by decide +kernel
theorem dX12_route_255 : decode cX12_route 255 = .ok (.isub, 1) := by decide +kernel
theorem dX12_route_256 : decode cX12_route 256 = .ok (.imul, 1) := by decide +kernel
theorem dX12_route_257 : decode cX12_route 257 = .ok (.isub, 1) := by decide +kernel
theorem dX12_route_258 : decode cX12_route 258 = .ok (.invokevirtual 176, 3) := by decide +kernel
theorem dX12_route_261 : decode cX12_route 261 = .ok (.iadd, 1) := by decide +kernel
theorem dX12_route_262 : decode cX12_route 262 = .ok (.iastore, 1) := by decide +kernel
theorem dX12_route_263 : decode cX12_route 263 = .ok (.iinc 7 1, 3) := by decide +kernel
theorem dX12_route_266 : decode cX12_route 266 = .ok (.goto (-182), 3) := by decide +kernel
theorem dX12_route_269 : decode cX12_route 269 = .ok (.iinc 6 1, 3) := by decide +kernel
theorem dX12_route_272 : decode cX12_route 272 = .ok (.goto (-198), 3) := by decide +kernel
theorem dX12_route_275 : decode cX12_route 275 = .ok (.aload_n 0, 1) := by decide +kernel
theorem dX12_route_276 : decode cX12_route 276 = .ok (.getfield 23, 3) := by decide +kernel
theorem dX12_route_279 : decode cX12_route 279 = .ok (.iload_n 1, 1) := by decide +kernel
theorem dX12_route_280 : decode cX12_route 280 = .ok (.iaload, 1) := by decide +kernel
theorem dX12_route_281 : decode cX12_route 281 = .ok (.ldc 172, 2) := by decide +kernel
theorem dX12_route_283 : decode cX12_route 283 = .ok (.if_icmp .lt 6, 3) := by decide +kernel
theorem dX12_route_286 : decode cX12_route 286 = .ok (.bipush (-3), 2) := by decide +kernel
theorem dX12_route_288 : decode cX12_route 288 = .ok (.ireturn, 1) := by decide +kernel
theorem dX12_route_289 : decode cX12_route 289 = .ok (.aload_n 0, 1) := by decide +kernel
theorem dX12_route_290 : decode cX12_route 290 = .ok (.iload_n 3, 1) := by decide +kernel
theorem dX12_route_291 : decode cX12_route 291 = .ok (.putfield 179, 3) := by decide +kernel
theorem dX12_route_294 : decode cX12_route 294 = .ok (.aload_n 0, 1) := by decide +kernel
theorem dX12_route_295 : decode cX12_route 295 = .ok (.iload 4, 2) := by decide +kernel
theorem dX12_route_297 : decode cX12_route 297 = .ok (.putfield 182, 3) := by decide +kernel
theorem dX12_route_300 : decode cX12_route 300 = .ok (.aload_n 0, 1) := by decide +kernel
theorem dX12_route_301 : decode cX12_route 301 = .ok (.iload 5, 2) := by decide +kernel
theorem dX12_route_303 : decode cX12_route 303 = .ok (.iconst 1, 1) := by decide +kernel
theorem dX12_route_304 : decode cX12_route 304 = .ok (.iadd, 1) := by decide +kernel
theorem dX12_route_305 : decode cX12_route 305 = .ok (.putfield 85, 3) := by decide +kernel
theorem dX12_route_308 : decode cX12_route 308 = .ok (.iload_n 1, 1) := by decide +kernel
theorem dX12_route_309 : decode cX12_route 309 = .ok (.istore 6, 2) := by decide +kernel
theorem dX12_route_311 : decode cX12_route 311 = .ok (.aload_n 0, 1) := by decide +kernel
theorem dX12_route_312 : decode cX12_route 312 = .ok (.getfield 20, 3) := by decide +kernel
theorem dX12_route_315 : decode cX12_route 315 = .ok (.iconst 0, 1) := by decide +kernel
theorem dX12_route_316 : decode cX12_route 316 = .ok (.iload_n 1, 1) := by decide +kernel
theorem dX12_route_317 : decode cX12_route 317 = .ok (.iastore, 1) := by decide +kernel
theorem dX12_route_318 : decode cX12_route 318 = .ok (.iconst 1, 1) := by decide +kernel
theorem dX12_route_319 : decode cX12_route 319 = .ok (.istore 7, 2) := by decide +kernel
theorem dX12_route_321 : decode cX12_route 321 = .ok (.iload 7, 2) := by decide +kernel
theorem dX12_route_323 : decode cX12_route 323 = .ok (.iload 5, 2) := by decide +kernel
theorem dX12_route_325 : decode cX12_route 325 = .ok (.if_icmp .gt 117, 3) := by decide +kernel
theorem dX12_route_328 : decode cX12_route 328 = .ok (.iconst (-1), 1) := by decide +kernel
theorem dX12_route_329 : decode cX12_route 329 = .ok (.istore 8, 2) := by decide +kernel
theorem dX12_route_331 : decode cX12_route 331 = .ok (.iconst 3, 1) := by decide +kernel
theorem dX12_route_332 : decode cX12_route 332 = .ok (.istore 9, 2) := by decide +kernel
theorem dX12_route_334 : decode cX12_route 334 = .ok (.iload 9, 2) := by decide +kernel
theorem dX12_route_336 : decode cX12_route 336 = .ok (.ifCond .lt 87, 3) := by decide +kernel
theorem dX12_route_339 : decode cX12_route 339 = .ok (.iload 6, 2) := by decide +kernel
theorem dX12_route_341 : decode cX12_route 341 = .ok (.iload 9, 2) := by decide +kernel
theorem dX12_route_343 : decode cX12_route 343 = .ok (.invokestatic 173, 3) := by decide +kernel
theorem dX12_route_346 : decode cX12_route 346 = .ok (.istore 10, 2) := by decide +kernel
theorem dX12_route_348 : decode cX12_route 348 = .ok (.iload 10, 2) := by decide +kernel
theorem dX12_route_350 : decode cX12_route 350 = .ok (.iconst (-1), 1) := by decide +kernel
theorem dX12_route_351 : decode cX12_route 351 = .ok (.if_icmp .eq 66, 3) := by decide +kernel
theorem dX12_route_354 : decode cX12_route 354 = .ok (.iload 10, 2) := by decide +kernel
theorem dX12_route_356 : decode cX12_route 356 = .ok (.iload_n 2, 1) := by decide +kernel
theorem dX12_route_357 : decode cX12_route 357 = .ok (.invokestatic 150, 3) := by decide +kernel
theorem dX12_route_360 : decode cX12_route 360 = .ok (.iload 5, 2) := by decide +kernel
theorem dX12_route_362 : decode cX12_route 362 = .ok (.iload 7, 2) := by decide +kernel
theorem dX12_route_364 : decode cX12_route 364 = .ok (.isub, 1) := by decide +kernel
theorem dX12_route_365 : decode cX12_route 365 = .ok (.if_icmp .ne 52, 3) := by decide +kernel
theorem dX12_route_368 : decode cX12_route 368 = .ok (.aload_n 0, 1) := by decide +kernel
theorem dX12_route_369 : decode cX12_route 369 = .ok (.getfield 23, 3) := by decide +kernel
theorem dX12_route_372 : decode cX12_route 372 = .ok (.iload 10, 2) := by decide +kernel
theorem dX12_route_374 : decode cX12_route 374 = .ok (.iaload, 1) := by decide +kernel
theorem dX12_route_375 : decode cX12_route 375 = .ok (.ldc 172, 2) := by decide +kernel
theorem dX12_route_377 : decode cX12_route 377 = .ok (.if_icmp .ge 40, 3) := by decide +kernel
theorem dX12_route_380 : decode cX12_route 380 = .ok (.aload_n 0, 1) := by decide +kernel
theorem dX12_route_381 : decode cX12_route 381 = .ok (.getfield 23, 3) := by decide +kernel
theorem dX12_route_384 : decode cX12_route 384 = .ok (.iload 10, 2) := by decide +kernel
theorem dX12_route_386 : decode cX12_route 386 = .ok (.iaload, 1) := by decide +kernel
theorem dX12_route_387 : decode cX12_route 387 = .ok (.aload_n 0, 1) := by decide +kernel
theorem dX12_route_388 : decode cX12_route 388 = .ok (.iload 6, 2) := by decide +kernel
theorem dX12_route_390 : decode cX12_route 390 = .ok (.iload_n 3, 1) := by decide +kernel
theorem dX12_route_391 : decode cX12_route 391 = .ok (.iload 4, 2) := by decide +kernel
theorem dX12_route_393 : decode cX12_route 393 = .ok (.iload 7, 2) := by decide +kernel
theorem dX12_route_395 : decode cX12_route 395 = .ok (.iconst 1, 1) := by decide +kernel
theorem dX12_route_396 : decode cX12_route 396 = .ok (.isub, 1) := by decide +kernel
theorem dX12_route_397 : decode cX12_route 397 = .ok (.imul, 1) := by decide +kernel
theorem dX12_route_398 : decode cX12_route 398 = .ok (.isub, 1) := by decide +kernel
theorem dX12_route_399 : decode cX12_route 399 = .ok (.invokevirtual 176, 3) := by decide +kernel
theorem dX12_route_402 : decode cX12_route 402 = .ok (.iadd, 1) := by decide +kernel
theorem dX12_route_403 : decode cX12_route 403 = .ok (.aload_n 0, 1) := by decide +kernel
theorem dX12_route_404 : decode cX12_route 404 = .ok (.getfield 23, 3) := by decide +kernel
theorem dX12_route_407 : decode cX12_route 407 = .ok (.iload 6, 2) := by decide +kernel
theorem dX12_route_409 : decode cX12_route 409 = .ok (.iaload, 1) := by decide +kernel
theorem dX12_route_410 : decode cX12_route 410 = .ok (.if_icmp .ne 7, 3) := by decide +kernel
theorem dX12_route_413 : decode cX12_route 413 = .ok (.iload 10, 2) := by decide +kernel
theorem dX12_route_415 : decode cX12_route 415 = .ok (.istore 8, 2) := by decide +kernel
theorem dX12_route_417 : decode cX12_route 417 = .ok (.iinc 9 (-1), 3) := by decide +kernel
theorem dX12_route_420 : decode cX12_route 420 = .ok (.goto (-86), 3) := by decide +kernel
theorem dX12_route_423 : decode cX12_route 423 = .ok (.iload 8, 2) := by decide +kernel
theorem dX12_route_425 : decode cX12_route 425 = .ok (.istore 6, 2) := by decide +kernel
theorem dX12_route_427 : decode cX12_route 427 = .ok (.aload_n 0, 1) := by decide +kernel
theorem dX12_route_428 : decode cX12_route 428 = .ok (.getfield 20, 3) := by decide +kernel
theorem dX12_route_431 : decode cX12_route 431 = .ok (.iload 7, 2) := by decide +kernel
theorem dX12_route_433 : decode cX12_route 433 = .ok (.iload 6, 2) := by decide +kernel
theorem dX12_route_435 : decode cX12_route 435 = .ok (.iastore, 1) := by decide +kernel
theorem dX12_route_436 : decode cX12_route 436 = .ok (.iinc 7 1, 3) := by decide +kernel
theorem dX12_route_439 : decode cX12_route 439 = .ok (.goto (-118), 3) := by decide +kernel
theorem dX12_route_442 : decode cX12_route 442 = .ok (.aload_n 0, 1) := by decide +kernel
theorem dX12_route_443 : decode cX12_route 443 = .ok (.getfield 23, 3) := by decide +kernel
theorem dX12_route_446 : decode cX12_route 446 = .ok (.iload_n 1, 1) := by decide +kernel
theorem dX12_route_447 : decode cX12_route 447 = .ok (.iaload, 1) := by decide +kernel
theorem dX12_route_448 : decode cX12_route 448 = .ok (.ireturn, 1) := by decide +kernel
theorem dX12_set_0 : decode cX12_set 0 = .ok (.aload_n 0, 1) := by decide +kernel
theorem dX12_set_1 : decode cX12_set 1 = .ok (.iconst 0, 1) := by decide +kernel
theorem dX12_set_2 : decode cX12_set 2 = .ok (.putfield 1, 3) := by decide +kernel
theorem dX12_set_5 : decode cX12_set 5 = .ok (.iload_n 1, 1) := by decide +kernel
theorem dX12_set_6 : decode cX12_set 6 = .ok (.invokestatic 105, 3) := by decide +kernel
theorem dX12_set_9 : decode cX12_set 9 = .ok (.ifCond .eq 68, 3) := by decide +kernel
theorem dX12_set_12 : decode cX12_set 12 = .ok (.iload_n 2, 1) := by decide +kernel
theorem dX12_set_13 : decode cX12_set 13 = .ok (.i2l, 1) := by decide +kernel
theorem dX12_set_14 : decode cX12_set 14 = .ok (.lconst 0, 1) := by decide +kernel
theorem dX12_set_15 : decode cX12_set 15 = .ok (.ldc2_w 109, 3) := by decide +kernel
theorem dX12_set_18 : decode cX12_set 18 = .ok (.invokestatic 93, 3) := by decide +kernel
theorem dX12_set_21 : decode cX12_set 21 = .ok (.ifCond .eq 56, 3) := by decide +kernel
theorem dX12_set_24 : decode cX12_set 24 = .ok (.iload_n 3, 1) := by decide +kernel
theorem dX12_set_25 : decode cX12_set 25 = .ok (.i2l, 1) := by decide +kernel
theorem dX12_set_26 : decode cX12_set 26 = .ok (.lconst 0, 1) := by decide +kernel
theorem dX12_set_27 : decode cX12_set 27 = .ok (.iload_n 2, 1) := by decide +kernel
theorem dX12_set_28 : decode cX12_set 28 = .ok (.ifCond .ne 9, 3) := by decide +kernel
theorem dX12_set_31 : decode cX12_set 31 = .ok (.ldc2_w 111, 3) := by decide +kernel
theorem dX12_set_34 : decode cX12_set 34 = .ok (.goto 37, 3) := by decide +kernel
theorem dX12_set_37 : decode cX12_set 37 = .ok (.iload_n 2, 1) := by decide +kernel
theorem dX12_set_38 : decode cX12_set 38 = .ok (.iconst 1, 1) := by decide +kernel
theorem dX12_set_39 : decode cX12_set 39 = .ok (.if_icmp .ne 9, 3) := by decide +kernel
theorem dX12_set_42 : decode cX12_set 42 = .ok (.ldc2_w 113, 3) := by decide +kernel
theorem dX12_set_45 : decode cX12_set 45 = .ok (.goto 26, 3) := by decide +kernel
theorem dX12_set_48 : decode cX12_set 48 = .ok (.iload_n 2, 1) := by decide +kernel
theorem dX12_set_49 : decode cX12_set 49 = .ok (.iconst 2, 1) := by decide +kernel
theorem dX12_set_50 : decode cX12_set 50 = .ok (.if_icmp .ne 9, 3) := by decide +kernel
theorem dX12_set_53 : decode cX12_set 53 = .ok (.ldc2_w 115, 3) := by decide +kernel
theorem dX12_set_56 : decode cX12_set 56 = .ok (.goto 15, 3) := by decide +kernel
theorem dX12_set_59 : decode cX12_set 59 = .ok (.iload_n 2, 1) := by decide +kernel
theorem dX12_set_60 : decode cX12_set 60 = .ok (.iconst 3, 1) := by decide +kernel
theorem dX12_set_61 : decode cX12_set 61 = .ok (.if_icmp .ne 9, 3) := by decide +kernel
theorem dX12_set_64 : decode cX12_set 64 = .ok (.ldc2_w 91, 3) := by decide +kernel
theorem dX12_set_67 : decode cX12_set 67 = .ok (.goto 4, 3) := by decide +kernel
theorem dX12_set_70 : decode cX12_set 70 = .ok (.lconst 1, 1) := by decide +kernel
theorem dX12_set_71 : decode cX12_set 71 = .ok (.invokestatic 93, 3) := by decide +kernel
theorem dX12_set_74 : decode cX12_set 74 = .ok (.ifCond .ne 5, 3) := by decide +kernel
theorem dX12_set_77 : decode cX12_set 77 = .ok (.iconst (-1), 1) := by decide +kernel
theorem dX12_set_78 : decode cX12_set 78 = .ok (.ireturn, 1) := by decide +kernel
theorem dX12_set_79 : decode cX12_set 79 = .ok (.aload_n 0, 1) := by decide +kernel
theorem dX12_set_80 : decode cX12_set 80 = .ok (.iload_n 1, 1) := by decide +kernel
theorem dX12_set_81 : decode cX12_set 81 = .ok (.iload_n 2, 1) := by decide +kernel
theorem dX12_set_82 : decode cX12_set 82 = .ok (.invokevirtual 117, 3) := by decide +kernel
theorem dX12_set_85 : decode cX12_set 85 = .ok (.istore 4, 2) := by decide +kernel
theorem dX12_set_87 : decode cX12_set 87 = .ok (.aload_n 0, 1) := by decide +kernel
theorem dX12_set_88 : decode cX12_set 88 = .ok (.getfield 13, 3) := by decide +kernel
theorem dX12_set_91 : decode cX12_set 91 = .ok (.bipush 15, 2) := by decide +kernel
theorem dX12_set_93 : decode cX12_set 93 = .ok (.iload_n 1, 1) := by decide +kernel
theorem dX12_set_94 : decode cX12_set 94 = .ok (.imul, 1) := by decide +kernel
theorem dX12_set_95 : decode cX12_set 95 = .ok (.iload_n 2, 1) := by decide +kernel
theorem dX12_set_96 : decode cX12_set 96 = .ok (.iadd, 1) := by decide +kernel
theorem dX12_set_97 : decode cX12_set 97 = .ok (.iload_n 3, 1) := by decide +kernel
theorem dX12_set_98 : decode cX12_set 98 = .ok (.iastore, 1) := by decide +kernel
theorem dX12_set_99 : decode cX12_set 99 = .ok (.iload 4, 2) := by decide +kernel
theorem dX12_set_101 : decode cX12_set 101 = .ok (.ireturn, 1) := by decide +kernel
theorem dX12_vestry_0 : decode cX12_vestry 0 = .ok (.iconst 0, 1) := by decide +kernel
theorem dX12_vestry_1 : decode cX12_vestry 1 = .ok (.istore_n 2, 1) := by decide +kernel
theorem dX12_vestry_2 : decode cX12_vestry 2 = .ok (.iconst 0, 1) := by decide +kernel
theorem dX12_vestry_3 : decode cX12_vestry 3 = .ok (.istore_n 3, 1) := by decide +kernel
theorem dX12_vestry_4 : decode cX12_vestry 4 = .ok (.iload_n 3, 1) := by decide +kernel
theorem dX12_vestry_5 : decode cX12_vestry 5 = .ok (.bipush 10, 2) := by decide +kernel
theorem dX12_vestry_7 : decode cX12_vestry 7 = .ok (.if_icmp .ge 23, 3) := by decide +kernel
theorem dX12_vestry_10 : decode cX12_vestry 10 = .ok (.iload_n 2, 1) := by decide +kernel
theorem dX12_vestry_11 : decode cX12_vestry 11 = .ok (.aload_n 0, 1) := by decide +kernel
theorem dX12_vestry_12 : decode cX12_vestry 12 = .ok (.bipush 10, 2) := by decide +kernel
theorem dX12_vestry_14 : decode cX12_vestry 14 = .ok (.iload_n 1, 1) := by decide +kernel
theorem dX12_vestry_15 : decode cX12_vestry 15 = .ok (.imul, 1) := by decide +kernel
theorem dX12_vestry_16 : decode cX12_vestry 16 = .ok (.iload_n 3, 1) := by decide +kernel
theorem dX12_vestry_17 : decode cX12_vestry 17 = .ok (.iadd, 1) := by decide +kernel
theorem dX12_vestry_18 : decode cX12_vestry 18 = .ok (.iconst 2, 1) := by decide +kernel
theorem dX12_vestry_19 : decode cX12_vestry 19 = .ok (.invokevirtual 117, 3) := by decide +kernel
theorem dX12_vestry_22 : decode cX12_vestry 22 = .ok (.iadd, 1) := by decide +kernel
theorem dX12_vestry_23 : decode cX12_vestry 23 = .ok (.istore_n 2, 1) := by decide +kernel
theorem dX12_vestry_24 : decode cX12_vestry 24 = .ok (.iinc 3 1, 3) := by decide +kernel
theorem dX12_vestry_27 : decode cX12_vestry 27 = .ok (.goto (-23), 3) := by decide +kernel
theorem dX12_vestry_30 : decode cX12_vestry 30 = .ok (.iload_n 2, 1) := by decide +kernel
theorem dX12_vestry_31 : decode cX12_vestry 31 = .ok (.ireturn, 1) := by decide +kernel
theorem dX12_share_0 : decode cX12_share 0 = .ok (.aload_n 0, 1) := by decide +kernel
theorem dX12_share_1 : decode cX12_share 1 = .ok (.iconst 0, 1) := by decide +kernel
theorem dX12_share_2 : decode cX12_share 2 = .ok (.putfield 1, 3) := by decide +kernel
theorem dX12_share_5 : decode cX12_share 5 = .ok (.iload_n 1, 1) := by decide +kernel
theorem dX12_share_6 : decode cX12_share 6 = .ok (.i2l, 1) := by decide +kernel
theorem dX12_share_7 : decode cX12_share 7 = .ok (.lconst 0, 1) := by decide +kernel
theorem dX12_share_8 : decode cX12_share 8 = .ok (.ldc2_w 350, 3) := by decide +kernel
theorem dX12_share_11 : decode cX12_share 11 = .ok (.invokestatic 93, 3) := by decide +kernel
theorem dX12_share_14 : decode cX12_share 14 = .ok (.ifCond .eq 15, 3) := by decide +kernel
theorem dX12_share_17 : decode cX12_share 17 = .ok (.iload_n 2, 1) := by decide +kernel
theorem dX12_share_18 : decode cX12_share 18 = .ok (.i2l, 1) := by decide +kernel
theorem dX12_share_19 : decode cX12_share 19 = .ok (.lconst 0, 1) := by decide +kernel
theorem dX12_share_20 : decode cX12_share 20 = .ok (.ldc2_w 157, 3) := by decide +kernel
theorem dX12_share_23 : decode cX12_share 23 = .ok (.invokestatic 93, 3) := by decide +kernel
theorem dX12_share_26 : decode cX12_share 26 = .ok (.ifCond .ne 5, 3) := by decide +kernel
theorem dX12_share_29 : decode cX12_share 29 = .ok (.iconst (-1), 1) := by decide +kernel
theorem dX12_share_30 : decode cX12_share 30 = .ok (.ireturn, 1) := by decide +kernel
theorem dX12_share_31 : decode cX12_share 31 = .ok (.lconst 0, 1) := by decide +kernel
theorem dX12_share_32 : decode cX12_share 32 = .ok (.lstore_n 3, 1) := by decide +kernel
theorem dX12_share_33 : decode cX12_share 33 = .ok (.iconst 0, 1) := by decide +kernel
theorem dX12_share_34 : decode cX12_share 34 = .ok (.istore 5, 2) := by decide +kernel
theorem dX12_share_36 : decode cX12_share 36 = .ok (.iload 5, 2) := by decide +kernel
theorem dX12_share_38 : decode cX12_share 38 = .ok (.bipush 10, 2) := by decide +kernel
theorem dX12_share_40 : decode cX12_share 40 = .ok (.if_icmp .ge 19, 3) := by decide +kernel
theorem dX12_share_43 : decode cX12_share 43 = .ok (.lload_n 3, 1) := by decide +kernel
theorem dX12_share_44 : decode cX12_share 44 = .ok (.aload_n 0, 1) := by decide +kernel
theorem dX12_share_45 : decode cX12_share 45 = .ok (.iload 5, 2) := by decide +kernel
theorem dX12_share_47 : decode cX12_share 47 = .ok (.invokevirtual 358, 3) := by decide +kernel
theorem dX12_share_50 : decode cX12_share 50 = .ok (.i2l, 1) := by decide +kernel
theorem dX12_share_51 : decode cX12_share 51 = .ok (.ladd, 1) := by decide +kernel
theorem dX12_share_52 : decode cX12_share 52 = .ok (.lstore_n 3, 1) := by decide +kernel
theorem dX12_share_53 : decode cX12_share 53 = .ok (.iinc 5 1, 3) := by decide +kernel
theorem dX12_share_56 : decode cX12_share 56 = .ok (.goto (-20), 3) := by decide +kernel
theorem dX12_share_59 : decode cX12_share 59 = .ok (.lload_n 3, 1) := by decide +kernel
theorem dX12_share_60 : decode cX12_share 60 = .ok (.lconst 0, 1) := by decide +kernel
theorem dX12_share_61 : decode cX12_share 61 = .ok (.lcmp, 1) := by decide +kernel
theorem dX12_share_62 : decode cX12_share 62 = .ok (.ifCond .ne 10, 3) := by decide +kernel
theorem dX12_share_65 : decode cX12_share 65 = .ok (.aload_n 0, 1) := by decide +kernel
theorem dX12_share_66 : decode cX12_share 66 = .ok (.bipush (-16), 2) := by decide +kernel
theorem dX12_share_68 : decode cX12_share 68 = .ok (.invokevirtual 131, 3) := by decide +kernel
theorem dX12_share_71 : decode cX12_share 71 = .ok (.ireturn, 1) := by decide +kernel
theorem dX12_share_72 : decode cX12_share 72 = .ok (.iload_n 1, 1) := by decide +kernel
theorem dX12_share_73 : decode cX12_share 73 = .ok (.i2l, 1) := by decide +kernel
theorem dX12_share_74 : decode cX12_share 74 = .ok (.lstore 5, 2) := by decide +kernel
theorem dX12_share_76 : decode cX12_share 76 = .ok (.iconst 0, 1) := by decide +kernel
theorem dX12_share_77 : decode cX12_share 77 = .ok (.istore 7, 2) := by decide +kernel
theorem dX12_share_79 : decode cX12_share 79 = .ok (.iload 7, 2) := by decide +kernel
theorem dX12_share_81 : decode cX12_share 81 = .ok (.bipush 10, 2) := by decide +kernel
theorem dX12_share_83 : decode cX12_share 83 = .ok (.if_icmp .ge 26, 3) := by decide +kernel
theorem dX12_share_86 : decode cX12_share 86 = .ok (.lload 5, 2) := by decide +kernel
theorem dX12_share_88 : decode cX12_share 88 = .ok (.iload_n 1, 1) := by decide +kernel
theorem dX12_share_89 : decode cX12_share 89 = .ok (.i2l, 1) := by decide +kernel
theorem dX12_share_90 : decode cX12_share 90 = .ok (.aload_n 0, 1) := by decide +kernel
theorem dX12_share_91 : decode cX12_share 91 = .ok (.iload 7, 2) := by decide +kernel
theorem dX12_share_93 : decode cX12_share 93 = .ok (.invokevirtual 358, 3) := by decide +kernel
theorem dX12_share_96 : decode cX12_share 96 = .ok (.i2l, 1) := by decide +kernel
theorem dX12_share_97 : decode cX12_share 97 = .ok (.lmul, 1) := by decide +kernel
theorem dX12_share_98 : decode cX12_share 98 = .ok (.lload_n 3, 1) := by decide +kernel
theorem dX12_share_99 : decode cX12_share 99 = .ok (.ldiv, 1) := by decide +kernel
theorem dX12_share_100 : decode cX12_share 100 = .ok (.lsub, 1) := by decide +kernel
theorem dX12_share_101 : decode cX12_share 101 = .ok (.lstore 5, 2) := by decide +kernel
theorem dX12_share_103 : decode cX12_share 103 = .ok (.iinc 7 1, 3) := by decide +kernel
theorem dX12_share_106 : decode cX12_share 106 = .ok (.goto (-27), 3) := by decide +kernel
theorem dX12_share_109 : decode cX12_share 109 = .ok (.iload_n 1, 1) := by decide +kernel
theorem dX12_share_110 : decode cX12_share 110 = .ok (.i2l, 1) := by decide +kernel
theorem dX12_share_111 : decode cX12_share 111 = .ok (.aload_n 0, 1) := by decide +kernel
theorem dX12_share_112 : decode cX12_share 112 = .ok (.iload_n 2, 1) := by decide +kernel
theorem dX12_share_113 : decode cX12_share 113 = .ok (.invokevirtual 358, 3) := by decide +kernel
theorem dX12_share_116 : decode cX12_share 116 = .ok (.i2l, 1) := by decide +kernel
theorem dX12_share_117 : decode cX12_share 117 = .ok (.lmul, 1) := by decide +kernel
theorem dX12_share_118 : decode cX12_share 118 = .ok (.lload_n 3, 1) := by decide +kernel
theorem dX12_share_119 : decode cX12_share 119 = .ok (.lrem, 1) := by decide +kernel
theorem dX12_share_120 : decode cX12_share 120 = .ok (.lstore 7, 2) := by decide +kernel
theorem dX12_share_122 : decode cX12_share 122 = .ok (.iconst 0, 1) := by decide +kernel
theorem dX12_share_123 : decode cX12_share 123 = .ok (.istore 9, 2) := by decide +kernel
theorem dX12_share_125 : decode cX12_share 125 = .ok (.iconst 0, 1) := by decide +kernel
theorem dX12_share_126 : decode cX12_share 126 = .ok (.istore 10, 2) := by decide +kernel
theorem dX12_share_128 : decode cX12_share 128 = .ok (.iload 10, 2) := by decide +kernel
theorem dX12_share_130 : decode cX12_share 130 = .ok (.bipush 10, 2) := by decide +kernel
theorem dX12_share_132 : decode cX12_share 132 = .ok (.if_icmp .ge 55, 3) := by decide +kernel
theorem dX12_share_135 : decode cX12_share 135 = .ok (.iload_n 1, 1) := by decide +kernel
theorem dX12_share_136 : decode cX12_share 136 = .ok (.i2l, 1) := by decide +kernel
theorem dX12_share_137 : decode cX12_share 137 = .ok (.aload_n 0, 1) := by decide +kernel
theorem dX12_share_138 : decode cX12_share 138 = .ok (.iload 10, 2) := by decide +kernel
theorem dX12_share_140 : decode cX12_share 140 = .ok (.invokevirtual 358, 3) := by decide +kernel
theorem dX12_share_143 : decode cX12_share 143 = .ok (.i2l, 1) := by decide +kernel
theorem dX12_share_144 : decode cX12_share 144 = .ok (.lmul, 1) := by decide +kernel
theorem dX12_share_145 : decode cX12_share 145 = .ok (.lload_n 3, 1) := by decide +kernel
theorem dX12_share_146 : decode cX12_share 146 = .ok (.lrem, 1) := by decide +kernel
theorem dX12_share_147 : decode cX12_share 147 = .ok (.lstore 11, 2) := by decide +kernel
theorem dX12_share_149 : decode cX12_share 149 = .ok (.iload 9, 2) := by decide +kernel
theorem dX12_share_151 : decode cX12_share 151 = .ok (.lload 11, 2) := by decide +kernel
theorem dX12_share_153 : decode cX12_share 153 = .ok (.lload 7, 2) := by decide +kernel
theorem dX12_share_155 : decode cX12_share 155 = .ok (.lcmp, 1) := by decide +kernel
theorem dX12_share_156 : decode cX12_share 156 = .ok (.ifCond .gt 17, 3) := by decide +kernel
theorem dX12_share_159 : decode cX12_share 159 = .ok (.lload 11, 2) := by decide +kernel
theorem dX12_share_161 : decode cX12_share 161 = .ok (.lload 7, 2) := by decide +kernel
theorem dX12_share_163 : decode cX12_share 163 = .ok (.lcmp, 1) := by decide +kernel
theorem dX12_share_164 : decode cX12_share 164 = .ok (.ifCond .ne 13, 3) := by decide +kernel
theorem dX12_share_167 : decode cX12_share 167 = .ok (.iload 10, 2) := by decide +kernel
theorem dX12_share_169 : decode cX12_share 169 = .ok (.iload_n 2, 1) := by decide +kernel
theorem dX12_share_170 : decode cX12_share 170 = .ok (.if_icmp .ge 7, 3) := by decide +kernel
theorem dX12_share_173 : decode cX12_share 173 = .ok (.iconst 1, 1) := by decide +kernel
theorem dX12_share_174 : decode cX12_share 174 = .ok (.goto 4, 3) := by decide +kernel
theorem dX12_share_177 : decode cX12_share 177 = .ok (.iconst 0, 1) := by decide +kernel
theorem dX12_share_178 : decode cX12_share 178 = .ok (.iadd, 1) := by decide +kernel
theorem dX12_share_179 : decode cX12_share 179 = .ok (.istore 9, 2) := by decide +kernel
theorem dX12_share_181 : decode cX12_share 181 = .ok (.iinc 10 1, 3) := by decide +kernel
theorem dX12_share_184 : decode cX12_share 184 = .ok (.goto (-56), 3) := by decide +kernel
theorem dX12_share_187 : decode cX12_share 187 = .ok (.iload_n 1, 1) := by decide +kernel
theorem dX12_share_188 : decode cX12_share 188 = .ok (.i2l, 1) := by decide +kernel
theorem dX12_share_189 : decode cX12_share 189 = .ok (.aload_n 0, 1) := by decide +kernel
theorem dX12_share_190 : decode cX12_share 190 = .ok (.iload_n 2, 1) := by decide +kernel
theorem dX12_share_191 : decode cX12_share 191 = .ok (.invokevirtual 358, 3) := by decide +kernel
theorem dX12_share_194 : decode cX12_share 194 = .ok (.i2l, 1) := by decide +kernel
theorem dX12_share_195 : decode cX12_share 195 = .ok (.lmul, 1) := by decide +kernel
theorem dX12_share_196 : decode cX12_share 196 = .ok (.lload_n 3, 1) := by decide +kernel
theorem dX12_share_197 : decode cX12_share 197 = .ok (.ldiv, 1) := by decide +kernel
theorem dX12_share_198 : decode cX12_share 198 = .ok (.l2i, 1) := by decide +kernel
theorem dX12_share_199 : decode cX12_share 199 = .ok (.iload 9, 2) := by decide +kernel
theorem dX12_share_201 : decode cX12_share 201 = .ok (.i2l, 1) := by decide +kernel
theorem dX12_share_202 : decode cX12_share 202 = .ok (.lload 5, 2) := by decide +kernel
theorem dX12_share_204 : decode cX12_share 204 = .ok (.lcmp, 1) := by decide +kernel
theorem dX12_share_205 : decode cX12_share 205 = .ok (.ifCond .ge 7, 3) := by decide +kernel
theorem dX12_share_208 : decode cX12_share 208 = .ok (.iconst 1, 1) := by decide +kernel
theorem dX12_share_209 : decode cX12_share 209 = .ok (.goto 4, 3) := by decide +kernel
theorem dX12_share_212 : decode cX12_share 212 = .ok (.iconst 0, 1) := by decide +kernel
theorem dX12_share_213 : decode cX12_share 213 = .ok (.iadd, 1) := by decide +kernel
theorem dX12_share_214 : decode cX12_share 214 = .ok (.ireturn, 1) := by decide +kernel
theorem dX12_size_0 : decode cX12_size 0 = .ok (.aload_n 0, 1) := by decide +kernel
theorem dX12_size_1 : decode cX12_size 1 = .ok (.iconst 0, 1) := by decide +kernel
theorem dX12_size_2 : decode cX12_size 2 = .ok (.putfield 1, 3) := by decide +kernel
theorem dX12_size_5 : decode cX12_size 5 = .ok (.aload_n 0, 1) := by decide +kernel
theorem dX12_size_6 : decode cX12_size 6 = .ok (.iload_n 1, 1) := by decide +kernel
theorem dX12_size_7 : decode cX12_size 7 = .ok (.invokevirtual 188, 3) := by decide +kernel
theorem dX12_size_10 : decode cX12_size 10 = .ok (.ifCond .eq 12, 3) := by decide +kernel
theorem dX12_size_13 : decode cX12_size 13 = .ok (.aload_n 0, 1) := by decide +kernel
theorem dX12_size_14 : decode cX12_size 14 = .ok (.iload_n 1, 1) := by decide +kernel
theorem dX12_size_15 : decode cX12_size 15 = .ok (.iconst 0, 1) := by decide +kernel
theorem dX12_size_16 : decode cX12_size 16 = .ok (.invokevirtual 193, 3) := by decide +kernel
theorem dX12_size_19 : decode cX12_size 19 = .ok (.goto 4, 3) := by decide +kernel
theorem dX12_size_22 : decode cX12_size 22 = .ok (.iconst (-1), 1) := by decide +kernel
theorem dX12_size_23 : decode cX12_size 23 = .ok (.ireturn, 1) := by decide +kernel
theorem dX12_stop_0 : decode cX12_stop 0 = .ok (.aload_n 0, 1) := by decide +kernel
theorem dX12_stop_1 : decode cX12_stop 1 = .ok (.iconst 0, 1) := by decide +kernel
theorem dX12_stop_2 : decode cX12_stop 2 = .ok (.putfield 1, 3) := by decide +kernel
theorem dX12_stop_5 : decode cX12_stop 5 = .ok (.iload_n 1, 1) := by decide +kernel
theorem dX12_stop_6 : decode cX12_stop 6 = .ok (.invokestatic 105, 3) := by decide +kernel
theorem dX12_stop_9 : decode cX12_stop 9 = .ok (.ifCond .eq 13, 3) := by decide +kernel
theorem dX12_stop_12 : decode cX12_stop 12 = .ok (.aload_n 0, 1) := by decide +kernel
theorem dX12_stop_13 : decode cX12_stop 13 = .ok (.iload_n 1, 1) := by decide +kernel
theorem dX12_stop_14 : decode cX12_stop 14 = .ok (.iconst 0, 1) := by decide +kernel
theorem dX12_stop_15 : decode cX12_stop 15 = .ok (.invokevirtual 226, 3) := by decide +kernel
theorem dX12_stop_18 : decode cX12_stop 18 = .ok (.iconst 1, 1) := by decide +kernel
theorem dX12_stop_19 : decode cX12_stop 19 = .ok (.if_icmp .eq 5, 3) := by decide +kernel
theorem dX12_stop_22 : decode cX12_stop 22 = .ok (.iconst (-1), 1) := by decide +kernel
theorem dX12_stop_23 : decode cX12_stop 23 = .ok (.ireturn, 1) := by decide +kernel
theorem dX12_stop_24 : decode cX12_stop 24 = .ok (.aload_n 0, 1) := by decide +kernel
theorem dX12_stop_25 : decode cX12_stop 25 = .ok (.iload_n 1, 1) := by decide +kernel
theorem dX12_stop_26 : decode cX12_stop 26 = .ok (.iconst 4, 1) := by decide +kernel
theorem dX12_stop_27 : decode cX12_stop 27 = .ok (.invokevirtual 226, 3) := by decide +kernel
theorem dX12_stop_30 : decode cX12_stop 30 = .ok (.iconst 1, 1) := by decide +kernel
theorem dX12_stop_31 : decode cX12_stop 31 = .ok (.if_icmp .ne 7, 3) := by decide +kernel
theorem dX12_stop_34 : decode cX12_stop 34 = .ok (.iconst 1, 1) := by decide +kernel
theorem dX12_stop_35 : decode cX12_stop 35 = .ok (.goto 4, 3) := by decide +kernel
theorem dX12_stop_38 : decode cX12_stop 38 = .ok (.iconst 0, 1) := by decide +kernel
theorem dX12_stop_39 : decode cX12_stop 39 = .ok (.iload_n 2, 1) := by decide +kernel
theorem dX12_stop_40 : decode cX12_stop 40 = .ok (.if_icmp .ne 5, 3) := by decide +kernel
theorem dX12_stop_43 : decode cX12_stop 43 = .ok (.iconst 0, 1) := by decide +kernel
theorem dX12_stop_44 : decode cX12_stop 44 = .ok (.ireturn, 1) := by decide +kernel
theorem dX12_stop_45 : decode cX12_stop 45 = .ok (.aload_n 0, 1) := by decide +kernel
theorem dX12_stop_46 : decode cX12_stop 46 = .ok (.getfield 13, 3) := by decide +kernel
theorem dX12_stop_49 : decode cX12_stop 49 = .ok (.sipush 1500, 3) := by decide +kernel
theorem dX12_stop_52 : decode cX12_stop 52 = .ok (.bipush 10, 2) := by decide +kernel
theorem dX12_stop_54 : decode cX12_stop 54 = .ok (.iload_n 1, 1) := by decide +kernel
theorem dX12_stop_55 : decode cX12_stop 55 = .ok (.imul, 1) := by decide +kernel
theorem dX12_stop_56 : decode cX12_stop 56 = .ok (.iadd, 1) := by decide +kernel
theorem dX12_stop_57 : decode cX12_stop 57 = .ok (.iconst 4, 1) := by decide +kernel
theorem dX12_stop_58 : decode cX12_stop 58 = .ok (.iadd, 1) := by decide +kernel
theorem dX12_stop_59 : decode cX12_stop 59 = .ok (.iload_n 2, 1) := by decide +kernel
theorem dX12_stop_60 : decode cX12_stop 60 = .ok (.ifCond .eq 7, 3) := by decide +kernel
theorem dX12_stop_63 : decode cX12_stop 63 = .ok (.iconst 1, 1) := by decide +kernel
theorem dX12_stop_64 : decode cX12_stop 64 = .ok (.goto 4, 3) := by decide +kernel
theorem dX12_stop_67 : decode cX12_stop 67 = .ok (.iconst 0, 1) := by decide +kernel
theorem dX12_stop_68 : decode cX12_stop 68 = .ok (.iastore, 1) := by decide +kernel
theorem dX12_stop_69 : decode cX12_stop 69 = .ok (.iconst 1, 1) := by decide +kernel
theorem dX12_stop_70 : decode cX12_stop 70 = .ok (.ireturn, 1) := by decide +kernel
theorem dX12_take_0 : decode cX12_take 0 = .ok (.aload_n 0, 1) := by decide +kernel
theorem dX12_take_1 : decode cX12_take 1 = .ok (.iconst 0, 1) := by decide +kernel
theorem dX12_take_2 : decode cX12_take 2 = .ok (.putfield 1, 3) := by decide +kernel
theorem dX12_take_5 : decode cX12_take 5 = .ok (.iload_n 1, 1) := by decide +kernel
theorem dX12_take_6 : decode cX12_take 6 = .ok (.i2l, 1) := by decide +kernel
theorem dX12_take_7 : decode cX12_take 7 = .ok (.lconst 1, 1) := by decide +kernel
theorem dX12_take_8 : decode cX12_take 8 = .ok (.ldc2_w 157, 3) := by decide +kernel
theorem dX12_take_11 : decode cX12_take 11 = .ok (.invokestatic 93, 3) := by decide +kernel
theorem dX12_take_14 : decode cX12_take 14 = .ok (.ifCond .eq 13, 3) := by decide +kernel
theorem dX12_take_17 : decode cX12_take 17 = .ok (.iload_n 2, 1) := by decide +kernel
theorem dX12_take_18 : decode cX12_take 18 = .ok (.i2l, 1) := by decide +kernel
theorem dX12_take_19 : decode cX12_take 19 = .ok (.lconst 0, 1) := by decide +kernel
theorem dX12_take_20 : decode cX12_take 20 = .ok (.lconst 1, 1) := by decide +kernel
theorem dX12_take_21 : decode cX12_take 21 = .ok (.invokestatic 93, 3) := by decide +kernel
theorem dX12_take_24 : decode cX12_take 24 = .ok (.ifCond .ne 5, 3) := by decide +kernel
theorem dX12_take_27 : decode cX12_take 27 = .ok (.iconst (-1), 1) := by decide +kernel
theorem dX12_take_28 : decode cX12_take 28 = .ok (.ireturn, 1) := by decide +kernel
theorem dX12_take_29 : decode cX12_take 29 = .ok (.aload_n 0, 1) := by decide +kernel
theorem dX12_take_30 : decode cX12_take 30 = .ok (.getfield 85, 3) := by decide +kernel
theorem dX12_take_33 : decode cX12_take 33 = .ok (.ifCond .ne 6, 3) := by decide +kernel
theorem dX12_take_36 : decode cX12_take 36 = .ok (.bipush (-3), 2) := by decide +kernel
theorem dX12_take_38 : decode cX12_take 38 = .ok (.ireturn, 1) := by decide +kernel
theorem dX12_take_39 : decode cX12_take 39 = .ok (.aload_n 0, 1) := by decide +kernel
theorem dX12_take_40 : decode cX12_take 40 = .ok (.bipush 15, 2) := by decide +kernel
theorem dX12_take_42 : decode cX12_take 42 = .ok (.invokevirtual 101, 3) := by decide +kernel
theorem dX12_take_45 : decode cX12_take 45 = .ok (.bipush 8, 2) := by decide +kernel
theorem dX12_take_47 : decode cX12_take 47 = .ok (.if_icmp .ne 6, 3) := by decide +kernel
theorem dX12_take_50 : decode cX12_take 50 = .ok (.bipush (-2), 2) := by decide +kernel
theorem dX12_take_52 : decode cX12_take 52 = .ok (.ireturn, 1) := by decide +kernel
theorem dX12_take_53 : decode cX12_take 53 = .ok (.aload_n 0, 1) := by decide +kernel
theorem dX12_take_54 : decode cX12_take 54 = .ok (.bipush 15, 2) := by decide +kernel
theorem dX12_take_56 : decode cX12_take 56 = .ok (.invokevirtual 101, 3) := by decide +kernel
theorem dX12_take_59 : decode cX12_take 59 = .ok (.istore_n 3, 1) := by decide +kernel
theorem dX12_take_60 : decode cX12_take 60 = .ok (.aload_n 0, 1) := by decide +kernel
theorem dX12_take_61 : decode cX12_take 61 = .ok (.getfield 13, 3) := by decide +kernel
theorem dX12_take_64 : decode cX12_take 64 = .ok (.sipush 4315, 3) := by decide +kernel
theorem dX12_take_67 : decode cX12_take 67 = .ok (.dup2, 1) := by decide +kernel
theorem dX12_take_68 : decode cX12_take 68 = .ok (.iaload, 1) := by decide +kernel
theorem dX12_take_69 : decode cX12_take 69 = .ok (.iconst 1, 1) := by decide +kernel
theorem dX12_take_70 : decode cX12_take 70 = .ok (.iadd, 1) := by decide +kernel
theorem dX12_take_71 : decode cX12_take 71 = .ok (.iastore, 1) := by decide +kernel
theorem dX12_take_72 : decode cX12_take 72 = .ok (.aload_n 0, 1) := by decide +kernel
theorem dX12_take_73 : decode cX12_take 73 = .ok (.getfield 13, 3) := by decide +kernel
theorem dX12_take_76 : decode cX12_take 76 = .ok (.sipush 3300, 3) := by decide +kernel
theorem dX12_take_79 : decode cX12_take 79 = .ok (.bipush 125, 2) := by decide +kernel
theorem dX12_take_81 : decode cX12_take 81 = .ok (.iload_n 3, 1) := by decide +kernel
theorem dX12_take_82 : decode cX12_take 82 = .ok (.imul, 1) := by decide +kernel
theorem dX12_take_83 : decode cX12_take 83 = .ok (.iadd, 1) := by decide +kernel
theorem dX12_take_84 : decode cX12_take 84 = .ok (.iconst 0, 1) := by decide +kernel
theorem dX12_take_85 : decode cX12_take 85 = .ok (.iadd, 1) := by decide +kernel
theorem dX12_take_86 : decode cX12_take 86 = .ok (.aload_n 0, 1) := by decide +kernel
theorem dX12_take_87 : decode cX12_take 87 = .ok (.getfield 85, 3) := by decide +kernel
theorem dX12_take_90 : decode cX12_take 90 = .ok (.iastore, 1) := by decide +kernel
theorem dX12_take_91 : decode cX12_take 91 = .ok (.aload_n 0, 1) := by decide +kernel
theorem dX12_take_92 : decode cX12_take 92 = .ok (.getfield 13, 3) := by decide +kernel
theorem dX12_take_95 : decode cX12_take 95 = .ok (.sipush 3300, 3) := by decide +kernel
theorem dX12_take_98 : decode cX12_take 98 = .ok (.bipush 125, 2) := by decide +kernel
theorem dX12_take_100 : decode cX12_take 100 = .ok (.iload_n 3, 1) := by decide +kernel
theorem dX12_take_101 : decode cX12_take 101 = .ok (.imul, 1) := by decide +kernel
theorem dX12_take_102 : decode cX12_take 102 = .ok (.iadd, 1) := by decide +kernel
theorem dX12_take_103 : decode cX12_take 103 = .ok (.iconst 1, 1) := by decide +kernel
theorem dX12_take_104 : decode cX12_take 104 = .ok (.iadd, 1) := by decide +kernel
theorem dX12_take_105 : decode cX12_take 105 = .ok (.iload_n 1, 1) := by decide +kernel
theorem dX12_take_106 : decode cX12_take 106 = .ok (.iastore, 1) := by decide +kernel
theorem dX12_take_107 : decode cX12_take 107 = .ok (.aload_n 0, 1) := by decide +kernel
theorem dX12_take_108 : decode cX12_take 108 = .ok (.getfield 13, 3) := by decide +kernel
theorem dX12_take_111 : decode cX12_take 111 = .ok (.sipush 3300, 3) := by decide +kernel
theorem dX12_take_114 : decode cX12_take 114 = .ok (.bipush 125, 2) := by decide +kernel
theorem dX12_take_116 : decode cX12_take 116 = .ok (.iload_n 3, 1) := by decide +kernel
theorem dX12_take_117 : decode cX12_take 117 = .ok (.imul, 1) := by decide +kernel
theorem dX12_take_118 : decode cX12_take 118 = .ok (.iadd, 1) := by decide +kernel
theorem dX12_take_119 : decode cX12_take 119 = .ok (.iconst 2, 1) := by decide +kernel
theorem dX12_take_120 : decode cX12_take 120 = .ok (.iadd, 1) := by decide +kernel
theorem dX12_take_121 : decode cX12_take 121 = .ok (.iload_n 2, 1) := by decide +kernel
theorem dX12_take_122 : decode cX12_take 122 = .ok (.iastore, 1) := by decide +kernel
theorem dX12_take_123 : decode cX12_take 123 = .ok (.aload_n 0, 1) := by decide +kernel
theorem dX12_take_124 : decode cX12_take 124 = .ok (.getfield 13, 3) := by decide +kernel
theorem dX12_take_127 : decode cX12_take 127 = .ok (.sipush 3300, 3) := by decide +kernel
theorem dX12_take_130 : decode cX12_take 130 = .ok (.bipush 125, 2) := by decide +kernel
theorem dX12_take_132 : decode cX12_take 132 = .ok (.iload_n 3, 1) := by decide +kernel
theorem dX12_take_133 : decode cX12_take 133 = .ok (.imul, 1) := by decide +kernel
theorem dX12_take_134 : decode cX12_take 134 = .ok (.iadd, 1) := by decide +kernel
theorem dX12_take_135 : decode cX12_take 135 = .ok (.iconst 3, 1) := by decide +kernel
theorem dX12_take_136 : decode cX12_take 136 = .ok (.iadd, 1) := by decide +kernel
theorem dX12_take_137 : decode cX12_take 137 = .ok (.iconst 0, 1) := by decide +kernel
theorem dX12_take_138 : decode cX12_take 138 = .ok (.iastore, 1) := by decide +kernel
theorem dX12_take_139 : decode cX12_take 139 = .ok (.iconst 0, 1) := by decide +kernel
theorem dX12_take_140 : decode cX12_take 140 = .ok (.istore 4, 2) := by decide +kernel
theorem dX12_take_142 : decode cX12_take 142 = .ok (.iload 4, 2) := by decide +kernel
theorem dX12_take_144 : decode cX12_take 144 = .ok (.aload_n 0, 1) := by decide +kernel
theorem dX12_take_145 : decode cX12_take 145 = .ok (.getfield 85, 3) := by decide +kernel
theorem dX12_take_148 : decode cX12_take 148 = .ok (.if_icmp .ge 96, 3) := by decide +kernel
theorem dX12_take_151 : decode cX12_take 151 = .ok (.aload_n 0, 1) := by decide +kernel
theorem dX12_take_152 : decode cX12_take 152 = .ok (.iload_n 3, 1) := by decide +kernel
theorem dX12_take_153 : decode cX12_take 153 = .ok (.iload 4, 2) := by decide +kernel
theorem dX12_take_155 : decode cX12_take 155 = .ok (.invokevirtual 185, 3) := by decide +kernel
theorem dX12_take_158 : decode cX12_take 158 = .ok (.istore 5, 2) := by decide +kernel
theorem dX12_take_160 : decode cX12_take 160 = .ok (.aload_n 0, 1) := by decide +kernel
theorem dX12_take_161 : decode cX12_take 161 = .ok (.getfield 13, 3) := by decide +kernel
theorem dX12_take_164 : decode cX12_take 164 = .ok (.iload 5, 2) := by decide +kernel
theorem dX12_take_166 : decode cX12_take 166 = .ok (.iconst 0, 1) := by decide +kernel
theorem dX12_take_167 : decode cX12_take 167 = .ok (.iadd, 1) := by decide +kernel
theorem dX12_take_168 : decode cX12_take 168 = .ok (.aload_n 0, 1) := by decide +kernel
theorem dX12_take_169 : decode cX12_take 169 = .ok (.getfield 20, 3) := by decide +kernel
theorem dX12_take_172 : decode cX12_take 172 = .ok (.iload 4, 2) := by decide +kernel
theorem dX12_take_174 : decode cX12_take 174 = .ok (.iaload, 1) := by decide +kernel
theorem dX12_take_175 : decode cX12_take 175 = .ok (.iastore, 1) := by decide +kernel
theorem dX12_take_176 : decode cX12_take 176 = .ok (.aload_n 0, 1) := by decide +kernel
theorem dX12_take_177 : decode cX12_take 177 = .ok (.getfield 13, 3) := by decide +kernel
theorem dX12_take_180 : decode cX12_take 180 = .ok (.iload 5, 2) := by decide +kernel
theorem dX12_take_182 : decode cX12_take 182 = .ok (.iconst 1, 1) := by decide +kernel
theorem dX12_take_183 : decode cX12_take 183 = .ok (.iadd, 1) := by decide +kernel
theorem dX12_take_184 : decode cX12_take 184 = .ok (.aload_n 0, 1) := by decide +kernel
theorem dX12_take_185 : decode cX12_take 185 = .ok (.getfield 179, 3) := by decide +kernel
theorem dX12_take_188 : decode cX12_take 188 = .ok (.aload_n 0, 1) := by decide +kernel
theorem dX12_take_189 : decode cX12_take 189 = .ok (.getfield 182, 3) := by decide +kernel
theorem dX12_take_192 : decode cX12_take 192 = .ok (.iload 4, 2) := by decide +kernel
theorem dX12_take_194 : decode cX12_take 194 = .ok (.imul, 1) := by decide +kernel
theorem dX12_take_195 : decode cX12_take 195 = .ok (.isub, 1) := by decide +kernel
theorem dX12_take_196 : decode cX12_take 196 = .ok (.iastore, 1) := by decide +kernel
theorem dX12_take_197 : decode cX12_take 197 = .ok (.aload_n 0, 1) := by decide +kernel
theorem dX12_take_198 : decode cX12_take 198 = .ok (.getfield 13, 3) := by decide +kernel
theorem dX12_take_201 : decode cX12_take 201 = .ok (.iload 5, 2) := by decide +kernel
theorem dX12_take_203 : decode cX12_take 203 = .ok (.iconst 2, 1) := by decide +kernel
theorem dX12_take_204 : decode cX12_take 204 = .ok (.iadd, 1) := by decide +kernel
theorem dX12_take_205 : decode cX12_take 205 = .ok (.iconst 0, 1) := by decide +kernel
theorem dX12_take_206 : decode cX12_take 206 = .ok (.iastore, 1) := by decide +kernel
theorem dX12_take_207 : decode cX12_take 207 = .ok (.aload_n 0, 1) := by decide +kernel
theorem dX12_take_208 : decode cX12_take 208 = .ok (.getfield 13, 3) := by decide +kernel
theorem dX12_take_211 : decode cX12_take 211 = .ok (.iload 5, 2) := by decide +kernel
theorem dX12_take_213 : decode cX12_take 213 = .ok (.iconst 3, 1) := by decide +kernel
theorem dX12_take_214 : decode cX12_take 214 = .ok (.iadd, 1) := by decide +kernel
theorem dX12_take_215 : decode cX12_take 215 = .ok (.bipush (-9), 2) := by decide +kernel
theorem dX12_take_217 : decode cX12_take 217 = .ok (.iastore, 1) := by decide +kernel
theorem dX12_take_218 : decode cX12_take 218 = .ok (.aload_n 0, 1) := by decide +kernel
theorem dX12_take_219 : decode cX12_take 219 = .ok (.getfield 13, 3) := by decide +kernel
theorem dX12_take_222 : decode cX12_take 222 = .ok (.iload 5, 2) := by decide +kernel
theorem dX12_take_224 : decode cX12_take 224 = .ok (.iconst 4, 1) := by decide +kernel
theorem dX12_take_225 : decode cX12_take 225 = .ok (.iadd, 1) := by decide +kernel
theorem dX12_take_226 : decode cX12_take 226 = .ok (.iconst 0, 1) := by decide +kernel
theorem dX12_take_227 : decode cX12_take 227 = .ok (.iastore, 1) := by decide +kernel
theorem dX12_take_228 : decode cX12_take 228 = .ok (.aload_n 0, 1) := by decide +kernel
theorem dX12_take_229 : decode cX12_take 229 = .ok (.getfield 13, 3) := by decide +kernel
theorem dX12_take_232 : decode cX12_take 232 = .ok (.iload 5, 2) := by decide +kernel
theorem dX12_take_234 : decode cX12_take 234 = .ok (.iconst 5, 1) := by decide +kernel
theorem dX12_take_235 : decode cX12_take 235 = .ok (.iadd, 1) := by decide +kernel
theorem dX12_take_236 : decode cX12_take 236 = .ok (.iconst 0, 1) := by decide +kernel
theorem dX12_take_237 : decode cX12_take 237 = .ok (.iastore, 1) := by decide +kernel
theorem dX12_take_238 : decode cX12_take 238 = .ok (.iinc 4 1, 3) := by decide +kernel
theorem dX12_take_241 : decode cX12_take 241 = .ok (.goto (-99), 3) := by decide +kernel
theorem dX12_take_244 : decode cX12_take 244 = .ok (.iload_n 3, 1) := by decide +kernel
theorem dX12_take_245 : decode cX12_take 245 = .ok (.ireturn, 1) := by decide +kernel
theorem dX12_tape_0 : decode cX12_tape 0 = .ok (.aload_n 0, 1) := by decide +kernel
theorem dX12_tape_1 : decode cX12_tape 1 = .ok (.iconst 0, 1) := by decide +kernel
theorem dX12_tape_2 : decode cX12_tape 2 = .ok (.putfield 1, 3) := by decide +kernel
theorem dX12_tape_5 : decode cX12_tape 5 = .ok (.iload_n 1, 1) := by decide +kernel
theorem dX12_tape_6 : decode cX12_tape 6 = .ok (.invokestatic 128, 3) := by decide +kernel
theorem dX12_tape_9 : decode cX12_tape 9 = .ok (.ifCond .eq 16, 3) := by decide +kernel
theorem dX12_tape_12 : decode cX12_tape 12 = .ok (.iload_n 2, 1) := by decide +kernel
theorem dX12_tape_13 : decode cX12_tape 13 = .ok (.invokestatic 361, 3) := by decide +kernel
theorem dX12_tape_16 : decode cX12_tape 16 = .ok (.ifCond .eq 9, 3) := by decide +kernel
theorem dX12_tape_19 : decode cX12_tape 19 = .ok (.iload_n 3, 1) := by decide +kernel
theorem dX12_tape_20 : decode cX12_tape 20 = .ok (.bipush 100, 2) := by decide +kernel
theorem dX12_tape_22 : decode cX12_tape 22 = .ok (.if_icmp .le 5, 3) := by decide +kernel
theorem dX12_tape_25 : decode cX12_tape 25 = .ok (.iconst (-1), 1) := by decide +kernel
theorem dX12_tape_26 : decode cX12_tape 26 = .ok (.ireturn, 1) := by decide +kernel
theorem dX12_tape_27 : decode cX12_tape 27 = .ok (.iload_n 3, 1) := by decide +kernel
theorem dX12_tape_28 : decode cX12_tape 28 = .ok (.ifCond .ge 10, 3) := by decide +kernel
theorem dX12_tape_31 : decode cX12_tape 31 = .ok (.aload_n 0, 1) := by decide +kernel
theorem dX12_tape_32 : decode cX12_tape 32 = .ok (.bipush (-14), 2) := by decide +kernel
theorem dX12_tape_34 : decode cX12_tape 34 = .ok (.invokevirtual 131, 3) := by decide +kernel
theorem dX12_tape_37 : decode cX12_tape 37 = .ok (.ireturn, 1) := by decide +kernel
theorem dX12_tape_38 : decode cX12_tape 38 = .ok (.aload_n 0, 1) := by decide +kernel
theorem dX12_tape_39 : decode cX12_tape 39 = .ok (.getfield 63, 3) := by decide +kernel
theorem dX12_tape_42 : decode cX12_tape 42 = .ok (.iload_n 1, 1) := by decide +kernel
theorem dX12_tape_43 : decode cX12_tape 43 = .ok (.iload_n 2, 1) := by decide +kernel
theorem dX12_tape_44 : decode cX12_tape 44 = .ok (.iastore, 1) := by decide +kernel
theorem dX12_tape_45 : decode cX12_tape 45 = .ok (.aload_n 0, 1) := by decide +kernel
theorem dX12_tape_46 : decode cX12_tape 46 = .ok (.getfield 66, 3) := by decide +kernel
theorem dX12_tape_49 : decode cX12_tape 49 = .ok (.iload_n 1, 1) := by decide +kernel
theorem dX12_tape_50 : decode cX12_tape 50 = .ok (.iload_n 3, 1) := by decide +kernel
theorem dX12_tape_51 : decode cX12_tape 51 = .ok (.iastore, 1) := by decide +kernel
theorem dX12_tape_52 : decode cX12_tape 52 = .ok (.iconst 0, 1) := by decide +kernel
theorem dX12_tape_53 : decode cX12_tape 53 = .ok (.istore 4, 2) := by decide +kernel
theorem dX12_tape_55 : decode cX12_tape 55 = .ok (.iload 4, 2) := by decide +kernel
theorem dX12_tape_57 : decode cX12_tape 57 = .ok (.bipush 100, 2) := by decide +kernel
theorem dX12_tape_59 : decode cX12_tape 59 = .ok (.if_icmp .ge 22, 3) := by decide +kernel
theorem dX12_tape_62 : decode cX12_tape 62 = .ok (.aload_n 0, 1) := by decide +kernel
theorem dX12_tape_63 : decode cX12_tape 63 = .ok (.getfield 69, 3) := by decide +kernel
theorem dX12_tape_66 : decode cX12_tape 66 = .ok (.bipush 100, 2) := by decide +kernel
theorem dX12_tape_68 : decode cX12_tape 68 = .ok (.iload_n 1, 1) := by decide +kernel
theorem dX12_tape_69 : decode cX12_tape 69 = .ok (.imul, 1) := by decide +kernel
theorem dX12_tape_70 : decode cX12_tape 70 = .ok (.iload 4, 2) := by decide +kernel
theorem dX12_tape_72 : decode cX12_tape 72 = .ok (.iadd, 1) := by decide +kernel
theorem dX12_tape_73 : decode cX12_tape 73 = .ok (.lconst 0, 1) := by decide +kernel
theorem dX12_tape_74 : decode cX12_tape 74 = .ok (.lastore, 1) := by decide +kernel
theorem dX12_tape_75 : decode cX12_tape 75 = .ok (.iinc 4 1, 3) := by decide +kernel
theorem dX12_tape_78 : decode cX12_tape 78 = .ok (.goto (-23), 3) := by decide +kernel
theorem dX12_tape_81 : decode cX12_tape 81 = .ok (.iload_n 3, 1) := by decide +kernel
theorem dX12_tape_82 : decode cX12_tape 82 = .ok (.ireturn, 1) := by decide +kernel
theorem dX12_thrown_0 : decode cX12_thrown 0 = .ok (.aload_n 0, 1) := by decide +kernel
theorem dX12_thrown_1 : decode cX12_thrown 1 = .ok (.getfield 1, 3) := by decide +kernel
theorem dX12_thrown_4 : decode cX12_thrown 4 = .ok (.ireturn, 1) := by decide +kernel
theorem dX12_tide_0 : decode cX12_tide 0 = .ok (.aload_n 0, 1) := by decide +kernel
theorem dX12_tide_1 : decode cX12_tide 1 = .ok (.iconst 0, 1) := by decide +kernel
theorem dX12_tide_2 : decode cX12_tide 2 = .ok (.putfield 1, 3) := by decide +kernel
theorem dX12_tide_5 : decode cX12_tide 5 = .ok (.iload_n 1, 1) := by decide +kernel
theorem dX12_tide_6 : decode cX12_tide 6 = .ok (.invokestatic 128, 3) := by decide +kernel
theorem dX12_tide_9 : decode cX12_tide 9 = .ok (.ifCond .ne 5, 3) := by decide +kernel
theorem dX12_tide_12 : decode cX12_tide 12 = .ok (.iconst (-1), 1) := by decide +kernel
theorem dX12_tide_13 : decode cX12_tide 13 = .ok (.ireturn, 1) := by decide +kernel
theorem dX12_tide_14 : decode cX12_tide 14 = .ok (.aload_n 0, 1) := by decide +kernel
theorem dX12_tide_15 : decode cX12_tide 15 = .ok (.getfield 63, 3) := by decide +kernel
theorem dX12_tide_18 : decode cX12_tide 18 = .ok (.iload_n 1, 1) := by decide +kernel
theorem dX12_tide_19 : decode cX12_tide 19 = .ok (.iaload, 1) := by decide +kernel
theorem dX12_tide_20 : decode cX12_tide 20 = .ok (.ifCond .ne 10, 3) := by decide +kernel
theorem dX12_tide_23 : decode cX12_tide 23 = .ok (.aload_n 0, 1) := by decide +kernel
theorem dX12_tide_24 : decode cX12_tide 24 = .ok (.bipush (-11), 2) := by decide +kernel
theorem dX12_tide_26 : decode cX12_tide 26 = .ok (.invokevirtual 131, 3) := by decide +kernel
theorem dX12_tide_29 : decode cX12_tide 29 = .ok (.ireturn, 1) := by decide +kernel
theorem dX12_tide_30 : decode cX12_tide 30 = .ok (.aload_n 0, 1) := by decide +kernel
theorem dX12_tide_31 : decode cX12_tide 31 = .ok (.getfield 63, 3) := by decide +kernel
theorem dX12_tide_34 : decode cX12_tide 34 = .ok (.iload_n 1, 1) := by decide +kernel
theorem dX12_tide_35 : decode cX12_tide 35 = .ok (.iaload, 1) := by decide +kernel
theorem dX12_tide_36 : decode cX12_tide 36 = .ok (.iconst 1, 1) := by decide +kernel
theorem dX12_tide_37 : decode cX12_tide 37 = .ok (.if_icmp .eq 10, 3) := by decide +kernel
theorem dX12_tide_40 : decode cX12_tide 40 = .ok (.aload_n 0, 1) := by decide +kernel
theorem dX12_tide_41 : decode cX12_tide 41 = .ok (.bipush (-12), 2) := by decide +kernel
theorem dX12_tide_43 : decode cX12_tide 43 = .ok (.invokevirtual 131, 3) := by decide +kernel
theorem dX12_tide_46 : decode cX12_tide 46 = .ok (.ireturn, 1) := by decide +kernel
theorem dX12_tide_47 : decode cX12_tide 47 = .ok (.aload_n 0, 1) := by decide +kernel
theorem dX12_tide_48 : decode cX12_tide 48 = .ok (.getfield 66, 3) := by decide +kernel
theorem dX12_tide_51 : decode cX12_tide 51 = .ok (.iload_n 1, 1) := by decide +kernel
theorem dX12_tide_52 : decode cX12_tide 52 = .ok (.iaload, 1) := by decide +kernel
theorem dX12_tide_53 : decode cX12_tide 53 = .ok (.i2l, 1) := by decide +kernel
theorem dX12_tide_54 : decode cX12_tide 54 = .ok (.lconst 1, 1) := by decide +kernel
theorem dX12_tide_55 : decode cX12_tide 55 = .ok (.ldc2_w 134, 3) := by decide +kernel
theorem dX12_tide_58 : decode cX12_tide 58 = .ok (.invokestatic 93, 3) := by decide +kernel
theorem dX12_tide_61 : decode cX12_tide 61 = .ok (.ifCond .ne 6, 3) := by decide +kernel
theorem dX12_tide_64 : decode cX12_tide 64 = .ok (.bipush (-2), 2) := by decide +kernel
theorem dX12_tide_66 : decode cX12_tide 66 = .ok (.ireturn, 1) := by decide +kernel
theorem dX12_tide_67 : decode cX12_tide 67 = .ok (.aload_n 0, 1) := by decide +kernel
theorem dX12_tide_68 : decode cX12_tide 68 = .ok (.aload_n 0, 1) := by decide +kernel
theorem dX12_tide_69 : decode cX12_tide 69 = .ok (.getfield 66, 3) := by decide +kernel
theorem dX12_tide_72 : decode cX12_tide 72 = .ok (.iload_n 1, 1) := by decide +kernel
theorem dX12_tide_73 : decode cX12_tide 73 = .ok (.iaload, 1) := by decide +kernel
theorem dX12_tide_74 : decode cX12_tide 74 = .ok (.putfield 82, 3) := by decide +kernel
theorem dX12_tide_77 : decode cX12_tide 77 = .ok (.iconst 0, 1) := by decide +kernel
theorem dX12_tide_78 : decode cX12_tide 78 = .ok (.istore_n 2, 1) := by decide +kernel
theorem dX12_tide_79 : decode cX12_tide 79 = .ok (.iload_n 2, 1) := by decide +kernel
theorem dX12_tide_80 : decode cX12_tide 80 = .ok (.aload_n 0, 1) := by decide +kernel
theorem dX12_tide_81 : decode cX12_tide 81 = .ok (.getfield 82, 3) := by decide +kernel
theorem dX12_tide_84 : decode cX12_tide 84 = .ok (.if_icmp .ge 27, 3) := by decide +kernel
theorem dX12_tide_87 : decode cX12_tide 87 = .ok (.aload_n 0, 1) := by decide +kernel
theorem dX12_tide_88 : decode cX12_tide 88 = .ok (.getfield 17, 3) := by decide +kernel
theorem dX12_tide_91 : decode cX12_tide 91 = .ok (.iload_n 2, 1) := by decide +kernel
theorem dX12_tide_92 : decode cX12_tide 92 = .ok (.aload_n 0, 1) := by decide +kernel
theorem dX12_tide_93 : decode cX12_tide 93 = .ok (.getfield 69, 3) := by decide +kernel
theorem dX12_tide_96 : decode cX12_tide 96 = .ok (.bipush 100, 2) := by decide +kernel
theorem dX12_tide_98 : decode cX12_tide 98 = .ok (.iload_n 1, 1) := by decide +kernel
theorem dX12_tide_99 : decode cX12_tide 99 = .ok (.imul, 1) := by decide +kernel
theorem dX12_tide_100 : decode cX12_tide 100 = .ok (.iload_n 2, 1) := by decide +kernel
theorem dX12_tide_101 : decode cX12_tide 101 = .ok (.iadd, 1) := by decide +kernel
theorem dX12_tide_102 : decode cX12_tide 102 = .ok (.laload, 1) := by decide +kernel
theorem dX12_tide_103 : decode cX12_tide 103 = .ok (.l2i, 1) := by decide +kernel
theorem dX12_tide_104 : decode cX12_tide 104 = .ok (.iastore, 1) := by decide +kernel
theorem dX12_tide_105 : decode cX12_tide 105 = .ok (.iinc 2 1, 3) := by decide +kernel
theorem dX12_tide_108 : decode cX12_tide 108 = .ok (.goto (-29), 3) := by decide +kernel
theorem dX12_tide_111 : decode cX12_tide 111 = .ok (.aload_n 0, 1) := by decide +kernel
theorem dX12_tide_112 : decode cX12_tide 112 = .ok (.getfield 82, 3) := by decide +kernel
theorem dX12_tide_115 : decode cX12_tide 115 = .ok (.ireturn, 1) := by decide +kernel
theorem dX12_toss_0 : decode cX12_toss 0 = .ok (.aload_n 0, 1) := by decide +kernel
theorem dX12_toss_1 : decode cX12_toss 1 = .ok (.iconst 0, 1) := by decide +kernel
theorem dX12_toss_2 : decode cX12_toss 2 = .ok (.putfield 1, 3) := by decide +kernel
theorem dX12_toss_5 : decode cX12_toss 5 = .ok (.iload_n 1, 1) := by decide +kernel
theorem dX12_toss_6 : decode cX12_toss 6 = .ok (.invokestatic 128, 3) := by decide +kernel
theorem dX12_toss_9 : decode cX12_toss 9 = .ok (.ifCond .ne 5, 3) := by decide +kernel
theorem dX12_toss_12 : decode cX12_toss 12 = .ok (.iconst (-1), 1) := by decide +kernel
theorem dX12_toss_13 : decode cX12_toss 13 = .ok (.ireturn, 1) := by decide +kernel
theorem dX12_toss_14 : decode cX12_toss 14 = .ok (.aload_n 0, 1) := by decide +kernel
theorem dX12_toss_15 : decode cX12_toss 15 = .ok (.getfield 63, 3) := by decide +kernel
theorem dX12_toss_18 : decode cX12_toss 18 = .ok (.iload_n 1, 1) := by decide +kernel
theorem dX12_toss_19 : decode cX12_toss 19 = .ok (.iaload, 1) := by decide +kernel
theorem dX12_toss_20 : decode cX12_toss 20 = .ok (.ifCond .ne 10, 3) := by decide +kernel
theorem dX12_toss_23 : decode cX12_toss 23 = .ok (.aload_n 0, 1) := by decide +kernel
theorem dX12_toss_24 : decode cX12_toss 24 = .ok (.bipush (-11), 2) := by decide +kernel
theorem dX12_toss_26 : decode cX12_toss 26 = .ok (.invokevirtual 131, 3) := by decide +kernel
theorem dX12_toss_29 : decode cX12_toss 29 = .ok (.ireturn, 1) := by decide +kernel
theorem dX12_toss_30 : decode cX12_toss 30 = .ok (.aload_n 0, 1) := by decide +kernel
theorem dX12_toss_31 : decode cX12_toss 31 = .ok (.getfield 63, 3) := by decide +kernel
theorem dX12_toss_34 : decode cX12_toss 34 = .ok (.iload_n 1, 1) := by decide +kernel
theorem dX12_toss_35 : decode cX12_toss 35 = .ok (.iaload, 1) := by decide +kernel
theorem dX12_toss_36 : decode cX12_toss 36 = .ok (.bipush 6, 2) := by decide +kernel
theorem dX12_toss_38 : decode cX12_toss 38 = .ok (.if_icmp .eq 10, 3) := by decide +kernel
theorem dX12_toss_41 : decode cX12_toss 41 = .ok (.aload_n 0, 1) := by decide +kernel
theorem dX12_toss_42 : decode cX12_toss 42 = .ok (.bipush (-12), 2) := by decide +kernel
theorem dX12_toss_44 : decode cX12_toss 44 = .ok (.invokevirtual 131, 3) := by decide +kernel
theorem dX12_toss_47 : decode cX12_toss 47 = .ok (.ireturn, 1) := by decide +kernel
theorem dX12_toss_48 : decode cX12_toss 48 = .ok (.iconst 0, 1) := by decide +kernel
theorem dX12_toss_49 : decode cX12_toss 49 = .ok (.istore_n 2, 1) := by decide +kernel
theorem dX12_toss_50 : decode cX12_toss 50 = .ok (.iconst 0, 1) := by decide +kernel
theorem dX12_toss_51 : decode cX12_toss 51 = .ok (.istore_n 3, 1) := by decide +kernel
theorem dX12_toss_52 : decode cX12_toss 52 = .ok (.iload_n 3, 1) := by decide +kernel
theorem dX12_toss_53 : decode cX12_toss 53 = .ok (.bipush 100, 2) := by decide +kernel
theorem dX12_toss_55 : decode cX12_toss 55 = .ok (.if_icmp .ge 38, 3) := by decide +kernel
theorem dX12_toss_58 : decode cX12_toss 58 = .ok (.iload_n 2, 1) := by decide +kernel
theorem dX12_toss_59 : decode cX12_toss 59 = .ok (.aload_n 0, 1) := by decide +kernel
theorem dX12_toss_60 : decode cX12_toss 60 = .ok (.getfield 73, 3) := by decide +kernel
theorem dX12_toss_63 : decode cX12_toss 63 = .ok (.sipush 4340, 3) := by decide +kernel
theorem dX12_toss_66 : decode cX12_toss 66 = .ok (.iload_n 1, 1) := by decide +kernel
theorem dX12_toss_67 : decode cX12_toss 67 = .ok (.imul, 1) := by decide +kernel
theorem dX12_toss_68 : decode cX12_toss 68 = .ok (.bipush 15, 2) := by decide +kernel
theorem dX12_toss_70 : decode cX12_toss 70 = .ok (.iload_n 3, 1) := by decide +kernel
theorem dX12_toss_71 : decode cX12_toss 71 = .ok (.imul, 1) := by decide +kernel
theorem dX12_toss_72 : decode cX12_toss 72 = .ok (.iadd, 1) := by decide +kernel
theorem dX12_toss_73 : decode cX12_toss 73 = .ok (.bipush 11, 2) := by decide +kernel
theorem dX12_toss_75 : decode cX12_toss 75 = .ok (.iadd, 1) := by decide +kernel
theorem dX12_toss_76 : decode cX12_toss 76 = .ok (.iaload, 1) := by decide +kernel
theorem dX12_toss_77 : decode cX12_toss 77 = .ok (.ifCond .le 7, 3) := by decide +kernel
theorem dX12_toss_80 : decode cX12_toss 80 = .ok (.iconst 1, 1) := by decide +kernel
theorem dX12_toss_81 : decode cX12_toss 81 = .ok (.goto 4, 3) := by decide +kernel
theorem dX12_toss_84 : decode cX12_toss 84 = .ok (.iconst 0, 1) := by decide +kernel
theorem dX12_toss_85 : decode cX12_toss 85 = .ok (.iadd, 1) := by decide +kernel
theorem dX12_toss_86 : decode cX12_toss 86 = .ok (.istore_n 2, 1) := by decide +kernel
theorem dX12_toss_87 : decode cX12_toss 87 = .ok (.iinc 3 1, 3) := by decide +kernel
theorem dX12_toss_90 : decode cX12_toss 90 = .ok (.goto (-38), 3) := by decide +kernel
theorem dX12_toss_93 : decode cX12_toss 93 = .ok (.iload_n 2, 1) := by decide +kernel
theorem dX12_toss_94 : decode cX12_toss 94 = .ok (.ifCond .ne 12, 3) := by decide +kernel
theorem dX12_toss_97 : decode cX12_toss 97 = .ok (.aload_n 0, 1) := by decide +kernel
theorem dX12_toss_98 : decode cX12_toss 98 = .ok (.bipush (-15), 2) := by decide +kernel
theorem dX12_toss_100 : decode cX12_toss 100 = .ok (.invokevirtual 131, 3) := by decide +kernel
theorem dX12_toss_103 : decode cX12_toss 103 = .ok (.goto 4, 3) := by decide +kernel
theorem dX12_toss_106 : decode cX12_toss 106 = .ok (.iload_n 2, 1) := by decide +kernel
theorem dX12_toss_107 : decode cX12_toss 107 = .ok (.ireturn, 1) := by decide +kernel
theorem dX12_way_0 : decode cX12_way 0 = .ok (.aload_n 0, 1) := by decide +kernel
theorem dX12_way_1 : decode cX12_way 1 = .ok (.iconst 0, 1) := by decide +kernel
theorem dX12_way_2 : decode cX12_way 2 = .ok (.putfield 1, 3) := by decide +kernel
theorem dX12_way_5 : decode cX12_way 5 = .ok (.iload_n 1, 1) := by decide +kernel
theorem dX12_way_6 : decode cX12_way 6 = .ok (.i2l, 1) := by decide +kernel
theorem dX12_way_7 : decode cX12_way 7 = .ok (.lconst 0, 1) := by decide +kernel
theorem dX12_way_8 : decode cX12_way 8 = .ok (.aload_n 0, 1) := by decide +kernel
theorem dX12_way_9 : decode cX12_way 9 = .ok (.getfield 85, 3) := by decide +kernel
theorem dX12_way_12 : decode cX12_way 12 = .ok (.iconst 1, 1) := by decide +kernel
theorem dX12_way_13 : decode cX12_way 13 = .ok (.isub, 1) := by decide +kernel
theorem dX12_way_14 : decode cX12_way 14 = .ok (.i2l, 1) := by decide +kernel
theorem dX12_way_15 : decode cX12_way 15 = .ok (.invokestatic 93, 3) := by decide +kernel
theorem dX12_way_18 : decode cX12_way 18 = .ok (.ifCond .eq 12, 3) := by decide +kernel
theorem dX12_way_21 : decode cX12_way 21 = .ok (.aload_n 0, 1) := by decide +kernel
theorem dX12_way_22 : decode cX12_way 22 = .ok (.getfield 20, 3) := by decide +kernel
theorem dX12_way_25 : decode cX12_way 25 = .ok (.iload_n 1, 1) := by decide +kernel
theorem dX12_way_26 : decode cX12_way 26 = .ok (.iaload, 1) := by decide +kernel
theorem dX12_way_27 : decode cX12_way 27 = .ok (.goto 5, 3) := by decide +kernel
theorem dX12_way_30 : decode cX12_way 30 = .ok (.bipush (-9), 2) := by decide +kernel
theorem dX12_way_32 : decode cX12_way 32 = .ok (.ireturn, 1) := by decide +kernel
theorem dX12_window_0 : decode cX12_window 0 = .ok (.aload_n 0, 1) := by decide +kernel
theorem dX12_window_1 : decode cX12_window 1 = .ok (.iconst 0, 1) := by decide +kernel
theorem dX12_window_2 : decode cX12_window 2 = .ok (.putfield 1, 3) := by decide +kernel
theorem dX12_window_5 : decode cX12_window 5 = .ok (.iload_n 1, 1) := by decide +kernel
theorem dX12_window_6 : decode cX12_window 6 = .ok (.i2l, 1) := by decide +kernel
theorem dX12_window_7 : decode cX12_window 7 = .ok (.lconst 0, 1) := by decide +kernel
theorem dX12_window_8 : decode cX12_window 8 = .ok (.ldc2_w 141, 3) := by decide +kernel
theorem dX12_window_11 : decode cX12_window 11 = .ok (.invokestatic 93, 3) := by decide +kernel
theorem dX12_window_14 : decode cX12_window 14 = .ok (.ifCond .eq 17, 3) := by decide +kernel
theorem dX12_window_17 : decode cX12_window 17 = .ok (.iload_n 2, 1) := by decide +kernel
theorem dX12_window_18 : decode cX12_window 18 = .ok (.i2l, 1) := by decide +kernel
theorem dX12_window_19 : decode cX12_window 19 = .ok (.ldc2_w 146, 3) := by decide +kernel
theorem dX12_window_22 : decode cX12_window 22 = .ok (.ldc2_w 148, 3) := by decide +kernel
theorem dX12_window_25 : decode cX12_window 25 = .ok (.invokestatic 93, 3) := by decide +kernel
theorem dX12_window_28 : decode cX12_window 28 = .ok (.ifCond .ne 5, 3) := by decide +kernel
theorem dX12_window_31 : decode cX12_window 31 = .ok (.iconst (-1), 1) := by decide +kernel
theorem dX12_window_32 : decode cX12_window 32 = .ok (.ireturn, 1) := by decide +kernel
theorem dX12_window_33 : decode cX12_window 33 = .ok (.iload_n 1, 1) := by decide +kernel
theorem dX12_window_34 : decode cX12_window 34 = .ok (.istore_n 3, 1) := by decide +kernel
theorem dX12_window_35 : decode cX12_window 35 = .ok (.iload_n 3, 1) := by decide +kernel
theorem dX12_window_36 : decode cX12_window 36 = .ok (.iload_n 1, 1) := by decide +kernel
theorem dX12_window_37 : decode cX12_window 37 = .ok (.bipush 100, 2) := by decide +kernel
theorem dX12_window_39 : decode cX12_window 39 = .ok (.iadd, 1) := by decide +kernel
theorem dX12_window_40 : decode cX12_window 40 = .ok (.if_icmp .ge 28, 3) := by decide +kernel
theorem dX12_window_43 : decode cX12_window 43 = .ok (.aload_n 0, 1) := by decide +kernel
theorem dX12_window_44 : decode cX12_window 44 = .ok (.iload_n 3, 1) := by decide +kernel
theorem dX12_window_45 : decode cX12_window 45 = .ok (.invokevirtual 138, 3) := by decide +kernel
theorem dX12_window_48 : decode cX12_window 48 = .ok (.iload_n 2, 1) := by decide +kernel
theorem dX12_window_49 : decode cX12_window 49 = .ok (.if_icmp .ge 13, 3) := by decide +kernel
theorem dX12_window_52 : decode cX12_window 52 = .ok (.aload_n 0, 1) := by decide +kernel
theorem dX12_window_53 : decode cX12_window 53 = .ok (.iload_n 3, 1) := by decide +kernel
theorem dX12_window_54 : decode cX12_window 54 = .ok (.invokevirtual 143, 3) := by decide +kernel
theorem dX12_window_57 : decode cX12_window 57 = .ok (.ifCond .ne 5, 3) := by decide +kernel
theorem dX12_window_60 : decode cX12_window 60 = .ok (.iload_n 3, 1) := by decide +kernel
theorem dX12_window_61 : decode cX12_window 61 = .ok (.ireturn, 1) := by decide +kernel
theorem dX12_window_62 : decode cX12_window 62 = .ok (.iinc 3 1, 3) := by decide +kernel
theorem dX12_window_65 : decode cX12_window 65 = .ok (.goto (-30), 3) := by decide +kernel
theorem dX12_window_68 : decode cX12_window 68 = .ok (.bipush (-3), 2) := by decide +kernel
theorem dX12_window_70 : decode cX12_window 70 = .ok (.ireturn, 1) := by decide +kernel
set_option maxHeartbeats 4000000 in
set_option maxRecDepth 100000 in
theorem xX12_route_334 {K : KT} {r : Int32 × Wd} (G : GK K cX12_route RX12 11 3) (M : Main K.ks) (k321 : Int32 → Int32 → Int32 → Int32 → Int32 → Int32 → Int32 → Wd → Option (Int32 × Wd)) (hk321 : ∀ (v1 : Int32) (v2 : Int32) (v3 : Int32) (v4 : Int32) (v5 : Int32) (v6 : Int32) (v7 : Int32) (w : Wd), k321 v1 v2 v3 v4 v5 v6 v7 w = some r → XW K 321 [some (.ref 148), some (.int v1), some (.int v2), some (.int v3), some (.int v4), some (.int v5), some (.int v6), some (.int v7), none, none, none] [] w) (hr : RI K .int r.1 r.2) : ∀ (n : Nat) (v1 : Int32) (v2 : Int32) (v3 : Int32) (v4 : Int32) (v5 : Int32) (v6 : Int32) (v7 : Int32) (v8 : Int32) (v9 : Int32) (w : Wd), fX12_route_334 k321 n v1 v2 v3 v4 v5 v6 v7 v8 v9 w = some r → XW K 334 [some (.ref 148), some (.int v1), some (.int v2), some (.int v3), some (.int v4), some (.int v5), some (.int v6), some (.int v7), some (.int v8), some (.int v9), none] [] w := by
  intro n
  induction n with
  | zero =>
    intro v1 v2 v3 v4 v5 v6 v7 v8 v9 w hf
    unfold fX12_route_334 at hf
    cases hf
  | succ n ih =>
    intro v1 v2 v3 v4 v5 v6 v7 v8 v9 w hf
    unfold fX12_route_334 at hf
    refine x_iload G dX12_route_334 rfl ?_
    refine x_iflt G (tgt := 423) dX12_route_336 (by decide) hf (fun c_1 hf => ?_) (fun c_1 hf => ?_)
    · refine x_iload G dX12_route_423 rfl ?_
      refine x_istore G (lv' := [some (.ref 148), some (.int v1), some (.int v2), some (.int v3), some (.int v4), some (.int v5), some (.int v8), some (.int v7), some (.int v8), some (.int v9), none]) dX12_route_425 rfl rfl rfl ?_
      refine x_aload_n G dX12_route_427 rfl rfl ?_
      refine x_getR G (kd148 M) 5 (b := 151) rfl cl12 rfl wf_X12_20 dX12_route_428 ?_
      refine x_iload G dX12_route_431 rfl ?_
      refine x_iload G dX12_route_433 rfl ?_
      refine x_iast G (kd151 M) dX12_route_435 hf (fun hb_2 hf => ?_)
      refine nwr hf (fun w_3 hf => ?_)
      refine x_iinc G (lv' := [some (.ref 148), some (.int v1), some (.int v2), some (.int v3), some (.int v4), some (.int v5), some (.int v8), some (.int (v7 + (1 : Int32))), some (.int v8), some (.int v9), none]) (v := 1) dX12_route_436 rfl (by decide) rfl rfl rfl ?_
      refine x_goto G (tgt := 321) dX12_route_439 (by decide) ?_
      exact XW.sub (lv' := [some (.ref 148), some (.int v1), some (.int v2), some (.int v3), some (.int v4), some (.int v5), some (.int v8), some (.int (v7 + (1 : Int32))), none, none, none]) (And.intro rfl (And.intro rfl (And.intro rfl (And.intro rfl (And.intro rfl (And.intro rfl (And.intro rfl (And.intro rfl trivial)))))))) (hk321 _ _ _ _ _ _ _ _ hf)
    · refine x_iload G dX12_route_339 rfl ?_
      refine x_iload G dX12_route_341 rfl ?_
      obtain ⟨v_4, hv_4, hf⟩ := bnd hf
      refine x_staI G (As := [.int v6, .int v9]) (mX12_beside G.2.2.2.2.2.2.1 M hv_4) ms_X12_173 rfl rfl rfl rfl rfl dX12_route_343 ?_
      refine x_istore G (lv' := [some (.ref 148), some (.int v1), some (.int v2), some (.int v3), some (.int v4), some (.int v5), some (.int v6), some (.int v7), some (.int v8), some (.int v9), some (.int v_4)]) dX12_route_346 rfl rfl rfl ?_
      refine x_iload G dX12_route_348 rfl ?_
      refine x_iconst G (v := -1) dX12_route_350 (by decide) ?_
      refine x_icmpeq G (tgt := 417) dX12_route_351 (by decide) hf (fun c_5 hf => ?_) (fun c_5 hf => ?_)
      · refine x_iinc G (lv' := [some (.ref 148), some (.int v1), some (.int v2), some (.int v3), some (.int v4), some (.int v5), some (.int v6), some (.int v7), some (.int v8), some (.int (v9 + (-1 : Int32))), some (.int v_4)]) (v := -1) dX12_route_417 rfl (by decide) rfl rfl rfl ?_
        refine x_goto G (tgt := 334) dX12_route_420 (by decide) ?_
        exact XW.sub (lv' := [some (.ref 148), some (.int v1), some (.int v2), some (.int v3), some (.int v4), some (.int v5), some (.int v6), some (.int v7), some (.int v8), some (.int (v9 + (-1 : Int32))), none]) (And.intro rfl (And.intro rfl (And.intro rfl (And.intro rfl (And.intro rfl (And.intro rfl (And.intro rfl (And.intro rfl (And.intro rfl (And.intro rfl trivial)))))))))) (ih _ _ _ _ _ _ _ _ _ _ hf)
      · refine x_iload G dX12_route_354 rfl ?_
        refine x_iload_n G dX12_route_356 rfl rfl ?_
        obtain ⟨v_6, hv_6, hf⟩ := bnd hf
        refine x_staI G (As := [.int v_4, .int v2]) (mX12_near G.2.2.2.2.2.2.1 M hv_6) ms_X12_150 rfl rfl rfl rfl rfl dX12_route_357 ?_
        refine x_iload G dX12_route_360 rfl ?_
        refine x_iload G dX12_route_362 rfl ?_
        refine x_isub G dX12_route_364 ?_
        refine x_icmpne G (tgt := 417) dX12_route_365 (by decide) hf (fun c_7 hf => ?_) (fun c_7 hf => ?_)
        · refine x_aload_n G dX12_route_368 rfl rfl ?_
          refine x_getR G (kd148 M) 9 (b := 152) rfl cl12 rfl wf_X12_23 dX12_route_369 ?_
          refine x_iload G dX12_route_372 rfl ?_
          refine x_iald G (kd152 M) dX12_route_374 hf (fun hb_8 hf => ?_)
          refine x_ldc G wc_X12_172 dX12_route_375 ?_
          refine x_icmpge G (tgt := 417) dX12_route_377 (by decide) hf (fun c_9 hf => ?_) (fun c_9 hf => ?_)
          · refine x_aload_n G dX12_route_380 rfl rfl ?_
            refine x_getR G (kd148 M) 9 (b := 152) rfl cl12 rfl wf_X12_23 dX12_route_381 ?_
            refine x_iload G dX12_route_384 rfl ?_
            refine x_iald0 G (kd152 M) dX12_route_386 hb_8 ?_
            refine x_aload_n G dX12_route_387 rfl rfl ?_
            refine x_iload G dX12_route_388 rfl ?_
            refine x_iload_n G dX12_route_390 rfl rfl ?_
            refine x_iload G dX12_route_391 rfl ?_
            refine x_iload G dX12_route_393 rfl ?_
            refine x_iconst G (v := 1) dX12_route_395 (by decide) ?_
            refine x_isub G dX12_route_396 ?_
            refine x_imul G dX12_route_397 ?_
            refine x_isub G dX12_route_398 ?_
            obtain ⟨v_10, hv_10, hf⟩ := bnd hf
            refine x_virI G (As := [.int v6, .int (v3 - (v4 * (v7 - (1 : Int32))))]) (mX12_digOf G.2.2.2.2.2.2.1 M hv_10) mv_X12_176 (kd148 M) cl12 rfl rfl rfl rfl rfl dX12_route_399 ?_
            refine x_iadd G dX12_route_402 ?_
            refine x_aload_n G dX12_route_403 rfl rfl ?_
            refine x_getR G (kd148 M) 9 (b := 152) rfl cl12 rfl wf_X12_23 dX12_route_404 ?_
            refine x_iload G dX12_route_407 rfl ?_
            refine x_iald G (kd152 M) dX12_route_409 hf (fun hb_11 hf => ?_)
            refine x_icmpne G (tgt := 417) dX12_route_410 (by decide) hf (fun c_12 hf => ?_) (fun c_12 hf => ?_)
            · refine x_iload G dX12_route_413 rfl ?_
              refine x_istore G (lv' := [some (.ref 148), some (.int v1), some (.int v2), some (.int v3), some (.int v4), some (.int v5), some (.int v6), some (.int v7), some (.int v_4), some (.int v9), some (.int v_4)]) dX12_route_415 rfl rfl rfl ?_
              refine x_iinc G (lv' := [some (.ref 148), some (.int v1), some (.int v2), some (.int v3), some (.int v4), some (.int v5), some (.int v6), some (.int v7), some (.int v_4), some (.int (v9 + (-1 : Int32))), some (.int v_4)]) (v := -1) dX12_route_417 rfl (by decide) rfl rfl rfl ?_
              refine x_goto G (tgt := 334) dX12_route_420 (by decide) ?_
              exact XW.sub (lv' := [some (.ref 148), some (.int v1), some (.int v2), some (.int v3), some (.int v4), some (.int v5), some (.int v6), some (.int v7), some (.int v_4), some (.int (v9 + (-1 : Int32))), none]) (And.intro rfl (And.intro rfl (And.intro rfl (And.intro rfl (And.intro rfl (And.intro rfl (And.intro rfl (And.intro rfl (And.intro rfl (And.intro rfl trivial)))))))))) (ih _ _ _ _ _ _ _ _ _ _ hf)
            · refine x_iinc G (lv' := [some (.ref 148), some (.int v1), some (.int v2), some (.int v3), some (.int v4), some (.int v5), some (.int v6), some (.int v7), some (.int v8), some (.int (v9 + (-1 : Int32))), some (.int v_4)]) (v := -1) dX12_route_417 rfl (by decide) rfl rfl rfl ?_
              refine x_goto G (tgt := 334) dX12_route_420 (by decide) ?_
              exact XW.sub (lv' := [some (.ref 148), some (.int v1), some (.int v2), some (.int v3), some (.int v4), some (.int v5), some (.int v6), some (.int v7), some (.int v8), some (.int (v9 + (-1 : Int32))), none]) (And.intro rfl (And.intro rfl (And.intro rfl (And.intro rfl (And.intro rfl (And.intro rfl (And.intro rfl (And.intro rfl (And.intro rfl (And.intro rfl trivial)))))))))) (ih _ _ _ _ _ _ _ _ _ _ hf)
          · refine x_iinc G (lv' := [some (.ref 148), some (.int v1), some (.int v2), some (.int v3), some (.int v4), some (.int v5), some (.int v6), some (.int v7), some (.int v8), some (.int (v9 + (-1 : Int32))), some (.int v_4)]) (v := -1) dX12_route_417 rfl (by decide) rfl rfl rfl ?_
            refine x_goto G (tgt := 334) dX12_route_420 (by decide) ?_
            exact XW.sub (lv' := [some (.ref 148), some (.int v1), some (.int v2), some (.int v3), some (.int v4), some (.int v5), some (.int v6), some (.int v7), some (.int v8), some (.int (v9 + (-1 : Int32))), none]) (And.intro rfl (And.intro rfl (And.intro rfl (And.intro rfl (And.intro rfl (And.intro rfl (And.intro rfl (And.intro rfl (And.intro rfl (And.intro rfl trivial)))))))))) (ih _ _ _ _ _ _ _ _ _ _ hf)
        · refine x_iinc G (lv' := [some (.ref 148), some (.int v1), some (.int v2), some (.int v3), some (.int v4), some (.int v5), some (.int v6), some (.int v7), some (.int v8), some (.int (v9 + (-1 : Int32))), some (.int v_4)]) (v := -1) dX12_route_417 rfl (by decide) rfl rfl rfl ?_
          refine x_goto G (tgt := 334) dX12_route_420 (by decide) ?_
          exact XW.sub (lv' := [some (.ref 148), some (.int v1), some (.int v2), some (.int v3), some (.int v4), some (.int v5), some (.int v6), some (.int v7), some (.int v8), some (.int (v9 + (-1 : Int32))), none]) (And.intro rfl (And.intro rfl (And.intro rfl (And.intro rfl (And.intro rfl (And.intro rfl (And.intro rfl (And.intro rfl (And.intro rfl (And.intro rfl trivial)))))))))) (ih _ _ _ _ _ _ _ _ _ _ hf)

set_option maxHeartbeats 4000000 in
set_option maxRecDepth 100000 in
theorem xX12_route_321 {K : KT} {r : Int32 × Wd} (G : GK K cX12_route RX12 11 3) (M : Main K.ks) (hr : RI K .int r.1 r.2) : ∀ (n : Nat) (v1 : Int32) (v2 : Int32) (v3 : Int32) (v4 : Int32) (v5 : Int32) (v6 : Int32) (v7 : Int32) (w : Wd), fX12_route_321 n v1 v2 v3 v4 v5 v6 v7 w = some r → XW K 321 [some (.ref 148), some (.int v1), some (.int v2), some (.int v3), some (.int v4), some (.int v5), some (.int v6), some (.int v7), none, none, none] [] w := by
  intro n
  induction n with
  | zero =>
    intro v1 v2 v3 v4 v5 v6 v7 w hf
    unfold fX12_route_321 at hf
    cases hf
  | succ n ih =>
    intro v1 v2 v3 v4 v5 v6 v7 w hf
    unfold fX12_route_321 at hf
    refine x_iload G dX12_route_321 rfl ?_
    refine x_iload G dX12_route_323 rfl ?_
    refine x_icmpgt G (tgt := 442) dX12_route_325 (by decide) hf (fun c_1 hf => ?_) (fun c_1 hf => ?_)
    · refine x_aload_n G dX12_route_442 rfl rfl ?_
      refine x_getR G (kd148 M) 9 (b := 152) rfl cl12 rfl wf_X12_23 dX12_route_443 ?_
      refine x_iload_n G dX12_route_446 rfl rfl ?_
      refine x_iald G (kd152 M) dX12_route_447 hf (fun hb_2 hf => ?_)
      exact x_iretW G hf hr dX12_route_448
    · refine x_iconst G (v := -1) dX12_route_328 (by decide) ?_
      refine x_istore G (lv' := [some (.ref 148), some (.int v1), some (.int v2), some (.int v3), some (.int v4), some (.int v5), some (.int v6), some (.int v7), some (.int (-1 : Int32)), none, none]) dX12_route_329 rfl rfl rfl ?_
      refine x_iconst G (v := 3) dX12_route_331 (by decide) ?_
      refine x_istore G (lv' := [some (.ref 148), some (.int v1), some (.int v2), some (.int v3), some (.int v4), some (.int v5), some (.int v6), some (.int v7), some (.int (-1 : Int32)), some (.int (3 : Int32)), none]) dX12_route_332 rfl rfl rfl ?_
      exact XW.sub (lv' := [some (.ref 148), some (.int v1), some (.int v2), some (.int v3), some (.int v4), some (.int v5), some (.int v6), some (.int v7), some (.int (-1 : Int32)), some (.int (3 : Int32)), none]) (And.intro rfl (And.intro rfl (And.intro rfl (And.intro rfl (And.intro rfl (And.intro rfl (And.intro rfl (And.intro rfl (And.intro rfl (And.intro rfl trivial)))))))))) (xX12_route_334 G M (fX12_route_321 n) ih hr FU _ _ _ _ _ _ _ _ _ _ hf)

set_option maxHeartbeats 4000000 in
set_option maxRecDepth 100000 in
theorem xX12_route_164 {K : KT} {r : Int32 × Wd} (G : GK K cX12_route RX12 11 3) (M : Main K.ks) (k74 : Int32 → Int32 → Int32 → Int32 → Int32 → Int32 → Wd → Option (Int32 × Wd)) (hk74 : ∀ (v1 : Int32) (v2 : Int32) (v3 : Int32) (v4 : Int32) (v5 : Int32) (v6 : Int32) (w : Wd), k74 v1 v2 v3 v4 v5 v6 w = some r → XW K 74 [some (.ref 148), some (.int v1), some (.int v2), some (.int v3), some (.int v4), some (.int v5), some (.int v6), none, none, none, none] [] w) (k84 : Int32 → Int32 → Int32 → Int32 → Int32 → Int32 → Int32 → Wd → Option (Int32 × Wd)) (hk84 : ∀ (v1 : Int32) (v2 : Int32) (v3 : Int32) (v4 : Int32) (v5 : Int32) (v6 : Int32) (v7 : Int32) (w : Wd), k84 v1 v2 v3 v4 v5 v6 v7 w = some r → XW K 84 [some (.ref 148), some (.int v1), some (.int v2), some (.int v3), some (.int v4), some (.int v5), some (.int v6), some (.int v7), none, none, none] [] w) (hr : RI K .int r.1 r.2) : ∀ (n : Nat) (v1 : Int32) (v2 : Int32) (v3 : Int32) (v4 : Int32) (v5 : Int32) (v6 : Int32) (v7 : Int32) (v8 : Int32) (v9 : Int32) (w : Wd), fX12_route_164 k74 k84 n v1 v2 v3 v4 v5 v6 v7 v8 v9 w = some r → XW K 164 [some (.ref 148), some (.int v1), some (.int v2), some (.int v3), some (.int v4), some (.int v5), some (.int v6), some (.int v7), some (.int v8), some (.int v9), none] [] w := by
  intro n
  induction n with
  | zero =>
    intro v1 v2 v3 v4 v5 v6 v7 v8 v9 w hf
    unfold fX12_route_164 at hf
    cases hf
  | succ n ih =>
    intro v1 v2 v3 v4 v5 v6 v7 v8 v9 w hf
    unfold fX12_route_164 at hf
    refine x_iload G dX12_route_164 rfl ?_
    refine x_iconst G (v := 4) dX12_route_166 (by decide) ?_
    refine x_icmpge G (tgt := 230) dX12_route_167 (by decide) hf (fun c_1 hf => ?_) (fun c_1 hf => ?_)
    · refine x_iload G dX12_route_170 rfl ?_
      refine x_iload G dX12_route_172 rfl ?_
      obtain ⟨v_2, hv_2, hf⟩ := bnd hf
      refine x_staI G (As := [.int v7, .int v9]) (mX12_beside G.2.2.2.2.2.2.1 M hv_2) ms_X12_173 rfl rfl rfl rfl rfl dX12_route_174 ?_
      refine x_istore G (lv' := [some (.ref 148), some (.int v1), some (.int v2), some (.int v3), some (.int v4), some (.int v5), some (.int v6), some (.int v7), some (.int v8), some (.int v9), some (.int v_2)]) dX12_route_177 rfl rfl rfl ?_
      refine x_iload G dX12_route_179 rfl ?_
      refine x_iconst G (v := -1) dX12_route_181 (by decide) ?_
      refine x_icmpeq G (tgt := 224) dX12_route_182 (by decide) hf (fun c_3 hf => ?_) (fun c_3 hf => ?_)
      · refine x_iinc G (lv' := [some (.ref 148), some (.int v1), some (.int v2), some (.int v3), some (.int v4), some (.int v5), some (.int v6), some (.int v7), some (.int v8), some (.int (v9 + (1 : Int32))), some (.int v_2)]) (v := 1) dX12_route_224 rfl (by decide) rfl rfl rfl ?_
        refine x_goto G (tgt := 164) dX12_route_227 (by decide) ?_
        exact XW.sub (lv' := [some (.ref 148), some (.int v1), some (.int v2), some (.int v3), some (.int v4), some (.int v5), some (.int v6), some (.int v7), some (.int v8), some (.int (v9 + (1 : Int32))), none]) (And.intro rfl (And.intro rfl (And.intro rfl (And.intro rfl (And.intro rfl (And.intro rfl (And.intro rfl (And.intro rfl (And.intro rfl (And.intro rfl trivial)))))))))) (ih _ _ _ _ _ _ _ _ _ _ hf)
      · refine x_iload G dX12_route_185 rfl ?_
        refine x_ifle G (tgt := 224) dX12_route_187 (by decide) hf (fun c_4 hf => ?_) (fun c_4 hf => ?_)
        · refine x_iload G dX12_route_190 rfl ?_
          refine x_iload_n G dX12_route_192 rfl rfl ?_
          obtain ⟨v_5, hv_5, hf⟩ := bnd hf
          refine x_staI G (As := [.int v_2, .int v2]) (mX12_near G.2.2.2.2.2.2.1 M hv_5) ms_X12_150 rfl rfl rfl rfl rfl dX12_route_193 ?_
          refine x_iload G dX12_route_196 rfl ?_
          refine x_iconst G (v := 1) dX12_route_198 (by decide) ?_
          refine x_isub G dX12_route_199 ?_
          refine x_icmpne G (tgt := 224) dX12_route_200 (by decide) hf (fun c_6 hf => ?_) (fun c_6 hf => ?_)
          · refine x_aload_n G dX12_route_203 rfl rfl ?_
            refine x_getR G (kd148 M) 9 (b := 152) rfl cl12 rfl wf_X12_23 dX12_route_204 ?_
            refine x_iload G dX12_route_207 rfl ?_
            refine x_iald G (kd152 M) dX12_route_209 hf (fun hb_7 hf => ?_)
            refine x_iload G dX12_route_210 rfl ?_
            refine x_icmpge G (tgt := 224) dX12_route_212 (by decide) hf (fun c_8 hf => ?_) (fun c_8 hf => ?_)
            · refine x_aload_n G dX12_route_215 rfl rfl ?_
              refine x_getR G (kd148 M) 9 (b := 152) rfl cl12 rfl wf_X12_23 dX12_route_216 ?_
              refine x_iload G dX12_route_219 rfl ?_
              refine x_iald0 G (kd152 M) dX12_route_221 hb_7 ?_
              refine x_istore G (lv' := [some (.ref 148), some (.int v1), some (.int v2), some (.int v3), some (.int v4), some (.int v5), some (.int v6), some (.int v7), some (.int (ri w 152 v_2)), some (.int v9), some (.int v_2)]) dX12_route_222 rfl rfl rfl ?_
              refine x_iinc G (lv' := [some (.ref 148), some (.int v1), some (.int v2), some (.int v3), some (.int v4), some (.int v5), some (.int v6), some (.int v7), some (.int (ri w 152 v_2)), some (.int (v9 + (1 : Int32))), some (.int v_2)]) (v := 1) dX12_route_224 rfl (by decide) rfl rfl rfl ?_
              refine x_goto G (tgt := 164) dX12_route_227 (by decide) ?_
              exact XW.sub (lv' := [some (.ref 148), some (.int v1), some (.int v2), some (.int v3), some (.int v4), some (.int v5), some (.int v6), some (.int v7), some (.int (ri w 152 v_2)), some (.int (v9 + (1 : Int32))), none]) (And.intro rfl (And.intro rfl (And.intro rfl (And.intro rfl (And.intro rfl (And.intro rfl (And.intro rfl (And.intro rfl (And.intro rfl (And.intro rfl trivial)))))))))) (ih _ _ _ _ _ _ _ _ _ _ hf)
            · refine x_iinc G (lv' := [some (.ref 148), some (.int v1), some (.int v2), some (.int v3), some (.int v4), some (.int v5), some (.int v6), some (.int v7), some (.int v8), some (.int (v9 + (1 : Int32))), some (.int v_2)]) (v := 1) dX12_route_224 rfl (by decide) rfl rfl rfl ?_
              refine x_goto G (tgt := 164) dX12_route_227 (by decide) ?_
              exact XW.sub (lv' := [some (.ref 148), some (.int v1), some (.int v2), some (.int v3), some (.int v4), some (.int v5), some (.int v6), some (.int v7), some (.int v8), some (.int (v9 + (1 : Int32))), none]) (And.intro rfl (And.intro rfl (And.intro rfl (And.intro rfl (And.intro rfl (And.intro rfl (And.intro rfl (And.intro rfl (And.intro rfl (And.intro rfl trivial)))))))))) (ih _ _ _ _ _ _ _ _ _ _ hf)
          · refine x_iinc G (lv' := [some (.ref 148), some (.int v1), some (.int v2), some (.int v3), some (.int v4), some (.int v5), some (.int v6), some (.int v7), some (.int v8), some (.int (v9 + (1 : Int32))), some (.int v_2)]) (v := 1) dX12_route_224 rfl (by decide) rfl rfl rfl ?_
            refine x_goto G (tgt := 164) dX12_route_227 (by decide) ?_
            exact XW.sub (lv' := [some (.ref 148), some (.int v1), some (.int v2), some (.int v3), some (.int v4), some (.int v5), some (.int v6), some (.int v7), some (.int v8), some (.int (v9 + (1 : Int32))), none]) (And.intro rfl (And.intro rfl (And.intro rfl (And.intro rfl (And.intro rfl (And.intro rfl (And.intro rfl (And.intro rfl (And.intro rfl (And.intro rfl trivial)))))))))) (ih _ _ _ _ _ _ _ _ _ _ hf)
        · refine x_iinc G (lv' := [some (.ref 148), some (.int v1), some (.int v2), some (.int v3), some (.int v4), some (.int v5), some (.int v6), some (.int v7), some (.int v8), some (.int (v9 + (1 : Int32))), some (.int v_2)]) (v := 1) dX12_route_224 rfl (by decide) rfl rfl rfl ?_
          refine x_goto G (tgt := 164) dX12_route_227 (by decide) ?_
          exact XW.sub (lv' := [some (.ref 148), some (.int v1), some (.int v2), some (.int v3), some (.int v4), some (.int v5), some (.int v6), some (.int v7), some (.int v8), some (.int (v9 + (1 : Int32))), none]) (And.intro rfl (And.intro rfl (And.intro rfl (And.intro rfl (And.intro rfl (And.intro rfl (And.intro rfl (And.intro rfl (And.intro rfl (And.intro rfl trivial)))))))))) (ih _ _ _ _ _ _ _ _ _ _ hf)
    · refine x_iload G dX12_route_230 rfl ?_
      refine x_ldc G wc_X12_172 dX12_route_232 ?_
      refine x_icmpge G (tgt := 263) dX12_route_234 (by decide) hf (fun c_9 hf => ?_) (fun c_9 hf => ?_)
      · refine x_aload_n G dX12_route_237 rfl rfl ?_
        refine x_getR G (kd148 M) 9 (b := 152) rfl cl12 rfl wf_X12_23 dX12_route_238 ?_
        refine x_iload G dX12_route_241 rfl ?_
        refine x_iload G dX12_route_243 rfl ?_
        refine x_aload_n G dX12_route_245 rfl rfl ?_
        refine x_iload G dX12_route_246 rfl ?_
        refine x_iload_n G dX12_route_248 rfl rfl ?_
        refine x_iload G dX12_route_249 rfl ?_
        refine x_iload G dX12_route_251 rfl ?_
        refine x_iload G dX12_route_253 rfl ?_
        refine x_isub G dX12_route_255 ?_
        refine x_imul G dX12_route_256 ?_
        refine x_isub G dX12_route_257 ?_
        obtain ⟨v_10, hv_10, hf⟩ := bnd hf
        refine x_virI G (As := [.int v7, .int (v3 - (v4 * (v5 - v6)))]) (mX12_digOf G.2.2.2.2.2.2.1 M hv_10) mv_X12_176 (kd148 M) cl12 rfl rfl rfl rfl rfl dX12_route_258 ?_
        refine x_iadd G dX12_route_261 ?_
        refine x_iast G (kd152 M) dX12_route_262 hf (fun hb_11 hf => ?_)
        refine nwr hf (fun w_12 hf => ?_)
        refine x_iinc G (lv' := [some (.ref 148), some (.int v1), some (.int v2), some (.int v3), some (.int v4), some (.int v5), some (.int v6), some (.int (v7 + (1 : Int32))), some (.int v8), some (.int v9), none]) (v := 1) dX12_route_263 rfl (by decide) rfl rfl rfl ?_
        refine x_goto G (tgt := 84) dX12_route_266 (by decide) ?_
        exact XW.sub (lv' := [some (.ref 148), some (.int v1), some (.int v2), some (.int v3), some (.int v4), some (.int v5), some (.int v6), some (.int (v7 + (1 : Int32))), none, none, none]) (And.intro rfl (And.intro rfl (And.intro rfl (And.intro rfl (And.intro rfl (And.intro rfl (And.intro rfl (And.intro rfl trivial)))))))) (hk84 _ _ _ _ _ _ _ _ hf)
      · refine x_iinc G (lv' := [some (.ref 148), some (.int v1), some (.int v2), some (.int v3), some (.int v4), some (.int v5), some (.int v6), some (.int (v7 + (1 : Int32))), some (.int v8), some (.int v9), none]) (v := 1) dX12_route_263 rfl (by decide) rfl rfl rfl ?_
        refine x_goto G (tgt := 84) dX12_route_266 (by decide) ?_
        exact XW.sub (lv' := [some (.ref 148), some (.int v1), some (.int v2), some (.int v3), some (.int v4), some (.int v5), some (.int v6), some (.int (v7 + (1 : Int32))), none, none, none]) (And.intro rfl (And.intro rfl (And.intro rfl (And.intro rfl (And.intro rfl (And.intro rfl (And.intro rfl (And.intro rfl trivial)))))))) (hk84 _ _ _ _ _ _ _ _ hf)

set_option maxHeartbeats 4000000 in
set_option maxRecDepth 100000 in
theorem xX12_route_148 {K : KT} {v1 : Int32} {v2 : Int32} {v3 : Int32} {v4 : Int32} {v5 : Int32} {v6 : Int32} {v7 : Int32} {w : Wd} {r : Int32 × Wd} (G : GK K cX12_route RX12 11 3) (M : Main K.ks) (k74 : Int32 → Int32 → Int32 → Int32 → Int32 → Int32 → Wd → Option (Int32 × Wd)) (hk74 : ∀ (v1 : Int32) (v2 : Int32) (v3 : Int32) (v4 : Int32) (v5 : Int32) (v6 : Int32) (w : Wd), k74 v1 v2 v3 v4 v5 v6 w = some r → XW K 74 [some (.ref 148), some (.int v1), some (.int v2), some (.int v3), some (.int v4), some (.int v5), some (.int v6), none, none, none, none] [] w) (k84 : Int32 → Int32 → Int32 → Int32 → Int32 → Int32 → Int32 → Wd → Option (Int32 × Wd)) (hk84 : ∀ (v1 : Int32) (v2 : Int32) (v3 : Int32) (v4 : Int32) (v5 : Int32) (v6 : Int32) (v7 : Int32) (w : Wd), k84 v1 v2 v3 v4 v5 v6 v7 w = some r → XW K 84 [some (.ref 148), some (.int v1), some (.int v2), some (.int v3), some (.int v4), some (.int v5), some (.int v6), some (.int v7), none, none, none] [] w) (hf : fX12_route_148 k74 k84 v1 v2 v3 v4 v5 v6 v7 w = some r) (hr : RI K .int r.1 r.2) : XW K 148 [some (.ref 148), some (.int v1), some (.int v2), some (.int v3), some (.int v4), some (.int v5), some (.int v6), some (.int v7), none, none, none] [] w := by
  unfold fX12_route_148 at hf
  refine x_iload G dX12_route_148 rfl ?_
  refine x_ifne G (tgt := 157) dX12_route_150 (by decide) hf (fun c_1 hf => ?_) (fun c_1 hf => ?_)
  · refine x_iconst G (v := 0) dX12_route_153 (by decide) ?_
    refine x_goto G (tgt := 159) dX12_route_154 (by decide) ?_
    refine x_istore G (lv' := [some (.ref 148), some (.int v1), some (.int v2), some (.int v3), some (.int v4), some (.int v5), some (.int v6), some (.int v7), some (.int (0 : Int32)), none, none]) dX12_route_159 rfl rfl rfl ?_
    refine x_iconst G (v := 0) dX12_route_161 (by decide) ?_
    refine x_istore G (lv' := [some (.ref 148), some (.int v1), some (.int v2), some (.int v3), some (.int v4), some (.int v5), some (.int v6), some (.int v7), some (.int (0 : Int32)), some (.int (0 : Int32)), none]) dX12_route_162 rfl rfl rfl ?_
    exact XW.sub (lv' := [some (.ref 148), some (.int v1), some (.int v2), some (.int v3), some (.int v4), some (.int v5), some (.int v6), some (.int v7), some (.int (0 : Int32)), some (.int (0 : Int32)), none]) (And.intro rfl (And.intro rfl (And.intro rfl (And.intro rfl (And.intro rfl (And.intro rfl (And.intro rfl (And.intro rfl (And.intro rfl (And.intro rfl trivial)))))))))) (xX12_route_164 G M k74 hk74 k84 hk84 hr FU _ _ _ _ _ _ _ _ _ _ hf)
  · refine x_ldc G wc_X12_172 dX12_route_157 ?_
    refine x_istore G (lv' := [some (.ref 148), some (.int v1), some (.int v2), some (.int v3), some (.int v4), some (.int v5), some (.int v6), some (.int v7), some (.int (100000000 : Int32)), none, none]) dX12_route_159 rfl rfl rfl ?_
    refine x_iconst G (v := 0) dX12_route_161 (by decide) ?_
    refine x_istore G (lv' := [some (.ref 148), some (.int v1), some (.int v2), some (.int v3), some (.int v4), some (.int v5), some (.int v6), some (.int v7), some (.int (100000000 : Int32)), some (.int (0 : Int32)), none]) dX12_route_162 rfl rfl rfl ?_
    exact XW.sub (lv' := [some (.ref 148), some (.int v1), some (.int v2), some (.int v3), some (.int v4), some (.int v5), some (.int v6), some (.int v7), some (.int (100000000 : Int32)), some (.int (0 : Int32)), none]) (And.intro rfl (And.intro rfl (And.intro rfl (And.intro rfl (And.intro rfl (And.intro rfl (And.intro rfl (And.intro rfl (And.intro rfl (And.intro rfl trivial)))))))))) (xX12_route_164 G M k74 hk74 k84 hk84 hr FU _ _ _ _ _ _ _ _ _ _ hf)

set_option maxHeartbeats 4000000 in
set_option maxRecDepth 100000 in
theorem xX12_route_84 {K : KT} {r : Int32 × Wd} (G : GK K cX12_route RX12 11 3) (M : Main K.ks) (k74 : Int32 → Int32 → Int32 → Int32 → Int32 → Int32 → Wd → Option (Int32 × Wd)) (hk74 : ∀ (v1 : Int32) (v2 : Int32) (v3 : Int32) (v4 : Int32) (v5 : Int32) (v6 : Int32) (w : Wd), k74 v1 v2 v3 v4 v5 v6 w = some r → XW K 74 [some (.ref 148), some (.int v1), some (.int v2), some (.int v3), some (.int v4), some (.int v5), some (.int v6), none, none, none, none] [] w) (hr : RI K .int r.1 r.2) : ∀ (n : Nat) (v1 : Int32) (v2 : Int32) (v3 : Int32) (v4 : Int32) (v5 : Int32) (v6 : Int32) (v7 : Int32) (w : Wd), fX12_route_84 k74 n v1 v2 v3 v4 v5 v6 v7 w = some r → XW K 84 [some (.ref 148), some (.int v1), some (.int v2), some (.int v3), some (.int v4), some (.int v5), some (.int v6), some (.int v7), none, none, none] [] w := by
  intro n
  induction n with
  | zero =>
    intro v1 v2 v3 v4 v5 v6 v7 w hf
    unfold fX12_route_84 at hf
    cases hf
  | succ n ih =>
    intro v1 v2 v3 v4 v5 v6 v7 w hf
    unfold fX12_route_84 at hf
    refine x_iload G dX12_route_84 rfl ?_
    refine x_bipush G (v := 100) dX12_route_86 (by decide) ?_
    refine x_icmpge G (tgt := 269) dX12_route_88 (by decide) hf (fun c_1 hf => ?_) (fun c_1 hf => ?_)
    · refine x_iload G dX12_route_91 rfl ?_
      refine x_iload_n G dX12_route_93 rfl rfl ?_
      obtain ⟨v_2, hv_2, hf⟩ := bnd hf
      refine x_staI G (As := [.int v7, .int v2]) (mX12_near G.2.2.2.2.2.2.1 M hv_2) ms_X12_150 rfl rfl rfl rfl rfl dX12_route_94 ?_
      refine x_iload G dX12_route_97 rfl ?_
      refine x_icmpne G (tgt := 263) dX12_route_99 (by decide) hf (fun c_3 hf => ?_) (fun c_3 hf => ?_)
      · refine x_iload G dX12_route_102 rfl ?_
        refine x_iload_n G dX12_route_104 rfl rfl ?_
        obtain ⟨v_4, hv_4, hf⟩ := bnd hf
        refine x_staI G (As := [.int v7, .int v1]) (mX12_near G.2.2.2.2.2.2.1 M hv_4) ms_X12_150 rfl rfl rfl rfl rfl dX12_route_105 ?_
        refine x_iload G dX12_route_108 rfl ?_
        refine x_iadd G dX12_route_110 ?_
        refine x_iload G dX12_route_111 rfl ?_
        refine x_icmpeq G (tgt := 119) dX12_route_113 (by decide) hf (fun c_5 hf => ?_) (fun c_5 hf => ?_)
        · refine x_aload_n G dX12_route_119 rfl rfl ?_
          refine x_getR G (kd148 M) 9 (b := 152) rfl cl12 rfl wf_X12_23 dX12_route_120 ?_
          refine x_iload G dX12_route_123 rfl ?_
          refine x_ldc G wc_X12_172 dX12_route_125 ?_
          refine x_iast G (kd152 M) dX12_route_127 hf (fun hb_6 hf => ?_)
          refine nwr hf (fun w_7 hf => ?_)
          refine x_aload_n G dX12_route_128 rfl rfl ?_
          refine x_iload G dX12_route_129 rfl ?_
          refine x_iconst G (v := 4) dX12_route_131 (by decide) ?_
          obtain ⟨v_8, hv_8, hf⟩ := bnd hf
          refine x_virI G (As := [.int v7, .int (4 : Int32)]) (mX12_c G.2.2.2.2.2.2.1 M hv_8) mv_X12_117 (kd148 M) cl12 rfl rfl rfl rfl rfl dX12_route_132 ?_
          refine x_iconst G (v := 1) dX12_route_135 (by decide) ?_
          refine x_icmpne G (tgt := 148) dX12_route_136 (by decide) hf (fun c_9 hf => ?_) (fun c_9 hf => ?_)
          · refine x_iload G dX12_route_139 rfl ?_
            refine x_iload_n G dX12_route_141 rfl rfl ?_
            refine x_icmpeq G (tgt := 148) dX12_route_142 (by decide) hf (fun c_10 hf => ?_) (fun c_10 hf => ?_)
            · exact (xX12_route_148 G M k74 hk74 (fX12_route_84 k74 n) ih hf hr)
            · refine x_goto G (tgt := 263) dX12_route_145 (by decide) ?_
              refine x_iinc G (lv' := [some (.ref 148), some (.int v1), some (.int v2), some (.int v3), some (.int v4), some (.int v5), some (.int v6), some (.int (v7 + (1 : Int32))), none, none, none]) (v := 1) dX12_route_263 rfl (by decide) rfl rfl rfl ?_
              refine x_goto G (tgt := 84) dX12_route_266 (by decide) ?_
              exact XW.sub (lv' := [some (.ref 148), some (.int v1), some (.int v2), some (.int v3), some (.int v4), some (.int v5), some (.int v6), some (.int (v7 + (1 : Int32))), none, none, none]) (And.intro rfl (And.intro rfl (And.intro rfl (And.intro rfl (And.intro rfl (And.intro rfl (And.intro rfl (And.intro rfl trivial)))))))) (ih _ _ _ _ _ _ _ _ hf)
          · exact (xX12_route_148 G M k74 hk74 (fX12_route_84 k74 n) ih hf hr)
        · refine x_goto G (tgt := 263) dX12_route_116 (by decide) ?_
          refine x_iinc G (lv' := [some (.ref 148), some (.int v1), some (.int v2), some (.int v3), some (.int v4), some (.int v5), some (.int v6), some (.int (v7 + (1 : Int32))), none, none, none]) (v := 1) dX12_route_263 rfl (by decide) rfl rfl rfl ?_
          refine x_goto G (tgt := 84) dX12_route_266 (by decide) ?_
          exact XW.sub (lv' := [some (.ref 148), some (.int v1), some (.int v2), some (.int v3), some (.int v4), some (.int v5), some (.int v6), some (.int (v7 + (1 : Int32))), none, none, none]) (And.intro rfl (And.intro rfl (And.intro rfl (And.intro rfl (And.intro rfl (And.intro rfl (And.intro rfl (And.intro rfl trivial)))))))) (ih _ _ _ _ _ _ _ _ hf)
      · refine x_iinc G (lv' := [some (.ref 148), some (.int v1), some (.int v2), some (.int v3), some (.int v4), some (.int v5), some (.int v6), some (.int (v7 + (1 : Int32))), none, none, none]) (v := 1) dX12_route_263 rfl (by decide) rfl rfl rfl ?_
        refine x_goto G (tgt := 84) dX12_route_266 (by decide) ?_
        exact XW.sub (lv' := [some (.ref 148), some (.int v1), some (.int v2), some (.int v3), some (.int v4), some (.int v5), some (.int v6), some (.int (v7 + (1 : Int32))), none, none, none]) (And.intro rfl (And.intro rfl (And.intro rfl (And.intro rfl (And.intro rfl (And.intro rfl (And.intro rfl (And.intro rfl trivial)))))))) (ih _ _ _ _ _ _ _ _ hf)
    · refine x_iinc G (lv' := [some (.ref 148), some (.int v1), some (.int v2), some (.int v3), some (.int v4), some (.int v5), some (.int (v6 + (1 : Int32))), some (.int v7), none, none, none]) (v := 1) dX12_route_269 rfl (by decide) rfl rfl rfl ?_
      refine x_goto G (tgt := 74) dX12_route_272 (by decide) ?_
      exact XW.sub (lv' := [some (.ref 148), some (.int v1), some (.int v2), some (.int v3), some (.int v4), some (.int v5), some (.int (v6 + (1 : Int32))), none, none, none, none]) (And.intro rfl (And.intro rfl (And.intro rfl (And.intro rfl (And.intro rfl (And.intro rfl (And.intro rfl trivial))))))) (hk74 _ _ _ _ _ _ _ hf)

set_option maxHeartbeats 4000000 in
set_option maxRecDepth 100000 in
theorem xX12_route_74 {K : KT} {r : Int32 × Wd} (G : GK K cX12_route RX12 11 3) (M : Main K.ks) (hr : RI K .int r.1 r.2) : ∀ (n : Nat) (v1 : Int32) (v2 : Int32) (v3 : Int32) (v4 : Int32) (v5 : Int32) (v6 : Int32) (w : Wd), fX12_route_74 n v1 v2 v3 v4 v5 v6 w = some r → XW K 74 [some (.ref 148), some (.int v1), some (.int v2), some (.int v3), some (.int v4), some (.int v5), some (.int v6), none, none, none, none] [] w := by
  intro n
  induction n with
  | zero =>
    intro v1 v2 v3 v4 v5 v6 w hf
    unfold fX12_route_74 at hf
    cases hf
  | succ n ih =>
    intro v1 v2 v3 v4 v5 v6 w hf
    unfold fX12_route_74 at hf
    refine x_iload G dX12_route_74 rfl ?_
    refine x_iload G dX12_route_76 rfl ?_
    refine x_icmpgt G (tgt := 275) dX12_route_78 (by decide) hf (fun c_1 hf => ?_) (fun c_1 hf => ?_)
    · refine x_aload_n G dX12_route_275 rfl rfl ?_
      refine x_getR G (kd148 M) 9 (b := 152) rfl cl12 rfl wf_X12_23 dX12_route_276 ?_
      refine x_iload_n G dX12_route_279 rfl rfl ?_
      refine x_iald G (kd152 M) dX12_route_280 hf (fun hb_2 hf => ?_)
      refine x_ldc G wc_X12_172 dX12_route_281 ?_
      refine x_icmplt G (tgt := 289) dX12_route_283 (by decide) hf (fun c_3 hf => ?_) (fun c_3 hf => ?_)
      · refine x_aload_n G dX12_route_289 rfl rfl ?_
        refine x_iload_n G dX12_route_290 rfl rfl ?_
        refine x_putI G (kd148 M) 7 rfl cl12 rfl wf_X12_179 rfl rfl rfl dX12_route_291 ?_
        refine nwr hf (fun w_4 hf => ?_)
        refine x_aload_n G dX12_route_294 rfl rfl ?_
        refine x_iload G dX12_route_295 rfl ?_
        refine x_putI G (kd148 M) 8 rfl cl12 rfl wf_X12_182 rfl rfl rfl dX12_route_297 ?_
        refine nwr hf (fun w_5 hf => ?_)
        refine x_aload_n G dX12_route_300 rfl rfl ?_
        refine x_iload G dX12_route_301 rfl ?_
        refine x_iconst G (v := 1) dX12_route_303 (by decide) ?_
        refine x_iadd G dX12_route_304 ?_
        refine x_putI G (kd148 M) 6 rfl cl12 rfl wf_X12_85 rfl rfl rfl dX12_route_305 ?_
        refine nwr hf (fun w_6 hf => ?_)
        refine x_iload_n G dX12_route_308 rfl rfl ?_
        refine x_istore G (lv' := [some (.ref 148), some (.int v1), some (.int v2), some (.int v3), some (.int v4), some (.int v5), some (.int v1), none, none, none, none]) dX12_route_309 rfl rfl rfl ?_
        refine x_aload_n G dX12_route_311 rfl rfl ?_
        refine x_getR G (kd148 M) 5 (b := 151) rfl cl12 rfl wf_X12_20 dX12_route_312 ?_
        refine x_iconst G (v := 0) dX12_route_315 (by decide) ?_
        refine x_iload_n G dX12_route_316 rfl rfl ?_
        refine x_iast0 G (kd151 M) dX12_route_317 (by decide) ?_
        refine nwr hf (fun w_7 hf => ?_)
        refine x_iconst G (v := 1) dX12_route_318 (by decide) ?_
        refine x_istore G (lv' := [some (.ref 148), some (.int v1), some (.int v2), some (.int v3), some (.int v4), some (.int v5), some (.int v1), some (.int (1 : Int32)), none, none, none]) dX12_route_319 rfl rfl rfl ?_
        exact XW.sub (lv' := [some (.ref 148), some (.int v1), some (.int v2), some (.int v3), some (.int v4), some (.int v5), some (.int v1), some (.int (1 : Int32)), none, none, none]) (And.intro rfl (And.intro rfl (And.intro rfl (And.intro rfl (And.intro rfl (And.intro rfl (And.intro rfl (And.intro rfl trivial)))))))) (xX12_route_321 G M hr FU _ _ _ _ _ _ _ _ hf)
      · refine x_bipush G (v := -3) dX12_route_286 (by decide) ?_
        exact x_iretW G hf hr dX12_route_288
    · refine x_iconst G (v := 0) dX12_route_81 (by decide) ?_
      refine x_istore G (lv' := [some (.ref 148), some (.int v1), some (.int v2), some (.int v3), some (.int v4), some (.int v5), some (.int v6), some (.int (0 : Int32)), none, none, none]) dX12_route_82 rfl rfl rfl ?_
      exact XW.sub (lv' := [some (.ref 148), some (.int v1), some (.int v2), some (.int v3), some (.int v4), some (.int v5), some (.int v6), some (.int (0 : Int32)), none, none, none]) (And.intro rfl (And.intro rfl (And.intro rfl (And.intro rfl (And.intro rfl (And.intro rfl (And.intro rfl (And.intro rfl trivial)))))))) (xX12_route_84 G M (fX12_route_74 n) ih hr FU _ _ _ _ _ _ _ _ hf)

set_option maxHeartbeats 4000000 in
set_option maxRecDepth 100000 in
theorem xX12_route_e {K : KT} {v1 : Int32} {v2 : Int32} {v3 : Int32} {v4 : Int32} {w : Wd} {r : Int32 × Wd} (G : GK K cX12_route RX12 11 3) (M : Main K.ks) (hf : fX12_route v1 v2 v3 v4 w = some r) (hr : RI K .int r.1 r.2) : XW K 0 [some (.ref 148), some (.int v1), some (.int v2), some (.int v3), some (.int v4), none, none, none, none, none, none] [] w := by
  unfold fX12_route at hf
  refine x_aload_n G dX12_route_0 rfl rfl ?_
  refine x_iconst G (v := 0) dX12_route_1 (by decide) ?_
  refine x_putI G (kd148 M) 0 rfl cl12 rfl wf_X12_1 rfl rfl rfl dX12_route_2 ?_
  refine nwr hf (fun w_1 hf => ?_)
  refine x_iload_n G dX12_route_5 rfl rfl ?_
  obtain ⟨v_2, hv_2, hf⟩ := bnd hf
  refine x_staI G (As := [.int v1]) (mX12_isCell G.2.2.2.2.2.2.1 M hv_2) ms_X12_105 rfl rfl rfl rfl rfl dX12_route_6 ?_
  refine x_ifeqB G (tgt := 49) dX12_route_9 (by decide) hf (fun c_3 hf => ?_) (fun c_3 hf => ?_)
  · refine x_iload_n G dX12_route_12 rfl rfl ?_
    obtain ⟨v_4, hv_4, hf⟩ := bnd hf
    refine x_staI G (As := [.int v2]) (mX12_isCell G.2.2.2.2.2.2.1 M hv_4) ms_X12_105 rfl rfl rfl rfl rfl dX12_route_13 ?_
    refine x_ifeqB G (tgt := 49) dX12_route_16 (by decide) hf (fun c_5 hf => ?_) (fun c_5 hf => ?_)
    · refine x_iload_n G dX12_route_19 rfl rfl ?_
      refine x_iload_n G dX12_route_20 rfl rfl ?_
      refine x_icmpeq G (tgt := 49) dX12_route_21 (by decide) hf (fun c_6 hf => ?_) (fun c_6 hf => ?_)
      · refine x_iconst G (v := -1) dX12_route_49 (by decide) ?_
        exact x_iretW G hf hr dX12_route_50
      · refine x_iload_n G dX12_route_24 rfl rfl ?_
        refine x_i2l G dX12_route_25 ?_
        refine x_lconst G (v := 0) dX12_route_26 (by decide) ?_
        refine x_ldc2 G wl_X12_111 dX12_route_27 ?_
        obtain ⟨v_7, hv_7, hf⟩ := bnd hf
        refine x_staI G (As := [.long v3.toInt64, .long (0 : Int64), .long (300 : Int64)]) (mX12_in G.2.2.2.2.2.2.1 M hv_7) ms_X12_93 rfl rfl rfl rfl rfl dX12_route_30 ?_
        refine x_ifeqB G (tgt := 49) dX12_route_33 (by decide) hf (fun c_8 hf => ?_) (fun c_8 hf => ?_)
        · refine x_iload G dX12_route_36 rfl ?_
          refine x_i2l G dX12_route_38 ?_
          refine x_lconst G (v := 1) dX12_route_39 (by decide) ?_
          refine x_ldc2 G wl_X12_157 dX12_route_40 ?_
          obtain ⟨v_9, hv_9, hf⟩ := bnd hf
          refine x_staI G (As := [.long v4.toInt64, .long (1 : Int64), .long (9 : Int64)]) (mX12_in G.2.2.2.2.2.2.1 M hv_9) ms_X12_93 rfl rfl rfl rfl rfl dX12_route_43 ?_
          refine x_ifneB G (tgt := 51) dX12_route_46 (by decide) hf (fun c_10 hf => ?_) (fun c_10 hf => ?_)
          · refine x_iload_n G dX12_route_51 rfl rfl ?_
            refine x_iload_n G dX12_route_52 rfl rfl ?_
            obtain ⟨v_11, hv_11, hf⟩ := bnd hf
            refine x_staI G (As := [.int v1, .int v2]) (mX12_near G.2.2.2.2.2.2.1 M hv_11) ms_X12_150 rfl rfl rfl rfl rfl dX12_route_53 ?_
            refine x_istore G (lv' := [some (.ref 148), some (.int v1), some (.int v2), some (.int v3), some (.int v4), some (.int v_11), none, none, none, none, none]) dX12_route_56 rfl rfl rfl ?_
            refine x_iload_n G dX12_route_58 rfl rfl ?_
            refine x_iload G dX12_route_59 rfl ?_
            refine x_iload G dX12_route_61 rfl ?_
            refine x_imul G dX12_route_63 ?_
            refine x_isub G dX12_route_64 ?_
            refine x_ifge G (tgt := 71) dX12_route_65 (by decide) hf (fun c_12 hf => ?_) (fun c_12 hf => ?_)
            · refine x_bipush G (v := -3) dX12_route_68 (by decide) ?_
              exact x_iretW G hf hr dX12_route_70
            · refine x_iconst G (v := 0) dX12_route_71 (by decide) ?_
              refine x_istore G (lv' := [some (.ref 148), some (.int v1), some (.int v2), some (.int v3), some (.int v4), some (.int v_11), some (.int (0 : Int32)), none, none, none, none]) dX12_route_72 rfl rfl rfl ?_
              exact XW.sub (lv' := [some (.ref 148), some (.int v1), some (.int v2), some (.int v3), some (.int v4), some (.int v_11), some (.int (0 : Int32)), none, none, none, none]) (And.intro rfl (And.intro rfl (And.intro rfl (And.intro rfl (And.intro rfl (And.intro rfl (And.intro rfl trivial))))))) (xX12_route_74 G M hr FU _ _ _ _ _ _ _ hf)
          · refine x_iconst G (v := -1) dX12_route_49 (by decide) ?_
            exact x_iretW G hf hr dX12_route_50
        · refine x_iconst G (v := -1) dX12_route_49 (by decide) ?_
          exact x_iretW G hf hr dX12_route_50
    · refine x_iconst G (v := -1) dX12_route_49 (by decide) ?_
      exact x_iretW G hf hr dX12_route_50
  · refine x_iconst G (v := -1) dX12_route_49 (by decide) ?_
    exact x_iretW G hf hr dX12_route_50

theorem mX12_route {l : Launch} {S : KS} {w : Wd} (hI : Inj S) (M : Main S) {v1 : Int32} {v2 : Int32} {v3 : Int32} {v4 : Int32} {r : Int32 × Wd} (hf : fX12_route v1 v2 v3 v4 w = some r) : CI l yX12_route cX12_route 11 (some .int) 3 S [.ref 148, .int v1, .int v2, .int v3, .int v4] w r.1 r.2 := by
  intro sz
  refine mk_entry rfl (by decide +kernel) hI 6 rfl rfl (fun K h1 h2 h3 h4 h5 h6 G => ?_)
  subst h2
  exact xX12_route_e G M hf ⟨h3, by rw [h4, h6], h5⟩

set_option maxHeartbeats 4000000 in
set_option maxRecDepth 100000 in
theorem xX12_set_71 {K : KT} {v1 : Int32} {v2 : Int32} {v3 : Int32} {s0 : Int64} {s1 : Int64} {s2 : Int64} {w : Wd} {r : Int32 × Wd} (G : GK K cX12_set RX12 5 3) (M : Main K.ks) (hf : fX12_set_71 v1 v2 v3 s0 s1 s2 w = some r) (hr : RI K .int r.1 r.2) : XW K 71 [some (.ref 148), some (.int v1), some (.int v2), some (.int v3), none] [.long s2, .long s1, .long s0] w := by
  unfold fX12_set_71 at hf
  obtain ⟨v_1, hv_1, hf⟩ := bnd hf
  refine x_staI G (As := [.long s0, .long s1, .long s2]) (mX12_in G.2.2.2.2.2.2.1 M hv_1) ms_X12_93 rfl rfl rfl rfl rfl dX12_set_71 ?_
  refine x_ifneB G (tgt := 79) dX12_set_74 (by decide) hf (fun c_2 hf => ?_) (fun c_2 hf => ?_)
  · refine x_aload_n G dX12_set_79 rfl rfl ?_
    refine x_iload_n G dX12_set_80 rfl rfl ?_
    refine x_iload_n G dX12_set_81 rfl rfl ?_
    obtain ⟨v_3, hv_3, hf⟩ := bnd hf
    refine x_virI G (As := [.int v1, .int v2]) (mX12_c G.2.2.2.2.2.2.1 M hv_3) mv_X12_117 (kd148 M) cl12 rfl rfl rfl rfl rfl dX12_set_82 ?_
    refine x_istore G (lv' := [some (.ref 148), some (.int v1), some (.int v2), some (.int v3), some (.int v_3)]) dX12_set_85 rfl rfl rfl ?_
    refine x_aload_n G dX12_set_87 rfl rfl ?_
    refine x_getR G (kd148 M) 1 (b := 149) rfl cl12 rfl wf_X12_13 dX12_set_88 ?_
    refine x_bipush G (v := 15) dX12_set_91 (by decide) ?_
    refine x_iload_n G dX12_set_93 rfl rfl ?_
    refine x_imul G dX12_set_94 ?_
    refine x_iload_n G dX12_set_95 rfl rfl ?_
    refine x_iadd G dX12_set_96 ?_
    refine x_iload_n G dX12_set_97 rfl rfl ?_
    refine x_iast G (kd149 M) dX12_set_98 hf (fun hb_4 hf => ?_)
    refine nwr hf (fun w_5 hf => ?_)
    refine x_iload G dX12_set_99 rfl ?_
    exact x_iretW G hf hr dX12_set_101
  · refine x_iconst G (v := -1) dX12_set_77 (by decide) ?_
    exact x_iretW G hf hr dX12_set_78

set_option maxHeartbeats 4000000 in
set_option maxRecDepth 100000 in
theorem xX12_set_e {K : KT} {v1 : Int32} {v2 : Int32} {v3 : Int32} {w : Wd} {r : Int32 × Wd} (G : GK K cX12_set RX12 5 3) (M : Main K.ks) (hf : fX12_set v1 v2 v3 w = some r) (hr : RI K .int r.1 r.2) : XW K 0 [some (.ref 148), some (.int v1), some (.int v2), some (.int v3), none] [] w := by
  unfold fX12_set at hf
  refine x_aload_n G dX12_set_0 rfl rfl ?_
  refine x_iconst G (v := 0) dX12_set_1 (by decide) ?_
  refine x_putI G (kd148 M) 0 rfl cl12 rfl wf_X12_1 rfl rfl rfl dX12_set_2 ?_
  refine nwr hf (fun w_1 hf => ?_)
  refine x_iload_n G dX12_set_5 rfl rfl ?_
  obtain ⟨v_2, hv_2, hf⟩ := bnd hf
  refine x_staI G (As := [.int v1]) (mX12_isCell G.2.2.2.2.2.2.1 M hv_2) ms_X12_105 rfl rfl rfl rfl rfl dX12_set_6 ?_
  refine x_ifeqB G (tgt := 77) dX12_set_9 (by decide) hf (fun c_3 hf => ?_) (fun c_3 hf => ?_)
  · refine x_iload_n G dX12_set_12 rfl rfl ?_
    refine x_i2l G dX12_set_13 ?_
    refine x_lconst G (v := 0) dX12_set_14 (by decide) ?_
    refine x_ldc2 G wl_X12_109 dX12_set_15 ?_
    obtain ⟨v_4, hv_4, hf⟩ := bnd hf
    refine x_staI G (As := [.long v2.toInt64, .long (0 : Int64), .long (5 : Int64)]) (mX12_in G.2.2.2.2.2.2.1 M hv_4) ms_X12_93 rfl rfl rfl rfl rfl dX12_set_18 ?_
    refine x_ifeqB G (tgt := 77) dX12_set_21 (by decide) hf (fun c_5 hf => ?_) (fun c_5 hf => ?_)
    · refine x_iload_n G dX12_set_24 rfl rfl ?_
      refine x_i2l G dX12_set_25 ?_
      refine x_lconst G (v := 0) dX12_set_26 (by decide) ?_
      refine x_iload_n G dX12_set_27 rfl rfl ?_
      refine x_ifne G (tgt := 37) dX12_set_28 (by decide) hf (fun c_6 hf => ?_) (fun c_6 hf => ?_)
      · refine x_ldc2 G wl_X12_111 dX12_set_31 ?_
        refine x_goto G (tgt := 71) dX12_set_34 (by decide) ?_
        exact (xX12_set_71 G M hf hr)
      · refine x_iload_n G dX12_set_37 rfl rfl ?_
        refine x_iconst G (v := 1) dX12_set_38 (by decide) ?_
        refine x_icmpne G (tgt := 48) dX12_set_39 (by decide) hf (fun c_7 hf => ?_) (fun c_7 hf => ?_)
        · refine x_ldc2 G wl_X12_113 dX12_set_42 ?_
          refine x_goto G (tgt := 71) dX12_set_45 (by decide) ?_
          exact (xX12_set_71 G M hf hr)
        · refine x_iload_n G dX12_set_48 rfl rfl ?_
          refine x_iconst G (v := 2) dX12_set_49 (by decide) ?_
          refine x_icmpne G (tgt := 59) dX12_set_50 (by decide) hf (fun c_8 hf => ?_) (fun c_8 hf => ?_)
          · refine x_ldc2 G wl_X12_115 dX12_set_53 ?_
            refine x_goto G (tgt := 71) dX12_set_56 (by decide) ?_
            exact (xX12_set_71 G M hf hr)
          · refine x_iload_n G dX12_set_59 rfl rfl ?_
            refine x_iconst G (v := 3) dX12_set_60 (by decide) ?_
            refine x_icmpne G (tgt := 70) dX12_set_61 (by decide) hf (fun c_9 hf => ?_) (fun c_9 hf => ?_)
            · refine x_ldc2 G wl_X12_91 dX12_set_64 ?_
              refine x_goto G (tgt := 71) dX12_set_67 (by decide) ?_
              exact (xX12_set_71 G M hf hr)
            · refine x_lconst G (v := 1) dX12_set_70 (by decide) ?_
              exact (xX12_set_71 G M hf hr)
    · refine x_iconst G (v := -1) dX12_set_77 (by decide) ?_
      exact x_iretW G hf hr dX12_set_78
  · refine x_iconst G (v := -1) dX12_set_77 (by decide) ?_
    exact x_iretW G hf hr dX12_set_78

theorem mX12_set {l : Launch} {S : KS} {w : Wd} (hI : Inj S) (M : Main S) {v1 : Int32} {v2 : Int32} {v3 : Int32} {r : Int32 × Wd} (hf : fX12_set v1 v2 v3 w = some r) : CI l yX12_set cX12_set 5 (some .int) 3 S [.ref 148, .int v1, .int v2, .int v3] w r.1 r.2 := by
  intro sz
  refine mk_entry rfl (by decide +kernel) hI 1 rfl rfl (fun K h1 h2 h3 h4 h5 h6 G => ?_)
  subst h2
  exact xX12_set_e G M hf ⟨h3, by rw [h4, h6], h5⟩

set_option maxHeartbeats 4000000 in
set_option maxRecDepth 100000 in
theorem xX12_vestry_4 {K : KT} {w : Wd} {r : Int32} (G : GK K cX12_vestry RX12 4 2) (M : Main K.ks) (hr : RI K .int r w) : ∀ (n : Nat) (v1 : Int32) (v2 : Int32) (v3 : Int32), fX12_vestry_4 w n v1 v2 v3 = some r → XW K 4 [some (.ref 148), some (.int v1), some (.int v2), some (.int v3)] [] w := by
  intro n
  induction n with
  | zero =>
    intro v1 v2 v3 hf
    unfold fX12_vestry_4 at hf
    cases hf
  | succ n ih =>
    intro v1 v2 v3 hf
    unfold fX12_vestry_4 at hf
    refine x_iload_n G dX12_vestry_4 rfl rfl ?_
    refine x_bipush G (v := 10) dX12_vestry_5 (by decide) ?_
    refine x_icmpge G (tgt := 30) dX12_vestry_7 (by decide) hf (fun c_1 hf => ?_) (fun c_1 hf => ?_)
    · refine x_iload_n G dX12_vestry_10 rfl rfl ?_
      refine x_aload_n G dX12_vestry_11 rfl rfl ?_
      refine x_bipush G (v := 10) dX12_vestry_12 (by decide) ?_
      refine x_iload_n G dX12_vestry_14 rfl rfl ?_
      refine x_imul G dX12_vestry_15 ?_
      refine x_iload_n G dX12_vestry_16 rfl rfl ?_
      refine x_iadd G dX12_vestry_17 ?_
      refine x_iconst G (v := 2) dX12_vestry_18 (by decide) ?_
      obtain ⟨v_2, hv_2, hf⟩ := bnd hf
      refine x_virI G (As := [.int (((10 : Int32) * v1) + v3), .int (2 : Int32)]) (mX12_c G.2.2.2.2.2.2.1 M hv_2) mv_X12_117 (kd148 M) cl12 rfl rfl rfl rfl rfl dX12_vestry_19 ?_
      refine x_iadd G dX12_vestry_22 ?_
      refine x_istore_n G (lv' := [some (.ref 148), some (.int v1), some (.int (v2 + v_2)), some (.int v3)]) dX12_vestry_23 rfl rfl rfl rfl ?_
      refine x_iinc G (lv' := [some (.ref 148), some (.int v1), some (.int (v2 + v_2)), some (.int (v3 + (1 : Int32)))]) (v := 1) dX12_vestry_24 rfl (by decide) rfl rfl rfl ?_
      refine x_goto G (tgt := 4) dX12_vestry_27 (by decide) ?_
      exact XW.sub (lv' := [some (.ref 148), some (.int v1), some (.int (v2 + v_2)), some (.int (v3 + (1 : Int32)))]) (And.intro rfl (And.intro rfl (And.intro rfl (And.intro rfl trivial)))) (ih _ _ _ hf)
    · refine x_iload_n G dX12_vestry_30 rfl rfl ?_
      exact x_iretP G hf hr dX12_vestry_31

set_option maxHeartbeats 4000000 in
set_option maxRecDepth 100000 in
theorem xX12_vestry_e {K : KT} {v1 : Int32} {w : Wd} {r : Int32} (G : GK K cX12_vestry RX12 4 2) (M : Main K.ks) (hf : fX12_vestry v1 w = some r) (hr : RI K .int r w) : XW K 0 [some (.ref 148), some (.int v1), none, none] [] w := by
  unfold fX12_vestry at hf
  refine x_iconst G (v := 0) dX12_vestry_0 (by decide) ?_
  refine x_istore_n G (lv' := [some (.ref 148), some (.int v1), some (.int (0 : Int32)), none]) dX12_vestry_1 rfl rfl rfl rfl ?_
  refine x_iconst G (v := 0) dX12_vestry_2 (by decide) ?_
  refine x_istore_n G (lv' := [some (.ref 148), some (.int v1), some (.int (0 : Int32)), some (.int (0 : Int32))]) dX12_vestry_3 rfl rfl rfl rfl ?_
  exact XW.sub (lv' := [some (.ref 148), some (.int v1), some (.int (0 : Int32)), some (.int (0 : Int32))]) (And.intro rfl (And.intro rfl (And.intro rfl (And.intro rfl trivial)))) (xX12_vestry_4 G M hr FU _ _ _ hf)

theorem mX12_vestry {l : Launch} {S : KS} {w : Wd} (hI : Inj S) (M : Main S) {v1 : Int32} {r : Int32} (hf : fX12_vestry v1 w = some r) : CI l yX12_vestry cX12_vestry 4 (some .int) 2 S [.ref 148, .int v1] w r w := by
  intro sz
  refine mk_entry rfl (by decide +kernel) hI 2 rfl rfl (fun K h1 h2 h3 h4 h5 h6 G => ?_)
  subst h2
  exact xX12_vestry_e G M hf ⟨h3, by rw [h4, h6], h5⟩

set_option maxHeartbeats 4000000 in
set_option maxRecDepth 100000 in
theorem xX12_share_177 {K : KT} {v1 : Int32} {v2 : Int32} {v3 : Int64} {v5 : Int64} {v7 : Int64} {v10 : Int32} {s0 : Int32} {w : Wd} {r : Int32 × Wd} (G : GK K cX12_share RX12 13 3) (M : Main K.ks) (k128 : Int32 → Int32 → Int64 → Int64 → Int64 → Int32 → Int32 → Wd → Option (Int32 × Wd)) (hk128 : ∀ (v1 : Int32) (v2 : Int32) (v3 : Int64) (v5 : Int64) (v7 : Int64) (v9 : Int32) (v10 : Int32) (w : Wd), k128 v1 v2 v3 v5 v7 v9 v10 w = some r → XW K 128 [some (.ref 148), some (.int v1), some (.int v2), some (.long v3), none, some (.long v5), none, some (.long v7), none, some (.int v9), some (.int v10), none, none] [] w) (hf : fX12_share_177 k128 v1 v2 v3 v5 v7 v10 s0 w = some r) (hr : RI K .int r.1 r.2) : XW K 177 [some (.ref 148), some (.int v1), some (.int v2), some (.long v3), none, some (.long v5), none, some (.long v7), none, none, some (.int v10), none, none] [.int s0] w := by
  unfold fX12_share_177 at hf
  refine x_iconst G (v := 0) dX12_share_177 (by decide) ?_
  refine x_iadd G dX12_share_178 ?_
  refine x_istore G (lv' := [some (.ref 148), some (.int v1), some (.int v2), some (.long v3), none, some (.long v5), none, some (.long v7), none, some (.int (s0 + (0 : Int32))), some (.int v10), none, none]) dX12_share_179 rfl rfl rfl ?_
  refine x_iinc G (lv' := [some (.ref 148), some (.int v1), some (.int v2), some (.long v3), none, some (.long v5), none, some (.long v7), none, some (.int (s0 + (0 : Int32))), some (.int (v10 + (1 : Int32))), none, none]) (v := 1) dX12_share_181 rfl (by decide) rfl rfl rfl ?_
  refine x_goto G (tgt := 128) dX12_share_184 (by decide) ?_
  exact XW.sub (lv' := [some (.ref 148), some (.int v1), some (.int v2), some (.long v3), none, some (.long v5), none, some (.long v7), none, some (.int (s0 + (0 : Int32))), some (.int (v10 + (1 : Int32))), none, none]) (And.intro rfl (And.intro rfl (And.intro rfl (And.intro rfl (And.intro rfl (And.intro rfl (And.intro rfl (And.intro rfl trivial)))))))) (hk128 _ _ _ _ _ _ _ _ hf)

set_option maxHeartbeats 4000000 in
set_option maxRecDepth 100000 in
theorem xX12_share_128 {K : KT} {r : Int32 × Wd} (G : GK K cX12_share RX12 13 3) (M : Main K.ks) (hr : RI K .int r.1 r.2) : ∀ (n : Nat) (v1 : Int32) (v2 : Int32) (v3 : Int64) (v5 : Int64) (v7 : Int64) (v9 : Int32) (v10 : Int32) (w : Wd), fX12_share_128 n v1 v2 v3 v5 v7 v9 v10 w = some r → XW K 128 [some (.ref 148), some (.int v1), some (.int v2), some (.long v3), none, some (.long v5), none, some (.long v7), none, some (.int v9), some (.int v10), none, none] [] w := by
  intro n
  induction n with
  | zero =>
    intro v1 v2 v3 v5 v7 v9 v10 w hf
    unfold fX12_share_128 at hf
    cases hf
  | succ n ih =>
    intro v1 v2 v3 v5 v7 v9 v10 w hf
    unfold fX12_share_128 at hf
    refine x_iload G dX12_share_128 rfl ?_
    refine x_bipush G (v := 10) dX12_share_130 (by decide) ?_
    refine x_icmpge G (tgt := 187) dX12_share_132 (by decide) hf (fun c_1 hf => ?_) (fun c_1 hf => ?_)
    · refine x_iload_n G dX12_share_135 rfl rfl ?_
      refine x_i2l G dX12_share_136 ?_
      refine x_aload_n G dX12_share_137 rfl rfl ?_
      refine x_iload G dX12_share_138 rfl ?_
      obtain ⟨v_2, hv_2, hf⟩ := bnd hf
      refine x_virI G (As := [.int v10]) (mX12_vestry G.2.2.2.2.2.2.1 M hv_2) mv_X12_358 (kd148 M) cl12 rfl rfl rfl rfl rfl dX12_share_140 ?_
      refine x_i2l G dX12_share_143 ?_
      refine x_lmul G dX12_share_144 ?_
      refine x_lload_n G dX12_share_145 rfl rfl ?_
      refine x_lremC G dX12_share_146 hf (fun hf => ?_)
      refine x_lstore G (lv' := [some (.ref 148), some (.int v1), some (.int v2), some (.long v3), none, some (.long v5), none, some (.long v7), none, some (.int v9), some (.int v10), some (.long (lrm (v1.toInt64 * v_2.toInt64) v3)), none]) dX12_share_147 rfl rfl rfl ?_
      refine x_iload G dX12_share_149 rfl ?_
      refine x_lload G dX12_share_151 rfl ?_
      refine x_lload G dX12_share_153 rfl ?_
      refine x_lcmp G dX12_share_155 ?_
      refine x_cgt G (tgt := 173) dX12_share_156 (by decide) hf (fun c_3 hf => ?_) (fun c_3 hf => ?_)
      · refine x_iconst G (v := 1) dX12_share_173 (by decide) ?_
        refine x_goto G (tgt := 178) dX12_share_174 (by decide) ?_
        refine x_iadd G dX12_share_178 ?_
        refine x_istore G (lv' := [some (.ref 148), some (.int v1), some (.int v2), some (.long v3), none, some (.long v5), none, some (.long v7), none, some (.int (v9 + (1 : Int32))), some (.int v10), some (.long (lrm (v1.toInt64 * v_2.toInt64) v3)), none]) dX12_share_179 rfl rfl rfl ?_
        refine x_iinc G (lv' := [some (.ref 148), some (.int v1), some (.int v2), some (.long v3), none, some (.long v5), none, some (.long v7), none, some (.int (v9 + (1 : Int32))), some (.int (v10 + (1 : Int32))), some (.long (lrm (v1.toInt64 * v_2.toInt64) v3)), none]) (v := 1) dX12_share_181 rfl (by decide) rfl rfl rfl ?_
        refine x_goto G (tgt := 128) dX12_share_184 (by decide) ?_
        exact XW.sub (lv' := [some (.ref 148), some (.int v1), some (.int v2), some (.long v3), none, some (.long v5), none, some (.long v7), none, some (.int (v9 + (1 : Int32))), some (.int (v10 + (1 : Int32))), none, none]) (And.intro rfl (And.intro rfl (And.intro rfl (And.intro rfl (And.intro rfl (And.intro rfl (And.intro rfl (And.intro rfl trivial)))))))) (ih _ _ _ _ _ _ _ _ hf)
      · refine x_lload G dX12_share_159 rfl ?_
        refine x_lload G dX12_share_161 rfl ?_
        refine x_lcmp G dX12_share_163 ?_
        refine x_cne G (tgt := 177) dX12_share_164 (by decide) hf (fun c_4 hf => ?_) (fun c_4 hf => ?_)
        · refine x_iload G dX12_share_167 rfl ?_
          refine x_iload_n G dX12_share_169 rfl rfl ?_
          refine x_icmpge G (tgt := 177) dX12_share_170 (by decide) hf (fun c_5 hf => ?_) (fun c_5 hf => ?_)
          · refine x_iconst G (v := 1) dX12_share_173 (by decide) ?_
            refine x_goto G (tgt := 178) dX12_share_174 (by decide) ?_
            refine x_iadd G dX12_share_178 ?_
            refine x_istore G (lv' := [some (.ref 148), some (.int v1), some (.int v2), some (.long v3), none, some (.long v5), none, some (.long v7), none, some (.int (v9 + (1 : Int32))), some (.int v10), some (.long (lrm (v1.toInt64 * v_2.toInt64) v3)), none]) dX12_share_179 rfl rfl rfl ?_
            refine x_iinc G (lv' := [some (.ref 148), some (.int v1), some (.int v2), some (.long v3), none, some (.long v5), none, some (.long v7), none, some (.int (v9 + (1 : Int32))), some (.int (v10 + (1 : Int32))), some (.long (lrm (v1.toInt64 * v_2.toInt64) v3)), none]) (v := 1) dX12_share_181 rfl (by decide) rfl rfl rfl ?_
            refine x_goto G (tgt := 128) dX12_share_184 (by decide) ?_
            exact XW.sub (lv' := [some (.ref 148), some (.int v1), some (.int v2), some (.long v3), none, some (.long v5), none, some (.long v7), none, some (.int (v9 + (1 : Int32))), some (.int (v10 + (1 : Int32))), none, none]) (And.intro rfl (And.intro rfl (And.intro rfl (And.intro rfl (And.intro rfl (And.intro rfl (And.intro rfl (And.intro rfl trivial)))))))) (ih _ _ _ _ _ _ _ _ hf)
          · exact XW.sub (lv' := [some (.ref 148), some (.int v1), some (.int v2), some (.long v3), none, some (.long v5), none, some (.long v7), none, none, some (.int v10), none, none]) (And.intro rfl (And.intro rfl (And.intro rfl (And.intro rfl (And.intro rfl (And.intro rfl (And.intro rfl trivial))))))) (xX12_share_177 G M (fX12_share_128 n) ih hf hr)
        · exact XW.sub (lv' := [some (.ref 148), some (.int v1), some (.int v2), some (.long v3), none, some (.long v5), none, some (.long v7), none, none, some (.int v10), none, none]) (And.intro rfl (And.intro rfl (And.intro rfl (And.intro rfl (And.intro rfl (And.intro rfl (And.intro rfl trivial))))))) (xX12_share_177 G M (fX12_share_128 n) ih hf hr)
    · refine x_iload_n G dX12_share_187 rfl rfl ?_
      refine x_i2l G dX12_share_188 ?_
      refine x_aload_n G dX12_share_189 rfl rfl ?_
      refine x_iload_n G dX12_share_190 rfl rfl ?_
      obtain ⟨v_6, hv_6, hf⟩ := bnd hf
      refine x_virI G (As := [.int v2]) (mX12_vestry G.2.2.2.2.2.2.1 M hv_6) mv_X12_358 (kd148 M) cl12 rfl rfl rfl rfl rfl dX12_share_191 ?_
      refine x_i2l G dX12_share_194 ?_
      refine x_lmul G dX12_share_195 ?_
      refine x_lload_n G dX12_share_196 rfl rfl ?_
      refine x_ldivC G dX12_share_197 hf (fun hf => ?_)
      refine x_l2i G dX12_share_198 ?_
      refine x_iload G dX12_share_199 rfl ?_
      refine x_i2l G dX12_share_201 ?_
      refine x_lload G dX12_share_202 rfl ?_
      refine x_lcmp G dX12_share_204 ?_
      refine x_cge G (tgt := 212) dX12_share_205 (by decide) hf (fun c_7 hf => ?_) (fun c_7 hf => ?_)
      · refine x_iconst G (v := 1) dX12_share_208 (by decide) ?_
        refine x_goto G (tgt := 213) dX12_share_209 (by decide) ?_
        refine x_iadd G dX12_share_213 ?_
        exact x_iretW G hf hr dX12_share_214
      · refine x_iconst G (v := 0) dX12_share_212 (by decide) ?_
        refine x_iadd G dX12_share_213 ?_
        exact x_iretW G hf hr dX12_share_214

set_option maxHeartbeats 4000000 in
set_option maxRecDepth 100000 in
theorem xX12_share_79 {K : KT} {r : Int32 × Wd} (G : GK K cX12_share RX12 13 3) (M : Main K.ks) (hr : RI K .int r.1 r.2) : ∀ (n : Nat) (v1 : Int32) (v2 : Int32) (v3 : Int64) (v5 : Int64) (v7 : Int32) (w : Wd), fX12_share_79 n v1 v2 v3 v5 v7 w = some r → XW K 79 [some (.ref 148), some (.int v1), some (.int v2), some (.long v3), none, some (.long v5), none, some (.int v7), none, none, none, none, none] [] w := by
  intro n
  induction n with
  | zero =>
    intro v1 v2 v3 v5 v7 w hf
    unfold fX12_share_79 at hf
    cases hf
  | succ n ih =>
    intro v1 v2 v3 v5 v7 w hf
    unfold fX12_share_79 at hf
    refine x_iload G dX12_share_79 rfl ?_
    refine x_bipush G (v := 10) dX12_share_81 (by decide) ?_
    refine x_icmpge G (tgt := 109) dX12_share_83 (by decide) hf (fun c_1 hf => ?_) (fun c_1 hf => ?_)
    · refine x_lload G dX12_share_86 rfl ?_
      refine x_iload_n G dX12_share_88 rfl rfl ?_
      refine x_i2l G dX12_share_89 ?_
      refine x_aload_n G dX12_share_90 rfl rfl ?_
      refine x_iload G dX12_share_91 rfl ?_
      obtain ⟨v_2, hv_2, hf⟩ := bnd hf
      refine x_virI G (As := [.int v7]) (mX12_vestry G.2.2.2.2.2.2.1 M hv_2) mv_X12_358 (kd148 M) cl12 rfl rfl rfl rfl rfl dX12_share_93 ?_
      refine x_i2l G dX12_share_96 ?_
      refine x_lmul G dX12_share_97 ?_
      refine x_lload_n G dX12_share_98 rfl rfl ?_
      refine x_ldivC G dX12_share_99 hf (fun hf => ?_)
      refine x_lsub G dX12_share_100 ?_
      refine x_lstore G (lv' := [some (.ref 148), some (.int v1), some (.int v2), some (.long v3), none, some (.long (v5 - ((v1.toInt64 * v_2.toInt64) / v3))), none, some (.int v7), none, none, none, none, none]) dX12_share_101 rfl rfl rfl ?_
      refine x_iinc G (lv' := [some (.ref 148), some (.int v1), some (.int v2), some (.long v3), none, some (.long (v5 - ((v1.toInt64 * v_2.toInt64) / v3))), none, some (.int (v7 + (1 : Int32))), none, none, none, none, none]) (v := 1) dX12_share_103 rfl (by decide) rfl rfl rfl ?_
      refine x_goto G (tgt := 79) dX12_share_106 (by decide) ?_
      exact XW.sub (lv' := [some (.ref 148), some (.int v1), some (.int v2), some (.long v3), none, some (.long (v5 - ((v1.toInt64 * v_2.toInt64) / v3))), none, some (.int (v7 + (1 : Int32))), none, none, none, none, none]) (And.intro rfl (And.intro rfl (And.intro rfl (And.intro rfl (And.intro rfl (And.intro rfl trivial)))))) (ih _ _ _ _ _ _ hf)
    · refine x_iload_n G dX12_share_109 rfl rfl ?_
      refine x_i2l G dX12_share_110 ?_
      refine x_aload_n G dX12_share_111 rfl rfl ?_
      refine x_iload_n G dX12_share_112 rfl rfl ?_
      obtain ⟨v_3, hv_3, hf⟩ := bnd hf
      refine x_virI G (As := [.int v2]) (mX12_vestry G.2.2.2.2.2.2.1 M hv_3) mv_X12_358 (kd148 M) cl12 rfl rfl rfl rfl rfl dX12_share_113 ?_
      refine x_i2l G dX12_share_116 ?_
      refine x_lmul G dX12_share_117 ?_
      refine x_lload_n G dX12_share_118 rfl rfl ?_
      refine x_lremC G dX12_share_119 hf (fun hf => ?_)
      refine x_lstore G (lv' := [some (.ref 148), some (.int v1), some (.int v2), some (.long v3), none, some (.long v5), none, some (.long (lrm (v1.toInt64 * v_3.toInt64) v3)), none, none, none, none, none]) dX12_share_120 rfl rfl rfl ?_
      refine x_iconst G (v := 0) dX12_share_122 (by decide) ?_
      refine x_istore G (lv' := [some (.ref 148), some (.int v1), some (.int v2), some (.long v3), none, some (.long v5), none, some (.long (lrm (v1.toInt64 * v_3.toInt64) v3)), none, some (.int (0 : Int32)), none, none, none]) dX12_share_123 rfl rfl rfl ?_
      refine x_iconst G (v := 0) dX12_share_125 (by decide) ?_
      refine x_istore G (lv' := [some (.ref 148), some (.int v1), some (.int v2), some (.long v3), none, some (.long v5), none, some (.long (lrm (v1.toInt64 * v_3.toInt64) v3)), none, some (.int (0 : Int32)), some (.int (0 : Int32)), none, none]) dX12_share_126 rfl rfl rfl ?_
      exact XW.sub (lv' := [some (.ref 148), some (.int v1), some (.int v2), some (.long v3), none, some (.long v5), none, some (.long (lrm (v1.toInt64 * v_3.toInt64) v3)), none, some (.int (0 : Int32)), some (.int (0 : Int32)), none, none]) (And.intro rfl (And.intro rfl (And.intro rfl (And.intro rfl (And.intro rfl (And.intro rfl (And.intro rfl (And.intro rfl trivial)))))))) (xX12_share_128 G M hr FU _ _ _ _ _ _ _ _ hf)

set_option maxHeartbeats 4000000 in
set_option maxRecDepth 100000 in
theorem xX12_share_36 {K : KT} {r : Int32 × Wd} (G : GK K cX12_share RX12 13 3) (M : Main K.ks) (hr : RI K .int r.1 r.2) : ∀ (n : Nat) (v1 : Int32) (v2 : Int32) (v3 : Int64) (v5 : Int32) (w : Wd), fX12_share_36 n v1 v2 v3 v5 w = some r → XW K 36 [some (.ref 148), some (.int v1), some (.int v2), some (.long v3), none, some (.int v5), none, none, none, none, none, none, none] [] w := by
  intro n
  induction n with
  | zero =>
    intro v1 v2 v3 v5 w hf
    unfold fX12_share_36 at hf
    cases hf
  | succ n ih =>
    intro v1 v2 v3 v5 w hf
    unfold fX12_share_36 at hf
    refine x_iload G dX12_share_36 rfl ?_
    refine x_bipush G (v := 10) dX12_share_38 (by decide) ?_
    refine x_icmpge G (tgt := 59) dX12_share_40 (by decide) hf (fun c_1 hf => ?_) (fun c_1 hf => ?_)
    · refine x_lload_n G dX12_share_43 rfl rfl ?_
      refine x_aload_n G dX12_share_44 rfl rfl ?_
      refine x_iload G dX12_share_45 rfl ?_
      obtain ⟨v_2, hv_2, hf⟩ := bnd hf
      refine x_virI G (As := [.int v5]) (mX12_vestry G.2.2.2.2.2.2.1 M hv_2) mv_X12_358 (kd148 M) cl12 rfl rfl rfl rfl rfl dX12_share_47 ?_
      refine x_i2l G dX12_share_50 ?_
      refine x_ladd G dX12_share_51 ?_
      refine x_lstore_n G (lv' := [some (.ref 148), some (.int v1), some (.int v2), some (.long (v3 + v_2.toInt64)), none, some (.int v5), none, none, none, none, none, none, none]) dX12_share_52 rfl rfl rfl rfl ?_
      refine x_iinc G (lv' := [some (.ref 148), some (.int v1), some (.int v2), some (.long (v3 + v_2.toInt64)), none, some (.int (v5 + (1 : Int32))), none, none, none, none, none, none, none]) (v := 1) dX12_share_53 rfl (by decide) rfl rfl rfl ?_
      refine x_goto G (tgt := 36) dX12_share_56 (by decide) ?_
      exact XW.sub (lv' := [some (.ref 148), some (.int v1), some (.int v2), some (.long (v3 + v_2.toInt64)), none, some (.int (v5 + (1 : Int32))), none, none, none, none, none, none, none]) (And.intro rfl (And.intro rfl (And.intro rfl (And.intro rfl (And.intro rfl trivial))))) (ih _ _ _ _ _ hf)
    · refine x_lload_n G dX12_share_59 rfl rfl ?_
      refine x_lconst G (v := 0) dX12_share_60 (by decide) ?_
      refine x_lcmp G dX12_share_61 ?_
      refine x_cne G (tgt := 72) dX12_share_62 (by decide) hf (fun c_3 hf => ?_) (fun c_3 hf => ?_)
      · refine x_aload_n G dX12_share_65 rfl rfl ?_
        refine x_bipush G (v := -16) dX12_share_66 (by decide) ?_
        obtain ⟨v_4, hv_4, hf⟩ := bnd hf
        refine x_virI G (As := [.int (-16 : Int32)]) (mX12_host G.2.2.2.2.2.2.1 M hv_4) mv_X12_131 (kd148 M) cl12 rfl rfl rfl rfl rfl dX12_share_68 ?_
        exact x_iretW G hf hr dX12_share_71
      · refine x_iload_n G dX12_share_72 rfl rfl ?_
        refine x_i2l G dX12_share_73 ?_
        refine x_lstore G (lv' := [some (.ref 148), some (.int v1), some (.int v2), some (.long v3), none, some (.long v1.toInt64), none, none, none, none, none, none, none]) dX12_share_74 rfl rfl rfl ?_
        refine x_iconst G (v := 0) dX12_share_76 (by decide) ?_
        refine x_istore G (lv' := [some (.ref 148), some (.int v1), some (.int v2), some (.long v3), none, some (.long v1.toInt64), none, some (.int (0 : Int32)), none, none, none, none, none]) dX12_share_77 rfl rfl rfl ?_
        exact XW.sub (lv' := [some (.ref 148), some (.int v1), some (.int v2), some (.long v3), none, some (.long v1.toInt64), none, some (.int (0 : Int32)), none, none, none, none, none]) (And.intro rfl (And.intro rfl (And.intro rfl (And.intro rfl (And.intro rfl (And.intro rfl trivial)))))) (xX12_share_79 G M hr FU _ _ _ _ _ _ hf)

set_option maxHeartbeats 4000000 in
set_option maxRecDepth 100000 in
theorem xX12_share_e {K : KT} {v1 : Int32} {v2 : Int32} {w : Wd} {r : Int32 × Wd} (G : GK K cX12_share RX12 13 3) (M : Main K.ks) (hf : fX12_share v1 v2 w = some r) (hr : RI K .int r.1 r.2) : XW K 0 [some (.ref 148), some (.int v1), some (.int v2), none, none, none, none, none, none, none, none, none, none] [] w := by
  unfold fX12_share at hf
  refine x_aload_n G dX12_share_0 rfl rfl ?_
  refine x_iconst G (v := 0) dX12_share_1 (by decide) ?_
  refine x_putI G (kd148 M) 0 rfl cl12 rfl wf_X12_1 rfl rfl rfl dX12_share_2 ?_
  refine nwr hf (fun w_1 hf => ?_)
  refine x_iload_n G dX12_share_5 rfl rfl ?_
  refine x_i2l G dX12_share_6 ?_
  refine x_lconst G (v := 0) dX12_share_7 (by decide) ?_
  refine x_ldc2 G wl_X12_350 dX12_share_8 ?_
  obtain ⟨v_2, hv_2, hf⟩ := bnd hf
  refine x_staI G (As := [.long v1.toInt64, .long (0 : Int64), .long (9999999 : Int64)]) (mX12_in G.2.2.2.2.2.2.1 M hv_2) ms_X12_93 rfl rfl rfl rfl rfl dX12_share_11 ?_
  refine x_ifeqB G (tgt := 29) dX12_share_14 (by decide) hf (fun c_3 hf => ?_) (fun c_3 hf => ?_)
  · refine x_iload_n G dX12_share_17 rfl rfl ?_
    refine x_i2l G dX12_share_18 ?_
    refine x_lconst G (v := 0) dX12_share_19 (by decide) ?_
    refine x_ldc2 G wl_X12_157 dX12_share_20 ?_
    obtain ⟨v_4, hv_4, hf⟩ := bnd hf
    refine x_staI G (As := [.long v2.toInt64, .long (0 : Int64), .long (9 : Int64)]) (mX12_in G.2.2.2.2.2.2.1 M hv_4) ms_X12_93 rfl rfl rfl rfl rfl dX12_share_23 ?_
    refine x_ifneB G (tgt := 31) dX12_share_26 (by decide) hf (fun c_5 hf => ?_) (fun c_5 hf => ?_)
    · refine x_lconst G (v := 0) dX12_share_31 (by decide) ?_
      refine x_lstore_n G (lv' := [some (.ref 148), some (.int v1), some (.int v2), some (.long (0 : Int64)), none, none, none, none, none, none, none, none, none]) dX12_share_32 rfl rfl rfl rfl ?_
      refine x_iconst G (v := 0) dX12_share_33 (by decide) ?_
      refine x_istore G (lv' := [some (.ref 148), some (.int v1), some (.int v2), some (.long (0 : Int64)), none, some (.int (0 : Int32)), none, none, none, none, none, none, none]) dX12_share_34 rfl rfl rfl ?_
      exact XW.sub (lv' := [some (.ref 148), some (.int v1), some (.int v2), some (.long (0 : Int64)), none, some (.int (0 : Int32)), none, none, none, none, none, none, none]) (And.intro rfl (And.intro rfl (And.intro rfl (And.intro rfl (And.intro rfl trivial))))) (xX12_share_36 G M hr FU _ _ _ _ _ hf)
    · refine x_iconst G (v := -1) dX12_share_29 (by decide) ?_
      exact x_iretW G hf hr dX12_share_30
  · refine x_iconst G (v := -1) dX12_share_29 (by decide) ?_
    exact x_iretW G hf hr dX12_share_30

theorem mX12_share {l : Launch} {S : KS} {w : Wd} (hI : Inj S) (M : Main S) {v1 : Int32} {v2 : Int32} {r : Int32 × Wd} (hf : fX12_share v1 v2 w = some r) : CI l yX12_share cX12_share 13 (some .int) 3 S [.ref 148, .int v1, .int v2] w r.1 r.2 := by
  intro sz
  refine mk_entry rfl (by decide +kernel) hI 10 rfl rfl (fun K h1 h2 h3 h4 h5 h6 G => ?_)
  subst h2
  exact xX12_share_e G M hf ⟨h3, by rw [h4, h6], h5⟩

set_option maxHeartbeats 4000000 in
set_option maxRecDepth 100000 in
theorem xX12_size_e {K : KT} {v1 : Int32} {w : Wd} {r : Int32 × Wd} (G : GK K cX12_size RX12 2 3) (M : Main K.ks) (hf : fX12_size v1 w = some r) (hr : RI K .int r.1 r.2) : XW K 0 [some (.ref 148), some (.int v1)] [] w := by
  unfold fX12_size at hf
  refine x_aload_n G dX12_size_0 rfl rfl ?_
  refine x_iconst G (v := 0) dX12_size_1 (by decide) ?_
  refine x_putI G (kd148 M) 0 rfl cl12 rfl wf_X12_1 rfl rfl rfl dX12_size_2 ?_
  refine nwr hf (fun w_1 hf => ?_)
  refine x_aload_n G dX12_size_5 rfl rfl ?_
  refine x_iload_n G dX12_size_6 rfl rfl ?_
  obtain ⟨v_2, hv_2, hf⟩ := bnd hf
  refine x_virI G (As := [.int v1]) (mX12_isLine G.2.2.2.2.2.2.1 M hv_2) mv_X12_188 (kd148 M) cl12 rfl rfl rfl rfl rfl dX12_size_7 ?_
  refine x_ifeqB G (tgt := 22) dX12_size_10 (by decide) hf (fun c_3 hf => ?_) (fun c_3 hf => ?_)
  · refine x_aload_n G dX12_size_13 rfl rfl ?_
    refine x_iload_n G dX12_size_14 rfl rfl ?_
    refine x_iconst G (v := 0) dX12_size_15 (by decide) ?_
    obtain ⟨v_4, hv_4, hf⟩ := bnd hf
    refine x_virI G (As := [.int v1, .int (0 : Int32)]) (mX12_l G.2.2.2.2.2.2.1 M hv_4) mv_X12_193 (kd148 M) cl12 rfl rfl rfl rfl rfl dX12_size_16 ?_
    refine x_goto G (tgt := 23) dX12_size_19 (by decide) ?_
    exact x_iretW G hf hr dX12_size_23
  · refine x_iconst G (v := -1) dX12_size_22 (by decide) ?_
    exact x_iretW G hf hr dX12_size_23

theorem mX12_size {l : Launch} {S : KS} {w : Wd} (hI : Inj S) (M : Main S) {v1 : Int32} {r : Int32 × Wd} (hf : fX12_size v1 w = some r) : CI l yX12_size cX12_size 2 (some .int) 3 S [.ref 148, .int v1] w r.1 r.2 := by
  intro sz
  refine mk_entry rfl (by decide +kernel) hI 0 rfl rfl (fun K h1 h2 h3 h4 h5 h6 G => ?_)
  subst h2
  exact xX12_size_e G M hf ⟨h3, by rw [h4, h6], h5⟩

set_option maxHeartbeats 4000000 in
set_option maxRecDepth 100000 in
theorem xX12_stop_68 {K : KT} {s1 : Int32} {s2 : Int32} {w : Wd} {r : Int32 × Wd} (G : GK K cX12_stop RX12 3 3) (M : Main K.ks) (hf : fX12_stop_68 s1 s2 w = some r) (hr : RI K .int r.1 r.2) : XW K 68 [none, none, none] [.int s2, .int s1, .ref 149] w := by
  unfold fX12_stop_68 at hf
  refine x_iast G (kd149 M) dX12_stop_68 hf (fun hb_1 hf => ?_)
  refine nwr hf (fun w_2 hf => ?_)
  refine x_iconst G (v := 1) dX12_stop_69 (by decide) ?_
  exact x_iretW G hf hr dX12_stop_70

set_option maxHeartbeats 4000000 in
set_option maxRecDepth 100000 in
theorem xX12_stop_39 {K : KT} {v1 : Int32} {v2 : Int32} {s0 : Int32} {w : Wd} {r : Int32 × Wd} (G : GK K cX12_stop RX12 3 3) (M : Main K.ks) (hf : fX12_stop_39 v1 v2 s0 w = some r) (hr : RI K .int r.1 r.2) : XW K 39 [some (.ref 148), some (.int v1), some (.int v2)] [.int s0] w := by
  unfold fX12_stop_39 at hf
  refine x_iload_n G dX12_stop_39 rfl rfl ?_
  refine x_icmpne G (tgt := 45) dX12_stop_40 (by decide) hf (fun c_1 hf => ?_) (fun c_1 hf => ?_)
  · refine x_iconst G (v := 0) dX12_stop_43 (by decide) ?_
    exact x_iretW G hf hr dX12_stop_44
  · refine x_aload_n G dX12_stop_45 rfl rfl ?_
    refine x_getR G (kd148 M) 1 (b := 149) rfl cl12 rfl wf_X12_13 dX12_stop_46 ?_
    refine x_sipush G (v := 1500) dX12_stop_49 (by decide) ?_
    refine x_bipush G (v := 10) dX12_stop_52 (by decide) ?_
    refine x_iload_n G dX12_stop_54 rfl rfl ?_
    refine x_imul G dX12_stop_55 ?_
    refine x_iadd G dX12_stop_56 ?_
    refine x_iconst G (v := 4) dX12_stop_57 (by decide) ?_
    refine x_iadd G dX12_stop_58 ?_
    refine x_iload_n G dX12_stop_59 rfl rfl ?_
    refine x_ifeq G (tgt := 67) dX12_stop_60 (by decide) hf (fun c_2 hf => ?_) (fun c_2 hf => ?_)
    · refine x_iconst G (v := 0) dX12_stop_67 (by decide) ?_
      exact XW.sub (lv' := [none, none, none]) trivial (xX12_stop_68 G M hf hr)
    · refine x_iconst G (v := 1) dX12_stop_63 (by decide) ?_
      refine x_goto G (tgt := 68) dX12_stop_64 (by decide) ?_
      exact XW.sub (lv' := [none, none, none]) trivial (xX12_stop_68 G M hf hr)

set_option maxHeartbeats 4000000 in
set_option maxRecDepth 100000 in
theorem xX12_stop_e {K : KT} {v1 : Int32} {v2 : Int32} {w : Wd} {r : Int32 × Wd} (G : GK K cX12_stop RX12 3 3) (M : Main K.ks) (hf : fX12_stop v1 v2 w = some r) (hr : RI K .int r.1 r.2) : XW K 0 [some (.ref 148), some (.int v1), some (.int v2)] [] w := by
  unfold fX12_stop at hf
  refine x_aload_n G dX12_stop_0 rfl rfl ?_
  refine x_iconst G (v := 0) dX12_stop_1 (by decide) ?_
  refine x_putI G (kd148 M) 0 rfl cl12 rfl wf_X12_1 rfl rfl rfl dX12_stop_2 ?_
  refine nwr hf (fun w_1 hf => ?_)
  refine x_iload_n G dX12_stop_5 rfl rfl ?_
  obtain ⟨v_2, hv_2, hf⟩ := bnd hf
  refine x_staI G (As := [.int v1]) (mX12_isCell G.2.2.2.2.2.2.1 M hv_2) ms_X12_105 rfl rfl rfl rfl rfl dX12_stop_6 ?_
  refine x_ifeqB G (tgt := 22) dX12_stop_9 (by decide) hf (fun c_3 hf => ?_) (fun c_3 hf => ?_)
  · refine x_aload_n G dX12_stop_12 rfl rfl ?_
    refine x_iload_n G dX12_stop_13 rfl rfl ?_
    refine x_iconst G (v := 0) dX12_stop_14 (by decide) ?_
    obtain ⟨v_4, hv_4, hf⟩ := bnd hf
    refine x_virI G (As := [.int v1, .int (0 : Int32)]) (mX12_h G.2.2.2.2.2.2.1 M hv_4) mv_X12_226 (kd148 M) cl12 rfl rfl rfl rfl rfl dX12_stop_15 ?_
    refine x_iconst G (v := 1) dX12_stop_18 (by decide) ?_
    refine x_icmpeq G (tgt := 24) dX12_stop_19 (by decide) hf (fun c_5 hf => ?_) (fun c_5 hf => ?_)
    · refine x_aload_n G dX12_stop_24 rfl rfl ?_
      refine x_iload_n G dX12_stop_25 rfl rfl ?_
      refine x_iconst G (v := 4) dX12_stop_26 (by decide) ?_
      obtain ⟨v_6, hv_6, hf⟩ := bnd hf
      refine x_virI G (As := [.int v1, .int (4 : Int32)]) (mX12_h G.2.2.2.2.2.2.1 M hv_6) mv_X12_226 (kd148 M) cl12 rfl rfl rfl rfl rfl dX12_stop_27 ?_
      refine x_iconst G (v := 1) dX12_stop_30 (by decide) ?_
      refine x_icmpne G (tgt := 38) dX12_stop_31 (by decide) hf (fun c_7 hf => ?_) (fun c_7 hf => ?_)
      · refine x_iconst G (v := 1) dX12_stop_34 (by decide) ?_
        refine x_goto G (tgt := 39) dX12_stop_35 (by decide) ?_
        exact (xX12_stop_39 G M hf hr)
      · refine x_iconst G (v := 0) dX12_stop_38 (by decide) ?_
        exact (xX12_stop_39 G M hf hr)
    · refine x_iconst G (v := -1) dX12_stop_22 (by decide) ?_
      exact x_iretW G hf hr dX12_stop_23
  · refine x_iconst G (v := -1) dX12_stop_22 (by decide) ?_
    exact x_iretW G hf hr dX12_stop_23

theorem mX12_stop {l : Launch} {S : KS} {w : Wd} (hI : Inj S) (M : Main S) {v1 : Int32} {v2 : Int32} {r : Int32 × Wd} (hf : fX12_stop v1 v2 w = some r) : CI l yX12_stop cX12_stop 3 (some .int) 3 S [.ref 148, .int v1, .int v2] w r.1 r.2 := by
  intro sz
  refine mk_entry rfl (by decide +kernel) hI 0 rfl rfl (fun K h1 h2 h3 h4 h5 h6 G => ?_)
  subst h2
  exact xX12_stop_e G M hf ⟨h3, by rw [h4, h6], h5⟩

set_option maxHeartbeats 4000000 in
set_option maxRecDepth 100000 in
theorem xX12_take_142 {K : KT} {r : Int32 × Wd} (G : GK K cX12_take RX12 6 2) (M : Main K.ks) (hr : RI K .int r.1 r.2) : ∀ (n : Nat) (v3 : Int32) (v4 : Int32) (w : Wd), fX12_take_142 n v3 v4 w = some r → XW K 142 [some (.ref 148), none, none, some (.int v3), some (.int v4), none] [] w := by
  intro n
  induction n with
  | zero =>
    intro v3 v4 w hf
    unfold fX12_take_142 at hf
    cases hf
  | succ n ih =>
    intro v3 v4 w hf
    unfold fX12_take_142 at hf
    refine x_iload G dX12_take_142 rfl ?_
    refine x_aload_n G dX12_take_144 rfl rfl ?_
    refine x_getI G (kd148 M) 6 rfl cl12 rfl wf_X12_85 dX12_take_145 ?_
    refine x_icmpge G (tgt := 244) dX12_take_148 (by decide) hf (fun c_1 hf => ?_) (fun c_1 hf => ?_)
    · refine x_aload_n G dX12_take_151 rfl rfl ?_
      refine x_iload_n G dX12_take_152 rfl rfl ?_
      refine x_iload G dX12_take_153 rfl ?_
      obtain ⟨v_2, hv_2, hf⟩ := bnd hf
      refine x_virI G (As := [.int v3, .int v4]) (mX12_spot G.2.2.2.2.2.2.1 M hv_2) mv_X12_185 (kd148 M) cl12 rfl rfl rfl rfl rfl dX12_take_155 ?_
      refine x_istore G (lv' := [some (.ref 148), none, none, some (.int v3), some (.int v4), some (.int v_2)]) dX12_take_158 rfl rfl rfl ?_
      refine x_aload_n G dX12_take_160 rfl rfl ?_
      refine x_getR G (kd148 M) 1 (b := 149) rfl cl12 rfl wf_X12_13 dX12_take_161 ?_
      refine x_iload G dX12_take_164 rfl ?_
      refine x_iconst G (v := 0) dX12_take_166 (by decide) ?_
      refine x_iadd G dX12_take_167 ?_
      refine x_aload_n G dX12_take_168 rfl rfl ?_
      refine x_getR G (kd148 M) 5 (b := 151) rfl cl12 rfl wf_X12_20 dX12_take_169 ?_
      refine x_iload G dX12_take_172 rfl ?_
      refine x_iald G (kd151 M) dX12_take_174 hf (fun hb_3 hf => ?_)
      refine x_iast G (kd149 M) dX12_take_175 hf (fun hb_4 hf => ?_)
      refine nwr hf (fun w_5 hf => ?_)
      refine x_aload_n G dX12_take_176 rfl rfl ?_
      refine x_getR G (kd148 M) 1 (b := 149) rfl cl12 rfl wf_X12_13 dX12_take_177 ?_
      refine x_iload G dX12_take_180 rfl ?_
      refine x_iconst G (v := 1) dX12_take_182 (by decide) ?_
      refine x_iadd G dX12_take_183 ?_
      refine x_aload_n G dX12_take_184 rfl rfl ?_
      refine x_getI G (kd148 M) 7 rfl cl12 rfl wf_X12_179 dX12_take_185 ?_
      refine x_aload_n G dX12_take_188 rfl rfl ?_
      refine x_getI G (kd148 M) 8 rfl cl12 rfl wf_X12_182 dX12_take_189 ?_
      refine x_iload G dX12_take_192 rfl ?_
      refine x_imul G dX12_take_194 ?_
      refine x_isub G dX12_take_195 ?_
      refine x_iast G (kd149 M) dX12_take_196 hf (fun hb_6 hf => ?_)
      refine nwr hf (fun w_7 hf => ?_)
      refine x_aload_n G dX12_take_197 rfl rfl ?_
      refine x_getR G (kd148 M) 1 (b := 149) rfl cl12 rfl wf_X12_13 dX12_take_198 ?_
      refine x_iload G dX12_take_201 rfl ?_
      refine x_iconst G (v := 2) dX12_take_203 (by decide) ?_
      refine x_iadd G dX12_take_204 ?_
      refine x_iconst G (v := 0) dX12_take_205 (by decide) ?_
      refine x_iast G (kd149 M) dX12_take_206 hf (fun hb_8 hf => ?_)
      refine nwr hf (fun w_9 hf => ?_)
      refine x_aload_n G dX12_take_207 rfl rfl ?_
      refine x_getR G (kd148 M) 1 (b := 149) rfl cl12 rfl wf_X12_13 dX12_take_208 ?_
      refine x_iload G dX12_take_211 rfl ?_
      refine x_iconst G (v := 3) dX12_take_213 (by decide) ?_
      refine x_iadd G dX12_take_214 ?_
      refine x_bipush G (v := -9) dX12_take_215 (by decide) ?_
      refine x_iast G (kd149 M) dX12_take_217 hf (fun hb_10 hf => ?_)
      refine nwr hf (fun w_11 hf => ?_)
      refine x_aload_n G dX12_take_218 rfl rfl ?_
      refine x_getR G (kd148 M) 1 (b := 149) rfl cl12 rfl wf_X12_13 dX12_take_219 ?_
      refine x_iload G dX12_take_222 rfl ?_
      refine x_iconst G (v := 4) dX12_take_224 (by decide) ?_
      refine x_iadd G dX12_take_225 ?_
      refine x_iconst G (v := 0) dX12_take_226 (by decide) ?_
      refine x_iast G (kd149 M) dX12_take_227 hf (fun hb_12 hf => ?_)
      refine nwr hf (fun w_13 hf => ?_)
      refine x_aload_n G dX12_take_228 rfl rfl ?_
      refine x_getR G (kd148 M) 1 (b := 149) rfl cl12 rfl wf_X12_13 dX12_take_229 ?_
      refine x_iload G dX12_take_232 rfl ?_
      refine x_iconst G (v := 5) dX12_take_234 (by decide) ?_
      refine x_iadd G dX12_take_235 ?_
      refine x_iconst G (v := 0) dX12_take_236 (by decide) ?_
      refine x_iast G (kd149 M) dX12_take_237 hf (fun hb_14 hf => ?_)
      refine nwr hf (fun w_15 hf => ?_)
      refine x_iinc G (lv' := [some (.ref 148), none, none, some (.int v3), some (.int (v4 + (1 : Int32))), some (.int v_2)]) (v := 1) dX12_take_238 rfl (by decide) rfl rfl rfl ?_
      refine x_goto G (tgt := 142) dX12_take_241 (by decide) ?_
      exact XW.sub (lv' := [some (.ref 148), none, none, some (.int v3), some (.int (v4 + (1 : Int32))), none]) (And.intro rfl (And.intro rfl (And.intro rfl trivial))) (ih _ _ _ hf)
    · refine x_iload_n G dX12_take_244 rfl rfl ?_
      exact x_iretW G hf hr dX12_take_245

set_option maxHeartbeats 4000000 in
set_option maxRecDepth 100000 in
theorem xX12_take_e {K : KT} {v1 : Int32} {v2 : Int32} {w : Wd} {r : Int32 × Wd} (G : GK K cX12_take RX12 6 2) (M : Main K.ks) (hf : fX12_take v1 v2 w = some r) (hr : RI K .int r.1 r.2) : XW K 0 [some (.ref 148), some (.int v1), some (.int v2), none, none, none] [] w := by
  unfold fX12_take at hf
  refine x_aload_n G dX12_take_0 rfl rfl ?_
  refine x_iconst G (v := 0) dX12_take_1 (by decide) ?_
  refine x_putI G (kd148 M) 0 rfl cl12 rfl wf_X12_1 rfl rfl rfl dX12_take_2 ?_
  refine nwr hf (fun w_1 hf => ?_)
  refine x_iload_n G dX12_take_5 rfl rfl ?_
  refine x_i2l G dX12_take_6 ?_
  refine x_lconst G (v := 1) dX12_take_7 (by decide) ?_
  refine x_ldc2 G wl_X12_157 dX12_take_8 ?_
  obtain ⟨v_2, hv_2, hf⟩ := bnd hf
  refine x_staI G (As := [.long v1.toInt64, .long (1 : Int64), .long (9 : Int64)]) (mX12_in G.2.2.2.2.2.2.1 M hv_2) ms_X12_93 rfl rfl rfl rfl rfl dX12_take_11 ?_
  refine x_ifeqB G (tgt := 27) dX12_take_14 (by decide) hf (fun c_3 hf => ?_) (fun c_3 hf => ?_)
  · refine x_iload_n G dX12_take_17 rfl rfl ?_
    refine x_i2l G dX12_take_18 ?_
    refine x_lconst G (v := 0) dX12_take_19 (by decide) ?_
    refine x_lconst G (v := 1) dX12_take_20 (by decide) ?_
    obtain ⟨v_4, hv_4, hf⟩ := bnd hf
    refine x_staI G (As := [.long v2.toInt64, .long (0 : Int64), .long (1 : Int64)]) (mX12_in G.2.2.2.2.2.2.1 M hv_4) ms_X12_93 rfl rfl rfl rfl rfl dX12_take_21 ?_
    refine x_ifneB G (tgt := 29) dX12_take_24 (by decide) hf (fun c_5 hf => ?_) (fun c_5 hf => ?_)
    · refine x_aload_n G dX12_take_29 rfl rfl ?_
      refine x_getI G (kd148 M) 6 rfl cl12 rfl wf_X12_85 dX12_take_30 ?_
      refine x_ifne G (tgt := 39) dX12_take_33 (by decide) hf (fun c_6 hf => ?_) (fun c_6 hf => ?_)
      · refine x_bipush G (v := -3) dX12_take_36 (by decide) ?_
        exact x_iretW G hf hr dX12_take_38
      · refine x_aload_n G dX12_take_39 rfl rfl ?_
        refine x_bipush G (v := 15) dX12_take_40 (by decide) ?_
        obtain ⟨v_7, hv_7, hf⟩ := bnd hf
        refine x_virI G (As := [.int (15 : Int32)]) (mX12_g G.2.2.2.2.2.2.1 M hv_7) mv_X12_101 (kd148 M) cl12 rfl rfl rfl rfl rfl dX12_take_42 ?_
        refine x_bipush G (v := 8) dX12_take_45 (by decide) ?_
        refine x_icmpne G (tgt := 53) dX12_take_47 (by decide) hf (fun c_8 hf => ?_) (fun c_8 hf => ?_)
        · refine x_bipush G (v := -2) dX12_take_50 (by decide) ?_
          exact x_iretW G hf hr dX12_take_52
        · refine x_aload_n G dX12_take_53 rfl rfl ?_
          refine x_bipush G (v := 15) dX12_take_54 (by decide) ?_
          obtain ⟨v_9, hv_9, hf⟩ := bnd hf
          refine x_virI G (As := [.int (15 : Int32)]) (mX12_g G.2.2.2.2.2.2.1 M hv_9) mv_X12_101 (kd148 M) cl12 rfl rfl rfl rfl rfl dX12_take_56 ?_
          refine x_istore_n G (lv' := [some (.ref 148), some (.int v1), some (.int v2), some (.int v_9), none, none]) dX12_take_59 rfl rfl rfl rfl ?_
          refine x_aload_n G dX12_take_60 rfl rfl ?_
          refine x_getR G (kd148 M) 1 (b := 149) rfl cl12 rfl wf_X12_13 dX12_take_61 ?_
          refine x_sipush G (v := 4315) dX12_take_64 (by decide) ?_
          refine x_dup2 G dX12_take_67 rfl rfl ?_
          refine x_iald0 G (kd149 M) dX12_take_68 (by decide) ?_
          refine x_iconst G (v := 1) dX12_take_69 (by decide) ?_
          refine x_iadd G dX12_take_70 ?_
          refine x_iast0 G (kd149 M) dX12_take_71 (by decide) ?_
          refine nwr hf (fun w_10 hf => ?_)
          refine x_aload_n G dX12_take_72 rfl rfl ?_
          refine x_getR G (kd148 M) 1 (b := 149) rfl cl12 rfl wf_X12_13 dX12_take_73 ?_
          refine x_sipush G (v := 3300) dX12_take_76 (by decide) ?_
          refine x_bipush G (v := 125) dX12_take_79 (by decide) ?_
          refine x_iload_n G dX12_take_81 rfl rfl ?_
          refine x_imul G dX12_take_82 ?_
          refine x_iadd G dX12_take_83 ?_
          refine x_iconst G (v := 0) dX12_take_84 (by decide) ?_
          refine x_iadd G dX12_take_85 ?_
          refine x_aload_n G dX12_take_86 rfl rfl ?_
          refine x_getI G (kd148 M) 6 rfl cl12 rfl wf_X12_85 dX12_take_87 ?_
          refine x_iast G (kd149 M) dX12_take_90 hf (fun hb_11 hf => ?_)
          refine nwr hf (fun w_12 hf => ?_)
          refine x_aload_n G dX12_take_91 rfl rfl ?_
          refine x_getR G (kd148 M) 1 (b := 149) rfl cl12 rfl wf_X12_13 dX12_take_92 ?_
          refine x_sipush G (v := 3300) dX12_take_95 (by decide) ?_
          refine x_bipush G (v := 125) dX12_take_98 (by decide) ?_
          refine x_iload_n G dX12_take_100 rfl rfl ?_
          refine x_imul G dX12_take_101 ?_
          refine x_iadd G dX12_take_102 ?_
          refine x_iconst G (v := 1) dX12_take_103 (by decide) ?_
          refine x_iadd G dX12_take_104 ?_
          refine x_iload_n G dX12_take_105 rfl rfl ?_
          refine x_iast G (kd149 M) dX12_take_106 hf (fun hb_13 hf => ?_)
          refine nwr hf (fun w_14 hf => ?_)
          refine x_aload_n G dX12_take_107 rfl rfl ?_
          refine x_getR G (kd148 M) 1 (b := 149) rfl cl12 rfl wf_X12_13 dX12_take_108 ?_
          refine x_sipush G (v := 3300) dX12_take_111 (by decide) ?_
          refine x_bipush G (v := 125) dX12_take_114 (by decide) ?_
          refine x_iload_n G dX12_take_116 rfl rfl ?_
          refine x_imul G dX12_take_117 ?_
          refine x_iadd G dX12_take_118 ?_
          refine x_iconst G (v := 2) dX12_take_119 (by decide) ?_
          refine x_iadd G dX12_take_120 ?_
          refine x_iload_n G dX12_take_121 rfl rfl ?_
          refine x_iast G (kd149 M) dX12_take_122 hf (fun hb_15 hf => ?_)
          refine nwr hf (fun w_16 hf => ?_)
          refine x_aload_n G dX12_take_123 rfl rfl ?_
          refine x_getR G (kd148 M) 1 (b := 149) rfl cl12 rfl wf_X12_13 dX12_take_124 ?_
          refine x_sipush G (v := 3300) dX12_take_127 (by decide) ?_
          refine x_bipush G (v := 125) dX12_take_130 (by decide) ?_
          refine x_iload_n G dX12_take_132 rfl rfl ?_
          refine x_imul G dX12_take_133 ?_
          refine x_iadd G dX12_take_134 ?_
          refine x_iconst G (v := 3) dX12_take_135 (by decide) ?_
          refine x_iadd G dX12_take_136 ?_
          refine x_iconst G (v := 0) dX12_take_137 (by decide) ?_
          refine x_iast G (kd149 M) dX12_take_138 hf (fun hb_17 hf => ?_)
          refine nwr hf (fun w_18 hf => ?_)
          refine x_iconst G (v := 0) dX12_take_139 (by decide) ?_
          refine x_istore G (lv' := [some (.ref 148), some (.int v1), some (.int v2), some (.int v_9), some (.int (0 : Int32)), none]) dX12_take_140 rfl rfl rfl ?_
          exact XW.sub (lv' := [some (.ref 148), none, none, some (.int v_9), some (.int (0 : Int32)), none]) (And.intro rfl (And.intro rfl (And.intro rfl trivial))) (xX12_take_142 G M hr FU _ _ _ hf)
    · refine x_iconst G (v := -1) dX12_take_27 (by decide) ?_
      exact x_iretW G hf hr dX12_take_28
  · refine x_iconst G (v := -1) dX12_take_27 (by decide) ?_
    exact x_iretW G hf hr dX12_take_28

theorem mX12_take {l : Launch} {S : KS} {w : Wd} (hI : Inj S) (M : Main S) {v1 : Int32} {v2 : Int32} {r : Int32 × Wd} (hf : fX12_take v1 v2 w = some r) : CI l yX12_take cX12_take 6 (some .int) 2 S [.ref 148, .int v1, .int v2] w r.1 r.2 := by
  intro sz
  refine mk_entry rfl (by decide +kernel) hI 3 rfl rfl (fun K h1 h2 h3 h4 h5 h6 G => ?_)
  subst h2
  exact xX12_take_e G M hf ⟨h3, by rw [h4, h6], h5⟩

set_option maxHeartbeats 4000000 in
set_option maxRecDepth 100000 in
theorem xX12_tape_55 {K : KT} {r : Int32 × Wd} (G : GK K cX12_tape RX12 5 3) (M : Main K.ks) (hr : RI K .int r.1 r.2) : ∀ (n : Nat) (v1 : Int32) (v3 : Int32) (v4 : Int32) (w : Wd), fX12_tape_55 n v1 v3 v4 w = some r → XW K 55 [some (.ref 148), some (.int v1), none, some (.int v3), some (.int v4)] [] w := by
  intro n
  induction n with
  | zero =>
    intro v1 v3 v4 w hf
    unfold fX12_tape_55 at hf
    cases hf
  | succ n ih =>
    intro v1 v3 v4 w hf
    unfold fX12_tape_55 at hf
    refine x_iload G dX12_tape_55 rfl ?_
    refine x_bipush G (v := 100) dX12_tape_57 (by decide) ?_
    refine x_icmpge G (tgt := 81) dX12_tape_59 (by decide) hf (fun c_1 hf => ?_) (fun c_1 hf => ?_)
    · refine x_aload_n G dX12_tape_62 rfl rfl ?_
      refine x_getR G (kd148 M) 31 (b := 167) rfl cl12 rfl wf_X12_69 dX12_tape_63 ?_
      refine x_bipush G (v := 100) dX12_tape_66 (by decide) ?_
      refine x_iload_n G dX12_tape_68 rfl rfl ?_
      refine x_imul G dX12_tape_69 ?_
      refine x_iload G dX12_tape_70 rfl ?_
      refine x_iadd G dX12_tape_72 ?_
      refine x_lconst G (v := 0) dX12_tape_73 (by decide) ?_
      refine x_last G (kd167 M) dX12_tape_74 hf (fun hb_2 hf => ?_)
      refine nwr hf (fun w_3 hf => ?_)
      refine x_iinc G (lv' := [some (.ref 148), some (.int v1), none, some (.int v3), some (.int (v4 + (1 : Int32)))]) (v := 1) dX12_tape_75 rfl (by decide) rfl rfl rfl ?_
      refine x_goto G (tgt := 55) dX12_tape_78 (by decide) ?_
      exact XW.sub (lv' := [some (.ref 148), some (.int v1), none, some (.int v3), some (.int (v4 + (1 : Int32)))]) (And.intro rfl (And.intro rfl (And.intro rfl (And.intro rfl trivial)))) (ih _ _ _ _ hf)
    · refine x_iload_n G dX12_tape_81 rfl rfl ?_
      exact x_iretW G hf hr dX12_tape_82

set_option maxHeartbeats 4000000 in
set_option maxRecDepth 100000 in
theorem xX12_tape_e {K : KT} {v1 : Int32} {v2 : Int32} {v3 : Int32} {w : Wd} {r : Int32 × Wd} (G : GK K cX12_tape RX12 5 3) (M : Main K.ks) (hf : fX12_tape v1 v2 v3 w = some r) (hr : RI K .int r.1 r.2) : XW K 0 [some (.ref 148), some (.int v1), some (.int v2), some (.int v3), none] [] w := by
  unfold fX12_tape at hf
  refine x_aload_n G dX12_tape_0 rfl rfl ?_
  refine x_iconst G (v := 0) dX12_tape_1 (by decide) ?_
  refine x_putI G (kd148 M) 0 rfl cl12 rfl wf_X12_1 rfl rfl rfl dX12_tape_2 ?_
  refine nwr hf (fun w_1 hf => ?_)
  refine x_iload_n G dX12_tape_5 rfl rfl ?_
  obtain ⟨v_2, hv_2, hf⟩ := bnd hf
  refine x_staI G (As := [.int v1]) (mX12_isTape G.2.2.2.2.2.2.1 M hv_2) ms_X12_128 rfl rfl rfl rfl rfl dX12_tape_6 ?_
  refine x_ifeqB G (tgt := 25) dX12_tape_9 (by decide) hf (fun c_3 hf => ?_) (fun c_3 hf => ?_)
  · refine x_iload_n G dX12_tape_12 rfl rfl ?_
    obtain ⟨v_4, hv_4, hf⟩ := bnd hf
    refine x_staI G (As := [.int v2]) (mX12_isRow G.2.2.2.2.2.2.1 M hv_4) ms_X12_361 rfl rfl rfl rfl rfl dX12_tape_13 ?_
    refine x_ifeqB G (tgt := 25) dX12_tape_16 (by decide) hf (fun c_5 hf => ?_) (fun c_5 hf => ?_)
    · refine x_iload_n G dX12_tape_19 rfl rfl ?_
      refine x_bipush G (v := 100) dX12_tape_20 (by decide) ?_
      refine x_icmple G (tgt := 27) dX12_tape_22 (by decide) hf (fun c_6 hf => ?_) (fun c_6 hf => ?_)
      · refine x_iconst G (v := -1) dX12_tape_25 (by decide) ?_
        exact x_iretW G hf hr dX12_tape_26
      · refine x_iload_n G dX12_tape_27 rfl rfl ?_
        refine x_ifge G (tgt := 38) dX12_tape_28 (by decide) hf (fun c_7 hf => ?_) (fun c_7 hf => ?_)
        · refine x_aload_n G dX12_tape_31 rfl rfl ?_
          refine x_bipush G (v := -14) dX12_tape_32 (by decide) ?_
          obtain ⟨v_8, hv_8, hf⟩ := bnd hf
          refine x_virI G (As := [.int (-14 : Int32)]) (mX12_host G.2.2.2.2.2.2.1 M hv_8) mv_X12_131 (kd148 M) cl12 rfl rfl rfl rfl rfl dX12_tape_34 ?_
          exact x_iretW G hf hr dX12_tape_37
        · refine x_aload_n G dX12_tape_38 rfl rfl ?_
          refine x_getR G (kd148 M) 29 (b := 165) rfl cl12 rfl wf_X12_63 dX12_tape_39 ?_
          refine x_iload_n G dX12_tape_42 rfl rfl ?_
          refine x_iload_n G dX12_tape_43 rfl rfl ?_
          refine x_iast G (kd165 M) dX12_tape_44 hf (fun hb_9 hf => ?_)
          refine nwr hf (fun w_10 hf => ?_)
          refine x_aload_n G dX12_tape_45 rfl rfl ?_
          refine x_getR G (kd148 M) 30 (b := 166) rfl cl12 rfl wf_X12_66 dX12_tape_46 ?_
          refine x_iload_n G dX12_tape_49 rfl rfl ?_
          refine x_iload_n G dX12_tape_50 rfl rfl ?_
          refine x_iast0 G (kd166 M) dX12_tape_51 hb_9 ?_
          refine nwr hf (fun w_11 hf => ?_)
          refine x_iconst G (v := 0) dX12_tape_52 (by decide) ?_
          refine x_istore G (lv' := [some (.ref 148), some (.int v1), some (.int v2), some (.int v3), some (.int (0 : Int32))]) dX12_tape_53 rfl rfl rfl ?_
          exact XW.sub (lv' := [some (.ref 148), some (.int v1), none, some (.int v3), some (.int (0 : Int32))]) (And.intro rfl (And.intro rfl (And.intro rfl (And.intro rfl trivial)))) (xX12_tape_55 G M hr FU _ _ _ _ hf)
    · refine x_iconst G (v := -1) dX12_tape_25 (by decide) ?_
      exact x_iretW G hf hr dX12_tape_26
  · refine x_iconst G (v := -1) dX12_tape_25 (by decide) ?_
    exact x_iretW G hf hr dX12_tape_26

theorem mX12_tape {l : Launch} {S : KS} {w : Wd} (hI : Inj S) (M : Main S) {v1 : Int32} {v2 : Int32} {v3 : Int32} {r : Int32 × Wd} (hf : fX12_tape v1 v2 v3 w = some r) : CI l yX12_tape cX12_tape 5 (some .int) 3 S [.ref 148, .int v1, .int v2, .int v3] w r.1 r.2 := by
  intro sz
  refine mk_entry rfl (by decide +kernel) hI 1 rfl rfl (fun K h1 h2 h3 h4 h5 h6 G => ?_)
  subst h2
  exact xX12_tape_e G M hf ⟨h3, by rw [h4, h6], h5⟩

set_option maxHeartbeats 4000000 in
set_option maxRecDepth 100000 in
theorem xX12_thrown_e {K : KT} {w : Wd} {r : Int32} (G : GK K cX12_thrown RX12 1 1) (M : Main K.ks) (hf : fX12_thrown w = some r) (hr : RI K .int r w) : XW K 0 [some (.ref 148)] [] w := by
  unfold fX12_thrown at hf
  refine x_aload_n G dX12_thrown_0 rfl rfl ?_
  refine x_getI G (kd148 M) 0 rfl cl12 rfl wf_X12_1 dX12_thrown_1 ?_
  exact x_iretP G hf hr dX12_thrown_4

theorem mX12_thrown {l : Launch} {S : KS} {w : Wd} (hI : Inj S) (M : Main S) {r : Int32} (hf : fX12_thrown w = some r) : CI l yX12_thrown cX12_thrown 1 (some .int) 1 S [.ref 148] w r w := by
  intro sz
  refine mk_entry rfl (by decide +kernel) hI 0 rfl rfl (fun K h1 h2 h3 h4 h5 h6 G => ?_)
  subst h2
  exact xX12_thrown_e G M hf ⟨h3, by rw [h4, h6], h5⟩

set_option maxHeartbeats 4000000 in
set_option maxRecDepth 100000 in
theorem xX12_tide_79 {K : KT} {r : Int32 × Wd} (G : GK K cX12_tide RX12 3 3) (M : Main K.ks) (hr : RI K .int r.1 r.2) : ∀ (n : Nat) (v1 : Int32) (v2 : Int32) (w : Wd), fX12_tide_79 n v1 v2 w = some r → XW K 79 [some (.ref 148), some (.int v1), some (.int v2)] [] w := by
  intro n
  induction n with
  | zero =>
    intro v1 v2 w hf
    unfold fX12_tide_79 at hf
    cases hf
  | succ n ih =>
    intro v1 v2 w hf
    unfold fX12_tide_79 at hf
    refine x_iload_n G dX12_tide_79 rfl rfl ?_
    refine x_aload_n G dX12_tide_80 rfl rfl ?_
    refine x_getI G (kd148 M) 4 rfl cl12 rfl wf_X12_82 dX12_tide_81 ?_
    refine x_icmpge G (tgt := 111) dX12_tide_84 (by decide) hf (fun c_1 hf => ?_) (fun c_1 hf => ?_)
    · refine x_aload_n G dX12_tide_87 rfl rfl ?_
      refine x_getR G (kd148 M) 3 (b := 150) rfl cl12 rfl wf_X12_17 dX12_tide_88 ?_
      refine x_iload_n G dX12_tide_91 rfl rfl ?_
      refine x_aload_n G dX12_tide_92 rfl rfl ?_
      refine x_getR G (kd148 M) 31 (b := 167) rfl cl12 rfl wf_X12_69 dX12_tide_93 ?_
      refine x_bipush G (v := 100) dX12_tide_96 (by decide) ?_
      refine x_iload_n G dX12_tide_98 rfl rfl ?_
      refine x_imul G dX12_tide_99 ?_
      refine x_iload_n G dX12_tide_100 rfl rfl ?_
      refine x_iadd G dX12_tide_101 ?_
      refine x_lald G (kd167 M) dX12_tide_102 hf (fun hb_2 hf => ?_)
      refine x_l2i G dX12_tide_103 ?_
      refine x_iast G (kd150 M) dX12_tide_104 hf (fun hb_3 hf => ?_)
      refine nwr hf (fun w_4 hf => ?_)
      refine x_iinc G (lv' := [some (.ref 148), some (.int v1), some (.int (v2 + (1 : Int32)))]) (v := 1) dX12_tide_105 rfl (by decide) rfl rfl rfl ?_
      refine x_goto G (tgt := 79) dX12_tide_108 (by decide) ?_
      exact XW.sub (lv' := [some (.ref 148), some (.int v1), some (.int (v2 + (1 : Int32)))]) (And.intro rfl (And.intro rfl (And.intro rfl trivial))) (ih _ _ _ hf)
    · refine x_aload_n G dX12_tide_111 rfl rfl ?_
      refine x_getI G (kd148 M) 4 rfl cl12 rfl wf_X12_82 dX12_tide_112 ?_
      exact x_iretW G hf hr dX12_tide_115

set_option maxHeartbeats 4000000 in
set_option maxRecDepth 100000 in
theorem xX12_tide_e {K : KT} {v1 : Int32} {w : Wd} {r : Int32 × Wd} (G : GK K cX12_tide RX12 3 3) (M : Main K.ks) (hf : fX12_tide v1 w = some r) (hr : RI K .int r.1 r.2) : XW K 0 [some (.ref 148), some (.int v1), none] [] w := by
  unfold fX12_tide at hf
  refine x_aload_n G dX12_tide_0 rfl rfl ?_
  refine x_iconst G (v := 0) dX12_tide_1 (by decide) ?_
  refine x_putI G (kd148 M) 0 rfl cl12 rfl wf_X12_1 rfl rfl rfl dX12_tide_2 ?_
  refine nwr hf (fun w_1 hf => ?_)
  refine x_iload_n G dX12_tide_5 rfl rfl ?_
  obtain ⟨v_2, hv_2, hf⟩ := bnd hf
  refine x_staI G (As := [.int v1]) (mX12_isTape G.2.2.2.2.2.2.1 M hv_2) ms_X12_128 rfl rfl rfl rfl rfl dX12_tide_6 ?_
  refine x_ifneB G (tgt := 14) dX12_tide_9 (by decide) hf (fun c_3 hf => ?_) (fun c_3 hf => ?_)
  · refine x_aload_n G dX12_tide_14 rfl rfl ?_
    refine x_getR G (kd148 M) 29 (b := 165) rfl cl12 rfl wf_X12_63 dX12_tide_15 ?_
    refine x_iload_n G dX12_tide_18 rfl rfl ?_
    refine x_iald G (kd165 M) dX12_tide_19 hf (fun hb_4 hf => ?_)
    refine x_ifne G (tgt := 30) dX12_tide_20 (by decide) hf (fun c_5 hf => ?_) (fun c_5 hf => ?_)
    · refine x_aload_n G dX12_tide_23 rfl rfl ?_
      refine x_bipush G (v := -11) dX12_tide_24 (by decide) ?_
      obtain ⟨v_6, hv_6, hf⟩ := bnd hf
      refine x_virI G (As := [.int (-11 : Int32)]) (mX12_host G.2.2.2.2.2.2.1 M hv_6) mv_X12_131 (kd148 M) cl12 rfl rfl rfl rfl rfl dX12_tide_26 ?_
      exact x_iretW G hf hr dX12_tide_29
    · refine x_aload_n G dX12_tide_30 rfl rfl ?_
      refine x_getR G (kd148 M) 29 (b := 165) rfl cl12 rfl wf_X12_63 dX12_tide_31 ?_
      refine x_iload_n G dX12_tide_34 rfl rfl ?_
      refine x_iald0 G (kd165 M) dX12_tide_35 hb_4 ?_
      refine x_iconst G (v := 1) dX12_tide_36 (by decide) ?_
      refine x_icmpeq G (tgt := 47) dX12_tide_37 (by decide) hf (fun c_7 hf => ?_) (fun c_7 hf => ?_)
      · refine x_aload_n G dX12_tide_47 rfl rfl ?_
        refine x_getR G (kd148 M) 30 (b := 166) rfl cl12 rfl wf_X12_66 dX12_tide_48 ?_
        refine x_iload_n G dX12_tide_51 rfl rfl ?_
        refine x_iald0 G (kd166 M) dX12_tide_52 hb_4 ?_
        refine x_i2l G dX12_tide_53 ?_
        refine x_lconst G (v := 1) dX12_tide_54 (by decide) ?_
        refine x_ldc2 G wl_X12_134 dX12_tide_55 ?_
        obtain ⟨v_8, hv_8, hf⟩ := bnd hf
        refine x_staI G (As := [.long ((ri w_1 166 v1).toInt64), .long (1 : Int64), .long (60 : Int64)]) (mX12_in G.2.2.2.2.2.2.1 M hv_8) ms_X12_93 rfl rfl rfl rfl rfl dX12_tide_58 ?_
        refine x_ifneB G (tgt := 67) dX12_tide_61 (by decide) hf (fun c_9 hf => ?_) (fun c_9 hf => ?_)
        · refine x_aload_n G dX12_tide_67 rfl rfl ?_
          refine x_aload_n G dX12_tide_68 rfl rfl ?_
          refine x_getR G (kd148 M) 30 (b := 166) rfl cl12 rfl wf_X12_66 dX12_tide_69 ?_
          refine x_iload_n G dX12_tide_72 rfl rfl ?_
          refine x_iald0 G (kd166 M) dX12_tide_73 hb_4 ?_
          refine x_putI G (kd148 M) 4 rfl cl12 rfl wf_X12_82 rfl rfl rfl dX12_tide_74 ?_
          refine nwr hf (fun w_10 hf => ?_)
          refine x_iconst G (v := 0) dX12_tide_77 (by decide) ?_
          refine x_istore_n G (lv' := [some (.ref 148), some (.int v1), some (.int (0 : Int32))]) dX12_tide_78 rfl rfl rfl rfl ?_
          exact XW.sub (lv' := [some (.ref 148), some (.int v1), some (.int (0 : Int32))]) (And.intro rfl (And.intro rfl (And.intro rfl trivial))) (xX12_tide_79 G M hr FU _ _ _ hf)
        · refine x_bipush G (v := -2) dX12_tide_64 (by decide) ?_
          exact x_iretW G hf hr dX12_tide_66
      · refine x_aload_n G dX12_tide_40 rfl rfl ?_
        refine x_bipush G (v := -12) dX12_tide_41 (by decide) ?_
        obtain ⟨v_11, hv_11, hf⟩ := bnd hf
        refine x_virI G (As := [.int (-12 : Int32)]) (mX12_host G.2.2.2.2.2.2.1 M hv_11) mv_X12_131 (kd148 M) cl12 rfl rfl rfl rfl rfl dX12_tide_43 ?_
        exact x_iretW G hf hr dX12_tide_46
  · refine x_iconst G (v := -1) dX12_tide_12 (by decide) ?_
    exact x_iretW G hf hr dX12_tide_13

theorem mX12_tide {l : Launch} {S : KS} {w : Wd} (hI : Inj S) (M : Main S) {v1 : Int32} {r : Int32 × Wd} (hf : fX12_tide v1 w = some r) : CI l yX12_tide cX12_tide 3 (some .int) 3 S [.ref 148, .int v1] w r.1 r.2 := by
  intro sz
  refine mk_entry rfl (by decide +kernel) hI 1 rfl rfl (fun K h1 h2 h3 h4 h5 h6 G => ?_)
  subst h2
  exact xX12_tide_e G M hf ⟨h3, by rw [h4, h6], h5⟩

set_option maxHeartbeats 4000000 in
set_option maxRecDepth 100000 in
theorem xX12_toss_52 {K : KT} {r : Int32 × Wd} (G : GK K cX12_toss RX12 4 3) (M : Main K.ks) (hr : RI K .int r.1 r.2) : ∀ (n : Nat) (v1 : Int32) (v2 : Int32) (v3 : Int32) (w : Wd), fX12_toss_52 n v1 v2 v3 w = some r → XW K 52 [some (.ref 148), some (.int v1), some (.int v2), some (.int v3)] [] w := by
  intro n
  induction n with
  | zero =>
    intro v1 v2 v3 w hf
    unfold fX12_toss_52 at hf
    cases hf
  | succ n ih =>
    intro v1 v2 v3 w hf
    unfold fX12_toss_52 at hf
    refine x_iload_n G dX12_toss_52 rfl rfl ?_
    refine x_bipush G (v := 100) dX12_toss_53 (by decide) ?_
    refine x_icmpge G (tgt := 93) dX12_toss_55 (by decide) hf (fun c_1 hf => ?_) (fun c_1 hf => ?_)
    · refine x_iload_n G dX12_toss_58 rfl rfl ?_
      refine x_aload_n G dX12_toss_59 rfl rfl ?_
      refine x_getR G (kd148 M) 32 (b := 168) rfl cl12 rfl wf_X12_73 dX12_toss_60 ?_
      refine x_sipush G (v := 4340) dX12_toss_63 (by decide) ?_
      refine x_iload_n G dX12_toss_66 rfl rfl ?_
      refine x_imul G dX12_toss_67 ?_
      refine x_bipush G (v := 15) dX12_toss_68 (by decide) ?_
      refine x_iload_n G dX12_toss_70 rfl rfl ?_
      refine x_imul G dX12_toss_71 ?_
      refine x_iadd G dX12_toss_72 ?_
      refine x_bipush G (v := 11) dX12_toss_73 (by decide) ?_
      refine x_iadd G dX12_toss_75 ?_
      refine x_iald G (kd168 M) dX12_toss_76 hf (fun hb_2 hf => ?_)
      refine x_ifle G (tgt := 84) dX12_toss_77 (by decide) hf (fun c_3 hf => ?_) (fun c_3 hf => ?_)
      · refine x_iconst G (v := 1) dX12_toss_80 (by decide) ?_
        refine x_goto G (tgt := 85) dX12_toss_81 (by decide) ?_
        refine x_iadd G dX12_toss_85 ?_
        refine x_istore_n G (lv' := [some (.ref 148), some (.int v1), some (.int (v2 + (1 : Int32))), some (.int v3)]) dX12_toss_86 rfl rfl rfl rfl ?_
        refine x_iinc G (lv' := [some (.ref 148), some (.int v1), some (.int (v2 + (1 : Int32))), some (.int (v3 + (1 : Int32)))]) (v := 1) dX12_toss_87 rfl (by decide) rfl rfl rfl ?_
        refine x_goto G (tgt := 52) dX12_toss_90 (by decide) ?_
        exact XW.sub (lv' := [some (.ref 148), some (.int v1), some (.int (v2 + (1 : Int32))), some (.int (v3 + (1 : Int32)))]) (And.intro rfl (And.intro rfl (And.intro rfl (And.intro rfl trivial)))) (ih _ _ _ _ hf)
      · refine x_iconst G (v := 0) dX12_toss_84 (by decide) ?_
        refine x_iadd G dX12_toss_85 ?_
        refine x_istore_n G (lv' := [some (.ref 148), some (.int v1), some (.int (v2 + (0 : Int32))), some (.int v3)]) dX12_toss_86 rfl rfl rfl rfl ?_
        refine x_iinc G (lv' := [some (.ref 148), some (.int v1), some (.int (v2 + (0 : Int32))), some (.int (v3 + (1 : Int32)))]) (v := 1) dX12_toss_87 rfl (by decide) rfl rfl rfl ?_
        refine x_goto G (tgt := 52) dX12_toss_90 (by decide) ?_
        exact XW.sub (lv' := [some (.ref 148), some (.int v1), some (.int (v2 + (0 : Int32))), some (.int (v3 + (1 : Int32)))]) (And.intro rfl (And.intro rfl (And.intro rfl (And.intro rfl trivial)))) (ih _ _ _ _ hf)
    · refine x_iload_n G dX12_toss_93 rfl rfl ?_
      refine x_ifne G (tgt := 106) dX12_toss_94 (by decide) hf (fun c_4 hf => ?_) (fun c_4 hf => ?_)
      · refine x_aload_n G dX12_toss_97 rfl rfl ?_
        refine x_bipush G (v := -15) dX12_toss_98 (by decide) ?_
        obtain ⟨v_5, hv_5, hf⟩ := bnd hf
        refine x_virI G (As := [.int (-15 : Int32)]) (mX12_host G.2.2.2.2.2.2.1 M hv_5) mv_X12_131 (kd148 M) cl12 rfl rfl rfl rfl rfl dX12_toss_100 ?_
        refine x_goto G (tgt := 107) dX12_toss_103 (by decide) ?_
        exact x_iretW G hf hr dX12_toss_107
      · refine x_iload_n G dX12_toss_106 rfl rfl ?_
        exact x_iretW G hf hr dX12_toss_107

set_option maxHeartbeats 4000000 in
set_option maxRecDepth 100000 in
theorem xX12_toss_e {K : KT} {v1 : Int32} {w : Wd} {r : Int32 × Wd} (G : GK K cX12_toss RX12 4 3) (M : Main K.ks) (hf : fX12_toss v1 w = some r) (hr : RI K .int r.1 r.2) : XW K 0 [some (.ref 148), some (.int v1), none, none] [] w := by
  unfold fX12_toss at hf
  refine x_aload_n G dX12_toss_0 rfl rfl ?_
  refine x_iconst G (v := 0) dX12_toss_1 (by decide) ?_
  refine x_putI G (kd148 M) 0 rfl cl12 rfl wf_X12_1 rfl rfl rfl dX12_toss_2 ?_
  refine nwr hf (fun w_1 hf => ?_)
  refine x_iload_n G dX12_toss_5 rfl rfl ?_
  obtain ⟨v_2, hv_2, hf⟩ := bnd hf
  refine x_staI G (As := [.int v1]) (mX12_isTape G.2.2.2.2.2.2.1 M hv_2) ms_X12_128 rfl rfl rfl rfl rfl dX12_toss_6 ?_
  refine x_ifneB G (tgt := 14) dX12_toss_9 (by decide) hf (fun c_3 hf => ?_) (fun c_3 hf => ?_)
  · refine x_aload_n G dX12_toss_14 rfl rfl ?_
    refine x_getR G (kd148 M) 29 (b := 165) rfl cl12 rfl wf_X12_63 dX12_toss_15 ?_
    refine x_iload_n G dX12_toss_18 rfl rfl ?_
    refine x_iald G (kd165 M) dX12_toss_19 hf (fun hb_4 hf => ?_)
    refine x_ifne G (tgt := 30) dX12_toss_20 (by decide) hf (fun c_5 hf => ?_) (fun c_5 hf => ?_)
    · refine x_aload_n G dX12_toss_23 rfl rfl ?_
      refine x_bipush G (v := -11) dX12_toss_24 (by decide) ?_
      obtain ⟨v_6, hv_6, hf⟩ := bnd hf
      refine x_virI G (As := [.int (-11 : Int32)]) (mX12_host G.2.2.2.2.2.2.1 M hv_6) mv_X12_131 (kd148 M) cl12 rfl rfl rfl rfl rfl dX12_toss_26 ?_
      exact x_iretW G hf hr dX12_toss_29
    · refine x_aload_n G dX12_toss_30 rfl rfl ?_
      refine x_getR G (kd148 M) 29 (b := 165) rfl cl12 rfl wf_X12_63 dX12_toss_31 ?_
      refine x_iload_n G dX12_toss_34 rfl rfl ?_
      refine x_iald0 G (kd165 M) dX12_toss_35 hb_4 ?_
      refine x_bipush G (v := 6) dX12_toss_36 (by decide) ?_
      refine x_icmpeq G (tgt := 48) dX12_toss_38 (by decide) hf (fun c_7 hf => ?_) (fun c_7 hf => ?_)
      · refine x_iconst G (v := 0) dX12_toss_48 (by decide) ?_
        refine x_istore_n G (lv' := [some (.ref 148), some (.int v1), some (.int (0 : Int32)), none]) dX12_toss_49 rfl rfl rfl rfl ?_
        refine x_iconst G (v := 0) dX12_toss_50 (by decide) ?_
        refine x_istore_n G (lv' := [some (.ref 148), some (.int v1), some (.int (0 : Int32)), some (.int (0 : Int32))]) dX12_toss_51 rfl rfl rfl rfl ?_
        exact XW.sub (lv' := [some (.ref 148), some (.int v1), some (.int (0 : Int32)), some (.int (0 : Int32))]) (And.intro rfl (And.intro rfl (And.intro rfl (And.intro rfl trivial)))) (xX12_toss_52 G M hr FU _ _ _ _ hf)
      · refine x_aload_n G dX12_toss_41 rfl rfl ?_
        refine x_bipush G (v := -12) dX12_toss_42 (by decide) ?_
        obtain ⟨v_8, hv_8, hf⟩ := bnd hf
        refine x_virI G (As := [.int (-12 : Int32)]) (mX12_host G.2.2.2.2.2.2.1 M hv_8) mv_X12_131 (kd148 M) cl12 rfl rfl rfl rfl rfl dX12_toss_44 ?_
        exact x_iretW G hf hr dX12_toss_47
  · refine x_iconst G (v := -1) dX12_toss_12 (by decide) ?_
    exact x_iretW G hf hr dX12_toss_13

theorem mX12_toss {l : Launch} {S : KS} {w : Wd} (hI : Inj S) (M : Main S) {v1 : Int32} {r : Int32 × Wd} (hf : fX12_toss v1 w = some r) : CI l yX12_toss cX12_toss 4 (some .int) 3 S [.ref 148, .int v1] w r.1 r.2 := by
  intro sz
  refine mk_entry rfl (by decide +kernel) hI 2 rfl rfl (fun K h1 h2 h3 h4 h5 h6 G => ?_)
  subst h2
  exact xX12_toss_e G M hf ⟨h3, by rw [h4, h6], h5⟩

set_option maxHeartbeats 4000000 in
set_option maxRecDepth 100000 in
theorem xX12_way_e {K : KT} {v1 : Int32} {w : Wd} {r : Int32 × Wd} (G : GK K cX12_way RX12 2 2) (M : Main K.ks) (hf : fX12_way v1 w = some r) (hr : RI K .int r.1 r.2) : XW K 0 [some (.ref 148), some (.int v1)] [] w := by
  unfold fX12_way at hf
  refine x_aload_n G dX12_way_0 rfl rfl ?_
  refine x_iconst G (v := 0) dX12_way_1 (by decide) ?_
  refine x_putI G (kd148 M) 0 rfl cl12 rfl wf_X12_1 rfl rfl rfl dX12_way_2 ?_
  refine nwr hf (fun w_1 hf => ?_)
  refine x_iload_n G dX12_way_5 rfl rfl ?_
  refine x_i2l G dX12_way_6 ?_
  refine x_lconst G (v := 0) dX12_way_7 (by decide) ?_
  refine x_aload_n G dX12_way_8 rfl rfl ?_
  refine x_getI G (kd148 M) 6 rfl cl12 rfl wf_X12_85 dX12_way_9 ?_
  refine x_iconst G (v := 1) dX12_way_12 (by decide) ?_
  refine x_isub G dX12_way_13 ?_
  refine x_i2l G dX12_way_14 ?_
  obtain ⟨v_2, hv_2, hf⟩ := bnd hf
  refine x_staI G (As := [.long v1.toInt64, .long (0 : Int64), .long (((w_1.1 148 6) - (1 : Int32)).toInt64)]) (mX12_in G.2.2.2.2.2.2.1 M hv_2) ms_X12_93 rfl rfl rfl rfl rfl dX12_way_15 ?_
  refine x_ifeqB G (tgt := 30) dX12_way_18 (by decide) hf (fun c_3 hf => ?_) (fun c_3 hf => ?_)
  · refine x_aload_n G dX12_way_21 rfl rfl ?_
    refine x_getR G (kd148 M) 5 (b := 151) rfl cl12 rfl wf_X12_20 dX12_way_22 ?_
    refine x_iload_n G dX12_way_25 rfl rfl ?_
    refine x_iald G (kd151 M) dX12_way_26 hf (fun hb_4 hf => ?_)
    refine x_goto G (tgt := 32) dX12_way_27 (by decide) ?_
    exact x_iretW G hf hr dX12_way_32
  · refine x_bipush G (v := -9) dX12_way_30 (by decide) ?_
    exact x_iretW G hf hr dX12_way_32

theorem mX12_way {l : Launch} {S : KS} {w : Wd} (hI : Inj S) (M : Main S) {v1 : Int32} {r : Int32 × Wd} (hf : fX12_way v1 w = some r) : CI l yX12_way cX12_way 2 (some .int) 2 S [.ref 148, .int v1] w r.1 r.2 := by
  intro sz
  refine mk_entry rfl (by decide +kernel) hI 0 rfl rfl (fun K h1 h2 h3 h4 h5 h6 G => ?_)
  subst h2
  exact xX12_way_e G M hf ⟨h3, by rw [h4, h6], h5⟩

set_option maxHeartbeats 4000000 in
set_option maxRecDepth 100000 in
theorem xX12_window_35 {K : KT} {r : Int32 × Wd} (G : GK K cX12_window RX12 4 3) (M : Main K.ks) (hr : RI K .int r.1 r.2) : ∀ (n : Nat) (v1 : Int32) (v2 : Int32) (v3 : Int32) (w : Wd), fX12_window_35 n v1 v2 v3 w = some r → XW K 35 [some (.ref 148), some (.int v1), some (.int v2), some (.int v3)] [] w := by
  intro n
  induction n with
  | zero =>
    intro v1 v2 v3 w hf
    unfold fX12_window_35 at hf
    cases hf
  | succ n ih =>
    intro v1 v2 v3 w hf
    unfold fX12_window_35 at hf
    refine x_iload_n G dX12_window_35 rfl rfl ?_
    refine x_iload_n G dX12_window_36 rfl rfl ?_
    refine x_bipush G (v := 100) dX12_window_37 (by decide) ?_
    refine x_iadd G dX12_window_39 ?_
    refine x_icmpge G (tgt := 68) dX12_window_40 (by decide) hf (fun c_1 hf => ?_) (fun c_1 hf => ?_)
    · refine x_aload_n G dX12_window_43 rfl rfl ?_
      refine x_iload_n G dX12_window_44 rfl rfl ?_
      obtain ⟨v_2, hv_2, hf⟩ := bnd hf
      refine x_virI G (As := [.int v3]) (mX12_levelAt G.2.2.2.2.2.2.1 M hv_2) mv_X12_138 (kd148 M) cl12 rfl rfl rfl rfl rfl dX12_window_45 ?_
      refine x_iload_n G dX12_window_48 rfl rfl ?_
      refine x_icmpge G (tgt := 62) dX12_window_49 (by decide) hf (fun c_3 hf => ?_) (fun c_3 hf => ?_)
      · refine x_aload_n G dX12_window_52 rfl rfl ?_
        refine x_iload_n G dX12_window_53 rfl rfl ?_
        obtain ⟨v_4, hv_4, hf⟩ := bnd hf
        refine x_virI G (As := [.int v3]) (mX12_isBack G.2.2.2.2.2.2.1 M hv_4) mv_X12_143 (kd148 M) cl12 rfl rfl rfl rfl rfl dX12_window_54 ?_
        refine x_ifneB G (tgt := 62) dX12_window_57 (by decide) hf (fun c_5 hf => ?_) (fun c_5 hf => ?_)
        · refine x_iinc G (lv' := [some (.ref 148), some (.int v1), some (.int v2), some (.int (v3 + (1 : Int32)))]) (v := 1) dX12_window_62 rfl (by decide) rfl rfl rfl ?_
          refine x_goto G (tgt := 35) dX12_window_65 (by decide) ?_
          exact XW.sub (lv' := [some (.ref 148), some (.int v1), some (.int v2), some (.int (v3 + (1 : Int32)))]) (And.intro rfl (And.intro rfl (And.intro rfl (And.intro rfl trivial)))) (ih _ _ _ _ hf)
        · refine x_iload_n G dX12_window_60 rfl rfl ?_
          exact x_iretW G hf hr dX12_window_61
      · refine x_iinc G (lv' := [some (.ref 148), some (.int v1), some (.int v2), some (.int (v3 + (1 : Int32)))]) (v := 1) dX12_window_62 rfl (by decide) rfl rfl rfl ?_
        refine x_goto G (tgt := 35) dX12_window_65 (by decide) ?_
        exact XW.sub (lv' := [some (.ref 148), some (.int v1), some (.int v2), some (.int (v3 + (1 : Int32)))]) (And.intro rfl (And.intro rfl (And.intro rfl (And.intro rfl trivial)))) (ih _ _ _ _ hf)
    · refine x_bipush G (v := -3) dX12_window_68 (by decide) ?_
      exact x_iretW G hf hr dX12_window_70

set_option maxHeartbeats 4000000 in
set_option maxRecDepth 100000 in
theorem xX12_window_e {K : KT} {v1 : Int32} {v2 : Int32} {w : Wd} {r : Int32 × Wd} (G : GK K cX12_window RX12 4 3) (M : Main K.ks) (hf : fX12_window v1 v2 w = some r) (hr : RI K .int r.1 r.2) : XW K 0 [some (.ref 148), some (.int v1), some (.int v2), none] [] w := by
  unfold fX12_window at hf
  refine x_aload_n G dX12_window_0 rfl rfl ?_
  refine x_iconst G (v := 0) dX12_window_1 (by decide) ?_
  refine x_putI G (kd148 M) 0 rfl cl12 rfl wf_X12_1 rfl rfl rfl dX12_window_2 ?_
  refine nwr hf (fun w_1 hf => ?_)
  refine x_iload_n G dX12_window_5 rfl rfl ?_
  refine x_i2l G dX12_window_6 ?_
  refine x_lconst G (v := 0) dX12_window_7 (by decide) ?_
  refine x_ldc2 G wl_X12_141 dX12_window_8 ?_
  obtain ⟨v_2, hv_2, hf⟩ := bnd hf
  refine x_staI G (As := [.long v1.toInt64, .long (0 : Int64), .long (99999 : Int64)]) (mX12_in G.2.2.2.2.2.2.1 M hv_2) ms_X12_93 rfl rfl rfl rfl rfl dX12_window_11 ?_
  refine x_ifeqB G (tgt := 31) dX12_window_14 (by decide) hf (fun c_3 hf => ?_) (fun c_3 hf => ?_)
  · refine x_iload_n G dX12_window_17 rfl rfl ?_
    refine x_i2l G dX12_window_18 ?_
    refine x_ldc2 G wl_X12_146 dX12_window_19 ?_
    refine x_ldc2 G wl_X12_148 dX12_window_22 ?_
    obtain ⟨v_4, hv_4, hf⟩ := bnd hf
    refine x_staI G (As := [.long v2.toInt64, .long (-128 : Int64), .long (127 : Int64)]) (mX12_in G.2.2.2.2.2.2.1 M hv_4) ms_X12_93 rfl rfl rfl rfl rfl dX12_window_25 ?_
    refine x_ifneB G (tgt := 33) dX12_window_28 (by decide) hf (fun c_5 hf => ?_) (fun c_5 hf => ?_)
    · refine x_iload_n G dX12_window_33 rfl rfl ?_
      refine x_istore_n G (lv' := [some (.ref 148), some (.int v1), some (.int v2), some (.int v1)]) dX12_window_34 rfl rfl rfl rfl ?_
      exact XW.sub (lv' := [some (.ref 148), some (.int v1), some (.int v2), some (.int v1)]) (And.intro rfl (And.intro rfl (And.intro rfl (And.intro rfl trivial)))) (xX12_window_35 G M hr FU _ _ _ _ hf)
    · refine x_iconst G (v := -1) dX12_window_31 (by decide) ?_
      exact x_iretW G hf hr dX12_window_32
  · refine x_iconst G (v := -1) dX12_window_31 (by decide) ?_
    exact x_iretW G hf hr dX12_window_32

theorem mX12_window {l : Launch} {S : KS} {w : Wd} (hI : Inj S) (M : Main S) {v1 : Int32} {v2 : Int32} {r : Int32 × Wd} (hf : fX12_window v1 v2 w = some r) : CI l yX12_window cX12_window 4 (some .int) 3 S [.ref 148, .int v1, .int v2] w r.1 r.2 := by
  intro sz
  refine mk_entry rfl (by decide +kernel) hI 1 rfl rfl (fun K h1 h2 h3 h4 h5 h6 G => ?_)
  subst h2
  exact xX12_window_e G M hf ⟨h3, by rw [h4, h6], h5⟩

